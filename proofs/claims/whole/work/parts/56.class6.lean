section C6
variable {G : GE} {I N : Ints} {b : Bool}
/-- all that later calls see of the class, and the model's cells, are as they were -/
def SmC (I I' : Ints) : Prop := ∀ c, (c < 43 ∨ c = 80 ∨ c = 86 ∨ 91 ≤ c) → I' c = I c
theorem SmC.of {I I' : Ints} (h : ∀ c, (c < 44 ∨ 57 < c) → I' c = I c) : SmC I I' := fun c hc => h c (by omega)
theorem SmC.of90 {I I' : Ints} (h : ∀ c, (c < 44 ∨ 57 < c) → c ≠ 90 → I' c = I c) : SmC I I' := fun c hc => h c (by omega) (by omega)
theorem SmC.rfl' {I : Ints} : SmC I I := fun _ _ => rfl
abbrev Xs (I : Ints) (F : Int) : Int → Ints → Bool → Prop := fun z I' _ => z = F ∧ SmC I I'
theorem c_villageOf (hw : WN (N 112)) (hl : LN I (N 112)) (v w : Int) : MtI G yX8_villageOf cX8_villageOf 3 (some .int) 2 [vr 0, vi v, vi w] I b (Xs I (F_villageOf N v w)) := by
  refine mt_enterI (own := RX8) (ls0 := [vr 0, vi v, vi w]) rfl (by decide +kernel) (Nat.le_of_ble_eq_true rfl) rfl rfl (fun J hJ hR => ?_)
  have hn := hw.nv
  unfold F_villageOf at hR
  have e0 := hl.1.1
  refine mj_aload_n hJ dX8_villageOf_0 rfl ?_
  refine mj_iload_n hJ dX8_villageOf_1 rfl ?_
  refine mk_Vp1 hJ dX8_villageOf_2 cw_X8_101 rfl rfl rfl rfl (Nat.le_of_ble_eq_true rfl) (by first | decide | omega) (c_isVillage v (by rw [e0]; exact hn.1) (by rw [e0]; exact hn.2)) ?_
  rw [e0]
  by_cases h : 0 ≤ v ∧ v < N 112 0
  · rw [if_pos h]
    refine mj_if_eq (tgt := 31) hJ dX8_villageOf_5 (by decide) (fun hyes => absurd hyes (by decide)) (fun _ => ?_)
    refine mj_iload_n hJ dX8_villageOf_8 rfl ?_
    refine mj_iconst hJ dX8_villageOf_9 (by decide) ?_
    refine mj_iconst hJ dX8_villageOf_10 (by decide) ?_
    refine mk_Sp3 hJ dX8_villageOf_11 cw_X8_105 rfl (Nat.le_of_ble_eq_true rfl) (by first | decide | omega) (c_within w 0 5) ?_
    by_cases h2 : 0 ≤ w ∧ w ≤ 5
    · rw [if_pos ⟨h, h2⟩] at hR
      rw [if_pos h2]
      refine mj_if_eq (tgt := 31) hJ dX8_villageOf_14 (by decide) (fun hyes => absurd hyes (by decide)) (fun _ => ?_)
      refine mj_aload_n hJ dX8_villageOf_17 rfl ?_
      refine mk_getR hJ dX8_villageOf_18 fw_X8_12 rfl (by decide) rfl rfl ?_
      refine mk_getR hJ dX8_villageOf_21 fw_X8_109 rfl (by decide) rfl rfl ?_
      refine mj_iload_n hJ dX8_villageOf_24 rfl ?_
      refine mk_aald hJ dX8_villageOf_25 rfl (Or.inl rfl) (by omega) (by omega) (gr_2 (by omega) (by omega)).1 ?_
      refine mj_iload_n hJ dX8_villageOf_26 rfl ?_
      refine mk_iald hJ dX8_villageOf_27 (gr_2 (b := true) (by omega) (by omega)).2 (by omega) (by omega) ?_
      rw [hl.fact h.1 h.2 h2.1 (by omega)]
      refine mj_goto (tgt := 32) hJ dX8_villageOf_28 (by decide) ?_
      exact hR _ _ _ _ _ dX8_villageOf_32 nar_i ⟨rfl, SmC.rfl'⟩
    · rw [if_neg (fun q => h2 q.2)] at hR
      rw [if_neg h2]
      refine mj_if_eq (tgt := 31) hJ dX8_villageOf_14 (by decide) (fun _ => ?_) (fun hno => absurd rfl hno)
      refine mj_iconst hJ dX8_villageOf_31 (by decide) ?_
      exact hR _ _ _ _ _ dX8_villageOf_32 nar_i ⟨rfl, SmC.rfl'⟩
  · rw [if_neg (fun q => h q.1)] at hR
    rw [if_neg h]
    refine mj_if_eq (tgt := 31) hJ dX8_villageOf_5 (by decide) (fun _ => ?_) (fun hno => absurd rfl hno)
    refine mj_iconst hJ dX8_villageOf_31 (by decide) ?_
    exact hR _ _ _ _ _ dX8_villageOf_32 nar_i ⟨rfl, SmC.rfl'⟩
theorem c_worth (hw : WN (N 112)) (hl : LN I (N 112)) (v w : Int) : MtI G yX8_worth cX8_worth 3 (some .int) 2 [vr 0, vi v, vi w] I b (Xs I (F_worth N v w)) := by
  refine mt_enterI (own := RX8) (ls0 := [vr 0, vi v, vi w]) rfl (by decide +kernel) (Nat.le_of_ble_eq_true rfl) rfl rfl (fun J hJ hR => ?_)
  have hn := hw.nv
  unfold F_worth at hR
  have e0 := hl.1.1
  refine mj_aload_n hJ dX8_worth_0 rfl ?_
  refine mj_iload_n hJ dX8_worth_1 rfl ?_
  refine mk_Vp1 hJ dX8_worth_2 cw_X8_101 rfl rfl rfl rfl (Nat.le_of_ble_eq_true rfl) (by first | decide | omega) (c_isVillage v (by rw [e0]; exact hn.1) (by rw [e0]; exact hn.2)) ?_
  rw [e0]
  by_cases h : 0 ≤ v ∧ v < N 112 0
  · rw [if_pos h]
    refine mj_if_eq (tgt := 32) hJ dX8_worth_5 (by decide) (fun hyes => absurd hyes (by decide)) (fun _ => ?_)
    refine mj_iload_n hJ dX8_worth_8 rfl ?_
    refine mj_iconst hJ dX8_worth_9 (by decide) ?_
    refine mj_bipush hJ dX8_worth_10 (by decide) ?_
    refine mk_Sp3 hJ dX8_worth_12 cw_X8_105 rfl (Nat.le_of_ble_eq_true rfl) (by first | decide | omega) (c_within w 0 12) ?_
    by_cases h2 : 0 ≤ w ∧ w ≤ 12
    · rw [if_pos ⟨h, h2⟩] at hR
      rw [if_pos h2]
      refine mj_if_eq (tgt := 32) hJ dX8_worth_15 (by decide) (fun hyes => absurd hyes (by decide)) (fun _ => ?_)
      refine mj_aload_n hJ dX8_worth_18 rfl ?_
      refine mk_getR hJ dX8_worth_19 fw_X8_12 rfl (by decide) rfl rfl ?_
      refine mk_getR hJ dX8_worth_22 fw_X8_129 rfl (by decide) rfl rfl ?_
      refine mj_iload_n hJ dX8_worth_25 rfl ?_
      refine mk_aald hJ dX8_worth_26 rfl (Or.inl rfl) (by omega) (by omega) (gr_9 (by omega) (by omega)).1 ?_
      refine mj_iload_n hJ dX8_worth_27 rfl ?_
      refine mk_iald hJ dX8_worth_28 (gr_9 (b := true) (by omega) (by omega)).2 (by omega) (by omega) ?_
      rw [hl.tog h.1 h.2 h2.1 h2.2]
      refine mj_goto (tgt := 33) hJ dX8_worth_29 (by decide) ?_
      exact hR _ _ _ _ _ dX8_worth_33 nar_i ⟨rfl, SmC.rfl'⟩
    · rw [if_neg (fun q => h2 q.2)] at hR
      rw [if_neg h2]
      refine mj_if_eq (tgt := 32) hJ dX8_worth_15 (by decide) (fun _ => ?_) (fun hno => absurd rfl hno)
      refine mj_iconst hJ dX8_worth_32 (by decide) ?_
      exact hR _ _ _ _ _ dX8_worth_33 nar_i ⟨rfl, SmC.rfl'⟩
  · rw [if_neg (fun q => h q.1)] at hR
    rw [if_neg h]
    refine mj_if_eq (tgt := 32) hJ dX8_worth_5 (by decide) (fun _ => ?_) (fun hno => absurd rfl hno)
    refine mj_iconst hJ dX8_worth_32 (by decide) ?_
    exact hR _ _ _ _ _ dX8_worth_33 nar_i ⟨rfl, SmC.rfl'⟩
theorem c_best (hw : WN (N 112)) (hl : LN I (N 112)) (w : Int) : MtI G yX8_best cX8_best 2 (some .int) 5 [vr 0, vi w] I b (Xs I (F_best N w)) := by
  refine mt_enterI (own := RX8) (ls0 := [vr 0, vi w]) rfl (by decide +kernel) (Nat.le_of_ble_eq_true rfl) rfl rfl (fun J hJ hR => ?_)
  unfold F_best at hR
  refine mj_iload_n hJ dX8_best_0 rfl ?_
  refine mk_Sp1 hJ dX8_best_1 cw_X8_132 rfl (Nat.le_of_ble_eq_true rfl) (by first | decide | omega) (c_isWet w) ?_
  by_cases h : 0 ≤ w ∧ w ≤ 20
  · rw [if_pos h] at hR ⊢
    refine mj_if_eq (tgt := 15) hJ dX8_best_4 (by decide) (fun hyes => absurd hyes (by decide)) (fun _ => ?_)
    refine mj_aload_n hJ dX8_best_7 rfl ?_
    refine mj_iload_n hJ dX8_best_8 rfl ?_
    refine mk_Vi1 hJ dX8_best_9 cw_X8_135 rfl rfl rfl rfl (Nat.le_of_ble_eq_true rfl) (by first | decide | omega) (c_bestOf hw hl w h.1 h.2) (fun z I1 b1 hq9 => ?_)
    obtain ⟨rfl, rfl, hf, -⟩ := hq9
    refine mj_goto (tgt := 17) hJ dX8_best_12 (by decide) ?_
    exact hR _ _ _ _ _ dX8_best_17 nar_i ⟨rfl, SmC.of hf⟩
  · rw [if_neg h] at hR ⊢
    refine mj_if_eq (tgt := 15) hJ dX8_best_4 (by decide) (fun _ => ?_) (fun hno => absurd rfl hno)
    refine mj_ldc (z := -1000001) hJ dX8_best_15 (by decide) ct_X8_138 ?_
    exact hR _ _ _ _ _ dX8_best_17 nar_i ⟨rfl, SmC.rfl'⟩
theorem c_use (hw : WN (N 112)) (hl : LN I (N 112)) (v w : Int) : MtI G yX8_use cX8_use 3 (some .int) 5 [vr 0, vi v, vi w] I b (Xs I (F_use N v w)) := by
  refine mt_enterI (own := RX8) (ls0 := [vr 0, vi v, vi w]) rfl (by decide +kernel) (Nat.le_of_ble_eq_true rfl) rfl rfl (fun J hJ hR => ?_)
  have hn := hw.nv
  unfold F_use at hR
  have e0 := hl.1.1
  refine mj_aload_n hJ dX8_use_0 rfl ?_
  refine mj_iload_n hJ dX8_use_1 rfl ?_
  refine mk_Vp1 hJ dX8_use_2 cw_X8_101 rfl rfl rfl rfl (Nat.le_of_ble_eq_true rfl) (by first | decide | omega) (c_isVillage v (by rw [e0]; exact hn.1) (by rw [e0]; exact hn.2)) ?_
  rw [e0]
  by_cases h : 0 ≤ v ∧ v < N 112 0
  · rw [if_pos h]
    refine mj_if_eq (tgt := 17) hJ dX8_use_5 (by decide) (fun hyes => absurd hyes (by decide)) (fun _ => ?_)
    refine mj_iload_n hJ dX8_use_8 rfl ?_
    refine mj_iconst hJ dX8_use_9 (by decide) ?_
    refine mj_iconst hJ dX8_use_10 (by decide) ?_
    refine mk_Sp3 hJ dX8_use_11 cw_X8_105 rfl (Nat.le_of_ble_eq_true rfl) (by first | decide | omega) (c_within w 0 2) ?_
    by_cases h2 : 0 ≤ w ∧ w ≤ 2
    · rw [if_pos ⟨h, h2⟩] at hR
      rw [if_pos h2]
      refine mj_if_ne (tgt := 20) hJ dX8_use_14 (by decide) (fun _ => ?_) (fun hno => absurd hno (by decide))
      refine mj_aload_n hJ dX8_use_20 rfl ?_
      refine mk_getR hJ dX8_use_21 fw_X8_26 rfl (by decide) rfl rfl ?_
      refine mj_aload_n hJ dX8_use_24 rfl ?_
      refine mk_getR hJ dX8_use_25 fw_X8_12 rfl (by decide) rfl rfl ?_
      refine mj_bipush hJ dX8_use_28 (by decide) ?_
      refine mk_Vv2 hJ dX8_use_30 cw_X8_139 rfl rfl rfl rfl (Nat.le_of_ble_eq_true rfl) (by first | decide | omega) (c_X7_followBest hw hl 10 (by decide) (by decide)) (fun I1 b1 hq9 => ?_)
      obtain ⟨rfl, hf, hB⟩ := hq9
      have hB := hB v h.1 h.2
      refine mj_iload_n hJ dX8_use_33 rfl ?_
      refine mj_if_ne (tgt := 47) hJ dX8_use_34 (by decide) (fun hx => ?_) (fun hx => ?_)
      · rw [if_neg hx] at hR
        refine mj_iload_n hJ dX8_use_47 rfl ?_
        refine mj_iconst hJ dX8_use_48 (by decide) ?_
        refine mj_icmp_ne (tgt := 64) hJ dX8_use_49 (by decide) (fun hy => ?_) (fun hy => ?_)
        · rw [if_neg hy] at hR
          refine mj_aload_n hJ dX8_use_64 rfl ?_
          refine mk_getR hJ dX8_use_65 fw_X8_26 rfl (by decide) rfl rfl ?_
          refine mk_getR hJ dX8_use_68 fw_X8_149 rfl (by decide) rfl rfl ?_
          refine mj_iload_n hJ dX8_use_71 rfl ?_
          refine mk_iald hJ dX8_use_72 rfl (by omega) (by omega) ?_
          rw [hB.2.2]
          exact hR _ _ _ _ _ dX8_use_73 nar_i ⟨rfl, SmC.of hf⟩
        · rw [if_pos hy] at hR
          refine mj_aload_n hJ dX8_use_52 rfl ?_
          refine mk_getR hJ dX8_use_53 fw_X8_26 rfl (by decide) rfl rfl ?_
          refine mk_getR hJ dX8_use_56 fw_X8_146 rfl (by decide) rfl rfl ?_
          refine mj_iload_n hJ dX8_use_59 rfl ?_
          refine mk_iald hJ dX8_use_60 rfl (by omega) (by omega) ?_
          rw [hB.2.1]
          refine mj_goto (tgt := 73) hJ dX8_use_61 (by decide) ?_
          exact hR _ _ _ _ _ dX8_use_73 nar_i ⟨rfl, SmC.of hf⟩
      · rw [if_pos hx] at hR
        refine mj_aload_n hJ dX8_use_37 rfl ?_
        refine mk_getR hJ dX8_use_38 fw_X8_26 rfl (by decide) rfl rfl ?_
        refine mk_getR hJ dX8_use_41 fw_X8_143 rfl (by decide) rfl rfl ?_
        refine mj_iload_n hJ dX8_use_44 rfl ?_
        refine mk_iald hJ dX8_use_45 rfl (by omega) (by omega) ?_
        rw [hB.1]
        exact hR _ _ _ _ _ dX8_use_46 nar_i ⟨rfl, SmC.of hf⟩
    · rw [if_neg (fun q => h2 q.2)] at hR
      rw [if_neg h2]
      refine mj_if_ne (tgt := 20) hJ dX8_use_14 (by decide) (fun hyes => absurd (by decide) hyes) (fun _ => ?_)
      refine mj_ldc (z := -1000001) hJ dX8_use_17 (by decide) ct_X8_138 ?_
      exact hR _ _ _ _ _ dX8_use_19 nar_i ⟨rfl, SmC.rfl'⟩
  · rw [if_neg (fun q => h q.1)] at hR
    rw [if_neg h]
    refine mj_if_eq (tgt := 17) hJ dX8_use_5 (by decide) (fun _ => ?_) (fun hno => absurd rfl hno)
    refine mj_ldc (z := -1000001) hJ dX8_use_17 (by decide) ct_X8_138 ?_
    exact hR _ _ _ _ _ dX8_use_19 nar_i ⟨rfl, SmC.rfl'⟩
theorem c_price (hw : WN (N 112)) (hl : LN I (N 112)) (v : Int) : MtI G yX8_price cX8_price 3 (some .int) 5 [vr 0, vi v] I b (Xs I (F_price N v)) := by
  refine mt_enterI (own := RX8) (ls0 := [vr 0, vi v, vu]) rfl (by decide +kernel) (Nat.le_of_ble_eq_true rfl) rfl rfl (fun J hJ hR => ?_)
  have hn := hw.nv
  unfold F_price at hR
  have e0 := hl.1.1
  refine mj_aload_n hJ dX8_price_0 rfl ?_
  refine mj_iload_n hJ dX8_price_1 rfl ?_
  refine mk_Vp1 hJ dX8_price_2 cw_X8_101 rfl rfl rfl rfl (Nat.le_of_ble_eq_true rfl) (by first | decide | omega) (c_isVillage v (by rw [e0]; exact hn.1) (by rw [e0]; exact hn.2)) ?_
  rw [e0]
  by_cases h : 0 ≤ v ∧ v < N 112 0
  · rw [if_pos h] at hR ⊢
    refine mj_if_ne (tgt := 11) hJ dX8_price_5 (by decide) (fun _ => ?_) (fun hno => absurd hno (by decide))
    refine mj_aload_n hJ dX8_price_11 rfl ?_
    refine mj_bipush hJ dX8_price_12 (by decide) ?_
    refine mk_Vi1 hJ dX8_price_14 cw_X8_135 rfl rfl rfl rfl (Nat.le_of_ble_eq_true rfl) (by first | decide | omega) (c_bestOf hw hl 10 (by decide) (by decide)) (fun z I1 b1 hq9 => ?_)
    obtain ⟨rfl, rfl, hf, hq⟩ := hq9
    have hb := infl_bd hw (v := v) (w := 10) h.1 (by omega) (by omega) (by omega)
    have hl1 : LN I1 (N 112) := LN.same hw hl (fun c c1 c2 => hf c (by omega))
    refine ms_istore_n (ls' := [_, _, _]) hJ dX8_price_17 (by decide) rfl rfl ?_
    refine mj_aload_n hJ dX8_price_18 rfl ?_
    refine mk_getR hJ dX8_price_19 fw_X8_26 rfl (by decide) rfl rfl ?_
    refine mk_getR hJ dX8_price_22 fw_X8_152 rfl (by decide) rfl rfl ?_
    refine mj_iload_n hJ dX8_price_25 rfl ?_
    refine mj_dup2 hJ dX8_price_26 ?_
    refine mk_iald hJ dX8_price_27 rfl (by omega) (by omega) ?_
    rw [hq v h.1 h.2]
    refine mj_iconst hJ dX8_price_28 (by decide) ?_
    first | refine ms_iadd hJ dX8_price_29 (by omega) ?_ | refine mj_iadd hJ dX8_price_29 ?_
    refine mk_iast hJ dX8_price_30 rfl (by omega) (by omega) ?_
    refine mj_aload_n hJ dX8_price_31 rfl ?_
    refine mk_getR hJ dX8_price_32 fw_X8_26 rfl (by decide) rfl rfl ?_
    refine mj_aload_n hJ dX8_price_35 rfl ?_
    refine mk_getR hJ dX8_price_36 fw_X8_12 rfl (by decide) rfl rfl ?_
    refine mj_iconst hJ dX8_price_39 (by decide) ?_
    refine mj_aload_n hJ dX8_price_40 rfl ?_
    refine mk_getR hJ dX8_price_41 fw_X8_12 rfl (by decide) rfl rfl ?_
    refine mk_getI (j' := 0) hJ dX8_price_44 fw_X8_94 rfl (by decide) rfl rfl ?_
    rw [upI_ne (by decide), hl1.1.1]
    refine mj_iconst hJ dX8_price_47 (by decide) ?_
    first | refine ms_isub hJ dX8_price_48 (by omega) ?_ | refine mj_isub hJ dX8_price_48 ?_
    obtain ⟨q', hq'⟩ : ∃ q' : Int → Int, q' = fun i => if i = v then infl (N 112) 10 v + 1 else infl (N 112) 10 i := ⟨_, rfl⟩
    have e' : ∀ i, q' i = if i = v then infl (N 112) 10 v + 1 else infl (N 112) 10 i := fun i => by rw [hq']
    have hl2 : LN (upI I1 44 v (infl (N 112) 10 v + 1)) (N 112) := LN.same hw hl1 (fun c c1 c2 => upI_ne (by omega))
    have hs0 := sg_infl hw (w := 10) (by omega) (by omega) (a := 0) (l := N 112 0 - 1) (by omega) (by omega) (by omega)
    have hs : sg q' 0 (N 112 0 - 1) ≤ 148 := by
      have h6 := sg_bd (q := q') (a := 0) (B := 13) (N 112 0).toNat (N 112 0 - 1) (by omega) (fun i x y => by
        rw [e']
        have f1 := (hw.fact (v := v) h.1 (by omega)).1
        have f2 := (hw.fact (v := i) x (by omega)).1
        rw [infl_10, infl_10]
        split <;> omega)
      omega
    have hMM := c_mostMadeQ (G := G) (b := b1) hw hl2 0 (N 112 0 - 1) q' (fun i x y => by
      rw [upI_at, e']
      split
      · rfl
      · exact hq i x (by omega)) (Int.le_refl _) (by omega) (by omega) (fun i x y => by
      rw [e']
      have := infl_bd hw (v := i) (w := 10) x (by omega) (by omega) (by omega)
      split <;> omega) hs
    refine mk_Vi3 hJ dX8_price_49 cw_X8_155 rfl rfl rfl rfl (Nat.le_of_ble_eq_true rfl) (by first | decide | omega) (hMM) (fun z I2 b2 hq9 => ?_)
    obtain ⟨rfl, rfl, hf2, -⟩ := hq9
    have eg : gQ (N 112) q' (N 112 0 - 1) 0 0 = (bb (N 112) q' (N 112 0 - 1).toNat 0 (q' 0)).1 := by
      unfold gQ
      rw [if_pos (by omega), Int.zero_add, Int.sub_zero]
    have gb := gQ_bd (q := q') (a := 0) (l := N 112 0 - 1) (w := 0) (p := 0) hw (Int.le_refl _) (by omega) (fun i x y => by
      rw [e']
      have := infl_bd hw (v := i) (w := 10) x (by omega) (by omega) (by omega)
      split <;> omega) hs (Int.le_refl _) (Int.le_refl _) (fun _ => by rw [show (0 : Int) - 1 = 0 - 1 from rfl, sg_pre]; exact Int.le_refl _)
    have bvb := bestv_bd hw (w := 10) (by decide) (by decide)
    refine mj_iload_n hJ dX8_price_52 rfl ?_
    first | refine ms_isub hJ dX8_price_53 (by omega) ?_ | refine mj_isub hJ dX8_price_53 ?_
    refine hR _ _ _ _ _ dX8_price_54 nar_i ⟨?_, SmC.of (fun c hc => by rw [hf2 c (by omega), upI_ne (by omega)]; exact hf c hc)⟩
    rw [eg, hq']
  · rw [if_neg h] at hR ⊢
    refine mj_if_ne (tgt := 11) hJ dX8_price_5 (by decide) (fun hyes => absurd (by decide) hyes) (fun _ => ?_)
    refine mj_ldc (z := -1000001) hJ dX8_price_8 (by decide) ct_X8_138 ?_
    exact hR _ _ _ _ _ dX8_price_10 nar_i ⟨rfl, SmC.rfl'⟩
theorem c_run (hw : WN (N 112)) (hl : LN I (N 112)) (v w : Int) : MtI G yX8_run cX8_run 3 (some .int) 4 [vr 0, vi v, vi w] I b (Xs I (F_run N v w)) := by
  refine mt_enterI (own := RX8) (ls0 := [vr 0, vi v, vi w]) rfl (by decide +kernel) (Nat.le_of_ble_eq_true rfl) rfl rfl (fun J hJ hR => ?_)
  have hn := hw.nv
  unfold F_run at hR
  have e0 := hl.1.1
  have bad : ¬((0 ≤ v ∧ v < N 112 0) ∧ (0 ≤ w ∧ w < N 112 0) ∧ v ≤ w) → J 21 [vr 0, vi v, vi w] [] (mk I b) := by
    intro q
    rw [if_neg q] at hR
    refine mj_ldc (z := -1000001) hJ dX8_run_21 (by decide) ct_X8_138 ?_
    exact hR _ _ _ _ _ dX8_run_23 nar_i ⟨rfl, SmC.rfl'⟩
  refine mj_aload_n hJ dX8_run_0 rfl ?_
  refine mj_iload_n hJ dX8_run_1 rfl ?_
  refine mk_Vp1 hJ dX8_run_2 cw_X8_101 rfl rfl rfl rfl (Nat.le_of_ble_eq_true rfl) (by first | decide | omega) (c_isVillage v (by rw [e0]; exact hn.1) (by rw [e0]; exact hn.2)) ?_
  rw [e0]
  by_cases h : 0 ≤ v ∧ v < N 112 0
  · rw [if_pos h]
    refine mj_if_eq (tgt := 21) hJ dX8_run_5 (by decide) (fun hyes => absurd hyes (by decide)) (fun _ => ?_)
    refine mj_aload_n hJ dX8_run_8 rfl ?_
    refine mj_iload_n hJ dX8_run_9 rfl ?_
    refine mk_Vp1 hJ dX8_run_10 cw_X8_101 rfl rfl rfl rfl (Nat.le_of_ble_eq_true rfl) (by first | decide | omega) (c_isVillage w (by rw [e0]; exact hn.1) (by rw [e0]; exact hn.2)) ?_
    rw [e0]
    by_cases h2 : 0 ≤ w ∧ w < N 112 0
    · rw [if_pos h2]
      refine mj_if_eq (tgt := 21) hJ dX8_run_13 (by decide) (fun hyes => absurd hyes (by decide)) (fun _ => ?_)
      refine mj_iload_n hJ dX8_run_16 rfl ?_
      refine mj_iload_n hJ dX8_run_17 rfl ?_
      refine mj_icmp_le (tgt := 24) hJ dX8_run_18 (by decide) (fun h3 => ?_) (fun h3 => ?_)
      · rw [if_pos ⟨h, h2, h3⟩] at hR
        refine mj_aload_n hJ dX8_run_24 rfl ?_
        refine mk_getR hJ dX8_run_25 fw_X8_26 rfl (by decide) rfl rfl ?_
        refine mj_aload_n hJ dX8_run_28 rfl ?_
        refine mk_getR hJ dX8_run_29 fw_X8_12 rfl (by decide) rfl rfl ?_
        refine mj_bipush hJ dX8_run_32 (by decide) ?_
        refine mk_Vv2 hJ dX8_run_34 cw_X8_159 rfl rfl rfl rfl (Nat.le_of_ble_eq_true rfl) (by first | decide | omega) (c_X7_fill hw hl 10 (by decide) (by decide)) (fun I1 b1 hq9 => ?_)
        obtain ⟨rfl, hf1, h44⟩ := hq9
        have hl1 : LN I1 (N 112) := LN.same hw hl (fun c c1 c2 => hf1 c (by omega))
        refine mj_aload_n hJ dX8_run_37 rfl ?_
        refine mk_getR hJ dX8_run_38 fw_X8_26 rfl (by decide) rfl rfl ?_
        refine mj_aload_n hJ dX8_run_41 rfl ?_
        refine mk_getR hJ dX8_run_42 fw_X8_12 rfl (by decide) rfl rfl ?_
        refine mj_iload_n hJ dX8_run_45 rfl ?_
        refine mj_iload_n hJ dX8_run_46 rfl ?_
        refine mk_Vi3 hJ dX8_run_47 cw_X8_155 rfl rfl rfl rfl (Nat.le_of_ble_eq_true rfl) (by first | decide | omega) (c_runL hw hl1 h44 v w h.1 h3 h2.2) (fun z I2 b2 hq9 => ?_)
        obtain ⟨rfl, rfl, hf2⟩ := hq9
        exact hR _ _ _ _ _ dX8_run_50 nar_i ⟨rfl, SmC.of (fun c hc => (hf2 c (by omega)).trans (hf1 c (by omega)))⟩
      · exact bad (fun q => h3 q.2.2)
    · rw [if_neg h2]
      refine mj_if_eq (tgt := 21) hJ dX8_run_13 (by decide) (fun _ => ?_) (fun hno => absurd rfl hno)
      exact bad (fun q => h2 q.2.1)
  · rw [if_neg h]
    refine mj_if_eq (tgt := 21) hJ dX8_run_5 (by decide) (fun _ => ?_) (fun hno => absurd rfl hno)
    exact bad (fun q => h q.1)
theorem c_most (hw : WN (N 112)) (hl : LN I (N 112)) (v : Int) : MtI G yX8_most cX8_most 2 (some .int) 2 [vr 0, vi v] I b (Xs I (F_most N v)) := by
  refine mt_enterI (own := RX8) (ls0 := [vr 0, vi v]) rfl (by decide +kernel) (Nat.le_of_ble_eq_true rfl) rfl rfl (fun J hJ hR => ?_)
  have hn := hw.nv
  unfold F_most at hR
  have e0 := hl.1.1
  refine mj_aload_n hJ dX8_most_0 rfl ?_
  refine mj_iload_n hJ dX8_most_1 rfl ?_
  refine mk_Vp1 hJ dX8_most_2 cw_X8_101 rfl rfl rfl rfl (Nat.le_of_ble_eq_true rfl) (by first | decide | omega) (c_isVillage v (by rw [e0]; exact hn.1) (by rw [e0]; exact hn.2)) ?_
  rw [e0]
  by_cases h : 0 ≤ v ∧ v < N 112 0
  · rw [if_pos h] at hR ⊢
    refine mj_if_ne (tgt := 10) hJ dX8_most_5 (by decide) (fun _ => ?_) (fun hno => absurd hno (by decide))
    refine mj_aload_n hJ dX8_most_10 rfl ?_
    refine mk_getR hJ dX8_most_11 fw_X8_26 rfl (by decide) rfl rfl ?_
    refine mj_aload_n hJ dX8_most_14 rfl ?_
    refine mk_getR hJ dX8_most_15 fw_X8_12 rfl (by decide) rfl rfl ?_
    refine mj_bipush hJ dX8_most_18 (by decide) ?_
    refine mk_Vv2 hJ dX8_most_20 cw_X8_159 rfl rfl rfl rfl (Nat.le_of_ble_eq_true rfl) (by first | decide | omega) (c_X7_fill hw hl 10 (by decide) (by decide)) (fun I1 b1 hq9 => ?_)
    obtain ⟨rfl, hf1, h44⟩ := hq9
    have hl1 : LN I1 (N 112) := LN.same hw hl (fun c c1 c2 => hf1 c (by omega))
    refine mj_aload_n hJ dX8_most_23 rfl ?_
    refine mj_iload_n hJ dX8_most_24 rfl ?_
    refine mk_Vp1 hJ dX8_most_25 cw_X8_161 rfl rfl rfl rfl (Nat.le_of_ble_eq_true rfl) (by first | decide | omega) (c_mostOf hw hl1 v h.1 h.2 h44) ?_
    exact hR _ _ _ _ _ dX8_most_28 nar_i ⟨rfl, SmC.of (fun c hc => hf1 c (by omega))⟩
  · rw [if_neg h] at hR ⊢
    refine mj_if_ne (tgt := 10) hJ dX8_most_5 (by decide) (fun hyes => absurd (by decide) hyes) (fun _ => ?_)
    refine mj_iconst hJ dX8_most_8 (by decide) ?_
    exact hR _ _ _ _ _ dX8_most_9 nar_i ⟨rfl, SmC.rfl'⟩
theorem c_share (hw : WN (N 112)) (hl : LN I (N 112)) (s v w : Int) : MtI G yX8_share cX8_share 4 (some .int) 6 [vr 0, vi s, vi v, vi w] I b (Xs I (F_share N s v w)) := by
  refine mt_enterI (own := RX8) (ls0 := [vr 0, vi s, vi v, vi w]) rfl (by decide +kernel) (Nat.le_of_ble_eq_true rfl) rfl rfl (fun J hJ hR => ?_)
  have hn := hw.nv
  unfold F_share at hR
  have e0 := hl.1.1
  have bad : ¬((0 ≤ s ∧ s ≤ 3) ∧ (0 ≤ v ∧ v < N 112 0) ∧ (0 ≤ w ∧ w ≤ 1)) → J 26 [vr 0, vi s, vi v, vi w] [] (mk I b) := by
    intro q
    rw [if_neg q] at hR
    refine mj_ldc (z := -1000001) hJ dX8_share_26 (by decide) ct_X8_138 ?_
    exact hR _ _ _ _ _ dX8_share_28 nar_i ⟨rfl, SmC.rfl'⟩
  refine mj_iload_n hJ dX8_share_0 rfl ?_
  refine mj_iconst hJ dX8_share_1 (by decide) ?_
  refine mj_iconst hJ dX8_share_2 (by decide) ?_
  refine mk_Sp3 hJ dX8_share_3 cw_X8_105 rfl (Nat.le_of_ble_eq_true rfl) (by first | decide | omega) (c_within s 0 3) ?_
  by_cases h : 0 ≤ s ∧ s ≤ 3
  · rw [if_pos h]
    refine mj_if_eq (tgt := 26) hJ dX8_share_6 (by decide) (fun hyes => absurd hyes (by decide)) (fun _ => ?_)
    refine mj_aload_n hJ dX8_share_9 rfl ?_
    refine mj_iload_n hJ dX8_share_10 rfl ?_
    refine mk_Vp1 hJ dX8_share_11 cw_X8_101 rfl rfl rfl rfl (Nat.le_of_ble_eq_true rfl) (by first | decide | omega) (c_isVillage v (by rw [e0]; exact hn.1) (by rw [e0]; exact hn.2)) ?_
    rw [e0]
    by_cases h2 : 0 ≤ v ∧ v < N 112 0
    · rw [if_pos h2]
      refine mj_if_eq (tgt := 26) hJ dX8_share_14 (by decide) (fun hyes => absurd hyes (by decide)) (fun _ => ?_)
      refine mj_iload_n hJ dX8_share_17 rfl ?_
      refine mj_iconst hJ dX8_share_18 (by decide) ?_
      refine mj_iconst hJ dX8_share_19 (by decide) ?_
      refine mk_Sp3 hJ dX8_share_20 cw_X8_105 rfl (Nat.le_of_ble_eq_true rfl) (by first | decide | omega) (c_within w 0 1) ?_
      by_cases h3 : 0 ≤ w ∧ w ≤ 1
      · rw [if_pos h3]
        rw [if_pos ⟨h, h2, h3⟩] at hR
        refine mj_if_ne (tgt := 29) hJ dX8_share_23 (by decide) (fun _ => ?_) (fun hno => absurd hno (by decide))
        have K40 : (w = 0 ∨ s ≠ 0) → J 40 [vr 0, vi s, vi v, vi w] [] (mk I b) := by
          intro hx
          have shb := shv_bd hw s h2.1 h2.2
          have bb := bM_bd hw h2.1 h2.2
          refine mj_aload_n hJ dX8_share_40 rfl ?_
          refine mj_iload_n hJ dX8_share_41 rfl ?_
          refine mk_Vv1 hJ dX8_share_42 cw_X8_164 rfl rfl rfl rfl (Nat.le_of_ble_eq_true rfl) (by first | decide | omega) (c_fillShares hw hl s h.1 h.2) (fun I1 b1 hq9 => ?_)
          obtain ⟨rfl, hf1, hB⟩ := hq9
          have hl1 : LN I1 (N 112) := LN.same hw hl (fun c c1 c2 => hf1 c (by omega) (by omega))
          refine mj_iload_n hJ dX8_share_45 rfl ?_
          refine mj_if_ne (tgt := 58) hJ dX8_share_46 (by decide) (fun hw0 => ?_) (fun hw0 => ?_)
          · rw [if_neg hw0, if_neg (by omega)] at hR
            refine mj_aload_n hJ dX8_share_58 rfl ?_
            refine mk_getR hJ dX8_share_59 fw_X8_51 rfl (by decide) rfl rfl ?_
            refine mj_iload_n hJ dX8_share_62 rfl ?_
            refine mk_iald hJ dX8_share_63 rfl (by omega) (by omega) ?_
            rw [hB v h2.1 h2.2]
            refine mj_aload_n hJ dX8_share_64 rfl ?_
            refine mj_iload_n hJ dX8_share_65 rfl ?_
            refine mk_Vi1 hJ dX8_share_66 cw_X8_168 rfl rfl rfl rfl (Nat.le_of_ble_eq_true rfl) (by first | decide | omega) (c_madeInBest hw hl1 v h2.1 h2.2) (fun z I2 b2 hq9 => ?_)
            obtain ⟨rfl, rfl, hf2⟩ := hq9
            first | refine ms_isub hJ dX8_share_69 (by omega) ?_ | refine mj_isub hJ dX8_share_69 ?_
            exact hR _ _ _ _ _ dX8_share_70 nar_i ⟨rfl, SmC.of90 (fun c c1 c2 => (hf2 c c1).trans (hf1 c c1 c2))⟩
          · rw [if_pos hw0] at hR
            refine mj_aload_n hJ dX8_share_49 rfl ?_
            refine mk_getR hJ dX8_share_50 fw_X8_51 rfl (by decide) rfl rfl ?_
            refine mj_iload_n hJ dX8_share_53 rfl ?_
            refine mk_iald hJ dX8_share_54 rfl (by omega) (by omega) ?_
            rw [hB v h2.1 h2.2]
            refine mj_goto (tgt := 70) hJ dX8_share_55 (by decide) ?_
            exact hR _ _ _ _ _ dX8_share_70 nar_i ⟨rfl, SmC.of90 hf1⟩
        refine mj_iload_n hJ dX8_share_29 rfl ?_
        refine mj_iconst hJ dX8_share_30 (by decide) ?_
        refine mj_icmp_ne (tgt := 40) hJ dX8_share_31 (by decide) (fun hw1 => ?_) (fun hw1 => ?_)
        · exact K40 (Or.inl (by omega))
        · refine mj_iload_n hJ dX8_share_34 rfl ?_
          refine mj_if_ne (tgt := 40) hJ dX8_share_35 (by decide) (fun hs0 => ?_) (fun hs0 => ?_)
          · exact K40 (Or.inr hs0)
          · rw [if_neg (by omega), if_pos hs0] at hR
            refine mj_iconst hJ dX8_share_38 (by decide) ?_
            exact hR _ _ _ _ _ dX8_share_39 nar_i ⟨rfl, SmC.rfl'⟩
      · rw [if_neg h3]
        refine mj_if_ne (tgt := 29) hJ dX8_share_23 (by decide) (fun hyes => absurd (by decide) hyes) (fun _ => ?_)
        exact bad (fun q => h3 q.2.2)
    · rw [if_neg h2]
      refine mj_if_eq (tgt := 26) hJ dX8_share_14 (by decide) (fun _ => ?_) (fun hno => absurd rfl hno)
      exact bad (fun q => h2 q.2.1)
  · rw [if_neg h]
    refine mj_if_eq (tgt := 26) hJ dX8_share_6 (by decide) (fun _ => ?_) (fun hno => absurd rfl hno)
    exact bad (fun q => h q.1)
theorem c_broken (hw : WN (N 112)) (hl : LN I (N 112)) (s : Int) : MtI G yX8_broken cX8_broken 2 (some .int) 6 [vr 0, vi s] I b (Xs I (F_broken N s)) := by
  refine mt_enterI (own := RX8) (ls0 := [vr 0, vi s]) rfl (by decide +kernel) (Nat.le_of_ble_eq_true rfl) rfl rfl (fun J hJ hR => ?_)
  have hn := hw.nv
  unfold F_broken at hR
  refine mj_iload_n hJ dX8_broken_0 rfl ?_
  refine mj_iconst hJ dX8_broken_1 (by decide) ?_
  refine mj_iconst hJ dX8_broken_2 (by decide) ?_
  refine mk_Sp3 hJ dX8_broken_3 cw_X8_105 rfl (Nat.le_of_ble_eq_true rfl) (by first | decide | omega) (c_within s 0 3) ?_
  by_cases h : 0 ≤ s ∧ s ≤ 3
  · rw [if_pos h] at hR ⊢
    refine mj_if_ne (tgt := 11) hJ dX8_broken_6 (by decide) (fun _ => ?_) (fun hno => absurd hno (by decide))
    refine mj_aload_n hJ dX8_broken_11 rfl ?_
    refine mj_iload_n hJ dX8_broken_12 rfl ?_
    refine mk_Vv1 hJ dX8_broken_13 cw_X8_164 rfl rfl rfl rfl (Nat.le_of_ble_eq_true rfl) (by first | decide | omega) (c_fillShares hw hl s h.1 h.2) (fun I1 b1 hq9 => ?_)
    obtain ⟨rfl, hf1, hB⟩ := hq9
    have hl1 : LN I1 (N 112) := LN.same hw hl (fun c c1 c2 => hf1 c (by omega) (by omega))
    refine mj_aload_n hJ dX8_broken_16 rfl ?_
    refine mk_Vi0 hJ dX8_broken_17 cw_X8_171 rfl rfl rfl rfl (Nat.le_of_ble_eq_true rfl) (by first | decide | omega) (c_breakOfShares hw hl1 (shv (N 112) s) hB (fun v x y => by have := shv_bd hw s x y; omega)) (fun z I2 b2 hq9 => ?_)
    obtain ⟨rfl, rfl, hf2⟩ := hq9
    exact hR _ _ _ _ _ dX8_broken_20 nar_i ⟨rfl, SmC.of90 (fun c c1 c2 => (hf2 c c1).trans (hf1 c c1 c2))⟩
  · rw [if_neg h] at hR ⊢
    refine mj_if_ne (tgt := 11) hJ dX8_broken_6 (by decide) (fun hyes => absurd (by decide) hyes) (fun _ => ?_)
    refine mj_iconst hJ dX8_broken_9 (by decide) ?_
    exact hR _ _ _ _ _ dX8_broken_10 nar_i ⟨rfl, SmC.rfl'⟩
theorem c_treaty (hw : WN (N 112)) (hl : LN I (N 112)) (T : List Ln) (hT : TC I 17 18 19 20 21 T) (hTW : TW T) (w v x : Int) : MtI G yX8_treaty cX8_treaty 4 (some .int) 5 [vr 0, vi w, vi v, vi x] I b (Xs I (F_treaty N T w v x)) := by
  refine mt_enterI (own := RX8) (ls0 := [vr 0, vi w, vi v, vi x]) rfl (by decide +kernel) (Nat.le_of_ble_eq_true rfl) rfl rfl (fun J hJ hR => ?_)
  have hn := hw.nv
  unfold F_treaty at hR
  have e0 := hl.1.1
  have bad : ¬((0 ≤ w ∧ w ≤ 20) ∧ (0 ≤ v ∧ v < N 112 0) ∧ (0 ≤ x ∧ x ≤ 3)) → J 24 [vr 0, vi w, vi v, vi x] [] (mk I b) := by
    intro q
    rw [if_neg q] at hR
    refine mj_ldc (z := -1000001) hJ dX8_treaty_24 (by decide) ct_X8_138 ?_
    exact hR _ _ _ _ _ dX8_treaty_26 nar_i ⟨rfl, SmC.rfl'⟩
  refine mj_iload_n hJ dX8_treaty_0 rfl ?_
  refine mk_Sp1 hJ dX8_treaty_1 cw_X8_132 rfl (Nat.le_of_ble_eq_true rfl) (by first | decide | omega) (c_isWet w) ?_
  by_cases h : 0 ≤ w ∧ w ≤ 20
  · rw [if_pos h]
    refine mj_if_eq (tgt := 24) hJ dX8_treaty_4 (by decide) (fun hyes => absurd hyes (by decide)) (fun _ => ?_)
    refine mj_aload_n hJ dX8_treaty_7 rfl ?_
    refine mj_iload_n hJ dX8_treaty_8 rfl ?_
    refine mk_Vp1 hJ dX8_treaty_9 cw_X8_101 rfl rfl rfl rfl (Nat.le_of_ble_eq_true rfl) (by first | decide | omega) (c_isVillage v (by rw [e0]; exact hn.1) (by rw [e0]; exact hn.2)) ?_
    rw [e0]
    by_cases h2 : 0 ≤ v ∧ v < N 112 0
    · rw [if_pos h2]
      refine mj_if_eq (tgt := 24) hJ dX8_treaty_12 (by decide) (fun hyes => absurd hyes (by decide)) (fun _ => ?_)
      refine mj_iload_n hJ dX8_treaty_15 rfl ?_
      refine mj_iconst hJ dX8_treaty_16 (by decide) ?_
      refine mj_iconst hJ dX8_treaty_17 (by decide) ?_
      refine mk_Sp3 hJ dX8_treaty_18 cw_X8_105 rfl (Nat.le_of_ble_eq_true rfl) (by first | decide | omega) (c_within x 0 3) ?_
      by_cases h3 : 0 ≤ x ∧ x ≤ 3
      · rw [if_pos h3]
        rw [if_pos ⟨h, h2, h3⟩] at hR
        refine mj_if_ne (tgt := 27) hJ dX8_treaty_21 (by decide) (fun _ => ?_) (fun hno => absurd hno (by decide))
        refine mj_aload_n hJ dX8_treaty_27 rfl ?_
        refine mk_getR hJ dX8_treaty_28 fw_X8_26 rfl (by decide) rfl rfl ?_
        refine mj_aload_n hJ dX8_treaty_31 rfl ?_
        refine mk_getR hJ dX8_treaty_32 fw_X8_12 rfl (by decide) rfl rfl ?_
        refine mj_iload_n hJ dX8_treaty_35 rfl ?_
        refine mj_iconst hJ dX8_treaty_36 (by decide) ?_
        refine mk_Vi3 hJ dX8_treaty_37 cw_X8_233 rfl rfl rfl rfl (Nat.le_of_ble_eq_true rfl) (by first | decide | omega) (c_X7_follow hw hl T w (-1) h.1 h.2 (Or.inr ⟨rfl, hTW⟩) (fun _ => hT)) (fun z I1 b1 hq9 => ?_)
        obtain ⟨rfl, rfl, hf1, hB⟩ := hq9
        have hB := hB v h2.1 h2.2
        have hsm : SmC I I1 := fun c hc => hf1 c (by omega)
        refine mj_popi hJ dX8_treaty_40 ?_
        refine mj_iload_n hJ dX8_treaty_41 rfl ?_
        by_cases x0 : x = 0
        · subst x0
          refine mj_tabIn (off := 26) (tgt := 68) hJ dX8_treaty_42 (by decide) (by decide) rfl (by decide) ?_
          refine mj_aload_n hJ dX8_treaty_68 rfl ?_
          refine mk_getR hJ dX8_treaty_69 fw_X8_26 rfl (by decide) rfl rfl ?_
          refine mk_getR hJ dX8_treaty_72 fw_X8_236 rfl (by decide) rfl rfl ?_
          refine mj_iload_n hJ dX8_treaty_75 rfl ?_
          refine mk_iald hJ dX8_treaty_76 rfl (by omega) (by omega) ?_
          rw [hB.1]
          exact hR _ _ _ _ _ dX8_treaty_77 nar_i ⟨rfl, hsm⟩
        · rw [if_neg x0] at hR
          by_cases x1 : x = 1
          · subst x1
            refine mj_tabIn (off := 36) (tgt := 78) hJ dX8_treaty_42 (by decide) (by decide) rfl (by decide) ?_
            refine mj_aload_n hJ dX8_treaty_78 rfl ?_
            refine mk_getR hJ dX8_treaty_79 fw_X8_26 rfl (by decide) rfl rfl ?_
            refine mk_getR hJ dX8_treaty_82 fw_X8_239 rfl (by decide) rfl rfl ?_
            refine mj_iload_n hJ dX8_treaty_85 rfl ?_
            refine mk_iald hJ dX8_treaty_86 rfl (by omega) (by omega) ?_
            rw [hB.2.1]
            exact hR _ _ _ _ _ dX8_treaty_87 nar_i ⟨rfl, hsm⟩
          · rw [if_neg x1] at hR
            by_cases x2 : x = 2
            · subst x2
              refine mj_tabIn (off := 46) (tgt := 88) hJ dX8_treaty_42 (by decide) (by decide) rfl (by decide) ?_
              refine mj_aload_n hJ dX8_treaty_88 rfl ?_
              refine mk_getR hJ dX8_treaty_89 fw_X8_26 rfl (by decide) rfl rfl ?_
              refine mk_getR hJ dX8_treaty_92 fw_X8_143 rfl (by decide) rfl rfl ?_
              refine mj_iload_n hJ dX8_treaty_95 rfl ?_
              refine mk_iald hJ dX8_treaty_96 rfl (by omega) (by omega) ?_
              rw [hB.2.2.1]
              exact hR _ _ _ _ _ dX8_treaty_97 nar_i ⟨rfl, hsm⟩
            · rw [if_neg x2] at hR
              refine mj_tabOut (tgt := 98) hJ dX8_treaty_42 (by omega) (by decide) ?_
              refine mj_aload_n hJ dX8_treaty_98 rfl ?_
              refine mk_getR hJ dX8_treaty_99 fw_X8_26 rfl (by decide) rfl rfl ?_
              refine mk_getR hJ dX8_treaty_102 fw_X8_149 rfl (by decide) rfl rfl ?_
              refine mj_iload_n hJ dX8_treaty_105 rfl ?_
              refine mk_iald hJ dX8_treaty_106 rfl (by omega) (by omega) ?_
              rw [hB.2.2.2.2]
              exact hR _ _ _ _ _ dX8_treaty_107 nar_i ⟨rfl, hsm⟩
      · rw [if_neg h3]
        refine mj_if_ne (tgt := 27) hJ dX8_treaty_21 (by decide) (fun hyes => absurd (by decide) hyes) (fun _ => ?_)
        exact bad (fun q => h3 q.2.2)
    · rw [if_neg h2]
      refine mj_if_eq (tgt := 24) hJ dX8_treaty_12 (by decide) (fun _ => ?_) (fun hno => absurd rfl hno)
      exact bad (fun q => h2 q.2.1)
  · rw [if_neg h]
    refine mj_if_eq (tgt := 24) hJ dX8_treaty_4 (by decide) (fun _ => ?_) (fun hno => absurd rfl hno)
    exact bad (fun q => h q.1)
theorem c_bestOfYears (f : Int → Int) (hw : WN f) (hl : LN I f) : MtI G yX8_bestOfYears cX8_bestOfYears 3 (some .int) 5 [vr 0] I b (fun z I' b' => z = bsY f (f 1).toNat ∧ b' = b ∧ (∀ c, (c < 44 ∨ 57 < c) → I' c = I c)) := by
  refine mt_enterI (own := RX8) (ls0 := [vr 0, vu, vu]) rfl (by decide +kernel) (Nat.le_of_ble_eq_true rfl) rfl rfl (fun J hJ hR => ?_)
  have hn := hw.nv
  have hy := hw.ny
  have loop : ∀ (m y : Nat) (I1 : Ints), ((y + m : Nat) : Int) = f 1 → (∀ c, (c < 44 ∨ 57 < c) → I1 c = I c) → J 4 [vr 0, vi (bsY f y), vi y] [] (mk I1 b) := by
    intro m
    induction m with
    | zero =>
      intro y I1 ym hf
      have hl1 : LN I1 f := LN.same hw hl (fun c c1 c2 => hf c (by omega))
      refine mj_iload_n hJ dX8_bestOfYears_4 rfl ?_
      refine mj_aload_n hJ dX8_bestOfYears_5 rfl ?_
      refine mk_getR hJ dX8_bestOfYears_6 fw_X8_12 rfl (by decide) rfl rfl ?_
      refine mk_getI (j' := 3) hJ dX8_bestOfYears_9 fw_X8_185 rfl (by decide) rfl rfl ?_
      rw [hl1.1.2.1]
      refine mj_icmp_ge (tgt := 37) hJ dX8_bestOfYears_12 (by decide) (fun _ => ?_) (fun hno => absurd (by omega) hno)
      refine mj_iload_n hJ dX8_bestOfYears_37 rfl ?_
      exact hR _ _ _ _ _ dX8_bestOfYears_38 nar_i ⟨by rw [show (f 1).toNat = y by omega], rfl, hf⟩
    | succ m ih =>
      intro y I1 ym hf
      have hl1 : LN I1 f := LN.same hw hl (fun c c1 c2 => hf c (by omega))
      have wt := hw.wet (y := (y : Int)) (by omega) (by omega)
      have e16 := hl1.2.2.2 y (by omega) (by omega)
      have bs := bsY_bd hw y (by omega)
      have bb := bestv_bd hw wt.1 wt.2
      have es : bsY f (y + 1) = bsY f y + bestv f (f (118 + y)) := rfl
      refine mj_iload_n hJ dX8_bestOfYears_4 rfl ?_
      refine mj_aload_n hJ dX8_bestOfYears_5 rfl ?_
      refine mk_getR hJ dX8_bestOfYears_6 fw_X8_12 rfl (by decide) rfl rfl ?_
      refine mk_getI (j' := 3) hJ dX8_bestOfYears_9 fw_X8_185 rfl (by decide) rfl rfl ?_
      rw [hl1.1.2.1]
      refine mj_icmp_ge (tgt := 37) hJ dX8_bestOfYears_12 (by decide) (fun hyes => absurd hyes (by omega)) (fun _ => ?_)
      refine mj_iload_n hJ dX8_bestOfYears_15 rfl ?_
      refine mj_aload_n hJ dX8_bestOfYears_16 rfl ?_
      refine mj_aload_n hJ dX8_bestOfYears_17 rfl ?_
      refine mk_getR hJ dX8_bestOfYears_18 fw_X8_12 rfl (by decide) rfl rfl ?_
      refine mk_getR hJ dX8_bestOfYears_21 fw_X8_188 rfl (by decide) rfl rfl ?_
      refine mj_iload_n hJ dX8_bestOfYears_24 rfl ?_
      refine mk_iald hJ dX8_bestOfYears_25 rfl (by omega) (by omega) ?_
      rw [e16]
      refine mk_Vi1 hJ dX8_bestOfYears_26 cw_X8_135 rfl rfl rfl rfl (Nat.le_of_ble_eq_true rfl) (by first | decide | omega) (c_bestOf hw hl1 (f (118 + y)) wt.1 wt.2) (fun z I2 b2 hq9 => ?_)
      obtain ⟨rfl, rfl, hf2, -⟩ := hq9
      first | refine ms_iadd hJ dX8_bestOfYears_29 (by omega) ?_ | refine mj_iadd hJ dX8_bestOfYears_29 ?_
      refine ms_istore_n (ls' := [_, _, _]) hJ dX8_bestOfYears_30 (by decide) rfl rfl ?_
      refine ms_iinc (ls' := [_, _, _]) hJ dX8_bestOfYears_31 rfl (by decide) rfl (wr_id (by omega)) rfl ?_
      refine mj_goto (tgt := 4) hJ dX8_bestOfYears_34 (by decide) ?_
      rw [← es, show (y : Int) + 1 = ((y + 1 : Nat) : Int) by omega]
      exact ih (y + 1) I2 (by omega) (fun c hc => (hf2 c hc).trans (hf c hc))
  refine mj_iconst hJ dX8_bestOfYears_0 (by decide) ?_
  refine ms_istore_n (ls' := [_, _, _]) hJ dX8_bestOfYears_1 (by decide) rfl rfl ?_
  refine mj_iconst hJ dX8_bestOfYears_2 (by decide) ?_
  refine ms_istore_n (ls' := [_, _, _]) hJ dX8_bestOfYears_3 (by decide) rfl rfl ?_
  exact loop (f 1).toNat 0 I (by omega) (fun _ _ => rfl)
theorem c_madeInYears (f : Int → Int) (hw : WN f) (hl : LN I f) (T : List Ln) (p : Int) (hp : (0 ≤ p ∧ p ≤ 24) ∨ (p = -1 ∧ TW T)) (hT : p = -1 → TC I 17 18 19 20 21 T) : MtI G yX8_madeInYears cX8_madeInYears 4 (some .int) 5 [vr 0, vi p] I b (fun z I' b' => z = goY f T p (f 1).toNat ∧ b' = b ∧ (∀ c, (c < 44 ∨ 49 < c) → I' c = I c)) := by
  refine mt_enterI (own := RX8) (ls0 := [vr 0, vi p, vu, vu]) rfl (by decide +kernel) (Nat.le_of_ble_eq_true rfl) rfl rfl (fun J hJ hR => ?_)
  have hn := hw.nv
  have hy := hw.ny
  have gbd : ∀ y : Nat, y ≤ 6 → -10800 * (y : Int) ≤ goY f T p y ∧ goY f T p y ≤ 7128 * (y : Int) := by
    intro y
    induction y with
    | zero => intro _; exact ⟨Int.le_refl _, Int.le_refl _⟩
    | succ y ih =>
      intro hy6
      have a := ih (by omega)
      have w := hw.wet (y := y) (by omega) (by omega)
      have b := gS_bd hw w.1 w.2 (T := TF f T (f (118 + y)) p) (fun v c => (TF_bdW hp).1) (f 0).toNat (by omega)
      have e : goY f T p (y + 1) = goY f T p y + gS f (f (118 + y)) (TF f T (f (118 + y)) p) (f 0).toNat := rfl
      omega
  have loop : ∀ (m y : Nat) (I1 : Ints), ((y + m : Nat) : Int) = f 1 → (∀ c, (c < 44 ∨ 49 < c) → I1 c = I c) → J 4 [vr 0, vi p, vi (goY f T p y), vi y] [] (mk I1 b) := by
    intro m
    induction m with
    | zero =>
      intro y I1 ym hf
      have hl1 : LN I1 f := LN.same hw hl (fun c c1 c2 => hf c (by omega))
      refine mj_iload_n hJ dX8_madeInYears_4 rfl ?_
      refine mj_aload_n hJ dX8_madeInYears_5 rfl ?_
      refine mk_getR hJ dX8_madeInYears_6 fw_X8_12 rfl (by decide) rfl rfl ?_
      refine mk_getI (j' := 3) hJ dX8_madeInYears_9 fw_X8_185 rfl (by decide) rfl rfl ?_
      rw [hl1.1.2.1]
      refine mj_icmp_ge (tgt := 45) hJ dX8_madeInYears_12 (by decide) (fun _ => ?_) (fun hno => absurd (by omega) hno)
      refine mj_iload_n hJ dX8_madeInYears_45 rfl ?_
      exact hR _ _ _ _ _ dX8_madeInYears_46 nar_i ⟨by rw [show (f 1).toNat = y by omega], rfl, hf⟩
    | succ m ih =>
      intro y I1 ym hf
      have hl1 : LN I1 f := LN.same hw hl (fun c c1 c2 => hf c (by omega))
      have wt := hw.wet (y := (y : Int)) (by omega) (by omega)
      have e16 := hl1.2.2.2 y (by omega) (by omega)
      have bs := gbd y (by omega)
      have bb := gS_bd hw wt.1 wt.2 (T := TF f T (f (118 + y)) p) (fun v c => (TF_bdW hp).1) (f 0).toNat (by omega)
      have es : goY f T p (y + 1) = goY f T p y + gS f (f (118 + y)) (TF f T (f (118 + y)) p) (f 0).toNat := rfl
      refine mj_iload_n hJ dX8_madeInYears_4 rfl ?_
      refine mj_aload_n hJ dX8_madeInYears_5 rfl ?_
      refine mk_getR hJ dX8_madeInYears_6 fw_X8_12 rfl (by decide) rfl rfl ?_
      refine mk_getI (j' := 3) hJ dX8_madeInYears_9 fw_X8_185 rfl (by decide) rfl rfl ?_
      rw [hl1.1.2.1]
      refine mj_icmp_ge (tgt := 45) hJ dX8_madeInYears_12 (by decide) (fun hyes => absurd hyes (by omega)) (fun _ => ?_)
      refine mj_iload_n hJ dX8_madeInYears_15 rfl ?_
      refine mj_aload_n hJ dX8_madeInYears_16 rfl ?_
      refine mk_getR hJ dX8_madeInYears_17 fw_X8_26 rfl (by decide) rfl rfl ?_
      refine mj_aload_n hJ dX8_madeInYears_20 rfl ?_
      refine mk_getR hJ dX8_madeInYears_21 fw_X8_12 rfl (by decide) rfl rfl ?_
      refine mj_aload_n hJ dX8_madeInYears_24 rfl ?_
      refine mk_getR hJ dX8_madeInYears_25 fw_X8_12 rfl (by decide) rfl rfl ?_
      refine mk_getR hJ dX8_madeInYears_28 fw_X8_188 rfl (by decide) rfl rfl ?_
      refine mj_iload_n hJ dX8_madeInYears_31 rfl ?_
      refine mk_iald hJ dX8_madeInYears_32 rfl (by omega) (by omega) ?_
      rw [e16]
      refine mj_iload_n hJ dX8_madeInYears_33 rfl ?_
      refine mk_Vi3 hJ dX8_madeInYears_34 cw_X8_233 rfl rfl rfl rfl (Nat.le_of_ble_eq_true rfl) (by first | decide | omega) (c_X7_follow hw hl1 T (f (118 + y)) p wt.1 wt.2 hp (fun q => TC.same (hT q) (fun c c1 c2 => hf c (by omega)))) (fun z I2 b2 hq9 => ?_)
      obtain ⟨rfl, rfl, hf2, -⟩ := hq9
      first | refine ms_iadd hJ dX8_madeInYears_37 (by omega) ?_ | refine mj_iadd hJ dX8_madeInYears_37 ?_
      refine ms_istore_n (ls' := [_, _, _, _]) hJ dX8_madeInYears_38 (by decide) rfl rfl ?_
      refine ms_iinc (ls' := [_, _, _, _]) hJ dX8_madeInYears_39 rfl (by decide) rfl (wr_id (by omega)) rfl ?_
      refine mj_goto (tgt := 4) hJ dX8_madeInYears_42 (by decide) ?_
      rw [← es, show (y : Int) + 1 = ((y + 1 : Nat) : Int) by omega]
      exact ih (y + 1) I2 (by omega) (fun c hc => (hf2 c hc).trans (hf c hc))
  refine mj_iconst hJ dX8_madeInYears_0 (by decide) ?_
  refine ms_istore_n (ls' := [_, _, _, _]) hJ dX8_madeInYears_1 (by decide) rfl rfl ?_
  refine mj_iconst hJ dX8_madeInYears_2 (by decide) ?_
  refine ms_istore_n (ls' := [_, _, _, _]) hJ dX8_madeInYears_3 (by decide) rfl rfl ?_
  exact loop (f 1).toNat 0 I (by omega) (fun _ _ => rfl)
theorem goY_bdW {f : Int → Int} (hw : WN f) {T : List Ln} {p : Int} (hp : (0 ≤ p ∧ p ≤ 24) ∨ (p = -1 ∧ TW T)) : ∀ y : Nat, y ≤ 6 → -10800 * (y : Int) ≤ goY f T p y ∧ goY f T p y ≤ 7128 * (y : Int)
  | 0, _ => ⟨Int.le_refl _, Int.le_refl _⟩
  | y + 1, hy6 => by
    have hn := hw.nv
    have a := goY_bdW hw hp y (by omega)
    have w := hw.wet (y := y) (by omega) (by omega)
    have b := gS_bd hw w.1 w.2 (T := TF f T (f (118 + y)) p) (fun v c => (TF_bdW hp).1) (f 0).toNat (by omega)
    have e : goY f T p (y + 1) = goY f T p y + gS f (f (118 + y)) (TF f T (f (118 + y)) p) (f 0).toNat := rfl
    omega
theorem c_lost (hw : WN (N 112)) (hl : LN I (N 112)) (T : List Ln) (hT : TC I 17 18 19 20 21 T) (hTW : TW T) : MtI G yX8_lost cX8_lost 1 (some .int) 6 [vr 0] I b (Xs I (F_lost N T)) := by
  refine mt_enterI (own := RX8) (ls0 := [vr 0]) rfl (by decide +kernel) (Nat.le_of_ble_eq_true rfl) rfl rfl (fun J hJ hR => ?_)
  have hy := hw.ny
  have a1 := bsY_bd hw (N 112 1).toNat (by omega)
  have a2 := goY_bdW hw (T := T) (p := -1) (Or.inr ⟨rfl, hTW⟩) (N 112 1).toNat (by omega)
  unfold F_lost at hR
  refine mj_aload_n hJ dX8_lost_0 rfl ?_
  refine mk_Vi0 hJ dX8_lost_1 cw_X8_242 rfl rfl rfl rfl (Nat.le_of_ble_eq_true rfl) (by first | decide | omega) (c_bestOfYears (N 112) hw hl) (fun z I1 b1 hq9 => ?_)
  obtain ⟨rfl, rfl, hf1⟩ := hq9
  have hl1 : LN I1 (N 112) := LN.same hw hl (fun c c1 c2 => hf1 c (by omega))
  refine mj_aload_n hJ dX8_lost_4 rfl ?_
  refine mj_iconst hJ dX8_lost_5 (by decide) ?_
  refine mk_Vi1 hJ dX8_lost_6 cw_X8_245 rfl rfl rfl rfl (Nat.le_of_ble_eq_true rfl) (by first | decide | omega) (c_madeInYears (N 112) hw hl1 T (-1) (Or.inr ⟨rfl, hTW⟩) (fun _ => TC.same hT (fun c c1 c2 => hf1 c (by omega)))) (fun z I2 b2 hq9 => ?_)
  obtain ⟨rfl, rfl, hf2⟩ := hq9
  first | refine ms_isub hJ dX8_lost_9 (by omega) ?_ | refine mj_isub hJ dX8_lost_9 ?_
  exact hR _ _ _ _ _ dX8_lost_10 nar_i ⟨rfl, SmC.of (fun c hc => (hf2 c (by omega)).trans (hf1 c hc))⟩
theorem c_plain (hw : WN (N 112)) (hl : LN I (N 112)) (T : List Ln) (x : Int) : MtI G yX8_plain cX8_plain 7 (some .int) 6 [vr 0, vi x] I b (Xs I (F_plain N T x)) := by
  refine mt_enterI (own := RX8) (ls0 := [vr 0, vi x, vu, vu, vu, vu, vu]) rfl (by decide +kernel) (Nat.le_of_ble_eq_true rfl) rfl rfl (fun J hJ hR => ?_)
  have hy := hw.ny
  have a1 := bsY_bd hw (N 112 1).toNat (by omega)
  have a2 : ∀ m : Int, 0 ≤ m → m ≤ 24 → -10800 * 6 ≤ goY (N 112) T m (N 112 1).toNat ∧ goY (N 112) T m (N 112 1).toNat ≤ 7128 * 6 := fun m m0 m1 => by
    have := goY_bdW hw (T := T) (p := m) (Or.inl ⟨m0, m1⟩) (N 112 1).toNat (by omega)
    omega
  unfold F_plain at hR
  refine mj_iload_n hJ dX8_plain_0 rfl ?_
  refine mj_iconst hJ dX8_plain_1 (by decide) ?_
  refine mj_iconst hJ dX8_plain_2 (by decide) ?_
  refine mk_Sp3 hJ dX8_plain_3 cw_X8_105 rfl (Nat.le_of_ble_eq_true rfl) (by first | decide | omega) (c_within x 0 1) ?_
  by_cases h : 0 ≤ x ∧ x ≤ 1
  · rw [if_pos h] at hR ⊢
    refine mj_if_ne (tgt := 11) hJ dX8_plain_6 (by decide) (fun _ => ?_) (fun hno => absurd hno (by decide))
    refine mj_aload_n hJ dX8_plain_11 rfl ?_
    refine mk_Vi0 hJ dX8_plain_12 cw_X8_242 rfl rfl rfl rfl (Nat.le_of_ble_eq_true rfl) (by first | decide | omega) (c_bestOfYears (N 112) hw hl) (fun z I1 b1 hq9 => ?_)
    obtain ⟨rfl, rfl, hf1⟩ := hq9
    have hl1 : LN I1 (N 112) := LN.same hw hl (fun c c1 c2 => hf1 c (by omega))
    refine ms_istore_n (ls' := [_, _, _, _, _, _, _]) hJ dX8_plain_15 (by decide) rfl rfl ?_
    refine mj_iload_n hJ dX8_plain_16 rfl ?_
    refine mj_aload_n hJ dX8_plain_17 rfl ?_
    refine mj_iconst hJ dX8_plain_18 (by decide) ?_
    refine mk_Vi1 hJ dX8_plain_19 cw_X8_245 rfl rfl rfl rfl (Nat.le_of_ble_eq_true rfl) (by first | decide | omega) (c_madeInYears (N 112) hw hl1 T 0 (Or.inl ⟨by decide, by decide⟩) (fun q => absurd q (by decide))) (fun z I2 b2 hq9 => ?_)
    obtain ⟨rfl, rfl, hf2⟩ := hq9
    have a20 := a2 0 (by decide) (by decide)
    first | refine ms_isub hJ dX8_plain_22 (by omega) ?_ | refine mj_isub hJ dX8_plain_22 ?_
    refine ms_istore_n (ls' := [_, _, _, _, _, _, _]) hJ dX8_plain_23 (by decide) rfl rfl ?_
    refine mj_iconst hJ dX8_plain_24 (by decide) ?_
    refine ms_istore (ls' := [_, _, _, _, _, _, _]) hJ dX8_plain_25 (by decide) rfl rfl ?_
    refine mj_iconst hJ dX8_plain_27 (by decide) ?_
    refine ms_istore (ls' := [_, _, _, _, _, _, _]) hJ dX8_plain_28 (by decide) rfl rfl ?_
    have loop : ∀ (m k : Nat) (I3 : Ints), k + m = 24 → (∀ c, (c < 44 ∨ 57 < c) → I3 c = I c) → (-150000 ≤ (pls (N 112) T k).1 ∧ (pls (N 112) T k).1 ≤ 150000) → J 30 [vr 0, vi x, vi (bsY (N 112) (N 112 1).toNat), vi (pls (N 112) T k).1, vi (pls (N 112) T k).2, vi (k + 1), vu] [] (mk I3 b2) := by
      intro m
      induction m with
      | zero =>
        intro k I3 km hf hb
        have ek : k = 24 := by omega
        subst ek
        refine mj_iload hJ dX8_plain_30 rfl ?_
        refine mj_bipush hJ dX8_plain_32 (by decide) ?_
        refine mj_icmp_gt (tgt := 66) hJ dX8_plain_34 (by decide) (fun _ => ?_) (fun hno => absurd (by omega) hno)
        refine mj_iload_n hJ dX8_plain_66 rfl ?_
        refine mj_if_ne (tgt := 74) hJ dX8_plain_67 (by decide) (fun hx => ?_) (fun hx => ?_)
        · rw [if_neg hx] at hR
          refine mj_iload hJ dX8_plain_74 rfl ?_
          exact hR _ _ _ _ _ dX8_plain_76 nar_i ⟨rfl, SmC.of hf⟩
        · rw [if_pos hx] at hR
          refine mj_iload_n hJ dX8_plain_70 rfl ?_
          refine mj_goto (tgt := 76) hJ dX8_plain_71 (by decide) ?_
          exact hR _ _ _ _ _ dX8_plain_76 nar_i ⟨rfl, SmC.of hf⟩
      | succ m ih =>
        intro k I3 km hf hb
        have hl3 : LN I3 (N 112) := LN.same hw hl (fun c c1 c2 => hf c (by omega))
        have a2k := a2 (k + 1) (by omega) (by omega)
        have ep : pls (N 112) T (k + 1) = if bsY (N 112) (N 112 1).toNat - goY (N 112) T (k + 1) (N 112 1).toNat < (pls (N 112) T k).1 then (bsY (N 112) (N 112 1).toNat - goY (N 112) T (k + 1) (N 112 1).toNat, (k : Int) + 1) else pls (N 112) T k := rfl
        have ih := ih (k + 1)
        rw [show ((k + 1 : Nat) : Int) + 1 = (k : Int) + 1 + 1 by omega] at ih
        refine mj_iload hJ dX8_plain_30 rfl ?_
        refine mj_bipush hJ dX8_plain_32 (by decide) ?_
        refine mj_icmp_gt (tgt := 66) hJ dX8_plain_34 (by decide) (fun hyes => absurd hyes (by omega)) (fun _ => ?_)
        refine mj_iload_n hJ dX8_plain_37 rfl ?_
        refine mj_aload_n hJ dX8_plain_38 rfl ?_
        refine mj_iload hJ dX8_plain_39 rfl ?_
        refine mk_Vi1 hJ dX8_plain_41 cw_X8_245 rfl rfl rfl rfl (Nat.le_of_ble_eq_true rfl) (by first | decide | omega) (c_madeInYears (N 112) hw hl3 T (k + 1) (Or.inl ⟨by omega, by omega⟩) (fun q => by omega)) (fun z I4 b4 hq9 => ?_)
        obtain ⟨rfl, rfl, hf4⟩ := hq9
        first | refine ms_isub hJ dX8_plain_44 (by omega) ?_ | refine mj_isub hJ dX8_plain_44 ?_
        refine ms_istore (ls' := [_, _, _, _, _, _, _]) hJ dX8_plain_45 (by decide) rfl rfl ?_
        refine mj_iload hJ dX8_plain_47 rfl ?_
        refine mj_iload_n hJ dX8_plain_49 rfl ?_
        refine mj_icmp_ge (tgt := 60) hJ dX8_plain_50 (by decide) (fun hx => ?_) (fun hx => ?_)
        · rw [if_neg (by omega)] at ep
          refine ms_iinc (ls' := [_, _, _, _, _, _, _]) hJ dX8_plain_60 rfl (by decide) rfl (wr_id (by omega)) rfl ?_
          refine mj_goto (tgt := 30) hJ dX8_plain_63 (by decide) ?_
          refine mj_drop (ls' := [_, _, _, _, _, _, vu]) hJ ⟨Or.inl rfl, Or.inl rfl, Or.inl rfl, Or.inl rfl, Or.inl rfl, Or.inl rfl, Or.inr rfl, trivial⟩ ?_
          rw [ep] at ih
          exact ih I4 (by omega) (fun c hc => (hf4 c (by omega)).trans (hf c hc)) hb
        · rw [if_pos (by omega)] at ep
          refine mj_iload hJ dX8_plain_53 rfl ?_
          refine ms_istore_n (ls' := [_, _, _, _, _, _, _]) hJ dX8_plain_55 (by decide) rfl rfl ?_
          refine mj_iload hJ dX8_plain_56 rfl ?_
          refine ms_istore (ls' := [_, _, _, _, _, _, _]) hJ dX8_plain_58 (by decide) rfl rfl ?_
          refine ms_iinc (ls' := [_, _, _, _, _, _, _]) hJ dX8_plain_60 rfl (by decide) rfl (wr_id (by omega)) rfl ?_
          refine mj_goto (tgt := 30) hJ dX8_plain_63 (by decide) ?_
          refine mj_drop (ls' := [_, _, _, _, _, _, vu]) hJ ⟨Or.inl rfl, Or.inl rfl, Or.inl rfl, Or.inl rfl, Or.inl rfl, Or.inl rfl, Or.inr rfl, trivial⟩ ?_
          rw [ep] at ih
          exact ih I4 (by omega) (fun c hc => (hf4 c (by omega)).trans (hf c hc)) (by show -150000 ≤ bsY (N 112) (N 112 1).toNat - goY (N 112) T (k + 1) (N 112 1).toNat ∧ bsY (N 112) (N 112 1).toNat - goY (N 112) T (k + 1) (N 112 1).toNat ≤ 150000; omega)
    exact loop 24 0 I2 rfl (fun c hc => (hf2 c (by omega)).trans (hf1 c hc)) (by show -150000 ≤ bsY (N 112) (N 112 1).toNat - goY (N 112) T 0 (N 112 1).toNat ∧ bsY (N 112) (N 112 1).toNat - goY (N 112) T 0 (N 112 1).toNat ≤ 150000; omega)
  · rw [if_neg h] at hR ⊢
    refine mj_if_ne (tgt := 11) hJ dX8_plain_6 (by decide) (fun hyes => absurd (by decide) hyes) (fun _ => ?_)
    refine mj_iconst hJ dX8_plain_9 (by decide) ?_
    exact hR _ _ _ _ _ dX8_plain_10 nar_i ⟨rfl, SmC.rfl'⟩
theorem c_breaks (hw : WN (N 112)) (hl : LN I (N 112)) (T : List Ln) (hT : TC I 17 18 19 20 21 T) (hTW : TW T) (w : Int) : MtI G yX8_breaks cX8_breaks 4 (some .int) 5 [vr 0, vi w] I b (Xs I (F_breaks N T w)) := by
  refine mt_enterI (own := RX8) (ls0 := [vr 0, vi w, vu, vu]) rfl (by decide +kernel) (Nat.le_of_ble_eq_true rfl) rfl rfl (fun J hJ hR => ?_)
  have hn := hw.nv
  unfold F_breaks at hR
  refine mj_iload_n hJ dX8_breaks_0 rfl ?_
  refine mk_Sp1 hJ dX8_breaks_1 cw_X8_132 rfl (Nat.le_of_ble_eq_true rfl) (by first | decide | omega) (c_isWet w) ?_
  by_cases h : 0 ≤ w ∧ w ≤ 20
  · rw [if_pos h] at hR ⊢
    have hTF : ∀ v c, 0 ≤ TF (N 112) T w (-1) v c := fun v c => (TF_bdW (Or.inr ⟨rfl, hTW⟩)).1
    obtain ⟨F, hF⟩ : ∃ F, TF (N 112) T w (-1) = F := ⟨_, rfl⟩
    rw [hF] at hR hTF
    refine mj_if_ne (tgt := 9) hJ dX8_breaks_4 (by decide) (fun _ => ?_) (fun hno => absurd hno (by decide))
    refine mj_aload_n hJ dX8_breaks_9 rfl ?_
    refine mk_getR hJ dX8_breaks_10 fw_X8_26 rfl (by decide) rfl rfl ?_
    refine mj_aload_n hJ dX8_breaks_13 rfl ?_
    refine mk_getR hJ dX8_breaks_14 fw_X8_12 rfl (by decide) rfl rfl ?_
    refine mj_iload_n hJ dX8_breaks_17 rfl ?_
    refine mj_iconst hJ dX8_breaks_18 (by decide) ?_
    refine mk_Vi3 hJ dX8_breaks_19 cw_X8_233 rfl rfl rfl rfl (Nat.le_of_ble_eq_true rfl) (by first | decide | omega) (c_X7_follow hw hl T w (-1) h.1 h.2 (Or.inr ⟨rfl, hTW⟩) (fun _ => hT)) (fun z I1 b1 hq9 => ?_)
    obtain ⟨rfl, rfl, hf1, hB⟩ := hq9
    rw [hF] at hB
    have hl1 : LN I1 (N 112) := LN.same hw hl (fun c c1 c2 => hf1 c (by omega))
    have hsm : SmC I I1 := fun c hc => hf1 c (by omega)
    have loop : ∀ (m : Nat) (v : Int), 0 ≤ v → v + m = N 112 0 → brs (N 112) w F m v = brs (N 112) w F (N 112 0).toNat 0 → J 25 [vr 0, vi w, vi v, vu] [] (mk I1 b1) := by
      intro m
      induction m with
      | zero =>
        intro v v0 vm he
        refine mj_iload_n hJ dX8_breaks_25 rfl ?_
        refine mj_aload_n hJ dX8_breaks_26 rfl ?_
        refine mk_getR hJ dX8_breaks_27 fw_X8_12 rfl (by decide) rfl rfl ?_
        refine mk_getI (j' := 0) hJ dX8_breaks_30 fw_X8_94 rfl (by decide) rfl rfl ?_
        rw [hl1.1.1]
        refine mj_icmp_ge (tgt := 94) hJ dX8_breaks_33 (by decide) (fun _ => ?_) (fun hno => absurd (by omega) hno)
        refine mj_bipush hJ dX8_breaks_94 (by decide) ?_
        exact hR _ _ _ _ _ dX8_breaks_96 nar_i ⟨he, hsm⟩
      | succ m ih =>
        intro v v0 vm he
        have hBv := hB v v0 (by omega)
        have gb := g_bd hw h.1 h.2 (T := F) hTF (v := v) v0 (by omega)
        have cb := cu_bd (N 112) (v := v) (t := gC (N 112) w F v) (by omega)
        have he2 : brs (N 112) w F (m + 1) v = if gM (N 112) w F v < mde (N 112) v (cu (N 112) v (gC (N 112) w F v)) (gC (N 112) w F v - cu (N 112) v (gC (N 112) w F v)) then v else brs (N 112) w F m (v + 1) := rfl
        refine mj_iload_n hJ dX8_breaks_25 rfl ?_
        refine mj_aload_n hJ dX8_breaks_26 rfl ?_
        refine mk_getR hJ dX8_breaks_27 fw_X8_12 rfl (by decide) rfl rfl ?_
        refine mk_getI (j' := 0) hJ dX8_breaks_30 fw_X8_94 rfl (by decide) rfl rfl ?_
        rw [hl1.1.1]
        refine mj_icmp_ge (tgt := 94) hJ dX8_breaks_33 (by decide) (fun hyes => absurd hyes (by omega)) (fun _ => ?_)
        refine mj_aload_n hJ dX8_breaks_36 rfl ?_
        refine mk_getR hJ dX8_breaks_37 fw_X8_12 rfl (by decide) rfl rfl ?_
        refine mj_iload_n hJ dX8_breaks_40 rfl ?_
        refine mj_aload_n hJ dX8_breaks_41 rfl ?_
        refine mk_getR hJ dX8_breaks_42 fw_X8_26 rfl (by decide) rfl rfl ?_
        refine mk_getR hJ dX8_breaks_45 fw_X8_236 rfl (by decide) rfl rfl ?_
        refine mj_iload_n hJ dX8_breaks_48 rfl ?_
        refine mk_iald hJ dX8_breaks_49 rfl (by omega) (by omega) ?_
        rw [hBv.1]
        refine mk_Vp2 hJ dX8_breaks_50 cw_X8_248 rfl rfl rfl rfl (Nat.le_of_ble_eq_true rfl) (by first | decide | omega) (c_X2_wanted hw hl1 v (gC (N 112) w F v) v0 (by omega)) ?_
        refine ms_istore_n (ls' := [_, _, _, _]) hJ dX8_breaks_53 (by decide) rfl rfl ?_
        refine mj_aload_n hJ dX8_breaks_54 rfl ?_
        refine mk_getR hJ dX8_breaks_55 fw_X8_12 rfl (by decide) rfl rfl ?_
        refine mj_iload_n hJ dX8_breaks_58 rfl ?_
        refine mj_iload_n hJ dX8_breaks_59 rfl ?_
        refine mj_aload_n hJ dX8_breaks_60 rfl ?_
        refine mk_getR hJ dX8_breaks_61 fw_X8_26 rfl (by decide) rfl rfl ?_
        refine mk_getR hJ dX8_breaks_64 fw_X8_236 rfl (by decide) rfl rfl ?_
        refine mj_iload_n hJ dX8_breaks_67 rfl ?_
        refine mk_iald hJ dX8_breaks_68 rfl (by omega) (by omega) ?_
        rw [hBv.1]
        refine mj_iload_n hJ dX8_breaks_69 rfl ?_
        first | refine ms_isub hJ dX8_breaks_70 (by omega) ?_ | refine mj_isub hJ dX8_breaks_70 ?_
        refine mk_Vp3 hJ dX8_breaks_71 cw_X8_252 rfl rfl rfl rfl (Nat.le_of_ble_eq_true rfl) (by first | decide | omega) (c_X2_made hw hl1 v (cu (N 112) v (gC (N 112) w F v)) (gC (N 112) w F v - cu (N 112) v (gC (N 112) w F v)) v0 (by omega) cb.1 cb.2.1 (by omega) (by omega)) ?_
        refine mj_aload_n hJ dX8_breaks_74 rfl ?_
        refine mk_getR hJ dX8_breaks_75 fw_X8_26 rfl (by decide) rfl rfl ?_
        refine mk_getR hJ dX8_breaks_78 fw_X8_149 rfl (by decide) rfl rfl ?_
        refine mj_iload_n hJ dX8_breaks_81 rfl ?_
        refine mk_iald hJ dX8_breaks_82 rfl (by omega) (by omega) ?_
        rw [hBv.2.2.2.2]
        refine mj_icmp_le (tgt := 88) hJ dX8_breaks_83 (by decide) (fun hx => ?_) (fun hx => ?_)
        · rw [he2, if_neg (by omega)] at he
          refine ms_iinc (ls' := [_, _, _, _]) hJ dX8_breaks_88 rfl (by decide) rfl (wr_id (by omega)) rfl ?_
          refine mj_goto (tgt := 25) hJ dX8_breaks_91 (by decide) ?_
          refine mj_drop (ls' := [_, _, _, vu]) hJ ⟨Or.inl rfl, Or.inl rfl, Or.inl rfl, Or.inr rfl, trivial⟩ ?_
          exact ih (v + 1) (by omega) (by omega) he
        · rw [he2, if_pos (by omega)] at he
          refine mj_iload_n hJ dX8_breaks_86 rfl ?_
          exact hR _ _ _ _ _ dX8_breaks_87 nar_i ⟨he, hsm⟩
    refine mj_popi hJ dX8_breaks_22 ?_
    refine mj_iconst hJ dX8_breaks_23 (by decide) ?_
    refine ms_istore_n (ls' := [_, _, _, _]) hJ dX8_breaks_24 (by decide) rfl rfl ?_
    exact loop (N 112 0).toNat 0 (Int.le_refl _) (by omega) rfl
  · rw [if_neg h] at hR ⊢
    refine mj_if_ne (tgt := 9) hJ dX8_breaks_4 (by decide) (fun hyes => absurd (by decide) hyes) (fun _ => ?_)
    refine mj_iconst hJ dX8_breaks_7 (by decide) ?_
    exact hR _ _ _ _ _ dX8_breaks_8 nar_i ⟨rfl, SmC.rfl'⟩
end C6
