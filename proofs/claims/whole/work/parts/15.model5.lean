section M5
variable {G : GE} {I : Ints} {b : Bool}
abbrev Qs (I : Ints) (b : Bool) (F : Int) : Int → Ints → Bool → Prop := fun z I' b' => z = F ∧ b' = b ∧ Same I I'
theorem c_X9_villageOf (v w : Int) (hw : WN (I 112)) : MtI G yX9_villageOf cX9_villageOf 3 (some .int) 2 [vr 111, vi v, vi w] I b (Qs I b (F_villageOf I v w)) := by
  refine mt_enterI (own := RX9) (ls0 := [vr 111, vi v, vi w]) rfl (by decide +kernel) (Nat.le_of_ble_eq_true rfl) rfl rfl (fun J hJ hR => ?_)
  have hn := hw.nv
  refine mj_aload_n hJ dX9_villageOf_0 rfl ?_
  refine mj_iload_n hJ dX9_villageOf_1 rfl ?_
  refine mk_Vp1 hJ dX9_villageOf_2 cw_X9_112 rfl rfl rfl rfl (Nat.le_of_ble_eq_true rfl) (by decide) (c_X9_isVillage v hn.1 hn.2) ?_
  by_cases h : 0 ≤ v ∧ v < I 112 0
  · rw [if_pos h]
    refine mj_if_eq (tgt := 26) hJ dX9_villageOf_5 (by decide) (fun hyes => absurd hyes (by decide)) (fun _ => ?_)
    refine mj_iload_n hJ dX9_villageOf_8 rfl ?_
    refine mj_iconst hJ dX9_villageOf_9 (by decide) ?_
    refine mj_iconst hJ dX9_villageOf_10 (by decide) ?_
    refine mk_Sp3 hJ dX9_villageOf_11 cw_X9_104 rfl (Nat.le_of_ble_eq_true rfl) (by decide) (c_X9_in w 0 5) ?_
    by_cases h2 : 0 ≤ w ∧ w ≤ 5
    · rw [if_pos h2]
      refine mj_if_eq (tgt := 26) hJ dX9_villageOf_14 (by decide) (fun hyes => absurd hyes (by decide)) (fun _ => ?_)
      refine mj_aload_n hJ dX9_villageOf_17 rfl ?_
      refine mj_iload_n hJ dX9_villageOf_18 rfl ?_
      refine mj_iload_n hJ dX9_villageOf_19 rfl ?_
      refine mk_Vp2 hJ dX9_villageOf_20 cw_X9_116 rfl rfl rfl rfl (Nat.le_of_ble_eq_true rfl) (by decide) (c_X9_of v w h.1 (by omega) h2.1 (by omega)) ?_
      refine mj_goto (tgt := 27) hJ dX9_villageOf_23 (by decide) ?_
      exact hR _ _ _ _ _ dX9_villageOf_27 nar_i ⟨by unfold F_villageOf; rw [if_pos ⟨h, h2⟩], rfl, Same.rfl'⟩
    · rw [if_neg h2]
      refine mj_if_eq (tgt := 26) hJ dX9_villageOf_14 (by decide) (fun _ => ?_) (fun hno => absurd (by decide) hno)
      refine mj_iconst hJ dX9_villageOf_26 (by decide) ?_
      exact hR _ _ _ _ _ dX9_villageOf_27 nar_i ⟨by unfold F_villageOf; rw [if_neg (fun q => h2 q.2)], rfl, Same.rfl'⟩
  · rw [if_neg h]
    refine mj_if_eq (tgt := 26) hJ dX9_villageOf_5 (by decide) (fun _ => ?_) (fun hno => absurd (by decide) hno)
    refine mj_iconst hJ dX9_villageOf_26 (by decide) ?_
    exact hR _ _ _ _ _ dX9_villageOf_27 nar_i ⟨by unfold F_villageOf; rw [if_neg (fun q => h q.1)], rfl, Same.rfl'⟩
theorem c_X9_worth (v n : Int) (hw : WN (I 112)) : MtI G yX9_worth cX9_worth 3 (some .int) 3 [vr 111, vi v, vi n] I b (Qs I b (F_worth I v n)) := by
  refine mt_enterI (own := RX9) (ls0 := [vr 111, vi v, vi n]) rfl (by decide +kernel) (Nat.le_of_ble_eq_true rfl) rfl rfl (fun J hJ hR => ?_)
  have hn := hw.nv
  refine mj_aload_n hJ dX9_worth_0 rfl ?_
  refine mj_iload_n hJ dX9_worth_1 rfl ?_
  refine mk_Vp1 hJ dX9_worth_2 cw_X9_112 rfl rfl rfl rfl (Nat.le_of_ble_eq_true rfl) (by decide) (c_X9_isVillage v hn.1 hn.2) ?_
  by_cases h : 0 ≤ v ∧ v < I 112 0
  · rw [if_pos h]
    refine mj_if_eq (tgt := 27) hJ dX9_worth_5 (by decide) (fun hyes => absurd hyes (by decide)) (fun _ => ?_)
    refine mj_iload_n hJ dX9_worth_8 rfl ?_
    refine mj_iconst hJ dX9_worth_9 (by decide) ?_
    refine mj_bipush hJ dX9_worth_10 (by decide) ?_
    refine mk_Sp3 hJ dX9_worth_12 cw_X9_104 rfl (Nat.le_of_ble_eq_true rfl) (by decide) (c_X9_in n 0 12) ?_
    by_cases h2 : 0 ≤ n ∧ n ≤ 12
    · rw [if_pos h2]
      refine mj_if_eq (tgt := 27) hJ dX9_worth_15 (by decide) (fun hyes => absurd hyes (by decide)) (fun _ => ?_)
      refine mj_aload_n hJ dX9_worth_18 rfl ?_
      refine mj_iload_n hJ dX9_worth_19 rfl ?_
      refine mj_iload_n hJ dX9_worth_20 rfl ?_
      refine mk_Vp2 hJ dX9_worth_21 cw_X9_123 rfl rfl rfl rfl (Nat.le_of_ble_eq_true rfl) (by decide) (c_X9_firstI v n h.1 (by omega) h2.1 h2.2 hw) ?_
      refine mj_goto (tgt := 28) hJ dX9_worth_24 (by decide) ?_
      exact hR _ _ _ _ _ dX9_worth_28 nar_i ⟨by unfold F_worth; rw [if_pos ⟨h, h2⟩], rfl, Same.rfl'⟩
    · rw [if_neg h2]
      refine mj_if_eq (tgt := 27) hJ dX9_worth_15 (by decide) (fun _ => ?_) (fun hno => absurd (by decide) hno)
      refine mj_iconst hJ dX9_worth_27 (by decide) ?_
      exact hR _ _ _ _ _ dX9_worth_28 nar_i ⟨by unfold F_worth; rw [if_neg (fun q => h2 q.2)], rfl, Same.rfl'⟩
  · rw [if_neg h]
    refine mj_if_eq (tgt := 27) hJ dX9_worth_5 (by decide) (fun _ => ?_) (fun hno => absurd (by decide) hno)
    refine mj_iconst hJ dX9_worth_27 (by decide) ?_
    exact hR _ _ _ _ _ dX9_worth_28 nar_i ⟨by unfold F_worth; rw [if_neg (fun q => h q.1)], rfl, Same.rfl'⟩
theorem c_X9_best (w : Int) (hw : WN (I 112)) : MtI G yX9_best cX9_best 2 (some .int) 5 [vr 111, vi w] I b (Qs I b (F_best I w)) := by
  refine mt_enterI (own := RX9) (ls0 := [vr 111, vi w]) rfl (by decide +kernel) (Nat.le_of_ble_eq_true rfl) rfl rfl (fun J hJ hR => ?_)
  refine mj_iload_n hJ dX9_best_0 rfl ?_
  refine mj_iconst hJ dX9_best_1 (by decide) ?_
  refine mj_bipush hJ dX9_best_2 (by decide) ?_
  refine mk_Sp3 hJ dX9_best_4 cw_X9_104 rfl (Nat.le_of_ble_eq_true rfl) (by decide) (c_X9_in w 0 20) ?_
  by_cases h : 0 ≤ w ∧ w ≤ 20
  · rw [if_pos h]
    refine mj_if_eq (tgt := 18) hJ dX9_best_7 (by decide) (fun hyes => absurd hyes (by decide)) (fun _ => ?_)
    refine mj_aload_n hJ dX9_best_10 rfl ?_
    refine mj_iload_n hJ dX9_best_11 rfl ?_
    refine mk_Vi1 hJ dX9_best_12 cw_X9_136 rfl rfl rfl rfl (Nat.le_of_ble_eq_true rfl) (by decide) (c_X9_bestOf w hw h.1 h.2) (fun z I1 b1 hq9 => ?_)
    obtain ⟨rfl, rfl, hf, -, -⟩ := hq9
    refine mj_goto (tgt := 20) hJ dX9_best_15 (by decide) ?_
    exact hR _ _ _ _ _ dX9_best_20 nar_i ⟨by unfold F_best; rw [if_pos h], rfl, Same.of (fun c hc => hf c (by omega))⟩
  · rw [if_neg h]
    refine mj_if_eq (tgt := 18) hJ dX9_best_7 (by decide) (fun _ => ?_) (fun hno => absurd (by decide) hno)
    refine mj_ldc (z := -1000001) hJ dX9_best_18 (by decide) ct_X9_140 ?_
    exact hR _ _ _ _ _ dX9_best_20 nar_i ⟨by unfold F_best; rw [if_neg h], rfl, Same.rfl'⟩
theorem c_X9_run (v w : Int) (hw : WN (I 112)) : MtI G yX9_run cX9_run 3 (some .int) 5 [vr 111, vi v, vi w] I b (Qs I b (F_run I v w)) := by
  refine mt_enterI (own := RX9) (ls0 := [vr 111, vi v, vi w]) rfl (by decide +kernel) (Nat.le_of_ble_eq_true rfl) rfl rfl (fun J hJ hR => ?_)
  have hn := hw.nv
  refine mj_aload_n hJ dX9_run_0 rfl ?_
  refine mj_iload_n hJ dX9_run_1 rfl ?_
  refine mk_Vp1 hJ dX9_run_2 cw_X9_112 rfl rfl rfl rfl (Nat.le_of_ble_eq_true rfl) (by decide) (c_X9_isVillage v hn.1 hn.2) ?_
  have no : ¬((0 ≤ v ∧ v < I 112 0) ∧ (0 ≤ w ∧ w < I 112 0) ∧ v ≤ w) → J 30 [vr 111, vi v, vi w] [] (mk I b) := by
    intro hno
    refine mj_ldc (z := -1000001) hJ dX9_run_30 (by decide) ct_X9_140 ?_
    exact hR _ _ _ _ _ dX9_run_32 nar_i ⟨by unfold F_run; rw [if_neg hno], rfl, Same.rfl'⟩
  by_cases h : 0 ≤ v ∧ v < I 112 0
  · rw [if_pos h]
    refine mj_if_eq (tgt := 30) hJ dX9_run_5 (by decide) (fun hyes => absurd hyes (by decide)) (fun _ => ?_)
    refine mj_aload_n hJ dX9_run_8 rfl ?_
    refine mj_iload_n hJ dX9_run_9 rfl ?_
    refine mk_Vp1 hJ dX9_run_10 cw_X9_112 rfl rfl rfl rfl (Nat.le_of_ble_eq_true rfl) (by decide) (c_X9_isVillage w hn.1 hn.2) ?_
    by_cases h2 : 0 ≤ w ∧ w < I 112 0
    · rw [if_pos h2]
      refine mj_if_eq (tgt := 30) hJ dX9_run_13 (by decide) (fun hyes => absurd hyes (by decide)) (fun _ => ?_)
      refine mj_iload_n hJ dX9_run_16 rfl ?_
      refine mj_iload_n hJ dX9_run_17 rfl ?_
      refine mj_icmp_gt (tgt := 30) hJ dX9_run_18 (by decide) (fun h3 => ?_) (fun h3 => ?_)
      · exact no (fun q => by omega)
      · refine mj_aload_n hJ dX9_run_21 rfl ?_
        refine mj_iload_n hJ dX9_run_22 rfl ?_
        refine mj_iload_n hJ dX9_run_23 rfl ?_
        refine mk_Vi2 hJ dX9_run_24 cw_X9_145 rfl rfl rfl rfl (Nat.le_of_ble_eq_true rfl) (by decide) (c_X9_runOf v w hw h.1 (by omega) h2.2) (fun z I1 b1 hq9 => ?_)
        obtain ⟨rfl, rfl, hf⟩ := hq9
        refine mj_goto (tgt := 32) hJ dX9_run_27 (by decide) ?_
        exact hR _ _ _ _ _ dX9_run_32 nar_i ⟨by unfold F_run; rw [if_pos ⟨h, h2, by omega⟩], rfl, Same.of (fun c hc => hf c (by omega))⟩
    · rw [if_neg h2]
      refine mj_if_eq (tgt := 30) hJ dX9_run_13 (by decide) (fun _ => ?_) (fun hno => absurd (by decide) hno)
      exact no (fun q => h2 q.2.1)
  · rw [if_neg h]
    refine mj_if_eq (tgt := 30) hJ dX9_run_5 (by decide) (fun _ => ?_) (fun hno => absurd (by decide) hno)
    exact no (fun q => h q.1)
theorem c_X9_most (v : Int) (hw : WN (I 112)) : MtI G yX9_most cX9_most 2 (some .int) 4 [vr 111, vi v] I b (Qs I b (F_most I v)) := by
  refine mt_enterI (own := RX9) (ls0 := [vr 111, vi v]) rfl (by decide +kernel) (Nat.le_of_ble_eq_true rfl) rfl rfl (fun J hJ hR => ?_)
  have hn := hw.nv
  refine mj_aload_n hJ dX9_most_0 rfl ?_
  refine mj_iload_n hJ dX9_most_1 rfl ?_
  refine mk_Vp1 hJ dX9_most_2 cw_X9_112 rfl rfl rfl rfl (Nat.le_of_ble_eq_true rfl) (by decide) (c_X9_isVillage v hn.1 hn.2) ?_
  by_cases h : 0 ≤ v ∧ v < I 112 0
  · rw [if_pos h]
    refine mj_if_eq (tgt := 16) hJ dX9_most_5 (by decide) (fun hyes => absurd hyes (by decide)) (fun _ => ?_)
    refine mj_aload_n hJ dX9_most_8 rfl ?_
    refine mj_iload_n hJ dX9_most_9 rfl ?_
    refine mk_Vp1 hJ dX9_most_10 cw_X9_148 rfl rfl rfl rfl (Nat.le_of_ble_eq_true rfl) (by decide) (c_X9_mostFor v hw h.1 (by omega)) ?_
    refine mj_goto (tgt := 17) hJ dX9_most_13 (by decide) ?_
    exact hR _ _ _ _ _ dX9_most_17 nar_i ⟨by unfold F_most; rw [if_pos h], rfl, Same.rfl'⟩
  · rw [if_neg h]
    refine mj_if_eq (tgt := 16) hJ dX9_most_5 (by decide) (fun _ => ?_) (fun hno => absurd (by decide) hno)
    refine mj_iconst hJ dX9_most_16 (by decide) ?_
    exact hR _ _ _ _ _ dX9_most_17 nar_i ⟨by unfold F_most; rw [if_neg h], rfl, Same.rfl'⟩
/-- findBest, by villages as whole numbers -/
theorem c_X9_findBest' (hw : WN (I 112)) : MtI G yX9_findBest cX9_findBest 5 (some .int) 5 [vr 111] I b (fun z I' b' => z = bestv (I 112) 10 ∧ b' = b ∧ (∀ c, (c < 114 ∨ 120 ≤ c) → I' c = I c) ∧ (∀ v : Int, 0 ≤ v → v < I 112 0 → I' 117 v = bU (I 112) v ∧ I' 118 v = bP (I 112) v ∧ I' 119 v = bM (I 112) v)) := by
  intro α h1 h2 h3 h4 h5 h6
  have h := c_X9_findBest (G := G) (I := I) (b := b) hw α h1 h2 h3 h4 h5 h6
  have e : (fun (z : Int) (I' : Ints) (b' : Bool) => z = bestv (I 112) 10 ∧ b' = b ∧ (∀ c, (c < 114 ∨ 120 ≤ c) → I' c = I c) ∧ (∀ v : Nat, (v : Int) < I 112 0 → I' 117 v = puse (I 112) (infl (I 112) 10) (I 112 0 - 1) v ∧ I' 118 v = pab (I 112) (infl (I 112) 10) (I 112 0 - 1) (v + 1) ∧ I' 119 v = mde (I 112) v (puse (I 112) (infl (I 112) 10) (I 112 0 - 1) v) (pab (I 112) (infl (I 112) 10) (I 112 0 - 1) (v + 1))))
     = (fun z I' b' => z = bestv (I 112) 10 ∧ b' = b ∧ (∀ c, (c < 114 ∨ 120 ≤ c) → I' c = I c) ∧ (∀ v : Int, 0 ≤ v → v < I 112 0 → I' 117 v = bU (I 112) v ∧ I' 118 v = bP (I 112) v ∧ I' 119 v = bM (I 112) v)) := by
    funext z I' b'
    refine propext ⟨fun q => ⟨q.1, q.2.1, q.2.2.1, fun v a c => ?_⟩, fun q => ⟨q.1, q.2.1, q.2.2.1, fun v a => ?_⟩⟩
    · obtain ⟨n, rfl⟩ := Int.eq_ofNat_of_zero_le a
      exact q.2.2.2 n c
    · exact q.2.2.2 v (by omega) a
  rw [e] at h
  exact h
theorem c_X9_use (v w : Int) (hw : WN (I 112)) : MtI G yX9_use cX9_use 4 (some .int) 6 [vr 111, vi v, vi w] I b (Qs I b (F_use I v w)) := by
  refine mt_enterI (own := RX9) (ls0 := [vr 111, vi v, vi w, vu]) rfl (by decide +kernel) (Nat.le_of_ble_eq_true rfl) rfl rfl (fun J hJ hR => ?_)
  have hn := hw.nv
  refine mj_aload_n hJ dX9_use_0 rfl ?_
  refine mj_iload_n hJ dX9_use_1 rfl ?_
  refine mk_Vp1 hJ dX9_use_2 cw_X9_112 rfl rfl rfl rfl (Nat.le_of_ble_eq_true rfl) (by decide) (c_X9_isVillage v hn.1 hn.2) ?_
  by_cases h : 0 ≤ v ∧ v < I 112 0
  · rw [if_pos h]
    refine mj_if_eq (tgt := 17) hJ dX9_use_5 (by decide) (fun hyes => absurd hyes (by decide)) (fun _ => ?_)
    refine mj_iload_n hJ dX9_use_8 rfl ?_
    refine mj_iconst hJ dX9_use_9 (by decide) ?_
    refine mj_iconst hJ dX9_use_10 (by decide) ?_
    refine mk_Sp3 hJ dX9_use_11 cw_X9_104 rfl (Nat.le_of_ble_eq_true rfl) (by decide) (c_X9_in w 0 2) ?_
    by_cases h2 : 0 ≤ w ∧ w ≤ 2
    · rw [if_pos h2]
      refine mj_if_ne (tgt := 20) hJ dX9_use_14 (by decide) (fun _ => ?_) (fun hno => absurd hno (by decide))
      refine mj_aload_n hJ dX9_use_20 rfl ?_
      refine mk_Vi0 hJ dX9_use_21 cw_X9_141 rfl rfl rfl rfl (Nat.le_of_ble_eq_true rfl) (by decide) (c_X9_findBest' hw) (fun z I1 b1 hq9 => ?_)
      obtain ⟨rfl, rfl, hf, hv⟩ := hq9
      have hv := hv v h.1 h.2
      have hS : Same I I1 := Same.of (fun c hc => hf c (by omega))
      refine ms_istore_n (ls' := [_, _, _, _]) hJ dX9_use_24 (by decide) rfl rfl ?_
      refine mj_iload_n hJ dX9_use_25 rfl ?_
      refine mj_if_ne (tgt := 38) hJ dX9_use_26 (by decide) (fun h3 => ?_) (fun h3 => ?_)
      · refine mj_iload_n hJ dX9_use_38 rfl ?_
        refine mj_iconst hJ dX9_use_39 (by decide) ?_
        refine mj_icmp_ne (tgt := 52) hJ dX9_use_40 (by decide) (fun h4 => ?_) (fun h4 => ?_)
        · refine mj_aload_n hJ dX9_use_52 rfl ?_
          refine mk_getR hJ dX9_use_53 fw_X9_31 rfl (by decide) rfl rfl ?_
          refine mj_iload_n hJ dX9_use_56 rfl ?_
          refine mk_iald hJ dX9_use_57 rfl (by omega) (by omega) ?_
          exact hR _ _ _ _ _ dX9_use_58 nar_i ⟨by unfold F_use; rw [if_pos ⟨h, h2⟩, if_neg h3, if_neg h4]; exact hv.2.2, rfl, hS⟩
        · refine mj_aload_n hJ dX9_use_43 rfl ?_
          refine mk_getR hJ dX9_use_44 fw_X9_28 rfl (by decide) rfl rfl ?_
          refine mj_iload_n hJ dX9_use_47 rfl ?_
          refine mk_iald hJ dX9_use_48 rfl (by omega) (by omega) ?_
          refine mj_goto (tgt := 58) hJ dX9_use_49 (by decide) ?_
          exact hR _ _ _ _ _ dX9_use_58 nar_i ⟨by unfold F_use; rw [if_pos ⟨h, h2⟩, if_neg h3, if_pos h4]; exact hv.2.1, rfl, hS⟩
      · refine mj_aload_n hJ dX9_use_29 rfl ?_
        refine mk_getR hJ dX9_use_30 fw_X9_25 rfl (by decide) rfl rfl ?_
        refine mj_iload_n hJ dX9_use_33 rfl ?_
        refine mk_iald hJ dX9_use_34 rfl (by omega) (by omega) ?_
        refine mj_goto (tgt := 58) hJ dX9_use_35 (by decide) ?_
        exact hR _ _ _ _ _ dX9_use_58 nar_i ⟨by unfold F_use; rw [if_pos ⟨h, h2⟩, if_pos h3]; exact hv.1, rfl, hS⟩
    · rw [if_neg h2]
      refine mj_if_ne (tgt := 20) hJ dX9_use_14 (by decide) (fun hyes => absurd (by decide) hyes) (fun _ => ?_)
      refine mj_ldc (z := -1000001) hJ dX9_use_17 (by decide) ct_X9_140 ?_
      exact hR _ _ _ _ _ dX9_use_19 nar_i ⟨by unfold F_use; rw [if_neg (fun q => h2 q.2)], rfl, Same.rfl'⟩
  · rw [if_neg h]
    refine mj_if_eq (tgt := 17) hJ dX9_use_5 (by decide) (fun _ => ?_) (fun hno => absurd (by decide) hno)
    refine mj_ldc (z := -1000001) hJ dX9_use_17 (by decide) ct_X9_140 ?_
    exact hR _ _ _ _ _ dX9_use_19 nar_i ⟨by unfold F_use; rw [if_neg (fun q => h q.1)], rfl, Same.rfl'⟩
theorem c_X9_price (v : Int) (hw : WN (I 112)) : MtI G yX9_price cX9_price 3 (some .int) 5 [vr 111, vi v] I b (Qs I b (F_price I v)) := by
  refine mt_enterI (own := RX9) (ls0 := [vr 111, vi v, vu]) rfl (by decide +kernel) (Nat.le_of_ble_eq_true rfl) rfl rfl (fun J hJ hR => ?_)
  have hn := hw.nv
  refine mj_aload_n hJ dX9_price_0 rfl ?_
  refine mj_iload_n hJ dX9_price_1 rfl ?_
  refine mk_Vp1 hJ dX9_price_2 cw_X9_112 rfl rfl rfl rfl (Nat.le_of_ble_eq_true rfl) (by decide) (c_X9_isVillage v hn.1 hn.2) ?_
  by_cases h : 0 ≤ v ∧ v < I 112 0
  · rw [if_pos h]
    refine mj_if_ne (tgt := 11) hJ dX9_price_5 (by decide) (fun _ => ?_) (fun hno => absurd hno (by decide))
    refine mj_aload_n hJ dX9_price_11 rfl ?_
    refine mj_bipush hJ dX9_price_12 (by decide) ?_
    refine mk_Vi1 hJ dX9_price_14 cw_X9_136 rfl rfl rfl rfl (Nat.le_of_ble_eq_true rfl) (by decide) (c_X9_bestOf 10 hw (by omega) (by omega)) (fun z I1 b1 hq9 => ?_)
    obtain ⟨rfl, rfl, hf, hq, -⟩ := hq9
    have e112 := hf 112 (by omega)
    have hb := infl_bd hw (v := v) (w := 10) h.1 (by omega) (by omega) (by omega)
    refine ms_istore_n (ls' := [_, _, _]) hJ dX9_price_17 (by decide) rfl rfl ?_
    refine mj_aload_n hJ dX9_price_18 rfl ?_
    refine mk_getR hJ dX9_price_19 fw_X9_22 rfl (by decide) rfl rfl ?_
    refine mj_iload_n hJ dX9_price_22 rfl ?_
    refine mj_dup2 hJ dX9_price_23 ?_
    refine mk_iald hJ dX9_price_24 rfl (by omega) (by omega) ?_
    rw [hq v h.1 h.2]
    refine mj_iconst hJ dX9_price_25 (by decide) ?_
    first | refine ms_iadd hJ dX9_price_26 (by omega) ?_ | refine mj_iadd hJ dX9_price_26 ?_
    refine mk_iast hJ dX9_price_27 rfl (by omega) (by omega) ?_
    refine mj_aload_n hJ dX9_price_28 rfl ?_
    refine mj_iconst hJ dX9_price_29 (by decide) ?_
    refine mj_aload_n hJ dX9_price_30 rfl ?_
    refine mk_getR hJ dX9_price_31 fw_X9_9 rfl (by decide) rfl rfl ?_
    refine mj_iconst hJ dX9_price_34 (by decide) ?_
    refine mk_iald hJ dX9_price_35 rfl (by omega) (by omega) ?_
    rw [upI_ne (by decide), e112]
    refine mj_iconst hJ dX9_price_36 (by decide) ?_
    first | refine ms_isub hJ dX9_price_37 (by omega) ?_ | refine mj_isub hJ dX9_price_37 ?_
    have hq2 : ∀ i : Int, 0 ≤ i → i ≤ I 112 0 - 1 → upI I1 116 v (infl (I 112) 10 v + 1) 116 i = if i = v then infl (I 112) 10 v + 1 else infl (I 112) 10 i := fun i x y => by
      rw [upI_at]
      split
      · rfl
      · exact hq i x (by omega)
    have hs0 := sg_infl hw (w := 10) (by omega) (by omega) (a := 0) (l := I 112 0 - 1) (by omega) (by omega) (by omega)
    have hs : sg (upI I1 116 v (infl (I 112) 10 v + 1) 116) 0 (I 112 0 - 1) ≤ 148 := by
      rw [sg_congr hq2]
      have h6 := sg_bd (q := fun i => if i = v then infl (I 112) 10 v + 1 else infl (I 112) 10 i) (a := 0) (B := 13) (I 112 0).toNat (I 112 0 - 1) (by omega) (fun i x y => by
        show (if i = v then infl (I 112) 10 v + 1 else infl (I 112) 10 i) ≤ 13
        have f1 := (hw.fact (v := v) h.1 (by omega)).1
        have f2 := (hw.fact (v := i) x (by omega)).1
        rw [infl_10, infl_10]
        split <;> omega)
      omega
    have hM := c_X9_mostOf (G := G) (I := upI I1 116 v (infl (I 112) 10 v + 1)) (b := b1) 0 (I 112 0 - 1) (by rw [upI_ne (by decide), e112]; exact hw) (by omega) (by omega) (by omega) (fun i x y => by
      rw [hq2 i x y]
      have := infl_bd hw (v := i) (w := 10) x (by omega) (by omega) (by omega)
      split <;> omega) hs
    rw [upI_ne (by decide), e112] at hM
    have hbb := bb_bd (q := upI I1 116 v (infl (I 112) 10 v + 1) 116) hw (I 112 0 - 1 - 0).toNat 0 (upI I1 116 v (infl (I 112) 10 v + 1) 116 0) (by omega) (by omega) (by
      rw [hq2 0 (by omega) (by omega)]
      have := infl_bd hw (v := 0) (w := 10) (by omega) (by omega) (by omega) (by omega)
      split <;> omega) (fun i x y => by
      rw [hq2 i (by omega) (by omega)]
      have := infl_bd hw (v := i) (w := 10) (by omega) (by omega) (by omega) (by omega)
      split <;> omega) (by
      have hr := sg_rest (q := upI I1 116 v (infl (I 112) 10 v + 1) 116) (a := 0) (w := 0) (l := I 112 0 - 1) (by omega) (by omega)
      rw [sg_at] at hr
      omega)
    have hbv : -10800 ≤ bestv (I 112) 10 ∧ bestv (I 112) 10 ≤ 7128 := bestv_bd hw (by omega) (by omega)
    refine mk_Vi2 hJ dX9_price_38 cw_X9_133 rfl rfl rfl rfl (Nat.le_of_ble_eq_true rfl) (by decide) (hM) (fun z I2 b2 hq9 => ?_)
    obtain ⟨rfl, rfl, hf2, -⟩ := hq9
    refine mj_iload_n hJ dX9_price_41 rfl ?_
    first | refine ms_isub hJ dX9_price_42 (by omega) ?_ | refine mj_isub hJ dX9_price_42 ?_
    refine hR _ _ _ _ _ dX9_price_43 nar_i ⟨?_, rfl, Same.of (fun c hc => ?_)⟩
    · unfold F_price
      rw [if_pos h, bb_congr (q' := fun i => if i = v then infl (I 112) 10 v + 1 else infl (I 112) 10 i) _ _ _ (fun i x y => hq2 i (by omega) (by omega)), hq2 0 (by omega) (by omega), show I 112 0 - 1 - 0 = I 112 0 - 1 by omega]
    · rw [hf2 c (by omega) (by omega), upI_ne (by omega)]
      exact hf c (by omega)
  · rw [if_neg h]
    refine mj_if_ne (tgt := 11) hJ dX9_price_5 (by decide) (fun hyes => absurd (by decide) hyes) (fun _ => ?_)
    refine mj_ldc (z := -1000001) hJ dX9_price_8 (by decide) ct_X9_140 ?_
    exact hR _ _ _ _ _ dX9_price_10 nar_i ⟨by unfold F_price; rw [if_neg h], rfl, Same.rfl'⟩
end M5
