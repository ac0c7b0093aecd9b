section M15
variable {G : GE} {I : Ints} {b : Bool}
theorem c_X9_itsOf (k v : Int) (hw : WN (I 112)) (v0 : 0 ≤ v) (v1 : v < I 112 0) : MtI G yX9_itsOf cX9_itsOf 4 (some .int) 7 [vr 111, vi k, vi v] I b (fun z I' b' => z = itsv (I 112) k v ∧ b' = b ∧ (∀ c, (c < 114 ∨ 121 ≤ c) → I' c = I c)) := by
  refine mt_enterI (own := RX9) (ls0 := [vr 111, vi k, vi v, vu]) rfl (by decide +kernel) (Nat.le_of_ble_eq_true rfl) rfl rfl (fun J hJ hR => ?_)
  have hn := hw.nv
  refine mj_iload_n hJ dX9_itsOf_0 rfl ?_
  refine mj_bipush hJ dX9_itsOf_1 (by decide) ?_
  refine mj_icmp_ne (tgt := 13) hJ dX9_itsOf_3 (by decide) (fun h6 => ?_) (fun h6 => ?_)
  · refine mj_iload_n hJ dX9_itsOf_13 rfl ?_
    have A : (k = 0 ∨ k = 2) → J 22 [vr 111, vi k, vi v, vu] [] (mk I b) := by
      intro hk
      refine mj_aload_n hJ dX9_itsOf_22 rfl ?_
      refine mk_Vi0 hJ dX9_itsOf_23 cw_X9_141 rfl rfl rfl rfl (Nat.le_of_ble_eq_true rfl) (by first | decide | omega) (c_X9_findBest' hw) (fun z I1 b1 hq9 => ?_)
      obtain ⟨rfl, rfl, hf, hv⟩ := hq9
      refine ms_istore_n (ls' := [_, _, _, _]) hJ dX9_itsOf_26 (by decide) rfl rfl ?_
      refine mj_aload_n hJ dX9_itsOf_27 rfl ?_
      refine mk_getR hJ dX9_itsOf_28 fw_X9_31 rfl (by decide) rfl rfl ?_
      refine mj_iload_n hJ dX9_itsOf_31 rfl ?_
      refine mk_iald hJ dX9_itsOf_32 rfl (by omega) (by omega) ?_
      exact hR _ _ _ _ _ dX9_itsOf_33 nar_i ⟨by rw [(hv v v0 v1).2.2]; unfold itsv; rw [if_neg h6, if_pos hk], rfl, fun c hc => hf c (by omega)⟩
    have B : ¬(k = 0 ∨ k = 2) → ∀ s : Int, s = (if k = 1 then 0 else if k = 3 then 1 else if k = 4 then 2 else 3) → J 63 [vr 111, vi k, vi v, vu] [vi s, vr 111] (mk I b) := by
      intro hk s hs
      refine mk_Vv1 hJ dX9_itsOf_63 cw_X9_154 rfl rfl rfl rfl (Nat.le_of_ble_eq_true rfl) (by first | decide | omega) (c_X9_findShares s hw) (fun I1 b1 hq9 => ?_)
      obtain ⟨rfl, hf, hv⟩ := hq9
      refine mj_aload_n hJ dX9_itsOf_66 rfl ?_
      refine mk_getR hJ dX9_itsOf_67 fw_X9_34 rfl (by decide) rfl rfl ?_
      refine mj_iload_n hJ dX9_itsOf_70 rfl ?_
      refine mk_iald hJ dX9_itsOf_71 rfl (by omega) (by omega) ?_
      exact hR _ _ _ _ _ dX9_itsOf_72 nar_i ⟨by rw [(hv v v0 v1).1]; unfold itsv; rw [if_neg h6, if_neg hk, hs], rfl, fun c hc => hf c (by omega)⟩
    refine mj_if_eq (tgt := 22) hJ dX9_itsOf_14 (by decide) (fun h0 => ?_) (fun h0 => ?_)
    · exact A (Or.inl (by omega))
    · refine mj_iload_n hJ dX9_itsOf_17 rfl ?_
      refine mj_iconst hJ dX9_itsOf_18 (by decide) ?_
      refine mj_icmp_ne (tgt := 34) hJ dX9_itsOf_19 (by decide) (fun h2 => ?_) (fun h2 => ?_)
      · have hk : ¬(k = 0 ∨ k = 2) := by omega
        refine mj_aload_n hJ dX9_itsOf_34 rfl ?_
        refine mj_iload_n hJ dX9_itsOf_35 rfl ?_
        refine mj_iconst hJ dX9_itsOf_36 (by decide) ?_
        refine mj_icmp_ne (tgt := 44) hJ dX9_itsOf_37 (by decide) (fun h1 => ?_) (fun h1 => ?_)
        · refine mj_iload_n hJ dX9_itsOf_44 rfl ?_
          refine mj_iconst hJ dX9_itsOf_45 (by decide) ?_
          refine mj_icmp_ne (tgt := 53) hJ dX9_itsOf_46 (by decide) (fun h3 => ?_) (fun h3 => ?_)
          · refine mj_iload_n hJ dX9_itsOf_53 rfl ?_
            refine mj_iconst hJ dX9_itsOf_54 (by decide) ?_
            refine mj_icmp_ne (tgt := 62) hJ dX9_itsOf_55 (by decide) (fun h4 => ?_) (fun h4 => ?_)
            · refine mj_iconst hJ dX9_itsOf_62 (by decide) ?_
              exact B hk 3 (by rw [if_neg h1, if_neg h3, if_neg h4])
            · refine mj_iconst hJ dX9_itsOf_58 (by decide) ?_
              refine mj_goto (tgt := 63) hJ dX9_itsOf_59 (by decide) ?_
              exact B hk 2 (by rw [if_neg h1, if_neg h3, if_pos (by omega)])
          · refine mj_iconst hJ dX9_itsOf_49 (by decide) ?_
            refine mj_goto (tgt := 63) hJ dX9_itsOf_50 (by decide) ?_
            exact B hk 1 (by rw [if_neg h1, if_pos (by omega)])
        · refine mj_iconst hJ dX9_itsOf_40 (by decide) ?_
          refine mj_goto (tgt := 63) hJ dX9_itsOf_41 (by decide) ?_
          exact B hk 0 (by rw [if_pos (by omega)])
      · exact A (Or.inr (by omega))
  · have h6 : k = 6 := by omega
    refine mj_aload_n hJ dX9_itsOf_6 rfl ?_
    refine mj_iload_n hJ dX9_itsOf_7 rfl ?_
    refine mj_iconst hJ dX9_itsOf_8 (by decide) ?_
    refine mk_Vp2 hJ dX9_itsOf_9 cw_X9_116 rfl rfl rfl rfl (Nat.le_of_ble_eq_true rfl) (by first | decide | omega) (c_X9_of v 0 v0 (by omega) (by omega) (by omega)) ?_
    exact hR _ _ _ _ _ dX9_itsOf_12 nar_i ⟨by unfold itsv; rw [if_pos h6], rfl, fun _ _ => rfl⟩
theorem c_X9_act (s j x : Int) (hw : WN (I 112)) (hs : WS I) : MtI G yX9_act cX9_act 5 (some .int) 16 [vr 111, vi s, vi j, vi x] I b (Qg (G_act I s j x) b (F_act I s j x)) := by
  refine mt_enterI (own := RX9) (ls0 := [vr 111, vi s, vi j, vi x, vu]) rfl (by decide +kernel) (Nat.le_of_ble_eq_true rfl) rfl rfl (fun J hJ hR => ?_)
  have hn := hw.nv
  refine mj_aload_n hJ dX9_act_0 rfl ?_
  refine mj_iconst hJ dX9_act_1 (by decide) ?_
  refine mk_putI (j' := 39) hJ dX9_act_2 fw_X9_299 rfl (by decide) rfl rfl ?_
  refine mj_iload_n hJ dX9_act_5 rfl ?_
  have eS : ∀ I2 : Ints, (∀ c, c ≠ 111 → c ≠ 142 → (c < 111 ∨ c = 112 ∨ c = 113 ∨ c = 127 ∨ (135 ≤ c ∧ c ≤ 142)) → I2 c = I c) → I2 142 = (ap (I 142, 0) (actL I s j x)).1 → I2 111 39 = (ap (I 142, 0) (actL I s j x)).2 → I2 111 2 = I 111 2 → I2 111 17 = I 111 17 → I2 111 31 = I 111 31 → Same (G_act I s j x) I2 := by
    intro I2 h1 h2 h3 h4 h5 h6
    unfold G_act
    refine ⟨fun c hc => ?_, ?_, ?_, ?_, ?_⟩
    · have c1 : c ≠ 111 := by omega
      rw [upI_ne c1]
      by_cases c2 : c = 142
      · subst c2
        rw [rowI_at, h2]
      · rw [rowI_ne c2]
        exact h1 c c1 c2 hc
    · rw [upI_at, if_neg (by decide), rowI_ne (by decide), h4]
    · rw [upI_at, if_neg (by decide), rowI_ne (by decide), h5]
    · rw [upI_at, if_neg (by decide), rowI_ne (by decide), h6]
    · rw [upI_at, if_pos rfl, h3]
  have no : ¬ actP I s j → J 27 [vr 111, vi s, vi j, vi x, vu] [] (mk (upI I 111 39 0) b) := by
    intro hno
    have eL : actL I s j x = [] := by unfold actL; rw [if_neg hno]
    refine mj_iconst hJ dX9_act_27 (by decide) ?_
    exact hR _ _ _ _ _ dX9_act_28 nar_i ⟨by unfold F_act; rw [if_neg hno], rfl, eS _ (fun c c1 c2 _ => upI_ne c1) (by rw [eL, upI_ne (by decide)]; rfl) (by rw [eL, upI_at, if_pos rfl]; rfl) (by rw [upI_at, if_neg (by decide)]) (by rw [upI_at, if_neg (by decide)]) (by rw [upI_at, if_neg (by decide)])⟩
  refine mk_Sp1 hJ dX9_act_6 cw_X9_287 rfl (Nat.le_of_ble_eq_true rfl) (by first | decide | omega) (c_X9_isFour s) ?_
  by_cases h : 0 ≤ s ∧ s ≤ 3
  · rw [if_pos h]
    have hss := hs.2.1 s h.1 (by omega)
    refine mj_if_eq (tgt := 27) hJ dX9_act_9 (by decide) (fun hyes => absurd hyes (by decide)) (fun _ => ?_)
    refine mj_iload_n hJ dX9_act_12 rfl ?_
    refine mk_Sp1 hJ dX9_act_13 cw_X9_287 rfl (Nat.le_of_ble_eq_true rfl) (by first | decide | omega) (c_X9_isFour j) ?_
    by_cases h2 : 0 ≤ j ∧ j ≤ 3
    · rw [if_pos h2]
      refine mj_if_eq (tgt := 27) hJ dX9_act_16 (by decide) (fun hyes => absurd hyes (by decide)) (fun _ => ?_)
      refine mj_aload_n hJ dX9_act_19 rfl ?_
      refine mj_iload_n hJ dX9_act_20 rfl ?_
      have hT := c_X9_isThing (G := G) (I := upI I 111 39 0) (b := b) s (by rw [upI_ne (by decide)]; exact hw) h.1 h.2
      have eT : (if thgP (upI I 111 39 0) s then (1 : Int) else 0) = if thgP I s then 1 else 0 := by
        have q : thgP (upI I 111 39 0) s ↔ thgP I s := by
          unfold thgP
          rw [upI_ne (by decide), upI_ne (by decide), upI_ne (by decide)]
        by_cases c : thgP I s
        · rw [if_pos c, if_pos (q.2 c)]
        · rw [if_neg c, if_neg (fun z => c (q.1 z))]
      rw [eT] at hT
      refine mk_Vp1 hJ dX9_act_21 cw_X9_293 rfl rfl rfl rfl (Nat.le_of_ble_eq_true rfl) (by first | decide | omega) (hT) ?_
      by_cases h3 : thgP I s
      · rw [if_pos h3]
        have hP : actP I s j := ⟨h, h2, h3⟩
        have hk := hss.2.2 h3.1
        have hb := itsv_bd hw (I 140 s) h3.2.1 h3.2.2
        refine mj_if_ne (tgt := 29) hJ dX9_act_24 (by decide) (fun _ => ?_) (fun hno => absurd hno (by decide))
        refine mj_aload_n hJ dX9_act_29 rfl ?_
        refine mj_aload_n hJ dX9_act_30 rfl ?_
        refine mk_getR hJ dX9_act_31 fw_X9_95 rfl (by decide) rfl rfl ?_
        refine mj_iload_n hJ dX9_act_34 rfl ?_
        refine mk_iald hJ dX9_act_35 rfl (by omega) (by omega) ?_
        rw [upI_ne (by decide)]
        refine mk_putI (j' := 40) hJ dX9_act_36 fw_X9_302 rfl (by decide) rfl rfl ?_
        refine mj_aload_n hJ dX9_act_39 rfl ?_
        refine mj_aload_n hJ dX9_act_40 rfl ?_
        refine mk_getR hJ dX9_act_41 fw_X9_98 rfl (by decide) rfl rfl ?_
        refine mj_iload_n hJ dX9_act_44 rfl ?_
        refine mk_iald hJ dX9_act_45 rfl (by omega) (by omega) ?_
        rw [upI_ne (by decide), upI_ne (by decide)]
        refine mk_putI (j' := 42) hJ dX9_act_46 fw_X9_314 rfl (by decide) rfl rfl ?_
        refine mj_aload_n hJ dX9_act_49 rfl ?_
        refine mj_aload_n hJ dX9_act_50 rfl ?_
        refine mj_aload_n hJ dX9_act_51 rfl ?_
        refine mk_getI (j' := 40) hJ dX9_act_52 fw_X9_302 rfl (by decide) rfl rfl ?_
        rw [upI_at, if_neg (by decide), upI_at, if_pos rfl]
        refine mj_aload_n hJ dX9_act_55 rfl ?_
        refine mk_getI (j' := 42) hJ dX9_act_56 fw_X9_314 rfl (by decide) rfl rfl ?_
        rw [upI_at, if_pos rfl]
        have hI := c_X9_itsOf (G := G) (I := upI (upI (upI I 111 39 0) 111 40 (I 140 s)) 111 42 (I 141 s)) (b := b) (I 140 s) (I 141 s) (by rw [upI_ne (by decide), upI_ne (by decide), upI_ne (by decide)]; exact hw) h3.2.1 (by rw [upI_ne (by decide), upI_ne (by decide), upI_ne (by decide)]; exact h3.2.2)
        rw [upI_ne (I := upI (upI I 111 39 0) 111 40 (I 140 s)) (by decide), upI_ne (I := upI I 111 39 0) (by decide), upI_ne (I := I) (by decide)] at hI
        refine mk_Vi2 hJ dX9_act_59 cw_X9_331 rfl rfl rfl rfl (Nat.le_of_ble_eq_true rfl) (by first | decide | omega) (hI) (fun z I1 b1 hq9 => ?_)
        obtain ⟨rfl, rfl, hf⟩ := hq9
        refine mk_putI (j' := 41) hJ dX9_act_62 fw_X9_311 rfl (by decide) rfl rfl ?_
        refine mj_aload_n hJ dX9_act_65 rfl ?_
        refine mj_iconst hJ dX9_act_66 (by decide) ?_
        refine mk_putZ (j' := 43) hJ dX9_act_67 fw_X9_316 rfl (by decide) rfl (by first | exact Or.inl rfl | exact Or.inr rfl | assumption | omega) rfl ?_
        refine mj_aload_n hJ dX9_act_70 rfl ?_
        refine mj_iload_n hJ dX9_act_71 rfl ?_
        refine mj_iload_n hJ dX9_act_72 rfl ?_
        have e1 : ∀ q, I1 111 q = upI (upI (upI I 111 39 0) 111 40 (I 140 s)) 111 42 (I 141 s) 111 q := fun q => by rw [hf 111 (by omega)]
        have hA : HA (upI (upI I1 111 41 (itsv (I 112) (I 140 s) (I 141 s))) 111 43 0) (I 140 s) (itsv (I 112) (I 140 s) (I 141 s)) (I 141 s) := by
          refine ⟨⟨?_, ?_, ?_⟩, hk, by omega, by omega, ?_⟩
          · rw [upI_at, if_neg (by decide), upI_at, if_neg (by decide), e1, upI_at, if_neg (by decide), upI_at, if_pos rfl]
          · rw [upI_at, if_neg (by decide), upI_at, if_pos rfl]
          · rw [upI_at, if_neg (by decide), upI_at, if_neg (by decide), e1, upI_at, if_pos rfl]
          · rw [upI_at, if_neg (by decide), upI_at, if_neg (by decide), e1, upI_at, if_neg (by decide), upI_at, if_neg (by decide), upI_at, if_pos rfl]
            omega
        refine mk_Vi2 hJ dX9_act_73 cw_X9_322 rfl rfl rfl rfl (Nat.le_of_ble_eq_true rfl) (by first | decide | omega) (c_X9_acted j x hA h2.1 h2.2 14 13 (by decide) (by decide) (c_X9_body_A j x h2.1 h2.2 hA 13 (by decide))) (fun z I2 b2 hq9 => ?_)
        obtain ⟨rfl, rfl, t2⟩ := hq9
        have eR : oA (I 140 s) (itsv (I 112) (I 140 s) (I 141 s)) (I 141 s) j x = actR I s j x := rfl
        rw [eR] at t2
        rw [eR]
        have eL : actL I s j x = (actR I s j x).2.1 := by unfold actL; rw [if_pos hP]
        have ec : (I2 142, I2 111 39) = ap (I 142, 0) (actL I s j x) := by
          rw [t2.2.2.1, eL, upI_ne (by decide), upI_ne (by decide), hf 142 (by omega), upI_ne (by decide), upI_ne (by decide), upI_ne (by decide)]
          rw [upI_at, if_neg (by decide), upI_at, if_neg (by decide), e1, upI_at, if_neg (by decide), upI_at, if_neg (by decide), upI_at, if_pos rfl]
        have fl : ∀ q, q ≠ 39 → q ≠ 40 → q ≠ 41 → q ≠ 42 → q ≠ 43 → I2 111 q = I 111 q := fun q q1 q2 q3 q4 q5 => by
          rw [t2.2.1 q q1 q5, upI_at, if_neg q5, upI_at, if_neg q3, e1, upI_at, if_neg q4, upI_at, if_neg q2, upI_at, if_neg q1]
        have hS : Same (G_act I s j x) I2 := eS I2 (fun c c1 c2 hc => by
          rw [t2.1 c c1 c2, upI_ne c1, upI_ne c1, hf c (by omega), upI_ne c1, upI_ne c1, upI_ne c1]) (by rw [← ec]) (by rw [← ec]) (fl 2 (by decide) (by decide) (by decide) (by decide) (by decide)) (fl 17 (by decide) (by decide) (by decide) (by decide) (by decide)) (fl 31 (by decide) (by decide) (by decide) (by decide) (by decide))
        have ep := t2.2.2.2
        rw [upI_at, if_pos rfl] at ep
        refine ms_istore (ls' := [_, _, _, _, _]) hJ dX9_act_76 (by decide) rfl rfl ?_
        refine mj_aload_n hJ dX9_act_78 rfl ?_
        refine mk_getI (j' := 43) hJ dX9_act_79 fw_X9_316 rfl (by decide) rfl rfl ?_
        rw [ep]
        by_cases hp : (actR I s j x).2.2 = true
        · rw [if_pos hp]
          refine mj_if_eq (tgt := 90) hJ dX9_act_82 (by decide) (fun hyes => absurd hyes (by decide)) (fun _ => ?_)
          refine mj_bipush hJ dX9_act_85 (by decide) ?_
          refine mj_goto (tgt := 92) hJ dX9_act_87 (by decide) ?_
          exact hR _ _ _ _ _ dX9_act_92 nar_i ⟨by unfold F_act; rw [if_pos hP, if_pos hp], rfl, hS⟩
        · rw [if_neg hp]
          refine mj_if_eq (tgt := 90) hJ dX9_act_82 (by decide) (fun _ => ?_) (fun hno => absurd rfl hno)
          refine mj_iload hJ dX9_act_90 rfl ?_
          exact hR _ _ _ _ _ dX9_act_92 nar_i ⟨by unfold F_act; rw [if_pos hP, if_neg hp], rfl, hS⟩
      · rw [if_neg h3]
        refine mj_if_ne (tgt := 29) hJ dX9_act_24 (by decide) (fun hyes => absurd (by decide) hyes) (fun _ => ?_)
        exact no (fun q => h3 q.2.2)
    · rw [if_neg h2]
      refine mj_if_eq (tgt := 27) hJ dX9_act_16 (by decide) (fun _ => ?_) (fun hno => absurd (by decide) hno)
      exact no (fun q => h2 q.2.1)
  · rw [if_neg h]
    refine mj_if_eq (tgt := 27) hJ dX9_act_9 (by decide) (fun _ => ?_) (fun hno => absurd (by decide) hno)
    exact no (fun q => h q.1)
end M15
