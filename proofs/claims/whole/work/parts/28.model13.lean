section M13
variable {G : GE} {I : Ints} {b : Bool}
theorem c_X9_shelf (s w n : Int) (hw : WN (I 112)) : MtI G yX9_shelf cX9_shelf 4 (some .int) 2 [vr 111, vi s, vi w, vi n] I b (Qg (G_shelf I s w n) b (F_shelf I s w n)) := by
  refine mt_enterI (own := RX9) (ls0 := [vr 111, vi s, vi w, vi n]) rfl (by decide +kernel) (Nat.le_of_ble_eq_true rfl) rfl rfl (fun J hJ hR => ?_)
  have hn := hw.nv
  have no : ¬ shfP I s w n → J 44 [vr 111, vi s, vi w, vi n] [] (mk I b) := by
    intro hno
    refine mj_iconst hJ dX9_shelf_44 (by decide) ?_
    exact hR _ _ _ _ _ dX9_shelf_45 nar_i ⟨by unfold F_shelf; rw [if_neg hno], rfl, Same.eq (by unfold G_shelf; rw [if_neg hno])⟩
  have K46 : shfP I s w n → J 46 [vr 111, vi s, vi w, vi n] [] (mk I b) := by
    intro hP
    have p1 := hP.1
    have p2 := hP.2.1
    have K125 : ∀ x : Int, x = (if w = 7 then I 137 n else n) → J 125 [vr 111, vi s, vi w, vi n] [vi x, vi s, vr 141] (mk (upI (upI I 139 s (if w < 7 then 1 else if w = 7 ∧ 0 ≤ I 136 n then 2 else 0)) 140 s (if w = 7 then I 136 n else w)) b) := by
      intro x hx
      refine mk_iast hJ dX9_shelf_125 rfl (by omega) (by omega) ?_
      refine mj_iconst hJ dX9_shelf_126 (by decide) ?_
      rw [hx]
      exact hR _ _ _ _ _ dX9_shelf_127 nar_i ⟨by unfold F_shelf; rw [if_pos hP], rfl, Same.eq (by unfold G_shelf; rw [if_pos hP])⟩
    have K103 : ∀ x : Int, x = (if w = 7 then I 136 n else w) → J 103 [vr 111, vi s, vi w, vi n] [vi x, vi s, vr 140] (mk (upI I 139 s (if w < 7 then 1 else if w = 7 ∧ 0 ≤ I 136 n then 2 else 0)) b) := by
      intro x hx
      refine mk_iast hJ dX9_shelf_103 rfl (by omega) (by omega) ?_
      refine mj_aload_n hJ dX9_shelf_104 rfl ?_
      refine mk_getR hJ dX9_shelf_105 fw_X9_98 rfl (by decide) rfl rfl ?_
      refine mj_iload_n hJ dX9_shelf_108 rfl ?_
      refine mj_iload_n hJ dX9_shelf_109 rfl ?_
      refine mj_bipush hJ dX9_shelf_110 (by decide) ?_
      rw [hx]
      refine mj_icmp_ne (tgt := 124) hJ dX9_shelf_112 (by decide) (fun h => ?_) (fun h => ?_)
      · refine mj_iload_n hJ dX9_shelf_124 rfl ?_
        exact K125 n (by rw [if_neg h])
      · have h7 : w = 7 := by omega
        have p4 := hP.2.2.2 h7
        refine mj_aload_n hJ dX9_shelf_115 rfl ?_
        refine mk_getR hJ dX9_shelf_116 fw_X9_86 rfl (by decide) rfl rfl ?_
        refine mj_iload_n hJ dX9_shelf_119 rfl ?_
        refine mk_iald hJ dX9_shelf_120 rfl (by omega) (by omega) ?_
        rw [upI_ne (by decide), upI_ne (by decide)]
        refine mj_goto (tgt := 125) hJ dX9_shelf_121 (by decide) ?_
        exact K125 _ (by rw [if_pos h7])
    have K81 : ∀ x : Int, x = (if w < 7 then 1 else if w = 7 ∧ 0 ≤ I 136 n then 2 else 0) → J 81 [vr 111, vi s, vi w, vi n] [vi x, vi s, vr 139] (mk I b) := by
      intro x hx
      refine mk_iast hJ dX9_shelf_81 rfl (by omega) (by omega) ?_
      refine mj_aload_n hJ dX9_shelf_82 rfl ?_
      refine mk_getR hJ dX9_shelf_83 fw_X9_95 rfl (by decide) rfl rfl ?_
      refine mj_iload_n hJ dX9_shelf_86 rfl ?_
      refine mj_iload_n hJ dX9_shelf_87 rfl ?_
      refine mj_bipush hJ dX9_shelf_88 (by decide) ?_
      rw [hx]
      refine mj_icmp_ne (tgt := 102) hJ dX9_shelf_90 (by decide) (fun h => ?_) (fun h => ?_)
      · refine mj_iload_n hJ dX9_shelf_102 rfl ?_
        exact K103 w (by rw [if_neg h])
      · have h7 : w = 7 := by omega
        have p4 := hP.2.2.2 h7
        refine mj_aload_n hJ dX9_shelf_93 rfl ?_
        refine mk_getR hJ dX9_shelf_94 fw_X9_83 rfl (by decide) rfl rfl ?_
        refine mj_iload_n hJ dX9_shelf_97 rfl ?_
        refine mk_iald hJ dX9_shelf_98 rfl (by omega) (by omega) ?_
        rw [upI_ne (by decide)]
        refine mj_goto (tgt := 103) hJ dX9_shelf_99 (by decide) ?_
        exact K103 _ (by rw [if_pos h7])
    refine mj_aload_n hJ dX9_shelf_46 rfl ?_
    refine mk_getR hJ dX9_shelf_47 fw_X9_92 rfl (by decide) rfl rfl ?_
    refine mj_iload_n hJ dX9_shelf_50 rfl ?_
    refine mj_iload_n hJ dX9_shelf_51 rfl ?_
    refine mj_bipush hJ dX9_shelf_52 (by decide) ?_
    refine mj_icmp_ge (tgt := 61) hJ dX9_shelf_54 (by decide) (fun h => ?_) (fun h => ?_)
    · refine mj_iload_n hJ dX9_shelf_61 rfl ?_
      refine mj_bipush hJ dX9_shelf_62 (by decide) ?_
      refine mj_icmp_ne (tgt := 80) hJ dX9_shelf_64 (by decide) (fun h2 => ?_) (fun h2 => ?_)
      · refine mj_iconst hJ dX9_shelf_80 (by decide) ?_
        exact K81 0 (by rw [if_neg (by omega), if_neg (fun q => h2 q.1)])
      · have h7 : w = 7 := by omega
        have p4 := hP.2.2.2 h7
        refine mj_aload_n hJ dX9_shelf_67 rfl ?_
        refine mk_getR hJ dX9_shelf_68 fw_X9_83 rfl (by decide) rfl rfl ?_
        refine mj_iload_n hJ dX9_shelf_71 rfl ?_
        refine mk_iald hJ dX9_shelf_72 rfl (by omega) (by omega) ?_
        refine mj_if_lt (tgt := 80) hJ dX9_shelf_73 (by decide) (fun h3 => ?_) (fun h3 => ?_)
        · refine mj_iconst hJ dX9_shelf_80 (by decide) ?_
          exact K81 0 (by rw [if_neg (by omega), if_neg (fun q => by have := q.2; omega)])
        · refine mj_iconst hJ dX9_shelf_76 (by decide) ?_
          refine mj_goto (tgt := 81) hJ dX9_shelf_77 (by decide) ?_
          exact K81 2 (by rw [if_neg (by omega), if_pos ⟨h7, by omega⟩])
    · refine mj_iconst hJ dX9_shelf_57 (by decide) ?_
      refine mj_goto (tgt := 81) hJ dX9_shelf_58 (by decide) ?_
      exact K81 1 (by rw [if_pos (by omega)])
  refine mj_iload_n hJ dX9_shelf_0 rfl ?_
  refine mk_Sp1 hJ dX9_shelf_1 cw_X9_287 rfl (Nat.le_of_ble_eq_true rfl) (by decide) (c_X9_isFour s) ?_
  by_cases h : 0 ≤ s ∧ s ≤ 3
  · rw [if_pos h]
    refine mj_if_eq (tgt := 44) hJ dX9_shelf_4 (by decide) (fun hyes => absurd hyes (by decide)) (fun _ => ?_)
    refine mj_iload_n hJ dX9_shelf_7 rfl ?_
    refine mj_iconst hJ dX9_shelf_8 (by decide) ?_
    refine mj_bipush hJ dX9_shelf_9 (by decide) ?_
    refine mk_Sp3 hJ dX9_shelf_11 cw_X9_104 rfl (Nat.le_of_ble_eq_true rfl) (by decide) (c_X9_in w 0 8) ?_
    by_cases h2 : 0 ≤ w ∧ w ≤ 8
    · rw [if_pos h2]
      have K31 : (w < 7 → 0 ≤ n ∧ n < I 112 0) → J 31 [vr 111, vi s, vi w, vi n] [] (mk I b) := by
        intro hq
        refine mj_iload_n hJ dX9_shelf_31 rfl ?_
        refine mj_bipush hJ dX9_shelf_32 (by decide) ?_
        refine mj_icmp_ne (tgt := 46) hJ dX9_shelf_34 (by decide) (fun h7 => ?_) (fun h7 => ?_)
        · exact K46 ⟨h, h2, hq, fun q => absurd q h7⟩
        · refine mj_iload_n hJ dX9_shelf_37 rfl ?_
          refine mk_Sp1 hJ dX9_shelf_38 cw_X9_287 rfl (Nat.le_of_ble_eq_true rfl) (by decide) (c_X9_isFour n) ?_
          by_cases h4 : 0 ≤ n ∧ n ≤ 3
          · rw [if_pos h4]
            refine mj_if_ne (tgt := 46) hJ dX9_shelf_41 (by decide) (fun _ => ?_) (fun hno => absurd hno (by decide))
            exact K46 ⟨h, h2, hq, fun _ => h4⟩
          · rw [if_neg h4]
            refine mj_if_ne (tgt := 46) hJ dX9_shelf_41 (by decide) (fun hyes => absurd (by decide) hyes) (fun _ => ?_)
            exact no (fun q => h4 (q.2.2.2 (by omega)))
      refine mj_if_eq (tgt := 44) hJ dX9_shelf_14 (by decide) (fun hyes => absurd hyes (by decide)) (fun _ => ?_)
      refine mj_iload_n hJ dX9_shelf_17 rfl ?_
      refine mj_bipush hJ dX9_shelf_18 (by decide) ?_
      refine mj_icmp_ge (tgt := 31) hJ dX9_shelf_20 (by decide) (fun h3 => ?_) (fun h3 => ?_)
      · exact K31 (fun q => by omega)
      · refine mj_aload_n hJ dX9_shelf_23 rfl ?_
        refine mj_iload_n hJ dX9_shelf_24 rfl ?_
        refine mk_Vp1 hJ dX9_shelf_25 cw_X9_112 rfl rfl rfl rfl (Nat.le_of_ble_eq_true rfl) (by decide) (c_X9_isVillage n hn.1 hn.2) ?_
        by_cases h4 : 0 ≤ n ∧ n < I 112 0
        · rw [if_pos h4]
          refine mj_if_eq (tgt := 44) hJ dX9_shelf_28 (by decide) (fun hyes => absurd hyes (by decide)) (fun _ => ?_)
          exact K31 (fun _ => h4)
        · rw [if_neg h4]
          refine mj_if_eq (tgt := 44) hJ dX9_shelf_28 (by decide) (fun _ => ?_) (fun hno => absurd (by decide) hno)
          exact no (fun q => h4 (q.2.2.1 (by omega)))
    · rw [if_neg h2]
      refine mj_if_eq (tgt := 44) hJ dX9_shelf_14 (by decide) (fun _ => ?_) (fun hno => absurd (by decide) hno)
      exact no (fun q => h2 q.2.1)
  · rw [if_neg h]
    refine mj_if_eq (tgt := 44) hJ dX9_shelf_4 (by decide) (fun _ => ?_) (fun hno => absurd (by decide) hno)
    exact no (fun q => h q.1)
theorem c_X9_isThing (s : Int) (hw : WN (I 112)) (h0 : 0 ≤ s) (h1 : s ≤ 3) : MtP G yX9_isThing cX9_isThing 2 (some .boolean) 2 [vr 111, vi s] I b (if thgP I s then 1 else 0) := by
  refine mt_enterI (own := RX9) (ls0 := [vr 111, vi s]) rfl (by decide +kernel) (Nat.le_of_ble_eq_true rfl) rfl rfl (fun J hJ hR => ?_)
  have hn := hw.nv
  have no : ¬ thgP I s → J 27 [vr 111, vi s] [] (mk I b) := by
    intro hno
    refine mj_iconst hJ dX9_isThing_27 (by decide) ?_
    exact hR _ _ _ _ _ dX9_isThing_28 (nar_z (by first | exact Or.inl rfl | exact Or.inr rfl | assumption | omega)) ⟨by rw [if_neg hno], rfl, rfl⟩
  refine mj_aload_n hJ dX9_isThing_0 rfl ?_
  refine mk_getR hJ dX9_isThing_1 fw_X9_92 rfl (by decide) rfl rfl ?_
  refine mj_iload_n hJ dX9_isThing_4 rfl ?_
  refine mk_iald hJ dX9_isThing_5 rfl (by omega) (by omega) ?_
  refine mj_iconst hJ dX9_isThing_6 (by decide) ?_
  refine mj_icmp_ne (tgt := 27) hJ dX9_isThing_7 (by decide) (fun h => ?_) (fun h => ?_)
  · exact no (fun q => h q.1)
  · refine mj_aload_n hJ dX9_isThing_10 rfl ?_
    refine mj_aload_n hJ dX9_isThing_11 rfl ?_
    refine mk_getR hJ dX9_isThing_12 fw_X9_98 rfl (by decide) rfl rfl ?_
    refine mj_iload_n hJ dX9_isThing_15 rfl ?_
    refine mk_iald hJ dX9_isThing_16 rfl (by omega) (by omega) ?_
    refine mk_Vp1 hJ dX9_isThing_17 cw_X9_112 rfl rfl rfl rfl (Nat.le_of_ble_eq_true rfl) (by decide) (c_X9_isVillage (I 141 s) hn.1 hn.2) ?_
    by_cases h2 : 0 ≤ I 141 s ∧ I 141 s < I 112 0
    · rw [if_pos h2]
      refine mj_if_eq (tgt := 27) hJ dX9_isThing_20 (by decide) (fun hyes => absurd hyes (by decide)) (fun _ => ?_)
      refine mj_iconst hJ dX9_isThing_23 (by decide) ?_
      refine mj_goto (tgt := 28) hJ dX9_isThing_24 (by decide) ?_
      exact hR _ _ _ _ _ dX9_isThing_28 (nar_z (by first | exact Or.inl rfl | exact Or.inr rfl | assumption | omega)) ⟨by rw [if_pos ⟨by omega, h2⟩], rfl, rfl⟩
    · rw [if_neg h2]
      refine mj_if_eq (tgt := 27) hJ dX9_isThing_20 (by decide) (fun _ => ?_) (fun hno => absurd (by decide) hno)
      exact no (fun q => h2 q.2)
theorem c_X9_above (k : Int) : MtP G yX9_above cX9_above 1 (some .int) 0 [vi k] I b (abv k) := by
  refine mt_enterI (own := RX9) (ls0 := [vi k]) rfl (by decide +kernel) (Nat.le_of_ble_eq_true rfl) rfl rfl (fun J hJ hR => ?_)
  have z0 : (k = 1 ∨ k = 2) → J 10 [vi k] [] (mk I b) := by
    intro h
    refine mj_iconst hJ dX9_above_10 (by decide) ?_
    refine mj_goto (tgt := 38) hJ dX9_above_11 (by decide) ?_
    exact hR _ _ _ _ _ dX9_above_38 nar_i ⟨by unfold abv; rw [if_pos h], rfl, rfl⟩
  have z2 : (k = 3 ∨ k = 4) → J 24 [vi k] [] (mk I b) := by
    intro h
    refine mj_iconst hJ dX9_above_24 (by decide) ?_
    refine mj_goto (tgt := 38) hJ dX9_above_25 (by decide) ?_
    exact hR _ _ _ _ _ dX9_above_38 nar_i ⟨by unfold abv; rw [if_neg (by omega), if_pos h], rfl, rfl⟩
  refine mj_iload_n hJ dX9_above_0 rfl ?_
  refine mj_iconst hJ dX9_above_1 (by decide) ?_
  refine mj_icmp_eq (tgt := 10) hJ dX9_above_2 (by decide) (fun h1 => ?_) (fun h1 => ?_)
  · exact z0 (Or.inl h1)
  · refine mj_iload_n hJ dX9_above_5 rfl ?_
    refine mj_iconst hJ dX9_above_6 (by decide) ?_
    refine mj_icmp_ne (tgt := 14) hJ dX9_above_7 (by decide) (fun h2 => ?_) (fun h2 => ?_)
    · refine mj_iload_n hJ dX9_above_14 rfl ?_
      refine mj_iconst hJ dX9_above_15 (by decide) ?_
      refine mj_icmp_eq (tgt := 24) hJ dX9_above_16 (by decide) (fun h3 => ?_) (fun h3 => ?_)
      · exact z2 (Or.inl h3)
      · refine mj_iload_n hJ dX9_above_19 rfl ?_
        refine mj_iconst hJ dX9_above_20 (by decide) ?_
        refine mj_icmp_ne (tgt := 28) hJ dX9_above_21 (by decide) (fun h4 => ?_) (fun h4 => ?_)
        · refine mj_iload_n hJ dX9_above_28 rfl ?_
          refine mj_iconst hJ dX9_above_29 (by decide) ?_
          refine mj_icmp_ne (tgt := 37) hJ dX9_above_30 (by decide) (fun h5 => ?_) (fun h5 => ?_)
          · refine mj_iconst hJ dX9_above_37 (by decide) ?_
            exact hR _ _ _ _ _ dX9_above_38 nar_i ⟨by unfold abv; rw [if_neg (by omega), if_neg (by omega), if_neg h5], rfl, rfl⟩
          · refine mj_iconst hJ dX9_above_33 (by decide) ?_
            refine mj_goto (tgt := 38) hJ dX9_above_34 (by decide) ?_
            exact hR _ _ _ _ _ dX9_above_38 nar_i ⟨by unfold abv; rw [if_neg (by omega), if_neg (by omega), if_pos (by omega)], rfl, rfl⟩
        · exact z2 (Or.inr (by omega))
    · exact z0 (Or.inr (by omega))
theorem abv_bd {k : Int} (h : 0 ≤ k) : -1 ≤ abv k ∧ abv k < k := by
  unfold abv
  repeat' split
  all_goals omega
theorem c_X9_taken (s a : Int) (hw : WN (I 112)) (hs : WS I) : MtI G yX9_taken cX9_taken 4 (some .int) 3 [vr 111, vi s, vi a] I b (Qs I b (F_taken I s a)) := by
  refine mt_enterI (own := RX9) (ls0 := [vr 111, vi s, vi a, vu]) rfl (by decide +kernel) (Nat.le_of_ble_eq_true rfl) rfl rfl (fun J hJ hR => ?_)
  have no : ¬((0 ≤ s ∧ s ≤ 3) ∧ ((0 ≤ a ∧ a ≤ 6) ∨ (10 ≤ a ∧ a ≤ 13))) → J 28 [vr 111, vi s, vi a, vu] [] (mk I b) := by
    intro hno
    refine mj_iconst hJ dX9_taken_28 (by decide) ?_
    exact hR _ _ _ _ _ dX9_taken_29 nar_i ⟨by unfold F_taken; rw [if_neg hno], rfl, Same.rfl'⟩
  refine mj_iload_n hJ dX9_taken_0 rfl ?_
  refine mk_Sp1 hJ dX9_taken_1 cw_X9_287 rfl (Nat.le_of_ble_eq_true rfl) (by decide) (c_X9_isFour s) ?_
  by_cases h : 0 ≤ s ∧ s ≤ 3
  · rw [if_pos h]
    have hss := hs.2.1 s h.1 (by omega)
    have K30 : ((0 ≤ a ∧ a ≤ 6) ∨ (10 ≤ a ∧ a ≤ 13)) → J 30 [vr 111, vi s, vi a, vu] [] (mk I b) := by
      intro ha
      refine mj_aload_n hJ dX9_taken_30 rfl ?_
      refine mk_getR hJ dX9_taken_31 fw_X9_92 rfl (by decide) rfl rfl ?_
      refine mj_iload_n hJ dX9_taken_34 rfl ?_
      refine mk_iald hJ dX9_taken_35 rfl (by omega) (by omega) ?_
      refine mj_iconst hJ dX9_taken_36 (by decide) ?_
      refine mj_icmp_ne (tgt := 65) hJ dX9_taken_37 (by decide) (fun h2 => ?_) (fun h2 => ?_)
      · refine mj_aload_n hJ dX9_taken_65 rfl ?_
        refine mj_iload_n hJ dX9_taken_66 rfl ?_
        refine mk_Vp1 hJ dX9_taken_67 cw_X9_293 rfl rfl rfl rfl (Nat.le_of_ble_eq_true rfl) (by decide) (c_X9_isThing s hw h.1 h.2) ?_
        by_cases h3 : thgP I s
        · rw [if_pos h3]
          have hk := hss.2.2 h3.1
          have eF : F_taken I s a = if unw a 8 (I 140 s) = a then I 141 s else -13 := by unfold F_taken; rw [if_pos ⟨h, ha⟩, if_neg h2, if_pos h3]
          have fin : ∀ k : Int, k = unw a 8 (I 140 s) → J 100 [vr 111, vi s, vi a, vi k] [] (mk I b) := by
            intro k hk
            refine mj_iload_n hJ dX9_taken_100 rfl ?_
            refine mj_iload_n hJ dX9_taken_101 rfl ?_
            refine mj_icmp_ne (tgt := 114) hJ dX9_taken_102 (by decide) (fun h4 => ?_) (fun h4 => ?_)
            · refine mj_bipush hJ dX9_taken_114 (by decide) ?_
              exact hR _ _ _ _ _ dX9_taken_116 nar_i ⟨by rw [eF, if_neg (by omega)], rfl, Same.rfl'⟩
            · refine mj_aload_n hJ dX9_taken_105 rfl ?_
              refine mk_getR hJ dX9_taken_106 fw_X9_98 rfl (by decide) rfl rfl ?_
              refine mj_iload_n hJ dX9_taken_109 rfl ?_
              refine mk_iald hJ dX9_taken_110 rfl (by omega) (by omega) ?_
              refine mj_goto (tgt := 116) hJ dX9_taken_111 (by decide) ?_
              exact hR _ _ _ _ _ dX9_taken_116 nar_i ⟨by rw [eF, if_pos (by omega)], rfl, Same.rfl'⟩
          have loop : ∀ (m : Nat) (k : Int), -1 ≤ k → k < m → unw a m k = unw a 8 (I 140 s) → J 83 [vr 111, vi s, vi a, vi k] [] (mk I b) := by
            intro m
            induction m with
            | zero =>
              intro k k0 km he
              refine mj_iload_n hJ dX9_taken_83 rfl ?_
              refine mj_if_lt (tgt := 100) hJ dX9_taken_84 (by decide) (fun _ => ?_) (fun hno => absurd (by omega) hno)
              exact fin k he
            | succ m ih =>
              intro k k0 km he
              have he2 : (if 0 ≤ k ∧ k ≠ a then unw a m (abv k) else k) = unw a 8 (I 140 s) := he
              refine mj_iload_n hJ dX9_taken_83 rfl ?_
              refine mj_if_lt (tgt := 100) hJ dX9_taken_84 (by decide) (fun h4 => ?_) (fun h4 => ?_)
              · rw [if_neg (by omega)] at he2
                exact fin k he2
              · refine mj_iload_n hJ dX9_taken_87 rfl ?_
                refine mj_iload_n hJ dX9_taken_88 rfl ?_
                refine mj_icmp_eq (tgt := 100) hJ dX9_taken_89 (by decide) (fun h5 => ?_) (fun h5 => ?_)
                · rw [if_neg (fun q => q.2 h5)] at he2
                  exact fin k he2
                · rw [if_pos ⟨by omega, h5⟩] at he2
                  have ab := abv_bd (k := k) (by omega)
                  refine mj_iload_n hJ dX9_taken_92 rfl ?_
                  refine mk_Sp1 hJ dX9_taken_93 cw_X9_296 rfl (Nat.le_of_ble_eq_true rfl) (by decide) (c_X9_above k) ?_
                  refine ms_istore_n (ls' := [_, _, _, _]) hJ dX9_taken_96 (by decide) rfl rfl ?_
                  refine mj_goto (tgt := 83) hJ dX9_taken_97 (by decide) ?_
                  exact ih (abv k) ab.1 (by omega) he2
          refine mj_if_ne (tgt := 76) hJ dX9_taken_70 (by decide) (fun _ => ?_) (fun hno => absurd hno (by decide))
          refine mj_aload_n hJ dX9_taken_76 rfl ?_
          refine mk_getR hJ dX9_taken_77 fw_X9_95 rfl (by decide) rfl rfl ?_
          refine mj_iload_n hJ dX9_taken_80 rfl ?_
          refine mk_iald hJ dX9_taken_81 rfl (by omega) (by omega) ?_
          refine ms_istore_n (ls' := [_, _, _, _]) hJ dX9_taken_82 (by decide) rfl rfl ?_
          exact loop 8 _ (by omega) (by omega) rfl
        · rw [if_neg h3]
          refine mj_if_ne (tgt := 76) hJ dX9_taken_70 (by decide) (fun hyes => absurd (by decide) hyes) (fun _ => ?_)
          refine mj_bipush hJ dX9_taken_73 (by decide) ?_
          exact hR _ _ _ _ _ dX9_taken_75 nar_i ⟨by unfold F_taken; rw [if_pos ⟨h, ha⟩, if_neg h2, if_neg h3], rfl, Same.rfl'⟩
      · refine mj_iload_n hJ dX9_taken_40 rfl ?_
        refine mj_bipush hJ dX9_taken_41 (by decide) ?_
        first | refine ms_isub hJ dX9_taken_43 (by omega) ?_ | refine mj_isub hJ dX9_taken_43 ?_
        refine mj_aload_n hJ dX9_taken_44 rfl ?_
        refine mk_getR hJ dX9_taken_45 fw_X9_95 rfl (by decide) rfl rfl ?_
        refine mj_iload_n hJ dX9_taken_48 rfl ?_
        refine mk_iald hJ dX9_taken_49 rfl (by omega) (by omega) ?_
        refine mj_icmp_ne (tgt := 62) hJ dX9_taken_50 (by decide) (fun h3 => ?_) (fun h3 => ?_)
        · refine mj_bipush hJ dX9_taken_62 (by decide) ?_
          exact hR _ _ _ _ _ dX9_taken_64 nar_i ⟨by unfold F_taken; rw [if_pos ⟨h, ha⟩, if_pos (by omega), if_neg h3], rfl, Same.rfl'⟩
        · refine mj_aload_n hJ dX9_taken_53 rfl ?_
          refine mk_getR hJ dX9_taken_54 fw_X9_98 rfl (by decide) rfl rfl ?_
          refine mj_iload_n hJ dX9_taken_57 rfl ?_
          refine mk_iald hJ dX9_taken_58 rfl (by omega) (by omega) ?_
          refine mj_goto (tgt := 64) hJ dX9_taken_59 (by decide) ?_
          exact hR _ _ _ _ _ dX9_taken_64 nar_i ⟨by unfold F_taken; rw [if_pos ⟨h, ha⟩, if_pos (by omega), if_pos (by omega)], rfl, Same.rfl'⟩
    refine mj_if_eq (tgt := 28) hJ dX9_taken_4 (by decide) (fun hyes => absurd hyes (by decide)) (fun _ => ?_)
    refine mj_iload_n hJ dX9_taken_7 rfl ?_
    refine mj_iconst hJ dX9_taken_8 (by decide) ?_
    refine mj_bipush hJ dX9_taken_9 (by decide) ?_
    refine mk_Sp3 hJ dX9_taken_11 cw_X9_104 rfl (Nat.le_of_ble_eq_true rfl) (by decide) (c_X9_in a 0 6) ?_
    by_cases h2 : 0 ≤ a ∧ a ≤ 6
    · rw [if_pos h2]
      refine mj_if_ne (tgt := 30) hJ dX9_taken_14 (by decide) (fun _ => ?_) (fun hno => absurd hno (by decide))
      exact K30 (Or.inl h2)
    · rw [if_neg h2]
      refine mj_if_ne (tgt := 30) hJ dX9_taken_14 (by decide) (fun hyes => absurd (by decide) hyes) (fun _ => ?_)
      refine mj_iload_n hJ dX9_taken_17 rfl ?_
      refine mj_bipush hJ dX9_taken_18 (by decide) ?_
      refine mj_bipush hJ dX9_taken_20 (by decide) ?_
      refine mk_Sp3 hJ dX9_taken_22 cw_X9_104 rfl (Nat.le_of_ble_eq_true rfl) (by decide) (c_X9_in a 10 13) ?_
      by_cases h3 : 10 ≤ a ∧ a ≤ 13
      · rw [if_pos h3]
        refine mj_if_ne (tgt := 30) hJ dX9_taken_25 (by decide) (fun _ => ?_) (fun hno => absurd hno (by decide))
        exact K30 (Or.inr h3)
      · rw [if_neg h3]
        refine mj_if_ne (tgt := 30) hJ dX9_taken_25 (by decide) (fun hyes => absurd (by decide) hyes) (fun _ => ?_)
        exact no (fun q => q.2.elim h2 h3)
  · rw [if_neg h]
    refine mj_if_eq (tgt := 28) hJ dX9_taken_4 (by decide) (fun _ => ?_) (fun hno => absurd (by decide) hno)
    exact no (fun q => h q.1)
theorem c_X9_trace (i : Int) (hs : WS I) : MtI G yX9_trace cX9_trace 2 (some .int) 1 [vr 111, vi i] I b (Qs I b (F_trace I i)) := by
  refine mt_enterI (own := RX9) (ls0 := [vr 111, vi i]) rfl (by decide +kernel) (Nat.le_of_ble_eq_true rfl) rfl rfl (fun J hJ hR => ?_)
  have ht := hs.2.2.1
  refine mj_iload_n hJ dX9_trace_0 rfl ?_
  refine mj_iconst hJ dX9_trace_1 (by decide) ?_
  refine mj_aload_n hJ dX9_trace_2 rfl ?_
  refine mk_getI (j' := 39) hJ dX9_trace_3 fw_X9_299 rfl (by decide) rfl rfl ?_
  refine mj_iconst hJ dX9_trace_6 (by decide) ?_
  first | refine ms_isub hJ dX9_trace_7 (by omega) ?_ | refine mj_isub hJ dX9_trace_7 ?_
  refine mk_Sp3 hJ dX9_trace_8 cw_X9_104 rfl (Nat.le_of_ble_eq_true rfl) (by decide) (c_X9_in i 0 (I 111 39 - 1)) ?_
  by_cases h : 0 ≤ i ∧ i ≤ I 111 39 - 1
  · rw [if_pos h]
    refine mj_if_eq (tgt := 23) hJ dX9_trace_11 (by decide) (fun hyes => absurd hyes (by decide)) (fun _ => ?_)
    refine mj_aload_n hJ dX9_trace_14 rfl ?_
    refine mk_getR hJ dX9_trace_15 fw_X9_101 rfl (by decide) rfl rfl ?_
    refine mj_iload_n hJ dX9_trace_18 rfl ?_
    refine mk_iald hJ dX9_trace_19 rfl (by omega) (by omega) ?_
    refine mj_goto (tgt := 25) hJ dX9_trace_20 (by decide) ?_
    exact hR _ _ _ _ _ dX9_trace_25 nar_i ⟨by unfold F_trace; rw [if_pos (by omega)], rfl, Same.rfl'⟩
  · rw [if_neg h]
    refine mj_if_eq (tgt := 23) hJ dX9_trace_11 (by decide) (fun _ => ?_) (fun hno => absurd (by decide) hno)
    refine mj_bipush hJ dX9_trace_23 (by decide) ?_
    exact hR _ _ _ _ _ dX9_trace_25 nar_i ⟨by unfold F_trace; rw [if_neg (by omega)], rfl, Same.rfl'⟩
theorem c_X9_many (w : Int) : MtI G yX9_many cX9_many 2 (some .int) 0 [vr 111, vi w] I b (Qs I b (F_many I w)) := by
  refine mt_enterI (own := RX9) (ls0 := [vr 111, vi w]) rfl (by decide +kernel) (Nat.le_of_ble_eq_true rfl) rfl rfl (fun J hJ hR => ?_)
  refine mj_iload_n hJ dX9_many_0 rfl ?_
  by_cases h0 : w = 0
  · subst h0
    refine mj_tabIn (off := 47) (tgt := 48) hJ dX9_many_1 (by decide) (by decide) rfl (by decide) ?_
    refine mj_aload_n hJ dX9_many_48 rfl ?_
    refine mk_getR hJ dX9_many_49 fw_X9_9 rfl (by decide) rfl rfl ?_
    refine mj_iconst hJ dX9_many_52 (by decide) ?_
    refine mk_iald hJ dX9_many_53 rfl (by omega) (by omega) ?_
    exact hR _ _ _ _ _ dX9_many_54 nar_i ⟨rfl, rfl, Same.rfl'⟩
  · by_cases h1 : w = 1
    · subst h1
      refine mj_tabIn (off := 54) (tgt := 55) hJ dX9_many_1 (by decide) (by decide) rfl (by decide) ?_
      refine mj_aload_n hJ dX9_many_55 rfl ?_
      refine mk_getR hJ dX9_many_56 fw_X9_9 rfl (by decide) rfl rfl ?_
      refine mj_iconst hJ dX9_many_59 (by decide) ?_
      refine mk_iald hJ dX9_many_60 rfl (by omega) (by omega) ?_
      exact hR _ _ _ _ _ dX9_many_61 nar_i ⟨rfl, rfl, Same.rfl'⟩
    · by_cases h2 : w = 2
      · subst h2
        refine mj_tabIn (off := 61) (tgt := 62) hJ dX9_many_1 (by decide) (by decide) rfl (by decide) ?_
        refine mj_aload_n hJ dX9_many_62 rfl ?_
        refine mk_getR hJ dX9_many_63 fw_X9_9 rfl (by decide) rfl rfl ?_
        refine mj_iconst hJ dX9_many_66 (by decide) ?_
        refine mk_iald hJ dX9_many_67 rfl (by omega) (by omega) ?_
        exact hR _ _ _ _ _ dX9_many_68 nar_i ⟨rfl, rfl, Same.rfl'⟩
      · by_cases h3 : w = 3
        · subst h3
          refine mj_tabIn (off := 68) (tgt := 69) hJ dX9_many_1 (by decide) (by decide) rfl (by decide) ?_
          refine mj_aload_n hJ dX9_many_69 rfl ?_
          refine mk_getI (j' := 31) hJ dX9_many_70 fw_X9_281 rfl (by decide) rfl rfl ?_
          exact hR _ _ _ _ _ dX9_many_73 nar_i ⟨rfl, rfl, Same.rfl'⟩
        · by_cases h4 : w = 4
          · subst h4
            refine mj_tabIn (off := 73) (tgt := 74) hJ dX9_many_1 (by decide) (by decide) rfl (by decide) ?_
            refine mj_aload_n hJ dX9_many_74 rfl ?_
            refine mk_getI (j' := 17) hJ dX9_many_75 fw_X9_169 rfl (by decide) rfl rfl ?_
            exact hR _ _ _ _ _ dX9_many_78 nar_i ⟨rfl, rfl, Same.rfl'⟩
          · by_cases h5 : w = 5
            · subst h5
              refine mj_tabIn (off := 78) (tgt := 79) hJ dX9_many_1 (by decide) (by decide) rfl (by decide) ?_
              refine mj_aload_n hJ dX9_many_79 rfl ?_
              refine mk_getI (j' := 39) hJ dX9_many_80 fw_X9_299 rfl (by decide) rfl rfl ?_
              exact hR _ _ _ _ _ dX9_many_83 nar_i ⟨rfl, rfl, Same.rfl'⟩
            · by_cases h6 : w = 6
              · subst h6
                refine mj_tabIn (off := 83) (tgt := 84) hJ dX9_many_1 (by decide) (by decide) rfl (by decide) ?_
                refine mj_aload_n hJ dX9_many_84 rfl ?_
                refine mk_getR hJ dX9_many_85 fw_X9_9 rfl (by decide) rfl rfl ?_
                refine mj_iconst hJ dX9_many_88 (by decide) ?_
                refine mk_iald hJ dX9_many_89 rfl (by omega) (by omega) ?_
                exact hR _ _ _ _ _ dX9_many_90 nar_i ⟨rfl, rfl, Same.rfl'⟩
              · by_cases h7 : w = 7
                · subst h7
                  refine mj_tabIn (off := 90) (tgt := 91) hJ dX9_many_1 (by decide) (by decide) rfl (by decide) ?_
                  refine mj_aload_n hJ dX9_many_91 rfl ?_
                  refine mk_getR hJ dX9_many_92 fw_X9_9 rfl (by decide) rfl rfl ?_
                  refine mj_iconst hJ dX9_many_95 (by decide) ?_
                  refine mk_iald hJ dX9_many_96 rfl (by omega) (by omega) ?_
                  exact hR _ _ _ _ _ dX9_many_97 nar_i ⟨rfl, rfl, Same.rfl'⟩
                · refine mj_tabOut (tgt := 98) hJ dX9_many_1 (by omega) (by decide) ?_
                  refine mj_iconst hJ dX9_many_98 (by decide) ?_
                  exact hR _ _ _ _ _ dX9_many_99 nar_i ⟨by unfold F_many; rw [if_neg h0, if_neg h1, if_neg h2, if_neg h3, if_neg h4, if_neg h5, if_neg h6, if_neg h7], rfl, Same.rfl'⟩
theorem c_X9_keep : MtI G yX9_keep cX9_keep 2 (some .int) 0 [vr 111] I b (Qg (G_keep I) b 1) := by
  refine mt_enterI (own := RX9) (ls0 := [vr 111, vu]) rfl (by decide +kernel) (Nat.le_of_ble_eq_true rfl) rfl rfl (fun J hJ hR => ?_)
  have loop : ∀ (m : Nat) (k : Int) (I1 : Ints), 0 ≤ k → k + m = 356 → (∀ c, c ≠ 113 → I1 c = I c) → (∀ j, I1 113 j = if 0 ≤ j ∧ j < k then I 112 j else I 113 j) → J 2 [vr 111, vi k] [] (mk I1 b) := by
    intro m
    induction m with
    | zero =>
      intro k I1 k0 km hf hr
      have ek : k = 356 := by omega
      subst ek
      refine mj_iload_n hJ dX9_keep_2 rfl ?_
      refine mj_sipush hJ dX9_keep_3 (by decide) ?_
      refine mj_icmp_ge (tgt := 27) hJ dX9_keep_6 (by decide) (fun _ => ?_) (fun hno => absurd (by omega) hno)
      refine mj_aload_n hJ dX9_keep_27 rfl ?_
      refine mj_iconst hJ dX9_keep_28 (by decide) ?_
      refine mk_putZ (j' := 2) hJ dX9_keep_29 fw_X9_334 rfl (by decide) rfl (by first | exact Or.inl rfl | exact Or.inr rfl | assumption | omega) rfl ?_
      refine mj_iconst hJ dX9_keep_32 (by decide) ?_
      refine hR _ _ _ _ _ dX9_keep_33 nar_i ⟨rfl, rfl, Same.eq ?_⟩
      unfold G_keep
      funext c
      by_cases hc : c = 113
      · subst hc
        rw [upI_ne (by decide), upI_ne (by decide), rowI_at]
        exact funext hr
      · by_cases h1 : c = 111
        · subst h1
          funext j
          rw [upI_at, upI_at, rowI_ne (by decide), hf 111 (by decide)]
        · rw [upI_ne h1, upI_ne h1, rowI_ne hc, hf c hc]
    | succ m ih =>
      intro k I1 k0 km hf hr
      refine mj_iload_n hJ dX9_keep_2 rfl ?_
      refine mj_sipush hJ dX9_keep_3 (by decide) ?_
      refine mj_icmp_ge (tgt := 27) hJ dX9_keep_6 (by decide) (fun hyes => absurd hyes (by omega)) (fun _ => ?_)
      refine mj_aload_n hJ dX9_keep_9 rfl ?_
      refine mk_getR hJ dX9_keep_10 fw_X9_13 rfl (by decide) rfl rfl ?_
      refine mj_iload_n hJ dX9_keep_13 rfl ?_
      refine mj_aload_n hJ dX9_keep_14 rfl ?_
      refine mk_getR hJ dX9_keep_15 fw_X9_9 rfl (by decide) rfl rfl ?_
      refine mj_iload_n hJ dX9_keep_18 rfl ?_
      refine mk_iald hJ dX9_keep_19 rfl (by omega) (by omega) ?_
      rw [hf 112 (by decide)]
      refine mk_iast hJ dX9_keep_20 rfl (by omega) (by omega) ?_
      refine ms_iinc (ls' := [_, _]) hJ dX9_keep_21 rfl (by decide) rfl (wr_id (by omega)) rfl ?_
      refine mj_goto (tgt := 2) hJ dX9_keep_24 (by decide) ?_
      refine ih (k + 1) _ (by omega) (by omega) (fun c hc => (upI_ne hc).trans (hf c hc)) (fun j => ?_)
      rw [upI_at, hr]
      by_cases e : j = k
      · subst e
        rw [if_pos rfl, if_pos (by omega)]
      · rw [if_neg e]
        by_cases q : 0 ≤ j ∧ j < k
        · rw [if_pos q, if_pos (by omega)]
        · rw [if_neg q, if_neg (by omega)]
  refine mj_iconst hJ dX9_keep_0 (by decide) ?_
  refine ms_istore_n (ls' := [_, _]) hJ dX9_keep_1 (by decide) rfl rfl ?_
  exact loop 356 0 I (by omega) (by omega) (fun _ _ => rfl) (fun j => by rw [if_neg (by omega)])
theorem c_X9_again : MtI G yX9_again cX9_again 2 (some .int) 0 [vr 111] I b (Qg (G_again I) b (F_again I)) := by
  refine mt_enterI (own := RX9) (ls0 := [vr 111, vu]) rfl (by decide +kernel) (Nat.le_of_ble_eq_true rfl) rfl rfl (fun J hJ hR => ?_)
  refine mj_aload_n hJ dX9_again_0 rfl ?_
  refine mk_getI (j' := 2) hJ dX9_again_1 fw_X9_334 rfl (by decide) rfl rfl ?_
  refine mj_if_ne (tgt := 10) hJ dX9_again_4 (by decide) (fun h => ?_) (fun h => ?_)
  · have loop : ∀ (m : Nat) (k : Int) (I1 : Ints), 0 ≤ k → k + m = 356 → (∀ c, c ≠ 112 → I1 c = I c) → (∀ j, I1 112 j = if 0 ≤ j ∧ j < k then I 113 j else I 112 j) → J 12 [vr 111, vi k] [] (mk I1 b) := by
      intro m
      induction m with
      | zero =>
        intro k I1 k0 km hf hr
        have ek : k = 356 := by omega
        subst ek
        refine mj_iload_n hJ dX9_again_12 rfl ?_
        refine mj_sipush hJ dX9_again_13 (by decide) ?_
        refine mj_icmp_ge (tgt := 37) hJ dX9_again_16 (by decide) (fun _ => ?_) (fun hno => absurd (by omega) hno)
        refine mj_iconst hJ dX9_again_37 (by decide) ?_
        refine hR _ _ _ _ _ dX9_again_38 nar_i ⟨by unfold F_again; rw [if_neg h], rfl, Same.eq ?_⟩
        unfold G_again
        rw [if_neg h]
        funext c
        by_cases hc : c = 112
        · subst hc
          rw [rowI_at]
          exact funext hr
        · rw [rowI_ne hc, hf c hc]
      | succ m ih =>
        intro k I1 k0 km hf hr
        refine mj_iload_n hJ dX9_again_12 rfl ?_
        refine mj_sipush hJ dX9_again_13 (by decide) ?_
        refine mj_icmp_ge (tgt := 37) hJ dX9_again_16 (by decide) (fun hyes => absurd hyes (by omega)) (fun _ => ?_)
        refine mj_aload_n hJ dX9_again_19 rfl ?_
        refine mk_getR hJ dX9_again_20 fw_X9_9 rfl (by decide) rfl rfl ?_
        refine mj_iload_n hJ dX9_again_23 rfl ?_
        refine mj_aload_n hJ dX9_again_24 rfl ?_
        refine mk_getR hJ dX9_again_25 fw_X9_13 rfl (by decide) rfl rfl ?_
        refine mj_iload_n hJ dX9_again_28 rfl ?_
        refine mk_iald hJ dX9_again_29 rfl (by omega) (by omega) ?_
        rw [hf 113 (by decide)]
        refine mk_iast hJ dX9_again_30 rfl (by omega) (by omega) ?_
        refine ms_iinc (ls' := [_, _]) hJ dX9_again_31 rfl (by decide) rfl (wr_id (by omega)) rfl ?_
        refine mj_goto (tgt := 12) hJ dX9_again_34 (by decide) ?_
        refine ih (k + 1) _ (by omega) (by omega) (fun c hc => (upI_ne hc).trans (hf c hc)) (fun j => ?_)
        rw [upI_at, hr]
        by_cases e : j = k
        · subst e
          rw [if_pos rfl, if_pos (by omega)]
        · rw [if_neg e]
          by_cases q : 0 ≤ j ∧ j < k
          · rw [if_pos q, if_pos (by omega)]
          · rw [if_neg q, if_neg (by omega)]
    refine mj_iconst hJ dX9_again_10 (by decide) ?_
    refine ms_istore_n (ls' := [_, _]) hJ dX9_again_11 (by decide) rfl rfl ?_
    exact loop 356 0 I (by omega) (by omega) (fun _ _ => rfl) (fun j => by rw [if_neg (by omega)])
  · refine mj_bipush hJ dX9_again_7 (by decide) ?_
    exact hR _ _ _ _ _ dX9_again_9 nar_i ⟨by unfold F_again; rw [if_pos (by omega)], rfl, Same.eq (by unfold G_again; rw [if_pos (by omega)])⟩
end M13
