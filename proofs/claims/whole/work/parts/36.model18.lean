section M18
variable {G : GE} {I : Ints} {b : Bool}
theorem c_X9_feed (e : Int64) (n : Int) (hs : WS I) : MtI G yX9_feed cX9_feed 5 (some .int) 1 [vr 111, vj e, vi n] I b (Qg (G_feed I e n) b (F_feed I n)) := by
  refine mt_enterI (own := RX9) (ls0 := [vr 111, vj e, vu, vi n, vu]) rfl (by decide +kernel) (Nat.le_of_ble_eq_true rfl) rfl rfl (fun J hJ hR => ?_)
  have ht := hs.2.2.2
  refine mj_iload_n hJ dX9_feed_0 rfl ?_
  refine mj_iconst hJ dX9_feed_1 (by decide) ?_
  refine mj_bipush hJ dX9_feed_2 (by decide) ?_
  refine mk_Sp3 hJ dX9_feed_4 cw_X9_104 rfl (Nat.le_of_ble_eq_true rfl) (by first | decide | omega) (c_X9_in n 1 8) ?_
  by_cases h : 1 ≤ n ∧ n ≤ 8
  · rw [if_pos h]
    refine mj_if_ne (tgt := 12) hJ dX9_feed_7 (by decide) (fun _ => ?_) (fun hno => absurd hno (by decide))
    refine mj_aload_n hJ dX9_feed_12 rfl ?_
    refine mk_getI (j' := 17) hJ dX9_feed_13 fw_X9_169 rfl (by decide) rfl rfl ?_
    refine mj_iload_n hJ dX9_feed_16 rfl ?_
    first | refine ms_iadd hJ dX9_feed_17 (by omega) ?_ | refine mj_iadd hJ dX9_feed_17 ?_
    refine mj_sipush hJ dX9_feed_18 (by decide) ?_
    refine mj_icmp_le (tgt := 27) hJ dX9_feed_21 (by decide) (fun h2 => ?_) (fun h2 => ?_)
    · have hP : feedP I n := ⟨h, h2⟩
      have loop : ∀ (m : Nat) (k : Int) (I1 : Ints), 0 ≤ k → k + m = n → (∀ c, c ≠ 111 → c ≠ 127 → I1 c = I c) → (∀ j, j ≠ 17 → I1 111 j = I 111 j) → I1 111 17 = I 111 17 + k → (∀ j, I1 127 j = if I 111 17 ≤ j ∧ j < I 111 17 + k then byt e (j - I 111 17) else I 127 j) → J 30 [vr 111, vj e, vu, vi n, vi k] [] (mk I1 b) := by
        intro m
        induction m with
        | zero =>
          intro k I1 k0 km hf h1 h17 hr
          have ek : k = n := by omega
          subst ek
          refine mj_iload hJ dX9_feed_30 rfl ?_
          refine mj_iload_n hJ dX9_feed_32 rfl ?_
          refine mj_icmp_ge (tgt := 73) hJ dX9_feed_33 (by decide) (fun _ => ?_) (fun hno => absurd (by omega) hno)
          refine mj_aload_n hJ dX9_feed_73 rfl ?_
          refine mk_getI (j' := 17) hJ dX9_feed_74 fw_X9_169 rfl (by decide) rfl rfl ?_
          rw [h17]
          refine hR _ _ _ _ _ dX9_feed_77 nar_i ⟨by unfold F_feed; rw [if_pos h, if_pos h2], rfl, Same.eq ?_⟩
          unfold G_feed
          rw [if_pos hP]
          funext c
          by_cases c1 : c = 111
          · subst c1
            funext j
            rw [upI_at, rowI_ne (by decide)]
            by_cases j1 : j = 17
            · subst j1
              rw [if_pos rfl, h17]
            · rw [if_neg j1, h1 j j1]
          · rw [upI_ne c1]
            by_cases c2 : c = 127
            · subst c2
              rw [rowI_at]
              exact funext hr
            · rw [rowI_ne c2, hf c c1 c2]
        | succ m ih =>
          intro k I1 k0 km hf h1 h17 hr
          refine mj_iload hJ dX9_feed_30 rfl ?_
          refine mj_iload_n hJ dX9_feed_32 rfl ?_
          refine mj_icmp_ge (tgt := 73) hJ dX9_feed_33 (by decide) (fun hyes => absurd hyes (by omega)) (fun _ => ?_)
          refine mj_aload_n hJ dX9_feed_36 rfl ?_
          refine mk_getR hJ dX9_feed_37 fw_X9_56 rfl (by decide) rfl rfl ?_
          refine mj_aload_n hJ dX9_feed_40 rfl ?_
          refine mk_getI (j' := 17) hJ dX9_feed_41 fw_X9_169 rfl (by decide) rfl rfl ?_
          rw [h17]
          refine mj_lload_n hJ dX9_feed_44 rfl ?_
          refine mj_bipush hJ dX9_feed_45 (by decide) ?_
          refine mj_iload hJ dX9_feed_47 rfl ?_
          first | refine ms_imul hJ dX9_feed_49 (by omega) ?_ | refine mj_imul hJ dX9_feed_49 ?_
          refine mj_lshr hJ dX9_feed_50 ?_
          refine mj_ldc2 hJ dX9_feed_51 ct_X9_173 ?_
          refine mj_land hJ dX9_feed_54 ?_
          refine mj_l2i hJ dX9_feed_55 ?_
          rw [show ((e >>> ((i32 (8 * k)).toInt64 &&& 63)) &&& 255).toInt32.toInt = byt e k from rfl]
          refine mk_iast hJ dX9_feed_56 rfl (by omega) (by omega) ?_
          refine mj_aload_n hJ dX9_feed_57 rfl ?_
          refine mj_dupr hJ dX9_feed_58 ?_
          refine mk_getI (j' := 17) hJ dX9_feed_59 fw_X9_169 rfl (by decide) rfl rfl ?_
          rw [upI_ne (by decide), h17]
          refine mj_iconst hJ dX9_feed_62 (by decide) ?_
          first | refine ms_iadd hJ dX9_feed_63 (by omega) ?_ | refine mj_iadd hJ dX9_feed_63 ?_
          refine mk_putI (j' := 17) hJ dX9_feed_64 fw_X9_169 rfl (by decide) rfl rfl ?_
          refine ms_iinc (ls' := [_, _, _, _, _]) hJ dX9_feed_67 rfl (by decide) rfl (wr_id (by omega)) rfl ?_
          refine mj_goto (tgt := 30) hJ dX9_feed_70 (by decide) ?_
          refine ih (k + 1) _ (by omega) (by omega) (fun c c1 c2 => by rw [upI_ne c1, upI_ne c2]; exact hf c c1 c2) (fun j j1 => by rw [upI_at, if_neg j1, upI_ne (by decide)]; exact h1 j j1) (by rw [upI_at, if_pos rfl]; omega) (fun j => ?_)
          rw [upI_ne (by decide), upI_at, hr]
          by_cases ej : j = I 111 17 + k
          · subst ej
            rw [if_pos rfl, if_pos (by omega), show I 111 17 + k - I 111 17 = k by omega]
          · rw [if_neg ej]
            by_cases q : I 111 17 ≤ j ∧ j < I 111 17 + k
            · rw [if_pos q, if_pos (show I 111 17 ≤ j ∧ j < I 111 17 + (k + 1) by omega)]
            · rw [if_neg q, if_neg (show ¬(I 111 17 ≤ j ∧ j < I 111 17 + (k + 1)) by omega)]
      refine mj_iconst hJ dX9_feed_27 (by decide) ?_
      refine ms_istore (ls' := [_, _, _, _, _]) hJ dX9_feed_28 (by decide) rfl rfl ?_
      exact loop n.toNat 0 I (by omega) (by omega) (fun _ _ _ => rfl) (fun _ _ => rfl) (by omega) (fun j => by rw [if_neg (by omega)])
    · refine mj_bipush hJ dX9_feed_24 (by decide) ?_
      exact hR _ _ _ _ _ dX9_feed_26 nar_i ⟨by unfold F_feed; rw [if_pos h, if_neg h2], rfl, Same.eq (by unfold G_feed; rw [if_neg (fun q => h2 q.2)])⟩
  · rw [if_neg h]
    refine mj_if_ne (tgt := 12) hJ dX9_feed_7 (by decide) (fun hyes => absurd (by decide) hyes) (fun _ => ?_)
    refine mj_iconst hJ dX9_feed_10 (by decide) ?_
    exact hR _ _ _ _ _ dX9_feed_11 nar_i ⟨by unfold F_feed; rw [if_neg h], rfl, Same.eq (by unfold G_feed; rw [if_neg (fun q => h q.1)])⟩
theorem c_X9_isLetter (p : Int) (h0 : 0 ≤ p) (hn : I 111 17 ≤ 200) : MtP G yX9_isLetter cX9_isLetter 2 (some .boolean) 1 [vr 111, vi p] I b (if ltr (I 127) (I 111 17) p then 1 else 0) := by
  refine mt_enterI (own := RX9) (ls0 := [vr 111, vi p]) rfl (by decide +kernel) (Nat.le_of_ble_eq_true rfl) rfl rfl (fun J hJ hR => ?_)
  have no : ¬ ltr (I 127) (I 111 17) p → J 28 [vr 111, vi p] [] (mk I b) := by
    intro h
    refine mj_iconst hJ dX9_isLetter_28 (by decide) ?_
    exact hR _ _ _ _ _ dX9_isLetter_29 (nar_z (by first | exact Or.inl rfl | exact Or.inr rfl | assumption | omega)) ⟨by rw [if_neg h], rfl, rfl⟩
  refine mj_iload_n hJ dX9_isLetter_0 rfl ?_
  refine mj_aload_n hJ dX9_isLetter_1 rfl ?_
  refine mk_getI (j' := 17) hJ dX9_isLetter_2 fw_X9_169 rfl (by decide) rfl rfl ?_
  refine mj_icmp_ge (tgt := 28) hJ dX9_isLetter_5 (by decide) (fun h => ?_) (fun h => ?_)
  · exact no (fun q => by have := q.1; omega)
  · refine mj_aload_n hJ dX9_isLetter_8 rfl ?_
    refine mk_getR hJ dX9_isLetter_9 fw_X9_56 rfl (by decide) rfl rfl ?_
    refine mj_iload_n hJ dX9_isLetter_12 rfl ?_
    refine mk_iald hJ dX9_isLetter_13 rfl (by omega) (by omega) ?_
    refine mj_bipush hJ dX9_isLetter_14 (by decide) ?_
    refine mj_bipush hJ dX9_isLetter_16 (by decide) ?_
    refine mk_Sp3 hJ dX9_isLetter_18 cw_X9_104 rfl (Nat.le_of_ble_eq_true rfl) (by first | decide | omega) (c_X9_in (I 127 p) 97 122) ?_
    by_cases h2 : 97 ≤ I 127 p ∧ I 127 p ≤ 122
    · rw [if_pos h2]
      refine mj_if_eq (tgt := 28) hJ dX9_isLetter_21 (by decide) (fun hyes => absurd hyes (by decide)) (fun _ => ?_)
      refine mj_iconst hJ dX9_isLetter_24 (by decide) ?_
      refine mj_goto (tgt := 29) hJ dX9_isLetter_25 (by decide) ?_
      exact hR _ _ _ _ _ dX9_isLetter_29 (nar_z (by first | exact Or.inl rfl | exact Or.inr rfl | assumption | omega)) ⟨by rw [if_pos ⟨by omega, h2⟩], rfl, rfl⟩
    · rw [if_neg h2]
      refine mj_if_eq (tgt := 28) hJ dX9_isLetter_21 (by decide) (fun _ => ?_) (fun hno => absurd rfl hno)
      exact no (fun q => h2 q.2)
theorem c_X9_isDigit (p : Int) (h0 : 0 ≤ p) (hn : I 111 17 ≤ 200) : MtP G yX9_isDigit cX9_isDigit 2 (some .boolean) 1 [vr 111, vi p] I b (if dgt (I 127) (I 111 17) p then 1 else 0) := by
  refine mt_enterI (own := RX9) (ls0 := [vr 111, vi p]) rfl (by decide +kernel) (Nat.le_of_ble_eq_true rfl) rfl rfl (fun J hJ hR => ?_)
  have no : ¬ dgt (I 127) (I 111 17) p → J 28 [vr 111, vi p] [] (mk I b) := by
    intro h
    refine mj_iconst hJ dX9_isDigit_28 (by decide) ?_
    exact hR _ _ _ _ _ dX9_isDigit_29 (nar_z (by first | exact Or.inl rfl | exact Or.inr rfl | assumption | omega)) ⟨by rw [if_neg h], rfl, rfl⟩
  refine mj_iload_n hJ dX9_isDigit_0 rfl ?_
  refine mj_aload_n hJ dX9_isDigit_1 rfl ?_
  refine mk_getI (j' := 17) hJ dX9_isDigit_2 fw_X9_169 rfl (by decide) rfl rfl ?_
  refine mj_icmp_ge (tgt := 28) hJ dX9_isDigit_5 (by decide) (fun h => ?_) (fun h => ?_)
  · exact no (fun q => by have := q.1; omega)
  · refine mj_aload_n hJ dX9_isDigit_8 rfl ?_
    refine mk_getR hJ dX9_isDigit_9 fw_X9_56 rfl (by decide) rfl rfl ?_
    refine mj_iload_n hJ dX9_isDigit_12 rfl ?_
    refine mk_iald hJ dX9_isDigit_13 rfl (by omega) (by omega) ?_
    refine mj_bipush hJ dX9_isDigit_14 (by decide) ?_
    refine mj_bipush hJ dX9_isDigit_16 (by decide) ?_
    refine mk_Sp3 hJ dX9_isDigit_18 cw_X9_104 rfl (Nat.le_of_ble_eq_true rfl) (by first | decide | omega) (c_X9_in (I 127 p) 48 57) ?_
    by_cases h2 : 48 ≤ I 127 p ∧ I 127 p ≤ 57
    · rw [if_pos h2]
      refine mj_if_eq (tgt := 28) hJ dX9_isDigit_21 (by decide) (fun hyes => absurd hyes (by decide)) (fun _ => ?_)
      refine mj_iconst hJ dX9_isDigit_24 (by decide) ?_
      refine mj_goto (tgt := 29) hJ dX9_isDigit_25 (by decide) ?_
      exact hR _ _ _ _ _ dX9_isDigit_29 (nar_z (by first | exact Or.inl rfl | exact Or.inr rfl | assumption | omega)) ⟨by rw [if_pos ⟨by omega, h2⟩], rfl, rfl⟩
    · rw [if_neg h2]
      refine mj_if_eq (tgt := 28) hJ dX9_isDigit_21 (by decide) (fun _ => ?_) (fun hno => absurd rfl hno)
      exact no (fun q => h2 q.2)
/-- the reader stands at place p: from there its part goes on to the end -/
theorem c_X9_next (t : Int) (hto : I 111 19 = t) (t0 : 0 ≤ t) (t1 : t ≤ I 111 17) (hn : I 111 17 ≤ 200) :
    MtV G yX9_next cX9_next 1 2 [vr 111] I b (fun I' b' => b' = b ∧ (∀ c, c ≠ 111 → I' c = I c) ∧ (∀ j, j ≠ 18 → j ≠ 19 → I' 111 j = I 111 j) ∧ I' 111 18 = skp (I 127) (I 111 17) t ∧ I' 111 19 = tend (I 127) (I 111 17) (skp (I 127) (I 111 17) t)) := by
  refine mt_enterV (own := RX9) (ls0 := [vr 111]) rfl (by decide +kernel) (Nat.le_of_ble_eq_true rfl) rfl (fun J hJ hR => ?_)
  obtain ⟨s, hS⟩ : ∃ s, skp (I 127) (I 111 17) t = s := ⟨_, rfl⟩
  rw [hS] at hR
  have sb := skp_bd (g := I 127) t1
  rw [hS] at sb
  have tb := tend_bd (g := I 127) sb.2
  -- to the end of the part
  have L2 : ∀ (m : Nat) (q : Int) (I1 : Ints), s < I 111 17 → s < q → q + m = I 111 17 → (∀ c, c ≠ 111 → I1 c = I c) → (∀ j, j ≠ 18 → j ≠ 19 → I1 111 j = I 111 j) → I1 111 18 = s → I1 111 19 = q → ten (I 127) (I 111 17) s m q = tend (I 127) (I 111 17) s → J 74 [vr 111] [] (mk I1 b) := by
    intro m
    induction m with
    | zero =>
      intro q I1 s1 q0 qm hf h1 h18 h19 he
      have e17 := h1 17 (by decide) (by decide)
      have e127 := hf 127 (by decide)
      have nl : ¬ ltr (I 127) (I 111 17) q := fun z => by have := z.1; omega
      have nd : ¬ dgt (I 127) (I 111 17) q := fun z => by have := z.1; omega
      have K131 : J 131 [vr 111] [] (mk I1 b) := by
        exact hR _ _ _ _ dX9_next_131 ⟨rfl, hf, h1, h18, by rw [h19]; exact he⟩
      have K96 : J 96 [vr 111] [] (mk I1 b) := by
        refine mj_aload_n hJ dX9_next_96 rfl ?_
        refine mj_aload_n hJ dX9_next_97 rfl ?_
        refine mk_getI (j' := 18) hJ dX9_next_98 fw_X9_178 rfl (by decide) rfl rfl ?_
        refine mk_Vp1 hJ dX9_next_101 cw_X9_184 rfl rfl rfl rfl (Nat.le_of_ble_eq_true rfl) (by first | decide | omega) (c_X9_isDigit _ (by rw [h18]; omega) (by rw [e17]; exact hn)) ?_
        rw [e127, e17, h18]
        by_cases hd : dgt (I 127) (I 111 17) s
        · rw [if_pos hd]
          refine mj_if_eq (tgt := 131) hJ dX9_next_104 (by decide) (fun hyes => absurd hyes (by decide)) (fun _ => ?_)
          refine mj_aload_n hJ dX9_next_107 rfl ?_
          refine mj_aload_n hJ dX9_next_108 rfl ?_
          refine mk_getI (j' := 19) hJ dX9_next_109 fw_X9_175 rfl (by decide) rfl rfl ?_
          refine mk_Vp1 hJ dX9_next_112 cw_X9_184 rfl rfl rfl rfl (Nat.le_of_ble_eq_true rfl) (by first | decide | omega) (c_X9_isDigit _ (by rw [h19]; omega) (by rw [e17]; exact hn)) ?_
          rw [e127, e17, h19, if_neg nd]
          refine mj_if_eq (tgt := 131) hJ dX9_next_115 (by decide) (fun _ => ?_) (fun hno => absurd rfl hno)
          exact K131
        · rw [if_neg hd]
          refine mj_if_eq (tgt := 131) hJ dX9_next_104 (by decide) (fun _ => ?_) (fun hno => absurd rfl hno)
          exact K131
      refine mj_aload_n hJ dX9_next_74 rfl ?_
      refine mj_aload_n hJ dX9_next_75 rfl ?_
      refine mk_getI (j' := 18) hJ dX9_next_76 fw_X9_178 rfl (by decide) rfl rfl ?_
      refine mk_Vp1 hJ dX9_next_79 cw_X9_181 rfl rfl rfl rfl (Nat.le_of_ble_eq_true rfl) (by first | decide | omega) (c_X9_isLetter _ (by rw [h18]; omega) (by rw [e17]; exact hn)) ?_
      rw [e127, e17, h18]
      by_cases hd : ltr (I 127) (I 111 17) s
      · rw [if_pos hd]
        refine mj_if_eq (tgt := 96) hJ dX9_next_82 (by decide) (fun hyes => absurd hyes (by decide)) (fun _ => ?_)
        refine mj_aload_n hJ dX9_next_85 rfl ?_
        refine mj_aload_n hJ dX9_next_86 rfl ?_
        refine mk_getI (j' := 19) hJ dX9_next_87 fw_X9_175 rfl (by decide) rfl rfl ?_
        refine mk_Vp1 hJ dX9_next_90 cw_X9_181 rfl rfl rfl rfl (Nat.le_of_ble_eq_true rfl) (by first | decide | omega) (c_X9_isLetter _ (by rw [h19]; omega) (by rw [e17]; exact hn)) ?_
        rw [e127, e17, h19, if_neg nl]
        refine mj_if_ne (tgt := 118) hJ dX9_next_93 (by decide) (fun hyes => absurd (by decide) hyes) (fun _ => ?_)
        exact K96
      · rw [if_neg hd]
        refine mj_if_eq (tgt := 96) hJ dX9_next_82 (by decide) (fun _ => ?_) (fun hno => absurd rfl hno)
        exact K96
    | succ m ih =>
      intro q I1 s1 q0 qm hf h1 h18 h19 he
      have e17 := h1 17 (by decide) (by decide)
      have e127 := hf 127 (by decide)
      have he2 : (if tog (I 127) (I 111 17) s q then ten (I 127) (I 111 17) s m (q + 1) else q) = tend (I 127) (I 111 17) s := he
      have K131 : ¬ tog (I 127) (I 111 17) s q → J 131 [vr 111] [] (mk I1 b) := by
        intro hno
        rw [if_neg hno] at he2
        exact hR _ _ _ _ dX9_next_131 ⟨rfl, hf, h1, h18, by rw [h19]; exact he2⟩
      have K118 : tog (I 127) (I 111 17) s q → J 118 [vr 111] [] (mk I1 b) := by
        intro hyes
        rw [if_pos hyes] at he2
        refine mj_aload_n hJ dX9_next_118 rfl ?_
        refine mj_dupr hJ dX9_next_119 ?_
        refine mk_getI (j' := 19) hJ dX9_next_120 fw_X9_175 rfl (by decide) rfl rfl ?_
        rw [h19]
        refine mj_iconst hJ dX9_next_123 (by decide) ?_
        first | refine ms_iadd hJ dX9_next_124 (by omega) ?_ | refine mj_iadd hJ dX9_next_124 ?_
        refine mk_putI (j' := 19) hJ dX9_next_125 fw_X9_175 rfl (by decide) rfl rfl ?_
        refine mj_goto (tgt := 74) hJ dX9_next_128 (by decide) ?_
        exact ih (q + 1) _ s1 (by omega) (by omega) (fun c hc => (upI_ne hc).trans (hf c hc)) (fun j j1 j2 => by rw [upI_at, if_neg j2]; exact h1 j j1 j2) (by rw [upI_at, if_neg (by decide)]; exact h18) (by rw [upI_at, if_pos rfl]) he2
      have K96 : ¬(ltr (I 127) (I 111 17) s ∧ ltr (I 127) (I 111 17) q) → J 96 [vr 111] [] (mk I1 b) := by
        intro hnl
        refine mj_aload_n hJ dX9_next_96 rfl ?_
        refine mj_aload_n hJ dX9_next_97 rfl ?_
        refine mk_getI (j' := 18) hJ dX9_next_98 fw_X9_178 rfl (by decide) rfl rfl ?_
        refine mk_Vp1 hJ dX9_next_101 cw_X9_184 rfl rfl rfl rfl (Nat.le_of_ble_eq_true rfl) (by first | decide | omega) (c_X9_isDigit _ (by rw [h18]; omega) (by rw [e17]; exact hn)) ?_
        rw [e127, e17, h18]
        by_cases hd : dgt (I 127) (I 111 17) s
        · rw [if_pos hd]
          refine mj_if_eq (tgt := 131) hJ dX9_next_104 (by decide) (fun hyes => absurd hyes (by decide)) (fun _ => ?_)
          refine mj_aload_n hJ dX9_next_107 rfl ?_
          refine mj_aload_n hJ dX9_next_108 rfl ?_
          refine mk_getI (j' := 19) hJ dX9_next_109 fw_X9_175 rfl (by decide) rfl rfl ?_
          refine mk_Vp1 hJ dX9_next_112 cw_X9_184 rfl rfl rfl rfl (Nat.le_of_ble_eq_true rfl) (by first | decide | omega) (c_X9_isDigit _ (by rw [h19]; omega) (by rw [e17]; exact hn)) ?_
          rw [e127, e17, h19]
          by_cases hd2 : dgt (I 127) (I 111 17) q
          · rw [if_pos hd2]
            refine mj_if_eq (tgt := 131) hJ dX9_next_115 (by decide) (fun hyes => absurd hyes (by decide)) (fun _ => ?_)
            exact K118 (Or.inr ⟨hd, hd2⟩)
          · rw [if_neg hd2]
            refine mj_if_eq (tgt := 131) hJ dX9_next_115 (by decide) (fun _ => ?_) (fun hno => absurd rfl hno)
            exact K131 (fun z => z.elim hnl (fun y => hd2 y.2))
        · rw [if_neg hd]
          refine mj_if_eq (tgt := 131) hJ dX9_next_104 (by decide) (fun _ => ?_) (fun hno => absurd rfl hno)
          exact K131 (fun z => z.elim hnl (fun y => hd y.1))
      refine mj_aload_n hJ dX9_next_74 rfl ?_
      refine mj_aload_n hJ dX9_next_75 rfl ?_
      refine mk_getI (j' := 18) hJ dX9_next_76 fw_X9_178 rfl (by decide) rfl rfl ?_
      refine mk_Vp1 hJ dX9_next_79 cw_X9_181 rfl rfl rfl rfl (Nat.le_of_ble_eq_true rfl) (by first | decide | omega) (c_X9_isLetter _ (by rw [h18]; omega) (by rw [e17]; exact hn)) ?_
      rw [e127, e17, h18]
      by_cases hd : ltr (I 127) (I 111 17) s
      · rw [if_pos hd]
        refine mj_if_eq (tgt := 96) hJ dX9_next_82 (by decide) (fun hyes => absurd hyes (by decide)) (fun _ => ?_)
        refine mj_aload_n hJ dX9_next_85 rfl ?_
        refine mj_aload_n hJ dX9_next_86 rfl ?_
        refine mk_getI (j' := 19) hJ dX9_next_87 fw_X9_175 rfl (by decide) rfl rfl ?_
        refine mk_Vp1 hJ dX9_next_90 cw_X9_181 rfl rfl rfl rfl (Nat.le_of_ble_eq_true rfl) (by first | decide | omega) (c_X9_isLetter _ (by rw [h19]; omega) (by rw [e17]; exact hn)) ?_
        rw [e127, e17, h19]
        by_cases hd2 : ltr (I 127) (I 111 17) q
        · rw [if_pos hd2]
          refine mj_if_ne (tgt := 118) hJ dX9_next_93 (by decide) (fun _ => ?_) (fun hno => absurd hno (by decide))
          exact K118 (Or.inl ⟨hd, hd2⟩)
        · rw [if_neg hd2]
          refine mj_if_ne (tgt := 118) hJ dX9_next_93 (by decide) (fun hyes => absurd (by decide) hyes) (fun _ => ?_)
          exact K96 (fun z => hd2 z.2)
      · rw [if_neg hd]
        refine mj_if_eq (tgt := 96) hJ dX9_next_82 (by decide) (fun _ => ?_) (fun hno => absurd rfl hno)
        exact K96 (fun z => hd z.1)
  have K46 : ∀ I1 : Ints, (∀ c, c ≠ 111 → I1 c = I c) → (∀ j, j ≠ 18 → j ≠ 19 → I1 111 j = I 111 j) → I1 111 18 = s → J 46 [vr 111] [] (mk I1 b) := by
    intro I1 hf h1 h18
    have e17 := h1 17 (by decide) (by decide)
    refine mj_aload_n hJ dX9_next_46 rfl ?_
    refine mj_aload_n hJ dX9_next_47 rfl ?_
    refine mk_getI (j' := 18) hJ dX9_next_48 fw_X9_178 rfl (by decide) rfl rfl ?_
    refine mj_aload_n hJ dX9_next_51 rfl ?_
    refine mk_getI (j' := 17) hJ dX9_next_52 fw_X9_169 rfl (by decide) rfl rfl ?_
    rw [h18, e17]
    refine mj_icmp_ge (tgt := 67) hJ dX9_next_55 (by decide) (fun h => ?_) (fun h => ?_)
    · have hs : s = I 111 17 := by omega
      have et : tend (I 127) (I 111 17) s = s := by unfold tend; rw [if_neg (by omega)]
      refine mj_aload_n hJ dX9_next_67 rfl ?_
      refine mk_getI (j' := 18) hJ dX9_next_68 fw_X9_178 rfl (by decide) rfl rfl ?_
      rw [h18]
      refine mk_putI (j' := 19) hJ dX9_next_71 fw_X9_175 rfl (by decide) rfl rfl ?_
      have e17' : upI I1 111 19 s 111 17 = I 111 17 := by rw [upI_at, if_neg (by decide)]; exact e17
      have e18' : upI I1 111 19 s 111 18 = s := by rw [upI_at, if_neg (by decide)]; exact h18
      have e127' : upI I1 111 19 s 127 = I 127 := by rw [upI_ne (by decide)]; exact hf 127 (by decide)
      have nl : ¬ ltr (I 127) (I 111 17) s := fun z => by have := z.1; omega
      have nd : ¬ dgt (I 127) (I 111 17) s := fun z => by have := z.1; omega
      refine mj_aload_n hJ dX9_next_74 rfl ?_
      refine mj_aload_n hJ dX9_next_75 rfl ?_
      refine mk_getI (j' := 18) hJ dX9_next_76 fw_X9_178 rfl (by decide) rfl rfl ?_
      refine mk_Vp1 hJ dX9_next_79 cw_X9_181 rfl rfl rfl rfl (Nat.le_of_ble_eq_true rfl) (by first | decide | omega) (c_X9_isLetter _ (by rw [e18']; omega) (by rw [e17']; exact hn)) ?_
      rw [e127', e17', e18', if_neg nl]
      refine mj_if_eq (tgt := 96) hJ dX9_next_82 (by decide) (fun _ => ?_) (fun hno => absurd rfl hno)
      refine mj_aload_n hJ dX9_next_96 rfl ?_
      refine mj_aload_n hJ dX9_next_97 rfl ?_
      refine mk_getI (j' := 18) hJ dX9_next_98 fw_X9_178 rfl (by decide) rfl rfl ?_
      refine mk_Vp1 hJ dX9_next_101 cw_X9_184 rfl rfl rfl rfl (Nat.le_of_ble_eq_true rfl) (by first | decide | omega) (c_X9_isDigit _ (by rw [e18']; omega) (by rw [e17']; exact hn)) ?_
      rw [e127', e17', e18', if_neg nd]
      refine mj_if_eq (tgt := 131) hJ dX9_next_104 (by decide) (fun _ => ?_) (fun hno => absurd rfl hno)
      exact hR _ _ _ _ dX9_next_131 ⟨rfl, fun c hc => (upI_ne hc).trans (hf c hc), fun j j1 j2 => by rw [upI_at, if_neg j2]; exact h1 j j1 j2, e18', by rw [upI_at, if_pos rfl, et]⟩
    · refine mj_aload_n hJ dX9_next_58 rfl ?_
      refine mk_getI (j' := 18) hJ dX9_next_59 fw_X9_178 rfl (by decide) rfl rfl ?_
      rw [h18]
      refine mj_iconst hJ dX9_next_62 (by decide) ?_
      first | refine ms_iadd hJ dX9_next_63 (by omega) ?_ | refine mj_iadd hJ dX9_next_63 ?_
      refine mj_goto (tgt := 71) hJ dX9_next_64 (by decide) ?_
      refine mk_putI (j' := 19) hJ dX9_next_71 fw_X9_175 rfl (by decide) rfl rfl ?_
      exact L2 (I 111 17 - (s + 1)).toNat (s + 1) _ (by omega) (by omega) (by omega) (fun c hc => (upI_ne hc).trans (hf c hc)) (fun j j1 j2 => by rw [upI_at, if_neg j2]; exact h1 j j1 j2) (by rw [upI_at, if_neg (by decide)]; exact h18) (by rw [upI_at, if_pos rfl]) (by unfold tend; rw [if_pos (by omega)])
  have L1 : ∀ (m : Nat) (q : Int) (I1 : Ints), 0 ≤ q → q + m = I 111 17 → (∀ c, c ≠ 111 → I1 c = I c) → (∀ j, j ≠ 18 → j ≠ 19 → I1 111 j = I 111 j) → I1 111 18 = q → skq (I 127) (I 111 17) m q = s → J 8 [vr 111] [] (mk I1 b) := by
    intro m
    induction m with
    | zero =>
      intro q I1 q0 qm hf h1 h18 he
      have e17 := h1 17 (by decide) (by decide)
      refine mj_aload_n hJ dX9_next_8 rfl ?_
      refine mk_getI (j' := 18) hJ dX9_next_9 fw_X9_178 rfl (by decide) rfl rfl ?_
      refine mj_aload_n hJ dX9_next_12 rfl ?_
      refine mk_getI (j' := 17) hJ dX9_next_13 fw_X9_169 rfl (by decide) rfl rfl ?_
      rw [h18, e17]
      refine mj_icmp_ge (tgt := 46) hJ dX9_next_16 (by decide) (fun _ => ?_) (fun hno => absurd (by omega) hno)
      exact K46 I1 hf h1 (h18.trans he)
    | succ m ih =>
      intro q I1 q0 qm hf h1 h18 he
      have e17 := h1 17 (by decide) (by decide)
      have e127 := hf 127 (by decide)
      have he2 : (if q < I 111 17 ∧ I 127 q = 32 then skq (I 127) (I 111 17) m (q + 1) else q) = s := he
      refine mj_aload_n hJ dX9_next_8 rfl ?_
      refine mk_getI (j' := 18) hJ dX9_next_9 fw_X9_178 rfl (by decide) rfl rfl ?_
      refine mj_aload_n hJ dX9_next_12 rfl ?_
      refine mk_getI (j' := 17) hJ dX9_next_13 fw_X9_169 rfl (by decide) rfl rfl ?_
      rw [h18, e17]
      refine mj_icmp_ge (tgt := 46) hJ dX9_next_16 (by decide) (fun hyes => absurd hyes (by omega)) (fun _ => ?_)
      refine mj_aload_n hJ dX9_next_19 rfl ?_
      refine mk_getR hJ dX9_next_20 fw_X9_56 rfl (by decide) rfl rfl ?_
      refine mj_aload_n hJ dX9_next_23 rfl ?_
      refine mk_getI (j' := 18) hJ dX9_next_24 fw_X9_178 rfl (by decide) rfl rfl ?_
      rw [h18]
      refine mk_iald hJ dX9_next_27 rfl (by omega) (by omega) ?_
      refine mj_bipush hJ dX9_next_28 (by decide) ?_
      rw [e127]
      refine mj_icmp_ne (tgt := 46) hJ dX9_next_30 (by decide) (fun h => ?_) (fun h => ?_)
      · rw [if_neg (fun z => h z.2)] at he2
        exact K46 I1 hf h1 (h18.trans he2)
      · rw [if_pos ⟨by omega, by omega⟩] at he2
        refine mj_aload_n hJ dX9_next_33 rfl ?_
        refine mj_dupr hJ dX9_next_34 ?_
        refine mk_getI (j' := 18) hJ dX9_next_35 fw_X9_178 rfl (by decide) rfl rfl ?_
        rw [h18]
        refine mj_iconst hJ dX9_next_38 (by decide) ?_
        first | refine ms_iadd hJ dX9_next_39 (by omega) ?_ | refine mj_iadd hJ dX9_next_39 ?_
        refine mk_putI (j' := 18) hJ dX9_next_40 fw_X9_178 rfl (by decide) rfl rfl ?_
        refine mj_goto (tgt := 8) hJ dX9_next_43 (by decide) ?_
        exact ih (q + 1) _ (by omega) (by omega) (fun c hc => (upI_ne hc).trans (hf c hc)) (fun j j1 j2 => by rw [upI_at, if_neg j1]; exact h1 j j1 j2) (by rw [upI_at, if_pos rfl]) he2
  refine mj_aload_n hJ dX9_next_0 rfl ?_
  refine mj_aload_n hJ dX9_next_1 rfl ?_
  refine mk_getI (j' := 19) hJ dX9_next_2 fw_X9_175 rfl (by decide) rfl rfl ?_
  rw [hto]
  refine mk_putI (j' := 18) hJ dX9_next_5 fw_X9_178 rfl (by decide) rfl rfl ?_
  exact L1 (I 111 17 - t).toNat t _ t0 (by omega) (fun c hc => upI_ne hc) (fun j j1 j2 => by rw [upI_at, if_neg j1]) (by rw [upI_at, if_pos rfl]) hS
end M18
