section C15
theorem lko {x : Int} (h1 : ¬x = 40) (h2 : ¬x = 41) (h3 : ¬x = 59) (h4 : ¬x = 60) (h5 : ¬x = 61) (h6 : ¬x = 62) : Op.lookupswitch.offset (#[(40, 61), (41, 64), (59, 58), (60, 67), (61, 70), (62, 73)] : Array (Int × Int)).toList 76 x = 76 := by
  simp [Op.lookupswitch.offset, List.find?, Ne.symm, eq_comm, h1, h2, h3, h4, h5, h6]
variable {G : GE} {I N : Ints} {b : Bool} {T : List Ln}
/-- only the tape has changed -/
theorem RX.tap {I N I' N' : Ints} {T : List Ln} (h : RX I N T) (eI : ∀ c, (c < 43 ∨ 91 ≤ c) → I' c = I c) (eN : ∀ c, c ≠ 111 → c ≠ 127 → N' c = N c) (e1 : ∀ j, j ≠ 17 → N' 111 j = N 111 j) (e17 : 0 ≤ N' 111 17 ∧ N' 111 17 ≤ 200) (hr : RTape I' N') : RX I' N' T := by
  obtain ⟨⟨h1, h2, h3⟩, ⟨h4, h5⟩, h6, h7, h8, h9, h10, h11⟩ := h
  have e112 := eN 112 (by decide) (by decide)
  refine ⟨⟨by rw [e112]; exact h1, ?_, by rw [e112]; exact h3⟩, ⟨by rw [e112]; exact LN.same h1 h4 (fun c c1 c2 => eI c (by omega)), h5.same (fun c c1 c2 => eI c (by omega))⟩, h6.same h2 (by rw [eI 0 (by decide)]) (fun c c1 c2 => eI c (by omega)) (e1 31 (by decide)) (eN 135 (by decide) (by decide)), h7.same (fun c c1 c2 => eI c (by omega)) (fun c c1 c2 => eN c (by omega) (by omega)), h8.same (eI 99 (by decide)) (eI 100 (by decide)) (fun c c1 c2 => eN c (by omega) (by omega)), h9.same (by rw [eI 101 (by decide)]) (eI 102 (by decide)) (e1 39 (by decide)) (eN 142 (by decide) (by decide)), hr, h11.same (by rw [eI 0 (by decide)]) (fun c c1 c2 => eI c (by omega)) (e1 2 (by decide)) (eN 113 (by decide) (by decide))⟩
  unfold WS
  rw [e1 31 (by decide), e1 39 (by decide), eN 136 (by decide) (by decide), eN 137 (by decide) (by decide), eN 139 (by decide) (by decide), eN 140 (by decide) (by decide)]
  exact ⟨h2.1, h2.2.1, h2.2.2.1, e17⟩
theorem byt_i (x : Int64) : (i32 x.toInt32.toInt &&& i32 255).toInt = (x &&& 255).toInt32.toInt := by
  rw [i32_of, Int64.toInt32_and]
  rfl
theorem c_takeBytes (e : Int64) (n s : Int) (n1 : 1 ≤ n) (n8 : n ≤ 8) (hs : I 80 0 = s) (s0 : 0 ≤ s) (s1 : s ≤ 200) : MtI G yX6_takeBytes cX6_takeBytes 5 (some .boolean) 0 [vr 80, vj e, vi n] I b (fun z I' b' => b' = b ∧ (¬(s + n ≤ 200) → z = 0 ∧ I' = I) ∧ (s + n ≤ 200 → z = 1 ∧ (∀ c, c ≠ 80 → c ≠ 86 → I' c = I c) ∧ (∀ j, j ≠ 0 → I' 80 j = I 80 j) ∧ I' 80 0 = s + n ∧ ∀ j, I' 86 j = if s ≤ j ∧ j < s + n then byt e (j - s) else I 86 j)) := by
  refine mt_enterI (own := RX6) (ls0 := [vr 80, vj e, vu, vi n, vu]) rfl (by decide +kernel) (Nat.le_of_ble_eq_true rfl) rfl rfl (fun J hJ hR => ?_)
  refine mj_aload_n hJ dX6_takeBytes_0 rfl ?_
  refine mk_getI (j' := 0) hJ dX6_takeBytes_1 fw_X6_9 rfl (by decide) rfl rfl ?_
  rw [hs]
  refine mj_iload_n hJ dX6_takeBytes_4 rfl ?_
  first | refine ms_iadd hJ dX6_takeBytes_5 (by omega) ?_ | refine mj_iadd hJ dX6_takeBytes_5 ?_
  refine mj_sipush hJ dX6_takeBytes_6 (by decide) ?_
  refine mj_icmp_le (tgt := 14) hJ dX6_takeBytes_9 (by decide) (fun h2 => ?_) (fun h2 => ?_)
  · have loop : ∀ (m : Nat) (k : Int) (I1 : Ints), 0 ≤ k → k + m = n → (∀ c, c ≠ 80 → c ≠ 86 → I1 c = I c) → (∀ j, j ≠ 0 → I1 80 j = I 80 j) → I1 80 0 = s + k → (∀ j, I1 86 j = if s ≤ j ∧ j < s + k then byt e (j - s) else I 86 j) → J 17 [vr 80, vj e, vu, vi n, vi k] [] (mk I1 b) := by
      intro m
      induction m with
      | zero =>
        intro k I1 k0 km hf h1 h17 hr
        have ek : k = n := by omega
        subst ek
        refine mj_iload hJ dX6_takeBytes_17 rfl ?_
        refine mj_iload_n hJ dX6_takeBytes_19 rfl ?_
        refine mj_icmp_ge (tgt := 60) hJ dX6_takeBytes_20 (by decide) (fun _ => ?_) (fun hno => absurd (by omega) hno)
        refine mj_iconst hJ dX6_takeBytes_60 (by decide) ?_
        exact hR _ _ _ _ _ dX6_takeBytes_61 (nar_z (by first | exact Or.inl rfl | exact Or.inr rfl | assumption | omega)) ⟨rfl, fun q => absurd h2 q, fun _ => ⟨rfl, hf, h1, h17, hr⟩⟩
      | succ m ih =>
        intro k I1 k0 km hf h1 h17 hr
        refine mj_iload hJ dX6_takeBytes_17 rfl ?_
        refine mj_iload_n hJ dX6_takeBytes_19 rfl ?_
        refine mj_icmp_ge (tgt := 60) hJ dX6_takeBytes_20 (by decide) (fun hyes => absurd hyes (by omega)) (fun _ => ?_)
        refine mj_aload_n hJ dX6_takeBytes_23 rfl ?_
        refine mk_getR hJ dX6_takeBytes_24 fw_X6_22 rfl (by decide) rfl rfl ?_
        refine mj_aload_n hJ dX6_takeBytes_27 rfl ?_
        refine mk_getI (j' := 0) hJ dX6_takeBytes_28 fw_X6_9 rfl (by decide) rfl rfl ?_
        rw [h17]
        refine mj_lload_n hJ dX6_takeBytes_31 rfl ?_
        refine mj_bipush hJ dX6_takeBytes_32 (by decide) ?_
        refine mj_iload hJ dX6_takeBytes_34 rfl ?_
        first | refine ms_imul hJ dX6_takeBytes_36 (by omega) ?_ | refine mj_imul hJ dX6_takeBytes_36 ?_
        refine mj_lshr hJ dX6_takeBytes_37 ?_
        refine mj_l2i hJ dX6_takeBytes_38 ?_
        refine mj_sipush hJ dX6_takeBytes_39 (by decide) ?_
        refine mj_iand hJ dX6_takeBytes_42 ?_
        rw [byt_i]
        rw [show ((e >>> ((i32 (8 * k)).toInt64 &&& 63)) &&& 255).toInt32.toInt = byt e k from rfl]
        refine mk_iast hJ dX6_takeBytes_43 rfl (by omega) (by omega) ?_
        refine mj_aload_n hJ dX6_takeBytes_44 rfl ?_
        refine mj_dupr hJ dX6_takeBytes_45 ?_
        refine mk_getI (j' := 0) hJ dX6_takeBytes_46 fw_X6_9 rfl (by decide) rfl rfl ?_
        rw [upI_ne (by decide), h17]
        refine mj_iconst hJ dX6_takeBytes_49 (by decide) ?_
        first | refine ms_iadd hJ dX6_takeBytes_50 (by omega) ?_ | refine mj_iadd hJ dX6_takeBytes_50 ?_
        refine mk_putI (j' := 0) hJ dX6_takeBytes_51 fw_X6_9 rfl (by decide) rfl rfl ?_
        refine ms_iinc (ls' := [_, _, _, _, _]) hJ dX6_takeBytes_54 rfl (by decide) rfl (wr_id (by omega)) rfl ?_
        refine mj_goto (tgt := 17) hJ dX6_takeBytes_57 (by decide) ?_
        refine ih (k + 1) _ (by omega) (by omega) (fun c c1 c2 => by rw [upI_ne c1, upI_ne c2]; exact hf c c1 c2) (fun j j1 => by rw [upI_at, if_neg j1, upI_ne (by decide)]; exact h1 j j1) (by rw [upI_at, if_pos rfl]; omega) (fun j => ?_)
        rw [upI_ne (by decide), upI_at]
        by_cases c : j = s + k
        · subst c
          rw [if_pos rfl, if_pos (by omega), show s + k - s = k by omega]
        · rw [if_neg c, hr j]
          by_cases d : s ≤ j ∧ j < s + k
          · rw [if_pos d, if_pos (by omega)]
          · rw [if_neg d, if_neg (by omega)]
    refine mj_iconst hJ dX6_takeBytes_14 (by decide) ?_
    refine ms_istore (ls' := [_, _, _, _, _]) hJ dX6_takeBytes_15 (by decide) rfl rfl ?_
    exact loop n.toNat 0 I (Int.le_refl _) (by omega) (fun _ _ _ => rfl) (fun _ _ => rfl) (by omega) (fun j => by rw [if_neg (by omega)])
  · refine mj_iconst hJ dX6_takeBytes_12 (by decide) ?_
    exact hR _ _ _ _ _ dX6_takeBytes_13 (nar_z (by first | exact Or.inl rfl | exact Or.inr rfl | assumption | omega)) ⟨rfl, fun _ => ⟨rfl, rfl⟩, fun q => absurd q h2⟩
theorem c_feed (h : RX I N T) (e : Int64) (n : Int) : MtI G yX8_feed cX8_feed 4 (some .int) 1 [vr 0, vj e, vi n] I b (Xg I (F_feed N n) (G_feed N e n) T) := by
  refine mt_enterI (own := RX8) (ls0 := [vr 0, vj e, vu, vi n]) rfl (by decide +kernel) (Nat.le_of_ble_eq_true rfl) rfl rfl (fun J hJ hR => ?_)
  have hs := h.1.2.1
  have ht := h.2.2.2.2.2.2.1
  refine mj_iload_n hJ dX8_feed_0 rfl ?_
  refine mj_iconst hJ dX8_feed_1 (by decide) ?_
  refine mj_bipush hJ dX8_feed_2 (by decide) ?_
  refine mk_Sp3 hJ dX8_feed_4 cw_X8_105 rfl (Nat.le_of_ble_eq_true rfl) (by first | decide | omega) (c_within n 1 8) ?_
  by_cases c1 : 1 ≤ n ∧ n ≤ 8
  · rw [if_pos c1]
    refine mj_if_ne (tgt := 12) hJ dX8_feed_7 (by decide) (fun _ => ?_) (fun hno => absurd hno (by decide))
    refine mj_aload_n hJ dX8_feed_12 rfl ?_
    refine mk_getR hJ dX8_feed_13 fw_X8_47 rfl (by decide) rfl rfl ?_
    refine mj_lload_n hJ dX8_feed_16 rfl ?_
    refine mj_iload_n hJ dX8_feed_17 rfl ?_
    refine mk_Vi2 hJ dX8_feed_18 cw_X8_207 rfl rfl rfl rfl (Nat.le_of_ble_eq_true rfl) (by first | decide | omega) (c_takeBytes e n (N 111 17) c1.1 c1.2 ht.1 hs.2.2.2.1 hs.2.2.2.2) (fun z I1 b1 hq9 => ?_)
    obtain ⟨rfl, hA, hB⟩ := hq9
    by_cases c2 : N 111 17 + n ≤ 200
    · obtain ⟨rfl, hf, h1, h2, h3⟩ := hB c2
      refine mj_if_eq (tgt := 34) hJ dX8_feed_21 (by decide) (fun hyes => absurd hyes (by decide)) (fun _ => ?_)
      refine mj_aload_n hJ dX8_feed_24 rfl ?_
      refine mk_getR hJ dX8_feed_25 fw_X8_47 rfl (by decide) rfl rfl ?_
      refine mk_getI (j' := 0) hJ dX8_feed_28 fw_X8_211 rfl (by decide) rfl rfl ?_
      refine mj_goto (tgt := 36) hJ dX8_feed_31 (by decide) ?_
      rw [h2]
      have eG : G_feed N e n = upI (rowI N 127 (fun j => if N 111 17 ≤ j ∧ j < N 111 17 + n then byt e (j - N 111 17) else N 127 j)) 111 17 (N 111 17 + n) := by unfold G_feed; rw [if_pos ⟨c1, c2⟩]
      have eF : F_feed N n = N 111 17 + n := by unfold F_feed; rw [if_pos c1, if_pos c2]
      rw [eG, eF] at hR
      refine hR _ _ _ _ _ dX8_feed_36 nar_i ⟨rfl, h.tap (fun c hc => hf c (by omega) (by omega)) (fun c c1 c2 => by rw [upI_ne c1, rowI_ne c2]) (fun j j1 => by rw [upI_at, if_neg j1, rowI_ne (by decide)]) (by rw [upI_at, if_pos rfl]; have := hs.2.2.2; omega) ⟨by rw [upI_at, if_pos rfl]; exact h2, fun j j0 j1 => ?_⟩, fun c hc => hf c (by omega) (by omega)⟩
      rw [upI_at, if_pos rfl] at j1
      rw [h3, upI_ne (by decide), rowI_at]
      by_cases d : N 111 17 ≤ j ∧ j < N 111 17 + n
      · rw [if_pos d, if_pos d]
      · rw [if_neg d, if_neg d]
        exact ht.2 j j0 (by omega)
    · obtain ⟨rfl, rfl⟩ := hA c2
      refine mj_if_eq (tgt := 34) hJ dX8_feed_21 (by decide) (fun _ => ?_) (fun hno => absurd rfl hno)
      refine mj_bipush hJ dX8_feed_34 (by decide) ?_
      have eG : G_feed N e n = N := by unfold G_feed; rw [if_neg (fun q => c2 q.2)]
      have eF : F_feed N n = -2 := by unfold F_feed; rw [if_pos c1, if_neg c2]
      rw [eG, eF] at hR
      exact hR _ _ _ _ _ dX8_feed_36 nar_i h.refl
  · rw [if_neg c1]
    refine mj_if_ne (tgt := 12) hJ dX8_feed_7 (by decide) (fun hyes => absurd (by decide) hyes) (fun _ => ?_)
    refine mj_iconst hJ dX8_feed_10 (by decide) ?_
    have eG : G_feed N e n = N := by unfold G_feed; rw [if_neg (fun q => c1 q.1)]
    have eF : F_feed N n = -1 := by unfold F_feed; rw [if_neg c1]
    rw [eG, eF] at hR
    exact hR _ _ _ _ _ dX8_feed_11 nar_i h.refl
theorem c_isLetter (x : Int) : MtP G yX6_isLetter cX6_isLetter 1 (some .boolean) 0 [vi x] I b (if ltz x then 1 else 0) := by
  refine mt_enterI (own := RX6) (ls0 := [vi x]) rfl (by decide +kernel) (Nat.le_of_ble_eq_true rfl) rfl rfl (fun J hJ hR => ?_)
  refine mj_bipush hJ dX6_isLetter_0 (by decide) ?_
  refine mj_iload_n hJ dX6_isLetter_2 rfl ?_
  refine mj_icmp_gt (tgt := 16) hJ dX6_isLetter_3 (by decide) (fun h1 => ?_) (fun h1 => ?_)
  · refine mj_iconst hJ dX6_isLetter_16 (by decide) ?_
    exact hR _ _ _ _ _ dX6_isLetter_17 (nar_z (by first | exact Or.inl rfl | exact Or.inr rfl | assumption | omega)) ⟨by rw [if_neg (by omega)], rfl, rfl⟩
  · refine mj_iload_n hJ dX6_isLetter_6 rfl ?_
    refine mj_bipush hJ dX6_isLetter_7 (by decide) ?_
    refine mj_icmp_gt (tgt := 16) hJ dX6_isLetter_9 (by decide) (fun h2 => ?_) (fun h2 => ?_)
    · refine mj_iconst hJ dX6_isLetter_16 (by decide) ?_
      exact hR _ _ _ _ _ dX6_isLetter_17 (nar_z (by first | exact Or.inl rfl | exact Or.inr rfl | assumption | omega)) ⟨by rw [if_neg (by omega)], rfl, rfl⟩
    · refine mj_iconst hJ dX6_isLetter_12 (by decide) ?_
      refine mj_goto (tgt := 17) hJ dX6_isLetter_13 (by decide) ?_
      exact hR _ _ _ _ _ dX6_isLetter_17 (nar_z (by first | exact Or.inl rfl | exact Or.inr rfl | assumption | omega)) ⟨by rw [if_pos (by omega)], rfl, rfl⟩
theorem c_isDigit (x : Int) : MtP G yX6_isDigit cX6_isDigit 1 (some .boolean) 0 [vi x] I b (if dgz x then 1 else 0) := by
  refine mt_enterI (own := RX6) (ls0 := [vi x]) rfl (by decide +kernel) (Nat.le_of_ble_eq_true rfl) rfl rfl (fun J hJ hR => ?_)
  refine mj_bipush hJ dX6_isDigit_0 (by decide) ?_
  refine mj_iload_n hJ dX6_isDigit_2 rfl ?_
  refine mj_icmp_gt (tgt := 16) hJ dX6_isDigit_3 (by decide) (fun h1 => ?_) (fun h1 => ?_)
  · refine mj_iconst hJ dX6_isDigit_16 (by decide) ?_
    exact hR _ _ _ _ _ dX6_isDigit_17 (nar_z (by first | exact Or.inl rfl | exact Or.inr rfl | assumption | omega)) ⟨by rw [if_neg (by omega)], rfl, rfl⟩
  · refine mj_iload_n hJ dX6_isDigit_6 rfl ?_
    refine mj_bipush hJ dX6_isDigit_7 (by decide) ?_
    refine mj_icmp_gt (tgt := 16) hJ dX6_isDigit_9 (by decide) (fun h2 => ?_) (fun h2 => ?_)
    · refine mj_iconst hJ dX6_isDigit_16 (by decide) ?_
      exact hR _ _ _ _ _ dX6_isDigit_17 (nar_z (by first | exact Or.inl rfl | exact Or.inr rfl | assumption | omega)) ⟨by rw [if_neg (by omega)], rfl, rfl⟩
    · refine mj_iconst hJ dX6_isDigit_12 (by decide) ?_
      refine mj_goto (tgt := 17) hJ dX6_isDigit_13 (by decide) ?_
      exact hR _ _ _ _ _ dX6_isDigit_17 (nar_z (by first | exact Or.inl rfl | exact Or.inr rfl | assumption | omega)) ⟨by rw [if_pos (by omega)], rfl, rfl⟩
theorem c_belong (x y : Int) : MtP G yX6_belongTogether cX6_belongTogether 2 (some .boolean) 1 [vi x, vi y] I b (if btz x y then 1 else 0) := by
  refine mt_enterI (own := RX6) (ls0 := [vi x, vi y]) rfl (by decide +kernel) (Nat.le_of_ble_eq_true rfl) rfl rfl (fun J hJ hR => ?_)
  have K28 : btz x y → J 28 [vi x, vi y] [] (mk I b) := by
    intro h
    refine mj_iconst hJ dX6_belongTogether_28 (by decide) ?_
    refine mj_goto (tgt := 33) hJ dX6_belongTogether_29 (by decide) ?_
    exact hR _ _ _ _ _ dX6_belongTogether_33 (nar_z (by first | exact Or.inl rfl | exact Or.inr rfl | assumption | omega)) ⟨by rw [if_pos h], rfl, rfl⟩
  have K32 : ¬btz x y → J 32 [vi x, vi y] [] (mk I b) := by
    intro h
    refine mj_iconst hJ dX6_belongTogether_32 (by decide) ?_
    exact hR _ _ _ _ _ dX6_belongTogether_33 (nar_z (by first | exact Or.inl rfl | exact Or.inr rfl | assumption | omega)) ⟨by rw [if_neg h], rfl, rfl⟩
  have K14 : ¬(ltz x ∧ ltz y) → J 14 [vi x, vi y] [] (mk I b) := by
    intro h
    refine mj_iload_n hJ dX6_belongTogether_14 rfl ?_
    refine mk_Sp1 hJ dX6_belongTogether_15 cw_X6_66 rfl (Nat.le_of_ble_eq_true rfl) (by first | decide | omega) (c_isDigit x) ?_
    by_cases c1 : dgz x
    · rw [if_pos c1]
      refine mj_if_eq (tgt := 32) hJ dX6_belongTogether_18 (by decide) (fun hyes => absurd hyes (by decide)) (fun _ => ?_)
      refine mj_iload_n hJ dX6_belongTogether_21 rfl ?_
      refine mk_Sp1 hJ dX6_belongTogether_22 cw_X6_66 rfl (Nat.le_of_ble_eq_true rfl) (by first | decide | omega) (c_isDigit y) ?_
      by_cases c2 : dgz y
      · rw [if_pos c2]
        refine mj_if_eq (tgt := 32) hJ dX6_belongTogether_25 (by decide) (fun hyes => absurd hyes (by decide)) (fun _ => ?_)
        exact K28 (Or.inr ⟨c1, c2⟩)
      · rw [if_neg c2]
        refine mj_if_eq (tgt := 32) hJ dX6_belongTogether_25 (by decide) (fun _ => ?_) (fun hno => absurd rfl hno)
        exact K32 (fun q => q.elim h (fun a => c2 a.2))
    · rw [if_neg c1]
      refine mj_if_eq (tgt := 32) hJ dX6_belongTogether_18 (by decide) (fun _ => ?_) (fun hno => absurd rfl hno)
      exact K32 (fun q => q.elim h (fun a => c1 a.1))
  refine mj_iload_n hJ dX6_belongTogether_0 rfl ?_
  refine mk_Sp1 hJ dX6_belongTogether_1 cw_X6_63 rfl (Nat.le_of_ble_eq_true rfl) (by first | decide | omega) (c_isLetter x) ?_
  by_cases c1 : ltz x
  · rw [if_pos c1]
    refine mj_if_eq (tgt := 14) hJ dX6_belongTogether_4 (by decide) (fun hyes => absurd hyes (by decide)) (fun _ => ?_)
    refine mj_iload_n hJ dX6_belongTogether_7 rfl ?_
    refine mk_Sp1 hJ dX6_belongTogether_8 cw_X6_63 rfl (Nat.le_of_ble_eq_true rfl) (by first | decide | omega) (c_isLetter y) ?_
    by_cases c2 : ltz y
    · rw [if_pos c2]
      refine mj_if_ne (tgt := 28) hJ dX6_belongTogether_11 (by decide) (fun _ => ?_) (fun hno => absurd hno (by decide))
      exact K28 (Or.inl ⟨c1, c2⟩)
    · rw [if_neg c2]
      refine mj_if_ne (tgt := 28) hJ dX6_belongTogether_11 (by decide) (fun hyes => absurd (by decide) hyes) (fun _ => ?_)
      exact K14 (fun q => c2 q.2)
  · rw [if_neg c1]
    refine mj_if_eq (tgt := 14) hJ dX6_belongTogether_4 (by decide) (fun _ => ?_) (fun hno => absurd rfl hno)
    exact K14 (fun q => c1 q.1)
theorem c_beginsPart {g : Int → Int} {n : Int} (hn : n ≤ 200) (hg : ∀ j, 0 ≤ j → j < n → I 86 j = g j) (p : Int) (p0 : 0 ≤ p) (p1 : p < n) : MtP G yX6_beginsPart cX6_beginsPart 2 (some .boolean) 2 [vr 80, vi p] I b (if bgn g p then 1 else 0) := by
  refine mt_enterI (own := RX6) (ls0 := [vr 80, vi p]) rfl (by decide +kernel) (Nat.le_of_ble_eq_true rfl) rfl rfl (fun J hJ hR => ?_)
  have K35 : bgn g p → J 35 [vr 80, vi p] [] (mk I b) := by
    intro h
    refine mj_iconst hJ dX6_beginsPart_35 (by decide) ?_
    refine mj_goto (tgt := 40) hJ dX6_beginsPart_36 (by decide) ?_
    exact hR _ _ _ _ _ dX6_beginsPart_40 (nar_z (by first | exact Or.inl rfl | exact Or.inr rfl | assumption | omega)) ⟨by rw [if_pos h], rfl, rfl⟩
  have K39 : ¬bgn g p → J 39 [vr 80, vi p] [] (mk I b) := by
    intro h
    refine mj_iconst hJ dX6_beginsPart_39 (by decide) ?_
    exact hR _ _ _ _ _ dX6_beginsPart_40 (nar_z (by first | exact Or.inl rfl | exact Or.inr rfl | assumption | omega)) ⟨by rw [if_neg h], rfl, rfl⟩
  refine mj_aload_n hJ dX6_beginsPart_0 rfl ?_
  refine mk_getR hJ dX6_beginsPart_1 fw_X6_22 rfl (by decide) rfl rfl ?_
  refine mj_iload_n hJ dX6_beginsPart_4 rfl ?_
  refine mk_iald hJ dX6_beginsPart_5 rfl (by omega) (by omega) ?_
  rw [hg p p0 p1]
  refine mj_bipush hJ dX6_beginsPart_6 (by decide) ?_
  refine mj_icmp_eq (tgt := 39) hJ dX6_beginsPart_8 (by decide) (fun h1 => ?_) (fun h1 => ?_)
  · exact K39 (fun q => q.1 h1)
  · refine mj_iload_n hJ dX6_beginsPart_11 rfl ?_
    refine mj_if_eq (tgt := 35) hJ dX6_beginsPart_12 (by decide) (fun h2 => ?_) (fun h2 => ?_)
    · exact K35 ⟨h1, Or.inl h2⟩
    · refine mj_aload_n hJ dX6_beginsPart_15 rfl ?_
      refine mk_getR hJ dX6_beginsPart_16 fw_X6_22 rfl (by decide) rfl rfl ?_
      refine mj_iload_n hJ dX6_beginsPart_19 rfl ?_
      refine mj_iconst hJ dX6_beginsPart_20 (by decide) ?_
      first | refine ms_isub hJ dX6_beginsPart_21 (by omega) ?_ | refine mj_isub hJ dX6_beginsPart_21 ?_
      refine mk_iald hJ dX6_beginsPart_22 rfl (by omega) (by omega) ?_
      rw [hg (p - 1) (by omega) (by omega)]
      refine mj_aload_n hJ dX6_beginsPart_23 rfl ?_
      refine mk_getR hJ dX6_beginsPart_24 fw_X6_22 rfl (by decide) rfl rfl ?_
      refine mj_iload_n hJ dX6_beginsPart_27 rfl ?_
      refine mk_iald hJ dX6_beginsPart_28 rfl (by omega) (by omega) ?_
      rw [hg p p0 p1]
      refine mk_Sp2 hJ dX6_beginsPart_29 cw_X6_69 rfl (Nat.le_of_ble_eq_true rfl) (by first | decide | omega) (c_belong (g (p - 1)) (g p)) ?_
      by_cases c : btz (g (p - 1)) (g p)
      · rw [if_pos c]
        refine mj_if_ne (tgt := 39) hJ dX6_beginsPart_32 (by decide) (fun _ => ?_) (fun hno => absurd hno (by decide))
        exact K39 (fun q => q.2.elim h2 (fun a => a c))
      · rw [if_neg c]
        refine mj_if_ne (tgt := 39) hJ dX6_beginsPart_32 (by decide) (fun hyes => absurd (by decide) hyes) (fun _ => ?_)
        exact K35 ⟨h1, Or.inr c⟩
theorem c_endOfPart {g : Int → Int} {n : Int} (hn : n ≤ 200) (h80 : I 80 0 = n) (hg : ∀ j, 0 ≤ j → j < n → I 86 j = g j) (p : Int) (p0 : 0 ≤ p) (p1 : p < n) : MtP G yX6_endOfPart cX6_endOfPart 3 (some .int) 2 [vr 80, vi p] I b (tend g n p) := by
  refine mt_enterI (own := RX6) (ls0 := [vr 80, vi p, vu]) rfl (by decide +kernel) (Nat.le_of_ble_eq_true rfl) rfl rfl (fun J hJ hR => ?_)
  have K36 : ∀ q : Int, q = tend g n p → J 36 [vr 80, vi p, vi q] [] (mk I b) := by
    intro q e
    refine mj_iload_n hJ dX6_endOfPart_36 rfl ?_
    exact hR _ _ _ _ _ dX6_endOfPart_37 nar_i ⟨e, rfl, rfl⟩
  have loop : ∀ (m : Nat) (q : Int), q + m = n → p < q → ten g n p m q = tend g n p → J 4 [vr 80, vi p, vi q] [] (mk I b) := by
    intro m
    induction m with
    | zero =>
      intro q qm pq e
      refine mj_iload_n hJ dX6_endOfPart_4 rfl ?_
      refine mj_aload_n hJ dX6_endOfPart_5 rfl ?_
      refine mk_getI (j' := 0) hJ dX6_endOfPart_6 fw_X6_9 rfl (by decide) rfl rfl ?_
      rw [h80]
      refine mj_icmp_ge (tgt := 36) hJ dX6_endOfPart_9 (by decide) (fun _ => ?_) (fun hno => absurd (by omega) hno)
      exact K36 q e
    | succ m ih =>
      intro q qm pq e
      have e : (if tog g n p q then ten g n p m (q + 1) else q) = tend g n p := e
      refine mj_iload_n hJ dX6_endOfPart_4 rfl ?_
      refine mj_aload_n hJ dX6_endOfPart_5 rfl ?_
      refine mk_getI (j' := 0) hJ dX6_endOfPart_6 fw_X6_9 rfl (by decide) rfl rfl ?_
      rw [h80]
      refine mj_icmp_ge (tgt := 36) hJ dX6_endOfPart_9 (by decide) (fun hyes => absurd hyes (by omega)) (fun _ => ?_)
      refine mj_aload_n hJ dX6_endOfPart_12 rfl ?_
      refine mk_getR hJ dX6_endOfPart_13 fw_X6_22 rfl (by decide) rfl rfl ?_
      refine mj_iload_n hJ dX6_endOfPart_16 rfl ?_
      refine mk_iald hJ dX6_endOfPart_17 rfl (by omega) (by omega) ?_
      rw [hg p p0 p1]
      refine mj_aload_n hJ dX6_endOfPart_18 rfl ?_
      refine mk_getR hJ dX6_endOfPart_19 fw_X6_22 rfl (by decide) rfl rfl ?_
      refine mj_iload_n hJ dX6_endOfPart_22 rfl ?_
      refine mk_iald hJ dX6_endOfPart_23 rfl (by omega) (by omega) ?_
      rw [hg q (by omega) (by omega)]
      refine mk_Sp2 hJ dX6_endOfPart_24 cw_X6_69 rfl (Nat.le_of_ble_eq_true rfl) (by first | decide | omega) (c_belong (g p) (g q)) ?_
      by_cases c : btz (g p) (g q)
      · rw [if_pos ((tog_iff p1 (by omega)).2 c)] at e
        rw [if_pos c]
        refine mj_if_eq (tgt := 36) hJ dX6_endOfPart_27 (by decide) (fun hyes => absurd hyes (by decide)) (fun _ => ?_)
        refine ms_iinc (ls' := [_, _, _]) hJ dX6_endOfPart_30 rfl (by decide) rfl (wr_id (by omega)) rfl ?_
        refine mj_goto (tgt := 4) hJ dX6_endOfPart_33 (by decide) ?_
        exact ih (q + 1) (by omega) (by omega) e
      · rw [if_neg (fun a => c ((tog_iff p1 (by omega)).1 a))] at e
        rw [if_neg c]
        refine mj_if_eq (tgt := 36) hJ dX6_endOfPart_27 (by decide) (fun _ => ?_) (fun hno => absurd rfl hno)
        exact K36 q e
  refine mj_iload_n hJ dX6_endOfPart_0 rfl ?_
  refine mj_iconst hJ dX6_endOfPart_1 (by decide) ?_
  first | refine ms_iadd hJ dX6_endOfPart_2 (by omega) ?_ | refine mj_iadd hJ dX6_endOfPart_2 ?_
  refine ms_istore_n (ls' := [_, _, _]) hJ dX6_endOfPart_3 (by decide) rfl rfl ?_
  refine loop (n - (p + 1)).toNat (p + 1) (by omega) (by omega) ?_
  unfold tend
  rw [if_pos p1]
theorem c_X6_isWord {g : Int → Int} {n : Int} (hn : n ≤ 200) (hg : ∀ j, 0 ≤ j → j < n → I 86 j = g j) (i : Nat) (L : List Int) (p e : Int) (hi : i < 22) (hL : (sTx i).2.2.2 = L) (p0 : 0 ≤ p) (p1 : p ≤ e) (e1 : e ≤ n) : MtP G yX6_isWord cX6_isWord 5 (some .boolean) 4 [vr 80, vr (1000 + i), vi p, vi e] I b (if wdb g p e L = true then 1 else 0) := by
  refine mt_enterI (own := RX6) (ls0 := [vr 80, vr (1000 + i), vi p, vi e, vu]) rfl (by decide +kernel) (Nat.le_of_ble_eq_true rfl) rfl rfl (fun J hJ hR => ?_)
  have hl10 := (sTx_R i hi).1
  rw [hL] at hl10
  have loop : e - p = L.length → ∀ (m k : Nat), k + m = L.length → mtc g (p + k) (L.drop k) = wdb g p e L → J 15 [vr 80, vr (1000 + i), vi p, vi e, vi k] [] (mk I b) := by
    intro hlen m
    induction m with
    | zero =>
      intro k hk he
      have ed : L.drop k = [] := List.drop_eq_nil_of_le (by omega)
      rw [ed] at he
      refine mj_iload hJ dX6_isWord_15 rfl ?_
      refine mj_aload_n hJ dX6_isWord_17 rfl ?_
      refine mk_Tp0 hJ dX6_isWord_18 cw_X6_96 (by omega) rfl rfl (Nat.le_of_ble_eq_true rfl) (by first | decide | omega) (c_length i hi) ?_
      rw [hL]
      refine mj_icmp_ge (tgt := 50) hJ dX6_isWord_21 (by decide) (fun _ => ?_) (fun hno => absurd (by omega) hno)
      refine mj_iconst hJ dX6_isWord_50 (by decide) ?_
      exact hR _ _ _ _ _ dX6_isWord_51 (nar_z (by first | exact Or.inl rfl | exact Or.inr rfl | assumption | omega)) ⟨by rw [if_pos (show wdb g p e L = true from he.symm)], rfl, rfl⟩
    | succ m ih =>
      intro k hk he
      have hkl : k < L.length := by omega
      have hch := sch_bd (i := i) hi (k := k) (by omega) (by rw [hL]; omega)
      rw [mtc_drop hkl] at he
      refine mj_iload hJ dX6_isWord_15 rfl ?_
      refine mj_aload_n hJ dX6_isWord_17 rfl ?_
      refine mk_Tp0 hJ dX6_isWord_18 cw_X6_96 (by omega) rfl rfl (Nat.le_of_ble_eq_true rfl) (by first | decide | omega) (c_length i hi) ?_
      rw [hL]
      refine mj_icmp_ge (tgt := 50) hJ dX6_isWord_21 (by decide) (fun hyes => absurd hyes (by omega)) (fun _ => ?_)
      refine mj_aload_n hJ dX6_isWord_24 rfl ?_
      refine mj_iload hJ dX6_isWord_25 rfl ?_
      refine mk_Tp1 hJ dX6_isWord_27 cw_X6_102 (by omega) rfl rfl (Nat.le_of_ble_eq_true rfl) (by first | decide | omega) (c_chrAt i k hi (by omega) (by rw [hL]; omega)) ?_
      rw [hL, Int.toNat_natCast]
      refine mj_aload_n hJ dX6_isWord_30 rfl ?_
      refine mk_getR hJ dX6_isWord_31 fw_X6_22 rfl (by decide) rfl rfl ?_
      refine mj_iload_n hJ dX6_isWord_34 rfl ?_
      refine mj_iload hJ dX6_isWord_35 rfl ?_
      first | refine ms_iadd hJ dX6_isWord_37 (by omega) ?_ | refine mj_iadd hJ dX6_isWord_37 ?_
      refine mk_iald hJ dX6_isWord_38 rfl (by omega) (by omega) ?_
      rw [hg (p + k) (by omega) (by omega)]
      refine mj_icmp_eq (tgt := 44) hJ dX6_isWord_39 (by decide) (fun hne => ?_) (fun hne => ?_)
      · rw [decide_eq_true hne.symm, Bool.true_and] at he
        refine ms_iinc (ls' := [_, _, _, _, _]) hJ dX6_isWord_44 rfl (by decide) rfl (wr_id (by omega)) rfl ?_
        refine mj_goto (tgt := 15) hJ dX6_isWord_47 (by decide) ?_
        exact ih (k + 1) (by omega) he
      · rw [decide_eq_false (fun q => hne q.symm), Bool.false_and] at he
        refine mj_iconst hJ dX6_isWord_42 (by decide) ?_
        exact hR _ _ _ _ _ dX6_isWord_43 (nar_z (by first | exact Or.inl rfl | exact Or.inr rfl | assumption | omega)) ⟨by rw [← he]; rfl, rfl, rfl⟩
  refine mj_aload_n hJ dX6_isWord_0 rfl ?_
  refine mk_Tp0 hJ dX6_isWord_1 cw_X6_96 (by omega) rfl rfl (Nat.le_of_ble_eq_true rfl) (by first | decide | omega) (c_length i hi) ?_
  rw [hL]
  refine mj_iload_n hJ dX6_isWord_4 rfl ?_
  refine mj_iload_n hJ dX6_isWord_5 rfl ?_
  first | refine ms_isub hJ dX6_isWord_6 (by omega) ?_ | refine mj_isub hJ dX6_isWord_6 ?_
  refine mj_icmp_eq (tgt := 12) hJ dX6_isWord_7 (by decide) (fun hlen => ?_) (fun hlen => ?_)
  · refine mj_iconst hJ dX6_isWord_12 (by decide) ?_
    refine ms_istore (ls' := [_, _, _, _, _]) hJ dX6_isWord_13 (by decide) rfl rfl ?_
    refine loop (by omega) L.length 0 (by omega) ?_
    unfold wdb
    rw [decide_eq_true (by omega), Bool.true_and, List.drop_zero]
    congr 1
    omega
  · refine mj_iconst hJ dX6_isWord_10 (by decide) ?_
    refine hR _ _ _ _ _ dX6_isWord_11 (nar_z (Or.inl rfl)) ⟨?_, rfl, rfl⟩
    unfold wdb
    rw [decide_eq_false (by omega)]
    rfl
theorem c_kindOfWord {g : Int → Int} {n : Int} (hn : n ≤ 200) (hg : ∀ j, 0 ≤ j → j < n → I 86 j = g j) (p e : Int) (p0 : 0 ≤ p) (p1 : p ≤ e) (e1 : e ≤ n) : MtP G yX6_kindOfWord cX6_kindOfWord 3 (some .int) 5 [vr 80, vi p, vi e] I b (kndW g p e) := by
  refine mt_enterI (own := RX6) (ls0 := [vr 80, vi p, vi e]) rfl (by decide +kernel) (Nat.le_of_ble_eq_true rfl) rfl rfl (fun J hJ hR => ?_)
  unfold kndW at hR
  refine mj_aload_n hJ dX6_kindOfWord_0 rfl ?_
  refine mj_ldcS (i := 0) hJ dX6_kindOfWord_1 (by decide) rfl rfl ?_
  refine mj_iload_n hJ dX6_kindOfWord_3 rfl ?_
  refine mj_iload_n hJ dX6_kindOfWord_4 rfl ?_
  refine mk_Vp3 hJ dX6_kindOfWord_5 cw_X6_78 rfl rfl rfl rfl (Nat.le_of_ble_eq_true rfl) (by first | decide | omega) (c_X6_isWord hn hg 0 [108, 101, 116] p e (by decide) rfl p0 p1 e1) ?_
  by_cases c0 : wdb g p e [108, 101, 116] = true
  · rw [if_pos c0] at hR ⊢
    refine mj_if_eq (tgt := 13) hJ dX6_kindOfWord_8 (by decide) (fun hyes => absurd hyes (by decide)) (fun _ => ?_)
    refine mj_iconst hJ dX6_kindOfWord_11 (by decide) ?_
    exact hR _ _ _ _ _ dX6_kindOfWord_12 nar_i ⟨rfl, rfl, rfl⟩
  rw [if_neg c0] at hR ⊢
  refine mj_if_eq (tgt := 13) hJ dX6_kindOfWord_8 (by decide) (fun _ => ?_) (fun hno => absurd rfl hno)
  refine mj_aload_n hJ dX6_kindOfWord_13 rfl ?_
  refine mj_ldcS (i := 1) hJ dX6_kindOfWord_14 (by decide) rfl rfl ?_
  refine mj_iload_n hJ dX6_kindOfWord_16 rfl ?_
  refine mj_iload_n hJ dX6_kindOfWord_17 rfl ?_
  refine mk_Vp3 hJ dX6_kindOfWord_18 cw_X6_78 rfl rfl rfl rfl (Nat.le_of_ble_eq_true rfl) (by first | decide | omega) (c_X6_isWord hn hg 1 [105, 102] p e (by decide) rfl p0 p1 e1) ?_
  by_cases c1 : wdb g p e [105, 102] = true
  · rw [if_pos c1] at hR ⊢
    refine mj_if_eq (tgt := 26) hJ dX6_kindOfWord_21 (by decide) (fun hyes => absurd hyes (by decide)) (fun _ => ?_)
    refine mj_iconst hJ dX6_kindOfWord_24 (by decide) ?_
    exact hR _ _ _ _ _ dX6_kindOfWord_25 nar_i ⟨rfl, rfl, rfl⟩
  rw [if_neg c1] at hR ⊢
  refine mj_if_eq (tgt := 26) hJ dX6_kindOfWord_21 (by decide) (fun _ => ?_) (fun hno => absurd rfl hno)
  refine mj_aload_n hJ dX6_kindOfWord_26 rfl ?_
  refine mj_ldcS (i := 2) hJ dX6_kindOfWord_27 (by decide) rfl rfl ?_
  refine mj_iload_n hJ dX6_kindOfWord_29 rfl ?_
  refine mj_iload_n hJ dX6_kindOfWord_30 rfl ?_
  refine mk_Vp3 hJ dX6_kindOfWord_31 cw_X6_78 rfl rfl rfl rfl (Nat.le_of_ble_eq_true rfl) (by first | decide | omega) (c_X6_isWord hn hg 2 [111, 114] p e (by decide) rfl p0 p1 e1) ?_
  by_cases c2 : wdb g p e [111, 114] = true
  · rw [if_pos c2] at hR ⊢
    refine mj_if_eq (tgt := 39) hJ dX6_kindOfWord_34 (by decide) (fun hyes => absurd hyes (by decide)) (fun _ => ?_)
    refine mj_iconst hJ dX6_kindOfWord_37 (by decide) ?_
    exact hR _ _ _ _ _ dX6_kindOfWord_38 nar_i ⟨rfl, rfl, rfl⟩
  rw [if_neg c2] at hR ⊢
  refine mj_if_eq (tgt := 39) hJ dX6_kindOfWord_34 (by decide) (fun _ => ?_) (fun hno => absurd rfl hno)
  refine mj_aload_n hJ dX6_kindOfWord_39 rfl ?_
  refine mj_ldcS (i := 3) hJ dX6_kindOfWord_40 (by decide) rfl rfl ?_
  refine mj_iload_n hJ dX6_kindOfWord_42 rfl ?_
  refine mj_iload_n hJ dX6_kindOfWord_43 rfl ?_
  refine mk_Vp3 hJ dX6_kindOfWord_44 cw_X6_78 rfl rfl rfl rfl (Nat.le_of_ble_eq_true rfl) (by first | decide | omega) (c_X6_isWord hn hg 3 [97, 110, 100] p e (by decide) rfl p0 p1 e1) ?_
  by_cases c3 : wdb g p e [97, 110, 100] = true
  · rw [if_pos c3] at hR ⊢
    refine mj_if_eq (tgt := 53) hJ dX6_kindOfWord_47 (by decide) (fun hyes => absurd hyes (by decide)) (fun _ => ?_)
    refine mj_bipush hJ dX6_kindOfWord_50 (by decide) ?_
    exact hR _ _ _ _ _ dX6_kindOfWord_52 nar_i ⟨rfl, rfl, rfl⟩
  rw [if_neg c3] at hR ⊢
  refine mj_if_eq (tgt := 53) hJ dX6_kindOfWord_47 (by decide) (fun _ => ?_) (fun hno => absurd rfl hno)
  refine mj_aload_n hJ dX6_kindOfWord_53 rfl ?_
  refine mj_ldcS (i := 4) hJ dX6_kindOfWord_54 (by decide) rfl rfl ?_
  refine mj_iload_n hJ dX6_kindOfWord_56 rfl ?_
  refine mj_iload_n hJ dX6_kindOfWord_57 rfl ?_
  refine mk_Vp3 hJ dX6_kindOfWord_58 cw_X6_78 rfl rfl rfl rfl (Nat.le_of_ble_eq_true rfl) (by first | decide | omega) (c_X6_isWord hn hg 4 [110, 111, 116] p e (by decide) rfl p0 p1 e1) ?_
  by_cases c4 : wdb g p e [110, 111, 116] = true
  · rw [if_pos c4] at hR ⊢
    refine mj_if_eq (tgt := 67) hJ dX6_kindOfWord_61 (by decide) (fun hyes => absurd hyes (by decide)) (fun _ => ?_)
    refine mj_bipush hJ dX6_kindOfWord_64 (by decide) ?_
    exact hR _ _ _ _ _ dX6_kindOfWord_66 nar_i ⟨rfl, rfl, rfl⟩
  rw [if_neg c4] at hR ⊢
  refine mj_if_eq (tgt := 67) hJ dX6_kindOfWord_61 (by decide) (fun _ => ?_) (fun hno => absurd rfl hno)
  refine mj_aload_n hJ dX6_kindOfWord_67 rfl ?_
  refine mj_ldcS (i := 5) hJ dX6_kindOfWord_68 (by decide) rfl rfl ?_
  refine mj_iload_n hJ dX6_kindOfWord_70 rfl ?_
  refine mj_iload_n hJ dX6_kindOfWord_71 rfl ?_
  refine mk_Vp3 hJ dX6_kindOfWord_72 cw_X6_78 rfl rfl rfl rfl (Nat.le_of_ble_eq_true rfl) (by first | decide | omega) (c_X6_isWord hn hg 5 [119, 101, 116] p e (by decide) rfl p0 p1 e1) ?_
  by_cases c5 : wdb g p e [119, 101, 116] = true
  · rw [if_pos c5] at hR ⊢
    refine mj_if_eq (tgt := 82) hJ dX6_kindOfWord_75 (by decide) (fun hyes => absurd hyes (by decide)) (fun _ => ?_)
    refine mj_sipush hJ dX6_kindOfWord_78 (by decide) ?_
    exact hR _ _ _ _ _ dX6_kindOfWord_81 nar_i ⟨rfl, rfl, rfl⟩
  rw [if_neg c5] at hR ⊢
  refine mj_if_eq (tgt := 82) hJ dX6_kindOfWord_75 (by decide) (fun _ => ?_) (fun hno => absurd rfl hno)
  refine mj_aload_n hJ dX6_kindOfWord_82 rfl ?_
  refine mj_ldcS (i := 6) hJ dX6_kindOfWord_83 (by decide) rfl rfl ?_
  refine mj_iload_n hJ dX6_kindOfWord_85 rfl ?_
  refine mj_iload_n hJ dX6_kindOfWord_86 rfl ?_
  refine mk_Vp3 hJ dX6_kindOfWord_87 cw_X6_78 rfl rfl rfl rfl (Nat.le_of_ble_eq_true rfl) (by first | decide | omega) (c_X6_isWord hn hg 6 [99, 111, 109, 101, 115] p e (by decide) rfl p0 p1 e1) ?_
  by_cases c6 : wdb g p e [99, 111, 109, 101, 115] = true
  · rw [if_pos c6] at hR ⊢
    refine mj_if_eq (tgt := 97) hJ dX6_kindOfWord_90 (by decide) (fun hyes => absurd hyes (by decide)) (fun _ => ?_)
    refine mj_sipush hJ dX6_kindOfWord_93 (by decide) ?_
    exact hR _ _ _ _ _ dX6_kindOfWord_96 nar_i ⟨rfl, rfl, rfl⟩
  rw [if_neg c6] at hR ⊢
  refine mj_if_eq (tgt := 97) hJ dX6_kindOfWord_90 (by decide) (fun _ => ?_) (fun hno => absurd rfl hno)
  refine mj_aload_n hJ dX6_kindOfWord_97 rfl ?_
  refine mj_ldcS (i := 7) hJ dX6_kindOfWord_98 (by decide) rfl rfl ?_
  refine mj_iload_n hJ dX6_kindOfWord_100 rfl ?_
  refine mj_iload_n hJ dX6_kindOfWord_101 rfl ?_
  refine mk_Vp3 hJ dX6_kindOfWord_102 cw_X6_78 rfl rfl rfl rfl (Nat.le_of_ble_eq_true rfl) (by first | decide | omega) (c_X6_isWord hn hg 7 [102, 108, 111, 119] p e (by decide) rfl p0 p1 e1) ?_
  by_cases c7 : wdb g p e [102, 108, 111, 119] = true
  · rw [if_pos c7] at hR ⊢
    refine mj_if_eq (tgt := 114) hJ dX6_kindOfWord_105 (by decide) (fun hyes => absurd hyes (by decide)) (fun _ => ?_)
    refine mj_sipush hJ dX6_kindOfWord_108 (by decide) ?_
    refine mj_goto (tgt := 115) hJ dX6_kindOfWord_111 (by decide) ?_
    exact hR _ _ _ _ _ dX6_kindOfWord_115 nar_i ⟨rfl, rfl, rfl⟩
  rw [if_neg c7] at hR ⊢
  refine mj_if_eq (tgt := 114) hJ dX6_kindOfWord_105 (by decide) (fun _ => ?_) (fun hno => absurd rfl hno)
  refine mj_iconst hJ dX6_kindOfWord_114 (by decide) ?_
  exact hR _ _ _ _ _ dX6_kindOfWord_115 nar_i ⟨rfl, rfl, rfl⟩
theorem c_kindOfPart {g : Int → Int} {n : Int} (hn : n ≤ 200) (hg : ∀ j, 0 ≤ j → j < n → I 86 j = g j) (p e : Int) (p0 : 0 ≤ p) (p2 : p < n) (p1 : p ≤ e) (e1 : e ≤ n) : MtP G yX6_kindOfPart cX6_kindOfPart 3 (some .int) 6 [vr 80, vi p, vi e] I b (kndE g p e) := by
  refine mt_enterI (own := RX6) (ls0 := [vr 80, vi p, vi e]) rfl (by decide +kernel) (Nat.le_of_ble_eq_true rfl) rfl rfl (fun J hJ hR => ?_)
  unfold kndE at hR
  refine mj_aload_n hJ dX6_kindOfPart_0 rfl ?_
  refine mk_getR hJ dX6_kindOfPart_1 fw_X6_22 rfl (by decide) rfl rfl ?_
  refine mj_iload_n hJ dX6_kindOfPart_4 rfl ?_
  refine mk_iald hJ dX6_kindOfPart_5 rfl (by omega) (by omega) ?_
  rw [hg p p0 p2]
  refine mk_Sp1 hJ dX6_kindOfPart_6 cw_X6_63 rfl (Nat.le_of_ble_eq_true rfl) (by first | decide | omega) (c_isLetter (g p)) ?_
  by_cases c1 : ltz (g p)
  · rw [if_pos c1] at hR ⊢
    refine mj_if_eq (tgt := 19) hJ dX6_kindOfPart_9 (by decide) (fun hyes => absurd hyes (by decide)) (fun _ => ?_)
    refine mj_aload_n hJ dX6_kindOfPart_12 rfl ?_
    refine mj_iload_n hJ dX6_kindOfPart_13 rfl ?_
    refine mj_iload_n hJ dX6_kindOfPart_14 rfl ?_
    refine mk_Vp2 hJ dX6_kindOfPart_15 cw_X6_73 rfl rfl rfl rfl (Nat.le_of_ble_eq_true rfl) (by first | decide | omega) (c_kindOfWord hn hg p e p0 p1 e1) ?_
    exact hR _ _ _ _ _ dX6_kindOfPart_18 nar_i ⟨rfl, rfl, rfl⟩
  rw [if_neg c1] at hR ⊢
  refine mj_if_eq (tgt := 19) hJ dX6_kindOfPart_9 (by decide) (fun _ => ?_) (fun hno => absurd rfl hno)
  refine mj_aload_n hJ dX6_kindOfPart_19 rfl ?_
  refine mk_getR hJ dX6_kindOfPart_20 fw_X6_22 rfl (by decide) rfl rfl ?_
  refine mj_iload_n hJ dX6_kindOfPart_23 rfl ?_
  refine mk_iald hJ dX6_kindOfPart_24 rfl (by omega) (by omega) ?_
  rw [hg p p0 p2]
  refine mk_Sp1 hJ dX6_kindOfPart_25 cw_X6_66 rfl (Nat.le_of_ble_eq_true rfl) (by first | decide | omega) (c_isDigit (g p)) ?_
  by_cases c2 : dgz (g p)
  · rw [if_pos c2] at hR ⊢
    refine mj_if_eq (tgt := 44) hJ dX6_kindOfPart_28 (by decide) (fun hyes => absurd hyes (by decide)) (fun _ => ?_)
    refine mj_iload_n hJ dX6_kindOfPart_31 rfl ?_
    refine mj_iload_n hJ dX6_kindOfPart_32 rfl ?_
    first | refine ms_isub hJ dX6_kindOfPart_33 (by omega) ?_ | refine mj_isub hJ dX6_kindOfPart_33 ?_
    refine mj_iconst hJ dX6_kindOfPart_34 (by decide) ?_
    refine mj_icmp_gt (tgt := 42) hJ dX6_kindOfPart_35 (by decide) (fun c3 => ?_) (fun c3 => ?_)
    · rw [if_neg (by omega)] at hR
      refine mj_iconst hJ dX6_kindOfPart_42 (by decide) ?_
      exact hR _ _ _ _ _ dX6_kindOfPart_43 nar_i ⟨rfl, rfl, rfl⟩
    · rw [if_pos (by omega)] at hR
      refine mj_iconst hJ dX6_kindOfPart_38 (by decide) ?_
      refine mj_goto (tgt := 43) hJ dX6_kindOfPart_39 (by decide) ?_
      exact hR _ _ _ _ _ dX6_kindOfPart_43 nar_i ⟨rfl, rfl, rfl⟩
  rw [if_neg c2] at hR ⊢
  refine mj_if_eq (tgt := 44) hJ dX6_kindOfPart_28 (by decide) (fun _ => ?_) (fun hno => absurd rfl hno)
  unfold kndS at hR
  refine mj_aload_n hJ dX6_kindOfPart_44 rfl ?_
  refine mk_getR hJ dX6_kindOfPart_45 fw_X6_22 rfl (by decide) rfl rfl ?_
  refine mj_iload_n hJ dX6_kindOfPart_48 rfl ?_
  refine mk_iald hJ dX6_kindOfPart_49 rfl (by omega) (by omega) ?_
  rw [hg p p0 p2]
  by_cases d59 : g p = 59
  · rw [if_pos d59] at hR
    rw [d59]
    refine mj_look (off := 58) (tgt := 108) hJ dX6_kindOfPart_50 (by decide) rfl (by decide) ?_
    refine mj_bipush hJ dX6_kindOfPart_108 (by decide) ?_
    exact hR _ _ _ _ _ dX6_kindOfPart_110 nar_i ⟨rfl, rfl, rfl⟩
  rw [if_neg d59] at hR
  by_cases d40 : g p = 40
  · rw [if_pos d40] at hR
    rw [d40]
    refine mj_look (off := 61) (tgt := 111) hJ dX6_kindOfPart_50 (by decide) rfl (by decide) ?_
    refine mj_bipush hJ dX6_kindOfPart_111 (by decide) ?_
    exact hR _ _ _ _ _ dX6_kindOfPart_113 nar_i ⟨rfl, rfl, rfl⟩
  rw [if_neg d40] at hR
  by_cases d41 : g p = 41
  · rw [if_pos d41] at hR
    rw [d41]
    refine mj_look (off := 64) (tgt := 114) hJ dX6_kindOfPart_50 (by decide) rfl (by decide) ?_
    refine mj_bipush hJ dX6_kindOfPart_114 (by decide) ?_
    exact hR _ _ _ _ _ dX6_kindOfPart_116 nar_i ⟨rfl, rfl, rfl⟩
  rw [if_neg d41] at hR
  by_cases d60 : g p = 60
  · rw [if_pos d60] at hR
    rw [d60]
    refine mj_look (off := 67) (tgt := 117) hJ dX6_kindOfPart_50 (by decide) rfl (by decide) ?_
    refine mj_bipush hJ dX6_kindOfPart_117 (by decide) ?_
    exact hR _ _ _ _ _ dX6_kindOfPart_119 nar_i ⟨rfl, rfl, rfl⟩
  rw [if_neg d60] at hR
  by_cases d61 : g p = 61
  · rw [if_pos d61] at hR
    rw [d61]
    refine mj_look (off := 70) (tgt := 120) hJ dX6_kindOfPart_50 (by decide) rfl (by decide) ?_
    refine mj_bipush hJ dX6_kindOfPart_120 (by decide) ?_
    exact hR _ _ _ _ _ dX6_kindOfPart_122 nar_i ⟨rfl, rfl, rfl⟩
  rw [if_neg d61] at hR
  by_cases d62 : g p = 62
  · rw [if_pos d62] at hR
    rw [d62]
    refine mj_look (off := 73) (tgt := 123) hJ dX6_kindOfPart_50 (by decide) rfl (by decide) ?_
    refine mj_bipush hJ dX6_kindOfPart_123 (by decide) ?_
    exact hR _ _ _ _ _ dX6_kindOfPart_125 nar_i ⟨rfl, rfl, rfl⟩
  rw [if_neg d62] at hR
  refine mj_look (off := 76) (tgt := 126) hJ dX6_kindOfPart_50 (by decide) (lko d40 d41 d59 d60 d61 d62) (by decide) ?_
  refine mj_iconst hJ dX6_kindOfPart_126 (by decide) ?_
  exact hR _ _ _ _ _ dX6_kindOfPart_127 nar_i ⟨rfl, rfl, rfl⟩
theorem c_numberOf {g : Int → Int} {n : Int} (hn : n ≤ 200) (hg : ∀ j, 0 ≤ j → j < n → I 86 j = g j) (p e : Int) (p0 : 0 ≤ p) (p1 : p ≤ e) (e1 : e ≤ n) (e3 : e - p ≤ 3) (hd : ∀ j, p ≤ j → j < e → 48 ≤ g j ∧ g j ≤ 57) : MtP G yX6_numberOf cX6_numberOf 5 (some .int) 0 [vr 80, vi p, vi e] I b (nmv g (e - p).toNat p 0) := by
  refine mt_enterI (own := RX6) (ls0 := [vr 80, vi p, vi e, vu, vu]) rfl (by decide +kernel) (Nat.le_of_ble_eq_true rfl) rfl rfl (fun J hJ hR => ?_)
  have loop : ∀ (m : Nat) (q a : Int), q + m = e → p ≤ q → 0 ≤ a → m ≤ 3 → ((m = 3 → a = 0) ∧ (m = 2 → a ≤ 9) ∧ (m = 1 → a ≤ 99) ∧ a ≤ 999) → nmv g m q a = nmv g (e - p).toNat p 0 → J 5 [vr 80, vi p, vi e, vi a, vi q] [] (mk I b) := by
    intro m
    induction m with
    | zero =>
      intro q a qm pq a0 m3 ha he
      refine mj_iload hJ dX6_numberOf_5 rfl ?_
      refine mj_iload_n hJ dX6_numberOf_7 rfl ?_
      refine mj_icmp_ge (tgt := 33) hJ dX6_numberOf_8 (by decide) (fun _ => ?_) (fun hno => absurd (by omega) hno)
      refine mj_iload_n hJ dX6_numberOf_33 rfl ?_
      exact hR _ _ _ _ _ dX6_numberOf_34 nar_i ⟨he, rfl, rfl⟩
    | succ m ih =>
      intro q a qm pq a0 m3 ha he
      have d := hd q pq (by omega)
      refine mj_iload hJ dX6_numberOf_5 rfl ?_
      refine mj_iload_n hJ dX6_numberOf_7 rfl ?_
      refine mj_icmp_ge (tgt := 33) hJ dX6_numberOf_8 (by decide) (fun hyes => absurd hyes (by omega)) (fun _ => ?_)
      refine mj_bipush hJ dX6_numberOf_11 (by decide) ?_
      refine mj_iload_n hJ dX6_numberOf_13 rfl ?_
      first | refine ms_imul hJ dX6_numberOf_14 (by omega) ?_ | refine mj_imul hJ dX6_numberOf_14 ?_
      refine mj_aload_n hJ dX6_numberOf_15 rfl ?_
      refine mk_getR hJ dX6_numberOf_16 fw_X6_22 rfl (by decide) rfl rfl ?_
      refine mj_iload hJ dX6_numberOf_19 rfl ?_
      refine mk_iald hJ dX6_numberOf_21 rfl (by omega) (by omega) ?_
      rw [hg q (by omega) (by omega)]
      first | refine ms_iadd hJ dX6_numberOf_22 (by omega) ?_ | refine mj_iadd hJ dX6_numberOf_22 ?_
      refine mj_bipush hJ dX6_numberOf_23 (by decide) ?_
      first | refine ms_isub hJ dX6_numberOf_25 (by omega) ?_ | refine mj_isub hJ dX6_numberOf_25 ?_
      refine ms_istore_n (ls' := [_, _, _, _, _]) hJ dX6_numberOf_26 (by decide) rfl rfl ?_
      refine ms_iinc (ls' := [_, _, _, _, _]) hJ dX6_numberOf_27 rfl (by decide) rfl (wr_id (by omega)) rfl ?_
      refine mj_goto (tgt := 5) hJ dX6_numberOf_30 (by decide) ?_
      exact ih (q + 1) (10 * a + g q - 48) (by omega) (by omega) (by omega) (by omega) (by omega) he
  refine mj_iconst hJ dX6_numberOf_0 (by decide) ?_
  refine ms_istore_n (ls' := [_, _, _, _, _]) hJ dX6_numberOf_1 (by decide) rfl rfl ?_
  refine mj_iload_n hJ dX6_numberOf_2 rfl ?_
  refine ms_istore (ls' := [_, _, _, _, _]) hJ dX6_numberOf_3 (by decide) rfl rfl ?_
  refine loop (e - p).toNat p 0 (by omega) (Int.le_refl _) (Int.le_refl _) (by omega) (by omega) rfl
/-- the parts before c, as the class holds them -/
def TK (I : Ints) (g : Int → Int) (n : Int) (c : Nat) : Prop := (∀ i, i < c → tkp g n i < n) ∧ ∀ i : Nat, i < c → I 89 i = tkp g n i ∧ I 87 i = knd g n (tkp g n i) ∧ (knd g n (tkp g n i) = 2 → I 88 i = nv g n (tkp g n i))
/-- all the parts -/
def TKE (I : Ints) (g : Int → Int) (n : Int) (c : Nat) : Prop := TK I g n c ∧ tkp g n c = n ∧ I 89 c = n ∧ I 87 c = 0
theorem c_split {g : Int → Int} {n : Int} (n0 : 0 ≤ n) (hn : n ≤ 200) (h80 : I 80 0 = n) (hg : ∀ j, 0 ≤ j → j < n → I 86 j = g j) : MtV G yX6_split cX6_split 4 7 [vr 80] I b (fun I' b' => b' = b ∧ (∀ c, c < 87 ∨ 89 < c → I' c = I c) ∧ ∃ c, TKE I' g n c) := by
  refine mt_enterV (own := RX6) (ls0 := [vr 80, vu, vu, vu]) rfl (by decide +kernel) (Nat.le_of_ble_eq_true rfl) rfl (fun J hJ hR => ?_)
  have loop : ∀ (m : Nat) (q : Int) (c : Nat) (x : Vl) (I1 : Ints), q + m = n → 0 ≤ q → (∀ c, c < 87 ∨ 89 < c → I1 c = I c) → q ≤ tkp g n c → (∀ j, q ≤ j → j < tkp g n c → ¬bgn g j) → (tkp g n c < n → bgn g (tkp g n c)) → TK I1 g n c → J 4 [vr 80, vi c, vi q, x] [] (mk I1 b) := by
    intro m
    induction m with
    | zero =>
      intro q c x I1 qm q0 hf h1 h2 h3 hk
      have tb := tkp_bd (g := g) n0 c
      have ti := tkp_i (g := g) n0 c hk.1
      refine mj_iload_n hJ dX6_split_4 rfl ?_
      refine mj_aload_n hJ dX6_split_5 rfl ?_
      refine mk_getI (j' := 0) hJ dX6_split_6 fw_X6_9 rfl (by decide) rfl rfl ?_
      rw [hf 80 (by decide), h80]
      refine mj_icmp_ge (tgt := 80) hJ dX6_split_9 (by decide) (fun _ => ?_) (fun hno => absurd (by omega) hno)
      refine mj_aload_n hJ dX6_split_80 rfl ?_
      refine mk_getR hJ dX6_split_81 fw_X6_32 rfl (by decide) rfl rfl ?_
      refine mj_iload_n hJ dX6_split_84 rfl ?_
      refine mj_aload_n hJ dX6_split_85 rfl ?_
      refine mk_getI (j' := 0) hJ dX6_split_86 fw_X6_9 rfl (by decide) rfl rfl ?_
      rw [hf 80 (by decide), h80]
      refine mk_iast hJ dX6_split_89 rfl (by omega) (by omega) ?_
      refine mj_aload_n hJ dX6_split_90 rfl ?_
      refine mk_getR hJ dX6_split_91 fw_X6_26 rfl (by decide) rfl rfl ?_
      refine mj_iload_n hJ dX6_split_94 rfl ?_
      refine mj_iconst hJ dX6_split_95 (by decide) ?_
      refine mk_iast hJ dX6_split_96 rfl (by omega) (by omega) ?_
      refine hR _ _ _ _ dX6_split_97 ⟨rfl, fun d hd => by rw [upI_ne (by omega), upI_ne (by omega)]; exact hf d hd, c, ⟨hk.1, fun i hi => ?_⟩, by omega, ?_, ?_⟩
      · have := hk.2 i hi
        have e : (i : Int) ≠ c := by omega
        rw [upI_ne (by decide), upI_at, if_neg e, upI_at, if_neg e, upI_ne (by decide), upI_ne (by decide), upI_ne (by decide)]
        exact this
      · rw [upI_ne (by decide), upI_at, if_pos rfl]
      · rw [upI_at, if_pos rfl]
    | succ m ih =>
      intro q c x I1 qm q0 hf h1 h2 h3 hk
      have tb := tkp_bd (g := g) n0 c
      have ti := tkp_i (g := g) n0 c hk.1
      have hg1 : ∀ j, 0 ≤ j → j < n → I1 86 j = g j := fun j a d => by rw [hf 86 (by decide)]; exact hg j a d
      have hf80 : I1 80 0 = n := by rw [hf 80 (by decide)]; exact h80
      refine mj_iload_n hJ dX6_split_4 rfl ?_
      refine mj_aload_n hJ dX6_split_5 rfl ?_
      refine mk_getI (j' := 0) hJ dX6_split_6 fw_X6_9 rfl (by decide) rfl rfl ?_
      rw [hf80]
      refine mj_icmp_ge (tgt := 80) hJ dX6_split_9 (by decide) (fun hyes => absurd hyes (by omega)) (fun _ => ?_)
      refine mj_aload_n hJ dX6_split_12 rfl ?_
      refine mj_iload_n hJ dX6_split_13 rfl ?_
      refine mk_Vp1 hJ dX6_split_14 cw_X6_48 rfl rfl rfl rfl (Nat.le_of_ble_eq_true rfl) (by first | decide | omega) (c_beginsPart hn hg1 q q0 (by omega)) ?_
      by_cases cb : bgn g q
      · have eq : tkp g n c = q := by
          by_cases e : q < tkp g n c
          · exact absurd cb (h2 q (Int.le_refl _) e)
          · omega
        have qn : q < n := by omega
        have bg := nxp_bg (g := g) q0 qn
        have nb := nxp_bd (g := g) (n := n) (p := q) (by omega)
        have nb3 := nb.2.2 qn
        have te := tend_bd (g := g) (n := n) (p := q) (by omega)
        have te3 := te.2.2 qn
        rw [if_pos cb]
        refine mj_if_eq (tgt := 74) hJ dX6_split_17 (by decide) (fun hyes => absurd hyes (by decide)) (fun _ => ?_)
        refine mj_aload_n hJ dX6_split_20 rfl ?_
        refine mj_iload_n hJ dX6_split_21 rfl ?_
        refine mk_Vp1 hJ dX6_split_22 cw_X6_52 rfl rfl rfl rfl (Nat.le_of_ble_eq_true rfl) (by first | decide | omega) (c_endOfPart hn hf80 hg1 q q0 qn) ?_
        refine ms_istore_n (ls' := [_, _, _, _]) hJ dX6_split_25 (by decide) rfl rfl ?_
        refine mj_aload_n hJ dX6_split_26 rfl ?_
        refine mk_getR hJ dX6_split_27 fw_X6_32 rfl (by decide) rfl rfl ?_
        refine mj_iload_n hJ dX6_split_30 rfl ?_
        refine mj_iload_n hJ dX6_split_31 rfl ?_
        refine mk_iast hJ dX6_split_32 rfl (by omega) (by omega) ?_
        refine mj_aload_n hJ dX6_split_33 rfl ?_
        refine mk_getR hJ dX6_split_34 fw_X6_26 rfl (by decide) rfl rfl ?_
        refine mj_iload_n hJ dX6_split_37 rfl ?_
        refine mj_aload_n hJ dX6_split_38 rfl ?_
        refine mj_iload_n hJ dX6_split_39 rfl ?_
        refine mj_iload_n hJ dX6_split_40 rfl ?_
        have hg2 : ∀ j, 0 ≤ j → j < n → upI I1 89 c q 86 j = g j := fun j a d => by rw [upI_ne (by decide)]; exact hg1 j a d
        refine mk_Vp2 hJ dX6_split_41 cw_X6_56 rfl rfl rfl rfl (Nat.le_of_ble_eq_true rfl) (by first | decide | omega) (c_kindOfPart hn hg2 q (tend g n q) q0 qn te.1 te.2.1) ?_
        have ek : kndE g q (tend g n q) = knd g n q := by unfold knd; rw [if_pos qn]
        rw [ek]
        obtain ⟨I2, hI2⟩ : ∃ y, upI (upI I1 89 c q) 87 c (knd g n q) = y := ⟨_, rfl⟩
        refine mk_iast hJ dX6_split_44 rfl (by omega) (by omega) ?_
        rw [hI2]
        have f2 : ∀ d, d ≠ 87 → d ≠ 89 → I2 d = I1 d := fun d a e => by rw [← hI2, upI_ne a, upI_ne e]
        have g87 : ∀ j, I2 87 j = if j = (c : Int) then knd g n q else I1 87 j := fun j => by rw [← hI2, upI_at, upI_ne (by decide)]
        have g89 : ∀ j, I2 89 j = if j = (c : Int) then q else I1 89 j := fun j => by rw [← hI2, upI_ne (by decide), upI_at]
        have K70 : ∀ v : Int, (knd g n q = 2 → v = nv g n q) → J 70 [vr 80, vi c, vi q, vi (tend g n q)] [vi v, vi c, vr 88] (mk I2 b) := by
          intro v hv
          refine mk_iast hJ dX6_split_70 rfl (by omega) (by omega) ?_
          refine ms_iinc (ls' := [_, _, _, _]) hJ dX6_split_71 rfl (by decide) rfl (wr_id (by omega)) rfl ?_
          refine ms_iinc (ls' := [_, _, _, _]) hJ dX6_split_74 rfl (by decide) rfl (wr_id (by omega)) rfl ?_
          refine mj_goto (tgt := 4) hJ dX6_split_77 (by decide) ?_
          have ec : (c : Int) + 1 = ((c + 1 : Nat) : Int) := by omega
          rw [ec]
          have et : tkp g n (c + 1) = nxp g n q := by show nxp g n (tkp g n c) = _; rw [eq]
          refine ih (q + 1) (c + 1) _ _ (by omega) (by omega) (fun d hd => by rw [upI_ne (by omega), f2 d (by omega) (by omega)]; exact hf d hd) (by rw [et]; omega) (fun j a d => by rw [et] at d; exact bg.1 j (by omega) d) (by rw [et]; exact bg.2) ⟨fun i hi => ?_, fun i hi => ?_⟩
          · by_cases e : i = c
            · rw [e, eq]; exact qn
            · exact hk.1 i (by omega)
          · rw [upI_ne (by decide), upI_ne (by decide), upI_at, g87, g89]
            by_cases e : i = c
            · subst e
              rw [if_pos rfl, if_pos rfl, if_pos rfl, eq]
              exact ⟨rfl, rfl, hv⟩
            · have e2 : (i : Int) ≠ c := by omega
              rw [if_neg e2, if_neg e2, if_neg e2, f2 88 (by decide) (by decide)]
              exact hk.2 i (by omega)
        refine mj_aload_n hJ dX6_split_45 rfl ?_
        refine mk_getR hJ dX6_split_46 fw_X6_29 rfl (by decide) rfl rfl ?_
        refine mj_iload_n hJ dX6_split_49 rfl ?_
        refine mj_aload_n hJ dX6_split_50 rfl ?_
        refine mk_getR hJ dX6_split_51 fw_X6_26 rfl (by decide) rfl rfl ?_
        refine mj_iload_n hJ dX6_split_54 rfl ?_
        refine mk_iald hJ dX6_split_55 rfl (by omega) (by omega) ?_
        rw [g87, if_pos rfl]
        refine mj_iconst hJ dX6_split_56 (by decide) ?_
        refine mj_icmp_ne (tgt := 69) hJ dX6_split_57 (by decide) (fun h57 => ?_) (fun h57 => ?_)
        · refine mj_iconst hJ dX6_split_69 (by decide) ?_
          exact K70 0 (fun q => absurd q h57)
        · have h57 : knd g n q = 2 := by omega
          have hq := (knd_2 (g := g) (n := n) (p := q) (by omega)).1 h57
          have hg3 : ∀ j, 0 ≤ j → j < n → I2 86 j = g j := fun j a d => by rw [f2 86 (by decide) (by decide)]; exact hg1 j a d
          refine mj_aload_n hJ dX6_split_60 rfl ?_
          refine mj_iload_n hJ dX6_split_61 rfl ?_
          refine mj_iload_n hJ dX6_split_62 rfl ?_
          refine mk_Vp2 hJ dX6_split_63 cw_X6_60 rfl rfl rfl rfl (Nat.le_of_ble_eq_true rfl) (by first | decide | omega) (c_numberOf hn hg3 q (tend g n q) q0 te.1 te.2.1 hq.2 (fun j a d => tend_dg hq.1 a d)) ?_
          refine mj_goto (tgt := 70) hJ dX6_split_66 (by decide) ?_
          exact K70 _ (fun _ => rfl)
      · have nq : q < tkp g n c := by
          by_cases e : q = tkp g n c
          · exact absurd (by rw [e]; exact h3 (by omega)) cb
          · omega
        rw [if_neg cb]
        refine mj_if_eq (tgt := 74) hJ dX6_split_17 (by decide) (fun _ => ?_) (fun hno => absurd rfl hno)
        refine ms_iinc (ls' := [_, _, _, _]) hJ dX6_split_74 rfl (by decide) rfl (wr_id (by omega)) rfl ?_
        refine mj_goto (tgt := 4) hJ dX6_split_77 (by decide) ?_
        exact ih (q + 1) c x I1 (by omega) (by omega) hf (by omega) (fun j a d => h2 j (by omega) d) h3 hk
  have sb := skp_bd (g := g) n0
  have bg := skp_bg (g := g) n0
  refine mj_iconst hJ dX6_split_0 (by decide) ?_
  refine ms_istore_n (ls' := [_, _, _, _]) hJ dX6_split_1 (by decide) rfl rfl ?_
  refine mj_iconst hJ dX6_split_2 (by decide) ?_
  refine ms_istore_n (ls' := [_, _, _, _]) hJ dX6_split_3 (by decide) rfl rfl ?_
  exact loop n.toNat 0 0 vu I (by omega) (Int.le_refl _) (fun _ _ => rfl) sb.1 bg.1 bg.2 ⟨fun i hi => absurd hi (Nat.not_lt_zero _), fun i hi => absurd hi (Nat.not_lt_zero _)⟩
end C15
