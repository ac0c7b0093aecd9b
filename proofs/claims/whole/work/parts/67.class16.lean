section C16
variable {G : GE} {I0 I : Ints} {b : Bool} {g : Int → Int} {n : Int} {cc k : Nat} {S : List St}
theorem TKE.cn {I : Ints} (h : TKE I g n cc) (n0 : 0 ≤ n) : (cc : Int) ≤ n := by
  have := tkp_i (g := g) n0 cc h.1.1
  rw [h.2.1] at this
  exact this
theorem TKE.lt {I : Ints} (h : TKE I g n cc) (hk : k ≤ cc) (n0 : 0 ≤ n) : k < cc ↔ tkp g n k < n := by
  refine ⟨fun q => h.1.1 k q, fun q => ?_⟩
  by_cases e : k = cc
  · rw [e, h.2.1] at q; omega
  · omega
theorem TKE.kd {I : Ints} (h : TKE I g n cc) (n0 : 0 ≤ n) (hk : k ≤ cc) : I 87 k = knd g n (tkp g n k) := by
  by_cases e : k = cc
  · rw [e, h.2.2.2, h.2.1]
    exact ((knd_0 (Int.le_refl n)).2 rfl).symm
  · exact (h.1.2 k (by omega)).2.1
theorem TKE.pl {I : Ints} (h : TKE I g n cc) (hk : k ≤ cc) : I 89 k = tkp g n k := by
  by_cases e : k = cc
  · rw [e, h.2.2.1, h.2.1]
  · exact (h.1.2 k (by omega)).1
theorem TKE.nm {I : Ints} (h : TKE I g n cc) (n0 : 0 ≤ n) (hk : k ≤ cc) (q : knd g n (tkp g n k) = 2) : I 88 k = nv g n (tkp g n k) := by
  by_cases e : k = cc
  · rw [e, h.2.1] at q
    have := (knd_0 (g := g) (Int.le_refl n)).2 rfl
    rw [this] at q
    exact absurd q (by decide)
  · exact (h.1.2 k (by omega)).2.2 q
/-- the reader is at part k, it has written the steps S since I0 -/
def CR (I0 I : Ints) (k : Nat) (S : List St) : Prop := ((∀ c, c ≠ 80 → c ≠ 81 → c ≠ 85 → I c = I0 c) ∧ (∀ j, j ≠ 6 → I 80 j = I0 80 j) ∧ (∀ j, j ≠ 5 → I 81 j = I0 81 j)) ∧ I 80 6 = k ∧ I 81 5 = I0 81 5 + S.length ∧ stp (I 85) (I0 81 5) S ∧ ∀ j, j < I0 81 5 → I 85 j = I0 85 j
theorem CR.at' (h : CR I0 I k S) (x : Int) (hx : x = ((k + 1 : Nat) : Int)) : CR I0 (upI I 80 6 x) (k + 1) S := by
  obtain ⟨⟨h1, h2, h3⟩, h4, h5, h6, h7⟩ := h
  refine ⟨⟨fun c c1 c2 c3 => by rw [upI_ne c1]; exact h1 c c1 c2 c3, fun j j1 => by rw [upI_at, if_neg j1]; exact h2 j j1, fun j j1 => by rw [upI_ne (by decide)]; exact h3 j j1⟩, by rw [upI_at, if_pos rfl]; exact hx, by rw [upI_ne (by decide)]; exact h5, by rw [upI_ne (by decide)]; exact h6, by rw [upI_ne (by decide)]; exact h7⟩
theorem c_pass (hT : TKE I0 g n cc) (n0 : 0 ≤ n) (hn : n ≤ 200) (h : CR I0 I k S) (hk : k ≤ cc) (x : Int) : MtI G yX6_pass cX6_pass 2 (some .boolean) 0 [vr 80, vi x] I b (fun z I' b' => z = (if knd g n (tkp g n k) = x then 1 else 0) ∧ b' = b ∧ (knd g n (tkp g n k) = x → CR I0 I' (k + 1) S) ∧ (¬knd g n (tkp g n k) = x → I' = I)) := by
  refine mt_enterI (own := RX6) (ls0 := [vr 80, vi x]) rfl (by decide +kernel) (Nat.le_of_ble_eq_true rfl) rfl rfl (fun J hJ hR => ?_)
  have hc := hT.cn n0
  refine mj_aload_n hJ dX6_pass_0 rfl ?_
  refine mk_getR hJ dX6_pass_1 fw_X6_26 rfl (by decide) rfl rfl ?_
  refine mj_aload_n hJ dX6_pass_4 rfl ?_
  refine mk_getI (j' := 6) hJ dX6_pass_5 fw_X6_35 rfl (by decide) rfl rfl ?_
  rw [h.2.1]
  refine mk_iald hJ dX6_pass_8 rfl (by omega) (by omega) ?_
  rw [h.1.1 87 (by decide) (by decide) (by decide), hT.kd n0 hk]
  refine mj_iload_n hJ dX6_pass_9 rfl ?_
  refine mj_icmp_eq (tgt := 15) hJ dX6_pass_10 (by decide) (fun c => ?_) (fun c => ?_)
  · refine mj_aload_n hJ dX6_pass_15 rfl ?_
    refine mj_dupr hJ dX6_pass_16 ?_
    refine mk_getI (j' := 6) hJ dX6_pass_17 fw_X6_35 rfl (by decide) rfl rfl ?_
    rw [h.2.1]
    refine mj_iconst hJ dX6_pass_20 (by decide) ?_
    first | refine ms_iadd hJ dX6_pass_21 (by omega) ?_ | refine mj_iadd hJ dX6_pass_21 ?_
    refine mk_putI (j' := 6) hJ dX6_pass_22 fw_X6_35 rfl (by decide) rfl rfl ?_
    refine mj_iconst hJ dX6_pass_25 (by decide) ?_
    exact hR _ _ _ _ _ dX6_pass_26 (nar_z (by first | exact Or.inl rfl | exact Or.inr rfl | assumption | omega)) ⟨by rw [if_pos c], rfl, fun _ => h.at' _ (by omega), fun q => absurd c q⟩
  · refine mj_iconst hJ dX6_pass_13 (by decide) ?_
    exact hR _ _ _ _ _ dX6_pass_14 (nar_z (by first | exact Or.inl rfl | exact Or.inr rfl | assumption | omega)) ⟨by rw [if_neg c], rfl, fun q => absurd q c, fun _ => rfl⟩
theorem c_isNumber (hT : TKE I0 g n cc) (n0 : 0 ≤ n) (hn : n ≤ 200) (h : CR I0 I k S) (hk : k ≤ cc) (x : Int) : MtP G yX6_isNumber cX6_isNumber 2 (some .boolean) 0 [vr 80, vi x] I b (if isn g n (tkp g n k) ∧ nv g n (tkp g n k) ≤ x then 1 else 0) := by
  refine mt_enterI (own := RX6) (ls0 := [vr 80, vi x]) rfl (by decide +kernel) (Nat.le_of_ble_eq_true rfl) rfl rfl (fun J hJ hR => ?_)
  have hc := hT.cn n0
  have tb := tkp_bd (g := g) n0 k
  refine mj_aload_n hJ dX6_isNumber_0 rfl ?_
  refine mk_getR hJ dX6_isNumber_1 fw_X6_26 rfl (by decide) rfl rfl ?_
  refine mj_aload_n hJ dX6_isNumber_4 rfl ?_
  refine mk_getI (j' := 6) hJ dX6_isNumber_5 fw_X6_35 rfl (by decide) rfl rfl ?_
  rw [h.2.1]
  refine mk_iald hJ dX6_isNumber_8 rfl (by omega) (by omega) ?_
  rw [h.1.1 87 (by decide) (by decide) (by decide), hT.kd n0 hk]
  refine mj_iconst hJ dX6_isNumber_9 (by decide) ?_
  refine mj_icmp_ne (tgt := 30) hJ dX6_isNumber_10 (by decide) (fun c => ?_) (fun c => ?_)
  · refine mj_iconst hJ dX6_isNumber_30 (by decide) ?_
    exact hR _ _ _ _ _ dX6_isNumber_31 (nar_z (by first | exact Or.inl rfl | exact Or.inr rfl | assumption | omega)) ⟨by rw [if_neg (fun q => c ((knd_2 tb.2).2 q.1))], rfl, rfl⟩
  · have c : knd g n (tkp g n k) = 2 := by omega
    refine mj_aload_n hJ dX6_isNumber_13 rfl ?_
    refine mk_getR hJ dX6_isNumber_14 fw_X6_29 rfl (by decide) rfl rfl ?_
    refine mj_aload_n hJ dX6_isNumber_17 rfl ?_
    refine mk_getI (j' := 6) hJ dX6_isNumber_18 fw_X6_35 rfl (by decide) rfl rfl ?_
    rw [h.2.1]
    refine mk_iald hJ dX6_isNumber_21 rfl (by omega) (by omega) ?_
    rw [h.1.1 88 (by decide) (by decide) (by decide), hT.nm n0 hk c]
    refine mj_iload_n hJ dX6_isNumber_22 rfl ?_
    refine mj_icmp_gt (tgt := 30) hJ dX6_isNumber_23 (by decide) (fun c2 => ?_) (fun c2 => ?_)
    · refine mj_iconst hJ dX6_isNumber_30 (by decide) ?_
      exact hR _ _ _ _ _ dX6_isNumber_31 (nar_z (by first | exact Or.inl rfl | exact Or.inr rfl | assumption | omega)) ⟨by rw [if_neg (fun q => by have := q.2; omega)], rfl, rfl⟩
    · refine mj_iconst hJ dX6_isNumber_26 (by decide) ?_
      refine mj_goto (tgt := 31) hJ dX6_isNumber_27 (by decide) ?_
      exact hR _ _ _ _ _ dX6_isNumber_31 (nar_z (by first | exact Or.inl rfl | exact Or.inr rfl | assumption | omega)) ⟨by rw [if_pos ⟨(knd_2 tb.2).1 c, by omega⟩], rfl, rfl⟩
theorem c_value (hT : TKE I0 g n cc) (n0 : 0 ≤ n) (hn : n ≤ 200) (h : CR I0 I k S) (hk : k ≤ cc) : MtP G yX6_value cX6_value 1 (some .int) 0 [vr 80] I b ((pval g n (tkp g n k)).getD (-1)) := by
  refine mt_enterI (own := RX6) (ls0 := [vr 80]) rfl (by decide +kernel) (Nat.le_of_ble_eq_true rfl) rfl rfl (fun J hJ hR => ?_)
  have hc := hT.cn n0
  have tb := tkp_bd (g := g) n0 k
  have rg := knd_rg (g := g) tb.2
  rw [← pval_k tb.2] at hR
  have e87 : I 87 k = knd g n (tkp g n k) := by rw [h.1.1 87 (by decide) (by decide) (by decide), hT.kd n0 hk]
  refine mj_aload_n hJ dX6_value_0 rfl ?_
  refine mk_getR hJ dX6_value_1 fw_X6_26 rfl (by decide) rfl rfl ?_
  refine mj_aload_n hJ dX6_value_4 rfl ?_
  refine mk_getI (j' := 6) hJ dX6_value_5 fw_X6_35 rfl (by decide) rfl rfl ?_
  rw [h.2.1]
  refine mk_iald hJ dX6_value_8 rfl (by omega) (by omega) ?_
  rw [e87]
  refine mj_iconst hJ dX6_value_9 (by decide) ?_
  refine mj_icmp_ne (tgt := 23) hJ dX6_value_10 (by decide) (fun c => ?_) (fun c => ?_)
  · rw [if_neg c] at hR
    refine mj_aload_n hJ dX6_value_23 rfl ?_
    refine mk_getR hJ dX6_value_24 fw_X6_26 rfl (by decide) rfl rfl ?_
    refine mj_aload_n hJ dX6_value_27 rfl ?_
    refine mk_getI (j' := 6) hJ dX6_value_28 fw_X6_35 rfl (by decide) rfl rfl ?_
    rw [h.2.1]
    refine mk_iald hJ dX6_value_31 rfl (by omega) (by omega) ?_
    rw [e87]
    refine mj_bipush hJ dX6_value_32 (by decide) ?_
    refine mj_icmp_lt (tgt := 52) hJ dX6_value_34 (by decide) (fun c2 => ?_) (fun c2 => ?_)
    · rw [if_neg (by omega)] at hR
      refine mj_iconst hJ dX6_value_52 (by decide) ?_
      exact hR _ _ _ _ _ dX6_value_53 nar_i ⟨rfl, rfl, rfl⟩
    · rw [if_pos (by omega)] at hR
      refine mj_aload_n hJ dX6_value_37 rfl ?_
      refine mk_getR hJ dX6_value_38 fw_X6_26 rfl (by decide) rfl rfl ?_
      refine mj_aload_n hJ dX6_value_41 rfl ?_
      refine mk_getI (j' := 6) hJ dX6_value_42 fw_X6_35 rfl (by decide) rfl rfl ?_
      rw [h.2.1]
      refine mk_iald hJ dX6_value_45 rfl (by omega) (by omega) ?_
      rw [e87]
      refine mj_bipush hJ dX6_value_46 (by decide) ?_
      first | refine ms_isub hJ dX6_value_48 (by omega) ?_ | refine mj_isub hJ dX6_value_48 ?_
      refine mj_goto (tgt := 53) hJ dX6_value_49 (by decide) ?_
      exact hR _ _ _ _ _ dX6_value_53 nar_i ⟨rfl, rfl, rfl⟩
  · have c : knd g n (tkp g n k) = 2 := by omega
    rw [if_pos c] at hR
    refine mj_aload_n hJ dX6_value_13 rfl ?_
    refine mk_getR hJ dX6_value_14 fw_X6_29 rfl (by decide) rfl rfl ?_
    refine mj_aload_n hJ dX6_value_17 rfl ?_
    refine mk_getI (j' := 6) hJ dX6_value_18 fw_X6_35 rfl (by decide) rfl rfl ?_
    rw [h.2.1]
    refine mk_iald hJ dX6_value_21 rfl (by omega) (by omega) ?_
    rw [h.1.1 88 (by decide) (by decide) (by decide), hT.nm n0 hk c]
    exact hR _ _ _ _ _ dX6_value_22 nar_i ⟨rfl, rfl, rfl⟩
theorem c_comparison (l s r : Int) (s0 : 0 ≤ s) (s1 : s ≤ 2) (l0 : 0 ≤ l) (l1 : l ≤ 1002) (r0 : 0 ≤ r) (r1 : r ≤ 1002) : MtP G yX5_comparison cX5_comparison 3 (some .int) 0 [vi l, vi s, vi r] I b (enc (l, s, r)) := by
  refine mt_enterI (own := RX5) (ls0 := [vi l, vi s, vi r]) rfl (by decide +kernel) (Nat.le_of_ble_eq_true rfl) rfl rfl (fun J hJ hR => ?_)
  refine mj_iload_n hJ dX5_comparison_0 rfl ?_
  refine mj_bipush hJ dX5_comparison_1 (by decide) ?_
  refine mj_ishl hJ dX5_comparison_3 ?_
  refine mj_iload_n hJ dX5_comparison_4 rfl ?_
  refine mj_bipush hJ dX5_comparison_5 (by decide) ?_
  refine mj_ishl hJ dX5_comparison_7 ?_
  refine mj_ior hJ dX5_comparison_8 ?_
  refine mj_iload_n hJ dX5_comparison_9 rfl ?_
  refine mj_ior hJ dX5_comparison_10 ?_
  rw [b_enc s0 s1 l0 l1 r0 r1]
  exact hR _ _ _ _ _ dX5_comparison_11 nar_i ⟨rfl, rfl, rfl⟩
theorem c_addStep (x : Int) (t : St) (hx : enc t = x) (h : CR I0 I k S) (b0 : 0 ≤ I0 81 5) (hS : I0 81 5 + S.length < 200) : MtV G yX5_addStep cX5_addStep 2 0 [vr 81, vi x] I b (fun I' b' => b' = b ∧ CR I0 I' k (S ++ [t])) := by
  refine mt_enterV (own := RX5) (ls0 := [vr 81, vi x]) rfl (by decide +kernel) (Nat.le_of_ble_eq_true rfl) rfl (fun J hJ hR => ?_)
  obtain ⟨⟨h1, h2, h3⟩, h4, h5, h6, h7⟩ := h
  refine mj_aload_n hJ dX5_addStep_0 rfl ?_
  refine mk_getI (j' := 5) hJ dX5_addStep_1 fw_X5_26 rfl (by decide) rfl rfl ?_
  rw [h5]
  refine mj_sipush hJ dX5_addStep_4 (by decide) ?_
  refine mj_icmp_ge (tgt := 30) hJ dX5_addStep_7 (by decide) (fun hyes => absurd hyes (by omega)) (fun _ => ?_)
  refine mj_aload_n hJ dX5_addStep_10 rfl ?_
  refine mk_getR hJ dX5_addStep_11 fw_X5_23 rfl (by decide) rfl rfl ?_
  refine mj_aload_n hJ dX5_addStep_14 rfl ?_
  refine mk_getI (j' := 5) hJ dX5_addStep_15 fw_X5_26 rfl (by decide) rfl rfl ?_
  rw [h5]
  refine mj_iload_n hJ dX5_addStep_18 rfl ?_
  refine mk_iast hJ dX5_addStep_19 rfl (by omega) (by omega) ?_
  refine mj_aload_n hJ dX5_addStep_20 rfl ?_
  refine mj_dupr hJ dX5_addStep_21 ?_
  refine mk_getI (j' := 5) hJ dX5_addStep_22 fw_X5_26 rfl (by decide) rfl rfl ?_
  rw [upI_ne (by decide), h5]
  refine mj_iconst hJ dX5_addStep_25 (by decide) ?_
  first | refine ms_iadd hJ dX5_addStep_26 (by omega) ?_ | refine mj_iadd hJ dX5_addStep_26 ?_
  refine mk_putI (j' := 5) hJ dX5_addStep_27 fw_X5_26 rfl (by decide) rfl rfl ?_
  refine hR _ _ _ _ dX5_addStep_30 ⟨rfl, ⟨fun c c1 c2 c3 => by rw [upI_ne c2, upI_ne c3]; exact h1 c c1 c2 c3, fun j j1 => by rw [upI_ne (by decide), upI_ne (by decide)]; exact h2 j j1, fun j j1 => by rw [upI_at, if_neg j1, upI_ne (by decide)]; exact h3 j j1⟩, by rw [upI_ne (by decide), upI_ne (by decide)]; exact h4, ?_, ?_, fun j hj => ?_⟩
  · rw [upI_at, if_pos rfl, List.length_append]
    show I0 81 5 + (S.length : Int) + 1 = I0 81 5 + ((S.length + 1 : Nat) : Int)
    omega
  · rw [upI_ne (by decide), stp_append]
    refine ⟨stp_congr S _ (fun j a c => by rw [upI_at, if_neg (by omega)]) h6, ?_, trivial⟩
    rw [upI_at, if_pos rfl]
    exact hx.symm
  · rw [upI_ne (by decide), upI_at, if_neg (by omega)]
    exact h7 j hj
/-- how a part was read -/
abbrev PQ (I0 : Ints) (b : Bool) (g : Int → Int) (n : Int) (cc : Nat) (S : List St) (r : PR) : Int → Ints → Bool → Prop := fun z I' b' => z = (if r.1 = true then 1 else 0) ∧ b' = b ∧ ∃ k', k' ≤ cc ∧ tkp g n k' = r.2.1 ∧ ∃ S', CR I0 I' k' S' ∧ (r.1 = true → S' = S ++ r.2.2)
theorem c_readComparison (hT : TKE I0 g n cc) (n0 : 0 ≤ n) (hn : n ≤ 200) (b0 : 0 ≤ I0 81 5) (h : CR I0 I k S) (hk : k ≤ cc) (hS : I0 81 5 + S.length ≤ tkp g n k) : MtI G yX6_readComparison cX6_readComparison 4 (some .boolean) 1 [vr 80] I b (PQ I0 b g n cc S (pcmp g n (tkp g n k))) := by
  refine mt_enterI (own := RX6) (ls0 := [vr 80, vu, vu, vu]) rfl (by decide +kernel) (Nat.le_of_ble_eq_true rfl) rfl rfl (fun J hJ hR => ?_)
  have hc := hT.cn n0
  have tb := tkp_bd (g := g) n0 k
  have b1 := nxp_bd (g := g) tb.2
  have b2 := nxp_bd (g := g) b1.2.1
  refine mj_aload_n hJ dX6_readComparison_0 rfl ?_
  refine mk_Vp0 hJ dX6_readComparison_1 cw_X6_129 rfl rfl rfl rfl (Nat.le_of_ble_eq_true rfl) (by first | decide | omega) (c_value hT n0 hn h hk) ?_
  refine ms_istore_n (ls' := [_, _, _, _]) hJ dX6_readComparison_4 (by decide) rfl rfl ?_
  refine mj_iload_n hJ dX6_readComparison_5 rfl ?_
  cases h1 : pval g n (tkp g n k) with
  | none =>
    have e : pcmp g n (tkp g n k) = (false, tkp g n k, []) := by unfold pcmp; rw [h1]
    rw [e] at hR
    refine mj_if_ge (tgt := 11) hJ dX6_readComparison_6 (by decide) (fun hyes => absurd hyes (by decide)) (fun _ => ?_)
    refine mj_iconst hJ dX6_readComparison_9 (by decide) ?_
    exact hR _ _ _ _ _ dX6_readComparison_10 (nar_z (by first | exact Or.inl rfl | exact Or.inr rfl | assumption | omega)) ⟨rfl, rfl, k, hk, rfl, S, h, fun q => Bool.noConfusion q⟩
  | some l =>
    have l1 := pval_lt tb.2 h1
    have k1 : k + 1 ≤ cc := (hT.lt hk n0).2 l1.1
    have h2 := h.at' ((k : Int) + 1) (by omega)
    obtain ⟨I1, hI1⟩ : ∃ y, upI I 80 6 ((k : Int) + 1) = y := ⟨_, rfl⟩
    rw [hI1] at h2
    show J 6 _ (vi l :: _) _
    refine mj_if_ge (tgt := 11) hJ dX6_readComparison_6 (by decide) (fun _ => ?_) (fun hno => absurd (by omega) hno)
    refine mj_aload_n hJ dX6_readComparison_11 rfl ?_
    refine mj_dupr hJ dX6_readComparison_12 ?_
    refine mk_getI (j' := 6) hJ dX6_readComparison_13 fw_X6_35 rfl (by decide) rfl rfl ?_
    rw [h.2.1]
    refine mj_iconst hJ dX6_readComparison_16 (by decide) ?_
    first | refine ms_iadd hJ dX6_readComparison_17 (by omega) ?_ | refine mj_iadd hJ dX6_readComparison_17 ?_
    refine mk_putI (j' := 6) hJ dX6_readComparison_18 fw_X6_35 rfl (by decide) rfl rfl ?_
    rw [hI1]
    refine mj_aload_n hJ dX6_readComparison_21 rfl ?_
    refine mk_getR hJ dX6_readComparison_22 fw_X6_26 rfl (by decide) rfl rfl ?_
    refine mj_aload_n hJ dX6_readComparison_25 rfl ?_
    refine mk_getI (j' := 6) hJ dX6_readComparison_26 fw_X6_35 rfl (by decide) rfl rfl ?_
    rw [h2.2.1]
    refine mk_iald hJ dX6_readComparison_29 rfl (by omega) (by omega) ?_
    rw [h2.1.1 87 (by decide) (by decide) (by decide), hT.kd n0 k1]
    have rg := knd_rg (g := g) (n := n) (p := tkp g n (k + 1)) b1.2.1
    refine mj_bipush hJ dX6_readComparison_30 (by decide) ?_
    first | refine ms_isub hJ dX6_readComparison_32 (by omega) ?_ | refine mj_isub hJ dX6_readComparison_32 ?_
    refine ms_istore_n (ls' := [_, _, _, _]) hJ dX6_readComparison_33 (by decide) rfl rfl ?_
    refine mj_iload_n hJ dX6_readComparison_34 rfl ?_
    refine mj_iconst hJ dX6_readComparison_35 (by decide) ?_
    refine mj_iconst hJ dX6_readComparison_36 (by decide) ?_
    refine mk_Sp3 hJ dX6_readComparison_37 cw_X6_132 rfl (Nat.le_of_ble_eq_true rfl) (by first | decide | omega) (c_within (knd g n (tkp g n (k + 1)) - 20) 0 2) ?_
    have et : tkp g n (k + 1) = nxp g n (tkp g n k) := rfl
    have pk := psg_k (g := g) (n := n) (p := tkp g n (k + 1)) b1.2.1
    cases h3 : psg g n (tkp g n (k + 1)) with
    | none =>
      have e : pcmp g n (tkp g n k) = (false, tkp g n (k + 1), []) := by unfold pcmp; rw [h1]; simp only []; rw [← et, h3]
      rw [e] at hR
      rw [if_neg (pk.2 h3)]
      refine mj_if_ne (tgt := 45) hJ dX6_readComparison_40 (by decide) (fun hyes => absurd (by decide) hyes) (fun _ => ?_)
      refine mj_iconst hJ dX6_readComparison_43 (by decide) ?_
      exact hR _ _ _ _ _ dX6_readComparison_44 (nar_z (by first | exact Or.inl rfl | exact Or.inr rfl | assumption | omega)) ⟨rfl, rfl, k + 1, k1, rfl, S, h2, fun q => Bool.noConfusion q⟩
    | some s =>
      have s1 := psg_lt b1.2.1 (by rw [← et]; exact h3)
      have sk := pk.1 s h3
      have k2 : k + 1 + 1 ≤ cc := (hT.lt k1 n0).2 s1.1
      have h4 := h2.at' (((k + 1 : Nat) : Int) + 1) (by omega)
      obtain ⟨I2, hI2⟩ : ∃ y, upI I1 80 6 (((k + 1 : Nat) : Int) + 1) = y := ⟨_, rfl⟩
      rw [hI2] at h4
      rw [sk.1, if_pos ⟨sk.2.1, sk.2.2⟩]
      refine mj_if_ne (tgt := 45) hJ dX6_readComparison_40 (by decide) (fun _ => ?_) (fun hno => absurd hno (by decide))
      refine mj_aload_n hJ dX6_readComparison_45 rfl ?_
      refine mj_dupr hJ dX6_readComparison_46 ?_
      refine mk_getI (j' := 6) hJ dX6_readComparison_47 fw_X6_35 rfl (by decide) rfl rfl ?_
      rw [h2.2.1]
      refine mj_iconst hJ dX6_readComparison_50 (by decide) ?_
      first | refine ms_iadd hJ dX6_readComparison_51 (by omega) ?_ | refine mj_iadd hJ dX6_readComparison_51 ?_
      refine mk_putI (j' := 6) hJ dX6_readComparison_52 fw_X6_35 rfl (by decide) rfl rfl ?_
      rw [hI2]
      refine mj_aload_n hJ dX6_readComparison_55 rfl ?_
      refine mk_Vp0 hJ dX6_readComparison_56 cw_X6_129 rfl rfl rfl rfl (Nat.le_of_ble_eq_true rfl) (by first | decide | omega) (c_value hT n0 hn h4 k2) ?_
      refine ms_istore_n (ls' := [_, _, _, _]) hJ dX6_readComparison_59 (by decide) rfl rfl ?_
      refine mj_iload_n hJ dX6_readComparison_60 rfl ?_
      have et2 : tkp g n (k + 1 + 1) = nxp g n (nxp g n (tkp g n k)) := rfl
      cases h5 : pval g n (tkp g n (k + 1 + 1)) with
      | none =>
        have e : pcmp g n (tkp g n k) = (false, tkp g n (k + 1 + 1), []) := by unfold pcmp; rw [h1]; simp only []; rw [← et, h3]; simp only []; rw [et, ← et2, h5]
        rw [e] at hR
        refine mj_if_ge (tgt := 66) hJ dX6_readComparison_61 (by decide) (fun hyes => absurd hyes (by decide)) (fun _ => ?_)
        refine mj_iconst hJ dX6_readComparison_64 (by decide) ?_
        exact hR _ _ _ _ _ dX6_readComparison_65 (nar_z (by first | exact Or.inl rfl | exact Or.inr rfl | assumption | omega)) ⟨rfl, rfl, k + 1 + 1, k2, rfl, S, h4, fun q => Bool.noConfusion q⟩
      | some r =>
        have r1 := pval_lt b2.2.1 (by rw [← et2]; exact h5)
        have k3 : k + 1 + 1 + 1 ≤ cc := (hT.lt k2 n0).2 r1.1
        have h6 := h4.at' (((k + 1 + 1 : Nat) : Int) + 1) (by omega)
        have et3 : tkp g n (k + 1 + 1 + 1) = nxp g n (nxp g n (nxp g n (tkp g n k))) := rfl
        have e : pcmp g n (tkp g n k) = (true, tkp g n (k + 1 + 1 + 1), [(l, s, r)]) := by unfold pcmp; rw [h1]; simp only []; rw [← et, h3]; simp only []; rw [et, ← et2, h5, et3, et2]
        rw [e] at hR
        show J 61 _ (vi r :: _) _
        refine mj_if_ge (tgt := 66) hJ dX6_readComparison_61 (by decide) (fun _ => ?_) (fun hno => absurd (by omega) hno)
        refine mj_aload_n hJ dX6_readComparison_66 rfl ?_
        refine mj_dupr hJ dX6_readComparison_67 ?_
        refine mk_getI (j' := 6) hJ dX6_readComparison_68 fw_X6_35 rfl (by decide) rfl rfl ?_
        rw [h4.2.1]
        refine mj_iconst hJ dX6_readComparison_71 (by decide) ?_
        first | refine ms_iadd hJ dX6_readComparison_72 (by omega) ?_ | refine mj_iadd hJ dX6_readComparison_72 ?_
        refine mk_putI (j' := 6) hJ dX6_readComparison_73 fw_X6_35 rfl (by decide) rfl rfl ?_
        refine mj_aload_n hJ dX6_readComparison_76 rfl ?_
        refine mk_getR hJ dX6_readComparison_77 fw_X6_18 rfl (by decide) rfl rfl ?_
        refine mj_iload_n hJ dX6_readComparison_80 rfl ?_
        refine mj_iload_n hJ dX6_readComparison_81 rfl ?_
        refine mj_iload_n hJ dX6_readComparison_82 rfl ?_
        refine mk_Sp3 hJ dX6_readComparison_83 cw_X6_136 rfl (Nat.le_of_ble_eq_true rfl) (by first | decide | omega) (c_comparison l s r sk.2.1 sk.2.2 l1.2.1 l1.2.2 r1.2.1 r1.2.2) ?_
        refine mk_Vv1 hJ dX6_readComparison_86 cw_X6_122 rfl rfl rfl rfl (Nat.le_of_ble_eq_true rfl) (by first | decide | omega) (c_addStep _ (l, s, r) rfl h6 b0 (by have := l1.1; omega)) (fun I3 b3 hq9 => ?_)
        obtain ⟨rfl, h7⟩ := hq9
        refine mj_iconst hJ dX6_readComparison_89 (by decide) ?_
        exact hR _ _ _ _ _ dX6_readComparison_90 (nar_z (by first | exact Or.inl rfl | exact Or.inr rfl | assumption | omega)) ⟨rfl, rfl, k + 1 + 1 + 1, k3, rfl, S ++ [(l, s, r)], h7, fun _ => rfl⟩
/-- a condition, where m brackets more may be opened -/
abbrev COK (G : GE) (I0 : Ints) (g : Int → Int) (n : Int) (cc : Nat) (m : Nat) : Prop := ∀ (I : Ints) (b : Bool) (k : Nat) (S : List St), CR I0 I k S → k ≤ cc → I0 81 5 + S.length ≤ tkp g n k → MtI G yX6_readCondition cX6_readCondition 5 (some .boolean) (3 + 2 * m) [vr 80, vi (3 - m)] I b (PQ I0 b g n cc S (pcon g n (popen g n m) (tkp g n k)))
theorem c_readOne (hT : TKE I0 g n cc) (n0 : 0 ≤ n) (hn : n ≤ 200) (b0 : 0 ≤ I0 81 5) (lv : Nat) (hlv : lv ≤ 3) (hC : ∀ m, lv = m + 1 → COK G I0 g n cc m) (h : CR I0 I k S) (hk : k ≤ cc) (hS : I0 81 5 + S.length ≤ tkp g n k) : MtI G yX6_readOne cX6_readOne 4 (some .boolean) (2 + 2 * lv) [vr 80, vi (3 - lv)] I b (PQ I0 b g n cc S (pone g n (popen g n lv) (tkp g n k))) := by
  refine mt_enterI (own := RX6) (ls0 := [vr 80, vi (3 - lv), vu, vu]) rfl (by decide +kernel) (Nat.le_of_ble_eq_true rfl) rfl rfl (fun J hJ hR => ?_)
  have hc := hT.cn n0
  have tb := tkp_bd (g := g) n0 k
  obtain ⟨p, hp⟩ : ∃ p, tkp g n k = p := ⟨_, rfl⟩
  rw [hp] at tb hR hS
  -- behind the nots
  have REST : ∀ (t : Bool) (k1 : Nat) (i : Int) (I1 : Ints), k1 ≤ cc → CR I0 I1 k1 S → (I0 81 5 + S.length + (if t = true then 1 else 0) ≤ tkp g n k1) → pnot g n (n - p).toNat p false = (t, tkp g n k1) → J 36 [vr 80, vi (3 - lv), vi (if t = true then 1 else 0), vi i] [] (mk I1 b) := by
    intro t k1 i I1 hk1 h1 hl hpn
    obtain ⟨q, hq⟩ : ∃ q, tkp g n k1 = q := ⟨_, rfl⟩
    have qb := tkp_bd (g := g) n0 k1
    rw [hq] at hl hpn qb
    have ep : ∀ r : PR, (if wdp g n q [40] then popen g n lv q else pcmp g n q) = r → pone g n (popen g n lv) p = if r.1 = true then (true, r.2.1, r.2.2 ++ (if t = true then [(0, -1, 0)] else [])) else r := by
      intro r hre
      unfold pone
      rw [hpn]
      show (if (if wdp g n q [40] then popen g n lv q else pcmp g n q).1 = true then _ else _) = _
      rw [hre]
    have NO : ∀ (r : PR) (k2 : Nat) (S' : List St) (I2 : Ints), r.1 = false → (if wdp g n q [40] then popen g n lv q else pcmp g n q) = r → k2 ≤ cc → tkp g n k2 = r.2.1 → CR I0 I2 k2 S' → PQ I0 b g n cc S (pone g n (popen g n lv) p) 0 I2 b := by
      intro r k2 S' I2 hr hre hk2 ht h2
      have e := ep r hre
      rw [hr, if_neg (by decide)] at e
      rw [e]
      exact ⟨by rw [hr]; rfl, rfl, k2, hk2, ht, S', h2, fun q => by rw [hr] at q; exact Bool.noConfusion q⟩
    have K94 : ∀ (r : PR) (k2 : Nat) (I2 : Ints), r.1 = true → (if wdp g n q [40] then popen g n lv q else pcmp g n q) = r → Far n q r → k2 ≤ cc → tkp g n k2 = r.2.1 → CR I0 I2 k2 (S ++ r.2.2) → J 94 [vr 80, vi (3 - lv), vi (if t = true then 1 else 0), vi i] [] (mk I2 b) := by
      intro r k2 I2 hr hre hf hk2 ht h2
      have e := ep r hre
      rw [if_pos hr] at e
      rw [e] at hR
      have fl := hf.2 hr
      have cl := codo_len r.2.2
      refine mj_iload_n hJ dX6_readOne_94 rfl ?_
      by_cases c : t = true
      · rw [if_pos c] at hR hl ⊢
        refine mj_if_eq (tgt := 106) hJ dX6_readOne_95 (by decide) (fun hyes => absurd hyes (by decide)) (fun _ => ?_)
        refine mj_aload_n hJ dX6_readOne_98 rfl ?_
        refine mk_getR hJ dX6_readOne_99 fw_X6_18 rfl (by decide) rfl rfl ?_
        refine mj_iconst hJ dX6_readOne_102 (by decide) ?_
        refine mk_Vv1 hJ dX6_readOne_103 cw_X6_122 rfl rfl rfl rfl (Nat.le_of_ble_eq_true rfl) (by first | decide | omega) (c_addStep (-1) (0, -1, 0) rfl h2 b0 (by rw [List.length_append]; have := hf.1.2; omega)) (fun I3 b3 hq9 => ?_)
        obtain ⟨rfl, h3⟩ := hq9
        refine mj_iconst hJ dX6_readOne_106 (by decide) ?_
        exact hR _ _ _ _ _ dX6_readOne_107 (nar_z (by first | exact Or.inl rfl | exact Or.inr rfl | assumption | omega)) ⟨rfl, rfl, k2, hk2, ht, _, h3, fun _ => List.append_assoc _ _ _⟩
      · rw [if_neg c] at hR ⊢
        refine mj_if_eq (tgt := 106) hJ dX6_readOne_95 (by decide) (fun _ => ?_) (fun hno => absurd rfl hno)
        refine mj_iconst hJ dX6_readOne_106 (by decide) ?_
        exact hR _ _ _ _ _ dX6_readOne_107 (nar_z (by first | exact Or.inl rfl | exact Or.inr rfl | assumption | omega)) ⟨rfl, rfl, k2, hk2, ht, _, h2, fun _ => by rw [List.append_nil]⟩
    have hl0 : I0 81 5 + S.length ≤ q := by
      by_cases c : t = true
      · rw [if_pos c] at hl; omega
      · rw [if_neg c] at hl; omega
    refine mj_aload_n hJ dX6_readOne_36 rfl ?_
    refine mk_getR hJ dX6_readOne_37 fw_X6_26 rfl (by decide) rfl rfl ?_
    refine mj_aload_n hJ dX6_readOne_40 rfl ?_
    refine mk_getI (j' := 6) hJ dX6_readOne_41 fw_X6_35 rfl (by decide) rfl rfl ?_
    rw [h1.2.1]
    refine mk_iald hJ dX6_readOne_44 rfl (by omega) (by omega) ?_
    rw [h1.1.1 87 (by decide) (by decide) (by decide), hT.kd n0 hk1, hq]
    refine mj_bipush hJ dX6_readOne_45 (by decide) ?_
    by_cases cb : wdp g n q [40]
    · have k9 := (knd_open qb.2).2 cb
      rw [k9]
      refine mj_icmp_eq (tgt := 59) hJ dX6_readOne_47 (by decide) (fun _ => ?_) (fun hno => absurd rfl hno)
      refine mj_iload_n hJ dX6_readOne_59 rfl ?_
      refine mj_iconst hJ dX6_readOne_60 (by decide) ?_
      rw [if_pos cb] at NO K94
      cases lv with
      | zero =>
        refine mj_icmp_eq (tgt := 92) hJ dX6_readOne_61 (by decide) (fun _ => ?_) (fun hno => absurd (by omega) hno)
        refine mj_iconst hJ dX6_readOne_92 (by decide) ?_
        exact hR _ _ _ _ _ dX6_readOne_93 (nar_z (by first | exact Or.inl rfl | exact Or.inr rfl | assumption | omega)) (NO (false, q, []) k1 S I1 rfl rfl hk1 hq h1)
      | succ m =>
        have hC := hC m rfl
        refine mj_icmp_eq (tgt := 92) hJ dX6_readOne_61 (by decide) (fun hyes => absurd hyes (by omega)) (fun _ => ?_)
        refine mj_aload_n hJ dX6_readOne_64 rfl ?_
        refine mj_bipush hJ dX6_readOne_65 (by decide) ?_
        refine mk_Vi1 hJ dX6_readOne_67 cw_X6_106 rfl rfl rfl rfl (Nat.le_of_ble_eq_true rfl) (by first | decide | omega) (c_pass hT n0 hn h1 hk1 9) (fun z I2 b2 hq9 => ?_)
        obtain ⟨rfl, rfl, hy, -⟩ := hq9
        rw [hq] at hy
        have h2 := hy k9
        have k2 : k1 + 1 ≤ cc := (hT.lt hk1 n0).2 (by rw [hq]; exact wdp_lt cb (by decide) qb.2)
        rw [hq, if_pos k9]
        refine mj_if_eq (tgt := 92) hJ dX6_readOne_70 (by decide) (fun hyes => absurd hyes (by decide)) (fun _ => ?_)
        refine mj_aload_n hJ dX6_readOne_73 rfl ?_
        refine mj_iload_n hJ dX6_readOne_74 rfl ?_
        refine mj_iconst hJ dX6_readOne_75 (by decide) ?_
        first | refine ms_iadd hJ dX6_readOne_76 (by omega) ?_ | refine mj_iadd hJ dX6_readOne_76 ?_
        have e3 : (3 : Int) - ((m + 1 : Nat) : Int) + 1 = 3 - (m : Int) := by omega
        rw [e3]
        have nb := nxp_bd (g := g) qb.2
        have eq1 : tkp g n (k1 + 1) = nxp g n q := by show nxp g n (tkp g n k1) = _; rw [hq]
        refine mk_Vi1 hJ dX6_readOne_77 cw_X6_112 rfl rfl rfl rfl (Nat.le_of_ble_eq_true rfl) (by first | decide | omega) (hC I2 b2 (k1 + 1) S h2 k2 (by rw [eq1]; omega)) (fun z I3 b3 hq9 => ?_)
        obtain ⟨rfl, rfl, k3, hk3, ht3, S3, h3, hs3⟩ := hq9
        rw [eq1] at ht3 hs3 ⊢
        have ep2 : popen g n (m + 1) q = if (pcon g n (popen g n m) (nxp g n q)).1 = true then (if wdp g n (pcon g n (popen g n m) (nxp g n q)).2.1 [41] then (true, nxp g n (pcon g n (popen g n m) (nxp g n q)).2.1, (pcon g n (popen g n m) (nxp g n q)).2.2) else (false, (pcon g n (popen g n m) (nxp g n q)).2.1, (pcon g n (popen g n m) (nxp g n q)).2.2)) else pcon g n (popen g n m) (nxp g n q) := rfl
        have hf := pcon_far (g := g) (po := popen g n m) (fun q hq => popen_far m q hq) nb.2.1
        generalize pcon g n (popen g n m) (nxp g n q) = r at ht3 hs3 ep2 hf
        cases c : r.1 with
        | false =>
          rw [c, if_neg (by decide)] at ep2
          rw [if_neg (show ¬(false = true) by decide)]
          refine mj_if_eq (tgt := 92) hJ dX6_readOne_80 (by decide) (fun _ => ?_) (fun hno => absurd rfl hno)
          refine mj_iconst hJ dX6_readOne_92 (by decide) ?_
          exact hR _ _ _ _ _ dX6_readOne_93 (nar_z (by first | exact Or.inl rfl | exact Or.inr rfl | assumption | omega)) (NO r k3 S3 I3 c ep2 hk3 ht3 h3)
        | true =>
          rw [c, if_pos rfl] at ep2
          have es := hs3 c
          subst es
          rw [if_pos rfl]
          have rb : r.2.1 ≤ n := hf.1.2
          refine mj_if_eq (tgt := 92) hJ dX6_readOne_80 (by decide) (fun hyes => absurd hyes (by decide)) (fun _ => ?_)
          refine mj_aload_n hJ dX6_readOne_83 rfl ?_
          refine mj_bipush hJ dX6_readOne_84 (by decide) ?_
          refine mk_Vi1 hJ dX6_readOne_86 cw_X6_106 rfl rfl rfl rfl (Nat.le_of_ble_eq_true rfl) (by first | decide | omega) (c_pass hT n0 hn h3 hk3 10) (fun z I4 b4 hq9 => ?_)
          obtain ⟨rfl, rfl, hy4, hn4⟩ := hq9
          rw [ht3] at hy4 hn4 ⊢
          by_cases c10 : wdp g n r.2.1 [41]
          · have k10 := (knd_close rb).2 c10
            have h4 := hy4 k10
            have k4 : k3 + 1 ≤ cc := (hT.lt hk3 n0).2 (by rw [ht3]; exact wdp_lt c10 (by decide) rb)
            rw [if_pos c10] at ep2
            rw [if_pos k10]
            refine mj_if_ne (tgt := 94) hJ dX6_readOne_89 (by decide) (fun _ => ?_) (fun hno => absurd hno (by decide))
            have nb2 := nxp_bd (g := g) rb
            exact K94 _ (k3 + 1) I4 rfl ep2 ⟨⟨by show q ≤ nxp g n r.2.1; have := hf.1.1; omega, nb2.2.1⟩, fun _ => by show q + ((codo r.2.2).length : Int) ≤ nxp g n r.2.1; have := hf.2 c; omega⟩ k4 (by show nxp g n (tkp g n k3) = _; rw [ht3]) h4
          · have k10 : ¬ knd g n r.2.1 = 10 := fun q => c10 ((knd_close rb).1 q)
            have e4 := hn4 k10
            subst e4
            rw [if_neg c10] at ep2
            rw [if_neg k10]
            refine mj_if_ne (tgt := 94) hJ dX6_readOne_89 (by decide) (fun hyes => absurd (by decide) hyes) (fun _ => ?_)
            refine mj_iconst hJ dX6_readOne_92 (by decide) ?_
            exact hR _ _ _ _ _ dX6_readOne_93 (nar_z (by first | exact Or.inl rfl | exact Or.inr rfl | assumption | omega)) (NO _ k3 _ I4 rfl ep2 hk3 ht3 h3)
    · have k9 : ¬ knd g n q = 9 := fun z => cb ((knd_open qb.2).1 z)
      rw [if_neg cb] at NO K94
      refine mj_icmp_eq (tgt := 59) hJ dX6_readOne_47 (by decide) (fun hyes => absurd hyes k9) (fun _ => ?_)
      refine mj_aload_n hJ dX6_readOne_50 rfl ?_
      refine mk_Vi0 hJ dX6_readOne_51 cw_X6_126 rfl rfl rfl rfl (Nat.le_of_ble_eq_true rfl) (by first | decide | omega) (c_readComparison hT n0 hn b0 h1 hk1 (by rw [hq]; exact hl0)) (fun z I2 b2 hq9 => ?_)
      obtain ⟨rfl, rfl, k2, hk2, ht2, S2, h2, hs2⟩ := hq9
      rw [hq] at ht2 hs2 ⊢
      have hf := pcmp_far (g := g) qb.2
      cases c : (pcmp g n q).1 with
      | false =>
        rw [if_neg (show ¬(false = true) by decide)]
        refine mj_if_ne (tgt := 94) hJ dX6_readOne_54 (by decide) (fun hyes => absurd (by decide) hyes) (fun _ => ?_)
        refine mj_iconst hJ dX6_readOne_57 (by decide) ?_
        exact hR _ _ _ _ _ dX6_readOne_58 (nar_z (by first | exact Or.inl rfl | exact Or.inr rfl | assumption | omega)) (NO _ k2 S2 I2 c rfl hk2 ht2 h2)
      | true =>
        rw [if_pos rfl]
        refine mj_if_ne (tgt := 94) hJ dX6_readOne_54 (by decide) (fun _ => ?_) (fun hno => absurd hno (by decide))
        have es := hs2 c
        subst es
        exact K94 _ k2 I2 c rfl hf hk2 ht2 h2
  -- the nots
  have loop : ∀ (m : Nat) (t : Bool) (k1 : Nat) (i : Int) (I1 : Ints), n - tkp g n k1 ≤ m → k1 ≤ cc → CR I0 I1 k1 S → 0 ≤ i → 3 * i ≤ tkp g n k1 → p ≤ tkp g n k1 → (t = true → p + 1 ≤ tkp g n k1) → pnot g n m (tkp g n k1) t = pnot g n (n - p).toNat p false → J 4 [vr 80, vi (3 - lv), vi (if t = true then 1 else 0), vi i] [] (mk I1 b) := by
    intro m
    induction m with
    | zero =>
      intro t k1 i I1 hm hk1 h1 i0 i3 pq ht hpn
      have qb := tkp_bd (g := g) n0 k1
      have qn : tkp g n k1 = n := by omega
      have k7 : ¬ knd g n (tkp g n k1) = 7 := fun z => by rw [qn, (knd_0 (Int.le_refl n)).2 rfl] at z; exact absurd z (by decide)
      refine mj_iload_n hJ dX6_readOne_4 rfl ?_
      refine mj_sipush hJ dX6_readOne_5 (by decide) ?_
      refine mj_icmp_ge (tgt := 36) hJ dX6_readOne_8 (by decide) (fun hyes => absurd hyes (by omega)) (fun _ => ?_)
      refine mj_aload_n hJ dX6_readOne_11 rfl ?_
      refine mj_bipush hJ dX6_readOne_12 (by decide) ?_
      refine mk_Vi1 hJ dX6_readOne_14 cw_X6_106 rfl rfl rfl rfl (Nat.le_of_ble_eq_true rfl) (by first | decide | omega) (c_pass hT n0 hn h1 hk1 7) (fun z I2 b2 hq9 => ?_)
      obtain ⟨rfl, rfl, -, hn2⟩ := hq9
      have e := hn2 k7
      subst e
      rw [if_neg k7]
      refine mj_if_eq (tgt := 36) hJ dX6_readOne_17 (by decide) (fun _ => ?_) (fun hno => absurd rfl hno)
      refine REST t k1 i I2 hk1 h1 ?_ hpn.symm
      by_cases c : t = true
      · rw [if_pos c]; have := ht c; omega
      · rw [if_neg c]; omega
    | succ m ih =>
      intro t k1 i I1 hm hk1 h1 i0 i3 pq ht hpn
      have qb := tkp_bd (g := g) n0 k1
      refine mj_iload_n hJ dX6_readOne_4 rfl ?_
      refine mj_sipush hJ dX6_readOne_5 (by decide) ?_
      refine mj_icmp_ge (tgt := 36) hJ dX6_readOne_8 (by decide) (fun hyes => absurd hyes (by omega)) (fun _ => ?_)
      refine mj_aload_n hJ dX6_readOne_11 rfl ?_
      refine mj_bipush hJ dX6_readOne_12 (by decide) ?_
      refine mk_Vi1 hJ dX6_readOne_14 cw_X6_106 rfl rfl rfl rfl (Nat.le_of_ble_eq_true rfl) (by first | decide | omega) (c_pass hT n0 hn h1 hk1 7) (fun z I2 b2 hq9 => ?_)
      obtain ⟨rfl, rfl, hy2, hn2⟩ := hq9
      have e1 : pnot g n (m + 1) (tkp g n k1) t = if wdp g n (tkp g n k1) [110, 111, 116] then pnot g n m (nxp g n (tkp g n k1)) (!t) else (t, tkp g n k1) := rfl
      rw [e1] at hpn
      by_cases c : wdp g n (tkp g n k1) [110, 111, 116]
      · have k7 := (knd_not qb.2).2 c
        have h2 := hy2 k7
        have lt := wdp_lt c (by decide) qb.2
        have wd := wdp_wid c qb.2
        have wd : tkp g n k1 + 3 ≤ nxp g n (tkp g n k1) := wd
        have k2 : k1 + 1 ≤ cc := (hT.lt hk1 n0).2 lt
        rw [if_pos c] at hpn
        rw [if_pos k7]
        have et : tkp g n (k1 + 1) = nxp g n (tkp g n k1) := rfl
        refine mj_if_eq (tgt := 36) hJ dX6_readOne_17 (by decide) (fun hyes => absurd hyes (by decide)) (fun _ => ?_)
        refine mj_iload_n hJ dX6_readOne_20 rfl ?_
        have nxt := ih (!t) (k1 + 1) (i + 1) I2 (by rw [et]; omega) k2 h2 (by omega) (by rw [et]; omega) (by rw [et]; omega) (fun _ => by rw [et]; omega) hpn
        cases t with
        | true =>
          refine mj_if_ne (tgt := 28) hJ dX6_readOne_21 (by decide) (fun _ => ?_) (fun hno => absurd hno (by decide))
          refine mj_iconst hJ dX6_readOne_28 (by decide) ?_
          refine ms_istore_n (ls' := [_, _, _, _]) hJ dX6_readOne_29 (by decide) rfl rfl ?_
          refine ms_iinc (ls' := [_, _, _, _]) hJ dX6_readOne_30 rfl (by decide) rfl (wr_id (by omega)) rfl ?_
          refine mj_goto (tgt := 4) hJ dX6_readOne_33 (by decide) ?_
          exact nxt
        | false =>
          refine mj_if_ne (tgt := 28) hJ dX6_readOne_21 (by decide) (fun hyes => absurd (by decide) hyes) (fun _ => ?_)
          refine mj_iconst hJ dX6_readOne_24 (by decide) ?_
          refine mj_goto (tgt := 29) hJ dX6_readOne_25 (by decide) ?_
          refine ms_istore_n (ls' := [_, _, _, _]) hJ dX6_readOne_29 (by decide) rfl rfl ?_
          refine ms_iinc (ls' := [_, _, _, _]) hJ dX6_readOne_30 rfl (by decide) rfl (wr_id (by omega)) rfl ?_
          refine mj_goto (tgt := 4) hJ dX6_readOne_33 (by decide) ?_
          exact nxt
      · have k7 : ¬ knd g n (tkp g n k1) = 7 := fun z => c ((knd_not qb.2).1 z)
        have e := hn2 k7
        subst e
        rw [if_neg c] at hpn
        rw [if_neg k7]
        refine mj_if_eq (tgt := 36) hJ dX6_readOne_17 (by decide) (fun _ => ?_) (fun hno => absurd rfl hno)
        refine REST t k1 i I2 hk1 h1 ?_ hpn.symm
        by_cases c : t = true
        · rw [if_pos c]; have := ht c; omega
        · rw [if_neg c]; omega
  refine mj_iconst hJ dX6_readOne_0 (by decide) ?_
  refine ms_istore_n (ls' := [_, _, _, _]) hJ dX6_readOne_1 (by decide) rfl rfl ?_
  refine mj_iconst hJ dX6_readOne_2 (by decide) ?_
  refine ms_istore_n (ls' := [_, _, _, _]) hJ dX6_readOne_3 (by decide) rfl rfl ?_
  exact loop (n - p).toNat false k 0 I (by rw [hp]; omega) hk h (Int.le_refl _) (by rw [hp]; omega) (by rw [hp]; exact Int.le_refl _) (fun q => Bool.noConfusion q) (by rw [hp])
def pend (a : Bool) (s : Int) (S1 : List St) (r : PR) : PR := if a = true then (r.1, r.2.1, S1 ++ (r.2.2 ++ [(0, s, 0)])) else r
theorem pend_1 {a : Bool} {s : Int} {S1 : List St} {r : PR} : (pend a s S1 r).1 = r.1 ∧ (pend a s S1 r).2.1 = r.2.1 := by
  unfold pend
  cases a <;> exact ⟨rfl, rfl⟩
theorem palL_no {po : Int → PR} {r : PR} (c : ¬wdp g n r.2.1 [97, 110, 100]) : ∀ m : Nat, palL g n po m r = r
  | 0 => rfl
  | _ + 1 => if_neg (fun q => c q.2)
theorem pcoL_no {po : Int → PR} {r : PR} (c : ¬wdp g n r.2.1 [111, 114]) : ∀ m : Nat, pcoL g n po m r = r
  | 0 => rfl
  | _ + 1 => if_neg (fun q => c q.2)
theorem c_readCondition (hT : TKE I0 g n cc) (n0 : 0 ≤ n) (hn : n ≤ 200) (b0 : 0 ≤ I0 81 5) (lv : Nat) (hlv : lv ≤ 3) (hC : ∀ m, lv = m + 1 → COK G I0 g n cc m) : COK G I0 g n cc lv := by
  intro I b k S h hk hS
  refine mt_enterI (own := RX6) (ls0 := [vr 80, vi (3 - lv), vu, vu, vu]) rfl (by decide +kernel) (Nat.le_of_ble_eq_true rfl) rfl rfl (fun J hJ hR => ?_)
  have hc := hT.cn n0
  have hpo : ∀ q, q ≤ n → Far n q (popen g n lv q) := fun q hq => popen_far lv q hq
  obtain ⟨p, hp⟩ : ∃ p, tkp g n k = p := ⟨_, rfl⟩
  rw [hp] at hR
  have loop : ∀ (w : Nat) (k1 : Nat) (I1 : Ints) (i : Int) (a o : Bool) (S0 S1 : List St) (m M : Nat), n - tkp g n k1 ≤ w → k1 ≤ cc → CR I0 I1 k1 (S ++ S0 ++ S1) → 0 ≤ i → 2 * i ≤ tkp g n k1 → (a = false → S1 = []) → (o = false → S0 = []) → n - tkp g n k1 ≤ m → n - tkp g n k1 ≤ M → I0 81 5 + ((S ++ S0 ++ S1).length : Int) + (if a = true then 1 else 0) + (if o = true then 1 else 0) ≤ tkp g n k1 → pcoL g n (popen g n lv) M (pend o (-3) S0 (palL g n (popen g n lv) m (pend a (-2) S1 (pone g n (popen g n lv) (tkp g n k1))))) = pcon g n (popen g n lv) p → J 7 [vr 80, vi (3 - lv), vi (if a = true then 1 else 0), vi (if o = true then 1 else 0), vi i] [] (mk I1 b) := by
    intro w
    induction w with
    | zero =>
      intro k1 I1 i a o S0 S1 m M hw hk1 h1 i0 i2 ha ho hm hM hl he
      have ih : ∀ (k1 : Nat) (I1 : Ints) (i : Int) (a o : Bool) (S0 S1 : List St) (m M : Nat), n - tkp g n k1 < 0 → k1 ≤ cc → CR I0 I1 k1 (S ++ S0 ++ S1) → 0 ≤ i → 2 * i ≤ tkp g n k1 → (a = false → S1 = []) → (o = false → S0 = []) → n - tkp g n k1 ≤ m → n - tkp g n k1 ≤ M → I0 81 5 + ((S ++ S0 ++ S1).length : Int) + (if a = true then 1 else 0) + (if o = true then 1 else 0) ≤ tkp g n k1 → pcoL g n (popen g n lv) M (pend o (-3) S0 (palL g n (popen g n lv) m (pend a (-2) S1 (pone g n (popen g n lv) (tkp g n k1))))) = pcon g n (popen g n lv) p → J 7 [vr 80, vi (3 - lv), vi (if a = true then 1 else 0), vi (if o = true then 1 else 0), vi i] [] (mk I1 b) := fun k1 _ _ _ _ _ _ _ _ q => absurd (tkp_bd (g := g) n0 k1).2 (by omega)
      have qb := tkp_bd (g := g) n0 k1
      have fr := pone_far (g := g) hpo qb.2
      refine mj_iload hJ dX6_readCondition_7 rfl ?_
      refine mj_sipush hJ dX6_readCondition_9 (by decide) ?_
      refine mj_icmp_ge (tgt := 83) hJ dX6_readCondition_12 (by decide) (fun hyes => absurd hyes (by omega)) (fun _ => ?_)
      refine mj_aload_n hJ dX6_readCondition_15 rfl ?_
      refine mj_iload_n hJ dX6_readCondition_16 rfl ?_
      have hl0 : I0 81 5 + ((S ++ S0 ++ S1).length : Int) ≤ tkp g n k1 := by
        have x1 : (0 : Int) ≤ (if a = true then 1 else 0) := by split <;> decide
        have x2 : (0 : Int) ≤ (if o = true then 1 else 0) := by split <;> decide
        omega
      refine mk_Vi1 hJ dX6_readCondition_17 cw_X6_119 rfl rfl rfl rfl (Nat.le_of_ble_eq_true rfl) (by first | decide | omega) (c_readOne hT n0 hn b0 lv hlv hC h1 hk1 hl0) (fun z I2 b2 hq9 => ?_)
      obtain ⟨rfl, rfl, k2, hk2, ht2, S2, h2, hs2⟩ := hq9
      generalize pone g n (popen g n lv) (tkp g n k1) = r at fr ht2 hs2 he ⊢
      cases c : r.1 with
      | false =>
        rw [if_neg (show ¬(false = true) by decide)]
        refine mj_if_ne (tgt := 25) hJ dX6_readCondition_20 (by decide) (fun hyes => absurd (by decide) hyes) (fun _ => ?_)
        refine mj_iconst hJ dX6_readCondition_23 (by decide) ?_
        have e1 := pend_1 (a := a) (s := -2) (S1 := S1) (r := r)
        rw [palL_bad (e1.1.trans c)] at he
        have e2 := pend_1 (a := o) (s := -3) (S1 := S0) (r := pend a (-2) S1 r)
        rw [pcoL_bad (e2.1.trans (e1.1.trans c))] at he
        rw [← he] at hR
        exact hR _ _ _ _ _ dX6_readCondition_24 (nar_z (Or.inl rfl)) ⟨by rw [e2.1, e1.1, c]; rfl, rfl, k2, hk2, by rw [e2.2, e1.2]; exact ht2, S2, h2, fun q => by rw [e2.1, e1.1, c] at q; exact Bool.noConfusion q⟩
      | true =>
        have es := hs2 c
        subst es
        have fl := fr.2 c
        have cl := codo_len r.2.2
        have rb := fr.1.2
        rw [if_pos rfl]
        refine mj_if_ne (tgt := 25) hJ dX6_readCondition_20 (by decide) (fun _ => ?_) (fun hno => absurd hno (by decide))
        -- behind the pass of OR
        have K65 : ∀ (r2 : PR) (I3 : Ints) (x2 x3 : Int), r2.1 = true → r2.2.1 = r.2.1 → CR I0 I3 k2 (S ++ r2.2.2) → I0 81 5 + ((S ++ r2.2.2).length : Int) ≤ r.2.1 → pcoL g n (popen g n lv) M r2 = pcon g n (popen g n lv) p → J 65 [vr 80, vi (3 - lv), vi 0, vi x3, vi i] [] (mk I3 b2) := by
          intro r2 I3 x2 x3 e1 e2 h3 hl3 he3
          refine mj_aload_n hJ dX6_readCondition_65 rfl ?_
          refine mj_iconst hJ dX6_readCondition_66 (by decide) ?_
          refine mk_Vi1 hJ dX6_readCondition_67 cw_X6_106 rfl rfl rfl rfl (Nat.le_of_ble_eq_true rfl) (by first | decide | omega) (c_pass hT n0 hn h3 hk2 5) (fun z I4 b4 hq9 => ?_)
          obtain ⟨rfl, rfl, hy, hno⟩ := hq9
          rw [ht2] at hy hno ⊢
          by_cases c5 : wdp g n r.2.1 [111, 114]
          · have k5 := (knd_or rb).2 c5
            have h4 := hy k5
            have lt := wdp_lt c5 (by decide) rb
            have wd := wdp_wid c5 rb
            have wd : r.2.1 + 2 ≤ nxp g n r.2.1 := wd
            have k3 : k2 + 1 ≤ cc := (hT.lt hk2 n0).2 (by rw [ht2]; exact lt)
            have et : tkp g n (k2 + 1) = nxp g n r.2.1 := by show nxp g n (tkp g n k2) = _; rw [ht2]
            rw [if_pos k5]
            refine ms_istore_n (ls' := [_, _, _, _, _]) hJ dX6_readCondition_70 (by decide) rfl rfl ?_
            refine mj_iload_n hJ dX6_readCondition_71 rfl ?_
            refine mj_if_ne (tgt := 77) hJ dX6_readCondition_72 (by decide) (fun _ => ?_) (fun hno => absurd hno (by decide))
            refine ms_iinc (ls' := [_, _, _, _, _]) hJ dX6_readCondition_77 rfl (by decide) rfl (wr_id (by omega)) rfl ?_
            refine mj_goto (tgt := 7) hJ dX6_readCondition_80 (by decide) ?_
            obtain ⟨M', rfl⟩ : ∃ M', M = M' + 1 := ⟨M - 1, by have := fr.1.1; omega⟩
            have e3 : pcoL g n (popen g n lv) (M' + 1) r2 = if r2.1 = true ∧ wdp g n r2.2.1 [111, 114] then pcoL g n (popen g n lv) M' ((pall g n (popen g n lv) (nxp g n r2.2.1)).1, (pall g n (popen g n lv) (nxp g n r2.2.1)).2.1, r2.2.2 ++ ((pall g n (popen g n lv) (nxp g n r2.2.1)).2.2 ++ [(0, -3, 0)])) else r2 := rfl
            rw [e3, if_pos ⟨e1, by rw [e2]; exact c5⟩, e2] at he3
            have f1 := fr.1.1
            exact ih (k2 + 1) I4 (i + 1) false true r2.2.2 [] (n - nxp g n r.2.1).toNat M' (by rw [et]; omega) k3 (by rw [List.append_nil]; exact h4) (by omega) (by rw [et]; omega) (fun _ => rfl) (fun q => Bool.noConfusion q) (by rw [et]; omega) (by rw [et]; omega) (by rw [et, List.append_nil]; show _ + 0 + 1 ≤ _; omega) (by rw [et]; exact he3)
          · have k5 : ¬ knd g n r.2.1 = 5 := fun z => c5 ((knd_or rb).1 z)
            have e4 := hno k5
            subst e4
            rw [if_neg k5]
            refine ms_istore_n (ls' := [_, _, _, _, _]) hJ dX6_readCondition_70 (by decide) rfl rfl ?_
            refine mj_iload_n hJ dX6_readCondition_71 rfl ?_
            refine mj_if_ne (tgt := 77) hJ dX6_readCondition_72 (by decide) (fun hyes => absurd (by decide) hyes) (fun _ => ?_)
            refine mj_iconst hJ dX6_readCondition_75 (by decide) ?_
            rw [pcoL_no (by rw [e2]; exact c5)] at he3
            rw [← he3] at hR
            exact hR _ _ _ _ _ dX6_readCondition_76 (nar_z (Or.inr rfl)) ⟨by rw [e1]; rfl, rfl, k2, hk2, by rw [e2]; exact ht2, _, h3, fun _ => rfl⟩
        -- behind the pass of AND
        have K38 : ∀ (r1 : PR) (I3 : Ints) (x2 : Int), r1.1 = true → r1.2.1 = r.2.1 → CR I0 I3 k2 (S ++ S0 ++ r1.2.2) → I0 81 5 + ((S ++ S0 ++ r1.2.2).length : Int) + (if o = true then 1 else 0) ≤ r.2.1 → pcoL g n (popen g n lv) M (pend o (-3) S0 (palL g n (popen g n lv) m r1)) = pcon g n (popen g n lv) p → J 38 [vr 80, vi (3 - lv), vi x2, vi (if o = true then 1 else 0), vi i] [] (mk I3 b2) := by
          intro r1 I3 x2 e1 e2 h3 hl3 he3
          refine mj_aload_n hJ dX6_readCondition_38 rfl ?_
          refine mj_bipush hJ dX6_readCondition_39 (by decide) ?_
          refine mk_Vi1 hJ dX6_readCondition_41 cw_X6_106 rfl rfl rfl rfl (Nat.le_of_ble_eq_true rfl) (by first | decide | omega) (c_pass hT n0 hn h3 hk2 6) (fun z I4 b4 hq9 => ?_)
          obtain ⟨rfl, rfl, hy, hno⟩ := hq9
          rw [ht2] at hy hno ⊢
          by_cases c6 : wdp g n r.2.1 [97, 110, 100]
          · have k6 := (knd_and rb).2 c6
            have h4 := hy k6
            have lt := wdp_lt c6 (by decide) rb
            have wd := wdp_wid c6 rb
            have wd : r.2.1 + 3 ≤ nxp g n r.2.1 := wd
            have k3 : k2 + 1 ≤ cc := (hT.lt hk2 n0).2 (by rw [ht2]; exact lt)
            have et : tkp g n (k2 + 1) = nxp g n r.2.1 := by show nxp g n (tkp g n k2) = _; rw [ht2]
            rw [if_pos k6]
            refine ms_istore_n (ls' := [_, _, _, _, _]) hJ dX6_readCondition_44 (by decide) rfl rfl ?_
            refine mj_iload_n hJ dX6_readCondition_45 rfl ?_
            refine mj_if_eq (tgt := 52) hJ dX6_readCondition_46 (by decide) (fun hyes => absurd hyes (by decide)) (fun _ => ?_)
            refine mj_goto (tgt := 77) hJ dX6_readCondition_49 (by decide) ?_
            refine ms_iinc (ls' := [_, _, _, _, _]) hJ dX6_readCondition_77 rfl (by decide) rfl (wr_id (by omega)) rfl ?_
            refine mj_goto (tgt := 7) hJ dX6_readCondition_80 (by decide) ?_
            have f1 := fr.1.1
            obtain ⟨m', rfl⟩ : ∃ m', m = m' + 1 := ⟨m - 1, by omega⟩
            have e3 : palL g n (popen g n lv) (m' + 1) r1 = if r1.1 = true ∧ wdp g n r1.2.1 [97, 110, 100] then palL g n (popen g n lv) m' ((pone g n (popen g n lv) (nxp g n r1.2.1)).1, (pone g n (popen g n lv) (nxp g n r1.2.1)).2.1, r1.2.2 ++ ((pone g n (popen g n lv) (nxp g n r1.2.1)).2.2 ++ [(0, -2, 0)])) else r1 := rfl
            rw [e3, if_pos ⟨e1, by rw [e2]; exact c6⟩, e2] at he3
            exact ih (k2 + 1) I4 (i + 1) true o S0 r1.2.2 m' M (by rw [et]; omega) k3 h4 (by omega) (by rw [et]; omega) (fun q => Bool.noConfusion q) ho (by rw [et]; omega) (by rw [et]; omega) (by rw [et]; show _ + 1 + _ ≤ _; omega) (by rw [et]; exact he3)
          · have k6 : ¬ knd g n r.2.1 = 6 := fun z => c6 ((knd_and rb).1 z)
            have e4 := hno k6
            subst e4
            rw [if_neg k6]
            refine ms_istore_n (ls' := [_, _, _, _, _]) hJ dX6_readCondition_44 (by decide) rfl rfl ?_
            refine mj_iload_n hJ dX6_readCondition_45 rfl ?_
            refine mj_if_eq (tgt := 52) hJ dX6_readCondition_46 (by decide) (fun _ => ?_) (fun hno => absurd rfl hno)
            refine mj_iload_n hJ dX6_readCondition_52 rfl ?_
            rw [palL_no (by rw [e2]; exact c6)] at he3
            by_cases co : o = true
            · subst co
              rw [if_pos rfl] at hl3 ⊢
              refine mj_if_eq (tgt := 65) hJ dX6_readCondition_53 (by decide) (fun hyes => absurd hyes (by decide)) (fun _ => ?_)
              refine mj_aload_n hJ dX6_readCondition_56 rfl ?_
              refine mk_getR hJ dX6_readCondition_57 fw_X6_18 rfl (by decide) rfl rfl ?_
              refine mj_bipush hJ dX6_readCondition_60 (by decide) ?_
              refine mk_Vv1 hJ dX6_readCondition_62 cw_X6_122 rfl rfl rfl rfl (Nat.le_of_ble_eq_true rfl) (by first | decide | omega) (c_addStep (-3) (0, -3, 0) rfl h3 b0 (by omega)) (fun I5 b5 hq9 => ?_)
              obtain ⟨rfl, h5⟩ := hq9
              have el : S ++ S0 ++ r1.2.2 ++ [(0, -3, 0)] = S ++ (pend true (-3) S0 r1).2.2 := by
                show _ = S ++ (S0 ++ (r1.2.2 ++ [(0, -3, 0)]))
                rw [List.append_assoc, List.append_assoc]
              refine K65 (pend true (-3) S0 r1) I5 0 1 (pend_1.1.trans e1) (pend_1.2.trans e2) (by rw [← el]; exact h5) ?_ he3
              rw [← el, List.length_append]
              show I0 81 5 + (((S ++ S0 ++ r1.2.2).length + 1 : Nat) : Int) ≤ _
              omega
            · have co : o = false := by cases o <;> simp_all
              subst co
              have e0 := ho rfl
              subst e0
              rw [if_neg (by decide)] at hl3 ⊢
              refine mj_if_eq (tgt := 65) hJ dX6_readCondition_53 (by decide) (fun _ => ?_) (fun hno => absurd rfl hno)
              rw [List.append_nil] at h3 hl3
              exact K65 r1 _ 0 0 e1 e2 h3 (by omega) he3
        refine mj_iload_n hJ dX6_readCondition_25 rfl ?_
        by_cases ca : a = true
        · subst ca
          rw [if_pos rfl] at hl ⊢
          have el : S ++ S0 ++ S1 ++ r.2.2 ++ [(0, -2, 0)] = S ++ S0 ++ (pend true (-2) S1 r).2.2 := by
            show _ = S ++ S0 ++ (S1 ++ (r.2.2 ++ [(0, -2, 0)]))
            rw [List.append_assoc, List.append_assoc]
          have x2 : (0 : Int) ≤ (if o = true then 1 else 0) := by split <;> decide
          have ln : ((S ++ S0 ++ S1 ++ r.2.2).length : Int) = (S ++ S0 ++ S1).length + r.2.2.length := by rw [List.length_append]; omega
          refine mj_if_eq (tgt := 38) hJ dX6_readCondition_26 (by decide) (fun hyes => absurd hyes (by decide)) (fun _ => ?_)
          refine mj_aload_n hJ dX6_readCondition_29 rfl ?_
          refine mk_getR hJ dX6_readCondition_30 fw_X6_18 rfl (by decide) rfl rfl ?_
          refine mj_bipush hJ dX6_readCondition_33 (by decide) ?_
          refine mk_Vv1 hJ dX6_readCondition_35 cw_X6_122 rfl rfl rfl rfl (Nat.le_of_ble_eq_true rfl) (by first | decide | omega) (c_addStep (-2) (0, -2, 0) rfl h2 b0 (by omega)) (fun I3 b3 hq9 => ?_)
          obtain ⟨rfl, h3⟩ := hq9
          refine K38 (pend true (-2) S1 r) I3 _ (pend_1.1.trans c) pend_1.2 (by rw [← el]; exact h3) ?_ he
          rw [← el, List.length_append]
          show I0 81 5 + (((S ++ S0 ++ S1 ++ r.2.2).length + 1 : Nat) : Int) + _ ≤ _
          omega
        · have ca : a = false := by cases a <;> simp_all
          subst ca
          have e0 := ha rfl
          subst e0
          rw [if_neg (by decide)] at hl ⊢
          rw [List.append_nil] at h2 hl
          refine mj_if_eq (tgt := 38) hJ dX6_readCondition_26 (by decide) (fun _ => ?_) (fun hno => absurd rfl hno)
          refine K38 r I2 _ c rfl h2 ?_ he
          rw [List.length_append]
          omega
    | succ w ih =>
      intro k1 I1 i a o S0 S1 m M hw hk1 h1 i0 i2 ha ho hm hM hl he
      have qb := tkp_bd (g := g) n0 k1
      have fr := pone_far (g := g) hpo qb.2
      refine mj_iload hJ dX6_readCondition_7 rfl ?_
      refine mj_sipush hJ dX6_readCondition_9 (by decide) ?_
      refine mj_icmp_ge (tgt := 83) hJ dX6_readCondition_12 (by decide) (fun hyes => absurd hyes (by omega)) (fun _ => ?_)
      refine mj_aload_n hJ dX6_readCondition_15 rfl ?_
      refine mj_iload_n hJ dX6_readCondition_16 rfl ?_
      have hl0 : I0 81 5 + ((S ++ S0 ++ S1).length : Int) ≤ tkp g n k1 := by
        have x1 : (0 : Int) ≤ (if a = true then 1 else 0) := by split <;> decide
        have x2 : (0 : Int) ≤ (if o = true then 1 else 0) := by split <;> decide
        omega
      refine mk_Vi1 hJ dX6_readCondition_17 cw_X6_119 rfl rfl rfl rfl (Nat.le_of_ble_eq_true rfl) (by first | decide | omega) (c_readOne hT n0 hn b0 lv hlv hC h1 hk1 hl0) (fun z I2 b2 hq9 => ?_)
      obtain ⟨rfl, rfl, k2, hk2, ht2, S2, h2, hs2⟩ := hq9
      generalize pone g n (popen g n lv) (tkp g n k1) = r at fr ht2 hs2 he ⊢
      cases c : r.1 with
      | false =>
        rw [if_neg (show ¬(false = true) by decide)]
        refine mj_if_ne (tgt := 25) hJ dX6_readCondition_20 (by decide) (fun hyes => absurd (by decide) hyes) (fun _ => ?_)
        refine mj_iconst hJ dX6_readCondition_23 (by decide) ?_
        have e1 := pend_1 (a := a) (s := -2) (S1 := S1) (r := r)
        rw [palL_bad (e1.1.trans c)] at he
        have e2 := pend_1 (a := o) (s := -3) (S1 := S0) (r := pend a (-2) S1 r)
        rw [pcoL_bad (e2.1.trans (e1.1.trans c))] at he
        rw [← he] at hR
        exact hR _ _ _ _ _ dX6_readCondition_24 (nar_z (Or.inl rfl)) ⟨by rw [e2.1, e1.1, c]; rfl, rfl, k2, hk2, by rw [e2.2, e1.2]; exact ht2, S2, h2, fun q => by rw [e2.1, e1.1, c] at q; exact Bool.noConfusion q⟩
      | true =>
        have es := hs2 c
        subst es
        have fl := fr.2 c
        have cl := codo_len r.2.2
        have rb := fr.1.2
        rw [if_pos rfl]
        refine mj_if_ne (tgt := 25) hJ dX6_readCondition_20 (by decide) (fun _ => ?_) (fun hno => absurd hno (by decide))
        -- behind the pass of OR
        have K65 : ∀ (r2 : PR) (I3 : Ints) (x2 x3 : Int), r2.1 = true → r2.2.1 = r.2.1 → CR I0 I3 k2 (S ++ r2.2.2) → I0 81 5 + ((S ++ r2.2.2).length : Int) ≤ r.2.1 → pcoL g n (popen g n lv) M r2 = pcon g n (popen g n lv) p → J 65 [vr 80, vi (3 - lv), vi 0, vi x3, vi i] [] (mk I3 b2) := by
          intro r2 I3 x2 x3 e1 e2 h3 hl3 he3
          refine mj_aload_n hJ dX6_readCondition_65 rfl ?_
          refine mj_iconst hJ dX6_readCondition_66 (by decide) ?_
          refine mk_Vi1 hJ dX6_readCondition_67 cw_X6_106 rfl rfl rfl rfl (Nat.le_of_ble_eq_true rfl) (by first | decide | omega) (c_pass hT n0 hn h3 hk2 5) (fun z I4 b4 hq9 => ?_)
          obtain ⟨rfl, rfl, hy, hno⟩ := hq9
          rw [ht2] at hy hno ⊢
          by_cases c5 : wdp g n r.2.1 [111, 114]
          · have k5 := (knd_or rb).2 c5
            have h4 := hy k5
            have lt := wdp_lt c5 (by decide) rb
            have wd := wdp_wid c5 rb
            have wd : r.2.1 + 2 ≤ nxp g n r.2.1 := wd
            have k3 : k2 + 1 ≤ cc := (hT.lt hk2 n0).2 (by rw [ht2]; exact lt)
            have et : tkp g n (k2 + 1) = nxp g n r.2.1 := by show nxp g n (tkp g n k2) = _; rw [ht2]
            rw [if_pos k5]
            refine ms_istore_n (ls' := [_, _, _, _, _]) hJ dX6_readCondition_70 (by decide) rfl rfl ?_
            refine mj_iload_n hJ dX6_readCondition_71 rfl ?_
            refine mj_if_ne (tgt := 77) hJ dX6_readCondition_72 (by decide) (fun _ => ?_) (fun hno => absurd hno (by decide))
            refine ms_iinc (ls' := [_, _, _, _, _]) hJ dX6_readCondition_77 rfl (by decide) rfl (wr_id (by omega)) rfl ?_
            refine mj_goto (tgt := 7) hJ dX6_readCondition_80 (by decide) ?_
            obtain ⟨M', rfl⟩ : ∃ M', M = M' + 1 := ⟨M - 1, by have := fr.1.1; omega⟩
            have e3 : pcoL g n (popen g n lv) (M' + 1) r2 = if r2.1 = true ∧ wdp g n r2.2.1 [111, 114] then pcoL g n (popen g n lv) M' ((pall g n (popen g n lv) (nxp g n r2.2.1)).1, (pall g n (popen g n lv) (nxp g n r2.2.1)).2.1, r2.2.2 ++ ((pall g n (popen g n lv) (nxp g n r2.2.1)).2.2 ++ [(0, -3, 0)])) else r2 := rfl
            rw [e3, if_pos ⟨e1, by rw [e2]; exact c5⟩, e2] at he3
            have f1 := fr.1.1
            exact ih (k2 + 1) I4 (i + 1) false true r2.2.2 [] (n - nxp g n r.2.1).toNat M' (by rw [et]; omega) k3 (by rw [List.append_nil]; exact h4) (by omega) (by rw [et]; omega) (fun _ => rfl) (fun q => Bool.noConfusion q) (by rw [et]; omega) (by rw [et]; omega) (by rw [et, List.append_nil]; show _ + 0 + 1 ≤ _; omega) (by rw [et]; exact he3)
          · have k5 : ¬ knd g n r.2.1 = 5 := fun z => c5 ((knd_or rb).1 z)
            have e4 := hno k5
            subst e4
            rw [if_neg k5]
            refine ms_istore_n (ls' := [_, _, _, _, _]) hJ dX6_readCondition_70 (by decide) rfl rfl ?_
            refine mj_iload_n hJ dX6_readCondition_71 rfl ?_
            refine mj_if_ne (tgt := 77) hJ dX6_readCondition_72 (by decide) (fun hyes => absurd (by decide) hyes) (fun _ => ?_)
            refine mj_iconst hJ dX6_readCondition_75 (by decide) ?_
            rw [pcoL_no (by rw [e2]; exact c5)] at he3
            rw [← he3] at hR
            exact hR _ _ _ _ _ dX6_readCondition_76 (nar_z (Or.inr rfl)) ⟨by rw [e1]; rfl, rfl, k2, hk2, by rw [e2]; exact ht2, _, h3, fun _ => rfl⟩
        -- behind the pass of AND
        have K38 : ∀ (r1 : PR) (I3 : Ints) (x2 : Int), r1.1 = true → r1.2.1 = r.2.1 → CR I0 I3 k2 (S ++ S0 ++ r1.2.2) → I0 81 5 + ((S ++ S0 ++ r1.2.2).length : Int) + (if o = true then 1 else 0) ≤ r.2.1 → pcoL g n (popen g n lv) M (pend o (-3) S0 (palL g n (popen g n lv) m r1)) = pcon g n (popen g n lv) p → J 38 [vr 80, vi (3 - lv), vi x2, vi (if o = true then 1 else 0), vi i] [] (mk I3 b2) := by
          intro r1 I3 x2 e1 e2 h3 hl3 he3
          refine mj_aload_n hJ dX6_readCondition_38 rfl ?_
          refine mj_bipush hJ dX6_readCondition_39 (by decide) ?_
          refine mk_Vi1 hJ dX6_readCondition_41 cw_X6_106 rfl rfl rfl rfl (Nat.le_of_ble_eq_true rfl) (by first | decide | omega) (c_pass hT n0 hn h3 hk2 6) (fun z I4 b4 hq9 => ?_)
          obtain ⟨rfl, rfl, hy, hno⟩ := hq9
          rw [ht2] at hy hno ⊢
          by_cases c6 : wdp g n r.2.1 [97, 110, 100]
          · have k6 := (knd_and rb).2 c6
            have h4 := hy k6
            have lt := wdp_lt c6 (by decide) rb
            have wd := wdp_wid c6 rb
            have wd : r.2.1 + 3 ≤ nxp g n r.2.1 := wd
            have k3 : k2 + 1 ≤ cc := (hT.lt hk2 n0).2 (by rw [ht2]; exact lt)
            have et : tkp g n (k2 + 1) = nxp g n r.2.1 := by show nxp g n (tkp g n k2) = _; rw [ht2]
            rw [if_pos k6]
            refine ms_istore_n (ls' := [_, _, _, _, _]) hJ dX6_readCondition_44 (by decide) rfl rfl ?_
            refine mj_iload_n hJ dX6_readCondition_45 rfl ?_
            refine mj_if_eq (tgt := 52) hJ dX6_readCondition_46 (by decide) (fun hyes => absurd hyes (by decide)) (fun _ => ?_)
            refine mj_goto (tgt := 77) hJ dX6_readCondition_49 (by decide) ?_
            refine ms_iinc (ls' := [_, _, _, _, _]) hJ dX6_readCondition_77 rfl (by decide) rfl (wr_id (by omega)) rfl ?_
            refine mj_goto (tgt := 7) hJ dX6_readCondition_80 (by decide) ?_
            have f1 := fr.1.1
            obtain ⟨m', rfl⟩ : ∃ m', m = m' + 1 := ⟨m - 1, by omega⟩
            have e3 : palL g n (popen g n lv) (m' + 1) r1 = if r1.1 = true ∧ wdp g n r1.2.1 [97, 110, 100] then palL g n (popen g n lv) m' ((pone g n (popen g n lv) (nxp g n r1.2.1)).1, (pone g n (popen g n lv) (nxp g n r1.2.1)).2.1, r1.2.2 ++ ((pone g n (popen g n lv) (nxp g n r1.2.1)).2.2 ++ [(0, -2, 0)])) else r1 := rfl
            rw [e3, if_pos ⟨e1, by rw [e2]; exact c6⟩, e2] at he3
            exact ih (k2 + 1) I4 (i + 1) true o S0 r1.2.2 m' M (by rw [et]; omega) k3 h4 (by omega) (by rw [et]; omega) (fun q => Bool.noConfusion q) ho (by rw [et]; omega) (by rw [et]; omega) (by rw [et]; show _ + 1 + _ ≤ _; omega) (by rw [et]; exact he3)
          · have k6 : ¬ knd g n r.2.1 = 6 := fun z => c6 ((knd_and rb).1 z)
            have e4 := hno k6
            subst e4
            rw [if_neg k6]
            refine ms_istore_n (ls' := [_, _, _, _, _]) hJ dX6_readCondition_44 (by decide) rfl rfl ?_
            refine mj_iload_n hJ dX6_readCondition_45 rfl ?_
            refine mj_if_eq (tgt := 52) hJ dX6_readCondition_46 (by decide) (fun _ => ?_) (fun hno => absurd rfl hno)
            refine mj_iload_n hJ dX6_readCondition_52 rfl ?_
            rw [palL_no (by rw [e2]; exact c6)] at he3
            by_cases co : o = true
            · subst co
              rw [if_pos rfl] at hl3 ⊢
              refine mj_if_eq (tgt := 65) hJ dX6_readCondition_53 (by decide) (fun hyes => absurd hyes (by decide)) (fun _ => ?_)
              refine mj_aload_n hJ dX6_readCondition_56 rfl ?_
              refine mk_getR hJ dX6_readCondition_57 fw_X6_18 rfl (by decide) rfl rfl ?_
              refine mj_bipush hJ dX6_readCondition_60 (by decide) ?_
              refine mk_Vv1 hJ dX6_readCondition_62 cw_X6_122 rfl rfl rfl rfl (Nat.le_of_ble_eq_true rfl) (by first | decide | omega) (c_addStep (-3) (0, -3, 0) rfl h3 b0 (by omega)) (fun I5 b5 hq9 => ?_)
              obtain ⟨rfl, h5⟩ := hq9
              have el : S ++ S0 ++ r1.2.2 ++ [(0, -3, 0)] = S ++ (pend true (-3) S0 r1).2.2 := by
                show _ = S ++ (S0 ++ (r1.2.2 ++ [(0, -3, 0)]))
                rw [List.append_assoc, List.append_assoc]
              refine K65 (pend true (-3) S0 r1) I5 0 1 (pend_1.1.trans e1) (pend_1.2.trans e2) (by rw [← el]; exact h5) ?_ he3
              rw [← el, List.length_append]
              show I0 81 5 + (((S ++ S0 ++ r1.2.2).length + 1 : Nat) : Int) ≤ _
              omega
            · have co : o = false := by cases o <;> simp_all
              subst co
              have e0 := ho rfl
              subst e0
              rw [if_neg (by decide)] at hl3 ⊢
              refine mj_if_eq (tgt := 65) hJ dX6_readCondition_53 (by decide) (fun _ => ?_) (fun hno => absurd rfl hno)
              rw [List.append_nil] at h3 hl3
              exact K65 r1 _ 0 0 e1 e2 h3 (by omega) he3
        refine mj_iload_n hJ dX6_readCondition_25 rfl ?_
        by_cases ca : a = true
        · subst ca
          rw [if_pos rfl] at hl ⊢
          have el : S ++ S0 ++ S1 ++ r.2.2 ++ [(0, -2, 0)] = S ++ S0 ++ (pend true (-2) S1 r).2.2 := by
            show _ = S ++ S0 ++ (S1 ++ (r.2.2 ++ [(0, -2, 0)]))
            rw [List.append_assoc, List.append_assoc]
          have x2 : (0 : Int) ≤ (if o = true then 1 else 0) := by split <;> decide
          have ln : ((S ++ S0 ++ S1 ++ r.2.2).length : Int) = (S ++ S0 ++ S1).length + r.2.2.length := by rw [List.length_append]; omega
          refine mj_if_eq (tgt := 38) hJ dX6_readCondition_26 (by decide) (fun hyes => absurd hyes (by decide)) (fun _ => ?_)
          refine mj_aload_n hJ dX6_readCondition_29 rfl ?_
          refine mk_getR hJ dX6_readCondition_30 fw_X6_18 rfl (by decide) rfl rfl ?_
          refine mj_bipush hJ dX6_readCondition_33 (by decide) ?_
          refine mk_Vv1 hJ dX6_readCondition_35 cw_X6_122 rfl rfl rfl rfl (Nat.le_of_ble_eq_true rfl) (by first | decide | omega) (c_addStep (-2) (0, -2, 0) rfl h2 b0 (by omega)) (fun I3 b3 hq9 => ?_)
          obtain ⟨rfl, h3⟩ := hq9
          refine K38 (pend true (-2) S1 r) I3 _ (pend_1.1.trans c) pend_1.2 (by rw [← el]; exact h3) ?_ he
          rw [← el, List.length_append]
          show I0 81 5 + (((S ++ S0 ++ S1 ++ r.2.2).length + 1 : Nat) : Int) + _ ≤ _
          omega
        · have ca : a = false := by cases a <;> simp_all
          subst ca
          have e0 := ha rfl
          subst e0
          rw [if_neg (by decide)] at hl ⊢
          rw [List.append_nil] at h2 hl
          refine mj_if_eq (tgt := 38) hJ dX6_readCondition_26 (by decide) (fun _ => ?_) (fun hno => absurd rfl hno)
          refine K38 r I2 _ c rfl h2 ?_ he
          rw [List.length_append]
          omega
  refine mj_iconst hJ dX6_readCondition_0 (by decide) ?_
  refine ms_istore_n (ls' := [_, _, _, _, _]) hJ dX6_readCondition_1 (by decide) rfl rfl ?_
  refine mj_iconst hJ dX6_readCondition_2 (by decide) ?_
  refine ms_istore_n (ls' := [_, _, _, _, _]) hJ dX6_readCondition_3 (by decide) rfl rfl ?_
  refine mj_iconst hJ dX6_readCondition_4 (by decide) ?_
  refine ms_istore (ls' := [_, _, _, _, _]) hJ dX6_readCondition_5 (by decide) rfl rfl ?_
  have tb := tkp_bd (g := g) n0 k
  refine loop (n - p).toNat k I 0 false false [] [] (n - p).toNat (n - p).toNat (by rw [hp]; omega) hk (by rw [List.append_nil, List.append_nil]; exact h) (Int.le_refl _) (by omega) (fun _ => rfl) (fun _ => rfl) (by rw [hp]; omega) (by rw [hp]; omega) (by rw [List.append_nil, List.append_nil]; show _ + 0 + 0 ≤ _; omega) ?_
  rw [hp]
  rfl
end C16
