section C8
variable {G : GE} {I N : Ints} {b : Bool} {f : Int → Int}
def lt_ (b : Bool) : Nat := if b = true then 67 else 68
def et_ (b : Bool) : Nat := if b = true then 68 else 67
theorem RR2 (b : Bool) : RR b 58 2 = some (lt_ b) := by cases b <;> rfl
theorem RR3 (b : Bool) : RR b 58 3 = some (et_ b) := by cases b <;> rfl
theorem S_lt (b : Bool) : S0[lt_ b]? = some (16, 5) := by cases b <;> rfl
theorem S_et (b : Bool) : S0[et_ b]? = some (16, 5) := by cases b <;> rfl
theorem lt_et (b : Bool) : ((lt_ b = 67 ∨ lt_ b = 68) ∧ (et_ b = 67 ∨ et_ b = 68)) ∧ lt_ b ≠ et_ b := by cases b <;> decide
theorem lt_not (b : Bool) : lt_ (!b) = et_ b ∧ et_ (!b) = lt_ b := by cases b <;> exact ⟨rfl, rfl⟩
theorem RR_swap (b : Bool) : upR (upR (RR b) 58 2 (some (et_ b))) 58 3 (some (lt_ b)) = RR (!b) := by
  funext k j
  unfold upR
  by_cases h3 : k = 58 ∧ j = 3
  · rw [if_pos h3, h3.1, h3.2, RR3, (lt_not b).2]
  · rw [if_neg h3]
    by_cases h2 : k = 58 ∧ j = 2
    · rw [if_pos h2, h2.1, h2.2, RR2, (lt_not b).1]
    · rw [if_neg h2]
      unfold RR
      rw [if_neg h2, if_neg h3, if_neg h2, if_neg h3]
theorem c_X4_choose (y a mb : Int) (g h : Int → Int) (y0 : 0 ≤ y) (y1 : y < 6) (a0 : 0 ≤ a) (a1 : a ≤ 4) (m0 : 0 ≤ mb) (m1 : mb ≤ 4) (hg : ∀ i, 0 ≤ i → i ≤ mb → I (lt_ b) i = g i ∧ (-100000 ≤ g i ∧ g i ≤ 100000)) (hh : ∀ i, 0 ≤ i → i ≤ mb → I 69 (4 + a - i) = h i ∧ (-100000 ≤ h i ∧ h i ≤ 100000)) :
    MtV G yX4_choose cX4_choose 6 0 [vr 58, vi y, vi a, vi mb] I b (fun I' b' => b' = b ∧ (∀ c, c ≠ et_ b → c ≠ 61 + y.toNat → I' c = I c) ∧ (∀ j, j ≠ a → I' (et_ b) j = I (et_ b) j ∧ I' (61 + y.toNat) j = I (61 + y.toNat) j) ∧
      I' (et_ b) a = (scan (fun i => h i + g i) mb.toNat).1 ∧ I' (61 + y.toNat) a = (scan (fun i => h i + g i) mb.toNat).2) := by
  refine mt_enterV (own := RX4) (ls0 := [vr 58, vi y, vi a, vi mb, vu, vu]) rfl (by decide +kernel) (Nat.le_of_ble_eq_true rfl) rfl (fun J hJ hR => ?_)
  have r2 := RR2 b
  have r3 := RR3 b
  have s2 := S_lt b
  have s3 := S_et b
  have le := lt_et b
  obtain ⟨t, ht⟩ : ∃ t, (fun i : Int => h i + g i) = t := ⟨_, rfl⟩
  have te : ∀ i, t i = h i + g i := fun i => by rw [← ht]
  rw [ht] at hR
  have hrow : 61 + y.toNat ≠ et_ b ∧ 61 + y.toNat ≠ lt_ b ∧ 61 + y.toNat ≠ 69 := by omega
  have loop : ∀ (m k : Nat) (I1 : Ints), k + m = mb.toNat → (∀ c, c ≠ et_ b → c ≠ 61 + y.toNat → I1 c = I c) → (∀ j, j ≠ a → I1 (et_ b) j = I (et_ b) j ∧ I1 (61 + y.toNat) j = I (61 + y.toNat) j) → I1 (et_ b) a = (scan t k).1 → I1 (61 + y.toNat) a = (scan t k).2 → J 33 [vr 58, vi y, vi a, vi mb, vi (k + 1), vu] [] (mk I1 b) := by
    intro m
    induction m with
    | zero =>
      intro k I1 hk hf hj h1 h2
      have ek : k = mb.toNat := by omega
      subst ek
      refine mj_iload hJ dX4_choose_33 rfl ?_
      refine mj_iload_n hJ dX4_choose_35 rfl ?_
      refine mj_icmp_gt (tgt := 95) hJ dX4_choose_36 (by decide) (fun _ => ?_) (fun hno => absurd (by omega) hno)
      refine hR _ _ _ _ dX4_choose_95 ⟨rfl, hf, hj, h1, h2⟩
    | succ m ih =>
      intro k I1 hk hf hj h1 h2
      have g1 := hg (k + 1) (by omega) (by omega)
      have hh1 := hh (k + 1) (by omega) (by omega)
      have e69 : I1 69 (4 + a - (k + 1)) = h (k + 1) := by rw [hf 69 (by omega) (by omega)]; exact hh1.1
      have elt : I1 (lt_ b) (k + 1) = g (k + 1) := by rw [hf (lt_ b) (by omega) (by omega)]; exact g1.1
      have et := te (k + 1)
      have es : scan t (k + 1) = if (scan t k).1 < t (k + 1) then (t (k + 1), (k : Int) + 1) else scan t k := rfl
      have ih := ih (k + 1)
      rw [show ((k + 1 : Nat) : Int) + 1 = (k : Int) + 1 + 1 by omega] at ih
      refine mj_iload hJ dX4_choose_33 rfl ?_
      refine mj_iload_n hJ dX4_choose_35 rfl ?_
      refine mj_icmp_gt (tgt := 95) hJ dX4_choose_36 (by decide) (fun hyes => absurd hyes (by omega)) (fun _ => ?_)
      refine mj_aload_n hJ dX4_choose_39 rfl ?_
      refine mk_getR hJ dX4_choose_40 fw_X4_26 rfl (by decide) rfl rfl ?_
      refine mj_iconst hJ dX4_choose_43 (by decide) ?_
      refine mj_iload_n hJ dX4_choose_44 rfl ?_
      first | refine ms_iadd hJ dX4_choose_45 (by omega) ?_ | refine mj_iadd hJ dX4_choose_45 ?_
      refine mj_iload hJ dX4_choose_46 rfl ?_
      first | refine ms_isub hJ dX4_choose_48 (by omega) ?_ | refine mj_isub hJ dX4_choose_48 ?_
      refine mk_iald hJ dX4_choose_49 rfl (by omega) (by omega) ?_
      rw [e69]
      refine mj_aload_n hJ dX4_choose_50 rfl ?_
      refine mk_getR hJ dX4_choose_51 fw_X4_20 rfl (by decide) rfl (by assumption) ?_
      refine mj_iload hJ dX4_choose_54 rfl ?_
      refine mk_iald hJ dX4_choose_56 (by assumption) (by omega) (by omega) ?_
      rw [elt]
      first | refine ms_iadd hJ dX4_choose_57 (by omega) ?_ | refine mj_iadd hJ dX4_choose_57 ?_
      rw [← et]
      refine ms_istore (ls' := [_, _, _, _, _, _]) hJ dX4_choose_58 (by decide) rfl rfl ?_
      refine mj_iload hJ dX4_choose_60 rfl ?_
      refine mj_aload_n hJ dX4_choose_62 rfl ?_
      refine mk_getR hJ dX4_choose_63 fw_X4_23 rfl (by decide) rfl (by assumption) ?_
      refine mj_iload_n hJ dX4_choose_66 rfl ?_
      refine mk_iald hJ dX4_choose_67 (by assumption) (by omega) (by omega) ?_
      rw [h1]
      refine mj_icmp_le (tgt := 89) hJ dX4_choose_68 (by decide) (fun hx => ?_) (fun hx => ?_)
      · rw [if_neg (by omega)] at es
        refine ms_iinc (ls' := [_, _, _, _, _, _]) hJ dX4_choose_89 rfl (by decide) rfl (wr_id (by omega)) rfl ?_
        refine mj_goto (tgt := 33) hJ dX4_choose_92 (by decide) ?_
        refine mj_drop (ls' := [_, _, _, _, _, vu]) hJ ⟨Or.inl rfl, Or.inl rfl, Or.inl rfl, Or.inl rfl, Or.inl rfl, Or.inr rfl, trivial⟩ ?_
        exact ih I1 (by omega) hf hj (by rw [es]; exact h1) (by rw [es]; exact h2)
      · rw [if_pos (by omega)] at es
        refine mj_aload_n hJ dX4_choose_71 rfl ?_
        refine mk_getR hJ dX4_choose_72 fw_X4_17 rfl (by decide) rfl rfl ?_
        refine mj_iload_n hJ dX4_choose_75 rfl ?_
        refine mk_aald hJ dX4_choose_76 rfl (Or.inl rfl) (by omega) (by omega) (gr_60 (by omega) (by omega)).1 ?_
        refine mj_iload_n hJ dX4_choose_77 rfl ?_
        refine mj_iload hJ dX4_choose_78 rfl ?_
        refine mk_iast hJ dX4_choose_80 (gr_60 (b := true) (by omega) (by omega)).2 (by omega) (by omega) ?_
        refine mj_aload_n hJ dX4_choose_81 rfl ?_
        refine mk_getR hJ dX4_choose_82 fw_X4_23 rfl (by decide) rfl (by assumption) ?_
        refine mj_iload_n hJ dX4_choose_85 rfl ?_
        refine mj_iload hJ dX4_choose_86 rfl ?_
        refine mk_iast hJ dX4_choose_88 (by assumption) (by omega) (by omega) ?_
        refine ms_iinc (ls' := [_, _, _, _, _, _]) hJ dX4_choose_89 rfl (by decide) rfl (wr_id (by omega)) rfl ?_
        refine mj_goto (tgt := 33) hJ dX4_choose_92 (by decide) ?_
        refine mj_drop (ls' := [_, _, _, _, _, vu]) hJ ⟨Or.inl rfl, Or.inl rfl, Or.inl rfl, Or.inl rfl, Or.inl rfl, Or.inr rfl, trivial⟩ ?_
        refine ih _ (by omega) (fun c c1 c2 => by rw [upI_ne c1, upI_ne c2]; exact hf c c1 c2) (fun j hj2 => ⟨?_, ?_⟩) ?_ ?_
        · rw [upI_at, if_neg hj2, upI_ne (Ne.symm hrow.1)]; exact (hj j hj2).1
        · rw [upI_ne hrow.1, upI_at, if_neg hj2]; exact (hj j hj2).2
        · rw [upI_at, if_pos rfl, es]
        · rw [upI_ne hrow.1, upI_at, if_pos rfl, es]
  have g0 := hg 0 (by omega) (by omega)
  have h0 := hh 0 (by omega) (by omega)
  rw [Int.sub_zero] at h0
  have e0 := te 0
  refine mj_aload_n hJ dX4_choose_0 rfl ?_
  refine mk_getR hJ dX4_choose_1 fw_X4_17 rfl (by decide) rfl rfl ?_
  refine mj_iload_n hJ dX4_choose_4 rfl ?_
  refine mk_aald hJ dX4_choose_5 rfl (Or.inl rfl) (by omega) (by omega) (gr_60 (by omega) (by omega)).1 ?_
  refine mj_iload_n hJ dX4_choose_6 rfl ?_
  refine mj_iconst hJ dX4_choose_7 (by decide) ?_
  refine mk_iast hJ dX4_choose_8 (gr_60 (b := true) (by omega) (by omega)).2 (by omega) (by omega) ?_
  refine mj_aload_n hJ dX4_choose_9 rfl ?_
  refine mk_getR hJ dX4_choose_10 fw_X4_23 rfl (by decide) rfl (by assumption) ?_
  refine mj_iload_n hJ dX4_choose_13 rfl ?_
  refine mj_aload_n hJ dX4_choose_14 rfl ?_
  refine mk_getR hJ dX4_choose_15 fw_X4_26 rfl (by decide) rfl rfl ?_
  refine mj_iconst hJ dX4_choose_18 (by decide) ?_
  refine mj_iload_n hJ dX4_choose_19 rfl ?_
  first | refine ms_iadd hJ dX4_choose_20 (by omega) ?_ | refine mj_iadd hJ dX4_choose_20 ?_
  refine mk_iald hJ dX4_choose_21 rfl (by omega) (by omega) ?_
  rw [upI_ne (by omega), h0.1]
  refine mj_aload_n hJ dX4_choose_22 rfl ?_
  refine mk_getR hJ dX4_choose_23 fw_X4_20 rfl (by decide) rfl (by assumption) ?_
  refine mj_iconst hJ dX4_choose_26 (by decide) ?_
  refine mk_iald hJ dX4_choose_27 (by assumption) (by omega) (by omega) ?_
  rw [upI_ne (by omega), g0.1]
  first | refine ms_iadd hJ dX4_choose_28 (by omega) ?_ | refine mj_iadd hJ dX4_choose_28 ?_
  rw [← e0]
  refine mk_iast hJ dX4_choose_29 (by assumption) (by omega) (by omega) ?_
  refine mj_iconst hJ dX4_choose_30 (by decide) ?_
  refine ms_istore (ls' := [_, _, _, _, _, _]) hJ dX4_choose_31 (by decide) rfl rfl ?_
  refine loop mb.toNat 0 _ (by omega) (fun c c1 c2 => by rw [upI_ne c1, upI_ne c2]) (fun j hj2 => ⟨?_, ?_⟩) ?_ ?_
  · rw [upI_at, if_neg hj2, upI_ne (Ne.symm hrow.1)]
  · rw [upI_ne hrow.1, upI_at, if_neg hj2]
  · rw [upI_at, if_pos rfl]; rfl
  · rw [upI_ne hrow.1, upI_at, if_pos rfl]; rfl
theorem bestq_gQ {f q : Int → Int} (h : 0 ≤ f 0) : bestq f q = gQ f q (f 0 - 1) 0 0 := by
  unfold bestq gQ
  by_cases e : f 0 = 0
  · rw [if_pos e, if_neg (by omega)]
  · rw [if_neg e, if_pos (by omega), Int.zero_add, Int.sub_zero]
def dinf (f : Int → Int) (w : Int) : Int := if f 4 < 0 then 0 else infl f w (f 4)
def dhold (f : Int → Int) : Int := if f 4 < 0 then 0 else f 5
theorem c_X4_fillBests (hw : WN f) (hl : LN I f) (w : Int) (w0 : 0 ≤ w) (w1 : w ≤ 20) (h44 : ∀ v, 0 ≤ v → v < f 0 → I 44 v = infl f w v) :
    MtV G yX4_fillBests cX4_fillBests 6 4 [vr 58, vr 1, vr 43, vi (dinf f w), vi (dhold f)] I b (fun I' b' => b' = b ∧ (∀ c, (c < 44 ∨ 57 < c) → c ≠ 69 → I' c = I c) ∧ ∀ more : Int, -(dhold f) ≤ more → more ≤ dhold f → 0 ≤ dinf f w + more → I' 69 (4 + more) = yb f w more) := by
  refine mt_enterV (own := RX4) (ls0 := [vr 58, vr 1, vr 43, vi (dinf f w), vi (dhold f), vu]) rfl (by decide +kernel) (Nat.le_of_ble_eq_true rfl) rfl (fun J hJ hR => ?_)
  have hn := hw.nv
  have hd := hw.dm
  have hH : 0 ≤ dhold f ∧ dhold f ≤ 4 ∧ (f 4 < 0 → dhold f = 0 ∧ dinf f w = 0) ∧ (0 ≤ f 4 → dhold f = f 5 ∧ dinf f w = infl f w (f 4)) := by unfold dhold dinf; split <;> omega
  have hI : 0 ≤ dinf f w ∧ dinf f w ≤ 24 := by
    by_cases c : f 4 < 0
    · rw [(hH.2.2.1 c).2]; omega
    · rw [(hH.2.2.2 (by omega)).2]
      exact infl_bd hw (by omega) (by omega) w0 w1
  obtain ⟨H, eH⟩ : ∃ H, dhold f = H := ⟨_, rfl⟩
  obtain ⟨Q, eQ⟩ : ∃ Q, dinf f w = Q := ⟨_, rfl⟩
  rw [eH, eQ] at hH hR ⊢
  rw [eQ] at hI
  have loop : ∀ (m : Nat) (k : Int) (I1 : Ints), -H ≤ k → k + m = H + 1 → (∀ c, (c < 44 ∨ 57 < c) → c ≠ 69 → I1 c = I c) → (∀ v, 0 ≤ v → v < f 0 → v ≠ f 4 → I1 44 v = infl f w v) → (∀ more : Int, -H ≤ more → more < k → 0 ≤ Q + more → I1 69 (4 + more) = yb f w more) → J 5 [vr 58, vr 1, vr 43, vi Q, vi H, vi k] [] (mk I1 b) := by
    intro m
    induction m with
    | zero =>
      intro k I1 k0 km hf hq hB
      refine mj_iload hJ dX4_fillBests_5 rfl ?_
      refine mj_iload hJ dX4_fillBests_7 rfl ?_
      refine mj_icmp_gt (tgt := 69) hJ dX4_fillBests_9 (by decide) (fun _ => ?_) (fun hno => absurd (by omega) hno)
      refine hR _ _ _ _ dX4_fillBests_69 ⟨rfl, hf, fun more m0 m1 m2 => hB more m0 (by omega) m2⟩
    | succ m ih =>
      intro k I1 k0 km hf hq hB
      have hl1 : LN I1 f := LN.same hw hl (fun c c1 c2 => hf c (by omega) (by omega))
      have ih := ih (k + 1)
      refine mj_iload hJ dX4_fillBests_5 rfl ?_
      refine mj_iload hJ dX4_fillBests_7 rfl ?_
      refine mj_icmp_gt (tgt := 69) hJ dX4_fillBests_9 (by decide) (fun hyes => absurd hyes (by omega)) (fun _ => ?_)
      refine mj_iload_n hJ dX4_fillBests_12 rfl ?_
      refine mj_iload hJ dX4_fillBests_13 rfl ?_
      first | refine ms_iadd hJ dX4_fillBests_15 (by omega) ?_ | refine mj_iadd hJ dX4_fillBests_15 ?_
      refine mj_if_ge (tgt := 22) hJ dX4_fillBests_16 (by decide) (fun hp => ?_) (fun hp => ?_)
      · have K42 : ∀ I2 : Ints, (∀ c, c ≠ 44 → I2 c = I1 c) → (∀ v, 0 ≤ v → v ≤ f 0 - 1 → I2 44 v = qd f w k v) → J 42 [vr 58, vr 1, vr 43, vi Q, vi H, vi k] [] (mk I2 b) := by
          intro I2 g1 g2
          have hl2 : LN I2 f := LN.same hw hl1 (fun c c1 c2 => g1 c (by omega))
          have hs : sg (qd f w k) 0 (f 0 - 1) ≤ 148 := by
            by_cases c : 0 < f 0
            · exact qd_sum hw w0 w1 (by omega) (by omega) c
            · rw [show f 0 - 1 = 0 - 1 by omega, sg_pre]; decide
          refine mj_aload_n hJ dX4_fillBests_42 rfl ?_
          refine mk_getR hJ dX4_fillBests_43 fw_X4_26 rfl (by decide) rfl rfl ?_
          refine mj_iconst hJ dX4_fillBests_46 (by decide) ?_
          refine mj_iload hJ dX4_fillBests_47 rfl ?_
          first | refine ms_iadd hJ dX4_fillBests_49 (by omega) ?_ | refine mj_iadd hJ dX4_fillBests_49 ?_
          refine mj_aload_n hJ dX4_fillBests_50 rfl ?_
          refine mj_aload_n hJ dX4_fillBests_51 rfl ?_
          refine mj_iconst hJ dX4_fillBests_52 (by decide) ?_
          refine mj_aload_n hJ dX4_fillBests_53 rfl ?_
          refine mk_getI (j' := 0) hJ dX4_fillBests_54 fw_X4_72 rfl (by decide) rfl rfl ?_
          rw [hl2.1.1]
          refine mj_iconst hJ dX4_fillBests_57 (by decide) ?_
          first | refine ms_isub hJ dX4_fillBests_58 (by omega) ?_ | refine mj_isub hJ dX4_fillBests_58 ?_
          refine mk_Vi3 hJ dX4_fillBests_59 cw_X4_75 rfl rfl rfl rfl (Nat.le_of_ble_eq_true rfl) (by first | decide | omega) (c_mostMadeQ hw hl2 0 (f 0 - 1) (qd f w k) g2 (Int.le_refl _) (by omega) (by omega) (fun v x y => (qd_bd hw w0 w1 (by omega) (by omega) x (by omega)).1) hs) (fun z I3 b3 hq9 => ?_)
          obtain ⟨rfl, rfl, hf3, -⟩ := hq9
          rw [← bestq_gQ hn.1]
          refine mk_iast hJ dX4_fillBests_62 rfl (by omega) (by omega) ?_
          refine ms_iinc (ls' := [_, _, _, _, _, _]) hJ dX4_fillBests_63 rfl (by decide) rfl (wr_id (by omega)) rfl ?_
          refine mj_goto (tgt := 5) hJ dX4_fillBests_66 (by decide) ?_
          refine ih _ (by omega) (by omega) (fun c c1 c2 => by rw [upI_ne c2, hf3 c (by omega), g1 c (by omega)]; exact hf c c1 c2) (fun v x y z => by rw [upI_ne (by decide), hf3 44 (by decide), g2 v x (by omega)]; unfold qd; rw [if_neg (fun q => z q.1)]) (fun more m0 m1 m2 => ?_)
          rw [upI_at, hf3 69 (by decide), g1 69 (by decide)]
          by_cases e : more = k
          · subst e
            rw [if_pos rfl]
            rfl
          · rw [if_neg (by omega)]
            exact hB more m0 (by omega) m2
        refine mj_aload_n hJ dX4_fillBests_22 rfl ?_
        refine mk_getI (j' := 5) hJ dX4_fillBests_23 fw_X4_29 rfl (by decide) rfl rfl ?_
        rw [hl1.1.2.2.1]
        refine mj_if_lt (tgt := 42) hJ dX4_fillBests_26 (by decide) (fun hdm => ?_) (fun hdm => ?_)
        · refine K42 I1 (fun _ _ => rfl) (fun v x y => ?_)
          rw [hq v x (by omega) (by omega)]
          unfold qd
          rw [if_neg (by omega)]
        · have hQ := (hH.2.2.2 (by omega)).2
          refine mj_aload_n hJ dX4_fillBests_29 rfl ?_
          refine mk_getR hJ dX4_fillBests_30 fw_X4_55 rfl (by decide) rfl rfl ?_
          refine mj_aload_n hJ dX4_fillBests_33 rfl ?_
          refine mk_getI (j' := 5) hJ dX4_fillBests_34 fw_X4_29 rfl (by decide) rfl rfl ?_
          rw [hl1.1.2.2.1]
          refine mj_iload_n hJ dX4_fillBests_37 rfl ?_
          refine mj_iload hJ dX4_fillBests_38 rfl ?_
          first | refine ms_iadd hJ dX4_fillBests_40 (by omega) ?_ | refine mj_iadd hJ dX4_fillBests_40 ?_
          refine mk_iast hJ dX4_fillBests_41 rfl (by omega) (by omega) ?_
          refine K42 _ (fun c hc => upI_ne hc) (fun v x y => ?_)
          rw [upI_at]
          unfold qd
          by_cases e : v = f 4
          · subst e
            rw [if_pos rfl, if_pos ⟨rfl, by omega⟩, hQ]
          · rw [if_neg e, if_neg (fun q => e q.1)]
            exact hq v x (by omega) e
      · refine mj_goto (tgt := 63) hJ dX4_fillBests_19 (by decide) ?_
        refine ms_iinc (ls' := [_, _, _, _, _, _]) hJ dX4_fillBests_63 rfl (by decide) rfl (wr_id (by omega)) rfl ?_
        refine mj_goto (tgt := 5) hJ dX4_fillBests_66 (by decide) ?_
        exact ih I1 (by omega) (by omega) hf hq (fun more m0 m1 m2 => hB more m0 (by omega) m2)
  refine mj_iload hJ dX4_fillBests_0 rfl ?_
  first | refine ms_ineg hJ dX4_fillBests_2 (by omega) ?_ | refine mj_ineg hJ dX4_fillBests_2 ?_
  refine ms_istore (ls' := [_, _, _, _, _, _]) hJ dX4_fillBests_3 (by decide) rfl rfl ?_
  exact loop (H + 1 + H).toNat (-H) I (Int.le_refl _) (by omega) (fun _ _ _ => rfl) (fun v x y _ => h44 v x y) (fun more m0 m1 => by omega)
theorem scc_scan {h : Int → Int} {ok : Nat → Bool} {M : Int} (hM : 0 ≤ M) : ∀ n : Nat, (∀ i : Nat, i ≤ n → (ok i = true ↔ (i : Int) ≤ M)) → scc h ok n = scan h (min (n : Int) M).toNat
  | 0, _ => by
    rw [show (min ((0 : Nat) : Int) M).toNat = 0 by omega]
    rfl
  | n + 1, e => by
    have ih := scc_scan (h := h) (ok := ok) hM n (fun i hi => e i (by omega))
    have e1 : scc h ok (n + 1) = if ok (n + 1) = true ∧ (scc h ok n).1 < h (n + 1) then (h (n + 1), (n : Int) + 1) else scc h ok n := rfl
    rw [e1]
    by_cases c : ((n + 1 : Nat) : Int) ≤ M
    · have hk := (e (n + 1) (Nat.le_refl _)).2 c
      rw [show (min ((n + 1 : Nat) : Int) M).toNat = n + 1 by omega]
      rw [show (min (n : Int) M).toNat = n by omega] at ih
      rw [ih]
      have e2 : scan h (n + 1) = if (scan h n).1 < h (n + 1) then (h (n + 1), (n : Int) + 1) else scan h n := rfl
      rw [e2]
      by_cases c2 : (scan h n).1 < h (n + 1)
      · rw [if_pos ⟨hk, c2⟩, if_pos c2]
      · rw [if_neg (fun q => c2 q.2), if_neg c2]
    · have hk : ¬ ok (n + 1) = true := fun q => c ((e (n + 1) (Nat.le_refl _)).1 q)
      rw [if_neg (fun q => hk q.1), ih]
      congr 1
      omega
theorem scc_const {h : Int → Int} {ok : Nat → Bool} (e : ∀ i : Nat, h i = h 0) : ∀ n : Nat, scc h ok n = (h 0, 0)
  | 0 => rfl
  | n + 1 => by
    have ih := scc_const (ok := ok) e n
    have e1 : scc h ok (n + 1) = if ok (n + 1) = true ∧ (scc h ok n).1 < h (n + 1) then (h (n + 1), (n : Int) + 1) else scc h ok n := rfl
    have e2 := e (n + 1)
    rw [show (((n + 1 : Nat)) : Int) = (n : Int) + 1 by omega] at e2
    rw [e1, ih, if_neg (fun q => by have := q.2; rw [e2] at this; exact absurd this (Int.lt_irrefl _))]
theorem yb_const {f : Int → Int} (hn : 0 ≤ f 0) (hd : f 4 < 0) (w m : Int) : yb f w m = yb f w 0 := by
  unfold yb
  rw [bestq_gQ hn, bestq_gQ hn]
  refine gQ_congr (fun i x y => ?_)
  unfold qd
  rw [if_neg (by omega), if_neg (by omega)]
theorem kt_const {f : Int → Int} (hn : 0 ≤ f 0) (hd : f 4 < 0) : ∀ (n : Nat) (k : Int), kt f n k = kt f n 0 ∧ (kt f n k).2 = 0
  | 0, _ => ⟨rfl, rfl⟩
  | n + 1, k => by
    have e : ∀ k : Int, kt f (n + 1) k = (yb f (f (118 + (f 1 - 1 - n))) 0 + (kt f n 0).1, 0) := fun k => by
      have e0 : kt f (n + 1) k = scc (fun i => yb f (f (118 + (f 1 - 1 - n))) (k - i) + (kt f n i).1) (fun i => decide (okm f (f (118 + (f 1 - 1 - n))) (k - i))) (f 5).toNat := rfl
      rw [e0, scc_const (fun i => by
        show yb f _ (k - (i : Int)) + (kt f n i).1 = yb f _ (k - 0) + (kt f n 0).1
        rw [yb_const hn hd, (kt_const hn hd n i).1, yb_const hn hd _ (k - 0)])]
      show (yb f _ (k - 0) + (kt f n 0).1, (0 : Int)) = _
      rw [yb_const hn hd _ (k - 0)]
    exact ⟨by rw [e k, e 0], by rw [e k]⟩
/-- what the class finds for a year is the model's -/
theorem kt_scan {f : Int → Int} (hw : WN f) (n : Nat) (hn : (n : Int) < f 1) {a w : Int} (ew : f (118 + (f 1 - 1 - n)) = w) (a0 : 0 ≤ a) (a1 : a ≤ dhold f) : scan (fun i => yb f w (a - i) + (kt f n i).1) (min (dhold f) (dinf f w + a)).toNat = kt f (n + 1) a := by
  have hv := hw.nv
  have hd := hw.dm
  have hy := hw.ny
  have e0 : kt f (n + 1) a = scc (fun i => yb f w (a - i) + (kt f n i).1) (fun i => decide (okm f w (a - i))) (f 5).toNat := by
    rw [← ew]
    rfl
  have wt := hw.wet (y := f 1 - 1 - n) (by omega) (by omega)
  rw [ew] at wt
  by_cases c : f 4 < 0
  · have eh : dhold f = 0 := if_pos c
    have ei : dinf f w = 0 := if_pos c
    rw [e0, scc_const (fun i => by
      show yb f w (a - (i : Int)) + (kt f n i).1 = yb f w (a - 0) + (kt f n 0).1
      rw [yb_const hv.1 c, (kt_const hv.1 c n i).1, yb_const hv.1 c _ (a - 0)]), eh, ei]
    rw [show (min (0 : Int) (0 + a)).toNat = 0 by omega]
    rfl
  · have eh : dhold f = f 5 := if_neg c
    have ei : dinf f w = infl f w (f 4) := if_neg c
    have ib := infl_bd hw (v := f 4) (w := w) (by omega) (by omega) wt.1 wt.2
    rw [e0, scc_scan (M := dinf f w + a) (by rw [ei]; omega) (f 5).toNat (fun i hi => by
      rw [decide_eq_true_iff]
      show (f 4 < 0 ∨ 0 ≤ infl f w (f 4) + (a - i)) ↔ _
      rw [ei]
      omega)]
    congr 2
    rw [eh]
    omega
theorem dhold_bd {f : Int → Int} (hw : WN f) : 0 ≤ dhold f ∧ dhold f ≤ 4 ∧ dhold f ≤ f 5 := by
  have hd := hw.dm
  unfold dhold
  split <;> omega
theorem hh_bd {f : Int → Int} (hw : WN f) : ∀ y : Nat, (y : Int) ≤ f 1 → 0 ≤ hh f y ∧ hh f y ≤ dhold f
  | 0, _ => ⟨Int.le_refl _, (dhold_bd hw).1⟩
  | y + 1, hy => by
    have a := hh_bd hw y (by omega)
    have d := dhold_bd hw
    have hn := hw.nv
    have k := kt_bd hw (f 1 - y).toNat (hh f y) (by omega) a.1 (by omega)
    have e : hh f (y + 1) = (kt f (f 1 - y).toNat (hh f y)).2 := rfl
    rw [e]
    refine ⟨k.2.1, ?_⟩
    by_cases c : f 4 < 0
    · rw [(kt_const hn.1 c _ _).2]; exact d.1
    · have : dhold f = f 5 := if_neg c
      rw [this]
      exact k.2.2
theorem c_X4_storeBest (hw : WN f) (hl : LN I f) : MtI G yX4_storeBest cX4_storeBest 7 (some .int) 5 [vr 58, vr 1, vr 43] I b (fun z I' _ => z = (kt f (f 1).toNat 0).1 ∧ (∀ c, (c < 44 ∨ 69 < c) → I' c = I c) ∧ ∀ y : Int, 0 ≤ y → y < f 1 → I' 59 y = hh f (y.toNat + 1)) := by
  refine mt_enterI (own := RX4) (ls0 := [vr 58, vr 1, vr 43, vu, vu, vu, vu]) rfl (by decide +kernel) (Nat.le_of_ble_eq_true rfl) rfl rfl (fun J hJ hR => ?_)
  have hn := hw.nv
  have hy := hw.ny
  have hd := hw.dm
  have hH := dhold_bd hw
  obtain ⟨H, eH⟩ : ∃ H, dhold f = H := ⟨_, rfl⟩
  rw [eH] at hH
  have hLN : ∀ {I1 : Ints}, (∀ c, (c < 44 ∨ 69 < c) → I1 c = I c) → LN I1 f := fun hf => LN.same hw hl (fun c c1 c2 => hf c (by omega))
  -- what is held behind each year
  have LH : ∀ (m y : Nat) (I1 : Ints) (b1 : Bool), ((y + m : Nat) : Int) = f 1 → (∀ c, (c < 44 ∨ 69 < c) → I1 c = I c) → I1 (lt_ b1) 0 = (kt f (f 1).toNat 0).1 → (∀ y' : Int, 0 ≤ y' → y' < f 1 → ∀ a, 0 ≤ a → a ≤ H → I1 (61 + y'.toNat) a = (kt f (f 1 - y').toNat a).2) → (∀ u : Int, 0 ≤ u → u < y → I1 59 u = hh f (u.toNat + 1)) →
      J 144 [vr 58, vr 1, vr 43, vi H, vi (hh f y), vi y, vu] [] (mk I1 b1) := by
    intro m
    induction m with
    | zero =>
      intro y I1 b1 ym hf hL hC hB
      have hl1 := hLN hf
      have r2 := RR2 b1
      have s2 := S_lt b1
      refine mj_iload hJ dX4_storeBest_144 rfl ?_
      refine mj_aload_n hJ dX4_storeBest_146 rfl ?_
      refine mk_getI (j' := 3) hJ dX4_storeBest_147 fw_X4_44 rfl (by decide) rfl rfl ?_
      rw [hl1.1.2.1]
      refine mj_icmp_ge (tgt := 180) hJ dX4_storeBest_150 (by decide) (fun _ => ?_) (fun hno => absurd (by omega) hno)
      refine mj_aload_n hJ dX4_storeBest_180 rfl ?_
      refine mk_getR hJ dX4_storeBest_181 fw_X4_20 rfl (by decide) rfl (by assumption) ?_
      refine mj_iconst hJ dX4_storeBest_184 (by decide) ?_
      refine mk_iald hJ dX4_storeBest_185 (by assumption) (by omega) (by omega) ?_
      rw [hL]
      refine hR _ _ _ _ _ dX4_storeBest_186 nar_i ⟨rfl, hf, fun u x y1 => hB u x (by omega)⟩
    | succ m ih =>
      intro y I1 b1 ym hf hL hC hB
      have hl1 := hLN hf
      have le := lt_et b1
      have hb := hh_bd hw y (by omega)
      rw [eH] at hb
      have hc := hC y (by omega) (by omega) (hh f y) hb.1 hb.2
      have eh : hh f (y + 1) = (kt f (f 1 - y).toNat (hh f y)).2 := rfl
      rw [← eh] at hc
      refine mj_iload hJ dX4_storeBest_144 rfl ?_
      refine mj_aload_n hJ dX4_storeBest_146 rfl ?_
      refine mk_getI (j' := 3) hJ dX4_storeBest_147 fw_X4_44 rfl (by decide) rfl rfl ?_
      rw [hl1.1.2.1]
      refine mj_icmp_ge (tgt := 180) hJ dX4_storeBest_150 (by decide) (fun hyes => absurd hyes (by omega)) (fun _ => ?_)
      refine mj_aload_n hJ dX4_storeBest_153 rfl ?_
      refine mk_getR hJ dX4_storeBest_154 fw_X4_17 rfl (by decide) rfl rfl ?_
      refine mj_iload hJ dX4_storeBest_157 rfl ?_
      refine mk_aald hJ dX4_storeBest_159 rfl (Or.inl rfl) (by omega) (by omega) (gr_60 (by omega) (by omega)).1 ?_
      refine mj_iload hJ dX4_storeBest_160 rfl ?_
      refine mk_iald hJ dX4_storeBest_162 (gr_60 (b := true) (by omega) (by omega)).2 (by omega) (by omega) ?_
      rw [hc]
      refine ms_istore (ls' := [_, _, _, _, _, _, _]) hJ dX4_storeBest_163 (by decide) rfl rfl ?_
      refine mj_aload_n hJ dX4_storeBest_165 rfl ?_
      refine mk_getR hJ dX4_storeBest_166 fw_X4_9 rfl (by decide) rfl rfl ?_
      refine mj_iload hJ dX4_storeBest_169 rfl ?_
      refine mj_iload hJ dX4_storeBest_171 rfl ?_
      refine mk_iast hJ dX4_storeBest_173 rfl (by omega) (by omega) ?_
      refine ms_iinc (ls' := [_, _, _, _, _, _, _]) hJ dX4_storeBest_174 rfl (by decide) rfl (wr_id (by omega)) rfl ?_
      refine mj_goto (tgt := 144) hJ dX4_storeBest_177 (by decide) ?_
      rw [show (y : Int) + 1 = ((y + 1 : Nat) : Int) by omega]
      refine ih (y + 1) _ b1 (by omega) (fun c hc2 => by rw [upI_ne (by omega)]; exact hf c hc2) (by rw [upI_ne (by omega)]; exact hL) (fun y' x0 x1 a a0 a1 => by rw [upI_ne (by omega)]; exact hC y' x0 x1 a a0 a1) (fun u x y1 => ?_)
      rw [upI_at]
      by_cases e : u = y
      · subst e
        rw [if_pos rfl, Int.toNat_natCast]
      · rw [if_neg e]
        exact hB u x (by omega)
  -- year by year, from the last one
  have LY : ∀ (m n : Nat) (I1 : Ints) (b1 : Bool), ((n + m : Nat) : Int) = f 1 → (∀ c, (c < 44 ∨ 69 < c) → I1 c = I c) → (∀ i, 0 ≤ i → i ≤ H → I1 (lt_ b1) i = (kt f n i).1) → (∀ y' : Int, f 1 - n ≤ y' → y' < f 1 → ∀ a, 0 ≤ a → a ≤ H → I1 (61 + y'.toNat) a = (kt f (f 1 - y').toNat a).2) →
      J 32 [vr 58, vr 1, vr 43, vi H, vi (f 1 - 1 - n), vu, vu] [] (mk I1 b1) := by
    intro m
    induction m with
    | zero =>
      intro n I1 b1 nm hf hL hC
      refine mj_iload hJ dX4_storeBest_32 rfl ?_
      refine mj_if_lt (tgt := 138) hJ dX4_storeBest_34 (by decide) (fun _ => ?_) (fun hno => absurd (by omega) hno)
      refine mj_iconst hJ dX4_storeBest_138 (by decide) ?_
      refine ms_istore (ls' := [_, _, _, _, _, _, _]) hJ dX4_storeBest_139 (by decide) rfl rfl ?_
      refine mj_iconst hJ dX4_storeBest_141 (by decide) ?_
      refine ms_istore (ls' := [_, _, _, _, _, _, _]) hJ dX4_storeBest_142 (by decide) rfl rfl ?_
      exact LH (f 1).toNat 0 I1 b1 (by omega) hf (by rw [hL 0 (by omega) (by omega), show (f 1).toNat = n by omega]) (fun y' x0 x1 => hC y' (by omega) x1) (fun u x y1 => by omega)
    | succ m ih =>
      intro n I1 b1 nm hf hL hC
      have hl1 := hLN hf
      obtain ⟨y, ey⟩ : ∃ y, f 1 - 1 - (n : Int) = y := ⟨_, rfl⟩
      have wt := hw.wet (y := y) (by omega) (by omega)
      have e16 := hl1.2.2.2 y (by omega) (by omega)
      obtain ⟨w, hwe⟩ : ∃ w, f (118 + y) = w := ⟨_, rfl⟩
      rw [hwe] at wt e16
      rw [ey]
      refine mj_iload hJ dX4_storeBest_32 rfl ?_
      refine mj_if_lt (tgt := 138) hJ dX4_storeBest_34 (by decide) (fun hyes => absurd hyes (by omega)) (fun _ => ?_)
      refine mj_aload_n hJ dX4_storeBest_37 rfl ?_
      refine mj_aload_n hJ dX4_storeBest_38 rfl ?_
      refine mj_aload_n hJ dX4_storeBest_39 rfl ?_
      refine mk_getR hJ dX4_storeBest_40 fw_X4_47 rfl (by decide) rfl rfl ?_
      refine mj_iload hJ dX4_storeBest_43 rfl ?_
      refine mk_iald hJ dX4_storeBest_45 rfl (by omega) (by omega) ?_
      rw [e16]
      refine mk_Vv2 hJ dX4_storeBest_46 cw_X4_50 rfl rfl rfl rfl (Nat.le_of_ble_eq_true rfl) (by first | decide | omega) (c_X7_fill hw hl1 w wt.1 wt.2) (fun I2 b2 hq9 => ?_)
      obtain ⟨rfl, hf2, h44⟩ := hq9
      have hf2' : ∀ c, (c < 44 ∨ 69 < c) → I2 c = I c := fun c hc => (hf2 c (by omega)).trans (hf c hc)
      have hl2 := hLN hf2'
      have hL2 : ∀ i, 0 ≤ i → i ≤ H → I2 (lt_ b2) i = (kt f n i).1 := fun i i0 i1 => by rw [hf2 (lt_ b2) (by have := lt_et b2; omega)]; exact hL i i0 i1
      have hC2 : ∀ y' : Int, f 1 - n ≤ y' → y' < f 1 → ∀ a, 0 ≤ a → a ≤ H → I2 (61 + y'.toNat) a = (kt f (f 1 - y').toNat a).2 := fun y' x0 x1 a a0 a1 => by rw [hf2 _ (by omega)]; exact hC y' x0 x1 a a0 a1
      have K69 : J 69 [vr 58, vr 1, vr 43, vi H, vi y, vu, vu] [vi (dinf f w)] (mk I2 b2) := by
        have eQ0 : 0 ≤ dinf f w ∧ dinf f w ≤ 24 := by
          by_cases c : f 4 < 0
          · have : dinf f w = 0 := if_pos c
            omega
          · have : dinf f w = infl f w (f 4) := if_neg c
            rw [this]
            exact infl_bd hw (by omega) (by omega) wt.1 wt.2
        have hFB := c_X4_fillBests (G := G) (b := b2) hw hl2 w wt.1 wt.2 h44
        have hks := fun a a0 a1 => kt_scan hw n (by omega) (a := a) (w := w) (by rw [ey]; exact hwe) a0 a1
        rw [eH] at hFB hks
        obtain ⟨Q, eQ⟩ : ∃ Q, dinf f w = Q := ⟨_, rfl⟩
        rw [eQ] at hFB hks eQ0 ⊢
        refine ms_istore (ls' := [_, _, _, _, _, _, _]) hJ dX4_storeBest_69 (by decide) rfl rfl ?_
        refine mj_aload_n hJ dX4_storeBest_71 rfl ?_
        refine mj_aload_n hJ dX4_storeBest_72 rfl ?_
        refine mj_aload_n hJ dX4_storeBest_73 rfl ?_
        refine mj_iload hJ dX4_storeBest_74 rfl ?_
        refine mj_iload_n hJ dX4_storeBest_76 rfl ?_
        refine mk_Vv4 hJ dX4_storeBest_77 cw_X4_58 rfl rfl rfl rfl (Nat.le_of_ble_eq_true rfl) (by first | decide | omega) (hFB) (fun I3 b3 hq9 => ?_)
        obtain ⟨rfl, hf3, h69⟩ := hq9
        have le := lt_et b3
        have hf3' : ∀ c, (c < 44 ∨ 69 < c) → I3 c = I c := fun c hc => (hf3 c (by omega) (by omega)).trans (hf2' c hc)
        have LA : ∀ (m2 : Nat) (a : Int) (I4 : Ints), 0 ≤ a → a + m2 = H + 1 → (∀ c, (c < 44 ∨ 69 < c) → I4 c = I c) → (∀ i, 0 ≤ i → i ≤ H → I4 (lt_ b3) i = (kt f n i).1) → (∀ more : Int, -H ≤ more → more ≤ H → 0 ≤ Q + more → I4 69 (4 + more) = yb f w more) →
            (∀ y' : Int, f 1 - n ≤ y' → y' < f 1 → ∀ a, 0 ≤ a → a ≤ H → I4 (61 + y'.toNat) a = (kt f (f 1 - y').toNat a).2) → (∀ a', 0 ≤ a' → a' < a → I4 (et_ b3) a' = (kt f (n + 1) a').1 ∧ I4 (61 + y.toNat) a' = (kt f (n + 1) a').2) →
            J 83 [vr 58, vr 1, vr 43, vi H, vi y, vi Q, vi a] [] (mk I4 b3) := by
          intro m2
          induction m2 with
          | zero =>
            intro a I4 a0 am g1 g2 g3 g4 g5
            have r2 := RR2 b3
            have r3 := RR3 b3
            refine mj_iload hJ dX4_storeBest_83 rfl ?_
            refine mj_iload_n hJ dX4_storeBest_85 rfl ?_
            refine mj_icmp_gt (tgt := 112) hJ dX4_storeBest_86 (by decide) (fun _ => ?_) (fun hno => absurd (by omega) hno)
            refine mj_aload_n hJ dX4_storeBest_112 rfl ?_
            refine mk_getR hJ dX4_storeBest_113 fw_X4_20 rfl (by decide) rfl (by assumption) ?_
            refine ms_astore (ls' := [_, _, _, _, _, _, _]) hJ dX4_storeBest_116 (by decide) rfl rfl ?_
            refine mj_aload_n hJ dX4_storeBest_118 rfl ?_
            refine mj_aload_n hJ dX4_storeBest_119 rfl ?_
            refine mk_getR hJ dX4_storeBest_120 fw_X4_23 rfl (by decide) rfl (by assumption) ?_
            refine mj_putR hJ dX4_storeBest_123 fw_X4_20 rfl (by decide) rfl ?_
            refine mj_aload_n hJ dX4_storeBest_126 rfl ?_
            refine mj_aload hJ dX4_storeBest_127 rfl ?_
            refine mj_putR hJ dX4_storeBest_129 fw_X4_23 rfl (by decide) rfl ?_
            show J _ _ _ (I4, upR (upR (RR b3) 58 2 (some (et_ b3))) 58 3 (some (lt_ b3)), S0)
            rw [RR_swap]
            refine ms_iinc (ls' := [_, _, _, _, _, _, _]) hJ dX4_storeBest_132 rfl (by decide) rfl (wr_id (by omega)) rfl ?_
            refine mj_goto (tgt := 32) hJ dX4_storeBest_135 (by decide) ?_
            refine mj_drop (ls' := [_, _, _, _, _, vu, vu]) hJ ⟨Or.inl rfl, Or.inl rfl, Or.inl rfl, Or.inl rfl, Or.inl rfl, Or.inr rfl, Or.inr rfl, trivial⟩ ?_
            rw [show y + -1 = f 1 - 1 - ((n + 1 : Nat) : Int) by omega]
            refine ih (n + 1) I4 (!b3) (by omega) g1 (fun i i0 i1 => ?_) (fun y' x0 x1 a' q0 q1 => ?_)
            · rw [(lt_not b3).1]
              exact (g5 i i0 (by omega)).1
            · by_cases e : y' = y
              · subst e
                rw [show (f 1 - y').toNat = n + 1 by omega]
                exact (g5 a' q0 (by omega)).2
              · exact g4 y' (by omega) x1 a' q0 q1
          | succ m2 ih2 =>
            intro a I4 a0 am g1 g2 g3 g4 g5
            have mb0 : 0 ≤ min H (Q + a) ∧ min H (Q + a) ≤ H ∧ min H (Q + a) ≤ Q + a := by omega
            refine mj_iload hJ dX4_storeBest_83 rfl ?_
            refine mj_iload_n hJ dX4_storeBest_85 rfl ?_
            refine mj_icmp_gt (tgt := 112) hJ dX4_storeBest_86 (by decide) (fun hyes => absurd hyes (by omega)) (fun _ => ?_)
            refine mj_aload_n hJ dX4_storeBest_89 rfl ?_
            refine mj_iload hJ dX4_storeBest_90 rfl ?_
            refine mj_iload hJ dX4_storeBest_92 rfl ?_
            refine mj_iload_n hJ dX4_storeBest_94 rfl ?_
            refine mj_iload hJ dX4_storeBest_95 rfl ?_
            refine mj_iload hJ dX4_storeBest_97 rfl ?_
            first | refine ms_iadd hJ dX4_storeBest_99 (by omega) ?_ | refine mj_iadd hJ dX4_storeBest_99 ?_
            refine mk_Sp2 hJ dX4_storeBest_100 cw_X4_62 rfl (Nat.le_of_ble_eq_true rfl) (by first | decide | omega) (c_min H (Q + a)) ?_
            have hch := c_X4_choose (G := G) (I := I4) (b := b3) y a (min H (Q + a)) (fun i => (kt f n i).1) (fun i => yb f w (a - i)) (by omega) (by omega) a0 (by omega) mb0.1 (by omega) (fun i i0 i1 => ⟨g2 i i0 (by omega), by have := (kt_bd hw n i (by omega) i0 (by omega)).1; omega⟩) (fun i i0 i1 => ⟨by rw [show 4 + a - i = 4 + (a - i) by omega]; exact g3 (a - i) (by omega) (by omega) (by omega), by have := yb_bd hw (w := w) (more := a - i) wt.1 wt.2 (by omega) (by omega); omega⟩)
            rw [hks a a0 (by omega)] at hch
            refine mk_Vv3 hJ dX4_storeBest_103 cw_X4_68 rfl rfl rfl rfl (Nat.le_of_ble_eq_true rfl) (by first | decide | omega) (hch) (fun I5 b5 hq9 => ?_)
            obtain ⟨rfl, k1, k2, k3, k4⟩ := hq9
            refine ms_iinc (ls' := [_, _, _, _, _, _, _]) hJ dX4_storeBest_106 rfl (by decide) rfl (wr_id (by omega)) rfl ?_
            refine mj_goto (tgt := 83) hJ dX4_storeBest_109 (by decide) ?_
            refine ih2 (a + 1) I5 (by omega) (by omega) (fun c hc => by rw [k1 c (by omega) (by omega)]; exact g1 c hc) (fun i i0 i1 => by rw [k1 _ (by omega) (by omega)]; exact g2 i i0 i1) (fun more x0 x1 x2 => by rw [k1 69 (by omega) (by omega)]; exact g3 more x0 x1 x2) (fun y' x0 x1 a' q0 q1 => by rw [k1 _ (by omega) (by omega)]; exact g4 y' x0 x1 a' q0 q1) (fun a' q0 q1 => ?_)
            by_cases e : a' = a
            · subst e
              exact ⟨k3, k4⟩
            · rw [(k2 a' e).1, (k2 a' e).2]
              exact g5 a' q0 (by omega)
        refine mj_iconst hJ dX4_storeBest_80 (by decide) ?_
        refine ms_istore (ls' := [_, _, _, _, _, _, _]) hJ dX4_storeBest_81 (by decide) rfl rfl ?_
        exact LA (H + 1).toNat 0 I3 (Int.le_refl _) (by omega) hf3' (fun i i0 i1 => by rw [hf3 _ (by omega) (by omega)]; exact hL2 i i0 i1) h69 (fun y' x0 x1 a a0 a1 => by rw [hf3 _ (by omega) (by omega)]; exact hC2 y' x0 x1 a a0 a1) (fun a' q0 q1 => by omega)
      refine mj_aload_n hJ dX4_storeBest_49 rfl ?_
      refine mk_getI (j' := 5) hJ dX4_storeBest_50 fw_X4_29 rfl (by decide) rfl rfl ?_
      rw [hl2.1.2.2.1]
      refine mj_if_ge (tgt := 60) hJ dX4_storeBest_53 (by decide) (fun hdm => ?_) (fun hdm => ?_)
      · have eq : dinf f w = infl f w (f 4) := if_neg (by omega)
        rw [eq] at K69
        refine mj_aload_n hJ dX4_storeBest_60 rfl ?_
        refine mk_getR hJ dX4_storeBest_61 fw_X4_55 rfl (by decide) rfl rfl ?_
        refine mj_aload_n hJ dX4_storeBest_64 rfl ?_
        refine mk_getI (j' := 5) hJ dX4_storeBest_65 fw_X4_29 rfl (by decide) rfl rfl ?_
        rw [hl2.1.2.2.1]
        refine mk_iald hJ dX4_storeBest_68 rfl (by omega) (by omega) ?_
        rw [h44 (f 4) (by omega) (by omega)]
        exact K69
      · have eq : dinf f w = 0 := if_pos (by omega)
        rw [eq] at K69
        refine mj_iconst hJ dX4_storeBest_56 (by decide) ?_
        refine mj_goto (tgt := 69) hJ dX4_storeBest_57 (by decide) ?_
        exact K69
  have K15 : J 15 [vr 58, vr 1, vr 43, vu, vu, vu, vu] [vi H] (mk I b) := by
    have r2 := RR2 b
    have s2 := S_lt b
    refine ms_istore_n (ls' := [_, _, _, _, _, _, _]) hJ dX4_storeBest_15 (by decide) rfl rfl ?_
    refine mj_aload_n hJ dX4_storeBest_16 rfl ?_
    refine mk_getR hJ dX4_storeBest_17 fw_X4_20 rfl (by decide) rfl (by assumption) ?_
    refine mj_iconst hJ dX4_storeBest_20 (by decide) ?_
    refine mk_Sv2 hJ dX4_storeBest_21 cw_X4_38 rfl (Nat.le_of_ble_eq_true rfl) (by first | decide | omega) (c_fill (lt_ b) 5 0 (S_lt b) (by decide)) (fun I1 b1 hq9 => ?_)
    obtain ⟨rfl, e1⟩ := hq9
    have le := lt_et b1
    have hf1 : ∀ c, (c < 44 ∨ 69 < c) → I1 c = I c := fun c hc => by rw [e1, rowI_ne (by omega)]
    refine mj_aload_n hJ dX4_storeBest_24 rfl ?_
    refine mk_getI (j' := 3) hJ dX4_storeBest_25 fw_X4_44 rfl (by decide) rfl rfl ?_
    rw [(hLN hf1).1.2.1]
    refine mj_iconst hJ dX4_storeBest_28 (by decide) ?_
    first | refine ms_isub hJ dX4_storeBest_29 (by omega) ?_ | refine mj_isub hJ dX4_storeBest_29 ?_
    refine ms_istore (ls' := [_, _, _, _, _, _, _]) hJ dX4_storeBest_30 (by decide) rfl rfl ?_
    have key := LY (f 1).toNat 0 I1 b1 (by omega) hf1 (fun i i0 i1 => by rw [e1, rowI_at, if_pos (by omega)]; rfl) (fun y' x0 x1 => by omega)
    rw [show f 1 - 1 - ((0 : Nat) : Int) = f 1 - 1 by omega] at key
    exact key
  refine mj_aload_n hJ dX4_storeBest_0 rfl ?_
  refine mk_getI (j' := 5) hJ dX4_storeBest_1 fw_X4_29 rfl (by decide) rfl rfl ?_
  rw [hl.1.2.2.1]
  refine mj_if_ge (tgt := 11) hJ dX4_storeBest_4 (by decide) (fun hdm => ?_) (fun hdm => ?_)
  · have eh : H = f 5 := by rw [← eH]; exact if_neg (by omega)
    refine mj_aload_n hJ dX4_storeBest_11 rfl ?_
    refine mk_getI (j' := 6) hJ dX4_storeBest_12 fw_X4_35 rfl (by decide) rfl rfl ?_
    rw [hl.1.2.2.2, ← eh]
    exact K15
  · have eh : H = 0 := by rw [← eH]; exact if_pos (by omega)
    rw [eh] at K15
    refine mj_iconst hJ dX4_storeBest_7 (by decide) ?_
    refine mj_goto (tgt := 15) hJ dX4_storeBest_8 (by decide) ?_
    exact K15
theorem c_kept (hw : WN (N 112)) (hl : LN I (N 112)) (y : Int) : MtI G yX8_kept cX8_kept 3 (some .int) 6 [vr 0, vi y] I b (Xs I (F_kept N y)) := by
  refine mt_enterI (own := RX8) (ls0 := [vr 0, vi y, vu]) rfl (by decide +kernel) (Nat.le_of_ble_eq_true rfl) rfl rfl (fun J hJ hR => ?_)
  have hy := hw.ny
  have e0 := hl.1.2.1
  unfold F_kept at hR
  have K16 : (-1 ≤ y ∧ y < N 112 1) → J 16 [vr 0, vi y, vu] [] (mk I b) := by
    intro h
    rw [if_pos h] at hR
    refine mj_aload_n hJ dX8_kept_16 rfl ?_
    refine mk_getR hJ dX8_kept_17 fw_X8_33 rfl (by decide) rfl rfl ?_
    refine mj_aload_n hJ dX8_kept_20 rfl ?_
    refine mk_getR hJ dX8_kept_21 fw_X8_12 rfl (by decide) rfl rfl ?_
    refine mj_aload_n hJ dX8_kept_24 rfl ?_
    refine mk_getR hJ dX8_kept_25 fw_X8_26 rfl (by decide) rfl rfl ?_
    refine mk_Vi2 hJ dX8_kept_28 cw_X8_200 rfl rfl rfl rfl (Nat.le_of_ble_eq_true rfl) (by first | decide | omega) (c_X4_storeBest hw hl) (fun z I1 b1 hq9 => ?_)
    obtain ⟨rfl, hf, hB⟩ := hq9
    have hS : SmC I I1 := fun c hc => hf c (by omega)
    refine ms_istore_n (ls' := [_, _, _]) hJ dX8_kept_31 (by decide) rfl rfl ?_
    refine mj_iload_n hJ dX8_kept_32 rfl ?_
    refine mj_iconst hJ dX8_kept_33 (by decide) ?_
    refine mj_icmp_ne (tgt := 41) hJ dX8_kept_34 (by decide) (fun h2 => ?_) (fun h2 => ?_)
    · rw [if_neg (by omega)] at hR
      refine mj_aload_n hJ dX8_kept_41 rfl ?_
      refine mk_getR hJ dX8_kept_42 fw_X8_33 rfl (by decide) rfl rfl ?_
      refine mk_getR hJ dX8_kept_45 fw_X8_204 rfl (by decide) rfl rfl ?_
      refine mj_iload_n hJ dX8_kept_48 rfl ?_
      refine mk_iald hJ dX8_kept_49 rfl (by omega) (by omega) ?_
      rw [hB y (by omega) (by omega)]
      exact hR _ _ _ _ _ dX8_kept_50 nar_i ⟨rfl, hS⟩
    · rw [if_pos (by omega)] at hR
      refine mj_iload_n hJ dX8_kept_37 rfl ?_
      refine mj_goto (tgt := 50) hJ dX8_kept_38 (by decide) ?_
      exact hR _ _ _ _ _ dX8_kept_50 nar_i ⟨rfl, hS⟩
  refine mj_iload_n hJ dX8_kept_0 rfl ?_
  refine mj_iconst hJ dX8_kept_1 (by decide) ?_
  refine mj_icmp_eq (tgt := 16) hJ dX8_kept_2 (by decide) (fun h1 => ?_) (fun h1 => ?_)
  · exact K16 (by omega)
  · refine mj_aload_n hJ dX8_kept_5 rfl ?_
    refine mj_iload_n hJ dX8_kept_6 rfl ?_
    refine mk_Vp1 hJ dX8_kept_7 cw_X8_191 rfl rfl rfl rfl (Nat.le_of_ble_eq_true rfl) (by first | decide | omega) (c_isYear y (by rw [e0]; exact hy.1) (by rw [e0]; exact hy.2)) ?_
    rw [e0]
    by_cases h : 0 ≤ y ∧ y < N 112 1
    · rw [if_pos h]
      refine mj_if_ne (tgt := 16) hJ dX8_kept_10 (by decide) (fun _ => ?_) (fun hno => absurd hno (by decide))
      exact K16 (by omega)
    · rw [if_neg h]
      rw [if_neg (by omega)] at hR
      refine mj_if_ne (tgt := 16) hJ dX8_kept_10 (by decide) (fun hyes => absurd (by decide) hyes) (fun _ => ?_)
      refine mj_ldc (z := -1000001) hJ dX8_kept_13 (by decide) ct_X8_138 ?_
      exact hR _ _ _ _ _ dX8_kept_15 nar_i ⟨rfl, SmC.rfl'⟩
end C8
