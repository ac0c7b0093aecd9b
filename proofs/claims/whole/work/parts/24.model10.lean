section M10
variable {G : GE} {I : Ints} {b : Bool}
theorem c_X9_findYear (y : Int) (hw : WN (I 112)) (y0 : 0 ≤ y) (y1 : y < 6) : MtV G yX9_findYear cX9_findYear 4 4 [vr 111, vi y] I b (fun I' b' => b' = b ∧ (∀ c, (c < 114 ∨ (117 ≤ c ∧ c ≠ 125 ∧ c ≠ 126)) → I' c = I c) ∧ ∀ more : Int, -(I 112 5) ≤ more → more ≤ I 112 5 → I' 125 (more + 4) = yb (I 112) (I 112 (118 + y)) more ∧ I' 126 (more + 4) = if okm (I 112) (I 112 (118 + y)) more then 1 else 0) := by
  refine mt_enterV (own := RX9) (ls0 := [vr 111, vi y, vu, vu]) rfl (by decide +kernel) (Nat.le_of_ble_eq_true rfl) rfl (fun J hJ hR => ?_)
  have hn := hw.nv
  have hd := hw.dm
  have hwt := hw.wet y0 y1
  have loop : ∀ (m : Nat) (k : Int) (I1 : Ints), -(I 112 5) ≤ k → k + m = I 112 5 + 1 → (∀ c, (c < 114 ∨ (117 ≤ c ∧ c ≠ 125 ∧ c ≠ 126)) → I1 c = I c) → (∀ more : Int, -(I 112 5) ≤ more → more < k → I1 125 (more + 4) = yb (I 112) (I 112 (118 + y)) more ∧ I1 126 (more + 4) = if okm (I 112) (I 112 (118 + y)) more then 1 else 0) → J 8 [vr 111, vi y, vi k, vu] [] (mk I1 b) := by
    intro m
    induction m with
    | zero =>
      intro k I1 k0 km hf hB
      have e112 := hf 112 (by omega)
      refine mj_iload_n hJ dX9_findYear_8 rfl ?_
      refine mj_aload_n hJ dX9_findYear_9 rfl ?_
      refine mk_getR hJ dX9_findYear_10 fw_X9_9 rfl (by decide) rfl rfl ?_
      refine mj_iconst hJ dX9_findYear_13 (by decide) ?_
      refine mk_iald hJ dX9_findYear_14 rfl (by omega) (by omega) ?_
      rw [e112]
      refine mj_icmp_gt (tgt := 131) hJ dX9_findYear_15 (by decide) (fun _ => ?_) (fun hno => absurd (by omega) hno)
      exact hR _ _ _ _ dX9_findYear_131 ⟨rfl, hf, fun more m0 m1 => hB more m0 (by omega)⟩
    | succ m ih =>
      intro k I1 k0 km hf hB
      have e112 := hf 112 (by omega)
      refine mj_iload_n hJ dX9_findYear_8 rfl ?_
      refine mj_aload_n hJ dX9_findYear_9 rfl ?_
      refine mk_getR hJ dX9_findYear_10 fw_X9_9 rfl (by decide) rfl rfl ?_
      refine mj_iconst hJ dX9_findYear_13 (by decide) ?_
      refine mk_iald hJ dX9_findYear_14 rfl (by omega) (by omega) ?_
      rw [e112]
      refine mj_icmp_gt (tgt := 131) hJ dX9_findYear_15 (by decide) (fun hyes => absurd hyes (by omega)) (fun _ => ?_)
      refine mj_aload_n hJ dX9_findYear_18 rfl ?_
      refine mk_getR hJ dX9_findYear_19 fw_X9_9 rfl (by decide) rfl rfl ?_
      refine mj_iconst hJ dX9_findYear_22 (by decide) ?_
      refine mk_iald hJ dX9_findYear_23 rfl (by omega) (by omega) ?_
      rw [e112]
      refine ms_istore_n (ls' := [_, _, _, _]) hJ dX9_findYear_24 (by decide) rfl rfl ?_
      refine mj_aload_n hJ dX9_findYear_25 rfl ?_
      refine mj_aload_n hJ dX9_findYear_26 rfl ?_
      refine mk_getR hJ dX9_findYear_27 fw_X9_9 rfl (by decide) rfl rfl ?_
      refine mj_bipush hJ dX9_findYear_30 (by decide) ?_
      refine mj_iload_n hJ dX9_findYear_32 rfl ?_
      first | refine ms_iadd hJ dX9_findYear_33 (by omega) ?_ | refine mj_iadd hJ dX9_findYear_33 ?_
      refine mk_iald hJ dX9_findYear_34 rfl (by omega) (by omega) ?_
      rw [e112]
      have hF := c_X9_flows (G := G) (I := I1) (b := b) (I 112 (118 + y)) (by rw [e112]; exact hw) hwt.1 hwt.2
      rw [e112] at hF
      refine mk_Vv1 hJ dX9_findYear_35 cw_X9_129 rfl rfl rfl rfl (Nat.le_of_ble_eq_true rfl) (by decide) (hF) (fun I2 b2 hq9 => ?_)
      obtain ⟨rfl, hf2, hq2⟩ := hq9
      have e112' : I2 112 = I 112 := (hf2 112 (by decide)).trans e112
      refine mj_aload_n hJ dX9_findYear_38 rfl ?_
      refine mk_getR hJ dX9_findYear_39 fw_X9_52 rfl (by decide) rfl rfl ?_
      refine mj_iload_n hJ dX9_findYear_42 rfl ?_
      refine mj_iconst hJ dX9_findYear_43 (by decide) ?_
      first | refine ms_iadd hJ dX9_findYear_44 (by omega) ?_ | refine mj_iadd hJ dX9_findYear_44 ?_
      refine mj_iload_n hJ dX9_findYear_45 rfl ?_
      -- what is behind the place where the flow stands
      have K91 : ∀ I3 : Ints, (∀ c, (c < 114 ∨ (117 ≤ c ∧ c ≠ 125 ∧ c ≠ 126)) → I3 c = I c) → (∀ more : Int, -(I 112 5) ≤ more → more < k → I3 125 (more + 4) = yb (I 112) (I 112 (118 + y)) more ∧ I3 126 (more + 4) = if okm (I 112) (I 112 (118 + y)) more then 1 else 0) → (I3 126 (k + 4) = if okm (I 112) (I 112 (118 + y)) k then 1 else 0) → (∀ v, 0 ≤ v → v < I 112 0 → I3 116 v = qd (I 112) (I 112 (118 + y)) k v) → J 91 [vr 111, vi y, vi k, vi (I 112 4)] [] (mk I3 b2) := by
        intro I3 hf3 hB3 hc3 hq3
        have e3 := hf3 112 (by omega)
        have K124 : ∀ I4 : Ints, (∀ c, c ≠ 114 → c ≠ 115 → I4 c = I3 c) → J 124 [vr 111, vi y, vi k, vi (I 112 4)] [vi (yb (I 112) (I 112 (118 + y)) k), vi (k + 4), vr 125] (mk I4 b2) := by
          intro I4 g
          refine mk_iast hJ dX9_findYear_124 rfl (by omega) (by omega) ?_
          refine ms_iinc (ls' := [_, _, _, _]) hJ dX9_findYear_125 rfl (by decide) rfl (wr_id (by omega)) rfl ?_
          refine mj_goto (tgt := 8) hJ dX9_findYear_128 (by decide) ?_
          refine mj_drop (ls' := [_, _, _, vu]) hJ ⟨Or.inl rfl, Or.inl rfl, Or.inl rfl, Or.inr rfl, trivial⟩ ?_
          refine ih (k + 1) _ (by omega) (by omega) (fun c hc => by rw [upI_ne (by omega), g c (by omega) (by omega)]; exact hf3 c hc) (fun more m0 m1 => ?_)
          rw [upI_at, upI_ne (by decide), g 125 (by decide) (by decide), g 126 (by decide) (by decide)]
          by_cases e : more = k
          · subst e
            rw [if_pos rfl]
            exact ⟨rfl, hc3⟩
          · rw [if_neg (by omega)]
            exact hB3 more m0 (by omega)
        refine mj_aload_n hJ dX9_findYear_91 rfl ?_
        refine mk_getR hJ dX9_findYear_92 fw_X9_49 rfl (by decide) rfl rfl ?_
        refine mj_iload_n hJ dX9_findYear_95 rfl ?_
        refine mj_iconst hJ dX9_findYear_96 (by decide) ?_
        first | refine ms_iadd hJ dX9_findYear_97 (by omega) ?_ | refine mj_iadd hJ dX9_findYear_97 ?_
        refine mj_aload_n hJ dX9_findYear_98 rfl ?_
        refine mk_getR hJ dX9_findYear_99 fw_X9_9 rfl (by decide) rfl rfl ?_
        refine mj_iconst hJ dX9_findYear_102 (by decide) ?_
        refine mk_iald hJ dX9_findYear_103 rfl (by omega) (by omega) ?_
        rw [e3]
        refine mj_if_ne (tgt := 111) hJ dX9_findYear_104 (by decide) (fun hz => ?_) (fun hz => ?_)
        · refine mj_aload_n hJ dX9_findYear_111 rfl ?_
          refine mj_iconst hJ dX9_findYear_112 (by decide) ?_
          refine mj_aload_n hJ dX9_findYear_113 rfl ?_
          refine mk_getR hJ dX9_findYear_114 fw_X9_9 rfl (by decide) rfl rfl ?_
          refine mj_iconst hJ dX9_findYear_117 (by decide) ?_
          refine mk_iald hJ dX9_findYear_118 rfl (by omega) (by omega) ?_
          rw [e3]
          refine mj_iconst hJ dX9_findYear_119 (by decide) ?_
          first | refine ms_isub hJ dX9_findYear_120 (by omega) ?_ | refine mj_isub hJ dX9_findYear_120 ?_
          have hq4 : ∀ i : Int, 0 ≤ i → i ≤ I 112 0 - 1 → I3 116 i = qd (I 112) (I 112 (118 + y)) k i := fun i a c => hq3 i a (by omega)
          have hM := c_X9_mostOf (G := G) (I := I3) (b := b2) 0 (I 112 0 - 1) (by rw [e3]; exact hw) (by omega) (by omega) (by omega) (fun i a c => by rw [hq4 i a c]; exact (qd_bd hw hwt.1 hwt.2 (by omega) (by omega) a (by omega)).1) (by rw [sg_congr hq4]; exact qd_sum hw hwt.1 hwt.2 (by omega) (by omega) (by omega))
          rw [e3] at hM
          refine mk_Vi2 hJ dX9_findYear_121 cw_X9_133 rfl rfl rfl rfl (Nat.le_of_ble_eq_true rfl) (by decide) (hM) (fun z I4 b4 hq9 => ?_)
          obtain ⟨hz4, rfl, hf4, -⟩ := hq9
          have ez : z = yb (I 112) (I 112 (118 + y)) k := by
            rw [hz4]
            unfold yb bestq
            rw [if_neg hz, bb_congr (q' := qd (I 112) (I 112 (118 + y)) k) _ _ _ (fun i a c => hq4 i (by omega) (by omega)), hq4 0 (by omega) (by omega), show I 112 0 - 1 - 0 = I 112 0 - 1 by omega]
          rw [ez]
          exact K124 I4 (fun c c1 c2 => hf4 c c1 c2)
        · refine mj_iconst hJ dX9_findYear_107 (by decide) ?_
          refine mj_goto (tgt := 124) hJ dX9_findYear_108 (by decide) ?_
          have ez : yb (I 112) (I 112 (118 + y)) k = 0 := by unfold yb bestq; rw [if_pos (by omega)]
          have := K124 I3 (fun _ _ _ => rfl)
          rw [ez] at this
          exact this
      have fr2 : ∀ c, (c < 114 ∨ (117 ≤ c ∧ c ≠ 125 ∧ c ≠ 126)) → I2 c = I c := fun c hc => (hf2 c (by omega)).trans (hf c hc)
      have B2 : ∀ (x : Int) (more : Int), -(I 112 5) ≤ more → more < k → upI I2 126 (k + 4) x 125 (more + 4) = yb (I 112) (I 112 (118 + y)) more ∧ upI I2 126 (k + 4) x 126 (more + 4) = if okm (I 112) (I 112 (118 + y)) more then 1 else 0 := fun x more m0 m1 => by
        rw [upI_ne (by decide), upI_at, if_neg (by omega), hf2 125 (by decide), hf2 126 (by decide)]
        exact hB more m0 m1
      have yes : okm (I 112) (I 112 (118 + y)) k → J 65 [vr 111, vi y, vi k, vi (I 112 4)] [vi 1, vi (k + 4), vr 126] (mk I2 b2) := by
        intro ok
        refine mk_zast hJ dX9_findYear_65 rfl (by omega) (by omega) (by first | exact Or.inl rfl | exact Or.inr rfl | assumption | omega) ?_
        refine mj_iload_n hJ dX9_findYear_66 rfl ?_
        refine mj_if_lt (tgt := 91) hJ dX9_findYear_67 (by decide) (fun h4 => ?_) (fun h4 => ?_)
        · refine K91 _ (fun c hc => by rw [upI_ne (by omega)]; exact fr2 c hc) (B2 1) (by rw [upI_at, if_pos rfl, if_pos ok]) (fun v v0 v1 => ?_)
          rw [upI_ne (by decide), hq2 v v0 v1]
          unfold qd
          rw [if_neg (fun q => by omega)]
        · refine mj_aload_n hJ dX9_findYear_70 rfl ?_
          refine mk_getR hJ dX9_findYear_71 fw_X9_52 rfl (by decide) rfl rfl ?_
          refine mj_iload_n hJ dX9_findYear_74 rfl ?_
          refine mj_iconst hJ dX9_findYear_75 (by decide) ?_
          first | refine ms_iadd hJ dX9_findYear_76 (by omega) ?_ | refine mj_iadd hJ dX9_findYear_76 ?_
          refine mk_zald hJ dX9_findYear_77 rfl (by omega) (by omega) ?_
          rw [upI_at, if_pos rfl]
          refine mj_if_eq (tgt := 91) hJ dX9_findYear_78 (by decide) (fun hyes => absurd hyes (by decide)) (fun _ => ?_)
          have ifb := infl_bd hw (v := I 112 4) (w := I 112 (118 + y)) (by omega) (by omega) hwt.1 hwt.2
          have ok2 : 0 ≤ infl (I 112) (I 112 (118 + y)) (I 112 4) + k := by
            rcases ok with q | q
            · omega
            · exact q
          refine mj_aload_n hJ dX9_findYear_81 rfl ?_
          refine mk_getR hJ dX9_findYear_82 fw_X9_22 rfl (by decide) rfl rfl ?_
          refine mj_iload_n hJ dX9_findYear_85 rfl ?_
          refine mj_dup2 hJ dX9_findYear_86 ?_
          refine mk_iald hJ dX9_findYear_87 rfl (by omega) (by omega) ?_
          rw [upI_ne (by decide), hq2 (I 112 4) (by omega) (by omega)]
          refine mj_iload_n hJ dX9_findYear_88 rfl ?_
          first | refine ms_iadd hJ dX9_findYear_89 (by omega) ?_ | refine mj_iadd hJ dX9_findYear_89 ?_
          refine mk_iast hJ dX9_findYear_90 rfl (by omega) (by omega) ?_
          refine K91 _ (fun c hc => by rw [upI_ne (by omega), upI_ne (by omega)]; exact fr2 c hc) (fun more m0 m1 => by rw [upI_ne (by decide), upI_ne (by decide)]; exact B2 1 more m0 m1) (by rw [upI_ne (by decide), upI_at, if_pos rfl, if_pos ok]) (fun v v0 v1 => ?_)
          rw [upI_at, upI_ne (by decide), hq2 v v0 v1]
          unfold qd
          by_cases e : v = I 112 4
          · subst e
            rw [if_pos rfl, if_pos ⟨rfl, ok2⟩]
          · rw [if_neg e, if_neg (fun q => e q.1)]
      refine mj_if_lt (tgt := 60) hJ dX9_findYear_46 (by decide) (fun h4 => ?_) (fun h4 => ?_)
      · refine mj_iconst hJ dX9_findYear_60 (by decide) ?_
        refine mj_goto (tgt := 65) hJ dX9_findYear_61 (by decide) ?_
        exact yes (Or.inl (by omega))
      · have ifb := infl_bd hw (v := I 112 4) (w := I 112 (118 + y)) (by omega) (by omega) hwt.1 hwt.2
        refine mj_aload_n hJ dX9_findYear_49 rfl ?_
        refine mk_getR hJ dX9_findYear_50 fw_X9_22 rfl (by decide) rfl rfl ?_
        refine mj_iload_n hJ dX9_findYear_53 rfl ?_
        refine mk_iald hJ dX9_findYear_54 rfl (by omega) (by omega) ?_
        rw [hq2 (I 112 4) (by omega) (by omega)]
        refine mj_iload_n hJ dX9_findYear_55 rfl ?_
        first | refine ms_iadd hJ dX9_findYear_56 (by omega) ?_ | refine mj_iadd hJ dX9_findYear_56 ?_
        refine mj_if_lt (tgt := 64) hJ dX9_findYear_57 (by decide) (fun h5 => ?_) (fun h5 => ?_)
        · have nok : ¬ okm (I 112) (I 112 (118 + y)) k := fun q => by rcases q with q | q <;> omega
          refine mj_iconst hJ dX9_findYear_64 (by decide) ?_
          refine mk_zast hJ dX9_findYear_65 rfl (by omega) (by omega) (by first | exact Or.inl rfl | exact Or.inr rfl | assumption | omega) ?_
          refine mj_iload_n hJ dX9_findYear_66 rfl ?_
          refine mj_if_lt (tgt := 91) hJ dX9_findYear_67 (by decide) (fun hyes => absurd hyes (by omega)) (fun _ => ?_)
          refine mj_aload_n hJ dX9_findYear_70 rfl ?_
          refine mk_getR hJ dX9_findYear_71 fw_X9_52 rfl (by decide) rfl rfl ?_
          refine mj_iload_n hJ dX9_findYear_74 rfl ?_
          refine mj_iconst hJ dX9_findYear_75 (by decide) ?_
          first | refine ms_iadd hJ dX9_findYear_76 (by omega) ?_ | refine mj_iadd hJ dX9_findYear_76 ?_
          refine mk_zald hJ dX9_findYear_77 rfl (by omega) (by omega) ?_
          rw [upI_at, if_pos rfl]
          refine mj_if_eq (tgt := 91) hJ dX9_findYear_78 (by decide) (fun _ => ?_) (fun hno => absurd rfl hno)
          refine K91 _ (fun c hc => by rw [upI_ne (by omega)]; exact fr2 c hc) (B2 0) (by rw [upI_at, if_pos rfl, if_neg nok]) (fun v v0 v1 => ?_)
          rw [upI_ne (by decide), hq2 v v0 v1]
          unfold qd
          rw [if_neg (fun q => by have := q.2; rw [q.1] at this; omega)]
        · refine mj_iconst hJ dX9_findYear_60 (by decide) ?_
          refine mj_goto (tgt := 65) hJ dX9_findYear_61 (by decide) ?_
          exact yes (Or.inr (by omega))
  refine mj_aload_n hJ dX9_findYear_0 rfl ?_
  refine mk_getR hJ dX9_findYear_1 fw_X9_9 rfl (by decide) rfl rfl ?_
  refine mj_iconst hJ dX9_findYear_4 (by decide) ?_
  refine mk_iald hJ dX9_findYear_5 rfl (by omega) (by omega) ?_
  first | refine ms_ineg hJ dX9_findYear_6 (by omega) ?_ | refine mj_ineg hJ dX9_findYear_6 ?_
  refine ms_istore_n (ls' := [_, _, _, _]) hJ dX9_findYear_7 (by decide) rfl rfl ?_
  exact loop (2 * I 112 5 + 1).toNat (-(I 112 5)) I (by omega) (by omega) (fun _ _ => rfl) (fun more m0 m1 => by omega)
/-- what the model's tables hold of the years from y on -/
def kT (f : Int → Int) (I1 : Ints) (y : Int) : Prop :=
  (∀ h : Int, 0 ≤ h → h < 5 → I1 123 (5 * f 1 + h) = 0) ∧ ∀ t : Int, y ≤ t → t < f 1 → ∀ h : Int, 0 ≤ h → h ≤ f 5 → I1 123 (5 * t + h) = (kt f (f 1 - t).toNat h).1 ∧ I1 124 (5 * t + h) = (kt f (f 1 - t).toNat h).2
theorem kT_at {f : Int → Int} (hd : 0 ≤ f 5 ∧ f 5 ≤ 4) {I1 : Ints} {y : Int} (h : kT f I1 y) (h1 : y ≤ f 1) {k : Int} (k0 : 0 ≤ k) (k1 : k ≤ f 5) : I1 123 (5 * y + k) = (kt f (f 1 - y).toNat k).1 := by
  by_cases e : y = f 1
  · subst e
    rw [h.1 k k0 (by omega), Int.sub_self]
    rfl
  · exact (h.2 y (Int.le_refl _) (by omega) k k0 k1).1
theorem c_X9_findKept (hw : WN (I 112)) : MtV G yX9_findKept cX9_findKept 7 5 [vr 111] I b (fun I' b' => b' = b ∧ (∀ c, (c < 114 ∨ 127 ≤ c) → I' c = I c) ∧ kT (I 112) I' 0) := by
  refine mt_enterV (own := RX9) (ls0 := [vr 111, vu, vu, vu, vu, vu, vu]) rfl (by decide +kernel) (Nat.le_of_ble_eq_true rfl) rfl (fun J hJ hR => ?_)
  have hn := hw.nv
  have hy := hw.ny
  have hd := hw.dm
  have L4 : ∀ (y h : Int), 0 ≤ y → y < I 112 1 → 0 ≤ h → h ≤ I 112 5 →
      ∀ (m : Nat) (i : Nat) (best : Int) (I1 : Ints), (i + m : Int) = I 112 5 + 1 → (∀ c, (c < 114 ∨ 127 ≤ c) → I1 c = I c) → kT (I 112) I1 (y + 1) → (∀ more : Int, -(I 112 5) ≤ more → more ≤ I 112 5 → I1 125 (more + 4) = yb (I 112) (I 112 (118 + y)) more ∧ I1 126 (more + 4) = if okm (I 112) (I 112 (118 + y)) more then 1 else 0) →
      (0 < i → best = (scc (fun i => yb (I 112) (I 112 (118 + y)) (h - i) + (kt (I 112) (I 112 1 - (y + 1)).toNat i).1) (fun i => decide (okm (I 112) (I 112 (118 + y)) (h - i))) (i - 1)).1 ∧ I1 124 (5 * y + h) = (scc (fun i => yb (I 112) (I 112 (118 + y)) (h - i) + (kt (I 112) (I 112 1 - (y + 1)).toNat i).1) (fun i => decide (okm (I 112) (I 112 (118 + y)) (h - i))) (i - 1)).2) →
      (∀ I2 : Ints, (∀ c, c ≠ 124 → I2 c = I1 c) → (∀ j, j ≠ 5 * y + h → I2 124 j = I1 124 j) → I2 124 (5 * y + h) = (kt (I 112) (I 112 1 - y).toNat h).2 → J 148 [vr 111, vi (I 112 1), vi y, vi h, vi (kt (I 112) (I 112 1 - y).toNat h).1, vu, vu] [] (mk I2 b)) →
      J 62 [vr 111, vi (I 112 1), vi y, vi h, vi best, vi i, vu] [] (mk I1 b) := by
    intro y h y0 y1 h0 h1 m
    have hwt := hw.wet y0 (show y < 6 by omega)
    have ekt : kt (I 112) (I 112 1 - y).toNat h = scc (fun i => yb (I 112) (I 112 (118 + y)) (h - i) + (kt (I 112) (I 112 1 - (y + 1)).toNat i).1) (fun i => decide (okm (I 112) (I 112 (118 + y)) (h - i))) (I 112 5).toNat := by
      obtain ⟨n, hn⟩ : ∃ n : Nat, I 112 1 - y = n + 1 := ⟨(I 112 1 - y - 1).toNat, by omega⟩
      rw [hn, show (I 112 1 - (y + 1)).toNat = n by omega, show ((n : Int) + 1).toNat = n + 1 by omega]
      show scc _ _ _ = _
      rw [show I 112 1 - 1 - (n : Int) = y by omega]
    induction m with
    | zero =>
      intro i best I1 im hf hT hC hB kk
      have e112 := hf 112 (by omega)
      have hB := hB (by omega)
      rw [show i - 1 = (I 112 5).toNat by omega, ← ekt] at hB
      refine mj_iload hJ dX9_findKept_62 rfl ?_
      refine mj_aload_n hJ dX9_findKept_64 rfl ?_
      refine mk_getR hJ dX9_findKept_65 fw_X9_9 rfl (by decide) rfl rfl ?_
      refine mj_iconst hJ dX9_findKept_68 (by decide) ?_
      refine mk_iald hJ dX9_findKept_69 rfl (by omega) (by omega) ?_
      rw [e112]
      refine mj_icmp_gt (tgt := 148) hJ dX9_findKept_70 (by decide) (fun _ => ?_) (fun hno => absurd (by omega) hno)
      refine mj_drop (ls' := [_, _, _, _, _, vu, vu]) hJ ⟨Or.inl rfl, Or.inl rfl, Or.inl rfl, Or.inl rfl, Or.inl rfl, Or.inr rfl, Or.inr rfl, trivial⟩ ?_
      rw [hB.1]
      exact kk I1 (fun _ _ => rfl) (fun _ _ => rfl) hB.2
    | succ m ih =>
      intro i best I1 im hf hT hC hB kk
      have e112 := hf 112 (by omega)
      have hC1 := hC (h - i) (by omega) (by omega)
      have hT1 := kT_at ⟨hd.2.2.1, hd.2.2.2⟩ hT (by omega) (k := i) (by omega) (by omega)
      have ybb := yb_bd hw (w := I 112 (118 + y)) (more := h - i) hwt.1 hwt.2 (by omega) (by omega)
      have kb := kt_bd hw (I 112 1 - (y + 1)).toNat i (by omega) (by omega) (by omega)
      have nxt : ∀ (I3 : Ints) (best' x : Int), (∀ c, c ≠ 124 → I3 c = I1 c) → (∀ j, j ≠ 5 * y + h → I3 124 j = I1 124 j) → (best' = (scc (fun i => yb (I 112) (I 112 (118 + y)) (h - i) + (kt (I 112) (I 112 1 - (y + 1)).toNat i).1) (fun i => decide (okm (I 112) (I 112 (118 + y)) (h - i))) i).1 ∧ I3 124 (5 * y + h) = (scc (fun i => yb (I 112) (I 112 (118 + y)) (h - i) + (kt (I 112) (I 112 1 - (y + 1)).toNat i).1) (fun i => decide (okm (I 112) (I 112 (118 + y)) (h - i))) i).2) → J 142 [vr 111, vi (I 112 1), vi y, vi h, vi best', vi i, vi x] [] (mk I3 b) := by
        intro I3 best' x g1 g2 g3
        refine ms_iinc (ls' := [_, _, _, _, _, _, _]) hJ dX9_findKept_142 rfl (by decide) rfl (wr_id (by omega)) rfl ?_
        refine mj_goto (tgt := 62) hJ dX9_findKept_145 (by decide) ?_
        refine mj_drop (ls' := [_, _, _, _, _, _, vu]) hJ ⟨Or.inl rfl, Or.inl rfl, Or.inl rfl, Or.inl rfl, Or.inl rfl, Or.inl rfl, Or.inr rfl, trivial⟩ ?_
        refine ih (i + 1) best' I3 (by omega) (fun c hc => (g1 c (by omega)).trans (hf c hc)) ⟨fun q q0 q1 => by rw [g1 123 (by decide)]; exact hT.1 q q0 q1, fun t t0 t1 q q0 q1 => by rw [g1 123 (by decide), g2 _ (by omega)]; exact hT.2 t t0 t1 q q0 q1⟩ (fun more m0 m1 => by rw [g1 125 (by decide), g1 126 (by decide)]; exact hC more m0 m1) (fun _ => g3) (fun I2 k1 k2 k3 => kk I2 (fun c hc => (k1 c hc).trans (g1 c hc)) (fun j hj => (k2 j hj).trans (g2 j hj)) k3)
      have st : ∀ i' : Nat, i = i' + 1 → scc (fun i => yb (I 112) (I 112 (118 + y)) (h - i) + (kt (I 112) (I 112 1 - (y + 1)).toNat i).1) (fun i => decide (okm (I 112) (I 112 (118 + y)) (h - i))) i = if okm (I 112) (I 112 (118 + y)) (h - i) ∧ (scc (fun i => yb (I 112) (I 112 (118 + y)) (h - i) + (kt (I 112) (I 112 1 - (y + 1)).toNat i).1) (fun i => decide (okm (I 112) (I 112 (118 + y)) (h - i))) i').1 < yb (I 112) (I 112 (118 + y)) (h - i) + (kt (I 112) (I 112 1 - (y + 1)).toNat i).1 then (yb (I 112) (I 112 (118 + y)) (h - i) + (kt (I 112) (I 112 1 - (y + 1)).toNat i).1, (i : Int)) else scc (fun i => yb (I 112) (I 112 (118 + y)) (h - i) + (kt (I 112) (I 112 1 - (y + 1)).toNat i).1) (fun i => decide (okm (I 112) (I 112 (118 + y)) (h - i))) i' := by
        intro i' hi
        subst hi
        exact scc_dec
      refine mj_iload hJ dX9_findKept_62 rfl ?_
      refine mj_aload_n hJ dX9_findKept_64 rfl ?_
      refine mk_getR hJ dX9_findKept_65 fw_X9_9 rfl (by decide) rfl rfl ?_
      refine mj_iconst hJ dX9_findKept_68 (by decide) ?_
      refine mk_iald hJ dX9_findKept_69 rfl (by omega) (by omega) ?_
      rw [e112]
      refine mj_icmp_gt (tgt := 148) hJ dX9_findKept_70 (by decide) (fun hyes => absurd hyes (by omega)) (fun _ => ?_)
      refine mj_aload_n hJ dX9_findKept_73 rfl ?_
      refine mk_getR hJ dX9_findKept_74 fw_X9_49 rfl (by decide) rfl rfl ?_
      refine mj_iload_n hJ dX9_findKept_77 rfl ?_
      refine mj_iload hJ dX9_findKept_78 rfl ?_
      first | refine ms_isub hJ dX9_findKept_80 (by omega) ?_ | refine mj_isub hJ dX9_findKept_80 ?_
      refine mj_iconst hJ dX9_findKept_81 (by decide) ?_
      first | refine ms_iadd hJ dX9_findKept_82 (by omega) ?_ | refine mj_iadd hJ dX9_findKept_82 ?_
      refine mk_iald hJ dX9_findKept_83 rfl (by omega) (by omega) ?_
      rw [hC1.1]
      refine mj_aload_n hJ dX9_findKept_84 rfl ?_
      refine mk_getR hJ dX9_findKept_85 fw_X9_43 rfl (by decide) rfl rfl ?_
      refine mj_iconst hJ dX9_findKept_88 (by decide) ?_
      refine mj_iload_n hJ dX9_findKept_89 rfl ?_
      refine mj_iconst hJ dX9_findKept_90 (by decide) ?_
      first | refine ms_iadd hJ dX9_findKept_91 (by omega) ?_ | refine mj_iadd hJ dX9_findKept_91 ?_
      first | refine ms_imul hJ dX9_findKept_92 (by omega) ?_ | refine mj_imul hJ dX9_findKept_92 ?_
      refine mj_iload hJ dX9_findKept_93 rfl ?_
      first | refine ms_iadd hJ dX9_findKept_95 (by omega) ?_ | refine mj_iadd hJ dX9_findKept_95 ?_
      refine mk_iald hJ dX9_findKept_96 rfl (by omega) (by omega) ?_
      rw [hT1]
      first | refine ms_iadd hJ dX9_findKept_97 (by omega) ?_ | refine mj_iadd hJ dX9_findKept_97 ?_
      refine ms_istore (ls' := [_, _, _, _, _, _, _]) hJ dX9_findKept_98 (by decide) rfl rfl ?_
      refine mj_aload_n hJ dX9_findKept_100 rfl ?_
      refine mk_getR hJ dX9_findKept_101 fw_X9_52 rfl (by decide) rfl rfl ?_
      refine mj_iload_n hJ dX9_findKept_104 rfl ?_
      refine mj_iload hJ dX9_findKept_105 rfl ?_
      first | refine ms_isub hJ dX9_findKept_107 (by omega) ?_ | refine mj_isub hJ dX9_findKept_107 ?_
      refine mj_iconst hJ dX9_findKept_108 (by decide) ?_
      first | refine ms_iadd hJ dX9_findKept_109 (by omega) ?_ | refine mj_iadd hJ dX9_findKept_109 ?_
      refine mk_zald hJ dX9_findKept_110 rfl (by omega) (by omega) ?_
      rw [hC1.2]
      have take : scc (fun i => yb (I 112) (I 112 (118 + y)) (h - i) + (kt (I 112) (I 112 1 - (y + 1)).toNat i).1) (fun i => decide (okm (I 112) (I 112 (118 + y)) (h - i))) i = (yb (I 112) (I 112 (118 + y)) (h - i) + (kt (I 112) (I 112 1 - (y + 1)).toNat i).1, (i : Int)) → J 126 [vr 111, vi (I 112 1), vi y, vi h, vi best, vi i, vi (yb (I 112) (I 112 (118 + y)) (h - i) + (kt (I 112) (I 112 1 - (y + 1)).toNat i).1)] [] (mk I1 b) := by
        intro es
        refine mj_iload hJ dX9_findKept_126 rfl ?_
        refine ms_istore (ls' := [_, _, _, _, _, _, _]) hJ dX9_findKept_128 (by decide) rfl rfl ?_
        refine mj_aload_n hJ dX9_findKept_130 rfl ?_
        refine mk_getR hJ dX9_findKept_131 fw_X9_46 rfl (by decide) rfl rfl ?_
        refine mj_iconst hJ dX9_findKept_134 (by decide) ?_
        refine mj_iload_n hJ dX9_findKept_135 rfl ?_
        first | refine ms_imul hJ dX9_findKept_136 (by omega) ?_ | refine mj_imul hJ dX9_findKept_136 ?_
        refine mj_iload_n hJ dX9_findKept_137 rfl ?_
        first | refine ms_iadd hJ dX9_findKept_138 (by omega) ?_ | refine mj_iadd hJ dX9_findKept_138 ?_
        refine mj_iload hJ dX9_findKept_139 rfl ?_
        refine mk_iast hJ dX9_findKept_141 rfl (by omega) (by omega) ?_
        refine nxt _ _ _ (fun c hc => upI_ne hc) (fun j hj => by rw [upI_at, if_neg hj]) ?_
        rw [es, upI_at, if_pos rfl]
        exact ⟨rfl, rfl⟩
      by_cases hok : okm (I 112) (I 112 (118 + y)) (h - i)
      · rw [if_pos hok]
        refine mj_if_eq (tgt := 142) hJ dX9_findKept_111 (by decide) (fun hyes => absurd hyes (by decide)) (fun _ => ?_)
        refine mj_iload hJ dX9_findKept_114 rfl ?_
        refine mj_if_eq (tgt := 126) hJ dX9_findKept_116 (by decide) (fun hi => ?_) (fun hi => ?_)
        · have : i = 0 := by omega
          subst this
          exact take rfl
        · obtain ⟨i', hi'⟩ : ∃ i', i = i' + 1 := ⟨i - 1, by omega⟩
          have st := st i' hi'
          have hB := hB (by omega)
          rw [show i - 1 = i' by omega] at hB
          refine mj_iload hJ dX9_findKept_119 rfl ?_
          refine mj_iload hJ dX9_findKept_121 rfl ?_
          refine mj_icmp_le (tgt := 142) hJ dX9_findKept_123 (by decide) (fun hlt => ?_) (fun hlt => ?_)
          · rw [if_neg (fun q => by have := q.2; omega)] at st
            exact nxt I1 best _ (fun _ _ => rfl) (fun _ _ => rfl) (by rw [st]; exact hB)
          · rw [if_pos ⟨hok, by omega⟩] at st
            exact take st
      · rw [if_neg hok]
        refine mj_if_eq (tgt := 142) hJ dX9_findKept_111 (by decide) (fun _ => ?_) (fun hno => absurd rfl hno)
        by_cases hi : i = 0
        · subst hi
          exfalso
          apply hok
          by_cases hd4 : I 112 4 < 0
          · exact Or.inl hd4
          · have ib := infl_bd hw (v := I 112 4) (w := I 112 (118 + y)) (by omega) (by omega) hwt.1 hwt.2
            exact Or.inr (by omega)
        · obtain ⟨i', hi'⟩ : ∃ i', i = i' + 1 := ⟨i - 1, by omega⟩
          have st := st i' hi'
          have hB := hB (by omega)
          rw [show i - 1 = i' by omega] at hB
          rw [if_neg (fun q => hok q.1)] at st
          exact nxt I1 best _ (fun _ _ => rfl) (fun _ _ => rfl) (by rw [st]; exact hB)
  have L3 : ∀ (y : Int), 0 ≤ y → y < I 112 1 → (∀ I2 : Ints, (∀ c, (c < 114 ∨ 127 ≤ c) → I2 c = I c) → kT (I 112) I2 y → J 166 [vr 111, vi (I 112 1), vi y, vu, vu, vu, vu] [] (mk I2 b)) →
      ∀ (m : Nat) (h : Int) (I1 : Ints), 0 ≤ h → h + m = I 112 5 + 1 → (∀ c, (c < 114 ∨ 127 ≤ c) → I1 c = I c) → kT (I 112) I1 (y + 1) → (∀ more : Int, -(I 112 5) ≤ more → more ≤ I 112 5 → I1 125 (more + 4) = yb (I 112) (I 112 (118 + y)) more ∧ I1 126 (more + 4) = if okm (I 112) (I 112 (118 + y)) more then 1 else 0) →
      (∀ q, 0 ≤ q → q < h → I1 123 (5 * y + q) = (kt (I 112) (I 112 1 - y).toNat q).1 ∧ I1 124 (5 * y + q) = (kt (I 112) (I 112 1 - y).toNat q).2) →
      J 46 [vr 111, vi (I 112 1), vi y, vi h, vu, vu, vu] [] (mk I1 b) := by
    intro y y0 y1 kk m
    induction m with
    | zero =>
      intro h I1 h0 hm hf hT hC hB
      have e112 := hf 112 (by omega)
      refine mj_iload_n hJ dX9_findKept_46 rfl ?_
      refine mj_aload_n hJ dX9_findKept_47 rfl ?_
      refine mk_getR hJ dX9_findKept_48 fw_X9_9 rfl (by decide) rfl rfl ?_
      refine mj_iconst hJ dX9_findKept_51 (by decide) ?_
      refine mk_iald hJ dX9_findKept_52 rfl (by omega) (by omega) ?_
      rw [e112]
      refine mj_icmp_gt (tgt := 166) hJ dX9_findKept_53 (by decide) (fun _ => ?_) (fun hno => absurd (by omega) hno)
      refine mj_drop (ls' := [_, _, _, vu, vu, vu, vu]) hJ ⟨Or.inl rfl, Or.inl rfl, Or.inl rfl, Or.inr rfl, Or.inr rfl, Or.inr rfl, Or.inr rfl, trivial⟩ ?_
      refine kk I1 hf ⟨hT.1, fun t t0 t1 q q0 q1 => ?_⟩
      by_cases e : t = y
      · subst e
        exact hB q q0 (by omega)
      · exact hT.2 t (by omega) t1 q q0 q1
    | succ m ih =>
      intro h I1 h0 hm hf hT hC hB
      have e112 := hf 112 (by omega)
      refine mj_iload_n hJ dX9_findKept_46 rfl ?_
      refine mj_aload_n hJ dX9_findKept_47 rfl ?_
      refine mk_getR hJ dX9_findKept_48 fw_X9_9 rfl (by decide) rfl rfl ?_
      refine mj_iconst hJ dX9_findKept_51 (by decide) ?_
      refine mk_iald hJ dX9_findKept_52 rfl (by omega) (by omega) ?_
      rw [e112]
      refine mj_icmp_gt (tgt := 166) hJ dX9_findKept_53 (by decide) (fun hyes => absurd hyes (by omega)) (fun _ => ?_)
      refine mj_iconst hJ dX9_findKept_56 (by decide) ?_
      refine ms_istore (ls' := [_, _, _, _, _, _, _]) hJ dX9_findKept_57 (by decide) rfl rfl ?_
      refine mj_iconst hJ dX9_findKept_59 (by decide) ?_
      refine ms_istore (ls' := [_, _, _, _, _, _, _]) hJ dX9_findKept_60 (by decide) rfl rfl ?_
      refine L4 y h y0 y1 h0 (by omega) (I 112 5 + 1).toNat 0 0 I1 (by omega) hf hT hC (fun q => absurd q (by omega)) (fun I2 g1 g2 g3 => ?_)
      refine mj_aload_n hJ dX9_findKept_148 rfl ?_
      refine mk_getR hJ dX9_findKept_149 fw_X9_43 rfl (by decide) rfl rfl ?_
      refine mj_iconst hJ dX9_findKept_152 (by decide) ?_
      refine mj_iload_n hJ dX9_findKept_153 rfl ?_
      first | refine ms_imul hJ dX9_findKept_154 (by omega) ?_ | refine mj_imul hJ dX9_findKept_154 ?_
      refine mj_iload_n hJ dX9_findKept_155 rfl ?_
      first | refine ms_iadd hJ dX9_findKept_156 (by omega) ?_ | refine mj_iadd hJ dX9_findKept_156 ?_
      refine mj_iload hJ dX9_findKept_157 rfl ?_
      refine mk_iast hJ dX9_findKept_159 rfl (by omega) (by omega) ?_
      refine ms_iinc (ls' := [_, _, _, _, _, _, _]) hJ dX9_findKept_160 rfl (by decide) rfl (wr_id (by omega)) rfl ?_
      refine mj_goto (tgt := 46) hJ dX9_findKept_163 (by decide) ?_
      refine mj_drop (ls' := [_, _, _, _, vu, vu, vu]) hJ ⟨Or.inl rfl, Or.inl rfl, Or.inl rfl, Or.inl rfl, Or.inr rfl, Or.inr rfl, Or.inr rfl, trivial⟩ ?_
      refine ih (h + 1) _ (by omega) (by omega) (fun c hc => by rw [upI_ne (by omega), g1 c (by omega)]; exact hf c hc) ⟨fun q q0 q1 => ?_, fun t t0 t1 q q0 q1 => ?_⟩ (fun more m0 m1 => ?_) (fun q q0 q1 => ?_)
      · rw [upI_at, if_neg (by omega), g1 123 (by decide)]
        exact hT.1 q q0 q1
      · rw [upI_at, if_neg (by omega), upI_ne (by decide), g1 123 (by decide), g2 _ (by omega)]
        exact hT.2 t t0 t1 q q0 q1
      · rw [upI_ne (by decide), upI_ne (by decide), g1 125 (by decide), g1 126 (by decide)]
        exact hC more m0 m1
      · rw [upI_at, upI_ne (by decide)]
        by_cases e : q = h
        · subst e
          rw [if_pos rfl, g3]
          exact ⟨rfl, rfl⟩
        · rw [if_neg (by omega), g1 123 (by decide), g2 _ (by omega)]
          exact hB q q0 (by omega)
  have L2 : ∀ (n : Nat) (y : Int) (I1 : Ints), y = (n : Int) - 1 → y < I 112 1 → (∀ c, (c < 114 ∨ 127 ≤ c) → I1 c = I c) → kT (I 112) I1 (y + 1) → J 35 [vr 111, vi (I 112 1), vi y, vu, vu, vu, vu] [] (mk I1 b) := by
    intro n
    induction n with
    | zero =>
      intro y I1 hyn hy1 hf hT
      refine mj_iload_n hJ dX9_findKept_35 rfl ?_
      refine mj_if_lt (tgt := 172) hJ dX9_findKept_36 (by decide) (fun _ => ?_) (fun hno => absurd (by omega) hno)
      exact hR _ _ _ _ dX9_findKept_172 ⟨rfl, hf, ⟨hT.1, fun t t0 t1 => hT.2 t (by omega) t1⟩⟩
    | succ n ih =>
      intro y I1 hyn hy1 hf hT
      have e112 := hf 112 (by omega)
      refine mj_iload_n hJ dX9_findKept_35 rfl ?_
      refine mj_if_lt (tgt := 172) hJ dX9_findKept_36 (by decide) (fun hyes => absurd hyes (by omega)) (fun _ => ?_)
      refine mj_aload_n hJ dX9_findKept_39 rfl ?_
      refine mj_iload_n hJ dX9_findKept_40 rfl ?_
      have hF := c_X9_findYear (G := G) (I := I1) (b := b) y (by rw [e112]; exact hw) (by omega) (by omega)
      rw [e112] at hF
      refine mk_Vv1 hJ dX9_findKept_41 cw_X9_163 rfl rfl rfl rfl (Nat.le_of_ble_eq_true rfl) (by decide) (hF) (fun I2 b2 hq9 => ?_)
      obtain ⟨rfl, hf2, hC2⟩ := hq9
      refine mj_iconst hJ dX9_findKept_44 (by decide) ?_
      refine ms_istore_n (ls' := [_, _, _, _, _, _, _]) hJ dX9_findKept_45 (by decide) rfl rfl ?_
      refine L3 y (by omega) hy1 (fun I3 g1 g2 => ?_) (I 112 5 + 1).toNat 0 I2 (by omega) (by omega) (fun c hc => (hf2 c (by omega)).trans (hf c hc)) ⟨fun q q0 q1 => by rw [hf2 123 (by omega)]; exact hT.1 q q0 q1, fun t t0 t1 q q0 q1 => by rw [hf2 123 (by omega), hf2 124 (by omega)]; exact hT.2 t t0 t1 q q0 q1⟩ hC2 (fun q q0 q1 => by omega)
      refine ms_iinc (ls' := [_, _, _, _, _, _, _]) hJ dX9_findKept_166 rfl (by decide) rfl (wr_id (by omega)) rfl ?_
      refine mj_goto (tgt := 35) hJ dX9_findKept_169 (by decide) ?_
      exact ih (y + -1) I3 (by omega) (by omega) g1 (by rw [show y + -1 + 1 = y by omega]; exact g2)
  have L1 : ∀ (m : Nat) (h : Int) (I1 : Ints), 0 ≤ h → h + m = 5 → (∀ c, (c < 114 ∨ 127 ≤ c) → I1 c = I c) → (∀ q : Int, 0 ≤ q → q < h → I1 123 (5 * I 112 1 + q) = 0) → J 9 [vr 111, vi (I 112 1), vi h, vu, vu, vu, vu] [] (mk I1 b) := by
    intro m
    induction m with
    | zero =>
      intro h I1 h0 hm hf hz
      refine mj_iload_n hJ dX9_findKept_9 rfl ?_
      refine mj_iconst hJ dX9_findKept_10 (by decide) ?_
      refine mj_icmp_ge (tgt := 31) hJ dX9_findKept_11 (by decide) (fun _ => ?_) (fun hno => absurd (by omega) hno)
      refine mj_iload_n hJ dX9_findKept_31 rfl ?_
      refine mj_iconst hJ dX9_findKept_32 (by decide) ?_
      first | refine ms_isub hJ dX9_findKept_33 (by omega) ?_ | refine mj_isub hJ dX9_findKept_33 ?_
      refine ms_istore_n (ls' := [_, _, _, _, _, _, _]) hJ dX9_findKept_34 (by decide) rfl rfl ?_
      exact L2 (I 112 1).toNat (I 112 1 - 1) I1 (by omega) (by omega) hf ⟨fun q q0 q1 => hz q q0 (by omega), fun t t0 t1 => absurd t0 (by omega)⟩
    | succ m ih =>
      intro h I1 h0 hm hf hz
      refine mj_iload_n hJ dX9_findKept_9 rfl ?_
      refine mj_iconst hJ dX9_findKept_10 (by decide) ?_
      refine mj_icmp_ge (tgt := 31) hJ dX9_findKept_11 (by decide) (fun hyes => absurd hyes (by omega)) (fun _ => ?_)
      refine mj_aload_n hJ dX9_findKept_14 rfl ?_
      refine mk_getR hJ dX9_findKept_15 fw_X9_43 rfl (by decide) rfl rfl ?_
      refine mj_iconst hJ dX9_findKept_18 (by decide) ?_
      refine mj_iload_n hJ dX9_findKept_19 rfl ?_
      first | refine ms_imul hJ dX9_findKept_20 (by omega) ?_ | refine mj_imul hJ dX9_findKept_20 ?_
      refine mj_iload_n hJ dX9_findKept_21 rfl ?_
      first | refine ms_iadd hJ dX9_findKept_22 (by omega) ?_ | refine mj_iadd hJ dX9_findKept_22 ?_
      refine mj_iconst hJ dX9_findKept_23 (by decide) ?_
      refine mk_iast hJ dX9_findKept_24 rfl (by omega) (by omega) ?_
      refine ms_iinc (ls' := [_, _, _, _, _, _, _]) hJ dX9_findKept_25 rfl (by decide) rfl (wr_id (by omega)) rfl ?_
      refine mj_goto (tgt := 9) hJ dX9_findKept_28 (by decide) ?_
      refine ih (h + 1) _ (by omega) (by omega) (fun c hc => by rw [upI_ne (by omega)]; exact hf c hc) (fun q q0 q1 => ?_)
      rw [upI_at]
      split
      · rfl
      · exact hz q q0 (by omega)
  refine mj_aload_n hJ dX9_findKept_0 rfl ?_
  refine mk_getR hJ dX9_findKept_1 fw_X9_9 rfl (by decide) rfl rfl ?_
  refine mj_iconst hJ dX9_findKept_4 (by decide) ?_
  refine mk_iald hJ dX9_findKept_5 rfl (by omega) (by omega) ?_
  refine ms_istore_n (ls' := [_, _, _, _, _, _, _]) hJ dX9_findKept_6 (by decide) rfl rfl ?_
  refine mj_iconst hJ dX9_findKept_7 (by decide) ?_
  refine ms_istore_n (ls' := [_, _, _, _, _, _, _]) hJ dX9_findKept_8 (by decide) rfl rfl ?_
  exact L1 5 0 I (by omega) (by omega) (fun _ _ => rfl) (fun q q0 q1 => by omega)
theorem c_X9_kept (y : Int) (hw : WN (I 112)) : MtI G yX9_kept cX9_kept 4 (some .int) 6 [vr 111, vi y] I b (Qs I b (F_kept I y)) := by
  refine mt_enterI (own := RX9) (ls0 := [vr 111, vi y, vu, vu]) rfl (by decide +kernel) (Nat.le_of_ble_eq_true rfl) rfl rfl (fun J hJ hR => ?_)
  have hy := hw.ny
  have hd := hw.dm
  refine mj_iload_n hJ dX9_kept_0 rfl ?_
  refine mj_iconst hJ dX9_kept_1 (by decide) ?_
  refine mj_aload_n hJ dX9_kept_2 rfl ?_
  refine mk_getR hJ dX9_kept_3 fw_X9_9 rfl (by decide) rfl rfl ?_
  refine mj_iconst hJ dX9_kept_6 (by decide) ?_
  refine mk_iald hJ dX9_kept_7 rfl (by omega) (by omega) ?_
  refine mj_iconst hJ dX9_kept_8 (by decide) ?_
  first | refine ms_isub hJ dX9_kept_9 (by omega) ?_ | refine mj_isub hJ dX9_kept_9 ?_
  refine mk_Sp3 hJ dX9_kept_10 cw_X9_104 rfl (Nat.le_of_ble_eq_true rfl) (by decide) (c_X9_in y (-1) (I 112 1 - 1)) ?_
  by_cases h : -1 ≤ y ∧ y ≤ I 112 1 - 1
  · rw [if_pos h]
    have eF : F_kept I y = if y < 0 then (kt (I 112) (I 112 1).toNat 0).1 else hh (I 112) (y.toNat + 1) := by unfold F_kept; rw [if_pos (by omega)]
    refine mj_if_ne (tgt := 19) hJ dX9_kept_13 (by decide) (fun _ => ?_) (fun hno => absurd hno (by decide))
    refine mj_aload_n hJ dX9_kept_19 rfl ?_
    refine mk_Vv0 hJ dX9_kept_20 cw_X9_166 rfl rfl rfl rfl (Nat.le_of_ble_eq_true rfl) (by decide) (c_X9_findKept hw) (fun I1 b1 hq9 => ?_)
    obtain ⟨rfl, hf, hT⟩ := hq9
    have hS : Same I I1 := Same.of (fun c hc => hf c (by omega))
    refine mj_iload_n hJ dX9_kept_23 rfl ?_
    refine mj_if_ge (tgt := 34) hJ dX9_kept_24 (by decide) (fun h2 => ?_) (fun h2 => ?_)
    · have hhb : ∀ k : Nat, (k : Int) ≤ I 112 1 → 0 ≤ hh (I 112) k ∧ hh (I 112) k ≤ I 112 5 := fun k => by
        induction k with
        | zero => intro _; exact ⟨Int.le_refl _, hd.2.2.1⟩
        | succ k ih =>
          intro hk
          have ih := ih (by omega)
          exact (kt_bd hw (I 112 1 - k).toNat (hh (I 112) k) (by omega) ih.1 ih.2).2
      have loop : ∀ (m k : Nat), (k + m : Int) = y → J 38 [vr 111, vi y, vi (hh (I 112) k), vi k] [] (mk I1 b1) := by
        intro m
        induction m with
        | zero =>
          intro k hk
          have ek : y = (k : Int) := by omega
          subst ek
          have hb := hhb k (by omega)
          have r := (hT.2 k (by omega) (by omega) (hh (I 112) k) hb.1 hb.2).2
          refine mj_iload_n hJ dX9_kept_38 rfl ?_
          refine mj_iload_n hJ dX9_kept_39 rfl ?_
          refine mj_icmp_ge (tgt := 60) hJ dX9_kept_40 (by decide) (fun _ => ?_) (fun hno => absurd (by omega) hno)
          refine mj_aload_n hJ dX9_kept_60 rfl ?_
          refine mk_getR hJ dX9_kept_61 fw_X9_46 rfl (by decide) rfl rfl ?_
          refine mj_iconst hJ dX9_kept_64 (by decide) ?_
          refine mj_iload_n hJ dX9_kept_65 rfl ?_
          first | refine ms_imul hJ dX9_kept_66 (by omega) ?_ | refine mj_imul hJ dX9_kept_66 ?_
          refine mj_iload_n hJ dX9_kept_67 rfl ?_
          first | refine ms_iadd hJ dX9_kept_68 (by omega) ?_ | refine mj_iadd hJ dX9_kept_68 ?_
          refine mk_iald hJ dX9_kept_69 rfl (by omega) (by omega) ?_
          refine hR _ _ _ _ _ dX9_kept_70 nar_i ⟨?_, rfl, hS⟩
          rw [r, eF, if_neg (by omega), Int.toNat_natCast]
          rfl
        | succ m ih =>
          intro k hk
          have hb := hhb k (by omega)
          have r := (hT.2 k (by omega) (by omega) (hh (I 112) k) hb.1 hb.2).2
          refine mj_iload_n hJ dX9_kept_38 rfl ?_
          refine mj_iload_n hJ dX9_kept_39 rfl ?_
          refine mj_icmp_ge (tgt := 60) hJ dX9_kept_40 (by decide) (fun hyes => absurd hyes (by omega)) (fun _ => ?_)
          refine mj_aload_n hJ dX9_kept_43 rfl ?_
          refine mk_getR hJ dX9_kept_44 fw_X9_46 rfl (by decide) rfl rfl ?_
          refine mj_iconst hJ dX9_kept_47 (by decide) ?_
          refine mj_iload_n hJ dX9_kept_48 rfl ?_
          first | refine ms_imul hJ dX9_kept_49 (by omega) ?_ | refine mj_imul hJ dX9_kept_49 ?_
          refine mj_iload_n hJ dX9_kept_50 rfl ?_
          first | refine ms_iadd hJ dX9_kept_51 (by omega) ?_ | refine mj_iadd hJ dX9_kept_51 ?_
          refine mk_iald hJ dX9_kept_52 rfl (by omega) (by omega) ?_
          rw [r]
          refine ms_istore_n (ls' := [_, _, _, _]) hJ dX9_kept_53 (by decide) rfl rfl ?_
          refine ms_iinc (ls' := [_, _, _, _]) hJ dX9_kept_54 rfl (by decide) rfl (wr_id (by omega)) rfl ?_
          refine mj_goto (tgt := 38) hJ dX9_kept_57 (by decide) ?_
          exact ih (k + 1) (by omega)
      refine mj_iconst hJ dX9_kept_34 (by decide) ?_
      refine ms_istore_n (ls' := [_, _, _, _]) hJ dX9_kept_35 (by decide) rfl rfl ?_
      refine mj_iconst hJ dX9_kept_36 (by decide) ?_
      refine ms_istore_n (ls' := [_, _, _, _]) hJ dX9_kept_37 (by decide) rfl rfl ?_
      exact loop y.toNat 0 (by omega)
    · refine mj_aload_n hJ dX9_kept_27 rfl ?_
      refine mk_getR hJ dX9_kept_28 fw_X9_43 rfl (by decide) rfl rfl ?_
      refine mj_iconst hJ dX9_kept_31 (by decide) ?_
      refine mk_iald hJ dX9_kept_32 rfl (by omega) (by omega) ?_
      have r := kT_at ⟨hd.2.2.1, hd.2.2.2⟩ hT (by omega) (k := 0) (by omega) (by omega)
      refine hR _ _ _ _ _ dX9_kept_33 nar_i ⟨?_, rfl, hS⟩
      rw [show (5 * 0 + 0 : Int) = 0 by omega, Int.sub_zero] at r
      rw [eF, if_pos (by omega), r]
  · rw [if_neg h]
    refine mj_if_ne (tgt := 19) hJ dX9_kept_13 (by decide) (fun hyes => absurd (by decide) hyes) (fun _ => ?_)
    refine mj_ldc (z := -1000001) hJ dX9_kept_16 (by decide) ct_X9_140 ?_
    exact hR _ _ _ _ _ dX9_kept_18 nar_i ⟨by unfold F_kept; rw [if_neg (by omega)], rfl, Same.rfl'⟩
end M10
