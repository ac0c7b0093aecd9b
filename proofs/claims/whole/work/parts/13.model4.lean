section M4
variable {G : GE} {I : Ints} {b : Bool}
/-- all that later calls see of the model, and the class's cells, are as they were -/
def Same (I I' : Ints) : Prop := (∀ c, (c < 111 ∨ c = 112 ∨ c = 113 ∨ c = 127 ∨ (135 ≤ c ∧ c ≤ 142)) → I' c = I c) ∧ I' 111 2 = I 111 2 ∧ I' 111 17 = I 111 17 ∧ I' 111 31 = I 111 31 ∧ I' 111 39 = I 111 39
theorem Same.of {I I' : Ints} (h : ∀ c, (c < 114 ∨ c = 127 ∨ 135 ≤ c) → I' c = I c) : Same I I' := by
  refine ⟨fun c hc => h c (by omega), ?_⟩
  rw [h 111 (by omega)]
  exact ⟨rfl, rfl, rfl, rfl⟩
theorem Same.rfl' {I : Ints} : Same I I := Same.of (fun _ _ => rfl)
theorem mT_congr {f q q' : Int → Int} {l : Int} {I1 : Ints} (h : ∀ i : Int, 0 ≤ i → i ≤ l → q i = q' i) {v : Int} (hv : 0 ≤ v) (hm : mT f q 0 l I1 v) : mT f q' 0 l I1 v := by
  intro w w0 w1 c c0 c1
  rw [← sg_congr (fun i x y => h i x (by omega))] at c1
  rw [← bb_congr (q := q) (q' := q') _ w c (fun i x y => h i (by omega) (by omega))]
  exact hm w w0 w1 c c0 c1
theorem c_X9_bestOf (w : Int) (hw : WN (I 112)) (h0 : 0 ≤ w) (h1 : w ≤ 20) : MtI G yX9_bestOf cX9_bestOf 2 (some .int) 4 [vr 111, vi w] I b (fun z I' b' => z = bestv (I 112) w ∧ b' = b ∧ (∀ c, (c < 114 ∨ 117 ≤ c) → I' c = I c) ∧ (∀ v, 0 ≤ v → v < I 112 0 → I' 116 v = infl (I 112) w v) ∧ mT (I 112) (infl (I 112) w) 0 (I 112 0 - 1) I' 0) := by
  refine mt_enterI (own := RX9) (ls0 := [vr 111, vi w]) rfl (by decide +kernel) (Nat.le_of_ble_eq_true rfl) rfl rfl (fun J hJ hR => ?_)
  have hn := hw.nv
  refine mj_aload_n hJ dX9_bestOf_0 rfl ?_
  refine mk_getR hJ dX9_bestOf_1 fw_X9_9 rfl (by decide) rfl rfl ?_
  refine mj_iconst hJ dX9_bestOf_4 (by decide) ?_
  refine mk_iald hJ dX9_bestOf_5 rfl (by omega) (by omega) ?_
  refine mj_if_ne (tgt := 11) hJ dX9_bestOf_6 (by decide) (fun hz => ?_) (fun hz => ?_)
  · refine mj_aload_n hJ dX9_bestOf_11 rfl ?_
    refine mj_iload_n hJ dX9_bestOf_12 rfl ?_
    refine mk_Vv1 hJ dX9_bestOf_13 cw_X9_129 rfl rfl rfl rfl (Nat.le_of_ble_eq_true rfl) (by decide) (c_X9_flows w hw h0 h1) (fun I1 b1 hq9 => ?_)
    obtain ⟨rfl, hf, hq⟩ := hq9
    have e112 := hf 112 (by decide)
    have hq2 : ∀ i : Int, 0 ≤ i → i ≤ I 112 0 - 1 → I1 116 i = infl (I 112) w i := fun i x y => hq i x (by omega)
    refine mj_aload_n hJ dX9_bestOf_16 rfl ?_
    refine mj_iconst hJ dX9_bestOf_17 (by decide) ?_
    refine mj_aload_n hJ dX9_bestOf_18 rfl ?_
    refine mk_getR hJ dX9_bestOf_19 fw_X9_9 rfl (by decide) rfl rfl ?_
    refine mj_iconst hJ dX9_bestOf_22 (by decide) ?_
    refine mk_iald hJ dX9_bestOf_23 rfl (by omega) (by omega) ?_
    rw [e112]
    refine mj_iconst hJ dX9_bestOf_24 (by decide) ?_
    first | refine ms_isub hJ dX9_bestOf_25 (by omega) ?_ | refine mj_isub hJ dX9_bestOf_25 ?_
    have hs := sg_infl hw (w := w) h0 h1 (a := 0) (l := I 112 0 - 1) (by omega) (by omega) (by omega)
    rw [← sg_congr hq2] at hs
    have hM := c_X9_mostOf (G := G) (I := I1) (b := b1) 0 (I 112 0 - 1) (by rw [e112]; exact hw) (by omega) (by omega) (by omega) (fun v x y => by rw [hq2 v x y]; exact (infl_bd hw x (by omega) h0 h1).1) (by omega)
    refine mk_Vi2 hJ dX9_bestOf_26 cw_X9_133 rfl rfl rfl rfl (Nat.le_of_ble_eq_true rfl) (by decide) (hM) (fun z I2 b2 hq9 => ?_)
    obtain ⟨hz2, rfl, hf2, hm⟩ := hq9
    rw [e112] at hz2 hm
    refine hR _ _ _ _ _ dX9_bestOf_29 nar_i ⟨?_, rfl, fun c hc => (hf2 c (by omega) (by omega)).trans (hf c (by omega)), fun v x y => (by rw [hf2 116 (by decide) (by decide)]; exact hq v x y), mT_congr hq2 (by omega) hm⟩
    rw [hz2]
    unfold bestv
    rw [if_neg hz, bb_congr (q' := infl (I 112) w) _ _ _ (fun i x y => hq2 i (by omega) (by omega)), hq2 0 (by omega) (by omega), show I 112 0 - 1 - 0 = I 112 0 - 1 by omega]
  · refine mj_iconst hJ dX9_bestOf_9 (by decide) ?_
    exact hR _ _ _ _ _ dX9_bestOf_10 nar_i ⟨by unfold bestv; rw [if_pos hz], rfl, fun _ _ => rfl, fun v x y => by omega, fun v x y => by omega⟩
theorem c_X9_runOf (a l : Int) (hw : WN (I 112)) (h0 : 0 ≤ a) (h1 : a ≤ l) (h2 : l < I 112 0) : MtI G yX9_runOf cX9_runOf 3 (some .int) 4 [vr 111, vi a, vi l] I b (fun z I' b' => z = runv (I 112) a l ∧ b' = b ∧ (∀ c, (c < 114 ∨ 117 ≤ c) → I' c = I c)) := by
  refine mt_enterI (own := RX9) (ls0 := [vr 111, vi a, vi l]) rfl (by decide +kernel) (Nat.le_of_ble_eq_true rfl) rfl rfl (fun J hJ hR => ?_)
  have hn := hw.nv
  refine mj_aload_n hJ dX9_runOf_0 rfl ?_
  refine mj_bipush hJ dX9_runOf_1 (by decide) ?_
  refine mk_Vv1 hJ dX9_runOf_3 cw_X9_129 rfl rfl rfl rfl (Nat.le_of_ble_eq_true rfl) (by decide) (c_X9_flows 10 hw (by omega) (by omega)) (fun I1 b1 hq9 => ?_)
  obtain ⟨rfl, hf, hq⟩ := hq9
  have e112 := hf 112 (by decide)
  have hq2 : ∀ i : Int, a ≤ i → i ≤ l → I1 116 i = infl (I 112) 10 i := fun i x y => hq i (by omega) (by omega)
  have hs := sg_infl hw (w := 10) (by omega) (by omega) (a := a) (l := l) (by omega) (by omega) (by omega)
  rw [← sg_congr hq2] at hs
  refine mj_aload_n hJ dX9_runOf_6 rfl ?_
  refine mj_iload_n hJ dX9_runOf_7 rfl ?_
  refine mj_iload_n hJ dX9_runOf_8 rfl ?_
  refine mk_Vi2 hJ dX9_runOf_9 cw_X9_133 rfl rfl rfl rfl (Nat.le_of_ble_eq_true rfl) (by decide) (c_X9_mostOf (I := I1) (b := b1) a l (by rw [e112]; exact hw) (by omega) (by omega) (by omega) (fun v x y => by rw [hq2 v x y]; exact (infl_bd hw (by omega) (by omega) (by omega) (by omega)).1) (by omega)) (fun z I2 b2 hq9 => ?_)
  obtain ⟨hz2, rfl, hf2, hm⟩ := hq9
  rw [e112] at hz2
  refine hR _ _ _ _ _ dX9_runOf_12 nar_i ⟨?_, rfl, fun c hc => (hf2 c (by omega) (by omega)).trans (hf c (by omega))⟩
  rw [hz2]
  unfold runv
  rw [bb_congr (q' := infl (I 112) 10) _ _ _ (fun i x y => hq2 i (by omega) (by omega)), hq2 a (by omega) (by omega)]
theorem c_X9_mostFor (v : Int) (hw : WN (I 112)) (h0 : 0 ≤ v) (h1 : v < 6) : MtP G yX9_mostFor cX9_mostFor 4 (some .int) 3 [vr 111, vi v] I b (mostv (I 112) v) := by
  refine mt_enterI (own := RX9) (ls0 := [vr 111, vi v, vu, vu]) rfl (by decide +kernel) (Nat.le_of_ble_eq_true rfl) rfl rfl (fun J hJ hR => ?_)
  have hi : ∀ i : Int, infl (I 112) 10 i = I 112 (10 + 18 * i + 0) := fun i => infl_10 i
  have hsg : ∀ k : Int, 0 - 1 ≤ k → k ≤ v → 0 ≤ sg (infl (I 112) 10) 0 k ∧ sg (infl (I 112) 10) 0 k ≤ 144 := fun k x y =>
    ⟨(sg_le (l := v) (fun i p q => (infl_bd hw p (by omega) (by omega) (by omega)).1) x y).1, sg_infl hw (by omega) (by omega) (by omega) x (by omega)⟩
  have loop : ∀ (m : Nat) (k : Int), 0 ≤ k → k + m = v + 1 → J 4 [vr 111, vi v, vi (sg (infl (I 112) 10) 0 (k - 1)), vi k] [] (mk I b) := by
    intro m
    induction m with
    | zero =>
      intro k hk hkm
      have hs := hsg (k - 1) (by omega) (by omega)
      have hc := cap_le hs.1
      have K : ∀ x : Int, x = cap (sg (infl (I 112) 10) 0 (k - 1)) → J 38 [vr 111, vi v, vi (sg (infl (I 112) 10) 0 (k - 1)), vi k] [vi x, vi v, vr 111] (mk I b) := by
        intro x hx
        rw [hx]
        refine mk_Vp2 hJ dX9_mostFor_38 cw_X9_123 rfl rfl rfl rfl (Nat.le_of_ble_eq_true rfl) (by decide) (c_X9_first v _ h0 h1 (by omega) hw) ?_
        exact hR _ _ _ _ _ dX9_mostFor_41 nar_i ⟨by unfold mostv; rw [show k - 1 = v by omega], rfl, rfl⟩
      refine mj_iload_n hJ dX9_mostFor_4 rfl ?_
      refine mj_iload_n hJ dX9_mostFor_5 rfl ?_
      refine mj_icmp_gt (tgt := 24) hJ dX9_mostFor_6 (by decide) (fun _ => ?_) (fun hno => absurd (by omega) hno)
      refine mj_aload_n hJ dX9_mostFor_24 rfl ?_
      refine mj_iload_n hJ dX9_mostFor_25 rfl ?_
      refine mj_iload_n hJ dX9_mostFor_26 rfl ?_
      refine mj_bipush hJ dX9_mostFor_27 (by decide) ?_
      refine mj_icmp_ge (tgt := 36) hJ dX9_mostFor_29 (by decide) (fun hx => ?_) (fun hx => ?_)
      · refine mj_bipush hJ dX9_mostFor_36 (by decide) ?_
        exact K 12 (by unfold cap; split <;> omega)
      · refine mj_iload_n hJ dX9_mostFor_32 rfl ?_
        refine mj_goto (tgt := 38) hJ dX9_mostFor_33 (by decide) ?_
        exact K _ (by unfold cap; split <;> omega)
    | succ m ih =>
      intro k hk hkm
      have hs := hsg (k - 1) (by omega) (by omega)
      have hb := infl_bd hw (v := k) (w := 10) (by omega) (by omega) (by omega) (by omega)
      rw [hi] at hb
      have e := sg_succ (q := infl (I 112) 10) (a := 0) (v := k - 1) (by omega)
      rw [show k - 1 + 1 = k by omega, hi] at e
      refine mj_iload_n hJ dX9_mostFor_4 rfl ?_
      refine mj_iload_n hJ dX9_mostFor_5 rfl ?_
      refine mj_icmp_gt (tgt := 24) hJ dX9_mostFor_6 (by decide) (fun hyes => absurd hyes (by omega)) (fun _ => ?_)
      refine mj_iload_n hJ dX9_mostFor_9 rfl ?_
      refine mj_aload_n hJ dX9_mostFor_10 rfl ?_
      refine mj_iload_n hJ dX9_mostFor_11 rfl ?_
      refine mj_iconst hJ dX9_mostFor_12 (by decide) ?_
      refine mk_Vp2 hJ dX9_mostFor_13 cw_X9_116 rfl rfl rfl rfl (Nat.le_of_ble_eq_true rfl) (by decide) (c_X9_of k 0 (by omega) (by omega) (by omega) (by omega)) ?_
      first | refine ms_iadd hJ dX9_mostFor_16 (by omega) ?_ | refine mj_iadd hJ dX9_mostFor_16 ?_
      refine ms_istore_n (ls' := [_, _, _, _]) hJ dX9_mostFor_17 (by decide) rfl rfl ?_
      refine ms_iinc (ls' := [_, _, _, _]) hJ dX9_mostFor_18 rfl (by decide) rfl (wr_id (by omega)) rfl ?_
      refine mj_goto (tgt := 4) hJ dX9_mostFor_21 (by decide) ?_
      have := ih (k + 1) (by omega) (by omega)
      rw [show k + 1 - 1 = k by omega, e] at this
      exact this
  refine mj_iconst hJ dX9_mostFor_0 (by decide) ?_
  refine ms_istore_n (ls' := [_, _, _, _]) hJ dX9_mostFor_1 (by decide) rfl rfl ?_
  refine mj_iconst hJ dX9_mostFor_2 (by decide) ?_
  refine ms_istore_n (ls' := [_, _, _, _]) hJ dX9_mostFor_3 (by decide) rfl rfl ?_
  exact loop (v + 1).toNat 0 (by omega) (by omega)
theorem c_X9_findBest (hw : WN (I 112)) : MtI G yX9_findBest cX9_findBest 5 (some .int) 5 [vr 111] I b (fun z I' b' => z = bestv (I 112) 10 ∧ b' = b ∧ (∀ c, (c < 114 ∨ 120 ≤ c) → I' c = I c) ∧ (∀ v : Nat, (v : Int) < I 112 0 → I' 117 v = puse (I 112) (infl (I 112) 10) (I 112 0 - 1) v ∧ I' 118 v = pab (I 112) (infl (I 112) 10) (I 112 0 - 1) (v + 1) ∧ I' 119 v = mde (I 112) v (puse (I 112) (infl (I 112) 10) (I 112 0 - 1) v) (pab (I 112) (infl (I 112) 10) (I 112 0 - 1) (v + 1)))) := by
  refine mt_enterI (own := RX9) (ls0 := [vr 111, vu, vu, vu, vu]) rfl (by decide +kernel) (Nat.le_of_ble_eq_true rfl) rfl rfl (fun J hJ hR => ?_)
  have hn := hw.nv
  have hqn : ∀ v : Int, 0 ≤ v → v ≤ I 112 0 - 1 → 0 ≤ infl (I 112) 10 v := fun v x y => (infl_bd hw x (by omega) (by omega) (by omega)).1
  have hsg : ∀ k : Int, 0 - 1 ≤ k → k ≤ I 112 0 - 1 → 0 ≤ sg (infl (I 112) 10) 0 k ∧ sg (infl (I 112) 10) 0 k ≤ 144 := fun k x y =>
    ⟨(sg_le hqn x y).1, sg_infl hw (by omega) (by omega) (by omega) x (by omega)⟩
  refine mj_aload_n hJ dX9_findBest_0 rfl ?_
  refine mj_bipush hJ dX9_findBest_1 (by decide) ?_
  refine mk_Vi1 hJ dX9_findBest_3 cw_X9_136 rfl rfl rfl rfl (Nat.le_of_ble_eq_true rfl) (by decide) (c_X9_bestOf 10 hw (by omega) (by omega)) (fun z I1 b1 hq9 => ?_)
  obtain ⟨rfl, rfl, hf, hq, hm⟩ := hq9
  refine ms_istore_n (ls' := [_, _, _, _, _]) hJ dX9_findBest_6 (by decide) rfl rfl ?_
  refine mj_iconst hJ dX9_findBest_7 (by decide) ?_
  refine ms_istore_n (ls' := [_, _, _, _, _]) hJ dX9_findBest_8 (by decide) rfl rfl ?_
  refine mj_iconst hJ dX9_findBest_9 (by decide) ?_
  refine ms_istore_n (ls' := [_, _, _, _, _]) hJ dX9_findBest_10 (by decide) rfl rfl ?_
  have loop : ∀ (m k : Nat) (I2 : Ints), (k + m : Int) = I 112 0 → (∀ c, (c < 117 ∨ 120 ≤ c) → I2 c = I1 c) → (∀ v : Nat, v < k → I2 117 v = puse (I 112) (infl (I 112) 10) (I 112 0 - 1) v ∧ I2 118 v = pab (I 112) (infl (I 112) 10) (I 112 0 - 1) (v + 1) ∧ I2 119 v = mde (I 112) v (puse (I 112) (infl (I 112) 10) (I 112 0 - 1) v) (pab (I 112) (infl (I 112) 10) (I 112 0 - 1) (v + 1))) →
      J 11 [vr 111, vi (bestv (I 112) 10), vi (pab (I 112) (infl (I 112) 10) (I 112 0 - 1) k), vi k, vu] [] (mk I2 b1) := by
    intro m
    induction m with
    | zero =>
      intro k I2 hk hf2 hv
      have e112 : I2 112 = I 112 := (hf2 112 (by omega)).trans (hf 112 (by omega))
      refine mj_iload_n hJ dX9_findBest_11 rfl ?_
      refine mj_aload_n hJ dX9_findBest_12 rfl ?_
      refine mk_getR hJ dX9_findBest_13 fw_X9_9 rfl (by decide) rfl rfl ?_
      refine mj_iconst hJ dX9_findBest_16 (by decide) ?_
      refine mk_iald hJ dX9_findBest_17 rfl (by omega) (by omega) ?_
      rw [e112]
      refine mj_icmp_ge (tgt := 107) hJ dX9_findBest_18 (by decide) (fun _ => ?_) (fun hno => absurd (by omega) hno)
      refine mj_iload_n hJ dX9_findBest_107 rfl ?_
      exact hR _ _ _ _ _ dX9_findBest_108 nar_i ⟨rfl, rfl, fun c hc => (hf2 c (by omega)).trans (hf c (by omega)), fun v hv' => hv v (by omega)⟩
    | succ m ih =>
      intro k I2 hk hf2 hv
      have e112 : I2 112 = I 112 := (hf2 112 (by omega)).trans (hf 112 (by omega))
      have e116 : I2 116 k = infl (I 112) 10 k := by rw [hf2 116 (by omega)]; exact hq k (by omega) (by omega)
      have e115 : ∀ c : Int, 0 ≤ c → c ≤ sg (infl (I 112) 10) 0 k → I2 115 (160 * k + c) = (bb (I 112) (infl (I 112) 10) (I 112 0 - 1 - k).toNat k c).2 := fun c c0 c1 => by
        rw [hf2 115 (by omega)]
        exact (hm k (by omega) (by omega) c c0 c1).2
      have hp := pab_bd (f := I 112) hqn k (by omega)
      have hqk := hqn k (by omega) (by omega)
      have hsk := hsg ((k : Int) - 1) (by omega) (by omega)
      have hsk2 := hsg (k : Int) (by omega) (by omega)
      have es := sg_succ (q := infl (I 112) 10) (a := 0) (v := (k : Int) - 1) (by omega)
      rw [show (k : Int) - 1 + 1 = k by omega] at es
      have hu := puse_bd (f := I 112) hqn k (by omega)
      have eu := e115 (pab (I 112) (infl (I 112) 10) (I 112 0 - 1) k + infl (I 112) 10 k) (by omega) (by omega)
      have epu : (bb (I 112) (infl (I 112) 10) (I 112 0 - 1 - k).toNat k (pab (I 112) (infl (I 112) 10) (I 112 0 - 1) k + infl (I 112) 10 k)).2 = puse (I 112) (infl (I 112) 10) (I 112 0 - 1) k := rfl
      rw [epu] at eu
      have es2 := pab_succ (I 112) (infl (I 112) 10) (I 112 0 - 1) k
      generalize hC : pab (I 112) (infl (I 112) 10) (I 112 0 - 1) k + infl (I 112) 10 k = C at eu hu es2
      generalize hU : puse (I 112) (infl (I 112) 10) (I 112 0 - 1) k = U at eu hu es2
      refine mj_iload_n hJ dX9_findBest_11 rfl ?_
      refine mj_aload_n hJ dX9_findBest_12 rfl ?_
      refine mk_getR hJ dX9_findBest_13 fw_X9_9 rfl (by decide) rfl rfl ?_
      refine mj_iconst hJ dX9_findBest_16 (by decide) ?_
      refine mk_iald hJ dX9_findBest_17 rfl (by omega) (by omega) ?_
      rw [e112]
      refine mj_icmp_ge (tgt := 107) hJ dX9_findBest_18 (by decide) (fun hyes => absurd hyes (by omega)) (fun _ => ?_)
      refine mj_iload_n hJ dX9_findBest_21 rfl ?_
      refine mj_aload_n hJ dX9_findBest_22 rfl ?_
      refine mk_getR hJ dX9_findBest_23 fw_X9_22 rfl (by decide) rfl rfl ?_
      refine mj_iload_n hJ dX9_findBest_26 rfl ?_
      refine mk_iald hJ dX9_findBest_27 rfl (by omega) (by omega) ?_
      rw [e116]
      first | refine ms_iadd hJ dX9_findBest_28 (by omega) ?_ | refine mj_iadd hJ dX9_findBest_28 ?_
      refine ms_istore (ls' := [_, _, _, _, _]) hJ dX9_findBest_29 (by decide) rfl rfl ?_
      refine mj_aload_n hJ dX9_findBest_31 rfl ?_
      refine mk_getR hJ dX9_findBest_32 fw_X9_25 rfl (by decide) rfl rfl ?_
      refine mj_iload_n hJ dX9_findBest_35 rfl ?_
      refine mj_aload_n hJ dX9_findBest_36 rfl ?_
      refine mk_getR hJ dX9_findBest_37 fw_X9_19 rfl (by decide) rfl rfl ?_
      refine mj_sipush hJ dX9_findBest_40 (by decide) ?_
      refine mj_iload_n hJ dX9_findBest_43 rfl ?_
      first | refine ms_imul hJ dX9_findBest_44 (by omega) ?_ | refine mj_imul hJ dX9_findBest_44 ?_
      refine mj_iload hJ dX9_findBest_45 rfl ?_
      first | refine ms_iadd hJ dX9_findBest_47 (by omega) ?_ | refine mj_iadd hJ dX9_findBest_47 ?_
      refine mk_iald hJ dX9_findBest_48 rfl (by omega) (by omega) ?_
      rw [hC, eu]
      refine mk_iast hJ dX9_findBest_49 rfl (by omega) (by omega) ?_
      refine mj_aload_n hJ dX9_findBest_50 rfl ?_
      refine mk_getR hJ dX9_findBest_51 fw_X9_28 rfl (by decide) rfl rfl ?_
      refine mj_iload_n hJ dX9_findBest_54 rfl ?_
      refine mj_iload hJ dX9_findBest_55 rfl ?_
      refine mj_aload_n hJ dX9_findBest_57 rfl ?_
      refine mk_getR hJ dX9_findBest_58 fw_X9_25 rfl (by decide) rfl rfl ?_
      refine mj_iload_n hJ dX9_findBest_61 rfl ?_
      refine mk_iald hJ dX9_findBest_62 rfl (by omega) (by omega) ?_
      rw [upI_at, if_pos rfl]
      first | refine ms_isub hJ dX9_findBest_63 (by omega) ?_ | refine mj_isub hJ dX9_findBest_63 ?_
      refine mk_iast hJ dX9_findBest_64 rfl (by omega) (by omega) ?_
      refine mj_aload_n hJ dX9_findBest_65 rfl ?_
      refine mk_getR hJ dX9_findBest_66 fw_X9_31 rfl (by decide) rfl rfl ?_
      refine mj_iload_n hJ dX9_findBest_69 rfl ?_
      refine mj_aload_n hJ dX9_findBest_70 rfl ?_
      refine mj_iload_n hJ dX9_findBest_71 rfl ?_
      refine mj_aload_n hJ dX9_findBest_72 rfl ?_
      refine mk_getR hJ dX9_findBest_73 fw_X9_25 rfl (by decide) rfl rfl ?_
      refine mj_iload_n hJ dX9_findBest_76 rfl ?_
      refine mk_iald hJ dX9_findBest_77 rfl (by omega) (by omega) ?_
      rw [upI_ne (by decide), upI_at, if_pos rfl]
      refine mk_Vp2 hJ dX9_findBest_78 cw_X9_123 rfl rfl rfl rfl (Nat.le_of_ble_eq_true rfl) (by decide) (c_X9_firstI k U (by omega) (by omega) (by omega) (by omega) (by rw [upI_ne (by decide), upI_ne (by decide), e112]; exact hw)) ?_
      rw [upI_ne (by decide), upI_ne (by decide), e112]
      refine mj_aload_n hJ dX9_findBest_81 rfl ?_
      refine mj_iload_n hJ dX9_findBest_82 rfl ?_
      refine mj_aload_n hJ dX9_findBest_83 rfl ?_
      refine mk_getR hJ dX9_findBest_84 fw_X9_28 rfl (by decide) rfl rfl ?_
      refine mj_iload_n hJ dX9_findBest_87 rfl ?_
      refine mk_iald hJ dX9_findBest_88 rfl (by omega) (by omega) ?_
      rw [upI_at, if_pos rfl]
      refine mk_Vp2 hJ dX9_findBest_89 cw_X9_126 rfl rfl rfl rfl (Nat.le_of_ble_eq_true rfl) (by decide) (c_X9_harm k (C - U) (by omega) (by omega) (by omega) (by omega) (by rw [upI_ne (by decide), upI_ne (by decide), e112]; exact hw)) ?_
      rw [upI_ne (by decide), upI_ne (by decide), e112]
      have hfb := fst_bd hw (v := k) (by omega) (by omega) U.toNat (by omega)
      have hhb := hrm_bd hw (v := k) (by omega) (by omega) (p := C - U) (by omega) (by omega)
      first | refine ms_isub hJ dX9_findBest_92 (by omega) ?_ | refine mj_isub hJ dX9_findBest_92 ?_
      refine mk_iast hJ dX9_findBest_93 rfl (by omega) (by omega) ?_
      refine mj_aload_n hJ dX9_findBest_94 rfl ?_
      refine mk_getR hJ dX9_findBest_95 fw_X9_28 rfl (by decide) rfl rfl ?_
      refine mj_iload_n hJ dX9_findBest_98 rfl ?_
      refine mk_iald hJ dX9_findBest_99 rfl (by omega) (by omega) ?_
      rw [upI_ne (by decide), upI_at, if_pos rfl]
      refine ms_istore_n (ls' := [_, _, _, _, _]) hJ dX9_findBest_100 (by decide) rfl rfl ?_
      refine ms_iinc (ls' := [_, _, _, _, _]) hJ dX9_findBest_101 rfl (by decide) rfl (wr_id (by omega)) rfl ?_
      refine mj_goto (tgt := 11) hJ dX9_findBest_104 (by decide) ?_
      refine mj_drop (ls' := [_, _, _, _, vu]) hJ ⟨Or.inl rfl, Or.inl rfl, Or.inl rfl, Or.inl rfl, Or.inr rfl, trivial⟩ ?_
      have := ih (k + 1) (upI (upI (upI I2 117 k U) 118 k (C - U)) 119 k (fst (I 112) k U.toNat - hrm (I 112) k (C - U))) (by omega) (fun c hc => by rw [upI_ne (by omega), upI_ne (by omega), upI_ne (by omega)]; exact hf2 c hc) (fun v hv' => by
        rw [upI_ne (by decide), upI_ne (by decide), upI_at, upI_ne (by decide), upI_at, upI_at, upI_ne (by decide), upI_ne (by decide)]
        by_cases h : v = k
        · subst h
          rw [if_pos rfl, if_pos rfl, if_pos rfl, es2, hU]
          exact ⟨rfl, rfl, rfl⟩
        · rw [if_neg (by omega), if_neg (by omega), if_neg (by omega)]
          exact hv v (by omega))
      rw [es2] at this
      exact this
  exact loop (I 112 0).toNat 0 I1 (by omega) (fun _ _ => rfl) (fun v hv => absurd hv (by omega))
end M4
