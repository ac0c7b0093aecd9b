section C5
variable {G : GE} {I : Ints} {b : Bool} {f : Int → Int}
theorem runv_gQ {f : Int → Int} {a l : Int} (h : a ≤ l) : runv f a l = gQ f (infl f 10) l a 0 := by
  unfold runv gQ
  rw [if_pos h, Int.zero_add]
theorem inf10 {f : Int → Int} (hw : WN f) {l : Int} (hl : l < f 0) : (∀ v : Int, 0 ≤ v → v ≤ l → 0 ≤ infl f 10 v) ∧ (-1 ≤ l → sg (infl f 10) 0 l ≤ 148) := by
  have hn := hw.nv
  refine ⟨fun v x y => (infl_bd hw x (by omega) (by decide) (by decide)).1, fun h => ?_⟩
  have := sg_infl hw (w := 10) (by decide) (by decide) (a := 0) (l := l) (by omega) (by omega) (by omega)
  omega
theorem c_runL (hw : WN f) (hl : LN I f) (h44 : ∀ u, 0 ≤ u → u < f 0 → I 44 u = infl f 10 u) (a l : Int) (a0 : 0 ≤ a) (h1 : a ≤ l) (l1 : l < f 0) : MtI G yX7_mostMade cX7_mostMade 9 (some .int) 3 [vr 43, vr 1, vi a, vi l] I b (fun z I' b' => z = runv f a l ∧ b' = b ∧ (∀ c, (c < 51 ∨ 57 < c) → I' c = I c)) := by
  have hn := hw.nv
  have hs := sg_infl hw (w := 10) (by decide) (by decide) (a := a) (l := l) a0 (by omega) (by omega)
  exact mtI_mono (c_mostMadeQ hw hl a l (infl f 10) (fun v x y => h44 v (by omega) (by omega)) a0 (by omega) l1 (fun v x y => (infl_bd hw (by omega) (by omega) (by decide) (by decide)).1) (by omega)) (fun z I' b' k => ⟨by rw [k.1, runv_gQ h1], k.2.1, k.2.2.1⟩)
theorem c_fillDown (hw : WN f) (hl : LN I f) (h44 : ∀ u, 0 ≤ u → u < f 0 → I 44 u = infl f 10 u) : MtV G yX8_fillSharesDown cX8_fillSharesDown 4 4 [vr 0] I b (fun I' b' => b' = b ∧ (∀ c, (c < 51 ∨ 57 < c) → c ≠ 90 → I' c = I c) ∧ ∀ v : Int, 0 ≤ v → v < f 0 → I' 90 v = downv f v) := by
  refine mt_enterV (own := RX8) (ls0 := [vr 0, vu, vu, vu]) rfl (by decide +kernel) (Nat.le_of_ble_eq_true rfl) rfl (fun J hJ hR => ?_)
  have hn := hw.nv
  have loop : ∀ (m : Nat) (v : Int) (I1 : Ints), 0 ≤ v → v + m = f 0 → (∀ c, (c < 51 ∨ 57 < c) → c ≠ 90 → I1 c = I c) → (∀ u : Int, 0 ≤ u → u < v → I1 90 u = downv f u) → J 4 [vr 0, vi (if 0 < v then runv f 0 (v - 1) else 0), vi v, vu] [] (mk I1 b) := by
    intro m
    induction m with
    | zero =>
      intro v I1 v0 vm hf hB
      have e0 : I1 1 0 = f 0 := (congrFun (hf 1 (by decide) (by decide)) 0).trans hl.1.1
      refine mj_iload_n hJ dX8_fillSharesDown_4 rfl ?_
      refine mj_aload_n hJ dX8_fillSharesDown_5 rfl ?_
      refine mk_getR hJ dX8_fillSharesDown_6 fw_X8_12 rfl (by decide) rfl rfl ?_
      refine mk_getI (j' := 0) hJ dX8_fillSharesDown_9 fw_X8_94 rfl (by decide) rfl rfl ?_
      rw [e0]
      refine mj_icmp_ge (tgt := 46) hJ dX8_fillSharesDown_12 (by decide) (fun _ => ?_) (fun hno => absurd (by omega) hno)
      refine hR _ _ _ _ dX8_fillSharesDown_46 ⟨rfl, hf, fun u x y => hB u x (by omega)⟩
    | succ m ih =>
      intro v I1 v0 vm hf hB
      have e0 : I1 1 0 = f 0 := (congrFun (hf 1 (by decide) (by decide)) 0).trans hl.1.1
      have hl1 : LN I1 f := LN.same hw hl (fun c c1 c2 => hf c (by omega) (by omega))
      have rb := runv_bd hw (a := 0) (l := v) (by omega) v0 (by omega)
      have rb2 : -10800 ≤ (if 0 < v then runv f 0 (v - 1) else 0) ∧ (if 0 < v then runv f 0 (v - 1) else 0) ≤ 7128 := by
        by_cases c : 0 < v
        · rw [if_pos c]; exact runv_bd hw (by omega) (by omega) (by omega)
        · rw [if_neg c]; omega
      have ed : downv f v = runv f 0 v - (if 0 < v then runv f 0 (v - 1) else 0) := rfl
      refine mj_iload_n hJ dX8_fillSharesDown_4 rfl ?_
      refine mj_aload_n hJ dX8_fillSharesDown_5 rfl ?_
      refine mk_getR hJ dX8_fillSharesDown_6 fw_X8_12 rfl (by decide) rfl rfl ?_
      refine mk_getI (j' := 0) hJ dX8_fillSharesDown_9 fw_X8_94 rfl (by decide) rfl rfl ?_
      rw [e0]
      refine mj_icmp_ge (tgt := 46) hJ dX8_fillSharesDown_12 (by decide) (fun hyes => absurd hyes (by omega)) (fun _ => ?_)
      refine mj_aload_n hJ dX8_fillSharesDown_15 rfl ?_
      refine mk_getR hJ dX8_fillSharesDown_16 fw_X8_26 rfl (by decide) rfl rfl ?_
      refine mj_aload_n hJ dX8_fillSharesDown_19 rfl ?_
      refine mk_getR hJ dX8_fillSharesDown_20 fw_X8_12 rfl (by decide) rfl rfl ?_
      refine mj_iconst hJ dX8_fillSharesDown_23 (by decide) ?_
      refine mj_iload_n hJ dX8_fillSharesDown_24 rfl ?_
      refine mk_Vi3 hJ dX8_fillSharesDown_25 cw_X8_155 rfl rfl rfl rfl (Nat.le_of_ble_eq_true rfl) (by first | decide | omega) (c_runL hw hl1 (fun u x y => by rw [hf 44 (by decide) (by decide)]; exact h44 u x y) 0 v (by omega) v0 (by omega)) (fun z I2 b2 hq9 => ?_)
      obtain ⟨rfl, rfl, hf2⟩ := hq9
      refine ms_istore_n (ls' := [_, _, _, _]) hJ dX8_fillSharesDown_28 (by decide) rfl rfl ?_
      refine mj_aload_n hJ dX8_fillSharesDown_29 rfl ?_
      refine mk_getR hJ dX8_fillSharesDown_30 fw_X8_51 rfl (by decide) rfl rfl ?_
      refine mj_iload_n hJ dX8_fillSharesDown_33 rfl ?_
      refine mj_iload_n hJ dX8_fillSharesDown_34 rfl ?_
      refine mj_iload_n hJ dX8_fillSharesDown_35 rfl ?_
      first | refine ms_isub hJ dX8_fillSharesDown_36 (by omega) ?_ | refine mj_isub hJ dX8_fillSharesDown_36 ?_
      rw [← ed]
      refine mk_iast hJ dX8_fillSharesDown_37 rfl (by omega) (by omega) ?_
      refine mj_iload_n hJ dX8_fillSharesDown_38 rfl ?_
      refine ms_istore_n (ls' := [_, _, _, _]) hJ dX8_fillSharesDown_39 (by decide) rfl rfl ?_
      refine ms_iinc (ls' := [_, _, _, _]) hJ dX8_fillSharesDown_40 rfl (by decide) rfl (wr_id (by omega)) rfl ?_
      refine mj_goto (tgt := 4) hJ dX8_fillSharesDown_43 (by decide) ?_
      refine mj_drop (ls' := [_, _, _, vu]) hJ ⟨Or.inl rfl, Or.inl rfl, Or.inl rfl, Or.inr rfl, trivial⟩ ?_
      have ih := ih (v + 1) (upI I2 90 v (downv f v)) (by omega) (by omega) (fun c c1 c2 => by rw [upI_ne c2, hf2 c c1, hf c c1 c2]) (fun u x y => by
        rw [upI_at]
        by_cases e : u = v
        · subst e
          rw [if_pos rfl]
        · rw [if_neg e, hf2 90 (by decide)]
          exact hB u x (by omega))
      rw [if_pos (by omega), show v + 1 - 1 = v by omega] at ih
      exact ih
  refine mj_iconst hJ dX8_fillSharesDown_0 (by decide) ?_
  refine ms_istore_n (ls' := [_, _, _, _]) hJ dX8_fillSharesDown_1 (by decide) rfl rfl ?_
  refine mj_iconst hJ dX8_fillSharesDown_2 (by decide) ?_
  refine ms_istore_n (ls' := [_, _, _, _]) hJ dX8_fillSharesDown_3 (by decide) rfl rfl ?_
  exact loop (f 0).toNat 0 I (by omega) (by omega) (fun _ _ _ => rfl) (fun u x y => by omega)
theorem c_fillUp (hw : WN f) (hl : LN I f) (h44 : ∀ u, 0 ≤ u → u < f 0 → I 44 u = infl f 10 u) : MtV G yX8_fillSharesUp cX8_fillSharesUp 5 4 [vr 0] I b (fun I' b' => b' = b ∧ (∀ c, (c < 51 ∨ 57 < c) → c ≠ 90 → I' c = I c) ∧ ∀ v : Int, 0 ≤ v → v < f 0 → I' 90 v = upv f v) := by
  refine mt_enterV (own := RX8) (ls0 := [vr 0, vu, vu, vu, vu]) rfl (by decide +kernel) (Nat.le_of_ble_eq_true rfl) rfl (fun J hJ hR => ?_)
  have hn := hw.nv
  have loop : ∀ (m : Nat) (v : Int) (I1 : Ints), v = (m : Int) - 1 → v ≤ f 0 - 1 → (∀ c, (c < 51 ∨ 57 < c) → c ≠ 90 → I1 c = I c) → (∀ u : Int, v < u → u < f 0 → I1 90 u = upv f u) → J 14 [vr 0, vi (f 0 - 1), vi (if v < f 0 - 1 then runv f (v + 1) (f 0 - 1) else 0), vi v, vu] [] (mk I1 b) := by
    intro m
    induction m with
    | zero =>
      intro v I1 vm vl hf hB
      refine mj_iload_n hJ dX8_fillSharesUp_14 rfl ?_
      refine mj_if_lt (tgt := 52) hJ dX8_fillSharesUp_15 (by decide) (fun _ => ?_) (fun hno => absurd (by omega) hno)
      refine hR _ _ _ _ dX8_fillSharesUp_52 ⟨rfl, hf, fun u x y => hB u (by omega) y⟩
    | succ m ih =>
      intro v I1 vm vl hf hB
      have hl1 : LN I1 f := LN.same hw hl (fun c c1 c2 => hf c (by omega) (by omega))
      have rb := runv_bd hw (a := v) (l := f 0 - 1) (by omega) (by omega) (by omega)
      have rb2 : -10800 ≤ (if v < f 0 - 1 then runv f (v + 1) (f 0 - 1) else 0) ∧ (if v < f 0 - 1 then runv f (v + 1) (f 0 - 1) else 0) ≤ 7128 := by
        by_cases c : v < f 0 - 1
        · rw [if_pos c]; exact runv_bd hw (by omega) (by omega) (by omega)
        · rw [if_neg c]; omega
      have ed : upv f v = runv f v (f 0 - 1) - (if v < f 0 - 1 then runv f (v + 1) (f 0 - 1) else 0) := rfl
      refine mj_iload_n hJ dX8_fillSharesUp_14 rfl ?_
      refine mj_if_lt (tgt := 52) hJ dX8_fillSharesUp_15 (by decide) (fun hyes => absurd hyes (by omega)) (fun _ => ?_)
      refine mj_aload_n hJ dX8_fillSharesUp_18 rfl ?_
      refine mk_getR hJ dX8_fillSharesUp_19 fw_X8_26 rfl (by decide) rfl rfl ?_
      refine mj_aload_n hJ dX8_fillSharesUp_22 rfl ?_
      refine mk_getR hJ dX8_fillSharesUp_23 fw_X8_12 rfl (by decide) rfl rfl ?_
      refine mj_iload_n hJ dX8_fillSharesUp_26 rfl ?_
      refine mj_iload_n hJ dX8_fillSharesUp_27 rfl ?_
      refine mk_Vi3 hJ dX8_fillSharesUp_28 cw_X8_155 rfl rfl rfl rfl (Nat.le_of_ble_eq_true rfl) (by first | decide | omega) (c_runL hw hl1 (fun u x y => by rw [hf 44 (by decide) (by decide)]; exact h44 u x y) v (f 0 - 1) (by omega) (by omega) (by omega)) (fun z I2 b2 hq9 => ?_)
      obtain ⟨rfl, rfl, hf2⟩ := hq9
      refine ms_istore (ls' := [_, _, _, _, _]) hJ dX8_fillSharesUp_31 (by decide) rfl rfl ?_
      refine mj_aload_n hJ dX8_fillSharesUp_33 rfl ?_
      refine mk_getR hJ dX8_fillSharesUp_34 fw_X8_51 rfl (by decide) rfl rfl ?_
      refine mj_iload_n hJ dX8_fillSharesUp_37 rfl ?_
      refine mj_iload hJ dX8_fillSharesUp_38 rfl ?_
      refine mj_iload_n hJ dX8_fillSharesUp_40 rfl ?_
      first | refine ms_isub hJ dX8_fillSharesUp_41 (by omega) ?_ | refine mj_isub hJ dX8_fillSharesUp_41 ?_
      rw [← ed]
      refine mk_iast hJ dX8_fillSharesUp_42 rfl (by omega) (by omega) ?_
      refine mj_iload hJ dX8_fillSharesUp_43 rfl ?_
      refine ms_istore_n (ls' := [_, _, _, _, _]) hJ dX8_fillSharesUp_45 (by decide) rfl rfl ?_
      refine ms_iinc (ls' := [_, _, _, _, _]) hJ dX8_fillSharesUp_46 rfl (by decide) rfl (wr_id (by omega)) rfl ?_
      refine mj_goto (tgt := 14) hJ dX8_fillSharesUp_49 (by decide) ?_
      refine mj_drop (ls' := [_, _, _, _, vu]) hJ ⟨Or.inl rfl, Or.inl rfl, Or.inl rfl, Or.inl rfl, Or.inr rfl, trivial⟩ ?_
      have ih := ih (v - 1) (upI I2 90 v (upv f v)) (by omega) (by omega) (fun c c1 c2 => by rw [upI_ne c2, hf2 c c1, hf c c1 c2]) (fun u x y => by
        rw [upI_at]
        by_cases e : u = v
        · subst e
          rw [if_pos rfl]
        · rw [if_neg e, hf2 90 (by decide)]
          exact hB u (by omega) y)
      rw [if_pos (by omega), show v - 1 + 1 = v by omega] at ih
      rw [show v + -1 = v - 1 by omega]
      exact ih
  refine mj_aload_n hJ dX8_fillSharesUp_0 rfl ?_
  refine mk_getR hJ dX8_fillSharesUp_1 fw_X8_12 rfl (by decide) rfl rfl ?_
  refine mk_getI (j' := 0) hJ dX8_fillSharesUp_4 fw_X8_94 rfl (by decide) rfl rfl ?_
  rw [hl.1.1]
  refine mj_iconst hJ dX8_fillSharesUp_7 (by decide) ?_
  first | refine ms_isub hJ dX8_fillSharesUp_8 (by omega) ?_ | refine mj_isub hJ dX8_fillSharesUp_8 ?_
  refine ms_istore_n (ls' := [_, _, _, _, _]) hJ dX8_fillSharesUp_9 (by decide) rfl rfl ?_
  refine mj_iconst hJ dX8_fillSharesUp_10 (by decide) ?_
  refine ms_istore_n (ls' := [_, _, _, _, _]) hJ dX8_fillSharesUp_11 (by decide) rfl rfl ?_
  refine mj_iload_n hJ dX8_fillSharesUp_12 rfl ?_
  refine ms_istore_n (ls' := [_, _, _, _, _]) hJ dX8_fillSharesUp_13 (by decide) rfl rfl ?_
  have key := loop (f 0).toNat (f 0 - 1) I (by omega) (by omega) (fun _ _ _ => rfl) (fun u x y => by omega)
  rw [if_neg (by omega)] at key
  exact key
theorem c_fillEqual (hw : WN f) (hl : LN I f) (h44 : ∀ u, 0 ≤ u → u < f 0 → I 44 u = infl f 10 u) : MtV G yX8_fillSharesEqual cX8_fillSharesEqual 5 4 [vr 0] I b (fun I' b' => b' = b ∧ (∀ c, (c < 51 ∨ 57 < c) → c ≠ 90 → I' c = I c) ∧ ∀ v : Int, 0 ≤ v → v < f 0 → I' 90 v = equalv f v) := by
  refine mt_enterV (own := RX8) (ls0 := [vr 0, vu, vu, vu, vu]) rfl (by decide +kernel) (Nat.le_of_ble_eq_true rfl) rfl (fun J hJ hR => ?_)
  have hn := hw.nv
  obtain ⟨n, hn0⟩ : ∃ n, f 0 = n := ⟨_, rfl⟩
  refine mj_aload_n hJ dX8_fillSharesEqual_0 rfl ?_
  refine mk_getR hJ dX8_fillSharesEqual_1 fw_X8_12 rfl (by decide) rfl rfl ?_
  refine mk_getI (j' := 0) hJ dX8_fillSharesEqual_4 fw_X8_94 rfl (by decide) rfl rfl ?_
  rw [hl.1.1]
  refine ms_istore_n (ls' := [_, _, _, _, _]) hJ dX8_fillSharesEqual_7 (by decide) rfl rfl ?_
  refine mj_iload_n hJ dX8_fillSharesEqual_8 rfl ?_
  refine mj_if_ne (tgt := 13) hJ dX8_fillSharesEqual_9 (by decide) (fun hz => ?_) (fun hz => ?_)
  · have bb := bestv_bd hw (w := 10) (by decide) (by decide)
    refine mj_aload_n hJ dX8_fillSharesEqual_13 rfl ?_
    refine mk_getR hJ dX8_fillSharesEqual_14 fw_X8_26 rfl (by decide) rfl rfl ?_
    refine mj_aload_n hJ dX8_fillSharesEqual_17 rfl ?_
    refine mk_getR hJ dX8_fillSharesEqual_18 fw_X8_12 rfl (by decide) rfl rfl ?_
    refine mj_iconst hJ dX8_fillSharesEqual_21 (by decide) ?_
    refine mj_iload_n hJ dX8_fillSharesEqual_22 rfl ?_
    refine mj_iconst hJ dX8_fillSharesEqual_23 (by decide) ?_
    first | refine ms_isub hJ dX8_fillSharesEqual_24 (by omega) ?_ | refine mj_isub hJ dX8_fillSharesEqual_24 ?_
    refine mk_Vi3 hJ dX8_fillSharesEqual_25 cw_X8_155 rfl rfl rfl rfl (Nat.le_of_ble_eq_true rfl) (by first | decide | omega) (c_runL hw hl h44 0 (f 0 - 1) (by omega) (by omega) (by omega)) (fun z I2 b2 hq9 => ?_)
    obtain ⟨rfl, rfl, hf2⟩ := hq9
    have ez : runv f 0 (f 0 - 1) = bestv f 10 := by rw [runv_gQ (by omega), bestv_gQ hn.1]
    rw [ez]
    have hmod : 0 ≤ bestv f 10 % f 0 ∧ bestv f 10 % f 0 < f 0 := ⟨Int.emod_nonneg _ (by omega), Int.emod_lt_of_pos _ (by omega)⟩
    have hdiv : -20000 ≤ bestv f 10 / f 0 ∧ bestv f 10 / f 0 ≤ 20000 := by
      have e1 : f 0 = 1 ∨ f 0 = 2 ∨ f 0 = 3 ∨ f 0 = 4 ∨ f 0 = 5 ∨ f 0 = 6 := by omega
      rcases e1 with e | e | e | e | e | e <;> rw [e] <;> omega
    refine ms_istore_n (ls' := [_, _, _, _, _]) hJ dX8_fillSharesEqual_28 (by decide) rfl rfl ?_
    refine mj_iload_n hJ dX8_fillSharesEqual_29 rfl ?_
    refine mj_iload_n hJ dX8_fillSharesEqual_30 rfl ?_
    refine mk_Sp2 hJ dX8_fillSharesEqual_31 cw_X8_332 rfl (Nat.le_of_ble_eq_true rfl) (by first | decide | omega) (c_floorMod (bestv f 10) (f 0) (by omega) (by omega) (by omega)) ?_
    refine ms_istore_n (ls' := [_, _, _, _, _]) hJ dX8_fillSharesEqual_34 (by decide) rfl rfl ?_
    refine mj_iconst hJ dX8_fillSharesEqual_35 (by decide) ?_
    refine ms_istore (ls' := [_, _, _, _, _]) hJ dX8_fillSharesEqual_36 (by decide) rfl rfl ?_
    have loop : ∀ (m : Nat) (v : Int) (I1 : Ints), 0 ≤ v → v + m = f 0 → (∀ c, (c < 51 ∨ 57 < c) → c ≠ 90 → I1 c = I c) → (∀ u : Int, 0 ≤ u → u < v → I1 90 u = equalv f u) → J 38 [vr 0, vi (f 0), vi (bestv f 10), vi (bestv f 10 % f 0), vi v] [] (mk I1 b2) := by
      intro m
      induction m with
      | zero =>
        intro v I1 v0 vm hf hB
        refine mj_iload hJ dX8_fillSharesEqual_38 rfl ?_
        refine mj_iload_n hJ dX8_fillSharesEqual_40 rfl ?_
        refine mj_icmp_ge (tgt := 74) hJ dX8_fillSharesEqual_41 (by decide) (fun _ => ?_) (fun hno => absurd (by omega) hno)
        refine hR _ _ _ _ dX8_fillSharesEqual_74 ⟨rfl, hf, fun u x y => hB u x (by omega)⟩
      | succ m ih =>
        intro v I1 v0 vm hf hB
        have ee : equalv f v = bestv f 10 / f 0 + (if v < bestv f 10 % f 0 then 1 else 0) := rfl
        have K : ∀ y : Int, y = (if v < bestv f 10 % f 0 then 1 else 0) → J 66 [vr 0, vi (f 0), vi (bestv f 10), vi (bestv f 10 % f 0), vi v] [vi y, vi (bestv f 10 / f 0), vi v, vr 90] (mk I1 b2) := by
          intro y hy
          have hyb : y = 0 ∨ y = 1 := by rw [hy]; exact dec_bit
          first | refine ms_iadd hJ dX8_fillSharesEqual_66 (by omega) ?_ | refine mj_iadd hJ dX8_fillSharesEqual_66 ?_
          rw [hy, ← ee]
          refine mk_iast hJ dX8_fillSharesEqual_67 rfl (by omega) (by omega) ?_
          refine ms_iinc (ls' := [_, _, _, _, _]) hJ dX8_fillSharesEqual_68 rfl (by decide) rfl (wr_id (by omega)) rfl ?_
          refine mj_goto (tgt := 38) hJ dX8_fillSharesEqual_71 (by decide) ?_
          refine ih (v + 1) _ (by omega) (by omega) (fun c c1 c2 => by rw [upI_ne c2, hf c c1 c2]) (fun u x y => ?_)
          rw [upI_at]
          by_cases e : u = v
          · subst e
            rw [if_pos rfl]
          · rw [if_neg e]
            exact hB u x (by omega)
        refine mj_iload hJ dX8_fillSharesEqual_38 rfl ?_
        refine mj_iload_n hJ dX8_fillSharesEqual_40 rfl ?_
        refine mj_icmp_ge (tgt := 74) hJ dX8_fillSharesEqual_41 (by decide) (fun hyes => absurd hyes (by omega)) (fun _ => ?_)
        refine mj_aload_n hJ dX8_fillSharesEqual_44 rfl ?_
        refine mk_getR hJ dX8_fillSharesEqual_45 fw_X8_51 rfl (by decide) rfl rfl ?_
        refine mj_iload hJ dX8_fillSharesEqual_48 rfl ?_
        refine mj_iload_n hJ dX8_fillSharesEqual_50 rfl ?_
        refine mj_iload_n hJ dX8_fillSharesEqual_51 rfl ?_
        refine mk_Sp2 hJ dX8_fillSharesEqual_52 cw_X8_335 rfl (Nat.le_of_ble_eq_true rfl) (by first | decide | omega) (c_floorDiv (bestv f 10) (f 0) (by omega) (by omega) (by omega)) ?_
        refine mj_iload hJ dX8_fillSharesEqual_55 rfl ?_
        refine mj_iload_n hJ dX8_fillSharesEqual_57 rfl ?_
        refine mj_icmp_ge (tgt := 65) hJ dX8_fillSharesEqual_58 (by decide) (fun hc => ?_) (fun hc => ?_)
        · refine mj_iconst hJ dX8_fillSharesEqual_65 (by decide) ?_
          exact K 0 (by rw [if_neg (by omega)])
        · refine mj_iconst hJ dX8_fillSharesEqual_61 (by decide) ?_
          refine mj_goto (tgt := 66) hJ dX8_fillSharesEqual_62 (by decide) ?_
          exact K 1 (by rw [if_pos (by omega)])
    exact loop (f 0).toNat 0 I2 (by omega) (by omega) (fun c c1 _ => hf2 c c1) (fun u x y => by omega)
  · refine hR _ _ _ _ dX8_fillSharesEqual_12 ⟨rfl, fun _ _ _ => rfl, fun v x y => by omega⟩
theorem TF_zero {f : Int → Int} {T : List Ln} {w : Int} : TF f T w 0 = fun _ _ => 0 := by
  funext v c
  unfold TF
  rw [if_pos (by decide)]
theorem c_fillShares (hw : WN f) (hl : LN I f) (s : Int) (s0 : 0 ≤ s) (s1 : s ≤ 3) : MtV G yX8_fillShares cX8_fillShares 2 5 [vr 0, vi s] I b (fun I' b' => b' = b ∧ (∀ c, (c < 44 ∨ 57 < c) → c ≠ 90 → I' c = I c) ∧ ∀ v : Int, 0 ≤ v → v < f 0 → I' 90 v = shv f s v) := by
  refine mt_enterV (own := RX8) (ls0 := [vr 0, vi s]) rfl (by decide +kernel) (Nat.le_of_ble_eq_true rfl) rfl (fun J hJ hR => ?_)
  have hn := hw.nv
  have esh : ∀ v, shv f s v = if s = 0 then keepv f v else if s = 1 then downv f v else if s = 2 then upv f v else equalv f v := fun v => rfl
  refine mj_iload_n hJ dX8_fillShares_0 rfl ?_
  refine mj_if_ne (tgt := 43) hJ dX8_fillShares_1 (by decide) (fun hs0 => ?_) (fun hs0 => ?_)
  · refine mj_aload_n hJ dX8_fillShares_43 rfl ?_
    refine mk_getR hJ dX8_fillShares_44 fw_X8_26 rfl (by decide) rfl rfl ?_
    refine mj_aload_n hJ dX8_fillShares_47 rfl ?_
    refine mk_getR hJ dX8_fillShares_48 fw_X8_12 rfl (by decide) rfl rfl ?_
    refine mj_bipush hJ dX8_fillShares_51 (by decide) ?_
    refine mk_Vv2 hJ dX8_fillShares_53 cw_X8_159 rfl rfl rfl rfl (Nat.le_of_ble_eq_true rfl) (by first | decide | omega) (c_X7_fill hw hl 10 (by decide) (by decide)) (fun I1 b1 hq9 => ?_)
    obtain ⟨rfl, hf1, h44⟩ := hq9
    have hl1 : LN I1 f := LN.same hw hl (fun c c1 c2 => hf1 c (by omega))
    refine mj_iload_n hJ dX8_fillShares_56 rfl ?_
    refine mj_iconst hJ dX8_fillShares_57 (by decide) ?_
    refine mj_icmp_ne (tgt := 68) hJ dX8_fillShares_58 (by decide) (fun hs1 => ?_) (fun hs1 => ?_)
    · refine mj_iload_n hJ dX8_fillShares_68 rfl ?_
      refine mj_iconst hJ dX8_fillShares_69 (by decide) ?_
      refine mj_icmp_ne (tgt := 80) hJ dX8_fillShares_70 (by decide) (fun hs2 => ?_) (fun hs2 => ?_)
      · refine mj_aload_n hJ dX8_fillShares_80 rfl ?_
        refine mk_Vv0 hJ dX8_fillShares_81 cw_X8_329 rfl rfl rfl rfl (Nat.le_of_ble_eq_true rfl) (by first | decide | omega) (c_fillEqual hw hl1 h44) (fun I2 b2 hq9 => ?_)
        obtain ⟨rfl, hf2, hB⟩ := hq9
        refine hR _ _ _ _ dX8_fillShares_84 ⟨rfl, fun c c1 c2 => (hf2 c (by omega) c2).trans (hf1 c (by omega)), fun v x y => by rw [hB v x y, esh, if_neg hs0, if_neg hs1, if_neg hs2]⟩
      · refine mj_aload_n hJ dX8_fillShares_73 rfl ?_
        refine mk_Vv0 hJ dX8_fillShares_74 cw_X8_326 rfl rfl rfl rfl (Nat.le_of_ble_eq_true rfl) (by first | decide | omega) (c_fillUp hw hl1 h44) (fun I2 b2 hq9 => ?_)
        obtain ⟨rfl, hf2, hB⟩ := hq9
        refine mj_goto (tgt := 84) hJ dX8_fillShares_77 (by decide) ?_
        refine hR _ _ _ _ dX8_fillShares_84 ⟨rfl, fun c c1 c2 => (hf2 c (by omega) c2).trans (hf1 c (by omega)), fun v x y => by rw [hB v x y, esh, if_neg hs0, if_neg hs1, if_pos hs2]⟩
    · refine mj_aload_n hJ dX8_fillShares_61 rfl ?_
      refine mk_Vv0 hJ dX8_fillShares_62 cw_X8_323 rfl rfl rfl rfl (Nat.le_of_ble_eq_true rfl) (by first | decide | omega) (c_fillDown hw hl1 h44) (fun I2 b2 hq9 => ?_)
      obtain ⟨rfl, hf2, hB⟩ := hq9
      refine mj_goto (tgt := 84) hJ dX8_fillShares_65 (by decide) ?_
      refine hR _ _ _ _ dX8_fillShares_84 ⟨rfl, fun c c1 c2 => (hf2 c (by omega) c2).trans (hf1 c (by omega)), fun v x y => by rw [hB v x y, esh, if_neg hs0, if_pos hs1]⟩
  · refine mj_aload_n hJ dX8_fillShares_4 rfl ?_
    refine mk_getR hJ dX8_fillShares_5 fw_X8_26 rfl (by decide) rfl rfl ?_
    refine mj_aload_n hJ dX8_fillShares_8 rfl ?_
    refine mk_getR hJ dX8_fillShares_9 fw_X8_12 rfl (by decide) rfl rfl ?_
    refine mj_bipush hJ dX8_fillShares_12 (by decide) ?_
    refine mj_iconst hJ dX8_fillShares_14 (by decide) ?_
    refine mk_Vi3 hJ dX8_fillShares_15 cw_X8_233 rfl rfl rfl rfl (Nat.le_of_ble_eq_true rfl) (by first | decide | omega) (c_X7_follow hw hl [] 10 0 (by decide) (by decide) (Or.inl ⟨by decide, by decide⟩) (fun q => absurd q (by decide))) (fun z I1 b1 hq9 => ?_)
    obtain ⟨rfl, rfl, hf1, hB⟩ := hq9
    have e0 : I1 1 0 = f 0 := (congrFun (hf1 1 (by decide)) 0).trans hl.1.1
    refine mj_popi hJ dX8_fillShares_18 ?_
    refine mj_aload_n hJ dX8_fillShares_19 rfl ?_
    refine mk_getR hJ dX8_fillShares_20 fw_X8_26 rfl (by decide) rfl rfl ?_
    refine mk_getR hJ dX8_fillShares_23 fw_X8_149 rfl (by decide) rfl rfl ?_
    refine mj_iconst hJ dX8_fillShares_26 (by decide) ?_
    refine mj_aload_n hJ dX8_fillShares_27 rfl ?_
    refine mk_getR hJ dX8_fillShares_28 fw_X8_51 rfl (by decide) rfl rfl ?_
    refine mj_iconst hJ dX8_fillShares_31 (by decide) ?_
    refine mj_aload_n hJ dX8_fillShares_32 rfl ?_
    refine mk_getR hJ dX8_fillShares_33 fw_X8_12 rfl (by decide) rfl rfl ?_
    refine mk_getI (j' := 0) hJ dX8_fillShares_36 fw_X8_94 rfl (by decide) rfl rfl ?_
    rw [e0]
    refine mk_copy hJ dX8_fillShares_39 cp_X8_317 rfl rfl (by omega) (by omega) (by omega) (by omega) (by omega) (by decide) (Nat.le_of_ble_eq_true rfl) ?_
    refine hR _ _ _ _ dX8_fillShares_42 ⟨rfl, fun c c1 c2 => ?_, fun v x y => ?_⟩
    · have : cpI I1 49 90 0 0 (f 0) c = I1 c := funext fun j => by simp [cpI, c2]
      rw [this]
      exact hf1 c (by omega)
    · have : cpI I1 49 90 0 0 (f 0) 90 v = I1 49 v := by
        unfold cpI
        rw [if_pos ⟨rfl, x, by omega⟩]
        congr 1
        omega
      rw [this, (hB v x y).2.2.2.2, esh, if_pos hs0, TF_zero]
      rfl
theorem c_breakOfShares (hw : WN f) (hl : LN I f) (sh : Int → Int) (h90 : ∀ v : Int, 0 ≤ v → v < f 0 → I 90 v = sh v) (hs : ∀ v : Int, 0 ≤ v → v < f 0 → -100000 ≤ sh v ∧ sh v ≤ 100000) : MtI G yX8_breakOfShares cX8_breakOfShares 4 (some .int) 4 [vr 0] I b (fun z I' b' => z = brk f sh ∧ b' = b ∧ (∀ c, (c < 44 ∨ 57 < c) → I' c = I c)) := by
  refine mt_enterI (own := RX8) (ls0 := [vr 0, vu, vu, vu]) rfl (by decide +kernel) (Nat.le_of_ble_eq_true rfl) rfl rfl (fun J hJ hR => ?_)
  have hn := hw.nv
  have hL : ∀ {I1 : Ints}, (∀ c, (c < 44 ∨ 57 < c) → I1 c = I c) → LN I1 f := fun hf => LN.same hw hl (fun c c1 c2 => hf c (by omega))
  have LV : ∀ (m : Nat) (v : Int) (I1 : Ints), 0 ≤ v → v + m = f 0 → (∀ c, (c < 44 ∨ 57 < c) → I1 c = I c) → (∀ u, 0 ≤ u → u < f 0 → I1 44 u = infl f 10 u) → brkV f sh m v = brk f sh → J 91 [vr 0, vi v, vu, vu] [] (mk I1 b) := by
    intro m
    induction m with
    | zero =>
      intro v I1 hv hvm hf h44 he
      have hl1 := hL hf
      refine mj_iload_n hJ dX8_breakOfShares_91 rfl ?_
      refine mj_aload_n hJ dX8_breakOfShares_92 rfl ?_
      refine mk_getR hJ dX8_breakOfShares_93 fw_X8_12 rfl (by decide) rfl rfl ?_
      refine mk_getI (j' := 0) hJ dX8_breakOfShares_96 fw_X8_94 rfl (by decide) rfl rfl ?_
      rw [hl1.1.1]
      refine mj_icmp_ge (tgt := 128) hJ dX8_breakOfShares_99 (by decide) (fun _ => ?_) (fun hno => absurd (by omega) hno)
      refine mj_iconst hJ dX8_breakOfShares_128 (by decide) ?_
      exact hR _ _ _ _ _ dX8_breakOfShares_129 nar_i ⟨he, rfl, hf⟩
    | succ m ih =>
      intro v I1 hv hvm hf h44 he
      have hl1 := hL hf
      have he2 : brkV f sh (m + 1) v = if mostv f v < sh v then 200 + v else brkV f sh m (v + 1) := rfl
      refine mj_iload_n hJ dX8_breakOfShares_91 rfl ?_
      refine mj_aload_n hJ dX8_breakOfShares_92 rfl ?_
      refine mk_getR hJ dX8_breakOfShares_93 fw_X8_12 rfl (by decide) rfl rfl ?_
      refine mk_getI (j' := 0) hJ dX8_breakOfShares_96 fw_X8_94 rfl (by decide) rfl rfl ?_
      rw [hl1.1.1]
      refine mj_icmp_ge (tgt := 128) hJ dX8_breakOfShares_99 (by decide) (fun hyes => absurd hyes (by omega)) (fun _ => ?_)
      refine mj_aload_n hJ dX8_breakOfShares_102 rfl ?_
      refine mk_getR hJ dX8_breakOfShares_103 fw_X8_51 rfl (by decide) rfl rfl ?_
      refine mj_iload_n hJ dX8_breakOfShares_106 rfl ?_
      refine mk_iald hJ dX8_breakOfShares_107 rfl (by omega) (by omega) ?_
      rw [hf 90 (by decide), h90 v hv (by omega)]
      refine mj_aload_n hJ dX8_breakOfShares_108 rfl ?_
      refine mj_iload_n hJ dX8_breakOfShares_109 rfl ?_
      refine mk_Vp1 hJ dX8_breakOfShares_110 cw_X8_161 rfl rfl rfl rfl (Nat.le_of_ble_eq_true rfl) (by first | decide | omega) (c_mostOf hw hl1 v hv (by omega) h44) ?_
      refine mj_icmp_le (tgt := 122) hJ dX8_breakOfShares_113 (by decide) (fun h => ?_) (fun h => ?_)
      · refine ms_iinc (ls' := [_, _, _, _]) hJ dX8_breakOfShares_122 rfl (by decide) rfl (wr_id (by omega)) rfl ?_
        refine mj_goto (tgt := 91) hJ dX8_breakOfShares_125 (by decide) ?_
        refine ih (v + 1) I1 (by omega) (by omega) hf h44 ?_
        rw [← he, he2, if_neg (by omega)]
      · refine mj_sipush hJ dX8_breakOfShares_116 (by decide) ?_
        refine mj_iload_n hJ dX8_breakOfShares_119 rfl ?_
        first | refine ms_iadd hJ dX8_breakOfShares_120 (by omega) ?_ | refine mj_iadd hJ dX8_breakOfShares_120 ?_
        refine hR _ _ _ _ _ dX8_breakOfShares_121 nar_i ⟨?_, rfl, hf⟩
        rw [← he, he2, if_pos (by omega)]
  have LB : ∀ (a : Int), 0 ≤ a → a < f 0 → ∀ (m : Nat) (v s : Int) (I1 : Ints), a ≤ v → v + m = f 0 → -100000 * v ≤ s ∧ s ≤ 100000 * v → (∀ c, (c < 44 ∨ 57 < c) → I1 c = I c) → (∀ u, 0 ≤ u → u < f 0 → I1 44 u = infl f 10 u) →
      (∀ z, brkB f sh a m v s = some z → z = brk f sh) → (brkB f sh a m v s = none → ∀ I2 : Ints, (∀ c, (c < 44 ∨ 57 < c) → I2 c = I c) → (∀ u, 0 ≤ u → u < f 0 → I2 44 u = infl f 10 u) → J 83 [vr 0, vi a, vu, vu] [] (mk I2 b)) → J 30 [vr 0, vi a, vi s, vi v] [] (mk I1 b) := by
    intro a ha0 ha1 m
    induction m with
    | zero =>
      intro v s I1 hv hvm hb hf h44 hz hk
      have hl1 := hL hf
      refine mj_iload_n hJ dX8_breakOfShares_30 rfl ?_
      refine mj_aload_n hJ dX8_breakOfShares_31 rfl ?_
      refine mk_getR hJ dX8_breakOfShares_32 fw_X8_12 rfl (by decide) rfl rfl ?_
      refine mk_getI (j' := 0) hJ dX8_breakOfShares_35 fw_X8_94 rfl (by decide) rfl rfl ?_
      rw [hl1.1.1]
      refine mj_icmp_ge (tgt := 83) hJ dX8_breakOfShares_38 (by decide) (fun _ => ?_) (fun hno => absurd (by omega) hno)
      refine mj_drop (ls' := [_, _, vu, vu]) hJ ⟨Or.inl rfl, Or.inl rfl, Or.inr rfl, Or.inr rfl, trivial⟩ ?_
      exact hk rfl I1 hf h44
    | succ m ih =>
      intro v s I1 hv hvm hb hf h44 hz hk
      have hl1 := hL hf
      have hsv := hs v (by omega) (by omega)
      have he2 : brkB f sh a (m + 1) v s = if s + sh v < runv f a v then some (100 + 10 * a + v) else brkB f sh a m (v + 1) (s + sh v) := rfl
      refine mj_iload_n hJ dX8_breakOfShares_30 rfl ?_
      refine mj_aload_n hJ dX8_breakOfShares_31 rfl ?_
      refine mk_getR hJ dX8_breakOfShares_32 fw_X8_12 rfl (by decide) rfl rfl ?_
      refine mk_getI (j' := 0) hJ dX8_breakOfShares_35 fw_X8_94 rfl (by decide) rfl rfl ?_
      rw [hl1.1.1]
      refine mj_icmp_ge (tgt := 83) hJ dX8_breakOfShares_38 (by decide) (fun hyes => absurd hyes (by omega)) (fun _ => ?_)
      refine mj_iload_n hJ dX8_breakOfShares_41 rfl ?_
      refine mj_aload_n hJ dX8_breakOfShares_42 rfl ?_
      refine mk_getR hJ dX8_breakOfShares_43 fw_X8_51 rfl (by decide) rfl rfl ?_
      refine mj_iload_n hJ dX8_breakOfShares_46 rfl ?_
      refine mk_iald hJ dX8_breakOfShares_47 rfl (by omega) (by omega) ?_
      rw [hf 90 (by decide), h90 v (by omega) (by omega)]
      first | refine ms_iadd hJ dX8_breakOfShares_48 (by omega) ?_ | refine mj_iadd hJ dX8_breakOfShares_48 ?_
      refine ms_istore_n (ls' := [_, _, _, _]) hJ dX8_breakOfShares_49 (by decide) rfl rfl ?_
      refine mj_iload_n hJ dX8_breakOfShares_50 rfl ?_
      refine mj_aload_n hJ dX8_breakOfShares_51 rfl ?_
      refine mk_getR hJ dX8_breakOfShares_52 fw_X8_26 rfl (by decide) rfl rfl ?_
      refine mj_aload_n hJ dX8_breakOfShares_55 rfl ?_
      refine mk_getR hJ dX8_breakOfShares_56 fw_X8_12 rfl (by decide) rfl rfl ?_
      refine mj_iload_n hJ dX8_breakOfShares_59 rfl ?_
      refine mj_iload_n hJ dX8_breakOfShares_60 rfl ?_
      refine mk_Vi3 hJ dX8_breakOfShares_61 cw_X8_155 rfl rfl rfl rfl (Nat.le_of_ble_eq_true rfl) (by first | decide | omega) (c_runL hw hl1 h44 a v ha0 hv (by omega)) (fun z I2 b2 hq9 => ?_)
      obtain ⟨rfl, rfl, hf2⟩ := hq9
      have hf3 : ∀ c, (c < 44 ∨ 57 < c) → I2 c = I c := fun c hc => (hf2 c (by omega)).trans (hf c hc)
      have h443 : ∀ u, 0 ≤ u → u < f 0 → I2 44 u = infl f 10 u := fun u x y => by rw [hf2 44 (by decide)]; exact h44 u x y
      refine mj_icmp_ge (tgt := 77) hJ dX8_breakOfShares_64 (by decide) (fun h => ?_) (fun h => ?_)
      · refine ms_iinc (ls' := [_, _, _, _]) hJ dX8_breakOfShares_77 rfl (by decide) rfl (wr_id (by omega)) rfl ?_
        refine mj_goto (tgt := 30) hJ dX8_breakOfShares_80 (by decide) ?_
        rw [he2, if_neg (by omega)] at hz hk
        exact ih (v + 1) _ I2 (by omega) (by omega) (by omega) hf3 h443 hz hk
      · refine mj_bipush hJ dX8_breakOfShares_67 (by decide) ?_
        refine mj_bipush hJ dX8_breakOfShares_69 (by decide) ?_
        refine mj_iload_n hJ dX8_breakOfShares_71 rfl ?_
        first | refine ms_imul hJ dX8_breakOfShares_72 (by omega) ?_ | refine mj_imul hJ dX8_breakOfShares_72 ?_
        first | refine ms_iadd hJ dX8_breakOfShares_73 (by omega) ?_ | refine mj_iadd hJ dX8_breakOfShares_73 ?_
        refine mj_iload_n hJ dX8_breakOfShares_74 rfl ?_
        first | refine ms_iadd hJ dX8_breakOfShares_75 (by omega) ?_ | refine mj_iadd hJ dX8_breakOfShares_75 ?_
        refine hR _ _ _ _ _ dX8_breakOfShares_76 nar_i ⟨?_, rfl, hf3⟩
        rw [he2, if_pos (by omega)] at hz
        exact hz _ rfl
  have LA : ∀ (m : Nat) (a : Int) (I1 : Ints), 0 ≤ a → a + m = f 0 → (∀ c, (c < 44 ∨ 57 < c) → I1 c = I c) → (∀ u, 0 ≤ u → u < f 0 → I1 44 u = infl f 10 u) →
      (∀ z, brkA f sh m a = some z → z = brk f sh) → (brkA f sh m a = none → brkV f sh (f 0).toNat 0 = brk f sh) → J 15 [vr 0, vi a, vu, vu] [] (mk I1 b) := by
    intro m
    induction m with
    | zero =>
      intro a I1 ha ham hf h44 hz hk
      have hl1 := hL hf
      refine mj_iload_n hJ dX8_breakOfShares_15 rfl ?_
      refine mj_aload_n hJ dX8_breakOfShares_16 rfl ?_
      refine mk_getR hJ dX8_breakOfShares_17 fw_X8_12 rfl (by decide) rfl rfl ?_
      refine mk_getI (j' := 0) hJ dX8_breakOfShares_20 fw_X8_94 rfl (by decide) rfl rfl ?_
      rw [hl1.1.1]
      refine mj_icmp_ge (tgt := 89) hJ dX8_breakOfShares_23 (by decide) (fun _ => ?_) (fun hno => absurd (by omega) hno)
      refine mj_iconst hJ dX8_breakOfShares_89 (by decide) ?_
      refine ms_istore_n (ls' := [_, _, _, _]) hJ dX8_breakOfShares_90 (by decide) rfl rfl ?_
      exact LV (f 0).toNat 0 I1 (by omega) (by omega) hf h44 (hk rfl)
    | succ m ih =>
      intro a I1 ha ham hf h44 hz hk
      have hl1 := hL hf
      refine mj_iload_n hJ dX8_breakOfShares_15 rfl ?_
      refine mj_aload_n hJ dX8_breakOfShares_16 rfl ?_
      refine mk_getR hJ dX8_breakOfShares_17 fw_X8_12 rfl (by decide) rfl rfl ?_
      refine mk_getI (j' := 0) hJ dX8_breakOfShares_20 fw_X8_94 rfl (by decide) rfl rfl ?_
      rw [hl1.1.1]
      refine mj_icmp_ge (tgt := 89) hJ dX8_breakOfShares_23 (by decide) (fun hyes => absurd hyes (by omega)) (fun _ => ?_)
      refine mj_iconst hJ dX8_breakOfShares_26 (by decide) ?_
      refine ms_istore_n (ls' := [_, _, _, _]) hJ dX8_breakOfShares_27 (by decide) rfl rfl ?_
      refine mj_iload_n hJ dX8_breakOfShares_28 rfl ?_
      refine ms_istore_n (ls' := [_, _, _, _]) hJ dX8_breakOfShares_29 (by decide) rfl rfl ?_
      refine LB a ha (by omega) (m + 1) a 0 I1 (Int.le_refl _) (by omega) (by omega) hf h44 (fun z hB => ?_) (fun hB I2 hf2 h442 => ?_)
      · refine hz z ?_
        show (match brkB f sh a (m + 1) a 0 with | some z => some z | none => brkA f sh m (a + 1)) = some z
        rw [hB]
      · have eA : brkA f sh (m + 1) a = brkA f sh m (a + 1) := by
          show (match brkB f sh a (m + 1) a 0 with | some z => some z | none => brkA f sh m (a + 1)) = _
          rw [hB]
        rw [eA] at hz hk
        refine ms_iinc (ls' := [_, _, _, _]) hJ dX8_breakOfShares_83 rfl (by decide) rfl (wr_id (by omega)) rfl ?_
        refine mj_goto (tgt := 15) hJ dX8_breakOfShares_86 (by decide) ?_
        exact ih (a + 1) I2 (by omega) (by omega) hf2 h442 hz hk
  refine mj_aload_n hJ dX8_breakOfShares_0 rfl ?_
  refine mk_getR hJ dX8_breakOfShares_1 fw_X8_26 rfl (by decide) rfl rfl ?_
  refine mj_aload_n hJ dX8_breakOfShares_4 rfl ?_
  refine mk_getR hJ dX8_breakOfShares_5 fw_X8_12 rfl (by decide) rfl rfl ?_
  refine mj_bipush hJ dX8_breakOfShares_8 (by decide) ?_
  refine mk_Vv2 hJ dX8_breakOfShares_10 cw_X8_159 rfl rfl rfl rfl (Nat.le_of_ble_eq_true rfl) (by first | decide | omega) (c_X7_fill hw hl 10 (by decide) (by decide)) (fun I1 b1 hq9 => ?_)
  obtain ⟨rfl, hf1, h44⟩ := hq9
  refine mj_iconst hJ dX8_breakOfShares_13 (by decide) ?_
  refine ms_istore_n (ls' := [_, _, _, _]) hJ dX8_breakOfShares_14 (by decide) rfl rfl ?_
  refine LA (f 0).toNat 0 I1 (by omega) (by omega) (fun c hc => hf1 c (by omega)) h44 (fun z hz => ?_) (fun hz => ?_)
  · unfold brk
    rw [hz]
  · unfold brk
    rw [hz]
end C5
