section C13
variable {G : GE} {I N : Ints} {b : Bool} {T : List Ln}
theorem c_prove (h : RX I N T) : MtI G yX8_prove cX8_prove 2 (some .int) 5 [vr 0] I b (Xg I (F_prove N) (G_prove N) T) := by
  refine mt_enterI (own := RX8) (ls0 := [vr 0, vu]) rfl (by decide +kernel) (Nat.le_of_ble_eq_true rfl) rfl rfl (fun J hJ hR => ?_)
  have hw := h.1.1
  have hl := h.2.1.1
  have hn := hw.nv
  unfold F_prove G_prove at hR
  refine mj_aload_n hJ dX8_prove_0 rfl ?_
  refine mk_getR hJ dX8_prove_1 fw_X8_26 rfl (by decide) rfl rfl ?_
  refine mj_aload_n hJ dX8_prove_4 rfl ?_
  refine mk_getR hJ dX8_prove_5 fw_X8_12 rfl (by decide) rfl rfl ?_
  refine mj_bipush hJ dX8_prove_8 (by decide) ?_
  refine mk_Vv2 hJ dX8_prove_10 cw_X8_139 rfl rfl rfl rfl (Nat.le_of_ble_eq_true rfl) (by first | decide | omega) (c_X7_followBest hw hl 10 (by decide) (by decide)) (fun I1 b1 hq9 => ?_)
  obtain ⟨rfl, hf1, hB⟩ := hq9
  have loop : ∀ (m : Nat) (v : Int) (I2 : Ints), 0 ≤ v → v + m = N 112 0 → (∀ c, c < 92 ∨ 97 < c → I2 c = I1 c) → (∀ u k : Int, 0 ≤ u → u < v → 0 ≤ k → k < 3 → I2 (92 + u.toNat) k = prow (N 112) (N 135) (3 * u + k)) → J 15 [vr 0, vi v] [] (mk I2 b1) := by
    intro m
    induction m with
    | zero =>
      intro v I2 v0 vm hf hQ
      have e0 : I2 1 0 = N 112 0 := by rw [hf 1 (by decide), hf1 1 (by decide)]; exact hl.1.1
      refine mj_iload_n hJ dX8_prove_15 rfl ?_
      refine mj_aload_n hJ dX8_prove_16 rfl ?_
      refine mk_getR hJ dX8_prove_17 fw_X8_12 rfl (by decide) rfl rfl ?_
      refine mk_getI (j' := 0) hJ dX8_prove_20 fw_X8_94 rfl (by decide) rfl rfl ?_
      rw [e0]
      refine mj_icmp_ge (tgt := 75) hJ dX8_prove_23 (by decide) (fun _ => ?_) (fun hno => absurd (by omega) hno)
      refine mj_aload_n hJ dX8_prove_75 rfl ?_
      refine mj_aload_n hJ dX8_prove_76 rfl ?_
      refine mk_getR hJ dX8_prove_77 fw_X8_12 rfl (by decide) rfl rfl ?_
      refine mk_getI (j' := 0) hJ dX8_prove_80 fw_X8_94 rfl (by decide) rfl rfl ?_
      rw [e0]
      refine mk_putI (j' := 9) hJ dX8_prove_83 fw_X8_60 rfl (by decide) rfl rfl ?_
      refine mj_aload_n hJ dX8_prove_86 rfl ?_
      refine mk_getI (j' := 9) hJ dX8_prove_87 fw_X8_60 rfl (by decide) rfl rfl ?_
      rw [upI_at, if_pos rfl]
      refine hR _ _ _ _ _ dX8_prove_90 nar_i ⟨rfl, ?_, fun c hc => by rw [upI_ne (by omega), hf c (by omega), hf1 c (by omega)]⟩
      refine h.rws (fun c hc => by rw [upI_ne (by omega), hf c (by omega), hf1 c (by omega)]) (by rw [upI_at, if_neg (by decide), hf 0 (by decide), hf1 0 (by decide)]) (fun c c1 c2 => by rw [upI_ne c1, rowI_ne c2]) (fun j hj => by rw [upI_at, if_neg hj, rowI_ne (by decide)]) (by rw [upI_at, if_pos rfl]; exact hn) ?_
      refine ⟨by rw [upI_at, if_pos rfl, upI_at, if_pos rfl], fun i k i0 i1 k0 k1 => ?_⟩
      rw [upI_at, if_pos rfl] at i1
      rw [upI_ne (by omega), upI_ne (by decide), rowI_at]
      exact hQ i k i0 (by omega) k0 k1
    | succ m ih =>
      intro v I2 v0 vm hf hQ
      have e0 : I2 1 0 = N 112 0 := by rw [hf 1 (by decide), hf1 1 (by decide)]; exact hl.1.1
      have hBv := hB v v0 (by omega)
      have e47 : I2 47 v = bU (N 112) v := by rw [hf 47 (by decide)]; exact hBv.1
      have e48 : I2 48 v = bP (N 112) v := by rw [hf 48 (by decide)]; exact hBv.2.1
      have pw : ∀ k : Int, 0 ≤ k → k < 3 → prow (N 112) (N 135) (3 * v + k) = if k = 0 then v else if k = 1 then bU (N 112) v else bP (N 112) v := fun k k0 k1 => by
        unfold prow
        rw [if_pos (by omega), show (3 * v + k) % 3 = k by omega, show (3 * v + k) / 3 = v by omega]
      refine mj_iload_n hJ dX8_prove_15 rfl ?_
      refine mj_aload_n hJ dX8_prove_16 rfl ?_
      refine mk_getR hJ dX8_prove_17 fw_X8_12 rfl (by decide) rfl rfl ?_
      refine mk_getI (j' := 0) hJ dX8_prove_20 fw_X8_94 rfl (by decide) rfl rfl ?_
      rw [e0]
      refine mj_icmp_ge (tgt := 75) hJ dX8_prove_23 (by decide) (fun hyes => absurd hyes (by omega)) (fun _ => ?_)
      refine mj_aload_n hJ dX8_prove_26 rfl ?_
      refine mk_getR hJ dX8_prove_27 fw_X8_57 rfl (by decide) rfl rfl ?_
      refine mj_iload_n hJ dX8_prove_30 rfl ?_
      refine mk_aald hJ dX8_prove_31 rfl (Or.inl rfl) (by omega) (by omega) (gr_91 (by omega) (by omega)).1 ?_
      refine mj_iconst hJ dX8_prove_32 (by decide) ?_
      refine mj_iload_n hJ dX8_prove_33 rfl ?_
      refine mk_iast hJ dX8_prove_34 (gr_91 (b := true) (by omega) (by omega)).2 (by omega) (by omega) ?_
      refine mj_aload_n hJ dX8_prove_35 rfl ?_
      refine mk_getR hJ dX8_prove_36 fw_X8_57 rfl (by decide) rfl rfl ?_
      refine mj_iload_n hJ dX8_prove_39 rfl ?_
      refine mk_aald hJ dX8_prove_40 rfl (Or.inl rfl) (by omega) (by omega) (gr_91 (by omega) (by omega)).1 ?_
      refine mj_iconst hJ dX8_prove_41 (by decide) ?_
      refine mj_aload_n hJ dX8_prove_42 rfl ?_
      refine mk_getR hJ dX8_prove_43 fw_X8_26 rfl (by decide) rfl rfl ?_
      refine mk_getR hJ dX8_prove_46 fw_X8_143 rfl (by decide) rfl rfl ?_
      refine mj_iload_n hJ dX8_prove_49 rfl ?_
      refine mk_iald hJ dX8_prove_50 rfl (by omega) (by omega) ?_
      rw [upI_ne (by omega), e47]
      refine mk_iast hJ dX8_prove_51 (gr_91 (b := true) (by omega) (by omega)).2 (by omega) (by omega) ?_
      refine mj_aload_n hJ dX8_prove_52 rfl ?_
      refine mk_getR hJ dX8_prove_53 fw_X8_57 rfl (by decide) rfl rfl ?_
      refine mj_iload_n hJ dX8_prove_56 rfl ?_
      refine mk_aald hJ dX8_prove_57 rfl (Or.inl rfl) (by omega) (by omega) (gr_91 (by omega) (by omega)).1 ?_
      refine mj_iconst hJ dX8_prove_58 (by decide) ?_
      refine mj_aload_n hJ dX8_prove_59 rfl ?_
      refine mk_getR hJ dX8_prove_60 fw_X8_26 rfl (by decide) rfl rfl ?_
      refine mk_getR hJ dX8_prove_63 fw_X8_146 rfl (by decide) rfl rfl ?_
      refine mj_iload_n hJ dX8_prove_66 rfl ?_
      refine mk_iald hJ dX8_prove_67 rfl (by omega) (by omega) ?_
      rw [upI_ne (by omega), upI_ne (by omega), e48]
      refine mk_iast hJ dX8_prove_68 (gr_91 (b := true) (by omega) (by omega)).2 (by omega) (by omega) ?_
      refine ms_iinc (ls' := [_, _]) hJ dX8_prove_69 rfl (by decide) rfl (wr_id (by omega)) rfl ?_
      refine mj_goto (tgt := 15) hJ dX8_prove_72 (by decide) ?_
      refine ih (v + 1) _ (by omega) (by omega) (fun c hc => by rw [upI_ne (by omega), upI_ne (by omega), upI_ne (by omega)]; exact hf c hc) (fun u k u0 u1 k0 k1 => ?_)
      by_cases e : u = v
      · subst e
        rw [pw k k0 k1, upI_at, upI_at, upI_at]
        by_cases k2 : k = 2
        · rw [if_pos k2, if_neg (by omega), if_neg (by omega)]
        · rw [if_neg k2]
          by_cases k3 : k = 1
          · rw [if_pos k3, if_neg (by omega), if_pos k3]
          · rw [if_neg k3, if_pos (by omega), if_pos (by omega)]
      · rw [upI_ne (by omega), upI_ne (by omega), upI_ne (by omega)]
        exact hQ u k u0 (by omega) k0 k1
  refine mj_iconst hJ dX8_prove_13 (by decide) ?_
  refine ms_istore_n (ls' := [_, _]) hJ dX8_prove_14 (by decide) rfl rfl ?_
  exact loop (N 112 0).toNat 0 I1 (Int.le_refl _) (by omega) (fun _ _ => rfl) (fun u k x y => by omega)
theorem c_row (h : RX I N T) (i w : Int) : MtI G yX8_row cX8_row 3 (some .int) 2 [vr 0, vi i, vi w] I b (Xg I (F_row N i w) N T) := by
  refine mt_enterI (own := RX8) (ls0 := [vr 0, vi i, vi w]) rfl (by decide +kernel) (Nat.le_of_ble_eq_true rfl) rfl rfl (fun J hJ hR => ?_)
  have hs := h.1.2.1
  have hr := h.2.2.1
  unfold F_row at hR
  refine mj_aload_n hJ dX8_row_0 rfl ?_
  refine mj_iload_n hJ dX8_row_1 rfl ?_
  refine mj_iload_n hJ dX8_row_2 rfl ?_
  refine mk_Vp2 hJ dX8_row_3 cw_X8_256 rfl rfl rfl rfl (Nat.le_of_ble_eq_true rfl) (by first | decide | omega) (c_isRowPart i w (by rw [hr.1]; exact hs.1.1) (by rw [hr.1]; exact hs.1.2)) ?_
  rw [hr.1]
  by_cases c : rowP N i w
  · have h31 := hs.1
    have c1 := c.1
    rw [if_pos c] at hR ⊢
    refine mj_if_eq (tgt := 20) hJ dX8_row_6 (by decide) (fun hyes => absurd hyes (by decide)) (fun _ => ?_)
    refine mj_aload_n hJ dX8_row_9 rfl ?_
    refine mk_getR hJ dX8_row_10 fw_X8_57 rfl (by decide) rfl rfl ?_
    refine mj_iload_n hJ dX8_row_13 rfl ?_
    refine mk_aald hJ dX8_row_14 rfl (Or.inl rfl) (by omega) (by omega) (gr_91 (by omega) (by omega)).1 ?_
    refine mj_iload_n hJ dX8_row_15 rfl ?_
    refine mk_iald hJ dX8_row_16 (gr_91 (b := true) (by omega) (by omega)).2 (by omega) (by omega) ?_
    rw [hr.2 i w c.1.1 c.1.2 c.2.1 (by omega)]
    refine mj_goto (tgt := 22) hJ dX8_row_17 (by decide) ?_
    exact hR _ _ _ _ _ dX8_row_22 nar_i h.refl
  · rw [if_neg c] at hR ⊢
    refine mj_if_eq (tgt := 20) hJ dX8_row_6 (by decide) (fun _ => ?_) (fun hno => absurd rfl hno)
    refine mj_bipush hJ dX8_row_20 (by decide) ?_
    exact hR _ _ _ _ _ dX8_row_22 nar_i h.refl
theorem c_alterRow (h : RX I N T) (i w v : Int) : MtI G yX8_alterRow cX8_alterRow 5 (some .int) 2 [vr 0, vi i, vi w, vi v] I b (Xg I (F_row N i w) (G_alterRow N i w v) T) := by
  refine mt_enterI (own := RX8) (ls0 := [vr 0, vi i, vi w, vi v, vu]) rfl (by decide +kernel) (Nat.le_of_ble_eq_true rfl) rfl rfl (fun J hJ hR => ?_)
  have hs := h.1.2.1
  have hr := h.2.2.1
  unfold F_row G_alterRow at hR
  refine mj_aload_n hJ dX8_alterRow_0 rfl ?_
  refine mj_iload_n hJ dX8_alterRow_1 rfl ?_
  refine mj_iload_n hJ dX8_alterRow_2 rfl ?_
  refine mk_Vp2 hJ dX8_alterRow_3 cw_X8_256 rfl rfl rfl rfl (Nat.le_of_ble_eq_true rfl) (by first | decide | omega) (c_isRowPart i w (by rw [hr.1]; exact hs.1.1) (by rw [hr.1]; exact hs.1.2)) ?_
  rw [hr.1]
  by_cases c : rowP N i w
  · have h31 := hs.1
    have c1 := c.1
    have c2 := c.2
    rw [if_pos c, if_pos c] at hR
    rw [if_pos c]
    refine mj_if_ne (tgt := 12) hJ dX8_alterRow_6 (by decide) (fun _ => ?_) (fun hno => absurd hno (by decide))
    refine mj_aload_n hJ dX8_alterRow_12 rfl ?_
    refine mk_getR hJ dX8_alterRow_13 fw_X8_57 rfl (by decide) rfl rfl ?_
    refine mj_iload_n hJ dX8_alterRow_16 rfl ?_
    refine mk_aald hJ dX8_alterRow_17 rfl (Or.inl rfl) (by omega) (by omega) (gr_91 (by omega) (by omega)).1 ?_
    refine mj_iload_n hJ dX8_alterRow_18 rfl ?_
    refine mk_iald hJ dX8_alterRow_19 (gr_91 (b := true) (by omega) (by omega)).2 (by omega) (by omega) ?_
    rw [hr.2 i w c.1.1 c.1.2 c.2.1 (by omega)]
    refine ms_istore (ls' := [_, _, _, _, _]) hJ dX8_alterRow_20 (by decide) rfl rfl ?_
    refine mj_aload_n hJ dX8_alterRow_22 rfl ?_
    refine mk_getR hJ dX8_alterRow_23 fw_X8_57 rfl (by decide) rfl rfl ?_
    refine mj_iload_n hJ dX8_alterRow_26 rfl ?_
    refine mk_aald hJ dX8_alterRow_27 rfl (Or.inl rfl) (by omega) (by omega) (gr_91 (by omega) (by omega)).1 ?_
    refine mj_iload_n hJ dX8_alterRow_28 rfl ?_
    refine mj_iload_n hJ dX8_alterRow_29 rfl ?_
    refine mk_iast hJ dX8_alterRow_30 (gr_91 (b := true) (by omega) (by omega)).2 (by omega) (by omega) ?_
    refine mj_iload hJ dX8_alterRow_31 rfl ?_
    refine hR _ _ _ _ _ dX8_alterRow_33 nar_i ⟨rfl, ?_, fun c hc => upI_ne (by omega)⟩
    refine h.rws (fun c hc => upI_ne (by omega)) (by rw [upI_ne (by omega)]) (fun c c1 c2 => upI_ne c2) (fun j hj => by rw [upI_ne (by decide)]) (by rw [upI_ne (by decide)]; exact hs.1) ?_
    refine ⟨by rw [upI_ne (by omega), upI_ne (by decide)]; exact hr.1, fun u k u0 u1 k0 k1 => ?_⟩
    rw [upI_ne (by decide)] at u1
    rw [upI_at]
    by_cases e : u = i
    · subst e
      rw [upI_at]
      by_cases e2 : k = w
      · rw [if_pos e2, if_pos (by omega)]
      · rw [if_neg e2, if_neg (by omega)]
        exact hr.2 u k u0 u1 k0 k1
    · rw [upI_ne (by omega), if_neg (by omega)]
      exact hr.2 u k u0 u1 k0 k1
  · rw [if_neg c, if_neg c] at hR
    rw [if_neg c]
    refine mj_if_ne (tgt := 12) hJ dX8_alterRow_6 (by decide) (fun hyes => absurd (by decide) hyes) (fun _ => ?_)
    refine mj_bipush hJ dX8_alterRow_9 (by decide) ?_
    exact hR _ _ _ _ _ dX8_alterRow_11 nar_i h.refl
theorem c_isRight (h : RX I N T) (h44 : ∀ u, 0 ≤ u → u < N 112 0 → I 44 u = infl (N 112) 10 u) (i ab : Int) (i0 : 0 ≤ i) (i1 : i < N 111 31) (a0 : 0 ≤ ab) (a1 : ab ≤ 200) : MtP G yX8_isRight cX8_isRight 5 (some .boolean) 2 [vr 0, vi i, vi ab] I b (if jdP N i ab then 1 else 0) := by
  refine mt_enterI (own := RX8) (ls0 := [vr 0, vi i, vi ab, vu, vu]) rfl (by decide +kernel) (Nat.le_of_ble_eq_true rfl) rfl rfl (fun J hJ hR => ?_)
  have hw := h.1.1
  have hl := h.2.1.1
  have hn := hw.nv
  have hs := h.1.2.1
  have hr := h.2.2.1
  have h31 := hs.1
  have e0 := hl.1.1
  have r0 := hr.2 i 0 i0 i1 (by decide) (by decide)
  have r1 := hr.2 i 1 i0 i1 (by decide) (by decide)
  have r2 := hr.2 i 2 i0 i1 (by decide) (by decide)
  rw [Int.add_zero] at r0
  have bad : ¬jdP N i ab → J 20 [vr 0, vi i, vi ab, vu, vu] [] (mk I b) := by
    intro q
    rw [if_neg q] at hR
    refine mj_iconst hJ dX8_isRight_20 (by decide) ?_
    exact hR _ _ _ _ _ dX8_isRight_21 (nar_z (by first | exact Or.inl rfl | exact Or.inr rfl | assumption | omega)) ⟨rfl, rfl, rfl⟩
  refine mj_aload_n hJ dX8_isRight_0 rfl ?_
  refine mj_iload_n hJ dX8_isRight_1 rfl ?_
  refine mk_Vp1 hJ dX8_isRight_2 cw_X8_101 rfl rfl rfl rfl (Nat.le_of_ble_eq_true rfl) (by first | decide | omega) (c_isVillage i (by rw [e0]; exact hn.1) (by rw [e0]; exact hn.2)) ?_
  rw [e0]
  by_cases c1 : 0 ≤ i ∧ i < N 112 0
  · rw [if_pos c1]
    have fl := infl_bd hw (v := i) (w := 10) i0 (by omega) (by decide) (by decide)
    have f10 : infl (N 112) 10 i = N 112 (10 + 18 * i + 0) := infl_10 i
    refine mj_if_eq (tgt := 20) hJ dX8_isRight_5 (by decide) (fun hyes => absurd hyes (by decide)) (fun _ => ?_)
    refine mj_aload_n hJ dX8_isRight_8 rfl ?_
    refine mk_getR hJ dX8_isRight_9 fw_X8_57 rfl (by decide) rfl rfl ?_
    refine mj_iload_n hJ dX8_isRight_12 rfl ?_
    refine mk_aald hJ dX8_isRight_13 rfl (Or.inl rfl) (by omega) (by omega) (gr_91 (by omega) (by omega)).1 ?_
    refine mj_iconst hJ dX8_isRight_14 (by decide) ?_
    refine mk_iald hJ dX8_isRight_15 (gr_91 (b := true) (by omega) (by omega)).2 (by omega) (by omega) ?_
    rw [r0]
    refine mj_iload_n hJ dX8_isRight_16 rfl ?_
    refine mj_icmp_eq (tgt := 22) hJ dX8_isRight_17 (by decide) (fun c2 => ?_) (fun c2 => ?_)
    · refine mj_iload_n hJ dX8_isRight_22 rfl ?_
      refine mj_aload_n hJ dX8_isRight_23 rfl ?_
      refine mk_getR hJ dX8_isRight_24 fw_X8_26 rfl (by decide) rfl rfl ?_
      refine mk_getR hJ dX8_isRight_27 fw_X8_152 rfl (by decide) rfl rfl ?_
      refine mj_iload_n hJ dX8_isRight_30 rfl ?_
      refine mk_iald hJ dX8_isRight_31 rfl (by omega) (by omega) ?_
      rw [h44 i c1.1 c1.2, f10]
      rw [f10] at fl
      first | refine ms_iadd hJ dX8_isRight_32 (by omega) ?_ | refine mj_iadd hJ dX8_isRight_32 ?_
      refine ms_istore_n (ls' := [_, _, _, _, _]) hJ dX8_isRight_33 (by decide) rfl rfl ?_
      refine mj_aload_n hJ dX8_isRight_34 rfl ?_
      refine mk_getR hJ dX8_isRight_35 fw_X8_57 rfl (by decide) rfl rfl ?_
      refine mj_iload_n hJ dX8_isRight_38 rfl ?_
      refine mk_aald hJ dX8_isRight_39 rfl (Or.inl rfl) (by omega) (by omega) (gr_91 (by omega) (by omega)).1 ?_
      refine mj_iconst hJ dX8_isRight_40 (by decide) ?_
      refine mk_iald hJ dX8_isRight_41 (gr_91 (b := true) (by omega) (by omega)).2 (by omega) (by omega) ?_
      rw [r1]
      refine ms_istore (ls' := [_, _, _, _, _]) hJ dX8_isRight_42 (by decide) rfl rfl ?_
      refine mj_iload hJ dX8_isRight_44 rfl ?_
      refine mj_iconst hJ dX8_isRight_46 (by decide) ?_
      refine mj_iload_n hJ dX8_isRight_47 rfl ?_
      refine mj_bipush hJ dX8_isRight_48 (by decide) ?_
      refine mk_Sp2 hJ dX8_isRight_50 cw_X8_312 rfl (Nat.le_of_ble_eq_true rfl) (by first | decide | omega) (c_min (ab + N 112 (10 + 18 * i + 0)) 12) ?_
      refine mk_Sp3 hJ dX8_isRight_53 cw_X8_105 rfl (Nat.le_of_ble_eq_true rfl) (by first | decide | omega) (c_within (N 135 (3 * i + 1)) 0 (min (ab + N 112 (10 + 18 * i + 0)) 12)) ?_
      by_cases c3 : 0 ≤ N 135 (3 * i + 1) ∧ N 135 (3 * i + 1) ≤ min (ab + N 112 (10 + 18 * i + 0)) 12
      · rw [if_pos c3]
        refine mj_if_eq (tgt := 78) hJ dX8_isRight_56 (by decide) (fun hyes => absurd hyes (by decide)) (fun _ => ?_)
        refine mj_aload_n hJ dX8_isRight_59 rfl ?_
        refine mk_getR hJ dX8_isRight_60 fw_X8_57 rfl (by decide) rfl rfl ?_
        refine mj_iload_n hJ dX8_isRight_63 rfl ?_
        refine mk_aald hJ dX8_isRight_64 rfl (Or.inl rfl) (by omega) (by omega) (gr_91 (by omega) (by omega)).1 ?_
        refine mj_iconst hJ dX8_isRight_65 (by decide) ?_
        refine mk_iald hJ dX8_isRight_66 (gr_91 (b := true) (by omega) (by omega)).2 (by omega) (by omega) ?_
        rw [r2]
        refine mj_iload_n hJ dX8_isRight_67 rfl ?_
        refine mj_iload hJ dX8_isRight_68 rfl ?_
        first | refine ms_isub hJ dX8_isRight_70 (by omega) ?_ | refine mj_isub hJ dX8_isRight_70 ?_
        refine mj_icmp_ne (tgt := 78) hJ dX8_isRight_71 (by decide) (fun c4 => ?_) (fun c4 => ?_)
        · rw [if_neg (fun q => c4 q.2.2.2)] at hR
          refine mj_iconst hJ dX8_isRight_78 (by decide) ?_
          exact hR _ _ _ _ _ dX8_isRight_79 (nar_z (by first | exact Or.inl rfl | exact Or.inr rfl | assumption | omega)) ⟨rfl, rfl, rfl⟩
        · rw [if_pos ⟨⟨c1.2, c2⟩, by omega, by omega, c4⟩] at hR
          refine mj_iconst hJ dX8_isRight_74 (by decide) ?_
          refine mj_goto (tgt := 79) hJ dX8_isRight_75 (by decide) ?_
          exact hR _ _ _ _ _ dX8_isRight_79 (nar_z (by first | exact Or.inl rfl | exact Or.inr rfl | assumption | omega)) ⟨rfl, rfl, rfl⟩
      · rw [if_neg c3]
        rw [if_neg (fun q => c3 (by have := q.2; omega))] at hR
        refine mj_if_eq (tgt := 78) hJ dX8_isRight_56 (by decide) (fun _ => ?_) (fun hno => absurd rfl hno)
        refine mj_iconst hJ dX8_isRight_78 (by decide) ?_
        exact hR _ _ _ _ _ dX8_isRight_79 (nar_z (by first | exact Or.inl rfl | exact Or.inr rfl | assumption | omega)) ⟨rfl, rfl, rfl⟩
    · exact bad (fun q => c2 q.1.2)
  · rw [if_neg c1]
    refine mj_if_eq (tgt := 20) hJ dX8_isRight_5 (by decide) (fun _ => ?_) (fun hno => absurd rfl hno)
    exact bad (fun q => c1 ⟨i0, q.1.1⟩)
theorem c_judge (h : RX I N T) : MtI G yX8_judge cX8_judge 5 (some .int) 5 [vr 0] I b (Xg I (F_judge N) N T) := by
  refine mt_enterI (own := RX8) (ls0 := [vr 0, vu, vu, vu, vu]) rfl (by decide +kernel) (Nat.le_of_ble_eq_true rfl) rfl rfl (fun J hJ hR => ?_)
  have hw := h.1.1
  have hl := h.2.1.1
  have hn := hw.nv
  have hs := h.1.2.1
  have h31 := hs.1
  unfold F_judge at hR
  refine mj_aload_n hJ dX8_judge_0 rfl ?_
  refine mj_bipush hJ dX8_judge_1 (by decide) ?_
  refine mk_Vi1 hJ dX8_judge_3 cw_X8_135 rfl rfl rfl rfl (Nat.le_of_ble_eq_true rfl) (by first | decide | omega) (c_bestOf hw hl 10 (by decide) (by decide)) (fun z I1 b1 hq9 => ?_)
  obtain ⟨rfl, rfl, hf1, h44⟩ := hq9
  have h1 : RX I1 N T := h.smc (SmC.of hf1)
  have hl1 := h1.2.1.1
  have hr1 := h1.2.2.1
  have hX : ∀ z, Xg I z N T z I1 b1 := fun z => ⟨rfl, h1, fun c hc => hf1 c (by omega)⟩
  have loop : ∀ (m : Nat) (i ab s : Int), 0 ≤ i → i + m = N 111 31 → (0 ≤ ab ∧ ab ≤ 12 * i) → (-2000 * i ≤ s ∧ s ≤ 2000 * i) → jdg N m i ab s = jdg N (N 111 31).toNat 0 0 0 → J 14 [vr 0, vi (bestv (N 112) 10), vi ab, vi s, vi i] [] (mk I1 b1) := by
    intro m
    induction m with
    | zero =>
      intro i ab s i0 im hab hsb he
      have he : (if N 111 31 = N 112 0 then (if s < bestv (N 112) 10 then 22 else 0) else 21) = jdg N (N 111 31).toNat 0 0 0 := he
      rw [← he] at hR
      refine mj_iload hJ dX8_judge_14 rfl ?_
      refine mj_aload_n hJ dX8_judge_16 rfl ?_
      refine mk_getI (j' := 9) hJ dX8_judge_17 fw_X8_60 rfl (by decide) rfl rfl ?_
      rw [hr1.1]
      refine mj_icmp_ge (tgt := 76) hJ dX8_judge_20 (by decide) (fun _ => ?_) (fun hno => absurd (by omega) hno)
      refine mj_aload_n hJ dX8_judge_76 rfl ?_
      refine mk_getI (j' := 9) hJ dX8_judge_77 fw_X8_60 rfl (by decide) rfl rfl ?_
      rw [hr1.1]
      refine mj_aload_n hJ dX8_judge_80 rfl ?_
      refine mk_getR hJ dX8_judge_81 fw_X8_12 rfl (by decide) rfl rfl ?_
      refine mk_getI (j' := 0) hJ dX8_judge_84 fw_X8_94 rfl (by decide) rfl rfl ?_
      rw [hl1.1.1]
      refine mj_icmp_eq (tgt := 93) hJ dX8_judge_87 (by decide) (fun hc => ?_) (fun hc => ?_)
      · rw [if_pos hc] at hR
        refine mj_iload_n hJ dX8_judge_93 rfl ?_
        refine mj_iload_n hJ dX8_judge_94 rfl ?_
        refine mj_icmp_ge (tgt := 103) hJ dX8_judge_95 (by decide) (fun hd => ?_) (fun hd => ?_)
        · rw [if_neg (by omega)] at hR
          refine mj_iconst hJ dX8_judge_103 (by decide) ?_
          exact hR _ _ _ _ _ dX8_judge_104 nar_i (hX _)
        · rw [if_pos (by omega)] at hR
          refine mj_bipush hJ dX8_judge_98 (by decide) ?_
          refine mj_goto (tgt := 104) hJ dX8_judge_100 (by decide) ?_
          exact hR _ _ _ _ _ dX8_judge_104 nar_i (hX _)
      · rw [if_neg hc] at hR
        refine mj_bipush hJ dX8_judge_90 (by decide) ?_
        exact hR _ _ _ _ _ dX8_judge_92 nar_i (hX _)
    | succ m ih =>
      intro i ab s i0 im hab hsb he
      have he2 : jdg N (m + 1) i ab s = if jdP N i ab then jdg N m (i + 1) (N 135 (3 * i + 2)) (s + mde (N 112) i (N 135 (3 * i + 1)) (N 135 (3 * i + 2))) else i + 1 := rfl
      rw [he2] at he
      have r1 := hr1.2 i 1 i0 (by omega) (by decide) (by decide)
      have r2 := hr1.2 i 2 i0 (by omega) (by decide) (by decide)
      refine mj_iload hJ dX8_judge_14 rfl ?_
      refine mj_aload_n hJ dX8_judge_16 rfl ?_
      refine mk_getI (j' := 9) hJ dX8_judge_17 fw_X8_60 rfl (by decide) rfl rfl ?_
      rw [hr1.1]
      refine mj_icmp_ge (tgt := 76) hJ dX8_judge_20 (by decide) (fun hyes => absurd hyes (by omega)) (fun _ => ?_)
      refine mj_aload_n hJ dX8_judge_23 rfl ?_
      refine mj_iload hJ dX8_judge_24 rfl ?_
      refine mj_iload_n hJ dX8_judge_26 rfl ?_
      refine mk_Vp2 hJ dX8_judge_27 cw_X8_259 rfl rfl rfl rfl (Nat.le_of_ble_eq_true rfl) (by first | decide | omega) (c_isRight h1 h44 i ab i0 (by omega) hab.1 (by omega)) ?_
      by_cases c : jdP N i ab
      · rw [if_pos c]
        rw [if_pos c] at he
        have c1 := c.1
        have c2 := c.2
        have fa := (hw.fact i0 (show i < 6 by omega)).1
        have mb := mde_bd hw i0 (show i < 6 by omega) (u := N 135 (3 * i + 1)) (p := N 135 (3 * i + 2)) (by omega) (by omega) (by omega)
        refine mj_if_ne (tgt := 38) hJ dX8_judge_30 (by decide) (fun _ => ?_) (fun hno => absurd hno (by decide))
        refine mj_aload_n hJ dX8_judge_38 rfl ?_
        refine mk_getR hJ dX8_judge_39 fw_X8_57 rfl (by decide) rfl rfl ?_
        refine mj_iload hJ dX8_judge_42 rfl ?_
        refine mk_aald hJ dX8_judge_44 rfl (Or.inl rfl) (by omega) (by omega) (gr_91 (by omega) (by omega)).1 ?_
        refine mj_iconst hJ dX8_judge_45 (by decide) ?_
        refine mk_iald hJ dX8_judge_46 (gr_91 (b := true) (by omega) (by omega)).2 (by omega) (by omega) ?_
        rw [r2]
        refine ms_istore_n (ls' := [_, _, _, _, _]) hJ dX8_judge_47 (by decide) rfl rfl ?_
        refine mj_iload_n hJ dX8_judge_48 rfl ?_
        refine mj_aload_n hJ dX8_judge_49 rfl ?_
        refine mk_getR hJ dX8_judge_50 fw_X8_12 rfl (by decide) rfl rfl ?_
        refine mj_iload hJ dX8_judge_53 rfl ?_
        refine mj_aload_n hJ dX8_judge_55 rfl ?_
        refine mk_getR hJ dX8_judge_56 fw_X8_57 rfl (by decide) rfl rfl ?_
        refine mj_iload hJ dX8_judge_59 rfl ?_
        refine mk_aald hJ dX8_judge_61 rfl (Or.inl rfl) (by omega) (by omega) (gr_91 (by omega) (by omega)).1 ?_
        refine mj_iconst hJ dX8_judge_62 (by decide) ?_
        refine mk_iald hJ dX8_judge_63 (gr_91 (b := true) (by omega) (by omega)).2 (by omega) (by omega) ?_
        rw [r1]
        refine mj_iload_n hJ dX8_judge_64 rfl ?_
        refine mk_Vp3 hJ dX8_judge_65 cw_X8_252 rfl rfl rfl rfl (Nat.le_of_ble_eq_true rfl) (by first | decide | omega) (c_X2_made hw hl1 i (N 135 (3 * i + 1)) (N 135 (3 * i + 2)) i0 (by omega) (by omega) (by omega) (by omega) (by omega)) ?_
        first | refine ms_iadd hJ dX8_judge_68 (by omega) ?_ | refine mj_iadd hJ dX8_judge_68 ?_
        refine ms_istore_n (ls' := [_, _, _, _, _]) hJ dX8_judge_69 (by decide) rfl rfl ?_
        refine ms_iinc (ls' := [_, _, _, _, _]) hJ dX8_judge_70 rfl (by decide) rfl (wr_id (by omega)) rfl ?_
        refine mj_goto (tgt := 14) hJ dX8_judge_73 (by decide) ?_
        exact ih (i + 1) _ _ (by omega) (by omega) (by omega) (by omega) he
      · rw [if_neg c]
        rw [if_neg c] at he
        rw [← he] at hR
        refine mj_if_ne (tgt := 38) hJ dX8_judge_30 (by decide) (fun hyes => absurd (by decide) hyes) (fun _ => ?_)
        refine mj_iload hJ dX8_judge_33 rfl ?_
        refine mj_iconst hJ dX8_judge_35 (by decide) ?_
        first | refine ms_iadd hJ dX8_judge_36 (by omega) ?_ | refine mj_iadd hJ dX8_judge_36 ?_
        exact hR _ _ _ _ _ dX8_judge_37 nar_i (hX _)
  refine ms_istore_n (ls' := [_, _, _, _, _]) hJ dX8_judge_6 (by decide) rfl rfl ?_
  refine mj_iconst hJ dX8_judge_7 (by decide) ?_
  refine ms_istore_n (ls' := [_, _, _, _, _]) hJ dX8_judge_8 (by decide) rfl rfl ?_
  refine mj_iconst hJ dX8_judge_9 (by decide) ?_
  refine ms_istore_n (ls' := [_, _, _, _, _]) hJ dX8_judge_10 (by decide) rfl rfl ?_
  refine mj_iconst hJ dX8_judge_11 (by decide) ?_
  refine ms_istore (ls' := [_, _, _, _, _]) hJ dX8_judge_12 (by decide) rfl rfl ?_
  exact loop (N 111 31).toNat 0 0 0 (Int.le_refl _) (by omega) (by omega) (by omega) rfl
theorem cpI_at {I : Nat → Int → Int} {k0 k1 : Nat} {n j : Int} (h0 : 0 ≤ j) (h1 : j < n) : cpI I k0 k1 0 0 n k1 j = I k0 j := by
  unfold cpI
  rw [if_pos ⟨rfl, h0, by omega⟩]
  congr 1
  omega
theorem tcl_congr {g1 g2 g3 g4 g1' g2' g3' g4' : Int → Int} (e1 : ∀ l, 0 ≤ l → l < 8 → g1' l = g1 l) (e2 : ∀ l, 0 ≤ l → l < 8 → g2' l = g2 l) (e3 : ∀ l, 0 ≤ l → l < 8 → g3' l = g3 l) (e4 : ∀ p, 0 ≤ p → p < 200 → g4' p = g4 p) : ∀ (L : List Ln) (l p : Int), 0 ≤ l → l + L.length ≤ 8 → 0 ≤ p → p + stn L ≤ 200 → tcl g1 g2 g3 g4 l p L → tcl g1' g2' g3' g4' l p L
  | [], _, _, _, _, _, _, _ => trivial
  | (v, m, s) :: L, l, p, l0, l1, p0, p1, h => by
    have hl : (((v, m, s) :: L).length : Int) = L.length + 1 := by rw [List.length_cons]; omega
    have hst : stn ((v, m, s) :: L) = s.length + stn L := rfl
    have hnn := stn_nn L
    refine ⟨⟨by rw [e1 l l0 (by omega)]; exact h.1.1, by rw [e2 l l0 (by omega)]; exact h.1.2.1, by rw [e3 l l0 (by omega)]; exact h.1.2.2.1, stp_congr s p (fun j a c => e4 j (by omega) (by omega)) h.1.2.2.2⟩, tcl_congr e1 e2 e3 e4 L (l + 1) _ (by omega) (by omega) (by omega) (by omega) h.2⟩
theorem c_tcopy_17_38 (hT : TC I 38 39 40 41 42 T) (hW : stn T ≤ 200) : MtV G yX5_copyFrom cX5_copyFrom 2 1 [vr 17, vr 38] I b (fun I' b' => b' = b ∧ (∀ c, c < 17 ∨ 21 < c → I' c = I c) ∧ TC I' 17 18 19 20 21 T) := by
  refine mt_enterV (own := RX5) (ls0 := [vr 17, vr 38]) rfl (by decide +kernel) (Nat.le_of_ble_eq_true rfl) rfl (fun J hJ hR => ?_)
  refine mj_aload_n hJ dX5_copyFrom_0 rfl ?_
  refine mj_aload_n hJ dX5_copyFrom_1 rfl ?_
  refine mk_getI (j' := 0) hJ dX5_copyFrom_2 fw_X5_7 rfl (by decide) rfl rfl ?_
  refine mk_putI (j' := 0) hJ dX5_copyFrom_5 fw_X5_7 rfl (by decide) rfl rfl ?_
  refine mj_aload_n hJ dX5_copyFrom_8 rfl ?_
  refine mj_aload_n hJ dX5_copyFrom_9 rfl ?_
  refine mk_getI (j' := 5) hJ dX5_copyFrom_10 fw_X5_26 rfl (by decide) rfl rfl ?_
  refine mk_putI (j' := 5) hJ dX5_copyFrom_13 fw_X5_26 rfl (by decide) rfl rfl ?_
  refine mj_aload_n hJ dX5_copyFrom_16 rfl ?_
  refine mk_getR hJ dX5_copyFrom_17 fw_X5_13 rfl (by decide) rfl rfl ?_
  refine mj_iconst hJ dX5_copyFrom_20 (by decide) ?_
  refine mj_aload_n hJ dX5_copyFrom_21 rfl ?_
  refine mk_getR hJ dX5_copyFrom_22 fw_X5_13 rfl (by decide) rfl rfl ?_
  refine mj_iconst hJ dX5_copyFrom_25 (by decide) ?_
  refine mj_bipush hJ dX5_copyFrom_26 (by decide) ?_
  refine mk_copy hJ dX5_copyFrom_28 cp_X5_41 rfl rfl (by omega) (by omega) (by omega) (by omega) (by omega) (by decide) (Nat.le_of_ble_eq_true rfl) ?_
  refine mj_aload_n hJ dX5_copyFrom_31 rfl ?_
  refine mk_getR hJ dX5_copyFrom_32 fw_X5_17 rfl (by decide) rfl rfl ?_
  refine mj_iconst hJ dX5_copyFrom_35 (by decide) ?_
  refine mj_aload_n hJ dX5_copyFrom_36 rfl ?_
  refine mk_getR hJ dX5_copyFrom_37 fw_X5_17 rfl (by decide) rfl rfl ?_
  refine mj_iconst hJ dX5_copyFrom_40 (by decide) ?_
  refine mj_bipush hJ dX5_copyFrom_41 (by decide) ?_
  refine mk_copy hJ dX5_copyFrom_43 cp_X5_41 rfl rfl (by omega) (by omega) (by omega) (by omega) (by omega) (by decide) (Nat.le_of_ble_eq_true rfl) ?_
  refine mj_aload_n hJ dX5_copyFrom_46 rfl ?_
  refine mk_getR hJ dX5_copyFrom_47 fw_X5_20 rfl (by decide) rfl rfl ?_
  refine mj_iconst hJ dX5_copyFrom_50 (by decide) ?_
  refine mj_aload_n hJ dX5_copyFrom_51 rfl ?_
  refine mk_getR hJ dX5_copyFrom_52 fw_X5_20 rfl (by decide) rfl rfl ?_
  refine mj_iconst hJ dX5_copyFrom_55 (by decide) ?_
  refine mj_bipush hJ dX5_copyFrom_56 (by decide) ?_
  refine mk_copy hJ dX5_copyFrom_58 cp_X5_41 rfl rfl (by omega) (by omega) (by omega) (by omega) (by omega) (by decide) (Nat.le_of_ble_eq_true rfl) ?_
  refine mj_aload_n hJ dX5_copyFrom_61 rfl ?_
  refine mk_getR hJ dX5_copyFrom_62 fw_X5_23 rfl (by decide) rfl rfl ?_
  refine mj_iconst hJ dX5_copyFrom_65 (by decide) ?_
  refine mj_aload_n hJ dX5_copyFrom_66 rfl ?_
  refine mk_getR hJ dX5_copyFrom_67 fw_X5_23 rfl (by decide) rfl rfl ?_
  refine mj_iconst hJ dX5_copyFrom_70 (by decide) ?_
  refine mj_sipush hJ dX5_copyFrom_71 (by decide) ?_
  refine mk_copy hJ dX5_copyFrom_74 cp_X5_41 rfl rfl (by omega) (by omega) (by omega) (by omega) (by omega) (by decide) (Nat.le_of_ble_eq_true rfl) ?_
  refine hR _ _ _ _ dX5_copyFrom_77 ⟨rfl, fun c hc => ?_, ?_⟩
  · rw [cpI_ne (by omega), cpI_ne (by omega), cpI_ne (by omega), cpI_ne (by omega), upI_ne (by omega), upI_ne (by omega)]
  · refine ⟨⟨?_, hT.1.2⟩, ?_⟩
    · rw [cpI_ne (by decide), cpI_ne (by decide), cpI_ne (by decide), cpI_ne (by decide), upI_at, if_neg (by decide), upI_at, if_pos rfl]
      exact hT.1.1
    · refine tcl_congr (fun l l0 l1 => ?_) (fun l l0 l1 => ?_) (fun l l0 l1 => ?_) (fun p p0 p1 => ?_) T 0 0 (Int.le_refl _) (by have := hT.1.2; omega) (Int.le_refl _) (by omega) hT.2
      · rw [cpI_ne (by decide), cpI_ne (by decide), cpI_ne (by decide), cpI_at l0 l1, upI_ne (by decide), upI_ne (by decide)]
      · rw [cpI_ne (by decide), cpI_ne (by decide), cpI_at l0 l1, cpI_ne (by decide), upI_ne (by decide), upI_ne (by decide)]
      · rw [cpI_ne (by decide), cpI_at l0 l1, cpI_ne (by decide), cpI_ne (by decide), upI_ne (by decide), upI_ne (by decide)]
      · rw [cpI_at p0 p1, cpI_ne (by decide), cpI_ne (by decide), cpI_ne (by decide), upI_ne (by decide), upI_ne (by decide)]
theorem c_tcopy_38_17 (hT : TC I 17 18 19 20 21 T) (hW : stn T ≤ 200) : MtV G yX5_copyFrom cX5_copyFrom 2 1 [vr 38, vr 17] I b (fun I' b' => b' = b ∧ (∀ c, c < 38 ∨ 42 < c → I' c = I c) ∧ TC I' 38 39 40 41 42 T) := by
  refine mt_enterV (own := RX5) (ls0 := [vr 38, vr 17]) rfl (by decide +kernel) (Nat.le_of_ble_eq_true rfl) rfl (fun J hJ hR => ?_)
  refine mj_aload_n hJ dX5_copyFrom_0 rfl ?_
  refine mj_aload_n hJ dX5_copyFrom_1 rfl ?_
  refine mk_getI (j' := 0) hJ dX5_copyFrom_2 fw_X5_7 rfl (by decide) rfl rfl ?_
  refine mk_putI (j' := 0) hJ dX5_copyFrom_5 fw_X5_7 rfl (by decide) rfl rfl ?_
  refine mj_aload_n hJ dX5_copyFrom_8 rfl ?_
  refine mj_aload_n hJ dX5_copyFrom_9 rfl ?_
  refine mk_getI (j' := 5) hJ dX5_copyFrom_10 fw_X5_26 rfl (by decide) rfl rfl ?_
  refine mk_putI (j' := 5) hJ dX5_copyFrom_13 fw_X5_26 rfl (by decide) rfl rfl ?_
  refine mj_aload_n hJ dX5_copyFrom_16 rfl ?_
  refine mk_getR hJ dX5_copyFrom_17 fw_X5_13 rfl (by decide) rfl rfl ?_
  refine mj_iconst hJ dX5_copyFrom_20 (by decide) ?_
  refine mj_aload_n hJ dX5_copyFrom_21 rfl ?_
  refine mk_getR hJ dX5_copyFrom_22 fw_X5_13 rfl (by decide) rfl rfl ?_
  refine mj_iconst hJ dX5_copyFrom_25 (by decide) ?_
  refine mj_bipush hJ dX5_copyFrom_26 (by decide) ?_
  refine mk_copy hJ dX5_copyFrom_28 cp_X5_41 rfl rfl (by omega) (by omega) (by omega) (by omega) (by omega) (by decide) (Nat.le_of_ble_eq_true rfl) ?_
  refine mj_aload_n hJ dX5_copyFrom_31 rfl ?_
  refine mk_getR hJ dX5_copyFrom_32 fw_X5_17 rfl (by decide) rfl rfl ?_
  refine mj_iconst hJ dX5_copyFrom_35 (by decide) ?_
  refine mj_aload_n hJ dX5_copyFrom_36 rfl ?_
  refine mk_getR hJ dX5_copyFrom_37 fw_X5_17 rfl (by decide) rfl rfl ?_
  refine mj_iconst hJ dX5_copyFrom_40 (by decide) ?_
  refine mj_bipush hJ dX5_copyFrom_41 (by decide) ?_
  refine mk_copy hJ dX5_copyFrom_43 cp_X5_41 rfl rfl (by omega) (by omega) (by omega) (by omega) (by omega) (by decide) (Nat.le_of_ble_eq_true rfl) ?_
  refine mj_aload_n hJ dX5_copyFrom_46 rfl ?_
  refine mk_getR hJ dX5_copyFrom_47 fw_X5_20 rfl (by decide) rfl rfl ?_
  refine mj_iconst hJ dX5_copyFrom_50 (by decide) ?_
  refine mj_aload_n hJ dX5_copyFrom_51 rfl ?_
  refine mk_getR hJ dX5_copyFrom_52 fw_X5_20 rfl (by decide) rfl rfl ?_
  refine mj_iconst hJ dX5_copyFrom_55 (by decide) ?_
  refine mj_bipush hJ dX5_copyFrom_56 (by decide) ?_
  refine mk_copy hJ dX5_copyFrom_58 cp_X5_41 rfl rfl (by omega) (by omega) (by omega) (by omega) (by omega) (by decide) (Nat.le_of_ble_eq_true rfl) ?_
  refine mj_aload_n hJ dX5_copyFrom_61 rfl ?_
  refine mk_getR hJ dX5_copyFrom_62 fw_X5_23 rfl (by decide) rfl rfl ?_
  refine mj_iconst hJ dX5_copyFrom_65 (by decide) ?_
  refine mj_aload_n hJ dX5_copyFrom_66 rfl ?_
  refine mk_getR hJ dX5_copyFrom_67 fw_X5_23 rfl (by decide) rfl rfl ?_
  refine mj_iconst hJ dX5_copyFrom_70 (by decide) ?_
  refine mj_sipush hJ dX5_copyFrom_71 (by decide) ?_
  refine mk_copy hJ dX5_copyFrom_74 cp_X5_41 rfl rfl (by omega) (by omega) (by omega) (by omega) (by omega) (by decide) (Nat.le_of_ble_eq_true rfl) ?_
  refine hR _ _ _ _ dX5_copyFrom_77 ⟨rfl, fun c hc => ?_, ?_⟩
  · rw [cpI_ne (by omega), cpI_ne (by omega), cpI_ne (by omega), cpI_ne (by omega), upI_ne (by omega), upI_ne (by omega)]
  · refine ⟨⟨?_, hT.1.2⟩, ?_⟩
    · rw [cpI_ne (by decide), cpI_ne (by decide), cpI_ne (by decide), cpI_ne (by decide), upI_at, if_neg (by decide), upI_at, if_pos rfl]
      exact hT.1.1
    · refine tcl_congr (fun l l0 l1 => ?_) (fun l l0 l1 => ?_) (fun l l0 l1 => ?_) (fun p p0 p1 => ?_) T 0 0 (Int.le_refl _) (by have := hT.1.2; omega) (Int.le_refl _) (by omega) hT.2
      · rw [cpI_ne (by decide), cpI_ne (by decide), cpI_ne (by decide), cpI_at l0 l1, upI_ne (by decide), upI_ne (by decide)]
      · rw [cpI_ne (by decide), cpI_ne (by decide), cpI_at l0 l1, cpI_ne (by decide), upI_ne (by decide), upI_ne (by decide)]
      · rw [cpI_ne (by decide), cpI_at l0 l1, cpI_ne (by decide), cpI_ne (by decide), upI_ne (by decide), upI_ne (by decide)]
      · rw [cpI_at p0 p1, cpI_ne (by decide), cpI_ne (by decide), cpI_ne (by decide), upI_ne (by decide), upI_ne (by decide)]
theorem c_tcopy_17_81 (hT : TC I 81 82 83 84 85 T) (hW : stn T ≤ 200) : MtV G yX5_copyFrom cX5_copyFrom 2 1 [vr 17, vr 81] I b (fun I' b' => b' = b ∧ (∀ c, c < 17 ∨ 21 < c → I' c = I c) ∧ TC I' 17 18 19 20 21 T) := by
  refine mt_enterV (own := RX5) (ls0 := [vr 17, vr 81]) rfl (by decide +kernel) (Nat.le_of_ble_eq_true rfl) rfl (fun J hJ hR => ?_)
  refine mj_aload_n hJ dX5_copyFrom_0 rfl ?_
  refine mj_aload_n hJ dX5_copyFrom_1 rfl ?_
  refine mk_getI (j' := 0) hJ dX5_copyFrom_2 fw_X5_7 rfl (by decide) rfl rfl ?_
  refine mk_putI (j' := 0) hJ dX5_copyFrom_5 fw_X5_7 rfl (by decide) rfl rfl ?_
  refine mj_aload_n hJ dX5_copyFrom_8 rfl ?_
  refine mj_aload_n hJ dX5_copyFrom_9 rfl ?_
  refine mk_getI (j' := 5) hJ dX5_copyFrom_10 fw_X5_26 rfl (by decide) rfl rfl ?_
  refine mk_putI (j' := 5) hJ dX5_copyFrom_13 fw_X5_26 rfl (by decide) rfl rfl ?_
  refine mj_aload_n hJ dX5_copyFrom_16 rfl ?_
  refine mk_getR hJ dX5_copyFrom_17 fw_X5_13 rfl (by decide) rfl rfl ?_
  refine mj_iconst hJ dX5_copyFrom_20 (by decide) ?_
  refine mj_aload_n hJ dX5_copyFrom_21 rfl ?_
  refine mk_getR hJ dX5_copyFrom_22 fw_X5_13 rfl (by decide) rfl rfl ?_
  refine mj_iconst hJ dX5_copyFrom_25 (by decide) ?_
  refine mj_bipush hJ dX5_copyFrom_26 (by decide) ?_
  refine mk_copy hJ dX5_copyFrom_28 cp_X5_41 rfl rfl (by omega) (by omega) (by omega) (by omega) (by omega) (by decide) (Nat.le_of_ble_eq_true rfl) ?_
  refine mj_aload_n hJ dX5_copyFrom_31 rfl ?_
  refine mk_getR hJ dX5_copyFrom_32 fw_X5_17 rfl (by decide) rfl rfl ?_
  refine mj_iconst hJ dX5_copyFrom_35 (by decide) ?_
  refine mj_aload_n hJ dX5_copyFrom_36 rfl ?_
  refine mk_getR hJ dX5_copyFrom_37 fw_X5_17 rfl (by decide) rfl rfl ?_
  refine mj_iconst hJ dX5_copyFrom_40 (by decide) ?_
  refine mj_bipush hJ dX5_copyFrom_41 (by decide) ?_
  refine mk_copy hJ dX5_copyFrom_43 cp_X5_41 rfl rfl (by omega) (by omega) (by omega) (by omega) (by omega) (by decide) (Nat.le_of_ble_eq_true rfl) ?_
  refine mj_aload_n hJ dX5_copyFrom_46 rfl ?_
  refine mk_getR hJ dX5_copyFrom_47 fw_X5_20 rfl (by decide) rfl rfl ?_
  refine mj_iconst hJ dX5_copyFrom_50 (by decide) ?_
  refine mj_aload_n hJ dX5_copyFrom_51 rfl ?_
  refine mk_getR hJ dX5_copyFrom_52 fw_X5_20 rfl (by decide) rfl rfl ?_
  refine mj_iconst hJ dX5_copyFrom_55 (by decide) ?_
  refine mj_bipush hJ dX5_copyFrom_56 (by decide) ?_
  refine mk_copy hJ dX5_copyFrom_58 cp_X5_41 rfl rfl (by omega) (by omega) (by omega) (by omega) (by omega) (by decide) (Nat.le_of_ble_eq_true rfl) ?_
  refine mj_aload_n hJ dX5_copyFrom_61 rfl ?_
  refine mk_getR hJ dX5_copyFrom_62 fw_X5_23 rfl (by decide) rfl rfl ?_
  refine mj_iconst hJ dX5_copyFrom_65 (by decide) ?_
  refine mj_aload_n hJ dX5_copyFrom_66 rfl ?_
  refine mk_getR hJ dX5_copyFrom_67 fw_X5_23 rfl (by decide) rfl rfl ?_
  refine mj_iconst hJ dX5_copyFrom_70 (by decide) ?_
  refine mj_sipush hJ dX5_copyFrom_71 (by decide) ?_
  refine mk_copy hJ dX5_copyFrom_74 cp_X5_41 rfl rfl (by omega) (by omega) (by omega) (by omega) (by omega) (by decide) (Nat.le_of_ble_eq_true rfl) ?_
  refine hR _ _ _ _ dX5_copyFrom_77 ⟨rfl, fun c hc => ?_, ?_⟩
  · rw [cpI_ne (by omega), cpI_ne (by omega), cpI_ne (by omega), cpI_ne (by omega), upI_ne (by omega), upI_ne (by omega)]
  · refine ⟨⟨?_, hT.1.2⟩, ?_⟩
    · rw [cpI_ne (by decide), cpI_ne (by decide), cpI_ne (by decide), cpI_ne (by decide), upI_at, if_neg (by decide), upI_at, if_pos rfl]
      exact hT.1.1
    · refine tcl_congr (fun l l0 l1 => ?_) (fun l l0 l1 => ?_) (fun l l0 l1 => ?_) (fun p p0 p1 => ?_) T 0 0 (Int.le_refl _) (by have := hT.1.2; omega) (Int.le_refl _) (by omega) hT.2
      · rw [cpI_ne (by decide), cpI_ne (by decide), cpI_ne (by decide), cpI_at l0 l1, upI_ne (by decide), upI_ne (by decide)]
      · rw [cpI_ne (by decide), cpI_ne (by decide), cpI_at l0 l1, cpI_ne (by decide), upI_ne (by decide), upI_ne (by decide)]
      · rw [cpI_ne (by decide), cpI_at l0 l1, cpI_ne (by decide), cpI_ne (by decide), upI_ne (by decide), upI_ne (by decide)]
      · rw [cpI_at p0 p1, cpI_ne (by decide), cpI_ne (by decide), cpI_ne (by decide), upI_ne (by decide), upI_ne (by decide)]
theorem c_lcopy_22 (f : Int → Int) (hw : WN f) (hl : LD I 1 3 10 16 f) (hT : TC I 17 18 19 20 21 T) (hW : stn T ≤ 200) : MtV G yX2_copyFrom cX2_copyFrom 3 2 [vr 22, vr 1] I b (fun I' b' => b' = b ∧ (∀ c, c < 22 ∨ 42 < c → I' c = I c) ∧ LD I' 22 24 31 37 f ∧ TC I' 38 39 40 41 42 T) := by
  refine mt_enterV (own := RX2) (ls0 := [vr 22, vr 1, vu]) rfl (by decide +kernel) (Nat.le_of_ble_eq_true rfl) rfl (fun J hJ hR => ?_)
  have hn := hw.nv
  have hy := hw.ny
  have loop : ∀ (m : Nat) (v : Int) (I1 : Ints), 0 ≤ v → v + m = 6 → (∀ c, c < 22 ∨ 37 ≤ c → I1 c = I c) → (∀ j, j ≠ 0 → I1 22 j = I 22 j) → I1 22 0 = f 0 → (∀ u k : Int, 0 ≤ u → u < v → 0 ≤ k → k < 6 → I1 (24 + u.toNat) k = I (3 + u.toNat) k) → (∀ u k : Int, 0 ≤ u → u < v → 0 ≤ k → k < 13 → I1 (31 + u.toNat) k = I (10 + u.toNat) k) → (∀ c, 1 ≤ c → c ≤ 21 → I1 c = I c) → J 10 [vr 22, vr 1, vi v] [] (mk I1 b) := by
    intro m
    induction m with
    | zero =>
      intro v I1 v0 vm hf h1 h0 hA hB hS
      refine mj_iload_n hJ dX2_copyFrom_10 rfl ?_
      refine mj_bipush hJ dX2_copyFrom_11 (by decide) ?_
      refine mj_icmp_ge (tgt := 60) hJ dX2_copyFrom_13 (by decide) (fun _ => ?_) (fun hno => absurd (by omega) hno)
      refine mj_aload_n hJ dX2_copyFrom_60 rfl ?_
      refine mj_aload_n hJ dX2_copyFrom_61 rfl ?_
      refine mk_getI (j' := 3) hJ dX2_copyFrom_62 fw_X2_23 rfl (by decide) rfl rfl ?_
      refine mk_putI (j' := 3) hJ dX2_copyFrom_65 fw_X2_23 rfl (by decide) rfl rfl ?_
      refine mj_aload_n hJ dX2_copyFrom_68 rfl ?_
      refine mk_getR hJ dX2_copyFrom_69 fw_X2_26 rfl (by decide) rfl rfl ?_
      refine mj_iconst hJ dX2_copyFrom_72 (by decide) ?_
      refine mj_aload_n hJ dX2_copyFrom_73 rfl ?_
      refine mk_getR hJ dX2_copyFrom_74 fw_X2_26 rfl (by decide) rfl rfl ?_
      refine mj_iconst hJ dX2_copyFrom_77 (by decide) ?_
      refine mj_bipush hJ dX2_copyFrom_78 (by decide) ?_
      refine mk_copy hJ dX2_copyFrom_80 cp_X2_46 rfl rfl (by omega) (by omega) (by omega) (by omega) (by omega) (by decide) (Nat.le_of_ble_eq_true rfl) ?_
      refine mj_aload_n hJ dX2_copyFrom_83 rfl ?_
      refine mj_aload_n hJ dX2_copyFrom_84 rfl ?_
      refine mk_getI (j' := 5) hJ dX2_copyFrom_85 fw_X2_30 rfl (by decide) rfl rfl ?_
      refine mk_putI (j' := 5) hJ dX2_copyFrom_88 fw_X2_30 rfl (by decide) rfl rfl ?_
      refine mj_aload_n hJ dX2_copyFrom_91 rfl ?_
      refine mj_aload_n hJ dX2_copyFrom_92 rfl ?_
      refine mk_getI (j' := 6) hJ dX2_copyFrom_93 fw_X2_33 rfl (by decide) rfl rfl ?_
      refine mk_putI (j' := 6) hJ dX2_copyFrom_96 fw_X2_33 rfl (by decide) rfl rfl ?_
      refine mj_aload_n hJ dX2_copyFrom_99 rfl ?_
      refine mk_getR hJ dX2_copyFrom_100 fw_X2_39 rfl (by decide) rfl rfl ?_
      refine mj_aload_n hJ dX2_copyFrom_103 rfl ?_
      refine mk_getR hJ dX2_copyFrom_104 fw_X2_39 rfl (by decide) rfl rfl ?_
      obtain ⟨I2, hI2⟩ : ∃ x, upI (upI (cpI (upI I1 22 3 (I1 1 3)) 16 37 0 0 6) 22 5 (cpI (upI I1 22 3 (I1 1 3)) 16 37 0 0 6 1 5)) 22 6 (upI (cpI (upI I1 22 3 (I1 1 3)) 16 37 0 0 6) 22 5 (cpI (upI I1 22 3 (I1 1 3)) 16 37 0 0 6 1 5) 1 6) = x := ⟨_, rfl⟩
      have n2 : ∀ c, c ≠ 22 → c ≠ 37 → I2 c = I1 c := fun c c1 c2 => by rw [← hI2, upI_ne c1, upI_ne c1, cpI_ne c2, upI_ne c1]
      have a3 : I2 22 3 = I 1 3 := by rw [← hI2, upI_at, if_neg (by decide), upI_at, if_neg (by decide), cpI_ne (by decide), upI_at, if_pos rfl, hS 1 (by decide) (by decide)]
      have a5 : I2 22 5 = I 1 5 := by rw [← hI2, upI_at, if_neg (by decide), upI_at, if_pos rfl, cpI_ne (by decide), upI_ne (by decide), hS 1 (by decide) (by decide)]
      have a6 : I2 22 6 = I 1 6 := by rw [← hI2, upI_at, if_pos rfl, upI_ne (by decide), cpI_ne (by decide), upI_ne (by decide), hS 1 (by decide) (by decide)]
      have a0 : I2 22 0 = f 0 := by rw [← hI2, upI_at, if_neg (by decide), upI_at, if_neg (by decide), cpI_ne (by decide), upI_at, if_neg (by decide)]; exact h0
      have a16 : ∀ y, 0 ≤ y → y < 6 → I2 37 y = I 16 y := fun y y0 y1 => by rw [← hI2, upI_ne (by decide), upI_ne (by decide), cpI_at y0 y1, upI_ne (by decide), hS 16 (by decide) (by decide)]
      rw [hI2]
      have hT2 : TC I2 17 18 19 20 21 T := by
        unfold TC
        rw [n2 17 (by decide) (by decide), n2 18 (by decide) (by decide), n2 19 (by decide) (by decide), n2 20 (by decide) (by decide), n2 21 (by decide) (by decide), hS 17 (by decide) (by decide), hS 18 (by decide) (by decide), hS 19 (by decide) (by decide), hS 20 (by decide) (by decide), hS 21 (by decide) (by decide)]
        exact hT
      refine mk_Vv1 hJ dX2_copyFrom_107 cw_X2_64 rfl rfl rfl rfl (Nat.le_of_ble_eq_true rfl) (by first | decide | omega) (c_tcopy_38_17 hT2 hW) (fun I3 b3 hq9 => ?_)
      obtain ⟨rfl, hf3, hT3⟩ := hq9
      refine hR _ _ _ _ dX2_copyFrom_110 ⟨rfl, fun c hc => by rw [hf3 c (by omega), n2 c (by omega) (by omega), hf c (by omega)], ?_, hT3⟩
      refine ⟨⟨by rw [hf3 22 (by decide)]; exact a0, by rw [hf3 22 (by decide), a3]; exact hl.1.2.1, by rw [hf3 22 (by decide), a5]; exact hl.1.2.2.1, by rw [hf3 22 (by decide), a6]; exact hl.1.2.2.2⟩, fun u k u0 u1 k0 k1 => ?_, fun u k u0 u1 k0 k1 => ?_, fun y y0 y1 => ?_⟩
      · rw [hf3 _ (by omega), n2 _ (by omega) (by omega), hA u k u0 (by omega) k0 k1]
        exact hl.fact u0 u1 k0 k1
      · rw [hf3 _ (by omega), n2 _ (by omega) (by omega), hB u k u0 (by omega) k0 (by omega)]
        exact hl.tog u0 u1 k0 k1
      · rw [hf3 _ (by decide), a16 y y0 (by omega)]
        exact hl.2.2.2 y y0 y1
    | succ m ih =>
      intro v I1 v0 vm hf h1 h0 hA hB hS
      refine mj_iload_n hJ dX2_copyFrom_10 rfl ?_
      refine mj_bipush hJ dX2_copyFrom_11 (by decide) ?_
      refine mj_icmp_ge (tgt := 60) hJ dX2_copyFrom_13 (by decide) (fun hyes => absurd hyes (by omega)) (fun _ => ?_)
      refine mj_aload_n hJ dX2_copyFrom_16 rfl ?_
      refine mk_getR hJ dX2_copyFrom_17 fw_X2_17 rfl (by decide) rfl rfl ?_
      refine mj_iload_n hJ dX2_copyFrom_20 rfl ?_
      refine mk_aald hJ dX2_copyFrom_21 rfl (Or.inl rfl) (by omega) (by omega) (gr_2 (by omega) (by omega)).1 ?_
      refine mj_iconst hJ dX2_copyFrom_22 (by decide) ?_
      refine mj_aload_n hJ dX2_copyFrom_23 rfl ?_
      refine mk_getR hJ dX2_copyFrom_24 fw_X2_17 rfl (by decide) rfl rfl ?_
      refine mj_iload_n hJ dX2_copyFrom_27 rfl ?_
      refine mk_aald hJ dX2_copyFrom_28 rfl (Or.inl rfl) (by omega) (by omega) (gr_23 (by omega) (by omega)).1 ?_
      refine mj_iconst hJ dX2_copyFrom_29 (by decide) ?_
      refine mj_bipush hJ dX2_copyFrom_30 (by decide) ?_
      refine mk_copy hJ dX2_copyFrom_32 cp_X2_46 (gr_2 (b := true) (by omega) (by omega)).2 (gr_23 (b := true) (by omega) (by omega)).2 (by omega) (by omega) (by omega) (by omega) (by omega) (by decide) (Nat.le_of_ble_eq_true rfl) ?_
      refine mj_aload_n hJ dX2_copyFrom_35 rfl ?_
      refine mk_getR hJ dX2_copyFrom_36 fw_X2_20 rfl (by decide) rfl rfl ?_
      refine mj_iload_n hJ dX2_copyFrom_39 rfl ?_
      refine mk_aald hJ dX2_copyFrom_40 rfl (Or.inl rfl) (by omega) (by omega) (gr_9 (by omega) (by omega)).1 ?_
      refine mj_iconst hJ dX2_copyFrom_41 (by decide) ?_
      refine mj_aload_n hJ dX2_copyFrom_42 rfl ?_
      refine mk_getR hJ dX2_copyFrom_43 fw_X2_20 rfl (by decide) rfl rfl ?_
      refine mj_iload_n hJ dX2_copyFrom_46 rfl ?_
      refine mk_aald hJ dX2_copyFrom_47 rfl (Or.inl rfl) (by omega) (by omega) (gr_30 (by omega) (by omega)).1 ?_
      refine mj_iconst hJ dX2_copyFrom_48 (by decide) ?_
      refine mj_bipush hJ dX2_copyFrom_49 (by decide) ?_
      refine mk_copy hJ dX2_copyFrom_51 cp_X2_46 (gr_9 (b := true) (by omega) (by omega)).2 (gr_30 (b := true) (by omega) (by omega)).2 (by omega) (by omega) (by omega) (by omega) (by omega) (by decide) (Nat.le_of_ble_eq_true rfl) ?_
      refine ms_iinc (ls' := [_, _, _]) hJ dX2_copyFrom_54 rfl (by decide) rfl (wr_id (by omega)) rfl ?_
      refine mj_goto (tgt := 10) hJ dX2_copyFrom_57 (by decide) ?_
      refine ih (v + 1) _ (by omega) (by omega) (fun c hc => by rw [cpI_ne (by omega), cpI_ne (by omega)]; exact hf c hc) (fun j hj => by rw [cpI_ne (by omega), cpI_ne (by omega)]; exact h1 j hj) (by rw [cpI_ne (by omega), cpI_ne (by omega)]; exact h0) (fun u k u0 u1 k0 k1 => ?_) (fun u k u0 u1 k0 k1 => ?_) (fun c c1 c2 => by rw [cpI_ne (by omega), cpI_ne (by omega)]; exact hS c c1 c2)
      · rw [cpI_ne (by omega)]
        by_cases e : u = v
        · subst e
          rw [cpI_at k0 k1, hS _ (by omega) (by omega)]
        · rw [cpI_ne (by omega)]
          exact hA u k u0 (by omega) k0 k1
      · by_cases e : u = v
        · subst e
          rw [cpI_at k0 k1, cpI_ne (by omega), hS _ (by omega) (by omega)]
        · rw [cpI_ne (by omega), cpI_ne (by omega)]
          exact hB u k u0 (by omega) k0 k1
  refine mj_aload_n hJ dX2_copyFrom_0 rfl ?_
  refine mj_aload_n hJ dX2_copyFrom_1 rfl ?_
  refine mk_getI (j' := 0) hJ dX2_copyFrom_2 fw_X2_9 rfl (by decide) rfl rfl ?_
  refine mk_putI (j' := 0) hJ dX2_copyFrom_5 fw_X2_9 rfl (by decide) rfl rfl ?_
  refine mj_iconst hJ dX2_copyFrom_8 (by decide) ?_
  refine ms_istore_n (ls' := [_, _, _]) hJ dX2_copyFrom_9 (by decide) rfl rfl ?_
  exact loop 6 0 _ (Int.le_refl _) rfl (fun c hc => upI_ne (by omega)) (fun j hj => by rw [upI_at, if_neg hj]) (by rw [upI_at, if_pos rfl]; exact hl.1.1) (fun u k x y => by omega) (fun u k x y => by omega) (fun c c1 c2 => upI_ne (by omega))
theorem c_lcopy_1 (f : Int → Int) (hw : WN f) (hl : LD I 22 24 31 37 f) (hT : TC I 38 39 40 41 42 T) (hW : stn T ≤ 200) : MtV G yX2_copyFrom cX2_copyFrom 3 2 [vr 1, vr 22] I b (fun I' b' => b' = b ∧ (∀ c, c < 1 ∨ 21 < c → I' c = I c) ∧ LD I' 1 3 10 16 f ∧ TC I' 17 18 19 20 21 T) := by
  refine mt_enterV (own := RX2) (ls0 := [vr 1, vr 22, vu]) rfl (by decide +kernel) (Nat.le_of_ble_eq_true rfl) rfl (fun J hJ hR => ?_)
  have hn := hw.nv
  have hy := hw.ny
  have loop : ∀ (m : Nat) (v : Int) (I1 : Ints), 0 ≤ v → v + m = 6 → (∀ c, c < 1 ∨ 16 ≤ c → I1 c = I c) → (∀ j, j ≠ 0 → I1 1 j = I 1 j) → I1 1 0 = f 0 → (∀ u k : Int, 0 ≤ u → u < v → 0 ≤ k → k < 6 → I1 (3 + u.toNat) k = I (24 + u.toNat) k) → (∀ u k : Int, 0 ≤ u → u < v → 0 ≤ k → k < 13 → I1 (10 + u.toNat) k = I (31 + u.toNat) k) → (∀ c, 22 ≤ c → c ≤ 42 → I1 c = I c) → J 10 [vr 1, vr 22, vi v] [] (mk I1 b) := by
    intro m
    induction m with
    | zero =>
      intro v I1 v0 vm hf h1 h0 hA hB hS
      refine mj_iload_n hJ dX2_copyFrom_10 rfl ?_
      refine mj_bipush hJ dX2_copyFrom_11 (by decide) ?_
      refine mj_icmp_ge (tgt := 60) hJ dX2_copyFrom_13 (by decide) (fun _ => ?_) (fun hno => absurd (by omega) hno)
      refine mj_aload_n hJ dX2_copyFrom_60 rfl ?_
      refine mj_aload_n hJ dX2_copyFrom_61 rfl ?_
      refine mk_getI (j' := 3) hJ dX2_copyFrom_62 fw_X2_23 rfl (by decide) rfl rfl ?_
      refine mk_putI (j' := 3) hJ dX2_copyFrom_65 fw_X2_23 rfl (by decide) rfl rfl ?_
      refine mj_aload_n hJ dX2_copyFrom_68 rfl ?_
      refine mk_getR hJ dX2_copyFrom_69 fw_X2_26 rfl (by decide) rfl rfl ?_
      refine mj_iconst hJ dX2_copyFrom_72 (by decide) ?_
      refine mj_aload_n hJ dX2_copyFrom_73 rfl ?_
      refine mk_getR hJ dX2_copyFrom_74 fw_X2_26 rfl (by decide) rfl rfl ?_
      refine mj_iconst hJ dX2_copyFrom_77 (by decide) ?_
      refine mj_bipush hJ dX2_copyFrom_78 (by decide) ?_
      refine mk_copy hJ dX2_copyFrom_80 cp_X2_46 rfl rfl (by omega) (by omega) (by omega) (by omega) (by omega) (by decide) (Nat.le_of_ble_eq_true rfl) ?_
      refine mj_aload_n hJ dX2_copyFrom_83 rfl ?_
      refine mj_aload_n hJ dX2_copyFrom_84 rfl ?_
      refine mk_getI (j' := 5) hJ dX2_copyFrom_85 fw_X2_30 rfl (by decide) rfl rfl ?_
      refine mk_putI (j' := 5) hJ dX2_copyFrom_88 fw_X2_30 rfl (by decide) rfl rfl ?_
      refine mj_aload_n hJ dX2_copyFrom_91 rfl ?_
      refine mj_aload_n hJ dX2_copyFrom_92 rfl ?_
      refine mk_getI (j' := 6) hJ dX2_copyFrom_93 fw_X2_33 rfl (by decide) rfl rfl ?_
      refine mk_putI (j' := 6) hJ dX2_copyFrom_96 fw_X2_33 rfl (by decide) rfl rfl ?_
      refine mj_aload_n hJ dX2_copyFrom_99 rfl ?_
      refine mk_getR hJ dX2_copyFrom_100 fw_X2_39 rfl (by decide) rfl rfl ?_
      refine mj_aload_n hJ dX2_copyFrom_103 rfl ?_
      refine mk_getR hJ dX2_copyFrom_104 fw_X2_39 rfl (by decide) rfl rfl ?_
      obtain ⟨I2, hI2⟩ : ∃ x, upI (upI (cpI (upI I1 1 3 (I1 22 3)) 37 16 0 0 6) 1 5 (cpI (upI I1 1 3 (I1 22 3)) 37 16 0 0 6 22 5)) 1 6 (upI (cpI (upI I1 1 3 (I1 22 3)) 37 16 0 0 6) 1 5 (cpI (upI I1 1 3 (I1 22 3)) 37 16 0 0 6 22 5) 22 6) = x := ⟨_, rfl⟩
      have n2 : ∀ c, c ≠ 1 → c ≠ 16 → I2 c = I1 c := fun c c1 c2 => by rw [← hI2, upI_ne c1, upI_ne c1, cpI_ne c2, upI_ne c1]
      have a3 : I2 1 3 = I 22 3 := by rw [← hI2, upI_at, if_neg (by decide), upI_at, if_neg (by decide), cpI_ne (by decide), upI_at, if_pos rfl, hS 22 (by decide) (by decide)]
      have a5 : I2 1 5 = I 22 5 := by rw [← hI2, upI_at, if_neg (by decide), upI_at, if_pos rfl, cpI_ne (by decide), upI_ne (by decide), hS 22 (by decide) (by decide)]
      have a6 : I2 1 6 = I 22 6 := by rw [← hI2, upI_at, if_pos rfl, upI_ne (by decide), cpI_ne (by decide), upI_ne (by decide), hS 22 (by decide) (by decide)]
      have a0 : I2 1 0 = f 0 := by rw [← hI2, upI_at, if_neg (by decide), upI_at, if_neg (by decide), cpI_ne (by decide), upI_at, if_neg (by decide)]; exact h0
      have a16 : ∀ y, 0 ≤ y → y < 6 → I2 16 y = I 37 y := fun y y0 y1 => by rw [← hI2, upI_ne (by decide), upI_ne (by decide), cpI_at y0 y1, upI_ne (by decide), hS 37 (by decide) (by decide)]
      rw [hI2]
      have hT2 : TC I2 38 39 40 41 42 T := by
        unfold TC
        rw [n2 38 (by decide) (by decide), n2 39 (by decide) (by decide), n2 40 (by decide) (by decide), n2 41 (by decide) (by decide), n2 42 (by decide) (by decide), hS 38 (by decide) (by decide), hS 39 (by decide) (by decide), hS 40 (by decide) (by decide), hS 41 (by decide) (by decide), hS 42 (by decide) (by decide)]
        exact hT
      refine mk_Vv1 hJ dX2_copyFrom_107 cw_X2_64 rfl rfl rfl rfl (Nat.le_of_ble_eq_true rfl) (by first | decide | omega) (c_tcopy_17_38 hT2 hW) (fun I3 b3 hq9 => ?_)
      obtain ⟨rfl, hf3, hT3⟩ := hq9
      refine hR _ _ _ _ dX2_copyFrom_110 ⟨rfl, fun c hc => by rw [hf3 c (by omega), n2 c (by omega) (by omega), hf c (by omega)], ?_, hT3⟩
      refine ⟨⟨by rw [hf3 1 (by decide)]; exact a0, by rw [hf3 1 (by decide), a3]; exact hl.1.2.1, by rw [hf3 1 (by decide), a5]; exact hl.1.2.2.1, by rw [hf3 1 (by decide), a6]; exact hl.1.2.2.2⟩, fun u k u0 u1 k0 k1 => ?_, fun u k u0 u1 k0 k1 => ?_, fun y y0 y1 => ?_⟩
      · rw [hf3 _ (by omega), n2 _ (by omega) (by omega), hA u k u0 (by omega) k0 k1]
        exact hl.fact u0 u1 k0 k1
      · rw [hf3 _ (by omega), n2 _ (by omega) (by omega), hB u k u0 (by omega) k0 (by omega)]
        exact hl.tog u0 u1 k0 k1
      · rw [hf3 _ (by decide), a16 y y0 (by omega)]
        exact hl.2.2.2 y y0 y1
    | succ m ih =>
      intro v I1 v0 vm hf h1 h0 hA hB hS
      refine mj_iload_n hJ dX2_copyFrom_10 rfl ?_
      refine mj_bipush hJ dX2_copyFrom_11 (by decide) ?_
      refine mj_icmp_ge (tgt := 60) hJ dX2_copyFrom_13 (by decide) (fun hyes => absurd hyes (by omega)) (fun _ => ?_)
      refine mj_aload_n hJ dX2_copyFrom_16 rfl ?_
      refine mk_getR hJ dX2_copyFrom_17 fw_X2_17 rfl (by decide) rfl rfl ?_
      refine mj_iload_n hJ dX2_copyFrom_20 rfl ?_
      refine mk_aald hJ dX2_copyFrom_21 rfl (Or.inl rfl) (by omega) (by omega) (gr_23 (by omega) (by omega)).1 ?_
      refine mj_iconst hJ dX2_copyFrom_22 (by decide) ?_
      refine mj_aload_n hJ dX2_copyFrom_23 rfl ?_
      refine mk_getR hJ dX2_copyFrom_24 fw_X2_17 rfl (by decide) rfl rfl ?_
      refine mj_iload_n hJ dX2_copyFrom_27 rfl ?_
      refine mk_aald hJ dX2_copyFrom_28 rfl (Or.inl rfl) (by omega) (by omega) (gr_2 (by omega) (by omega)).1 ?_
      refine mj_iconst hJ dX2_copyFrom_29 (by decide) ?_
      refine mj_bipush hJ dX2_copyFrom_30 (by decide) ?_
      refine mk_copy hJ dX2_copyFrom_32 cp_X2_46 (gr_23 (b := true) (by omega) (by omega)).2 (gr_2 (b := true) (by omega) (by omega)).2 (by omega) (by omega) (by omega) (by omega) (by omega) (by decide) (Nat.le_of_ble_eq_true rfl) ?_
      refine mj_aload_n hJ dX2_copyFrom_35 rfl ?_
      refine mk_getR hJ dX2_copyFrom_36 fw_X2_20 rfl (by decide) rfl rfl ?_
      refine mj_iload_n hJ dX2_copyFrom_39 rfl ?_
      refine mk_aald hJ dX2_copyFrom_40 rfl (Or.inl rfl) (by omega) (by omega) (gr_30 (by omega) (by omega)).1 ?_
      refine mj_iconst hJ dX2_copyFrom_41 (by decide) ?_
      refine mj_aload_n hJ dX2_copyFrom_42 rfl ?_
      refine mk_getR hJ dX2_copyFrom_43 fw_X2_20 rfl (by decide) rfl rfl ?_
      refine mj_iload_n hJ dX2_copyFrom_46 rfl ?_
      refine mk_aald hJ dX2_copyFrom_47 rfl (Or.inl rfl) (by omega) (by omega) (gr_9 (by omega) (by omega)).1 ?_
      refine mj_iconst hJ dX2_copyFrom_48 (by decide) ?_
      refine mj_bipush hJ dX2_copyFrom_49 (by decide) ?_
      refine mk_copy hJ dX2_copyFrom_51 cp_X2_46 (gr_30 (b := true) (by omega) (by omega)).2 (gr_9 (b := true) (by omega) (by omega)).2 (by omega) (by omega) (by omega) (by omega) (by omega) (by decide) (Nat.le_of_ble_eq_true rfl) ?_
      refine ms_iinc (ls' := [_, _, _]) hJ dX2_copyFrom_54 rfl (by decide) rfl (wr_id (by omega)) rfl ?_
      refine mj_goto (tgt := 10) hJ dX2_copyFrom_57 (by decide) ?_
      refine ih (v + 1) _ (by omega) (by omega) (fun c hc => by rw [cpI_ne (by omega), cpI_ne (by omega)]; exact hf c hc) (fun j hj => by rw [cpI_ne (by omega), cpI_ne (by omega)]; exact h1 j hj) (by rw [cpI_ne (by omega), cpI_ne (by omega)]; exact h0) (fun u k u0 u1 k0 k1 => ?_) (fun u k u0 u1 k0 k1 => ?_) (fun c c1 c2 => by rw [cpI_ne (by omega), cpI_ne (by omega)]; exact hS c c1 c2)
      · rw [cpI_ne (by omega)]
        by_cases e : u = v
        · subst e
          rw [cpI_at k0 k1, hS _ (by omega) (by omega)]
        · rw [cpI_ne (by omega)]
          exact hA u k u0 (by omega) k0 k1
      · by_cases e : u = v
        · subst e
          rw [cpI_at k0 k1, cpI_ne (by omega), hS _ (by omega) (by omega)]
        · rw [cpI_ne (by omega), cpI_ne (by omega)]
          exact hB u k u0 (by omega) k0 k1
  refine mj_aload_n hJ dX2_copyFrom_0 rfl ?_
  refine mj_aload_n hJ dX2_copyFrom_1 rfl ?_
  refine mk_getI (j' := 0) hJ dX2_copyFrom_2 fw_X2_9 rfl (by decide) rfl rfl ?_
  refine mk_putI (j' := 0) hJ dX2_copyFrom_5 fw_X2_9 rfl (by decide) rfl rfl ?_
  refine mj_iconst hJ dX2_copyFrom_8 (by decide) ?_
  refine ms_istore_n (ls' := [_, _, _]) hJ dX2_copyFrom_9 (by decide) rfl rfl ?_
  exact loop 6 0 _ (Int.le_refl _) rfl (fun c hc => upI_ne (by omega)) (fun j hj => by rw [upI_at, if_neg hj]) (by rw [upI_at, if_pos rfl]; exact hl.1.1) (fun u k x y => by omega) (fun u k x y => by omega) (fun c c1 c2 => upI_ne (by omega))
theorem LD.congr {I : Ints} {c1 c3 c10 c16 : Nat} {f f' : Int → Int} (hw : WN f) (h : LD I c1 c3 c10 c16 f) (e : ∀ j, 0 ≤ j → j < 356 → f' j = f j) : LD I c1 c3 c10 c16 f' := by
  have hn := hw.nv
  have hy := hw.ny
  refine ⟨by rw [e 0 (by decide) (by decide), e 1 (by decide) (by decide), e 4 (by decide) (by decide), e 5 (by decide) (by decide)]; exact h.1, fun v k v0 v1 k0 k1 => ?_, fun v n v0 v1 n0 n1 => ?_, fun y y0 y1 => ?_⟩
  · rw [e 0 (by decide) (by decide)] at v1
    rw [e _ (by omega) (by omega)]
    exact h.2.1 v k v0 v1 k0 k1
  · rw [e 0 (by decide) (by decide)] at v1
    rw [fst_congr (f := f) n.toNat (fun k k0 k1 => e _ (by omega) (by omega))]
    exact h.2.2.1 v n v0 v1 n0 n1
  · rw [e 1 (by decide) (by decide)] at y1
    rw [e _ (by omega) (by omega)]
    exact h.2.2.2 y y0 y1
theorem WN.congr {f f' : Int → Int} (h : WN f) (e : ∀ j, 0 ≤ j → j < 356 → f' j = f j) : WN f' := by
  refine ⟨by rw [e 0 (by decide) (by decide)]; exact h.1, by rw [e 1 (by decide) (by decide)]; exact h.2.1, by rw [e 2 (by decide) (by decide)]; exact h.2.2.1, by rw [e 3 (by decide) (by decide)]; exact h.2.2.2.1, by rw [e 4 (by decide) (by decide), e 5 (by decide) (by decide), e 0 (by decide) (by decide)]; exact h.dm, fun u u0 u1 => ?_, fun u k u0 u1 k0 k1 => ?_, fun y y0 y1 => ?_⟩
  · rw [e _ (by omega) (by omega), e _ (by omega) (by omega), e _ (by omega) (by omega), e _ (by omega) (by omega), e _ (by omega) (by omega), e _ (by omega) (by omega)]; exact h.fact u0 u1
  · rw [e _ (by omega) (by omega)]; exact h.worth u0 u1 k0 k1
  · rw [e _ (by omega) (by omega)]; exact h.wet y0 y1
theorem cat_congrB {f f' : Int → Int} : ∀ (L : List Int) (p : Int), 0 ≤ p → p + L.length ≤ 200 → (∀ j, 156 ≤ j → j < 356 → f' j = f j) → cat f p L → cat f' p L
  | [], _, _, _, _, _ => trivial
  | x :: L, p, p0, p1, e, h => by
    have hl : ((x :: L).length : Int) = L.length + 1 := by rw [List.length_cons]; omega
    exact ⟨by rw [e _ (by omega) (by omega)]; exact h.1, cat_congrB L (p + 1) (by omega) (by omega) e h.2⟩
theorem tml_congrB {f f' : Int → Int} (e3 : f' 3 = f 3) (e : ∀ j, 124 ≤ j → j < 356 → f' j = f j) : ∀ (L : List Ln) (l p : Int), 0 ≤ l → l + L.length ≤ 8 → 0 ≤ p → tml f l p L → tml f' l p L
  | [], _, _, _, _, _, h => ⟨by rw [e3]; exact h.1, h.2⟩
  | (v, m, s) :: L, l, p, l0, l1, p0, h => by
    have hl : (((v, m, s) :: L).length : Int) = L.length + 1 := by rw [List.length_cons]; omega
    have hp := tml_le L (l + 1) _ h.2.2
    refine ⟨?_, ⟨h.2.1.1, h.2.1.2.1, h.2.1.2.2.1, cat_congrB _ p p0 hp (fun j j0 j1 => e j (by omega) (by omega)) h.2.1.2.2.2⟩, tml_congrB e3 e L (l + 1) _ (by omega) (by omega) (by omega) h.2.2⟩
    rw [e _ (by omega) (by omega), e _ (by omega) (by omega), e _ (by omega) (by omega), e _ (by omega) (by omega)]
    exact h.1
theorem TM.congrB {f f' : Int → Int} {T : List Ln} (h : TM f T) (e : ∀ j, 0 ≤ j → j < 356 → f' j = f j) : TM f' T :=
  ⟨by rw [e 2 (by decide) (by decide)]; exact h.1, h.2.1, tml_congrB (e 3 (by decide) (by decide)) (fun j j0 j1 => e j (by omega) j1) T 0 0 (Int.le_refl _) (by have := h.2.1; omega) (Int.le_refl _) h.2.2⟩
theorem c_keep (h : RX I N T) : MtI G yX8_keep cX8_keep 1 (some .int) 3 [vr 0] I b (Xg I 1 (G_keep N) T) := by
  refine mt_enterI (own := RX8) (ls0 := [vr 0]) rfl (by decide +kernel) (Nat.le_of_ble_eq_true rfl) rfl rfl (fun J hJ hR => ?_)
  have hw := h.1.1
  refine mj_aload_n hJ dX8_keep_0 rfl ?_
  refine mk_getR hJ dX8_keep_1 fw_X8_16 rfl (by decide) rfl rfl ?_
  refine mj_aload_n hJ dX8_keep_4 rfl ?_
  refine mk_getR hJ dX8_keep_5 fw_X8_12 rfl (by decide) rfl rfl ?_
  refine mk_Vv1 hJ dX8_keep_8 cw_X8_303 rfl rfl rfl rfl (Nat.le_of_ble_eq_true rfl) (by first | decide | omega) (c_lcopy_22 (N 112) hw h.2.1.1 h.2.1.2 (TW_of h.1.2.2).2) (fun I1 b1 hq9 => ?_)
  obtain ⟨rfl, hf, hL, hT⟩ := hq9
  refine mj_aload_n hJ dX8_keep_11 rfl ?_
  refine mj_iconst hJ dX8_keep_12 (by decide) ?_
  refine mk_putZ (j' := 2) hJ dX8_keep_13 fw_X8_19 rfl (by decide) rfl (by first | exact Or.inl rfl | exact Or.inr rfl | assumption | omega) rfl ?_
  refine mj_iconst hJ dX8_keep_16 (by decide) ?_
  have e1 : ∀ c, c ≠ 0 → (c < 22 ∨ 42 < c) → upI I1 0 2 1 c = I c := fun c c0 c1 => by rw [upI_ne c0]; exact hf c c1
  have n : ∀ c, c ≠ 111 → c ≠ 113 → G_keep N c = N c := fun c c1 c2 => by unfold G_keep; rw [upI_ne c1, rowI_ne c2]
  have n111 : ∀ j, j ≠ 2 → G_keep N 111 j = N 111 j := fun j hj => by unfold G_keep; rw [upI_at, if_neg hj, rowI_ne (by decide)]
  have n2 : G_keep N 111 2 = 1 := by unfold G_keep; rw [upI_at, if_pos rfl]
  have n113 : ∀ j, 0 ≤ j → j < 356 → G_keep N 113 j = N 112 j := fun j j0 j1 => by unfold G_keep; rw [upI_ne (by decide), rowI_at, if_pos ⟨j0, j1⟩]
  have n112 := n 112 (by decide) (by decide)
  refine hR _ _ _ _ _ dX8_keep_17 nar_i ⟨rfl, ?_, fun c hc => e1 c (by omega) (by omega)⟩
  obtain ⟨⟨h1, h2, h3⟩, ⟨h4, h5⟩, h6, h7, h8, h9, h10, h11⟩ := h
  refine ⟨⟨by rw [n112]; exact h1, ?_, by rw [n112]; exact h3⟩, ⟨by rw [n112]; exact LN.same h1 h4 (fun c c1 c2 => e1 c (by omega) (by omega)), h5.same (fun c c1 c2 => e1 c (by omega) (by omega))⟩, h6.same h2 (by rw [upI_at, if_neg (by decide), hf 0 (by decide)]) (fun c c1 c2 => e1 c (by omega) (by omega)) (n111 31 (by decide)) (n 135 (by decide) (by decide)), h7.same (fun c c1 c2 => e1 c (by omega) (by omega)) (fun c c1 c2 => n c (by omega) (by omega)), h8.same (e1 99 (by decide) (by decide)) (e1 100 (by decide) (by decide)) (fun c c1 c2 => n c (by omega) (by omega)), h9.same (by rw [e1 101 (by decide) (by decide)]) (e1 102 (by decide) (by decide)) (n111 39 (by decide)) (n 142 (by decide) (by decide)), h10.same (by rw [e1 80 (by decide) (by decide)]) (e1 86 (by decide) (by decide)) (n111 17 (by decide)) (n 127 (by decide) (by decide)), ?_⟩
  · unfold WS
    rw [n111 31 (by decide), n111 39 (by decide), n111 17 (by decide), n 136 (by decide) (by decide), n 137 (by decide) (by decide), n 139 (by decide) (by decide), n 140 (by decide) (by decide)]
    exact h2
  · refine ⟨Or.inr n2, by rw [n2, upI_at, if_pos rfl], fun _ => ⟨T, ?_, ?_, ?_, ?_⟩⟩
    · have a := LD.congr h1 hL n113
      have hn := (h1.congr n113).nv
      exact LD22.same (h1.congr n113) a (fun c c1 c2 => upI_ne (by omega))
    · unfold TC
      rw [upI_ne (by decide), upI_ne (by decide), upI_ne (by decide), upI_ne (by decide), upI_ne (by decide)]
      exact hT
    · exact h3.congrB n113
    · exact h1.congr n113
theorem c_again (h : RX I N T) : MtI G yX8_again cX8_again 1 (some .int) 3 [vr 0] I b (fun z I' b' => ∃ T', Xg I (F_again N) (G_again N) T' z I' b') := by
  refine mt_enterI (own := RX8) (ls0 := [vr 0]) rfl (by decide +kernel) (Nat.le_of_ble_eq_true rfl) rfl rfl (fun J hJ hR => ?_)
  have hk := h.2.2.2.2.2.2.2
  unfold F_again G_again at hR
  refine mj_aload_n hJ dX8_again_0 rfl ?_
  refine mk_getI (j' := 2) hJ dX8_again_1 fw_X8_19 rfl (by decide) rfl rfl ?_
  rw [hk.2.1]
  refine mj_if_ne (tgt := 10) hJ dX8_again_4 (by decide) (fun h1 => ?_) (fun h1 => ?_)
  · rw [if_neg h1, if_neg h1] at hR
    have h2 : N 111 2 = 1 := by rcases hk.1 with q | q; exact absurd q h1; exact q
    obtain ⟨T', k1, k2, k3, k4⟩ := hk.2.2 h2
    refine mj_aload_n hJ dX8_again_10 rfl ?_
    refine mk_getR hJ dX8_again_11 fw_X8_12 rfl (by decide) rfl rfl ?_
    refine mj_aload_n hJ dX8_again_14 rfl ?_
    refine mk_getR hJ dX8_again_15 fw_X8_16 rfl (by decide) rfl rfl ?_
    refine mk_Vv1 hJ dX8_again_18 cw_X8_303 rfl rfl rfl rfl (Nat.le_of_ble_eq_true rfl) (by first | decide | omega) (c_lcopy_1 (N 113) k4 k1 k2 (TW_of k3).2) (fun I1 b1 hq9 => ?_)
    obtain ⟨rfl, hf, hL, hT⟩ := hq9
    refine mj_iconst hJ dX8_again_21 (by decide) ?_
    have n113 : ∀ j, 0 ≤ j → j < 356 → rowI N 112 (fun j => if 0 ≤ j ∧ j < 356 then N 113 j else N 112 j) 112 j = N 113 j := fun j j0 j1 => by rw [rowI_at, if_pos ⟨j0, j1⟩]
    have n : ∀ c, c ≠ 112 → rowI N 112 (fun j => if 0 ≤ j ∧ j < 356 then N 113 j else N 112 j) c = N c := fun c hc => rowI_ne hc
    refine hR _ _ _ _ _ dX8_again_22 nar_i ⟨T', rfl, ?_, fun c hc => hf c (by omega)⟩
    obtain ⟨⟨h1, h2, h3⟩, ⟨h4, h5⟩, h6, h7, h8, h9, h10, h11⟩ := h
    refine ⟨⟨k4.congr n113, ?_, k3.congrB n113⟩, ⟨LD.congr k4 hL n113, hT⟩, h6.same h2 (by rw [hf 0 (by decide)]) (fun c c1 c2 => hf c (by omega)) (by rw [n 111 (by decide)]) (n 135 (by decide)), h7.same (fun c c1 c2 => hf c (by omega)) (fun c c1 c2 => n c (by omega)), h8.same (hf 99 (by decide)) (hf 100 (by decide)) (fun c c1 c2 => n c (by omega)), h9.same (by rw [hf 101 (by decide)]) (hf 102 (by decide)) (by rw [n 111 (by decide)]) (n 142 (by decide)), h10.same (by rw [hf 80 (by decide)]) (hf 86 (by decide)) (by rw [n 111 (by decide)]) (n 127 (by decide)), h11.same (by rw [hf 0 (by decide)]) (fun c c1 c2 => hf c (by omega)) (by rw [n 111 (by decide)]) (n 113 (by decide))⟩
    unfold WS
    rw [n 111 (by decide), n 136 (by decide), n 137 (by decide), n 139 (by decide), n 140 (by decide)]
    exact h2
  · rw [if_pos h1, if_pos h1] at hR
    refine mj_bipush hJ dX8_again_7 (by decide) ?_
    exact hR _ _ _ _ _ dX8_again_9 nar_i ⟨T, h.refl⟩
end C13
