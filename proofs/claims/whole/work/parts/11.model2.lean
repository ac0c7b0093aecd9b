section M2
variable {G : GE} {I : Ints} {b : Bool}
theorem c_X9_first (v : Int) (n : Nat) (h0 : 0 ≤ v) (h1 : v < 6) (hn : n ≤ 12) (hw : WN (I 112)) : MtP G yX9_first cX9_first 5 (some .int) 2 [vr 111, vi v, vi n] I b (fst (I 112) v n) := by
  refine mt_enterI (own := RX9) (ls0 := [vr 111, vi v, vi n, vu, vu]) rfl (by decide +kernel) (Nat.le_of_ble_eq_true rfl) rfl rfl (fun J hJ hR => ?_)
  have loop : ∀ m k : Nat, k + m = n → J 5 [vr 111, vi v, vi n, vi (fst (I 112) v k), vi k] [] (mk I b) := by
    intro m
    induction m with
    | zero =>
      intro k hk
      refine mj_iload hJ dX9_first_5 rfl ?_
      refine mj_iload_n hJ dX9_first_7 rfl ?_
      refine mj_icmp_ge (tgt := 30) hJ dX9_first_8 (by decide) (fun _ => ?_) (fun hno => absurd (by omega) hno)
      refine mj_iload_n hJ dX9_first_30 rfl ?_
      exact hR _ _ _ _ _ dX9_first_31 nar_i ⟨by rw [show k = n by omega], rfl, rfl⟩
    | succ m ih =>
      intro k hk
      have hb := fst_bd hw h0 h1 k (by omega)
      have hb2 := hw.worth h0 h1 (k := k) (by omega) (by omega)
      refine mj_iload hJ dX9_first_5 rfl ?_
      refine mj_iload_n hJ dX9_first_7 rfl ?_
      refine mj_icmp_ge (tgt := 30) hJ dX9_first_8 (by decide) (fun hyes => absurd hyes (by omega)) (fun _ => ?_)
      refine mj_iload_n hJ dX9_first_11 rfl ?_
      refine mj_aload_n hJ dX9_first_12 rfl ?_
      refine mj_iload_n hJ dX9_first_13 rfl ?_
      refine mj_bipush hJ dX9_first_14 (by decide) ?_
      refine mj_iload hJ dX9_first_16 rfl ?_
      first | refine ms_iadd hJ dX9_first_18 (by omega) ?_ | refine mj_iadd hJ dX9_first_18 ?_
      refine mk_Vp2 hJ dX9_first_19 cw_X9_116 rfl rfl rfl rfl (Nat.le_of_ble_eq_true rfl) (by decide) (c_X9_of v (6 + k) h0 h1 (by omega) (by omega)) ?_
      first | refine ms_iadd hJ dX9_first_22 (by omega) ?_ | refine mj_iadd hJ dX9_first_22 ?_
      refine ms_istore_n (ls' := [_, _, _, _, _]) hJ dX9_first_23 (by decide) rfl rfl ?_
      refine ms_iinc (ls' := [_, _, _, _, _]) hJ dX9_first_24 rfl (by decide) rfl (wr_id (by omega)) rfl ?_
      refine mj_goto (tgt := 5) hJ dX9_first_27 (by decide) ?_
      exact ih (k + 1) (by omega)
  refine mj_iconst hJ dX9_first_0 (by decide) ?_
  refine ms_istore_n (ls' := [_, _, _, _, _]) hJ dX9_first_1 (by decide) rfl rfl ?_
  refine mj_iconst hJ dX9_first_2 (by decide) ?_
  refine ms_istore (ls' := [_, _, _, _, _]) hJ dX9_first_3 (by decide) rfl rfl ?_
  exact loop n 0 (by omega)
theorem c_X9_firstI (v n : Int) (h0 : 0 ≤ v) (h1 : v < 6) (hn0 : 0 ≤ n) (hn : n ≤ 12) (hw : WN (I 112)) : MtP G yX9_first cX9_first 5 (some .int) 2 [vr 111, vi v, vi n] I b (fst (I 112) v n.toNat) := by
  obtain ⟨k, rfl⟩ := Int.eq_ofNat_of_zero_le hn0
  exact c_X9_first v k h0 h1 (by omega) hw
theorem c_X9_harm (v p : Int) (h0 : 0 ≤ v) (h1 : v < 6) (hp : 0 ≤ p) (hp2 : p ≤ 200) (hw : WN (I 112)) : MtP G yX9_harm cX9_harm 4 (some .int) 2 [vr 111, vi v, vi p] I b (hrm (I 112) v p) := by
  refine mt_enterI (own := RX9) (ls0 := [vr 111, vi v, vi p, vu]) rfl (by decide +kernel) (Nat.le_of_ble_eq_true rfl) rfl rfl (fun J hJ hR => ?_)
  have a := hw.fact h0 h1
  refine mj_iload_n hJ dX9_harm_0 rfl ?_
  refine mj_aload_n hJ dX9_harm_1 rfl ?_
  refine mj_iload_n hJ dX9_harm_2 rfl ?_
  refine mj_iconst hJ dX9_harm_3 (by decide) ?_
  refine mk_Vp2 hJ dX9_harm_4 cw_X9_116 rfl rfl rfl rfl (Nat.le_of_ble_eq_true rfl) (by decide) (c_X9_of v 1 h0 h1 (by omega) (by omega)) ?_
  first | refine ms_isub hJ dX9_harm_7 (by omega) ?_ | refine mj_isub hJ dX9_harm_7 ?_
  refine ms_istore_n (ls' := [_, _, _, _]) hJ dX9_harm_8 (by decide) rfl rfl ?_
  refine mj_iload_n hJ dX9_harm_9 rfl ?_
  refine mj_if_le (tgt := 24) hJ dX9_harm_10 (by decide) (fun hc => ?_) (fun hc => ?_)
  · refine mj_iconst hJ dX9_harm_24 (by decide) ?_
    exact hR _ _ _ _ _ dX9_harm_25 nar_i ⟨by unfold hrm; rw [if_neg (by omega)], rfl, rfl⟩
  · have hm := mul_bd (a := p - I 112 (10 + 18 * v + 1)) (A := 200) (B := 9) (by omega) (by omega) a.2.2.1.1 a.2.2.1.2
    refine mj_iload_n hJ dX9_harm_13 rfl ?_
    refine mj_aload_n hJ dX9_harm_14 rfl ?_
    refine mj_iload_n hJ dX9_harm_15 rfl ?_
    refine mj_iconst hJ dX9_harm_16 (by decide) ?_
    refine mk_Vp2 hJ dX9_harm_17 cw_X9_116 rfl rfl rfl rfl (Nat.le_of_ble_eq_true rfl) (by decide) (c_X9_of v 2 h0 h1 (by omega) (by omega)) ?_
    first | refine ms_imul hJ dX9_harm_20 (by omega) ?_ | refine mj_imul hJ dX9_harm_20 ?_
    refine mj_goto (tgt := 25) hJ dX9_harm_21 (by decide) ?_
    exact hR _ _ _ _ _ dX9_harm_25 nar_i ⟨by unfold hrm; rw [if_pos (by omega)], rfl, rfl⟩
theorem c_X9_canUse (v t : Int) (h0 : 0 ≤ v) (h1 : v < 6) : MtP G yX9_canUse cX9_canUse 4 (some .int) 2 [vr 111, vi v, vi t] I b (cu (I 112) v t) := by
  refine mt_enterI (own := RX9) (ls0 := [vr 111, vi v, vi t, vu]) rfl (by decide +kernel) (Nat.le_of_ble_eq_true rfl) rfl rfl (fun J hJ hR => ?_)
  have loop : ∀ (k : Nat) (u : Int), 0 ≤ u → u + k = 12 → cus (I 112) v t k u = cu (I 112) v t → J 2 [vr 111, vi v, vi t, vi u] [] (mk I b) := by
    intro k
    induction k with
    | zero =>
      intro u hu hk he
      refine mj_iload_n hJ dX9_canUse_2 rfl ?_
      refine mj_bipush hJ dX9_canUse_3 (by decide) ?_
      refine mj_icmp_ge (tgt := 31) hJ dX9_canUse_5 (by decide) (fun _ => ?_) (fun hno => absurd (by omega) hno)
      refine mj_iload_n hJ dX9_canUse_31 rfl ?_
      exact hR _ _ _ _ _ dX9_canUse_32 nar_i ⟨he, rfl, rfl⟩
    | succ k ih =>
      intro u hu hk he
      have e1 : cus (I 112) v t (k + 1) u = if u < 12 ∧ u < t ∧ 0 < I 112 (10 + 18 * v + (6 + u)) then cus (I 112) v t k (u + 1) else u := rfl
      refine mj_iload_n hJ dX9_canUse_2 rfl ?_
      refine mj_bipush hJ dX9_canUse_3 (by decide) ?_
      refine mj_icmp_ge (tgt := 31) hJ dX9_canUse_5 (by decide) (fun hyes => absurd hyes (by omega)) (fun _ => ?_)
      refine mj_iload_n hJ dX9_canUse_8 rfl ?_
      refine mj_iload_n hJ dX9_canUse_9 rfl ?_
      refine mj_icmp_ge (tgt := 31) hJ dX9_canUse_10 (by decide) (fun hc => ?_) (fun hc => ?_)
      · refine mj_iload_n hJ dX9_canUse_31 rfl ?_
        exact hR _ _ _ _ _ dX9_canUse_32 nar_i ⟨by rw [← he, e1, if_neg (by omega)], rfl, rfl⟩
      · refine mj_aload_n hJ dX9_canUse_13 rfl ?_
        refine mj_iload_n hJ dX9_canUse_14 rfl ?_
        refine mj_bipush hJ dX9_canUse_15 (by decide) ?_
        refine mj_iload_n hJ dX9_canUse_17 rfl ?_
        first | refine ms_iadd hJ dX9_canUse_18 (by omega) ?_ | refine mj_iadd hJ dX9_canUse_18 ?_
        refine mk_Vp2 hJ dX9_canUse_19 cw_X9_116 rfl rfl rfl rfl (Nat.le_of_ble_eq_true rfl) (by decide) (c_X9_of v (6 + u) h0 h1 (by omega) (by omega)) ?_
        refine mj_if_le (tgt := 31) hJ dX9_canUse_22 (by decide) (fun hd => ?_) (fun hd => ?_)
        · refine mj_iload_n hJ dX9_canUse_31 rfl ?_
          exact hR _ _ _ _ _ dX9_canUse_32 nar_i ⟨by rw [← he, e1, if_neg (by omega)], rfl, rfl⟩
        · refine ms_iinc (ls' := [_, _, _, _]) hJ dX9_canUse_25 rfl (by decide) rfl (wr_id (by omega)) rfl ?_
          refine mj_goto (tgt := 2) hJ dX9_canUse_28 (by decide) ?_
          exact ih (u + 1) (by omega) (by omega) (by rw [← he, e1, if_pos (by omega)])
  refine mj_iconst hJ dX9_canUse_0 (by decide) ?_
  refine ms_istore_n (ls' := [_, _, _, _]) hJ dX9_canUse_1 (by decide) rfl rfl ?_
  exact loop 12 0 (by omega) (by omega) rfl
/-- the model's row 'flow' is filled -/
theorem c_X9_flows (w : Int) (hw : WN (I 112)) (h0 : 0 ≤ w) (h1 : w ≤ 20) : MtV G yX9_flows cX9_flows 3 2 [vr 111, vi w] I b (fun I' b' => b' = b ∧ (∀ c, c ≠ 116 → I' c = I c) ∧ ∀ v, 0 ≤ v → v < I 112 0 → I' 116 v = infl (I 112) w v) := by
  refine mt_enterV (own := RX9) (ls0 := [vr 111, vi w, vu]) rfl (by decide +kernel) (Nat.le_of_ble_eq_true rfl) rfl (fun J hJ hR => ?_)
  have hn := hw.nv
  have loop : ∀ (m k : Nat) (I1 : Ints), (k + m : Int) = I 112 0 → (∀ c, c ≠ 116 → I1 c = I c) → (∀ v : Int, 0 ≤ v → v < k → I1 116 v = infl (I 112) w v) → J 2 [vr 111, vi w, vi k] [] (mk I1 b) := by
    intro m
    induction m with
    | zero =>
      intro k I1 hk hf hv
      have e := hf 112 (by decide)
      refine mj_iload_n hJ dX9_flows_2 rfl ?_
      refine mj_aload_n hJ dX9_flows_3 rfl ?_
      refine mk_getR hJ dX9_flows_4 fw_X9_9 rfl (by decide) rfl rfl ?_
      refine mj_iconst hJ dX9_flows_7 (by decide) ?_
      refine mk_iald hJ dX9_flows_8 rfl (by omega) (by omega) ?_
      rw [e]
      refine mj_icmp_ge (tgt := 35) hJ dX9_flows_9 (by decide) (fun _ => ?_) (fun hno => absurd (by omega) hno)
      exact hR _ _ _ _ dX9_flows_35 ⟨rfl, hf, fun v a b => hv v a (by omega)⟩
    | succ m ih =>
      intro k I1 hk hf hv
      have e := hf 112 (by decide)
      have a := (hw.fact (v := k) (by omega) (by omega)).1
      have c := mul_bd a.1 a.2 h0 h1
      have i := infl_bd hw (v := k) (w := w) (by omega) (by omega) h0 h1
      refine mj_iload_n hJ dX9_flows_2 rfl ?_
      refine mj_aload_n hJ dX9_flows_3 rfl ?_
      refine mk_getR hJ dX9_flows_4 fw_X9_9 rfl (by decide) rfl rfl ?_
      refine mj_iconst hJ dX9_flows_7 (by decide) ?_
      refine mk_iald hJ dX9_flows_8 rfl (by omega) (by omega) ?_
      rw [e]
      refine mj_icmp_ge (tgt := 35) hJ dX9_flows_9 (by decide) (fun hyes => absurd hyes (by omega)) (fun _ => ?_)
      refine mj_aload_n hJ dX9_flows_12 rfl ?_
      refine mk_getR hJ dX9_flows_13 fw_X9_22 rfl (by decide) rfl rfl ?_
      refine mj_iload_n hJ dX9_flows_16 rfl ?_
      refine mj_aload_n hJ dX9_flows_17 rfl ?_
      refine mj_iload_n hJ dX9_flows_18 rfl ?_
      refine mj_iconst hJ dX9_flows_19 (by decide) ?_
      refine mk_Vp2 hJ dX9_flows_20 cw_X9_116 rfl rfl rfl rfl (Nat.le_of_ble_eq_true rfl) (by decide) (c_X9_of k 0 (by omega) (by omega) (by omega) (by omega)) ?_
      rw [e]
      refine mj_iload_n hJ dX9_flows_23 rfl ?_
      first | refine ms_imul hJ dX9_flows_24 (by omega) ?_ | refine mj_imul hJ dX9_flows_24 ?_
      refine mj_bipush hJ dX9_flows_25 (by decide) ?_
      unfold infl at i
      refine ms_idiv hJ dX9_flows_27 (by omega) (by omega) ?_
      refine mk_iast hJ dX9_flows_28 rfl (by omega) (by omega) ?_
      refine ms_iinc (ls' := [_, _, _]) hJ dX9_flows_29 rfl (by decide) rfl (wr_id (by omega)) rfl ?_
      refine mj_goto (tgt := 2) hJ dX9_flows_32 (by decide) ?_
      refine ih (k + 1) _ (by omega) (fun c hc => (upI_ne hc).trans (hf c hc)) (fun v h2 h3 => ?_)
      rw [upI_at]
      by_cases hvk : v = k
      · rw [if_pos hvk, hvk]; rfl
      · rw [if_neg hvk]; exact hv v h2 (by omega)
  refine mj_iconst hJ dX9_flows_0 (by decide) ?_
  refine ms_istore_n (ls' := [_, _, _]) hJ dX9_flows_1 (by decide) rfl rfl ?_
  exact loop (I 112 0).toNat 0 I (by omega) (fun _ _ => rfl) (fun v a b => by omega)
theorem c_X9_fits (w n : Int) (h0 : 0 ≤ w) (h1 : w < 6) : MtP G yX9_fits cX9_fits 2 (some .boolean) 1 [vi w, vi n] I b (if (if w = 5 then 1 else 0) ≤ n ∧ n ≤ (if w = 0 then 12 else if w = 1 ∨ w = 4 then 99 else if w = 2 then 9 else if w = 3 then 20 else 9) then 1 else 0) := by
  refine mt_enterI (own := RX9) (ls0 := [vi w, vi n]) rfl (by decide +kernel) (Nat.le_of_ble_eq_true rfl) rfl rfl (fun J hJ hR => ?_)
  have hz : ∀ p : Prop, [Decidable p] → ((if p then (1 : Int) else 0) = 0 ∨ (if p then (1 : Int) else 0) = 1) := fun p _ => by split <;> simp
  refine mj_iload_n hJ dX9_fits_0 rfl ?_
  rcases (show w = 0 ∨ w = 1 ∨ w = 2 ∨ w = 3 ∨ w = 4 ∨ w = 5 by omega) with rfl | rfl | rfl | rfl | rfl | rfl
  · refine mj_tabIn (tgt := 36) hJ dX9_fits_1 (by decide) (by decide) rfl (by decide) ?_
    refine mj_iload_n hJ dX9_fits_36 rfl ?_
    refine mj_iconst hJ dX9_fits_37 (by decide) ?_
    refine mj_bipush hJ dX9_fits_38 (by decide) ?_
    refine mk_Sp3 hJ dX9_fits_40 cw_X9_104 rfl (Nat.le_of_ble_eq_true rfl) (by decide) (c_X9_in _ _ _) ?_
    exact hR _ _ _ _ _ dX9_fits_43 (nar_z (hz _)) ⟨rfl, rfl, rfl⟩
  · refine mj_tabIn (tgt := 44) hJ dX9_fits_1 (by decide) (by decide) rfl (by decide) ?_
    refine mj_iload_n hJ dX9_fits_44 rfl ?_
    refine mj_iconst hJ dX9_fits_45 (by decide) ?_
    refine mj_bipush hJ dX9_fits_46 (by decide) ?_
    refine mk_Sp3 hJ dX9_fits_48 cw_X9_104 rfl (Nat.le_of_ble_eq_true rfl) (by decide) (c_X9_in _ _ _) ?_
    exact hR _ _ _ _ _ dX9_fits_51 (nar_z (hz _)) ⟨rfl, rfl, rfl⟩
  · refine mj_tabIn (tgt := 52) hJ dX9_fits_1 (by decide) (by decide) rfl (by decide) ?_
    refine mj_iload_n hJ dX9_fits_52 rfl ?_
    refine mj_iconst hJ dX9_fits_53 (by decide) ?_
    refine mj_bipush hJ dX9_fits_54 (by decide) ?_
    refine mk_Sp3 hJ dX9_fits_56 cw_X9_104 rfl (Nat.le_of_ble_eq_true rfl) (by decide) (c_X9_in _ _ _) ?_
    exact hR _ _ _ _ _ dX9_fits_59 (nar_z (hz _)) ⟨rfl, rfl, rfl⟩
  · refine mj_tabIn (tgt := 60) hJ dX9_fits_1 (by decide) (by decide) rfl (by decide) ?_
    refine mj_iload_n hJ dX9_fits_60 rfl ?_
    refine mj_iconst hJ dX9_fits_61 (by decide) ?_
    refine mj_bipush hJ dX9_fits_62 (by decide) ?_
    refine mk_Sp3 hJ dX9_fits_64 cw_X9_104 rfl (Nat.le_of_ble_eq_true rfl) (by decide) (c_X9_in _ _ _) ?_
    exact hR _ _ _ _ _ dX9_fits_67 (nar_z (hz _)) ⟨rfl, rfl, rfl⟩
  · refine mj_tabIn (tgt := 44) hJ dX9_fits_1 (by decide) (by decide) rfl (by decide) ?_
    refine mj_iload_n hJ dX9_fits_44 rfl ?_
    refine mj_iconst hJ dX9_fits_45 (by decide) ?_
    refine mj_bipush hJ dX9_fits_46 (by decide) ?_
    refine mk_Sp3 hJ dX9_fits_48 cw_X9_104 rfl (Nat.le_of_ble_eq_true rfl) (by decide) (c_X9_in _ _ _) ?_
    exact hR _ _ _ _ _ dX9_fits_51 (nar_z (hz _)) ⟨rfl, rfl, rfl⟩
  · refine mj_tabOut (tgt := 68) hJ dX9_fits_1 (Or.inr (by decide)) (by decide) ?_
    refine mj_iload_n hJ dX9_fits_68 rfl ?_
    refine mj_iconst hJ dX9_fits_69 (by decide) ?_
    refine mj_bipush hJ dX9_fits_70 (by decide) ?_
    refine mk_Sp3 hJ dX9_fits_72 cw_X9_104 rfl (Nat.le_of_ble_eq_true rfl) (by decide) (c_X9_in _ _ _) ?_
    exact hR _ _ _ _ _ dX9_fits_75 (nar_z (hz _)) ⟨rfl, rfl, rfl⟩
end M2
