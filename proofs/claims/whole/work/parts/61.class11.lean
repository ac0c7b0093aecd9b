section C11
variable {G : GE} {I N : Ints} {b : Bool} {T : List Ln}
theorem c_tellsWorths (hs : WS N) (hr : RSheets I N) (s : Int) (s0 : 0 ≤ s) (s1 : s < 4) : MtP G yX8_tellsWorths cX8_tellsWorths 3 (some .boolean) 1 [vr (103 + 2 * s.toNat)] I b (if N 137 s = 12 ∧ (wok (itm N s) 12).isSome = true then 1 else 0) := by
  refine mt_enterI (own := RX8) (ls0 := [vr (103 + 2 * s.toNat), vu, vu]) rfl (by decide +kernel) (Nat.le_of_ble_eq_true rfl) rfl rfl (fun J hJ hR => ?_)
  have q := hr s s0 s1
  have w := hs.sh s0 s1
  have s2 := (gi_98 (b := b) s0 s1).2
  refine mj_aload_n hJ dX8_tellsWorths_0 rfl ?_
  refine mk_getI (j' := 1) hJ dX8_tellsWorths_1 fw_X8_278 (gr_98 (b := true) (by omega) (by omega)).2 (by decide) rfl rfl ?_
  rw [q.2.1]
  refine mj_bipush hJ dX8_tellsWorths_4 (by decide) ?_
  refine mj_icmp_eq (tgt := 11) hJ dX8_tellsWorths_6 (by decide) (fun h12 => ?_) (fun h12 => ?_)
  · have loop : ∀ (m k : Nat) (a : Int), k + m = 12 → wok (itm N s) k = some a → J 16 [vr (103 + 2 * s.toNat), vi a, vi k] [] (mk I b) := by
      intro m
      induction m with
      | zero =>
        intro k a hk ha
        have ek : k = 12 := by omega
        subst ek
        rw [if_pos ⟨h12, by rw [ha]; rfl⟩] at hR
        refine mj_iload_n hJ dX8_tellsWorths_16 rfl ?_
        refine mj_bipush hJ dX8_tellsWorths_17 (by decide) ?_
        refine mj_icmp_ge (tgt := 51) hJ dX8_tellsWorths_19 (by decide) (fun _ => ?_) (fun hno => absurd (by omega) hno)
        refine mj_iconst hJ dX8_tellsWorths_51 (by decide) ?_
        exact hR _ _ _ _ _ dX8_tellsWorths_52 (nar_z (by first | exact Or.inl rfl | exact Or.inr rfl | assumption | omega)) ⟨rfl, rfl, rfl⟩
      | succ m ih =>
        intro k a hk ha
        have ei : I (104 + 2 * s.toNat) k = itm N s k := q.2.2 k (by omega) (by omega)
        have st := wok_step ha
        refine mj_iload_n hJ dX8_tellsWorths_16 rfl ?_
        refine mj_bipush hJ dX8_tellsWorths_17 (by decide) ?_
        refine mj_icmp_ge (tgt := 51) hJ dX8_tellsWorths_19 (by decide) (fun hyes => absurd hyes (by omega)) (fun _ => ?_)
        refine mj_aload_n hJ dX8_tellsWorths_22 rfl ?_
        refine mk_getR hJ dX8_tellsWorths_23 fw_X8_122 (gr_98 (b := true) (by omega) (by omega)).2 (by decide) rfl (gi_98 (by omega) (by omega)).1 ?_
        refine mj_iload_n hJ dX8_tellsWorths_26 rfl ?_
        refine mk_iald hJ dX8_tellsWorths_27 (gi_98 (b := true) (by omega) (by omega)).2 (by omega) (by omega) ?_
        rw [ei]
        refine mj_iconst hJ dX8_tellsWorths_28 (by decide) ?_
        refine mj_iload_n hJ dX8_tellsWorths_29 rfl ?_
        refine mk_Sp3 hJ dX8_tellsWorths_30 cw_X8_105 rfl (Nat.le_of_ble_eq_true rfl) (by first | decide | omega) (c_within (itm N s k) 0 a) ?_
        by_cases c : 0 ≤ itm N s k ∧ itm N s k ≤ a
        · rw [if_pos c] at st ⊢
          refine mj_if_ne (tgt := 38) hJ dX8_tellsWorths_33 (by decide) (fun _ => ?_) (fun hno => absurd hno (by decide))
          refine mj_aload_n hJ dX8_tellsWorths_38 rfl ?_
          refine mk_getR hJ dX8_tellsWorths_39 fw_X8_122 (gr_98 (b := true) (by omega) (by omega)).2 (by decide) rfl (gi_98 (by omega) (by omega)).1 ?_
          refine mj_iload_n hJ dX8_tellsWorths_42 rfl ?_
          refine mk_iald hJ dX8_tellsWorths_43 (gi_98 (b := true) (by omega) (by omega)).2 (by omega) (by omega) ?_
          rw [ei]
          refine ms_istore_n (ls' := [_, _, _]) hJ dX8_tellsWorths_44 (by decide) rfl rfl ?_
          refine ms_iinc (ls' := [_, _, _]) hJ dX8_tellsWorths_45 rfl (by decide) rfl (wr_id (by omega)) rfl ?_
          refine mj_goto (tgt := 16) hJ dX8_tellsWorths_48 (by decide) ?_
          rw [show (k : Int) + 1 = ((k + 1 : Nat) : Int) by omega]
          exact ih (k + 1) _ (by omega) st
        · rw [if_neg c] at st ⊢
          have hn := wok_none st m
          rw [show k + 1 + m = 12 by omega] at hn
          rw [if_neg (fun z => by rw [hn] at z; exact Bool.noConfusion z.2)] at hR
          refine mj_if_ne (tgt := 38) hJ dX8_tellsWorths_33 (by decide) (fun hyes => absurd (by decide) hyes) (fun _ => ?_)
          refine mj_iconst hJ dX8_tellsWorths_36 (by decide) ?_
          exact hR _ _ _ _ _ dX8_tellsWorths_37 (nar_z (by first | exact Or.inl rfl | exact Or.inr rfl | assumption | omega)) ⟨rfl, rfl, rfl⟩
    refine mj_bipush hJ dX8_tellsWorths_11 (by decide) ?_
    refine ms_istore_n (ls' := [_, _, _]) hJ dX8_tellsWorths_13 (by decide) rfl rfl ?_
    refine mj_iconst hJ dX8_tellsWorths_14 (by decide) ?_
    refine ms_istore_n (ls' := [_, _, _]) hJ dX8_tellsWorths_15 (by decide) rfl rfl ?_
    exact loop 12 0 99 rfl rfl
  · rw [if_neg (fun z => h12 z.1)] at hR
    refine mj_iconst hJ dX8_tellsWorths_9 (by decide) ?_
    exact hR _ _ _ _ _ dX8_tellsWorths_10 (nar_z (by first | exact Or.inl rfl | exact Or.inr rfl | assumption | omega)) ⟨rfl, rfl, rfl⟩
theorem c_X2_takeWorths (f g : Int → Int) (v : Int) (k : Nat) (v0 : 0 ≤ v) (v1 : v < 6) (sk : S0[k]? = some (16, 40)) (hk : k ≠ 10 + v.toNat) (h0 : I (10 + v.toNat) 0 = 0) (hg : ∀ i : Int, 0 ≤ i → i < 12 → I k i = f (10 + 18 * v + (6 + i)) ∧ (0 ≤ f (10 + 18 * v + (6 + i)) ∧ f (10 + 18 * v + (6 + i)) ≤ 99)) :
    MtV G yX2_takeWorths cX2_takeWorths 4 0 [vr 1, vi v, vr k] I b (fun I' b' => b' = b ∧ (∀ c, c ≠ 10 + v.toNat → I' c = I c) ∧ ∀ n : Int, 0 ≤ n → n ≤ 12 → I' (10 + v.toNat) n = fst f v n.toNat) := by
  refine mt_enterV (own := RX2) (ls0 := [vr 1, vi v, vr k, vu]) rfl (by decide +kernel) (Nat.le_of_ble_eq_true rfl) rfl (fun J hJ hR => ?_)
  have loop : ∀ (m i : Nat) (I1 : Ints), i + m = 12 → (∀ c, c ≠ 10 + v.toNat → I1 c = I c) → (∀ n : Int, 0 ≤ n → n ≤ i → I1 (10 + v.toNat) n = fst f v n.toNat) → (0 ≤ fst f v i ∧ fst f v i ≤ 99 * i) → J 2 [vr 1, vi v, vr k, vi i] [] (mk I1 b) := by
    intro m
    induction m with
    | zero =>
      intro i I1 hi hf hB hb
      have ei : i = 12 := by omega
      subst ei
      refine mj_iload_n hJ dX2_takeWorths_2 rfl ?_
      refine mj_bipush hJ dX2_takeWorths_3 (by decide) ?_
      refine mj_icmp_ge (tgt := 36) hJ dX2_takeWorths_5 (by decide) (fun _ => ?_) (fun hno => absurd (by omega) hno)
      refine hR _ _ _ _ dX2_takeWorths_36 ⟨rfl, hf, hB⟩
    | succ m ih =>
      intro i I1 hi hf hB hb
      have gi := hg i (by omega) (by omega)
      have bi := hB i (by omega) (by omega)
      rw [Int.toNat_natCast] at bi
      have es : fst f v (i + 1) = fst f v i + f (10 + 18 * v + (6 + i)) := rfl
      refine mj_iload_n hJ dX2_takeWorths_2 rfl ?_
      refine mj_bipush hJ dX2_takeWorths_3 (by decide) ?_
      refine mj_icmp_ge (tgt := 36) hJ dX2_takeWorths_5 (by decide) (fun hyes => absurd hyes (by omega)) (fun _ => ?_)
      refine mj_aload_n hJ dX2_takeWorths_8 rfl ?_
      refine mk_getR hJ dX2_takeWorths_9 fw_X2_20 rfl (by decide) rfl rfl ?_
      refine mj_iload_n hJ dX2_takeWorths_12 rfl ?_
      refine mk_aald hJ dX2_takeWorths_13 rfl (Or.inl rfl) (by omega) (by omega) (gr_9 (by omega) (by omega)).1 ?_
      refine mj_iload_n hJ dX2_takeWorths_14 rfl ?_
      refine mj_iconst hJ dX2_takeWorths_15 (by decide) ?_
      first | refine ms_iadd hJ dX2_takeWorths_16 (by omega) ?_ | refine mj_iadd hJ dX2_takeWorths_16 ?_
      refine mj_aload_n hJ dX2_takeWorths_17 rfl ?_
      refine mk_getR hJ dX2_takeWorths_18 fw_X2_20 rfl (by decide) rfl rfl ?_
      refine mj_iload_n hJ dX2_takeWorths_21 rfl ?_
      refine mk_aald hJ dX2_takeWorths_22 rfl (Or.inl rfl) (by omega) (by omega) (gr_9 (by omega) (by omega)).1 ?_
      refine mj_iload_n hJ dX2_takeWorths_23 rfl ?_
      refine mk_iald hJ dX2_takeWorths_24 (gr_9 (b := true) (by omega) (by omega)).2 (by omega) (by omega) ?_
      rw [bi]
      refine mj_aload_n hJ dX2_takeWorths_25 rfl ?_
      refine mj_iload_n hJ dX2_takeWorths_26 rfl ?_
      refine mk_iald hJ dX2_takeWorths_27 (by assumption) (by omega) (by omega) ?_
      rw [hf k hk, gi.1]
      first | refine ms_iadd hJ dX2_takeWorths_28 (by omega) ?_ | refine mj_iadd hJ dX2_takeWorths_28 ?_
      rw [← es]
      refine mk_iast hJ dX2_takeWorths_29 (gr_9 (b := true) (by omega) (by omega)).2 (by omega) (by omega) ?_
      refine ms_iinc (ls' := [_, _, _, _]) hJ dX2_takeWorths_30 rfl (by decide) rfl (wr_id (by omega)) rfl ?_
      refine mj_goto (tgt := 2) hJ dX2_takeWorths_33 (by decide) ?_
      rw [show (i : Int) + 1 = ((i + 1 : Nat) : Int) by omega]
      refine ih (i + 1) _ (by omega) (fun c hc => (upI_ne hc).trans (hf c hc)) (fun n n0 n1 => ?_) (by omega)
      rw [upI_at]
      by_cases e : n = ((i + 1 : Nat) : Int)
      · rw [if_pos e, e, Int.toNat_natCast]
      · rw [if_neg e]
        exact hB n n0 (by omega)
  refine mj_iconst hJ dX2_takeWorths_0 (by decide) ?_
  refine ms_istore_n (ls' := [_, _, _, _]) hJ dX2_takeWorths_1 (by decide) rfl rfl ?_
  refine loop 12 0 I rfl (fun _ _ => rfl) (fun n n0 n1 => ?_) ⟨Int.le_refl _, Int.le_refl _⟩
  rw [show n = 0 by omega]
  exact h0
theorem c_worths (h : RX I N T) (v s : Int) : MtI G yX8_worths cX8_worths 4 (some .int) 2 [vr 0, vi v, vi s] I b (Xg I (F_worths N v s) (G_worths N v s) T) := by
  refine mt_enterI (own := RX8) (ls0 := [vr 0, vi v, vi s, vu]) rfl (by decide +kernel) (Nat.le_of_ble_eq_true rfl) rfl rfl (fun J hJ hR => ?_)
  have hw := h.1.1
  have hl := h.2.1.1
  have hn := hw.nv
  have hs := h.1.2.1
  have hr := h.2.2.2.1
  have e0 := hl.1.1
  unfold F_worths G_worths at hR
  have bad : ¬((0 ≤ v ∧ v < N 112 0) ∧ (0 ≤ s ∧ s ≤ 3)) → J 15 [vr 0, vi v, vi s, vu] [] (mk I b) := by
    intro q
    rw [if_neg q, if_neg (fun z => q z.1)] at hR
    refine mj_iconst hJ dX8_worths_15 (by decide) ?_
    exact hR _ _ _ _ _ dX8_worths_16 nar_i h.refl
  refine mj_aload_n hJ dX8_worths_0 rfl ?_
  refine mj_iload_n hJ dX8_worths_1 rfl ?_
  refine mk_Vp1 hJ dX8_worths_2 cw_X8_101 rfl rfl rfl rfl (Nat.le_of_ble_eq_true rfl) (by first | decide | omega) (c_isVillage v (by rw [e0]; exact hn.1) (by rw [e0]; exact hn.2)) ?_
  rw [e0]
  by_cases h1 : 0 ≤ v ∧ v < N 112 0
  · rw [if_pos h1]
    refine mj_if_eq (tgt := 15) hJ dX8_worths_5 (by decide) (fun hyes => absurd hyes (by decide)) (fun _ => ?_)
    refine mj_iload_n hJ dX8_worths_8 rfl ?_
    refine mk_Sp1 hJ dX8_worths_9 cw_X8_112 rfl (Nat.le_of_ble_eq_true rfl) (by first | decide | omega) (c_isSheet s) ?_
    by_cases h2 : 0 ≤ s ∧ s ≤ 3
    · rw [if_pos h2]
      rw [if_pos ⟨h1, h2⟩] at hR
      have q := hr s h2.1 (by omega)
      have s2 := (gi_98 (b := b) h2.1 (show s < 4 by omega)).2
      refine mj_if_ne (tgt := 17) hJ dX8_worths_12 (by decide) (fun _ => ?_) (fun hno => absurd hno (by decide))
      refine mj_aload_n hJ dX8_worths_17 rfl ?_
      refine mk_getR hJ dX8_worths_18 fw_X8_66 rfl (by decide) rfl rfl ?_
      refine mj_iload_n hJ dX8_worths_21 rfl ?_
      refine mk_aald hJ dX8_worths_22 rfl (Or.inr rfl) (by omega) (by omega) (gr_98 (by omega) (by omega)).1 ?_
      refine mj_iconst hJ dX8_worths_23 (by decide) ?_
      refine mk_Vp1 hJ dX8_worths_24 cw_X8_115 (gr_98 (b := true) (by omega) (by omega)).2 rfl rfl rfl (Nat.le_of_ble_eq_true rfl) (by first | decide | omega) (c_X3_refusalAs hs hr s 0 h2.1 (by omega)) ?_
      refine ms_istore_n (ls' := [_, _, _, _]) hJ dX8_worths_27 (by decide) rfl rfl ?_
      refine mj_iload_n hJ dX8_worths_28 rfl ?_
      refine mj_if_eq (tgt := 34) hJ dX8_worths_29 (by decide) (fun h3 => ?_) (fun h3 => ?_)
      · rw [if_pos h3] at hR
        refine mj_aload_n hJ dX8_worths_34 rfl ?_
        refine mk_getR hJ dX8_worths_35 fw_X8_66 rfl (by decide) rfl rfl ?_
        refine mj_iload_n hJ dX8_worths_38 rfl ?_
        refine mk_aald hJ dX8_worths_39 rfl (Or.inr rfl) (by omega) (by omega) (gr_98 (by omega) (by omega)).1 ?_
        refine mk_Sp1 hJ dX8_worths_40 cw_X8_118 rfl (Nat.le_of_ble_eq_true rfl) (by first | decide | omega) (c_tellsWorths hs hr s h2.1 (by omega)) ?_
        by_cases h4 : N 137 s = 12 ∧ (wok (itm N s) 12).isSome = true
        · have hP : wthP N v s := ⟨⟨h1, h2⟩, h3, h4⟩
          rw [if_pos h4]
          rw [if_pos h4, if_pos hP] at hR
          obtain ⟨a, ha⟩ := Option.isSome_iff_exists.mp h4.2
          have hwb := (wok_bd 12 ha).2
          obtain ⟨g, hg⟩ : ∃ g, rowI N 112 (fun j => if 10 + 18 * v + 6 ≤ j ∧ j < 10 + 18 * v + 18 then itm N s (j - (10 + 18 * v + 6)) else N 112 j) 112 = g := ⟨_, rfl⟩
          have ge : ∀ j, g j = if 10 + 18 * v + 6 ≤ j ∧ j < 10 + 18 * v + 18 then itm N s (j - (10 + 18 * v + 6)) else N 112 j := fun j => by rw [← hg, rowI_at]
          have go : ∀ j, (j < 10 + 18 * v + 6 ∨ 10 + 18 * v + 18 ≤ j) → g j = N 112 j := fun j hj => by rw [ge, if_neg (by omega)]
          have gw : ∀ i, 0 ≤ i → i < 12 → g (10 + 18 * v + (6 + i)) = itm N s i := fun i i0 i1 => by
            rw [ge, if_pos (by omega)]
            congr 1
            omega
          refine mj_if_ne (tgt := 49) hJ dX8_worths_43 (by decide) (fun _ => ?_) (fun hno => absurd hno (by decide))
          refine mj_aload_n hJ dX8_worths_49 rfl ?_
          refine mk_getR hJ dX8_worths_50 fw_X8_12 rfl (by decide) rfl rfl ?_
          refine mj_iload_n hJ dX8_worths_53 rfl ?_
          refine mj_aload_n hJ dX8_worths_54 rfl ?_
          refine mk_getR hJ dX8_worths_55 fw_X8_66 rfl (by decide) rfl rfl ?_
          refine mj_iload_n hJ dX8_worths_58 rfl ?_
          refine mk_aald hJ dX8_worths_59 rfl (Or.inr rfl) (by omega) (by omega) (gr_98 (by omega) (by omega)).1 ?_
          refine mk_getR hJ dX8_worths_60 fw_X8_122 (gr_98 (b := true) (by omega) (by omega)).2 (by decide) rfl (gi_98 (by omega) (by omega)).1 ?_
          refine mk_Vv2 hJ dX8_worths_63 cw_X8_125 rfl rfl rfl rfl (Nat.le_of_ble_eq_true rfl) (by first | decide | omega) (c_X2_takeWorths g g v (104 + 2 * s.toNat) h1.1 (by omega) s2 (by omega) (by rw [hl.tog h1.1 h1.2 (n := 0) (by decide) (by decide)]; rfl) (fun i i0 i1 => by rw [gw i i0 i1]; exact ⟨q.2.2 i i0 (by omega), hwb i i0 (by omega)⟩)) (fun I1 b1 hq9 => ?_)
          obtain ⟨rfl, hf, hB⟩ := hq9
          refine mj_iconst hJ dX8_worths_66 (by decide) ?_
          refine hR _ _ _ _ _ dX8_worths_67 nar_i ⟨rfl, ?_, fun c hc => hf c (by omega)⟩
          refine h.now (fun c hc => hf c (by omega)) (fun c hc => rowI_ne hc) ?_ ?_ ?_ ?_ ?_
          · rw [hg]
            refine ⟨by rw [go 0 (by omega)]; exact hw.1, by rw [go 1 (by omega)]; exact hw.2.1, by rw [go 2 (by omega)]; exact hw.2.2.1, by rw [go 3 (by omega)]; exact hw.2.2.2.1, by rw [go 4 (by omega), go 5 (by omega), go 0 (by omega)]; exact hw.dm, fun u u0 u1 => ?_, fun u k u0 u1 k0 k1 => ?_, fun y y0 y1 => ?_⟩
            · rw [go _ (by omega), go _ (by omega), go _ (by omega), go _ (by omega), go _ (by omega), go _ (by omega)]; exact hw.fact u0 u1
            · by_cases e : u = v
              · subst e
                rw [gw k k0 k1]
                exact hwb k k0 (by omega)
              · rw [go _ (by omega)]; exact hw.worth u0 u1 k0 k1
            · rw [go _ (by omega)]; exact hw.wet y0 y1
          · rw [hg, go _ (by omega)]
          · rw [hg, go _ (by omega)]
          · intro j hj; rw [hg, go _ (by omega)]
          · rw [hg]
            refine ⟨?_, fun u k u0 u1 k0 k1 => ?_, fun u m u0 u1 m0 m1 => ?_, fun y y0 y1 => ?_⟩
            · rw [hf 1 (by omega), go 0 (by omega), go 1 (by omega), go 4 (by omega), go 5 (by omega)]; exact hl.1
            · rw [go 0 (by omega)] at u1
              rw [hf _ (by omega), go _ (by omega)]
              exact hl.fact u0 u1 k0 k1
            · rw [go 0 (by omega)] at u1
              by_cases e : u = v
              · subst e
                exact hB m m0 m1
              · rw [hf _ (by omega), fst_congr (f := N 112) m.toNat (fun k k0 k1 => go _ (by omega))]
                exact hl.tog u0 u1 m0 m1
            · rw [go 1 (by omega)] at y1
              rw [hf 16 (by omega), go _ (by omega)]
              exact hl.2.2.2 y y0 y1
        · rw [if_neg h4]
          rw [if_neg h4, if_neg (fun z => h4 z.2.2)] at hR
          refine mj_if_ne (tgt := 49) hJ dX8_worths_43 (by decide) (fun hyes => absurd (by decide) hyes) (fun _ => ?_)
          refine mj_bipush hJ dX8_worths_46 (by decide) ?_
          exact hR _ _ _ _ _ dX8_worths_48 nar_i h.refl
      · rw [if_neg h3, if_neg (fun z => h3 z.2.1)] at hR
        refine mj_iload_n hJ dX8_worths_32 rfl ?_
        exact hR _ _ _ _ _ dX8_worths_33 nar_i h.refl
    · rw [if_neg h2]
      refine mj_if_ne (tgt := 17) hJ dX8_worths_12 (by decide) (fun hyes => absurd (by decide) hyes) (fun _ => ?_)
      exact bad (fun q => h2 q.2)
  · rw [if_neg h1]
    refine mj_if_eq (tgt := 15) hJ dX8_worths_5 (by decide) (fun _ => ?_) (fun hno => absurd rfl hno)
    exact bad (fun q => h1 q.1)
theorem c_tellsThanks (h : RX I N T) (s : Int) (s0 : 0 ≤ s) (s1 : s < 4) : MtP G yX8_tellsThanks cX8_tellsThanks 3 (some .boolean) 1 [vr 0, vr (103 + 2 * s.toNat)] I b (if N 137 s = N 112 0 ∧ (thk (itm N s) (N 112 0).toNat).isSome = true then 1 else 0) := by
  refine mt_enterI (own := RX8) (ls0 := [vr 0, vr (103 + 2 * s.toNat), vu]) rfl (by decide +kernel) (Nat.le_of_ble_eq_true rfl) rfl rfl (fun J hJ hR => ?_)
  have hw := h.1.1
  have hl := h.2.1.1
  have hn := hw.nv
  have hr := h.2.2.2.1
  have q := hr s s0 s1
  have s2 := (gi_98 (b := b) s0 s1).2
  refine mj_aload_n hJ dX8_tellsThanks_0 rfl ?_
  refine mk_getI (j' := 1) hJ dX8_tellsThanks_1 fw_X8_278 (gr_98 (b := true) (by omega) (by omega)).2 (by decide) rfl rfl ?_
  rw [q.2.1]
  refine mj_aload_n hJ dX8_tellsThanks_4 rfl ?_
  refine mk_getR hJ dX8_tellsThanks_5 fw_X8_12 rfl (by decide) rfl rfl ?_
  refine mk_getI (j' := 0) hJ dX8_tellsThanks_8 fw_X8_94 rfl (by decide) rfl rfl ?_
  rw [hl.1.1]
  refine mj_icmp_eq (tgt := 16) hJ dX8_tellsThanks_11 (by decide) (fun h12 => ?_) (fun h12 => ?_)
  · have loop : ∀ (m k : Nat) (a : Int), ((k + m : Nat) : Int) = N 112 0 → thk (itm N s) k = some a → J 18 [vr 0, vr (103 + 2 * s.toNat), vi k] [] (mk I b) := by
      intro m
      induction m with
      | zero =>
        intro k a hk ha
        rw [if_pos ⟨h12, by rw [show (N 112 0).toNat = k by omega, ha]; rfl⟩] at hR
        refine mj_iload_n hJ dX8_tellsThanks_18 rfl ?_
        refine mj_aload_n hJ dX8_tellsThanks_19 rfl ?_
        refine mk_getR hJ dX8_tellsThanks_20 fw_X8_12 rfl (by decide) rfl rfl ?_
        refine mk_getI (j' := 0) hJ dX8_tellsThanks_23 fw_X8_94 rfl (by decide) rfl rfl ?_
        rw [hl.1.1]
        refine mj_icmp_ge (tgt := 55) hJ dX8_tellsThanks_26 (by decide) (fun _ => ?_) (fun hno => absurd (by omega) hno)
        refine mj_iconst hJ dX8_tellsThanks_55 (by decide) ?_
        exact hR _ _ _ _ _ dX8_tellsThanks_56 (nar_z (by first | exact Or.inl rfl | exact Or.inr rfl | assumption | omega)) ⟨rfl, rfl, rfl⟩
      | succ m ih =>
        intro k a hk ha
        have ei : I (104 + 2 * s.toNat) k = itm N s k := q.2.2 k (by omega) (by omega)
        have st := thk_step ha
        refine mj_iload_n hJ dX8_tellsThanks_18 rfl ?_
        refine mj_aload_n hJ dX8_tellsThanks_19 rfl ?_
        refine mk_getR hJ dX8_tellsThanks_20 fw_X8_12 rfl (by decide) rfl rfl ?_
        refine mk_getI (j' := 0) hJ dX8_tellsThanks_23 fw_X8_94 rfl (by decide) rfl rfl ?_
        rw [hl.1.1]
        refine mj_icmp_ge (tgt := 55) hJ dX8_tellsThanks_26 (by decide) (fun hyes => absurd hyes (by omega)) (fun _ => ?_)
        refine mj_aload_n hJ dX8_tellsThanks_29 rfl ?_
        refine mk_getR hJ dX8_tellsThanks_30 fw_X8_122 (gr_98 (b := true) (by omega) (by omega)).2 (by decide) rfl (gi_98 (by omega) (by omega)).1 ?_
        refine mj_iload_n hJ dX8_tellsThanks_33 rfl ?_
        refine mk_iald hJ dX8_tellsThanks_34 (gi_98 (b := true) (by omega) (by omega)).2 (by omega) (by omega) ?_
        rw [ei]
        refine mj_sipush hJ dX8_tellsThanks_35 (by decide) ?_
        refine mj_sipush hJ dX8_tellsThanks_38 (by decide) ?_
        refine mk_Sp3 hJ dX8_tellsThanks_41 cw_X8_105 rfl (Nat.le_of_ble_eq_true rfl) (by first | decide | omega) (c_within (itm N s k) (-9999) 9999) ?_
        by_cases c : -9999 ≤ itm N s k ∧ itm N s k ≤ 9999
        · rw [if_pos c] at st ⊢
          refine mj_if_ne (tgt := 49) hJ dX8_tellsThanks_44 (by decide) (fun _ => ?_) (fun hno => absurd hno (by decide))
          refine ms_iinc (ls' := [_, _, _]) hJ dX8_tellsThanks_49 rfl (by decide) rfl (wr_id (by omega)) rfl ?_
          refine mj_goto (tgt := 18) hJ dX8_tellsThanks_52 (by decide) ?_
          rw [show (k : Int) + 1 = ((k + 1 : Nat) : Int) by omega]
          exact ih (k + 1) _ (by omega) st
        · rw [if_neg c] at st ⊢
          have hn2 := thk_none st m
          rw [show k + 1 + m = (N 112 0).toNat by omega] at hn2
          rw [if_neg (fun z => by rw [hn2] at z; exact Bool.noConfusion z.2)] at hR
          refine mj_if_ne (tgt := 49) hJ dX8_tellsThanks_44 (by decide) (fun hyes => absurd (by decide) hyes) (fun _ => ?_)
          refine mj_iconst hJ dX8_tellsThanks_47 (by decide) ?_
          exact hR _ _ _ _ _ dX8_tellsThanks_48 (nar_z (by first | exact Or.inl rfl | exact Or.inr rfl | assumption | omega)) ⟨rfl, rfl, rfl⟩
    refine mj_iconst hJ dX8_tellsThanks_16 (by decide) ?_
    refine ms_istore_n (ls' := [_, _, _]) hJ dX8_tellsThanks_17 (by decide) rfl rfl ?_
    exact loop (N 112 0).toNat 0 0 (by omega) rfl
  · rw [if_neg (fun z => h12 z.1)] at hR
    refine mj_iconst hJ dX8_tellsThanks_14 (by decide) ?_
    exact hR _ _ _ _ _ dX8_tellsThanks_15 (nar_z (by first | exact Or.inl rfl | exact Or.inr rfl | assumption | omega)) ⟨rfl, rfl, rfl⟩
theorem c_lawful (h : RX I N T) (s : Int) : MtI G yX8_lawful cX8_lawful 6 (some .int) 6 [vr 0, vi s] I b (Xg I (F_lawful N s) N T) := by
  refine mt_enterI (own := RX8) (ls0 := [vr 0, vi s, vu, vu, vu, vu]) rfl (by decide +kernel) (Nat.le_of_ble_eq_true rfl) rfl rfl (fun J hJ hR => ?_)
  have hw := h.1.1
  have hl := h.2.1.1
  have hn := hw.nv
  have hs := h.1.2.1
  have hr := h.2.2.2.1
  unfold F_lawful at hR
  refine mj_iload_n hJ dX8_lawful_0 rfl ?_
  refine mk_Sp1 hJ dX8_lawful_1 cw_X8_112 rfl (Nat.le_of_ble_eq_true rfl) (by first | decide | omega) (c_isSheet s) ?_
  by_cases h1 : 0 ≤ s ∧ s ≤ 3
  · have q := hr s h1.1 (by omega)
    have s2 := (gi_98 (b := b) h1.1 (show s < 4 by omega)).2
    rw [if_pos h1]
    rw [if_pos h1] at hR
    refine mj_if_ne (tgt := 9) hJ dX8_lawful_4 (by decide) (fun _ => ?_) (fun hno => absurd hno (by decide))
    refine mj_aload_n hJ dX8_lawful_9 rfl ?_
    refine mk_getR hJ dX8_lawful_10 fw_X8_66 rfl (by decide) rfl rfl ?_
    refine mj_iload_n hJ dX8_lawful_13 rfl ?_
    refine mk_aald hJ dX8_lawful_14 rfl (Or.inr rfl) (by omega) (by omega) (gr_98 (by omega) (by omega)).1 ?_
    refine ms_astore_n (ls' := [_, _, _, _, _, _]) hJ dX8_lawful_15 (by decide) rfl rfl ?_
    refine mj_aload_n hJ dX8_lawful_16 rfl ?_
    refine mj_iconst hJ dX8_lawful_17 (by decide) ?_
    refine mk_Vp1 hJ dX8_lawful_18 cw_X8_115 (gr_98 (b := true) (by omega) (by omega)).2 rfl rfl rfl (Nat.le_of_ble_eq_true rfl) (by first | decide | omega) (c_X3_refusalAs hs hr s 2 h1.1 (by omega)) ?_
    refine ms_istore_n (ls' := [_, _, _, _, _, _]) hJ dX8_lawful_21 (by decide) rfl rfl ?_
    refine mj_iload_n hJ dX8_lawful_22 rfl ?_
    refine mj_if_eq (tgt := 28) hJ dX8_lawful_23 (by decide) (fun h2 => ?_) (fun h2 => ?_)
    · rw [if_pos h2] at hR
      refine mj_aload_n hJ dX8_lawful_28 rfl ?_
      refine mj_aload_n hJ dX8_lawful_29 rfl ?_
      refine mk_Vp1 hJ dX8_lawful_30 cw_X8_175 rfl rfl rfl rfl (Nat.le_of_ble_eq_true rfl) (by first | decide | omega) (c_tellsThanks h s h1.1 (by omega)) ?_
      by_cases h3 : N 137 s = N 112 0 ∧ (thk (itm N s) (N 112 0).toNat).isSome = true
      · rw [if_pos h3]
        rw [if_pos h3.1] at hR
        obtain ⟨z0, hz0⟩ := Option.isSome_iff_exists.mp h3.2
        rw [hz0] at hR
        simp only [] at hR
        have tb := thk_bd (N 112 0).toNat hz0
        refine mj_if_ne (tgt := 39) hJ dX8_lawful_33 (by decide) (fun _ => ?_) (fun hno => absurd hno (by decide))
        refine mj_aload_n hJ dX8_lawful_39 rfl ?_
        refine mk_getR hJ dX8_lawful_40 fw_X8_26 rfl (by decide) rfl rfl ?_
        refine mj_aload_n hJ dX8_lawful_43 rfl ?_
        refine mk_getR hJ dX8_lawful_44 fw_X8_12 rfl (by decide) rfl rfl ?_
        refine mj_bipush hJ dX8_lawful_47 (by decide) ?_
        refine mk_Vv2 hJ dX8_lawful_49 cw_X8_139 rfl rfl rfl rfl (Nat.le_of_ble_eq_true rfl) (by first | decide | omega) (c_X7_followBest hw hl 10 (by decide) (by decide)) (fun I1 b1 hq9 => ?_)
        obtain ⟨rfl, hf1, hB⟩ := hq9
        refine mj_iconst hJ dX8_lawful_52 (by decide) ?_
        refine ms_istore (ls' := [_, _, _, _, _, _]) hJ dX8_lawful_53 (by decide) rfl rfl ?_
        refine mj_iconst hJ dX8_lawful_55 (by decide) ?_
        refine ms_istore (ls' := [_, _, _, _, _, _]) hJ dX8_lawful_56 (by decide) rfl rfl ?_
        have loop : ∀ (m k : Nat) (a : Int) (I2 : Ints), ((k + m : Nat) : Int) = N 112 0 → thk (itm N s) k = some a → (∀ c, c ≠ 90 → I2 c = I1 c) → (∀ u : Int, 0 ≤ u → u < k → I2 90 u = bM (N 112) u + itm N s u) → J 58 [vr 0, vi s, vr (103 + 2 * s.toNat), vi (notv N s 2), vi a, vi k] [] (mk I2 b1) := by
          intro m
          induction m with
          | zero =>
            intro k a I2 hk ha hf hQ
            have ek : (N 112 0).toNat = k := by omega
            have ea : a = z0 := by
              rw [← ek, hz0] at ha
              exact (Option.some.inj ha).symm
            have hl2 : LN I2 (N 112) := LN.same hw hl (fun c c1 c2 => (hf c (by omega)).trans (hf1 c (by omega)))
            refine mj_iload hJ dX8_lawful_58 rfl ?_
            refine mj_aload_n hJ dX8_lawful_60 rfl ?_
            refine mk_getR hJ dX8_lawful_61 fw_X8_12 rfl (by decide) rfl rfl ?_
            refine mk_getI (j' := 0) hJ dX8_lawful_64 fw_X8_94 rfl (by decide) rfl rfl ?_
            rw [hl2.1.1]
            refine mj_icmp_ge (tgt := 113) hJ dX8_lawful_67 (by decide) (fun _ => ?_) (fun hno => absurd (by omega) hno)
            refine mj_iload hJ dX8_lawful_113 rfl ?_
            refine mj_if_eq (tgt := 124) hJ dX8_lawful_115 (by decide) (fun hz => ?_) (fun hz => ?_)
            · rw [if_pos (by omega)] at hR
              refine mj_aload_n hJ dX8_lawful_124 rfl ?_
              have hBr := c_breakOfShares (G := G) (b := b1) hw hl2 (fun v => bM (N 112) v + itm N s v) (fun v x y => hQ v x (by omega)) (fun v x y => by
                show -100000 ≤ bM (N 112) v + itm N s v ∧ bM (N 112) v + itm N s v ≤ 100000
                have := bM_bd hw x y
                have := tb.2.2 v x (by omega)
                omega)
              refine mk_Vi0 hJ dX8_lawful_125 cw_X8_171 rfl rfl rfl rfl (Nat.le_of_ble_eq_true rfl) (by first | decide | omega) (hBr) (fun z I3 b3 hq9 => ?_)
              obtain ⟨rfl, rfl, hf3⟩ := hq9
              exact hR _ _ _ _ _ dX8_lawful_128 nar_i (h.xs (b := true) ⟨rfl, fun c hc => by rw [hf3 c (by omega), hf c (by omega), hf1 c (by omega)]⟩)
            · rw [if_neg (by omega)] at hR
              refine mj_sipush hJ dX8_lawful_118 (by decide) ?_
              refine mj_goto (tgt := 128) hJ dX8_lawful_121 (by decide) ?_
              exact hR _ _ _ _ _ dX8_lawful_128 nar_i (h.xs (b := true) ⟨rfl, fun c hc => by rw [hf c (by omega), hf1 c (by omega)]⟩)
          | succ m ih =>
            intro k a I2 hk ha hf hQ
            have hl2 : LN I2 (N 112) := LN.same hw hl (fun c c1 c2 => (hf c (by omega)).trans (hf1 c (by omega)))
            have ei : I2 (104 + 2 * s.toNat) k = itm N s k := by rw [hf _ (by omega), hf1 _ (by omega)]; exact q.2.2 k (by omega) (by omega)
            have ab := thk_bd k ha
            have ik := tb.2.2 k (by omega) (by omega)
            have st := thk_step ha
            rw [if_pos ik] at st
            have bb := bM_bd hw (v := (k : Int)) (by omega) (by omega)
            have e49 : I2 49 k = bM (N 112) k := by rw [hf 49 (by decide)]; exact (hB k (by omega) (by omega)).2.2
            refine mj_iload hJ dX8_lawful_58 rfl ?_
            refine mj_aload_n hJ dX8_lawful_60 rfl ?_
            refine mk_getR hJ dX8_lawful_61 fw_X8_12 rfl (by decide) rfl rfl ?_
            refine mk_getI (j' := 0) hJ dX8_lawful_64 fw_X8_94 rfl (by decide) rfl rfl ?_
            rw [hl2.1.1]
            refine mj_icmp_ge (tgt := 113) hJ dX8_lawful_67 (by decide) (fun hyes => absurd hyes (by omega)) (fun _ => ?_)
            refine mj_iload hJ dX8_lawful_70 rfl ?_
            refine mj_aload_n hJ dX8_lawful_72 rfl ?_
            refine mk_getR hJ dX8_lawful_73 fw_X8_122 (gr_98 (b := true) (by omega) (by omega)).2 (by decide) rfl (gi_98 (by omega) (by omega)).1 ?_
            refine mj_iload hJ dX8_lawful_76 rfl ?_
            refine mk_iald hJ dX8_lawful_78 (gi_98 (b := true) (by omega) (by omega)).2 (by omega) (by omega) ?_
            rw [ei]
            first | refine ms_iadd hJ dX8_lawful_79 (by omega) ?_ | refine mj_iadd hJ dX8_lawful_79 ?_
            refine ms_istore (ls' := [_, _, _, _, _, _]) hJ dX8_lawful_80 (by decide) rfl rfl ?_
            refine mj_aload_n hJ dX8_lawful_82 rfl ?_
            refine mk_getR hJ dX8_lawful_83 fw_X8_51 rfl (by decide) rfl rfl ?_
            refine mj_iload hJ dX8_lawful_86 rfl ?_
            refine mj_aload_n hJ dX8_lawful_88 rfl ?_
            refine mk_getR hJ dX8_lawful_89 fw_X8_26 rfl (by decide) rfl rfl ?_
            refine mk_getR hJ dX8_lawful_92 fw_X8_149 rfl (by decide) rfl rfl ?_
            refine mj_iload hJ dX8_lawful_95 rfl ?_
            refine mk_iald hJ dX8_lawful_97 rfl (by omega) (by omega) ?_
            rw [e49]
            refine mj_aload_n hJ dX8_lawful_98 rfl ?_
            refine mk_getR hJ dX8_lawful_99 fw_X8_122 (gr_98 (b := true) (by omega) (by omega)).2 (by decide) rfl (gi_98 (by omega) (by omega)).1 ?_
            refine mj_iload hJ dX8_lawful_102 rfl ?_
            refine mk_iald hJ dX8_lawful_104 (gi_98 (b := true) (by omega) (by omega)).2 (by omega) (by omega) ?_
            rw [ei]
            first | refine ms_iadd hJ dX8_lawful_105 (by omega) ?_ | refine mj_iadd hJ dX8_lawful_105 ?_
            refine mk_iast hJ dX8_lawful_106 rfl (by omega) (by omega) ?_
            refine ms_iinc (ls' := [_, _, _, _, _, _]) hJ dX8_lawful_107 rfl (by decide) rfl (wr_id (by omega)) rfl ?_
            refine mj_goto (tgt := 58) hJ dX8_lawful_110 (by decide) ?_
            rw [show (k : Int) + 1 = ((k + 1 : Nat) : Int) by omega]
            refine ih (k + 1) _ _ (by omega) st (fun c hc => (upI_ne hc).trans (hf c hc)) (fun u x y => ?_)
            rw [upI_at]
            by_cases e : u = k
            · rw [if_pos e, e]
            · rw [if_neg e]
              exact hQ u x (by omega)
        exact loop (N 112 0).toNat 0 0 I1 (by omega) rfl (fun _ _ => rfl) (fun u x y => by omega)
      · rw [if_neg h3]
        by_cases c : N 137 s = N 112 0
        · rw [if_pos c] at hR
          cases e : thk (itm N s) (N 112 0).toNat with
          | none =>
            rw [e] at hR
            simp only [] at hR
            refine mj_if_ne (tgt := 39) hJ dX8_lawful_33 (by decide) (fun hyes => absurd (by decide) hyes) (fun _ => ?_)
            refine mj_bipush hJ dX8_lawful_36 (by decide) ?_
            exact hR _ _ _ _ _ dX8_lawful_38 nar_i h.refl
          | some z => exact absurd ⟨c, by rw [e]; rfl⟩ h3
        · rw [if_neg c] at hR
          refine mj_if_ne (tgt := 39) hJ dX8_lawful_33 (by decide) (fun hyes => absurd (by decide) hyes) (fun _ => ?_)
          refine mj_bipush hJ dX8_lawful_36 (by decide) ?_
          exact hR _ _ _ _ _ dX8_lawful_38 nar_i h.refl
    · rw [if_neg h2] at hR
      refine mj_iload_n hJ dX8_lawful_26 rfl ?_
      exact hR _ _ _ _ _ dX8_lawful_27 nar_i h.refl
  · rw [if_neg h1]
    rw [if_neg h1] at hR
    refine mj_if_ne (tgt := 9) hJ dX8_lawful_4 (by decide) (fun hyes => absurd (by decide) hyes) (fun _ => ?_)
    refine mj_iconst hJ dX8_lawful_7 (by decide) ?_
    exact hR _ _ _ _ _ dX8_lawful_8 nar_i h.refl
theorem c_flows (hTb : TBs G) (h : RX I N T) (v s i n : Int) (hi32 : -2147483648 ≤ i ∧ i ≤ 2147483647) : MtI G yX8_flows cX8_flows 9 (some .int) 2 [vr 0, vi v, vi s, vi i, vi n] I b (Xg I (F_flows N v s i n) (G_flows N v s i n) T) := by
  refine mt_enterI (own := RX8) (ls0 := [vr 0, vi v, vi s, vi i, vi n, vu, vu, vu, vu]) rfl (by decide +kernel) (Nat.le_of_ble_eq_true rfl) rfl rfl (fun J hJ hR => ?_)
  have hw := h.1.1
  have hl := h.2.1.1
  have hn := hw.nv
  have e0 := hl.1.1
  unfold F_flows G_flows at hR
  have bad : ¬flwP N v s n → J 26 [vr 0, vi v, vi s, vi i, vi n, vu, vu, vu, vu] [] (mk I b) := by
    intro q
    rw [if_neg q, if_neg (fun z => q z.1)] at hR
    refine mj_iconst hJ dX8_flows_26 (by decide) ?_
    exact hR _ _ _ _ _ dX8_flows_27 nar_i h.refl
  refine mj_aload_n hJ dX8_flows_0 rfl ?_
  refine mj_iload_n hJ dX8_flows_1 rfl ?_
  refine mk_Vp1 hJ dX8_flows_2 cw_X8_101 rfl rfl rfl rfl (Nat.le_of_ble_eq_true rfl) (by first | decide | omega) (c_isVillage v (by rw [e0]; exact hn.1) (by rw [e0]; exact hn.2)) ?_
  rw [e0]
  by_cases h1 : 0 ≤ v ∧ v < N 112 0
  · rw [if_pos h1]
    refine mj_if_eq (tgt := 26) hJ dX8_flows_5 (by decide) (fun hyes => absurd hyes (by decide)) (fun _ => ?_)
    refine mj_iload_n hJ dX8_flows_8 rfl ?_
    refine mk_Sp1 hJ dX8_flows_9 cw_X8_112 rfl (Nat.le_of_ble_eq_true rfl) (by first | decide | omega) (c_isSheet s) ?_
    by_cases h2 : 0 ≤ s ∧ s ≤ 3
    · rw [if_pos h2]
      refine mj_if_eq (tgt := 26) hJ dX8_flows_12 (by decide) (fun hyes => absurd hyes (by decide)) (fun _ => ?_)
      refine mj_iload hJ dX8_flows_15 rfl ?_
      refine mj_iconst hJ dX8_flows_17 (by decide) ?_
      refine mj_bipush hJ dX8_flows_18 (by decide) ?_
      refine mk_Sp3 hJ dX8_flows_20 cw_X8_105 rfl (Nat.le_of_ble_eq_true rfl) (by first | decide | omega) (c_within n 0 6) ?_
      by_cases h3 : 0 ≤ n ∧ n ≤ 6
      · rw [if_pos h3]
        have hP : flwP N v s n := ⟨h1, h2, h3⟩
        rw [if_pos hP] at hR
        refine mj_if_ne (tgt := 28) hJ dX8_flows_23 (by decide) (fun _ => ?_) (fun hno => absurd hno (by decide))
        refine mj_aload_n hJ dX8_flows_28 rfl ?_
        refine mk_getR hJ dX8_flows_29 fw_X8_66 rfl (by decide) rfl rfl ?_
        refine mj_iload_n hJ dX8_flows_32 rfl ?_
        refine mk_aald hJ dX8_flows_33 rfl (Or.inr rfl) (by omega) (by omega) (gr_98 (by omega) (by omega)).1 ?_
        refine ms_astore (ls' := [_, _, _, _, _, _, _, _, _]) hJ dX8_flows_34 (by decide) rfl rfl ?_
        refine mj_aload hJ dX8_flows_36 rfl ?_
        refine mj_iconst hJ dX8_flows_38 (by decide) ?_
        refine mk_Vp1 hJ dX8_flows_39 cw_X8_115 (gr_98 (b := true) (by omega) (by omega)).2 rfl rfl rfl (Nat.le_of_ble_eq_true rfl) (by first | decide | omega) (c_X3_refusalAs h.1.2.1 h.2.2.2.1 s 1 h2.1 (by omega)) ?_
        refine ms_istore (ls' := [_, _, _, _, _, _, _, _, _]) hJ dX8_flows_42 (by decide) rfl rfl ?_
        refine mj_iload hJ dX8_flows_44 rfl ?_
        refine mj_if_eq (tgt := 52) hJ dX8_flows_46 (by decide) (fun h4 => ?_) (fun h4 => ?_)
        · rw [if_pos h4, if_pos ⟨hP, h4⟩] at hR
          have s2 := (gi_98 (b := b) h2.1 (show s < 4 by omega)).2
          have loop : ∀ (m : Nat) (k c : Int) (I1 N1 : Ints), 0 ≤ k → k + m = n → (0 ≤ c ∧ c ≤ k) → RX I1 N1 T → (∀ x, 17 ≤ x → I1 x = I x) → N1 112 0 = N 112 0 → N1 137 = N 137 → N1 138 = N 138 → flo v s i m k N1 c = flo v s i n.toNat 0 N 0 → (0 < k → 0 ≤ i ∧ i < N 137 s) → J 58 [vr 0, vi v, vi s, vi i, vi n, vr (103 + 2 * s.toNat), vi (notv N s 1), vi c, vi k] [] (mk I1 b) := by
            intro m
            induction m with
            | zero =>
              intro k c I1 N1 k0 km hc hx hf e1 e2 e3 he hi
              have he : (c, N1) = flo v s i n.toNat 0 N 0 := he
              refine mj_iload hJ dX8_flows_58 rfl ?_
              refine mj_iload hJ dX8_flows_60 rfl ?_
              refine mj_icmp_ge (tgt := 141) hJ dX8_flows_62 (by decide) (fun _ => ?_) (fun hno => absurd (by omega) hno)
              refine mj_iload hJ dX8_flows_141 rfl ?_
              exact hR _ _ _ _ _ dX8_flows_143 nar_i ⟨by rw [← he], by rw [← he]; exact hx, fun x hx2 => hf x (by omega)⟩
            | succ m ih =>
              intro k c I1 N1 k0 km hc hx hf e1 e2 e3 he hi
              have hw1 := hx.1.1
              have hl1 := hx.2.1.1
              have hr1 := hx.2.2.2.1
              have q := hr1 s h2.1 (by omega)
              have w := hx.1.2.1.sh h2.1 (show s < 4 by omega)
              have he2 : flo v s i (m + 1) k N1 c = if i < 0 ∨ N1 137 s - 1 - k < i then (-12, N1) else if (0 ≤ v + k ∧ v + k < N1 112 0) ∧ (0 ≤ itm N1 s (i + k) ∧ itm N1 s (i + k) ≤ 12) then flo v s i m (k + 1) (upI N1 112 (10 + 18 * (v + k) + 0) (itm N1 s (i + k))) (c + 1) else flo v s i m (k + 1) N1 c := rfl
              rw [he2] at he
              have NEXT : ∀ (c' : Int) (I2 N2 : Ints), (0 ≤ c' ∧ c' ≤ k + 1) → RX I2 N2 T → (∀ x, 17 ≤ x → I2 x = I x) → N2 112 0 = N 112 0 → N2 137 = N 137 → N2 138 = N 138 → flo v s i m (k + 1) N2 c' = flo v s i n.toNat 0 N 0 → 0 ≤ i ∧ i < N 137 s → J 135 [vr 0, vi v, vi s, vi i, vi n, vr (103 + 2 * s.toNat), vi (notv N s 1), vi c', vi k] [] (mk I2 b) := by
                intro c' I2 N2 a1 a2 a3 a4 a5 a6 a7 a8
                refine ms_iinc (ls' := [_, _, _, _, _, _, _, _, _]) hJ dX8_flows_135 rfl (by decide) rfl (wr_id (by omega)) rfl ?_
                refine mj_goto (tgt := 58) hJ dX8_flows_138 (by decide) ?_
                exact ih (k + 1) c' I2 N2 (by omega) (by omega) a1 a2 a3 a4 a5 a6 a7 (fun _ => a8)
              refine mj_iload hJ dX8_flows_58 rfl ?_
              refine mj_iload hJ dX8_flows_60 rfl ?_
              refine mj_icmp_ge (tgt := 141) hJ dX8_flows_62 (by decide) (fun hyes => absurd hyes (by omega)) (fun _ => ?_)
              refine mj_aload hJ dX8_flows_65 rfl ?_
              refine mj_iload_n hJ dX8_flows_67 rfl ?_
              refine mj_iload hJ dX8_flows_68 rfl ?_
              have K71 : ∀ x : Int, (if 0 ≤ x ∧ x < N1 137 s then (1 : Int) else 0) = (if 0 ≤ i ∧ i + k < N1 137 s then 1 else 0) → (0 ≤ i → i < 40 → x = i + k) → J 71 [vr 0, vi v, vi s, vi i, vi n, vr (103 + 2 * s.toNat), vi (notv N s 1), vi c, vi k] [vi x, vr (103 + 2 * s.toNat)] (mk I1 b) := by
                intro x ex ex2
                refine mk_Vp1 hJ dX8_flows_71 cw_X8_269 (gr_98 (b := true) (by omega) (by omega)).2 rfl rfl rfl (Nat.le_of_ble_eq_true rfl) (by first | decide | omega) (c_X3_hasItem hx.1.2.1 hr1 s x h2.1 (by omega)) ?_
                rw [ex]
                by_cases h5 : 0 ≤ i ∧ i + k < N1 137 s
                · rw [if_pos h5]
                  rw [if_neg (by omega)] at he
                  have hi2 : 0 ≤ i ∧ i < N 137 s := by rw [← e2]; omega
                  have ei : I1 (104 + 2 * s.toNat) (i + k) = itm N1 s (i + k) := q.2.2 (i + k) (by omega) (by omega)
                  refine mj_if_ne (tgt := 80) hJ dX8_flows_74 (by decide) (fun _ => ?_) (fun hno => absurd hno (by decide))
                  refine mj_aload_n hJ dX8_flows_80 rfl ?_
                  refine mj_iload_n hJ dX8_flows_81 rfl ?_
                  refine mj_iload hJ dX8_flows_82 rfl ?_
                  first | refine ms_iadd hJ dX8_flows_84 (by omega) ?_ | refine mj_iadd hJ dX8_flows_84 ?_
                  refine mk_Vp1 hJ dX8_flows_85 cw_X8_101 rfl rfl rfl rfl (Nat.le_of_ble_eq_true rfl) (by first | decide | omega) (c_isVillage (v + k) (by rw [hl1.1.1]; exact hw1.nv.1) (by rw [hl1.1.1]; exact hw1.nv.2)) ?_
                  rw [hl1.1.1]
                  by_cases h6 : 0 ≤ v + k ∧ v + k < N1 112 0
                  · rw [if_pos h6]
                    refine mj_if_eq (tgt := 135) hJ dX8_flows_88 (by decide) (fun hyes => absurd hyes (by decide)) (fun _ => ?_)
                    refine mj_iconst hJ dX8_flows_91 (by decide) ?_
                    refine mj_aload hJ dX8_flows_92 rfl ?_
                    refine mk_getR hJ dX8_flows_94 fw_X8_122 (gr_98 (b := true) (by omega) (by omega)).2 (by decide) rfl (gi_98 (by omega) (by omega)).1 ?_
                    refine mj_iload_n hJ dX8_flows_97 rfl ?_
                    refine mj_iload hJ dX8_flows_98 rfl ?_
                    first | refine ms_iadd hJ dX8_flows_100 (by omega) ?_ | refine mj_iadd hJ dX8_flows_100 ?_
                    refine mk_iald hJ dX8_flows_101 (gi_98 (b := true) (by omega) (by omega)).2 (by omega) (by omega) ?_
                    rw [ei]
                    refine mk_Sp2 hJ dX8_flows_102 cw_X8_90 rfl (Nat.le_of_ble_eq_true rfl) (by first | decide | omega) (c_isFact hTb 0 (itm N1 s (i + k)) (by decide) (by decide)) ?_
                    rw [if_neg (show ¬((0 : Int) = 5) by decide), if_pos (show (0 : Int) = 0 from rfl)]
                    by_cases h7 : 0 ≤ itm N1 s (i + k) ∧ itm N1 s (i + k) ≤ 12
                    · rw [if_pos h7]
                      rw [if_pos ⟨h6, h7⟩] at he
                      have hv6 := hw1.nv
                      refine mj_if_eq (tgt := 135) hJ dX8_flows_105 (by decide) (fun hyes => absurd hyes (by decide)) (fun _ => ?_)
                      refine mj_aload_n hJ dX8_flows_108 rfl ?_
                      refine mk_getR hJ dX8_flows_109 fw_X8_12 rfl (by decide) rfl rfl ?_
                      refine mk_getR hJ dX8_flows_112 fw_X8_109 rfl (by decide) rfl rfl ?_
                      refine mj_iload_n hJ dX8_flows_115 rfl ?_
                      refine mj_iload hJ dX8_flows_116 rfl ?_
                      first | refine ms_iadd hJ dX8_flows_118 (by omega) ?_ | refine mj_iadd hJ dX8_flows_118 ?_
                      refine mk_aald hJ dX8_flows_119 rfl (Or.inl rfl) (by omega) (by omega) (gr_2 (by omega) (by omega)).1 ?_
                      refine mj_iconst hJ dX8_flows_120 (by decide) ?_
                      refine mj_aload hJ dX8_flows_121 rfl ?_
                      refine mk_getR hJ dX8_flows_123 fw_X8_122 (gr_98 (b := true) (by omega) (by omega)).2 (by decide) rfl (gi_98 (by omega) (by omega)).1 ?_
                      refine mj_iload_n hJ dX8_flows_126 rfl ?_
                      refine mj_iload hJ dX8_flows_127 rfl ?_
                      first | refine ms_iadd hJ dX8_flows_129 (by omega) ?_ | refine mj_iadd hJ dX8_flows_129 ?_
                      refine mk_iald hJ dX8_flows_130 (gi_98 (b := true) (by omega) (by omega)).2 (by omega) (by omega) ?_
                      rw [ei]
                      refine mk_iast hJ dX8_flows_131 (gr_2 (b := true) (by omega) (by omega)).2 (by omega) (by omega) ?_
                      refine ms_iinc (ls' := [_, _, _, _, _, _, _, _, _]) hJ dX8_flows_132 rfl (by decide) rfl (wr_id (by omega)) rfl ?_
                      have ge : ∀ j, upI N1 112 (10 + 18 * (v + k) + 0) (itm N1 s (i + k)) 112 j = if j = 10 + 18 * (v + k) + 0 then itm N1 s (i + k) else N1 112 j := fun j => upI_at
                      refine NEXT (c + 1) _ (upI N1 112 (10 + 18 * (v + k) + 0) (itm N1 s (i + k))) (by omega) ?_ (fun x hx2 => by rw [upI_ne (by omega)]; exact hf x hx2) (by rw [ge, if_neg (by omega)]; exact e1) (by rw [upI_ne (by decide)]; exact e2) (by rw [upI_ne (by decide)]; exact e3) he hi2
                      refine hx.now (fun c hc => upI_ne (by omega)) (fun c hc => upI_ne hc) ?_ ?_ ?_ ?_ ?_
                      · refine WN_up hw1 ge (by omega) (fun u k' u0 u1 k0 k1 e => ?_) (fun q => by omega)
                        have ek : k' = 0 := by omega
                        subst ek
                        refine ⟨fun _ => h7, fun q => by omega, fun q => by omega, fun q => by omega, fun q => by omega, fun q => by omega, fun q => by omega⟩
                      · rw [ge, if_neg (by omega)]
                      · rw [ge, if_neg (by omega)]
                      · intro j hj; rw [ge, if_neg (by omega)]
                      · exact LN_fact hw1 hl1 h6.1 h6.2 (by decide) (by decide) ge
                    · rw [if_neg h7]
                      rw [if_neg (fun z => h7 z.2)] at he
                      refine mj_if_eq (tgt := 135) hJ dX8_flows_105 (by decide) (fun _ => ?_) (fun hno => absurd rfl hno)
                      exact NEXT c I1 N1 (by omega) hx hf e1 e2 e3 he hi2
                  · rw [if_neg h6]
                    rw [if_neg (fun z => h6 z.1)] at he
                    refine mj_if_eq (tgt := 135) hJ dX8_flows_88 (by decide) (fun _ => ?_) (fun hno => absurd rfl hno)
                    exact NEXT c I1 N1 (by omega) hx hf e1 e2 e3 he hi2
                · rw [if_neg h5]
                  rw [if_pos (by omega)] at he
                  refine mj_if_ne (tgt := 80) hJ dX8_flows_74 (by decide) (fun hyes => absurd (by decide) hyes) (fun _ => ?_)
                  refine mj_bipush hJ dX8_flows_77 (by decide) ?_
                  exact hR _ _ _ _ _ dX8_flows_79 nar_i ⟨by rw [← he], by rw [← he]; exact hx, fun x hx2 => hf x (by omega)⟩
              by_cases hk0 : k = 0
              · subst hk0
                refine mj_iadd hJ dX8_flows_70 ?_
                rw [Int.add_zero]
                have hin : J (70 + 1) [vr 0, vi v, vi s, vi i, vi n, vr (103 + 2 * s.toNat), vi (notv N s 1), vi c, vi 0] [vi (wr i), vr (103 + 2 * s.toNat)] (mk I1 b) := by
                  rw [wr_id hi32]
                  exact K71 i (by rw [Int.add_zero]) (fun a a2 => by omega)
                exact hin
              · have hi3 := hi (by omega)
                rw [← e2] at hi3
                refine ms_iadd hJ dX8_flows_70 (by omega) ?_
                refine K71 (i + k) ?_ (fun _ _ => rfl)
                by_cases z : 0 ≤ i ∧ i + k < N1 137 s
                · rw [if_pos z, if_pos (by omega)]
                · rw [if_neg z, if_neg (by omega)]
          refine mj_iconst hJ dX8_flows_52 (by decide) ?_
          refine ms_istore (ls' := [_, _, _, _, _, _, _, _, _]) hJ dX8_flows_53 (by decide) rfl rfl ?_
          refine mj_iconst hJ dX8_flows_55 (by decide) ?_
          refine ms_istore (ls' := [_, _, _, _, _, _, _, _, _]) hJ dX8_flows_56 (by decide) rfl rfl ?_
          exact loop n.toNat 0 0 I N (Int.le_refl _) (by omega) (by omega) h (fun _ _ => rfl) rfl rfl rfl rfl (fun q => absurd q (by decide))
        · rw [if_neg h4, if_neg (fun z => h4 z.2)] at hR
          refine mj_iload hJ dX8_flows_49 rfl ?_
          exact hR _ _ _ _ _ dX8_flows_51 nar_i h.refl
      · rw [if_neg h3]
        refine mj_if_ne (tgt := 28) hJ dX8_flows_23 (by decide) (fun hyes => absurd (by decide) hyes) (fun _ => ?_)
        exact bad (fun q => h3 q.2.2)
    · rw [if_neg h2]
      refine mj_if_eq (tgt := 26) hJ dX8_flows_12 (by decide) (fun _ => ?_) (fun hno => absurd rfl hno)
      exact bad (fun q => h2 q.2.1)
  · rw [if_neg h1]
    refine mj_if_eq (tgt := 26) hJ dX8_flows_5 (by decide) (fun _ => ?_) (fun hno => absurd rfl hno)
    exact bad (fun q => h1 q.1)
end C11
