section C10
variable {G : GE} {I N : Ints} {b : Bool} {T : List Ln}
/-- only sheets have changed -/
theorem RX.sht {I N I' N' : Ints} {T : List Ln} (h : RX I N T) (eI : ∀ c, (c < 43 ∨ c = 80 ∨ c = 86 ∨ (91 ≤ c ∧ c ≤ 102) ∨ 111 ≤ c) → I' c = I c) (eN : ∀ c, c < 136 ∨ 138 < c → N' c = N c) (hs : WS N') (hr : RSheets I' N') : RX I' N' T := by
  obtain ⟨⟨h1, h2, h3⟩, ⟨h4, h5⟩, h6, h7, h8, h9, h10, h11⟩ := h
  have e112 := eN 112 (by decide)
  refine ⟨⟨by rw [e112]; exact h1, hs, by rw [e112]; exact h3⟩, ⟨by rw [e112]; exact LN.same h1 h4 (fun c c1 c2 => eI c (by omega)), h5.same (fun c c1 c2 => eI c (by omega))⟩, h6.same h2 (by rw [eI 0 (by decide)]) (fun c c1 c2 => eI c (by omega)) (by rw [eN 111 (by decide)]) (eN 135 (by decide)), hr, h8.same (eI 99 (by decide)) (eI 100 (by decide)) (fun c c1 c2 => eN c (by omega)), h9.same (by rw [eI 101 (by decide)]) (eI 102 (by decide)) (by rw [eN 111 (by decide)]) (eN 142 (by decide)), h10.same (by rw [eI 80 (by decide)]) (eI 86 (by decide)) (by rw [eN 111 (by decide)]) (eN 127 (by decide)), h11.same (by rw [eI 0 (by decide)]) (fun c c1 c2 => eI c (by omega)) (by rw [eN 111 (by decide)]) (eN 113 (by decide))⟩
theorem WS.sh {N : Ints} (h : WS N) {s : Int} (s0 : 0 ≤ s) (s1 : s < 4) : (-1 ≤ N 136 s ∧ N 136 s ≤ 3) ∧ (0 ≤ N 137 s ∧ N 137 s ≤ 40) ∧ (N 139 s = 1 → 0 ≤ N 140 s ∧ N 140 s ≤ 6) := h.2.1 s s0 s1
theorem c_X3_refusalAs (hs : WS N) (hr : RSheets I N) (s t : Int) (s0 : 0 ≤ s) (s1 : s < 4) : MtP G yX3_refusalAs cX3_refusalAs 2 (some .int) 0 [vr (103 + 2 * s.toNat), vi t] I b (notv N s t) := by
  refine mt_enterI (own := RX3) (ls0 := [vr (103 + 2 * s.toNat), vi t]) rfl (by decide +kernel) (Nat.le_of_ble_eq_true rfl) rfl rfl (fun J hJ hR => ?_)
  have e := (hr s s0 s1).1
  have w := (hs.sh s0 s1).1
  unfold notv at hR
  refine mj_aload_n hJ dX3_refusalAs_0 rfl ?_
  refine mk_getI (j' := 0) hJ dX3_refusalAs_1 fw_X3_9 (gr_98 (b := true) (by omega) (by omega)).2 (by decide) rfl rfl ?_
  rw [e]
  refine mj_iconst hJ dX3_refusalAs_4 (by decide) ?_
  refine mj_icmp_ne (tgt := 11) hJ dX3_refusalAs_5 (by decide) (fun h => ?_) (fun h => ?_)
  · rw [if_neg (by omega)] at hR
    refine mj_aload_n hJ dX3_refusalAs_11 rfl ?_
    refine mk_getI (j' := 0) hJ dX3_refusalAs_12 fw_X3_9 (gr_98 (b := true) (by omega) (by omega)).2 (by decide) rfl rfl ?_
    rw [e]
    refine mj_iload_n hJ dX3_refusalAs_15 rfl ?_
    refine mj_icmp_ne (tgt := 23) hJ dX3_refusalAs_16 (by decide) (fun h2 => ?_) (fun h2 => ?_)
    · rw [if_neg h2] at hR
      refine mj_bipush hJ dX3_refusalAs_23 (by decide) ?_
      exact hR _ _ _ _ _ dX3_refusalAs_25 nar_i ⟨rfl, rfl, rfl⟩
    · rw [if_pos h2] at hR
      refine mj_iconst hJ dX3_refusalAs_19 (by decide) ?_
      refine mj_goto (tgt := 25) hJ dX3_refusalAs_20 (by decide) ?_
      exact hR _ _ _ _ _ dX3_refusalAs_25 nar_i ⟨rfl, rfl, rfl⟩
  · rw [if_pos (by omega)] at hR
    refine mj_bipush hJ dX3_refusalAs_8 (by decide) ?_
    exact hR _ _ _ _ _ dX3_refusalAs_10 nar_i ⟨rfl, rfl, rfl⟩
theorem c_X3_hasItem (hs : WS N) (hr : RSheets I N) (s i : Int) (s0 : 0 ≤ s) (s1 : s < 4) : MtP G yX3_hasItem cX3_hasItem 2 (some .boolean) 1 [vr (103 + 2 * s.toNat), vi i] I b (if 0 ≤ i ∧ i < N 137 s then 1 else 0) := by
  refine mt_enterI (own := RX3) (ls0 := [vr (103 + 2 * s.toNat), vi i]) rfl (by decide +kernel) (Nat.le_of_ble_eq_true rfl) rfl rfl (fun J hJ hR => ?_)
  have e := (hr s s0 s1).2.1
  have w := (hs.sh s0 s1).2.1
  refine mj_iload_n hJ dX3_hasItem_0 rfl ?_
  refine mj_iconst hJ dX3_hasItem_1 (by decide) ?_
  refine mj_aload_n hJ dX3_hasItem_2 rfl ?_
  refine mk_getI (j' := 1) hJ dX3_hasItem_3 fw_X3_15 (gr_98 (b := true) (by omega) (by omega)).2 (by decide) rfl rfl ?_
  rw [e]
  refine mj_iconst hJ dX3_hasItem_6 (by decide) ?_
  first | refine ms_isub hJ dX3_hasItem_7 (by omega) ?_ | refine mj_isub hJ dX3_hasItem_7 ?_
  refine mk_Sp3 hJ dX3_hasItem_8 cw_X3_28 rfl (Nat.le_of_ble_eq_true rfl) (by first | decide | omega) (c_within i 0 (N 137 s - 1)) ?_
  have hb := dec_bit (P := 0 ≤ i ∧ i ≤ N 137 s - 1)
  have e2 : (if 0 ≤ i ∧ i ≤ N 137 s - 1 then (1 : Int) else 0) = if 0 ≤ i ∧ i < N 137 s then 1 else 0 := by
    by_cases c : 0 ≤ i ∧ i < N 137 s
    · rw [if_pos c, if_pos (by omega)]
    · rw [if_neg c, if_neg (by omega)]
  exact hR _ _ _ _ _ dX3_hasItem_11 (nar_z (by first | exact Or.inl rfl | exact Or.inr rfl | assumption | omega)) ⟨e2, rfl, rfl⟩
theorem c_X3_narrowed (hr : RSheets I N) (s v : Int) (s0 : 0 ≤ s) (s1 : s < 4) : MtP G yX3_narrowed cX3_narrowed 2 (some .int) 0 [vr (103 + 2 * s.toNat), vi v] I b (nrw (N 136 s) v) := by
  refine mt_enterI (own := RX3) (ls0 := [vr (103 + 2 * s.toNat), vi v]) rfl (by decide +kernel) (Nat.le_of_ble_eq_true rfl) rfl rfl (fun J hJ hR => ?_)
  have e := (hr s s0 s1).1
  unfold nrw at hR
  refine mj_aload_n hJ dX3_narrowed_0 rfl ?_
  refine mk_getI (j' := 0) hJ dX3_narrowed_1 fw_X3_9 (gr_98 (b := true) (by omega) (by omega)).2 (by decide) rfl rfl ?_
  rw [e]
  refine mj_if_ne (tgt := 10) hJ dX3_narrowed_4 (by decide) (fun h => ?_) (fun h => ?_)
  · rw [if_neg h] at hR
    refine mj_aload_n hJ dX3_narrowed_10 rfl ?_
    refine mk_getI (j' := 0) hJ dX3_narrowed_11 fw_X3_9 (gr_98 (b := true) (by omega) (by omega)).2 (by decide) rfl rfl ?_
    rw [e]
    refine mj_iconst hJ dX3_narrowed_14 (by decide) ?_
    refine mj_icmp_ne (tgt := 23) hJ dX3_narrowed_15 (by decide) (fun h2 => ?_) (fun h2 => ?_)
    · rw [if_neg h2] at hR
      refine mj_iload_n hJ dX3_narrowed_23 rfl ?_
      exact hR _ _ _ _ _ dX3_narrowed_24 nar_i ⟨rfl, rfl, rfl⟩
    · rw [if_pos h2] at hR
      refine mj_iload_n hJ dX3_narrowed_18 rfl ?_
      refine mj_i2s hJ dX3_narrowed_19 ?_
      refine mj_goto (tgt := 24) hJ dX3_narrowed_20 (by decide) ?_
      exact hR _ _ _ _ _ dX3_narrowed_24 nar_i ⟨rfl, rfl, rfl⟩
  · rw [if_pos h] at hR
    refine mj_iload_n hJ dX3_narrowed_7 rfl ?_
    refine mj_i2b hJ dX3_narrowed_8 ?_
    exact hR _ _ _ _ _ dX3_narrowed_9 nar_i ⟨rfl, rfl, rfl⟩
theorem c_X3_becomeRow (s t n : Int) (s0 : 0 ≤ s) (s1 : s < 4) : MtV G yX3_becomeRow cX3_becomeRow 3 1 [vr (103 + 2 * s.toNat), vi t, vi n] I b (fun I' b' => b' = b ∧ I' = rowI (upI (upI I (103 + 2 * s.toNat) 0 t) (103 + 2 * s.toNat) 1 n) (104 + 2 * s.toNat) (fun j => if 0 ≤ j ∧ j < ((40 : Nat) : Int) then 0 else upI (upI I (103 + 2 * s.toNat) 0 t) (103 + 2 * s.toNat) 1 n (104 + 2 * s.toNat) j)) := by
  refine mt_enterV (own := RX3) (ls0 := [vr (103 + 2 * s.toNat), vi t, vi n]) rfl (by decide +kernel) (Nat.le_of_ble_eq_true rfl) rfl (fun J hJ hR => ?_)
  refine mj_aload_n hJ dX3_becomeRow_0 rfl ?_
  refine mj_iload_n hJ dX3_becomeRow_1 rfl ?_
  refine mk_putI (j' := 0) hJ dX3_becomeRow_2 fw_X3_9 (gr_98 (b := true) (by omega) (by omega)).2 (by decide) rfl rfl ?_
  refine mj_aload_n hJ dX3_becomeRow_5 rfl ?_
  refine mj_iload_n hJ dX3_becomeRow_6 rfl ?_
  refine mk_putI (j' := 1) hJ dX3_becomeRow_7 fw_X3_15 (gr_98 (b := true) (by omega) (by omega)).2 (by decide) rfl rfl ?_
  refine mj_aload_n hJ dX3_becomeRow_10 rfl ?_
  refine mk_getR hJ dX3_becomeRow_11 fw_X3_18 (gr_98 (b := true) (by omega) (by omega)).2 (by decide) rfl (gi_98 (by omega) (by omega)).1 ?_
  refine mj_iconst hJ dX3_becomeRow_14 (by decide) ?_
  refine mk_Sv2 hJ dX3_becomeRow_15 cw_X3_22 rfl (Nat.le_of_ble_eq_true rfl) (by first | decide | omega) (c_fill (104 + 2 * s.toNat) 40 0 (gi_98 (b := true) s0 s1).2 (by decide)) (fun I1 b1 hq9 => ?_)
  obtain ⟨rfl, e1⟩ := hq9
  refine hR _ _ _ _ dX3_becomeRow_18 ⟨rfl, e1⟩
theorem c_sheet (h : RX I N T) (s t n : Int) : MtI G yX8_sheet cX8_sheet 4 (some .int) 2 [vr 0, vi s, vi t, vi n] I b (Xg I (F_sheet s t n) (G_sheet N s t n) T) := by
  refine mt_enterI (own := RX8) (ls0 := [vr 0, vi s, vi t, vi n]) rfl (by decide +kernel) (Nat.le_of_ble_eq_true rfl) rfl rfl (fun J hJ hR => ?_)
  have hs := h.1.2.1
  have hr := h.2.2.2.1
  unfold F_sheet G_sheet at hR
  -- the sheet becomes a row of m of sort t
  have DONE : ∀ m : Int, (0 ≤ s ∧ s ≤ 3) → (-1 ≤ t ∧ t ≤ 3) → 0 ≤ m → m ≤ 40 → ∀ I1, I1 = rowI (upI (upI I (103 + 2 * s.toNat) 0 t) (103 + 2 * s.toNat) 1 m) (104 + 2 * s.toNat) (fun j => if 0 ≤ j ∧ j < ((40 : Nat) : Int) then 0 else upI (upI I (103 + 2 * s.toNat) 0 t) (103 + 2 * s.toNat) 1 m (104 + 2 * s.toNat) j) →
      RX I1 (rowI (upI (upI N 136 s t) 137 s m) 138 (fun j => if 40 * s ≤ j ∧ j < 40 * s + 40 then 0 else N 138 j)) T ∧ ∀ c, 111 ≤ c → I1 c = I c := by
    intro m hs2 ht m0 m1 I1 e1
    have ne : ∀ c, c ≠ 103 + 2 * s.toNat → c ≠ 104 + 2 * s.toNat → I1 c = I c := fun c c1 c2 => by rw [e1, rowI_ne c2, upI_ne c1, upI_ne c1]
    refine ⟨h.sht (fun c hc => ne c (by omega) (by omega)) (fun c hc => by rw [rowI_ne (by omega), upI_ne (by omega), upI_ne (by omega)]) ?_ ?_, fun c hc => ne c (by omega) (by omega)⟩
    · unfold WS
      rw [rowI_ne (by decide), rowI_ne (by decide), rowI_ne (by decide), rowI_ne (by decide), rowI_ne (by decide)]
      rw [upI_ne (k := 137) (a := 111) (by decide), upI_ne (k := 136) (a := 111) (by decide), upI_ne (k := 137) (a := 139) (by decide), upI_ne (k := 136) (a := 139) (by decide), upI_ne (k := 137) (a := 140) (by decide), upI_ne (k := 136) (a := 140) (by decide), upI_ne (k := 137) (a := 136) (by decide)]
      refine ⟨hs.1, fun u u0 u1 => ?_, hs.2.2⟩
      have w := hs.sh u0 u1
      rw [upI_at, upI_at, upI_ne (by decide)]
      refine ⟨?_, ?_, w.2.2⟩
      · by_cases e : u = s
        · rw [if_pos e]; exact ht
        · rw [if_neg e]; exact w.1
      · by_cases e : u = s
        · rw [if_pos e]; omega
        · rw [if_neg e]; exact w.2.1
    · intro u u0 u1
      have q := hr u u0 u1
      rw [rowI_ne (by decide), rowI_ne (by decide), rowI_at, upI_ne (k := 137) (a := 136) (by decide), upI_at, upI_at, upI_ne (by decide)]
      by_cases e : u = s
      · subst e
        rw [if_pos rfl, if_pos rfl]
        refine ⟨by rw [e1, rowI_ne (by omega), upI_at, if_neg (by decide), upI_at, if_pos rfl], by rw [e1, rowI_ne (by omega), upI_at, if_pos rfl], fun j j0 j1 => ?_⟩
        rw [if_pos (by omega), e1, rowI_at, if_pos (by omega)]
      · rw [if_neg e, if_neg e]
        refine ⟨by rw [ne _ (by omega) (by omega)]; exact q.1, by rw [ne _ (by omega) (by omega)]; exact q.2.1, fun j j0 j1 => ?_⟩
        rw [if_neg (by omega), ne _ (by omega) (by omega)]
        exact q.2.2 j j0 j1
  have bad : ¬((0 ≤ s ∧ s ≤ 3) ∧ (-1 ≤ t ∧ t ≤ 3) ∧ (0 ≤ t → n ≤ 40)) → Xg I (-1) N T (-1) I b → True := fun _ _ => trivial
  refine mj_iload_n hJ dX8_sheet_0 rfl ?_
  refine mk_Sp1 hJ dX8_sheet_1 cw_X8_112 rfl (Nat.le_of_ble_eq_true rfl) (by first | decide | omega) (c_isSheet s) ?_
  by_cases h1 : 0 ≤ s ∧ s ≤ 3
  · rw [if_pos h1]
    refine mj_if_eq (tgt := 16) hJ dX8_sheet_4 (by decide) (fun hyes => absurd hyes (by decide)) (fun _ => ?_)
    refine mj_iload_n hJ dX8_sheet_7 rfl ?_
    refine mj_iconst hJ dX8_sheet_8 (by decide) ?_
    refine mj_iconst hJ dX8_sheet_9 (by decide) ?_
    refine mk_Sp3 hJ dX8_sheet_10 cw_X8_105 rfl (Nat.le_of_ble_eq_true rfl) (by first | decide | omega) (c_within t (-1) 3) ?_
    by_cases h2 : -1 ≤ t ∧ t ≤ 3
    · rw [if_pos h2]
      refine mj_if_ne (tgt := 18) hJ dX8_sheet_13 (by decide) (fun _ => ?_) (fun hno => absurd hno (by decide))
      refine mj_iload_n hJ dX8_sheet_18 rfl ?_
      refine mj_iconst hJ dX8_sheet_19 (by decide) ?_
      refine mj_icmp_ne (tgt := 36) hJ dX8_sheet_20 (by decide) (fun ht => ?_) (fun ht => ?_)
      · refine mj_iload_n hJ dX8_sheet_36 rfl ?_
        refine mj_bipush hJ dX8_sheet_37 (by decide) ?_
        refine mj_icmp_le (tgt := 44) hJ dX8_sheet_39 (by decide) (fun hn => ?_) (fun hn => ?_)
        · refine mj_iload_n hJ dX8_sheet_44 rfl ?_
          have hP : (0 ≤ s ∧ s ≤ 3) ∧ (-1 ≤ t ∧ t ≤ 3) ∧ (0 ≤ t → n ≤ 40) := ⟨h1, h2, fun _ => hn⟩
          refine mj_if_ge (tgt := 51) hJ dX8_sheet_45 (by decide) (fun hn0 => ?_) (fun hn0 => ?_)
          · rw [if_pos hP, if_neg (by omega), if_pos ⟨hP, by omega⟩, if_neg (by omega)] at hR
            refine mj_aload_n hJ dX8_sheet_51 rfl ?_
            refine mk_getR hJ dX8_sheet_52 fw_X8_66 rfl (by decide) rfl rfl ?_
            refine mj_iload_n hJ dX8_sheet_55 rfl ?_
            refine mk_aald hJ dX8_sheet_56 rfl (Or.inr rfl) (by omega) (by omega) (gr_98 (by omega) (by omega)).1 ?_
            refine mj_iload_n hJ dX8_sheet_57 rfl ?_
            refine mj_iload_n hJ dX8_sheet_58 rfl ?_
            refine mk_Vv2 hJ dX8_sheet_59 cw_X8_262 (gr_98 (b := true) (by omega) (by omega)).2 rfl rfl rfl (Nat.le_of_ble_eq_true rfl) (by first | decide | omega) (c_X3_becomeRow s t n h1.1 (by omega)) (fun I1 b1 hq9 => ?_)
            obtain ⟨rfl, e1⟩ := hq9
            refine mj_iconst hJ dX8_sheet_62 (by decide) ?_
            exact hR _ _ _ _ _ dX8_sheet_63 nar_i ⟨rfl, DONE n h1 h2 hn0 hn I1 e1⟩
          · rw [if_pos hP, if_pos (by omega), if_neg (fun q => q.2 (by omega))] at hR
            refine mj_bipush hJ dX8_sheet_48 (by decide) ?_
            exact hR _ _ _ _ _ dX8_sheet_50 nar_i h.refl
        · rw [if_neg (fun q => hn (q.2.2 (by omega))), if_neg (fun q => hn (q.1.2.2 (by omega)))] at hR
          refine mj_iconst hJ dX8_sheet_42 (by decide) ?_
          exact hR _ _ _ _ _ dX8_sheet_43 nar_i h.refl
      · have hP : (0 ≤ s ∧ s ≤ 3) ∧ (-1 ≤ t ∧ t ≤ 3) ∧ (0 ≤ t → n ≤ 40) := ⟨h1, h2, fun q => by omega⟩
        rw [if_pos hP, if_neg (by omega), if_pos ⟨hP, by omega⟩, if_pos (by omega)] at hR
        refine mj_aload_n hJ dX8_sheet_23 rfl ?_
        refine mk_getR hJ dX8_sheet_24 fw_X8_66 rfl (by decide) rfl rfl ?_
        refine mj_iload_n hJ dX8_sheet_27 rfl ?_
        refine mk_aald hJ dX8_sheet_28 rfl (Or.inr rfl) (by omega) (by omega) (gr_98 (by omega) (by omega)).1 ?_
        refine mj_iconst hJ dX8_sheet_29 (by decide) ?_
        refine mj_iconst hJ dX8_sheet_30 (by decide) ?_
        refine mk_Vv2 hJ dX8_sheet_31 cw_X8_262 (gr_98 (b := true) (by omega) (by omega)).2 rfl rfl rfl (Nat.le_of_ble_eq_true rfl) (by first | decide | omega) (c_X3_becomeRow s (-1) 0 h1.1 (by omega)) (fun I1 b1 hq9 => ?_)
        obtain ⟨rfl, e1⟩ := hq9
        rw [← ht] at e1
        refine mj_iconst hJ dX8_sheet_34 (by decide) ?_
        exact hR _ _ _ _ _ dX8_sheet_35 nar_i ⟨rfl, DONE 0 h1 h2 (by decide) (by decide) I1 e1⟩
    · rw [if_neg (fun q => h2 q.2.1), if_neg (fun q => h2 q.1.2.1)] at hR
      rw [if_neg h2]
      refine mj_if_ne (tgt := 18) hJ dX8_sheet_13 (by decide) (fun hyes => absurd (by decide) hyes) (fun _ => ?_)
      refine mj_iconst hJ dX8_sheet_16 (by decide) ?_
      exact hR _ _ _ _ _ dX8_sheet_17 nar_i h.refl
  · rw [if_neg (fun q => h1 q.1), if_neg (fun q => h1 q.1.1)] at hR
    rw [if_neg h1]
    refine mj_if_eq (tgt := 16) hJ dX8_sheet_4 (by decide) (fun _ => ?_) (fun hno => absurd rfl hno)
    refine mj_iconst hJ dX8_sheet_16 (by decide) ?_
    exact hR _ _ _ _ _ dX8_sheet_17 nar_i h.refl
theorem c_put (h : RX I N T) (s i v : Int) : MtI G yX8_put cX8_put 5 (some .int) 2 [vr 0, vi s, vi i, vi v] I b (Xg I (F_put N s i) (G_put N s i v) T) := by
  refine mt_enterI (own := RX8) (ls0 := [vr 0, vi s, vi i, vi v, vu]) rfl (by decide +kernel) (Nat.le_of_ble_eq_true rfl) rfl rfl (fun J hJ hR => ?_)
  have hs := h.1.2.1
  have hr := h.2.2.2.1
  unfold F_put G_put at hR
  refine mj_iload_n hJ dX8_put_0 rfl ?_
  refine mk_Sp1 hJ dX8_put_1 cw_X8_112 rfl (Nat.le_of_ble_eq_true rfl) (by first | decide | omega) (c_isSheet s) ?_
  by_cases h1 : 0 ≤ s ∧ s ≤ 3
  · have q := hr s h1.1 (by omega)
    have w := hs.sh h1.1 (show s < 4 by omega)
    have s2 := (gi_98 (b := b) h1.1 (show s < 4 by omega)).2
    rw [if_pos h1]
    rw [if_pos h1] at hR
    refine mj_if_ne (tgt := 9) hJ dX8_put_4 (by decide) (fun _ => ?_) (fun hno => absurd hno (by decide))
    refine mj_aload_n hJ dX8_put_9 rfl ?_
    refine mk_getR hJ dX8_put_10 fw_X8_66 rfl (by decide) rfl rfl ?_
    refine mj_iload_n hJ dX8_put_13 rfl ?_
    refine mk_aald hJ dX8_put_14 rfl (Or.inr rfl) (by omega) (by omega) (gr_98 (by omega) (by omega)).1 ?_
    refine ms_astore (ls' := [_, _, _, _, _]) hJ dX8_put_15 (by decide) rfl rfl ?_
    refine mj_aload hJ dX8_put_17 rfl ?_
    refine mk_getI (j' := 0) hJ dX8_put_19 fw_X8_266 (gr_98 (b := true) (by omega) (by omega)).2 (by decide) rfl rfl ?_
    rw [q.1]
    refine mj_iconst hJ dX8_put_22 (by decide) ?_
    refine mj_icmp_ne (tgt := 29) hJ dX8_put_23 (by decide) (fun hm => ?_) (fun hm => ?_)
    · rw [if_neg (by omega)] at hR
      refine mj_aload hJ dX8_put_29 rfl ?_
      refine mj_iload_n hJ dX8_put_31 rfl ?_
      refine mk_Vp1 hJ dX8_put_32 cw_X8_269 (gr_98 (b := true) (by omega) (by omega)).2 rfl rfl rfl (Nat.le_of_ble_eq_true rfl) (by first | decide | omega) (c_X3_hasItem hs hr s i h1.1 (by omega)) ?_
      by_cases h2 : 0 ≤ i ∧ i < N 137 s
      · have hP : putP N s i := ⟨h1, by omega, h2⟩
        rw [if_pos h2]
        rw [if_pos h2, if_pos hP] at hR
        refine mj_if_ne (tgt := 41) hJ dX8_put_35 (by decide) (fun _ => ?_) (fun hno => absurd hno (by decide))
        refine mj_aload hJ dX8_put_41 rfl ?_
        refine mk_getR hJ dX8_put_43 fw_X8_122 (gr_98 (b := true) (by omega) (by omega)).2 (by decide) rfl (gi_98 (by omega) (by omega)).1 ?_
        refine mj_iload_n hJ dX8_put_46 rfl ?_
        refine mj_aload hJ dX8_put_47 rfl ?_
        refine mj_iload_n hJ dX8_put_49 rfl ?_
        refine mk_Vp1 hJ dX8_put_50 cw_X8_272 (gr_98 (b := true) (by omega) (by omega)).2 rfl rfl rfl (Nat.le_of_ble_eq_true rfl) (by first | decide | omega) (c_X3_narrowed hr s v h1.1 (by omega)) ?_
        refine mk_iast hJ dX8_put_53 (gi_98 (b := true) (by omega) (by omega)).2 (by omega) (by omega) ?_
        refine mj_iconst hJ dX8_put_54 (by decide) ?_
        refine hR _ _ _ _ _ dX8_put_55 nar_i ⟨rfl, h.sht (fun c hc => upI_ne (by omega)) (fun c hc => upI_ne (by omega)) ?_ ?_, fun c hc => upI_ne (by omega)⟩
        · unfold WS
          rw [upI_ne (by decide), upI_ne (by decide), upI_ne (by decide), upI_ne (by decide), upI_ne (by decide)]
          exact hs
        · intro u u0 u1
          have q2 := hr u u0 u1
          rw [upI_ne (k := 138) (a := 136) (by decide), upI_ne (k := 138) (a := 137) (by decide), upI_ne (by omega)]
          refine ⟨q2.1, q2.2.1, fun j j0 j1 => ?_⟩
          rw [upI_at]
          by_cases e : u = s
          · subst e
            rw [upI_at]
            by_cases e2 : j = i
            · rw [if_pos e2, if_pos (by omega)]
            · rw [if_neg e2, if_neg (by omega)]
              exact q2.2.2 j j0 j1
          · rw [upI_ne (by omega), if_neg (by omega)]
            exact q2.2.2 j j0 j1
      · rw [if_neg h2]
        rw [if_neg h2, if_neg (fun q => h2 q.2.2)] at hR
        refine mj_if_ne (tgt := 41) hJ dX8_put_35 (by decide) (fun hyes => absurd (by decide) hyes) (fun _ => ?_)
        refine mj_bipush hJ dX8_put_38 (by decide) ?_
        exact hR _ _ _ _ _ dX8_put_40 nar_i h.refl
    · rw [if_pos (by omega), if_neg (fun q => by have := q.2.1; omega)] at hR
      refine mj_bipush hJ dX8_put_26 (by decide) ?_
      exact hR _ _ _ _ _ dX8_put_28 nar_i h.refl
  · rw [if_neg h1]
    rw [if_neg h1, if_neg (fun q => h1 q.1)] at hR
    refine mj_if_ne (tgt := 9) hJ dX8_put_4 (by decide) (fun hyes => absurd (by decide) hyes) (fun _ => ?_)
    refine mj_iconst hJ dX8_put_7 (by decide) ?_
    exact hR _ _ _ _ _ dX8_put_8 nar_i h.refl
theorem c_item (h : RX I N T) (s t i : Int) : MtI G yX8_item cX8_item 6 (some .int) 2 [vr 0, vi s, vi t, vi i] I b (Xg I (F_item N s t i) N T) := by
  refine mt_enterI (own := RX8) (ls0 := [vr 0, vi s, vi t, vi i, vu, vu]) rfl (by decide +kernel) (Nat.le_of_ble_eq_true rfl) rfl rfl (fun J hJ hR => ?_)
  have hs := h.1.2.1
  have hr := h.2.2.2.1
  unfold F_item at hR
  refine mj_iload_n hJ dX8_item_0 rfl ?_
  refine mk_Sp1 hJ dX8_item_1 cw_X8_112 rfl (Nat.le_of_ble_eq_true rfl) (by first | decide | omega) (c_isSheet s) ?_
  by_cases h1 : 0 ≤ s ∧ s ≤ 3
  · have q := hr s h1.1 (by omega)
    have w := hs.sh h1.1 (show s < 4 by omega)
    rw [if_pos h1]
    refine mj_if_eq (tgt := 16) hJ dX8_item_4 (by decide) (fun hyes => absurd hyes (by decide)) (fun _ => ?_)
    refine mj_iload_n hJ dX8_item_7 rfl ?_
    refine mj_iconst hJ dX8_item_8 (by decide) ?_
    refine mj_iconst hJ dX8_item_9 (by decide) ?_
    refine mk_Sp3 hJ dX8_item_10 cw_X8_105 rfl (Nat.le_of_ble_eq_true rfl) (by first | decide | omega) (c_within t 0 3) ?_
    by_cases h2 : 0 ≤ t ∧ t ≤ 3
    · rw [if_pos h2]
      rw [if_pos ⟨h1, h2⟩] at hR
      refine mj_if_ne (tgt := 18) hJ dX8_item_13 (by decide) (fun _ => ?_) (fun hno => absurd hno (by decide))
      refine mj_aload_n hJ dX8_item_18 rfl ?_
      refine mk_getR hJ dX8_item_19 fw_X8_66 rfl (by decide) rfl rfl ?_
      refine mj_iload_n hJ dX8_item_22 rfl ?_
      refine mk_aald hJ dX8_item_23 rfl (Or.inr rfl) (by omega) (by omega) (gr_98 (by omega) (by omega)).1 ?_
      refine ms_astore (ls' := [_, _, _, _, _, _]) hJ dX8_item_24 (by decide) rfl rfl ?_
      refine mj_aload hJ dX8_item_26 rfl ?_
      refine mj_iload_n hJ dX8_item_28 rfl ?_
      refine mk_Vp1 hJ dX8_item_29 cw_X8_115 (gr_98 (b := true) (by omega) (by omega)).2 rfl rfl rfl (Nat.le_of_ble_eq_true rfl) (by first | decide | omega) (c_X3_refusalAs hs hr s t h1.1 (by omega)) ?_
      refine ms_istore (ls' := [_, _, _, _, _, _]) hJ dX8_item_32 (by decide) rfl rfl ?_
      refine mj_iload hJ dX8_item_34 rfl ?_
      refine mj_if_eq (tgt := 42) hJ dX8_item_36 (by decide) (fun h3 => ?_) (fun h3 => ?_)
      · rw [if_pos h3] at hR
        refine mj_aload hJ dX8_item_42 rfl ?_
        refine mj_iload_n hJ dX8_item_44 rfl ?_
        refine mk_Vp1 hJ dX8_item_45 cw_X8_269 (gr_98 (b := true) (by omega) (by omega)).2 rfl rfl rfl (Nat.le_of_ble_eq_true rfl) (by first | decide | omega) (c_X3_hasItem hs hr s i h1.1 (by omega)) ?_
        by_cases h4 : 0 ≤ i ∧ i < N 137 s
        · rw [if_pos h4]
          rw [if_pos h4] at hR
          have s2 := (gi_98 (b := b) h1.1 (show s < 4 by omega)).2
          refine mj_if_eq (tgt := 61) hJ dX8_item_48 (by decide) (fun hyes => absurd hyes (by decide)) (fun _ => ?_)
          refine mj_aload hJ dX8_item_51 rfl ?_
          refine mk_getR hJ dX8_item_53 fw_X8_122 (gr_98 (b := true) (by omega) (by omega)).2 (by decide) rfl (gi_98 (by omega) (by omega)).1 ?_
          refine mj_iload_n hJ dX8_item_56 rfl ?_
          refine mk_iald hJ dX8_item_57 (gi_98 (b := true) (by omega) (by omega)).2 (by omega) (by omega) ?_
          rw [q.2.2 i h4.1 (by omega)]
          refine mj_goto (tgt := 63) hJ dX8_item_58 (by decide) ?_
          exact hR _ _ _ _ _ dX8_item_63 nar_i h.refl
        · rw [if_neg h4]
          rw [if_neg h4] at hR
          refine mj_if_eq (tgt := 61) hJ dX8_item_48 (by decide) (fun _ => ?_) (fun hno => absurd rfl hno)
          refine mj_bipush hJ dX8_item_61 (by decide) ?_
          exact hR _ _ _ _ _ dX8_item_63 nar_i h.refl
      · rw [if_neg h3] at hR
        refine mj_iload hJ dX8_item_39 rfl ?_
        exact hR _ _ _ _ _ dX8_item_41 nar_i h.refl
    · rw [if_neg h2]
      rw [if_neg (fun q => h2 q.2)] at hR
      refine mj_if_ne (tgt := 18) hJ dX8_item_13 (by decide) (fun hyes => absurd (by decide) hyes) (fun _ => ?_)
      refine mj_iconst hJ dX8_item_16 (by decide) ?_
      exact hR _ _ _ _ _ dX8_item_17 nar_i h.refl
  · rw [if_neg h1]
    rw [if_neg (fun q => h1 q.1)] at hR
    refine mj_if_eq (tgt := 16) hJ dX8_item_4 (by decide) (fun _ => ?_) (fun hno => absurd rfl hno)
    refine mj_iconst hJ dX8_item_16 (by decide) ?_
    exact hR _ _ _ _ _ dX8_item_17 nar_i h.refl
end C10
