section C12
variable {G : GE} {I N : Ints} {b : Bool} {T : List Ln}
/-- only shelves have changed -/
theorem RX.shl {I N I' N' : Ints} {T : List Ln} (h : RX I N T) (eI : ∀ c, (c < 43 ∨ c = 80 ∨ c = 86 ∨ (91 ≤ c ∧ c ≤ 98) ∨ 101 ≤ c) → I' c = I c) (eN : ∀ c, c < 139 ∨ 141 < c → N' c = N c) (hs : WS N') (hr : RShelf I' N') : RX I' N' T := by
  obtain ⟨⟨h1, h2, h3⟩, ⟨h4, h5⟩, h6, h7, h8, h9, h10, h11⟩ := h
  have e112 := eN 112 (by decide)
  exact ⟨⟨by rw [e112]; exact h1, hs, by rw [e112]; exact h3⟩, ⟨by rw [e112]; exact LN.same h1 h4 (fun c c1 c2 => eI c (by omega)), h5.same (fun c c1 c2 => eI c (by omega))⟩, h6.same h2 (by rw [eI 0 (by decide)]) (fun c c1 c2 => eI c (by omega)) (by rw [eN 111 (by decide)]) (eN 135 (by decide)), h7.same (fun c c1 c2 => eI c (by omega)) (fun c c1 c2 => eN c (by omega)), hr, h9.same (by rw [eI 101 (by decide)]) (eI 102 (by decide)) (by rw [eN 111 (by decide)]) (eN 142 (by decide)), h10.same (by rw [eI 80 (by decide)]) (eI 86 (by decide)) (by rw [eN 111 (by decide)]) (eN 127 (by decide)), h11.same (by rw [eI 0 (by decide)]) (fun c c1 c2 => eI c (by omega)) (by rw [eN 111 (by decide)]) (eN 113 (by decide))⟩
/-- only rows have changed -/
theorem RX.rws {I N I' N' : Ints} {T : List Ln} (h : RX I N T) (eI : ∀ c, ((0 < c ∧ c < 43) ∨ c = 80 ∨ c = 86 ∨ c = 91 ∨ 98 ≤ c) → I' c = I c) (e0 : I' 0 2 = I 0 2) (eN : ∀ c, c ≠ 111 → c ≠ 135 → N' c = N c) (e1 : ∀ j, j ≠ 31 → N' 111 j = N 111 j) (e31 : 0 ≤ N' 111 31 ∧ N' 111 31 ≤ 6) (hr : RRows I' N') : RX I' N' T := by
  obtain ⟨⟨h1, h2, h3⟩, ⟨h4, h5⟩, h6, h7, h8, h9, h10, h11⟩ := h
  have e112 := eN 112 (by decide) (by decide)
  refine ⟨⟨by rw [e112]; exact h1, ?_, by rw [e112]; exact h3⟩, ⟨by rw [e112]; exact LN.same h1 h4 (fun c c1 c2 => eI c (by omega)), h5.same (fun c c1 c2 => eI c (by omega))⟩, hr, h7.same (fun c c1 c2 => eI c (by omega)) (fun c c1 c2 => eN c (by omega) (by omega)), h8.same (eI 99 (by decide)) (eI 100 (by decide)) (fun c c1 c2 => eN c (by omega) (by omega)), h9.same (by rw [eI 101 (by decide)]) (eI 102 (by decide)) (e1 39 (by decide)) (eN 142 (by decide) (by decide)), h10.same (by rw [eI 80 (by decide)]) (eI 86 (by decide)) (e1 17 (by decide)) (eN 127 (by decide) (by decide)), h11.same e0 (fun c c1 c2 => eI c (by omega)) (e1 2 (by decide)) (eN 113 (by decide) (by decide))⟩
  unfold WS
  rw [e1 39 (by decide), e1 17 (by decide), eN 136 (by decide) (by decide), eN 137 (by decide) (by decide), eN 139 (by decide) (by decide), eN 140 (by decide) (by decide)]
  exact ⟨e31, h2.2⟩
theorem c_shelf (h : RX I N T) (s w n : Int) : MtI G yX8_shelf cX8_shelf 4 (some .int) 2 [vr 0, vi s, vi w, vi n] I b (Xg I (F_shelf N s w n) (G_shelf N s w n) T) := by
  refine mt_enterI (own := RX8) (ls0 := [vr 0, vi s, vi w, vi n]) rfl (by decide +kernel) (Nat.le_of_ble_eq_true rfl) rfl rfl (fun J hJ hR => ?_)
  have hw := h.1.1
  have hl := h.2.1.1
  have hn := hw.nv
  have hs := h.1.2.1
  have hr := h.2.2.2.1
  have hf := h.2.2.2.2.1
  have e0 := hl.1.1
  unfold F_shelf G_shelf at hR
  have bad : ¬shfP N s w n → J 17 [vr 0, vi s, vi w, vi n] [] (mk I b) := by
    intro q
    rw [if_neg q, if_neg q] at hR
    refine mj_iconst hJ dX8_shelf_17 (by decide) ?_
    exact hR _ _ _ _ _ dX8_shelf_18 nar_i h.refl
  have bad2 : ¬shfP N s w n → J 46 [vr 0, vi s, vi w, vi n] [] (mk I b) := by
    intro q
    rw [if_neg q, if_neg q] at hR
    refine mj_iconst hJ dX8_shelf_46 (by decide) ?_
    exact hR _ _ _ _ _ dX8_shelf_47 nar_i h.refl
  -- what the shelf's three numbers become
  have DONE : ∀ (k x m : Int) (I1 : Ints), (0 ≤ s ∧ s ≤ 3) → (∀ c, c ≠ 99 → c ≠ 100 → I1 c = I c) → (∀ j, j ≠ s → I1 99 j = I 99 j ∧ I1 100 j = I 100 j) → (k = 1 → 0 ≤ x ∧ x ≤ 6) →
      ((k = 0 ∧ I1 99 s = -1) ∨ (k = 1 ∧ (0 ≤ x ∧ x ≤ 6) ∧ I1 99 s = x ∧ I1 100 s = m) ∨ (k = 2 ∧ (0 ≤ x ∧ x ≤ 3) ∧ I1 99 s = 10 + x ∧ I1 100 s = m)) → RX I1 (upI (upI (upI N 139 s k) 140 s x) 141 s m) T ∧ ∀ c, 111 ≤ c → I1 c = I c := by
    intro k x m I1 hs2 g1 g2 g3 g4
    have n139 : ∀ j, upI (upI (upI N 139 s k) 140 s x) 141 s m 139 j = if j = s then k else N 139 j := fun j => by rw [upI_ne (by decide), upI_ne (by decide), upI_at]
    have n140 : ∀ j, upI (upI (upI N 139 s k) 140 s x) 141 s m 140 j = if j = s then x else N 140 j := fun j => by rw [upI_ne (by decide), upI_at, upI_ne (by decide)]
    have n141 : ∀ j, upI (upI (upI N 139 s k) 140 s x) 141 s m 141 j = if j = s then m else N 141 j := fun j => by rw [upI_at, upI_ne (by decide), upI_ne (by decide)]
    have ne : ∀ c, c < 139 ∨ 141 < c → upI (upI (upI N 139 s k) 140 s x) 141 s m c = N c := fun c hc => by rw [upI_ne (by omega), upI_ne (by omega), upI_ne (by omega)]
    refine ⟨h.shl (fun c hc => g1 c (by omega) (by omega)) ne ?_ ?_, fun c hc => g1 c (by omega) (by omega)⟩
    · refine ⟨by rw [ne 111 (by decide)]; exact hs.1, fun u u0 u1 => ?_, by rw [ne 111 (by decide)]; exact hs.2.2⟩
      have wu := hs.sh u0 u1
      rw [ne 136 (by decide), ne 137 (by decide), n139, n140]
      refine ⟨wu.1, wu.2.1, ?_⟩
      by_cases e : u = s
      · rw [if_pos e, if_pos e]; exact g3
      · rw [if_neg e, if_neg e]; exact wu.2.2
    · intro u u0 u1
      rw [n139, n140, n141]
      by_cases e : u = s
      · rw [if_pos e, if_pos e, if_pos e, e]; exact g4
      · rw [if_neg e, if_neg e, if_neg e, (g2 u e).1, (g2 u e).2]; exact hf u u0 u1
  have K48 : shfP N s w n → J 48 [vr 0, vi s, vi w, vi n] [] (mk I b) := by
    intro hP
    rw [if_pos hP, if_pos hP] at hR
    have hs2 := hP.1
    refine mj_aload_n hJ dX8_shelf_48 rfl ?_
    refine mk_getR hJ dX8_shelf_49 fw_X8_70 rfl (by decide) rfl rfl ?_
    refine mj_iload_n hJ dX8_shelf_52 rfl ?_
    refine mj_iconst hJ dX8_shelf_53 (by decide) ?_
    refine mk_iast hJ dX8_shelf_54 rfl (by omega) (by omega) ?_
    refine mj_iload_n hJ dX8_shelf_55 rfl ?_
    refine mj_bipush hJ dX8_shelf_56 (by decide) ?_
    refine mj_icmp_gt (tgt := 78) hJ dX8_shelf_58 (by decide) (fun hw6 => ?_) (fun hw6 => ?_)
    · rw [if_neg (by omega)] at hR
      refine mj_iload_n hJ dX8_shelf_78 rfl ?_
      refine mj_bipush hJ dX8_shelf_79 (by decide) ?_
      refine mj_icmp_ne (tgt := 130) hJ dX8_shelf_81 (by decide) (fun hw7 => ?_) (fun hw7 => ?_)
      · rw [if_neg (fun q => hw7 q.1), if_neg hw7, if_neg hw7] at hR
        refine mj_iconst hJ dX8_shelf_130 (by decide) ?_
        exact hR _ _ _ _ _ dX8_shelf_131 nar_i ⟨rfl, DONE 0 w n _ hs2 (fun c c1 _ => upI_ne c1) (fun j hj => ⟨by rw [upI_at, if_neg hj], by rw [upI_ne (by decide)]⟩) (fun q => by omega) (Or.inl ⟨rfl, by rw [upI_at, if_pos rfl]⟩)⟩
      · rw [if_pos hw7, if_pos hw7] at hR
        have hn3 := hP.2.2.2 hw7
        have q := hr n hn3.1 (by omega)
        have wn := hs.sh hn3.1 (show n < 4 by omega)
        refine mj_aload_n hJ dX8_shelf_84 rfl ?_
        refine mk_getR hJ dX8_shelf_85 fw_X8_66 rfl (by decide) rfl rfl ?_
        refine mj_iload_n hJ dX8_shelf_88 rfl ?_
        refine mk_aald hJ dX8_shelf_89 rfl (Or.inr rfl) (by omega) (by omega) (gr_98 (by omega) (by omega)).1 ?_
        refine mk_getI (j' := 0) hJ dX8_shelf_90 fw_X8_266 (gr_98 (b := true) (by omega) (by omega)).2 (by decide) rfl rfl ?_
        rw [upI_ne (by omega), q.1]
        refine mj_iconst hJ dX8_shelf_93 (by decide) ?_
        refine mj_icmp_eq (tgt := 130) hJ dX8_shelf_94 (by decide) (fun hm => ?_) (fun hm => ?_)
        · rw [if_neg (by omega)] at hR
          refine mj_iconst hJ dX8_shelf_130 (by decide) ?_
          exact hR _ _ _ _ _ dX8_shelf_131 nar_i ⟨rfl, DONE 0 (N 136 n) (N 137 n) _ hs2 (fun c c1 _ => upI_ne c1) (fun j hj => ⟨by rw [upI_at, if_neg hj], by rw [upI_ne (by decide)]⟩) (fun q => by omega) (Or.inl ⟨rfl, by rw [upI_at, if_pos rfl]⟩)⟩
        · rw [if_pos ⟨hw7, by omega⟩] at hR
          refine mj_aload_n hJ dX8_shelf_97 rfl ?_
          refine mk_getR hJ dX8_shelf_98 fw_X8_70 rfl (by decide) rfl rfl ?_
          refine mj_iload_n hJ dX8_shelf_101 rfl ?_
          refine mj_bipush hJ dX8_shelf_102 (by decide) ?_
          refine mj_aload_n hJ dX8_shelf_104 rfl ?_
          refine mk_getR hJ dX8_shelf_105 fw_X8_66 rfl (by decide) rfl rfl ?_
          refine mj_iload_n hJ dX8_shelf_108 rfl ?_
          refine mk_aald hJ dX8_shelf_109 rfl (Or.inr rfl) (by omega) (by omega) (gr_98 (by omega) (by omega)).1 ?_
          refine mk_getI (j' := 0) hJ dX8_shelf_110 fw_X8_266 (gr_98 (b := true) (by omega) (by omega)).2 (by decide) rfl rfl ?_
          rw [upI_ne (by omega), q.1]
          first | refine ms_iadd hJ dX8_shelf_113 (by omega) ?_ | refine mj_iadd hJ dX8_shelf_113 ?_
          refine mk_iast hJ dX8_shelf_114 rfl (by omega) (by omega) ?_
          refine mj_aload_n hJ dX8_shelf_115 rfl ?_
          refine mk_getR hJ dX8_shelf_116 fw_X8_73 rfl (by decide) rfl rfl ?_
          refine mj_iload_n hJ dX8_shelf_119 rfl ?_
          refine mj_aload_n hJ dX8_shelf_120 rfl ?_
          refine mk_getR hJ dX8_shelf_121 fw_X8_66 rfl (by decide) rfl rfl ?_
          refine mj_iload_n hJ dX8_shelf_124 rfl ?_
          refine mk_aald hJ dX8_shelf_125 rfl (Or.inr rfl) (by omega) (by omega) (gr_98 (by omega) (by omega)).1 ?_
          refine mk_getI (j' := 1) hJ dX8_shelf_126 fw_X8_278 (gr_98 (b := true) (by omega) (by omega)).2 (by decide) rfl rfl ?_
          rw [upI_ne (by omega), upI_ne (by omega), q.2.1]
          refine mk_iast hJ dX8_shelf_129 rfl (by omega) (by omega) ?_
          refine mj_iconst hJ dX8_shelf_130 (by decide) ?_
          refine hR _ _ _ _ _ dX8_shelf_131 nar_i ⟨rfl, DONE 2 (N 136 n) (N 137 n) _ hs2 (fun c c1 c2 => by rw [upI_ne c2, upI_ne c1, upI_ne c1]) (fun j hj => ⟨by rw [upI_ne (by decide), upI_at, if_neg hj, upI_at, if_neg hj], by rw [upI_at, if_neg hj, upI_ne (by decide), upI_ne (by decide)]⟩) (fun q => by omega) (Or.inr (Or.inr ⟨rfl, by omega, by rw [upI_ne (by decide), upI_at, if_pos rfl], by rw [upI_at, if_pos rfl]⟩))⟩
    · rw [if_pos (by omega), if_neg (by omega), if_neg (by omega)] at hR
      have hw0 := hP.2.1
      refine mj_aload_n hJ dX8_shelf_61 rfl ?_
      refine mk_getR hJ dX8_shelf_62 fw_X8_70 rfl (by decide) rfl rfl ?_
      refine mj_iload_n hJ dX8_shelf_65 rfl ?_
      refine mj_iload_n hJ dX8_shelf_66 rfl ?_
      refine mk_iast hJ dX8_shelf_67 rfl (by omega) (by omega) ?_
      refine mj_aload_n hJ dX8_shelf_68 rfl ?_
      refine mk_getR hJ dX8_shelf_69 fw_X8_73 rfl (by decide) rfl rfl ?_
      refine mj_iload_n hJ dX8_shelf_72 rfl ?_
      refine mj_iload_n hJ dX8_shelf_73 rfl ?_
      refine mk_iast hJ dX8_shelf_74 rfl (by omega) (by omega) ?_
      refine mj_goto (tgt := 130) hJ dX8_shelf_75 (by decide) ?_
      refine mj_iconst hJ dX8_shelf_130 (by decide) ?_
      refine hR _ _ _ _ _ dX8_shelf_131 nar_i ⟨rfl, DONE 1 w n _ hs2 (fun c c1 c2 => by rw [upI_ne c2, upI_ne c1, upI_ne c1]) (fun j hj => ⟨by rw [upI_ne (by decide), upI_at, if_neg hj, upI_at, if_neg hj], by rw [upI_at, if_neg hj, upI_ne (by decide), upI_ne (by decide)]⟩) (fun q => by omega) (Or.inr (Or.inl ⟨rfl, by omega, by rw [upI_ne (by decide), upI_at, if_pos rfl], by rw [upI_at, if_pos rfl]⟩))⟩
  refine mj_iload_n hJ dX8_shelf_0 rfl ?_
  refine mk_Sp1 hJ dX8_shelf_1 cw_X8_275 rfl (Nat.le_of_ble_eq_true rfl) (by first | decide | omega) (c_isShelf s) ?_
  by_cases h1 : 0 ≤ s ∧ s ≤ 3
  · rw [if_pos h1]
    refine mj_if_eq (tgt := 17) hJ dX8_shelf_4 (by decide) (fun hyes => absurd hyes (by decide)) (fun _ => ?_)
    refine mj_iload_n hJ dX8_shelf_7 rfl ?_
    refine mj_iconst hJ dX8_shelf_8 (by decide) ?_
    refine mj_bipush hJ dX8_shelf_9 (by decide) ?_
    refine mk_Sp3 hJ dX8_shelf_11 cw_X8_105 rfl (Nat.le_of_ble_eq_true rfl) (by first | decide | omega) (c_within w 0 8) ?_
    by_cases h2 : 0 ≤ w ∧ w ≤ 8
    · rw [if_pos h2]
      refine mj_if_ne (tgt := 19) hJ dX8_shelf_14 (by decide) (fun _ => ?_) (fun hno => absurd hno (by decide))
      have K33 : (w < 7 → 0 ≤ n ∧ n < N 112 0) → J 33 [vr 0, vi s, vi w, vi n] [] (mk I b) := by
        intro hv
        refine mj_iload_n hJ dX8_shelf_33 rfl ?_
        refine mj_bipush hJ dX8_shelf_34 (by decide) ?_
        refine mj_icmp_ne (tgt := 48) hJ dX8_shelf_36 (by decide) (fun h7 => ?_) (fun h7 => ?_)
        · exact K48 ⟨h1, h2, hv, fun q => absurd q h7⟩
        · refine mj_iload_n hJ dX8_shelf_39 rfl ?_
          refine mk_Sp1 hJ dX8_shelf_40 cw_X8_112 rfl (Nat.le_of_ble_eq_true rfl) (by first | decide | omega) (c_isSheet n) ?_
          by_cases h8 : 0 ≤ n ∧ n ≤ 3
          · rw [if_pos h8]
            refine mj_if_ne (tgt := 48) hJ dX8_shelf_43 (by decide) (fun _ => ?_) (fun hno => absurd hno (by decide))
            exact K48 ⟨h1, h2, hv, fun _ => h8⟩
          · rw [if_neg h8]
            refine mj_if_ne (tgt := 48) hJ dX8_shelf_43 (by decide) (fun hyes => absurd (by decide) hyes) (fun _ => ?_)
            exact bad2 (fun q => h8 (q.2.2.2 h7))
      refine mj_iload_n hJ dX8_shelf_19 rfl ?_
      refine mj_bipush hJ dX8_shelf_20 (by decide) ?_
      refine mj_icmp_gt (tgt := 33) hJ dX8_shelf_22 (by decide) (fun h6 => ?_) (fun h6 => ?_)
      · exact K33 (fun q => by omega)
      · refine mj_aload_n hJ dX8_shelf_25 rfl ?_
        refine mj_iload_n hJ dX8_shelf_26 rfl ?_
        refine mk_Vp1 hJ dX8_shelf_27 cw_X8_101 rfl rfl rfl rfl (Nat.le_of_ble_eq_true rfl) (by first | decide | omega) (c_isVillage n (by rw [e0]; exact hn.1) (by rw [e0]; exact hn.2)) ?_
        rw [e0]
        by_cases h8 : 0 ≤ n ∧ n < N 112 0
        · rw [if_pos h8]
          refine mj_if_eq (tgt := 46) hJ dX8_shelf_30 (by decide) (fun hyes => absurd hyes (by decide)) (fun _ => ?_)
          exact K33 (fun _ => h8)
        · rw [if_neg h8]
          refine mj_if_eq (tgt := 46) hJ dX8_shelf_30 (by decide) (fun _ => ?_) (fun hno => absurd rfl hno)
          exact bad2 (fun q => h8 (q.2.2.1 (by omega)))
    · rw [if_neg h2]
      refine mj_if_ne (tgt := 19) hJ dX8_shelf_14 (by decide) (fun hyes => absurd (by decide) hyes) (fun _ => ?_)
      exact bad (fun q => h2 q.2.1)
  · rw [if_neg h1]
    refine mj_if_eq (tgt := 17) hJ dX8_shelf_4 (by decide) (fun _ => ?_) (fun hno => absurd rfl hno)
    exact bad (fun q => h1 q.1)
def hdv (N : Ints) (s : Int) : Int := if N 139 s = 2 then 10 + N 140 s else if thgP N s then N 140 s else -1
theorem c_heldOn (h : RX I N T) (s : Int) (s0 : 0 ≤ s) (s1 : s < 4) : MtP G yX8_heldOn cX8_heldOn 4 (some .int) 2 [vr 0, vi s] I b (hdv N s) := by
  refine mt_enterI (own := RX8) (ls0 := [vr 0, vi s, vu, vu]) rfl (by decide +kernel) (Nat.le_of_ble_eq_true rfl) rfl rfl (fun J hJ hR => ?_)
  have hw := h.1.1
  have hl := h.2.1.1
  have hn := hw.nv
  have e0 := hl.1.1
  unfold hdv at hR
  have FIN : ∀ (k g : Int), (g = 0 ∨ g = 1) → (if g = 0 then k else -1) = (if N 139 s = 2 then 10 + N 140 s else if thgP N s then N 140 s else -1) → J 35 [vr 0, vi s, vi k, vu] [vi g] (mk I b) := by
    intro k g hg he
    refine ms_istore_n (ls' := [_, _, _, _]) hJ dX8_heldOn_35 (by decide) rfl rfl ?_
    refine mj_iload_n hJ dX8_heldOn_36 rfl ?_
    refine mj_if_eq (tgt := 44) hJ dX8_heldOn_37 (by decide) (fun hz => ?_) (fun hz => ?_)
    · rw [if_pos hz] at he
      refine mj_iload_n hJ dX8_heldOn_44 rfl ?_
      exact hR _ _ _ _ _ dX8_heldOn_45 nar_i ⟨he, rfl, rfl⟩
    · rw [if_neg hz] at he
      refine mj_iconst hJ dX8_heldOn_40 (by decide) ?_
      refine mj_goto (tgt := 45) hJ dX8_heldOn_41 (by decide) ?_
      exact hR _ _ _ _ _ dX8_heldOn_45 nar_i ⟨he, rfl, rfl⟩
  obtain ⟨k, hk⟩ : ∃ k, I 99 s = k := ⟨_, rfl⟩
  have hf := h.2.2.2.2.1 s s0 s1
  rw [hk] at hf
  refine mj_aload_n hJ dX8_heldOn_0 rfl ?_
  refine mk_getR hJ dX8_heldOn_1 fw_X8_70 rfl (by decide) rfl rfl ?_
  refine mj_iload_n hJ dX8_heldOn_4 rfl ?_
  refine mk_iald hJ dX8_heldOn_5 rfl (by omega) (by omega) ?_
  rw [hk]
  refine ms_istore_n (ls' := [_, _, _, _]) hJ dX8_heldOn_6 (by decide) rfl rfl ?_
  refine mj_iload_n hJ dX8_heldOn_7 rfl ?_
  refine mj_iconst hJ dX8_heldOn_8 (by decide) ?_
  refine mj_bipush hJ dX8_heldOn_9 (by decide) ?_
  refine mk_Sp3 hJ dX8_heldOn_11 cw_X8_105 rfl (Nat.le_of_ble_eq_true rfl) (by first | decide | omega) (c_within k 0 6) ?_
  by_cases c : 0 ≤ k ∧ k ≤ 6
  · rw [if_pos c]
    have c1 : N 139 s = 1 ∧ (0 ≤ N 140 s ∧ N 140 s ≤ 6) ∧ k = N 140 s ∧ I 100 s = N 141 s := by
      rcases hf with a | a | a
      · have := a.2; omega
      · exact a
      · have := a.2.2.1; omega
    refine mj_if_eq (tgt := 34) hJ dX8_heldOn_14 (by decide) (fun hyes => absurd hyes (by decide)) (fun _ => ?_)
    refine mj_aload_n hJ dX8_heldOn_17 rfl ?_
    refine mj_aload_n hJ dX8_heldOn_18 rfl ?_
    refine mk_getR hJ dX8_heldOn_19 fw_X8_73 rfl (by decide) rfl rfl ?_
    refine mj_iload_n hJ dX8_heldOn_22 rfl ?_
    refine mk_iald hJ dX8_heldOn_23 rfl (by omega) (by omega) ?_
    rw [c1.2.2.2]
    refine mk_Vp1 hJ dX8_heldOn_24 cw_X8_101 rfl rfl rfl rfl (Nat.le_of_ble_eq_true rfl) (by first | decide | omega) (c_isVillage (N 141 s) (by rw [e0]; exact hn.1) (by rw [e0]; exact hn.2)) ?_
    rw [e0]
    by_cases c2 : 0 ≤ N 141 s ∧ N 141 s < N 112 0
    · rw [if_pos c2]
      refine mj_if_ne (tgt := 34) hJ dX8_heldOn_27 (by decide) (fun _ => ?_) (fun hno => absurd hno (by decide))
      refine mj_iconst hJ dX8_heldOn_34 (by decide) ?_
      exact FIN k 0 (Or.inl rfl) (by rw [if_pos rfl, if_neg (by omega), if_pos ⟨c1.1, c2⟩]; exact c1.2.2.1)
    · rw [if_neg c2]
      refine mj_if_ne (tgt := 34) hJ dX8_heldOn_27 (by decide) (fun hyes => absurd (by decide) hyes) (fun _ => ?_)
      refine mj_iconst hJ dX8_heldOn_30 (by decide) ?_
      refine mj_goto (tgt := 35) hJ dX8_heldOn_31 (by decide) ?_
      exact FIN k 1 (Or.inr rfl) (by rw [if_neg (by decide), if_neg (by omega), if_neg (fun q => c2 q.2)])
  · rw [if_neg c]
    refine mj_if_eq (tgt := 34) hJ dX8_heldOn_14 (by decide) (fun _ => ?_) (fun hno => absurd rfl hno)
    refine mj_iconst hJ dX8_heldOn_34 (by decide) ?_
    refine FIN k 0 (Or.inl rfl) ?_
    rw [if_pos rfl]
    rcases hf with a | a | a
    · rw [if_neg (by omega), if_neg (fun q => by have := q.1; omega)]; exact a.2
    · have := a.2.2.1; omega
    · rw [if_pos a.1]; exact a.2.2.1
def rk (k : Int) : Nat := if k = 0 ∨ k = 6 then 1 else if k = 1 ∨ k = 2 then 2 else if k = 3 ∨ k = 4 then 3 else if k = 5 then 4 else 0
theorem rk_tb {k : Int} (h0 : 0 ≤ k) (h1 : k ≤ 6) : rk (tb3 k) + 1 = rk k ∧ (-1 ≤ tb3 k ∧ tb3 k ≤ 6) ∧ abv k = tb3 k := by
  have e : k = 0 ∨ k = 1 ∨ k = 2 ∨ k = 3 ∨ k = 4 ∨ k = 5 ∨ k = 6 := by omega
  rcases e with rfl | rfl | rfl | rfl | rfl | rfl | rfl <;> decide
theorem c_isUnder (hTb : TBs G) (k a : Int) (a0 : 0 ≤ a) (a6 : a ≤ 6) (k0 : -1 ≤ k) (kk : k ≤ 6 ∨ 10 ≤ k) : MtP G yX8_isUnder cX8_isUnder 4 (some .boolean) 1 [vi k, vi a] I b (if unw a 8 k = a then 1 else 0) := by
  refine mt_enterI (own := RX8) (ls0 := [vi k, vi a, vu, vu]) rfl (by decide +kernel) (Nat.le_of_ble_eq_true rfl) rfl rfl (fun J hJ hR => ?_)
  obtain ⟨-, -, -, h3, -⟩ := hTb
  have loop : ∀ (m : Nat) (k' j : Int), 0 ≤ j → j + m = 7 → -1 ≤ k' → (k' ≤ 6 ∨ 10 ≤ k') → rk k' < m → (unw a (m + 1) k' = a ↔ unw a 8 k = a) → J 4 [vi k, vi a, vi k', vi j] [] (mk I b) := by
    intro m
    induction m with
    | zero => intro k' j j0 jm k0 kk hr; exact absurd hr (Nat.not_lt_zero _)
    | succ m ih =>
      intro k' j j0 jm k0 kk hr he
      have e1 : unw a (m + 1 + 1) k' = if 0 ≤ k' ∧ k' ≠ a then unw a (m + 1) (abv k') else k' := rfl
      rw [e1] at he
      refine mj_iload_n hJ dX8_isUnder_4 rfl ?_
      refine mj_gst (t := 3) hJ dX8_isUnder_5 (by decide) gs_X8_338 ?_
      refine mj_tlen (t := 3) hJ dX8_isUnder_8 (by decide) (by assumption) (by omega) ?_
      refine mj_icmp_ge (tgt := 47) hJ dX8_isUnder_9 (by decide) (fun hyes => absurd hyes (by omega)) (fun _ => ?_)
      refine mj_iload_n hJ dX8_isUnder_12 rfl ?_
      refine mj_iload_n hJ dX8_isUnder_13 rfl ?_
      refine mj_icmp_ne (tgt := 19) hJ dX8_isUnder_14 (by decide) (fun hka => ?_) (fun hka => ?_)
      · refine mj_iload_n hJ dX8_isUnder_19 rfl ?_
        refine mj_iconst hJ dX8_isUnder_20 (by decide) ?_
        refine mj_gst (t := 3) hJ dX8_isUnder_21 (by decide) gs_X8_338 ?_
        refine mj_tlen (t := 3) hJ dX8_isUnder_24 (by decide) (by assumption) (by omega) ?_
        refine mj_iconst hJ dX8_isUnder_25 (by decide) ?_
        first | refine ms_isub hJ dX8_isUnder_26 (by omega) ?_ | refine mj_isub hJ dX8_isUnder_26 ?_
        refine mk_Sp3 hJ dX8_isUnder_27 cw_X8_105 rfl (Nat.le_of_ble_eq_true rfl) (by first | decide | omega) (c_within k' 0 (((7 : Nat) : Int) - 1)) ?_
        by_cases c : 0 ≤ k' ∧ k' ≤ 6
        · rw [if_pos (by omega)]
          have rt := rk_tb c.1 c.2
          rw [if_pos ⟨c.1, hka⟩, rt.2.2] at he
          have it : inR (tb3 k') := ⟨by omega, by omega⟩
          refine mj_if_ne (tgt := 35) hJ dX8_isUnder_30 (by decide) (fun _ => ?_) (fun hno => absurd hno (by decide))
          refine mj_gst (t := 3) hJ dX8_isUnder_35 (by decide) gs_X8_338 ?_
          refine mj_iload_n hJ dX8_isUnder_38 rfl ?_
          refine mj_tald (t := 3) hJ dX8_isUnder_39 (by decide) (by assumption) (by omega) (by omega) (by assumption) ?_
          refine ms_istore_n (ls' := [_, _, _, _]) hJ dX8_isUnder_40 (by decide) rfl rfl ?_
          refine ms_iinc (ls' := [_, _, _, _]) hJ dX8_isUnder_41 rfl (by decide) rfl (wr_id (by omega)) rfl ?_
          refine mj_goto (tgt := 4) hJ dX8_isUnder_44 (by decide) ?_
          exact ih (tb3 k') (j + 1) (by omega) (by omega) rt.2.1.1 (Or.inl rt.2.1.2) (by omega) he
        · rw [if_neg (by omega)]
          have hno : ¬ unw a 8 k = a := fun q => by
            have h2 := he.2 q
            by_cases z : 0 ≤ k'
            · rw [if_pos ⟨z, hka⟩] at h2
              have : abv k' = -1 := by
                unfold abv
                rw [if_neg (by omega), if_neg (by omega), if_neg (by omega)]
              rw [this] at h2
              have e2 : unw a (m + 1) (-1) = -1 := if_neg (fun q => absurd q.1 (by decide))
              rw [e2] at h2
              omega
            · rw [if_neg (fun q => z q.1)] at h2
              exact hka h2
          rw [if_neg hno] at hR
          refine mj_if_ne (tgt := 35) hJ dX8_isUnder_30 (by decide) (fun hyes => absurd (by decide) hyes) (fun _ => ?_)
          refine mj_iconst hJ dX8_isUnder_33 (by decide) ?_
          exact hR _ _ _ _ _ dX8_isUnder_34 (nar_z (by first | exact Or.inl rfl | exact Or.inr rfl | assumption | omega)) ⟨rfl, rfl, rfl⟩
      · rw [if_neg (fun q => q.2 hka)] at he
        rw [if_pos (he.1 hka)] at hR
        refine mj_iconst hJ dX8_isUnder_17 (by decide) ?_
        exact hR _ _ _ _ _ dX8_isUnder_18 (nar_z (by first | exact Or.inl rfl | exact Or.inr rfl | assumption | omega)) ⟨rfl, rfl, rfl⟩
  refine mj_iload_n hJ dX8_isUnder_0 rfl ?_
  refine ms_istore_n (ls' := [_, _, _, _]) hJ dX8_isUnder_1 (by decide) rfl rfl ?_
  refine mj_iconst hJ dX8_isUnder_2 (by decide) ?_
  refine ms_istore_n (ls' := [_, _, _, _]) hJ dX8_isUnder_3 (by decide) rfl rfl ?_
  refine loop 7 k 0 (Int.le_refl _) rfl k0 kk ?_ Iff.rfl
  unfold rk
  repeat' split
  all_goals decide
theorem unw_no {a : Int} (ha : 10 ≤ a) : ∀ (m : Nat) (k : Int), k ≤ 6 → unw a m k ≠ a
  | 0, k, h => fun q => by
    have : k = a := q
    omega
  | m + 1, k, h => by
    show (if 0 ≤ k ∧ k ≠ a then unw a m (abv k) else k) ≠ a
    by_cases c : 0 ≤ k ∧ k ≠ a
    · rw [if_pos c]
      refine unw_no ha m (abv k) ?_
      unfold abv
      repeat' split
      all_goals omega
    · rw [if_neg c]; omega
theorem c_taken (hTb : TBs G) (h : RX I N T) (s a : Int) : MtI G yX8_taken cX8_taken 6 (some .int) 3 [vr 0, vi s, vi a] I b (Xg I (F_taken N s a) N T) := by
  refine mt_enterI (own := RX8) (ls0 := [vr 0, vi s, vi a, vu, vu, vu]) rfl (by decide +kernel) (Nat.le_of_ble_eq_true rfl) rfl rfl (fun J hJ hR => ?_)
  have hs := h.1.2.1
  unfold F_taken at hR
  have bad : ∀ x, ¬((0 ≤ s ∧ s ≤ 3) ∧ ((0 ≤ a ∧ a ≤ 6) ∨ (10 ≤ a ∧ a ≤ 13))) → J 30 [vr 0, vi s, vi a, vi x, vu, vu] [] (mk I b) := by
    intro x q
    rw [if_neg q] at hR
    refine mj_iconst hJ dX8_taken_30 (by decide) ?_
    exact hR _ _ _ _ _ dX8_taken_31 nar_i h.refl
  have K32 : (0 ≤ s ∧ s ≤ 3) → ((0 ≤ a ∧ a ≤ 6) ∨ (10 ≤ a ∧ a ≤ 13)) → ∀ x : Int, x = (if 0 ≤ a ∧ a ≤ 6 then 1 else 0) → J 32 [vr 0, vi s, vi a, vi x, vu, vu] [] (mk I b) := by
    intro hs2 ha x hx
    rw [if_pos ⟨hs2, ha⟩] at hR
    have hf := h.2.2.2.2.1 s hs2.1 (by omega)
    obtain ⟨k, hk⟩ : ∃ k, hdv N s = k := ⟨_, rfl⟩
    have hk2 : hdv N s = if N 139 s = 2 then 10 + N 140 s else if thgP N s then N 140 s else -1 := rfl
    rw [hk] at hk2
    refine mj_aload_n hJ dX8_taken_32 rfl ?_
    refine mj_iload_n hJ dX8_taken_33 rfl ?_
    refine mk_Vp1 hJ dX8_taken_34 cw_X8_281 rfl rfl rfl rfl (Nat.le_of_ble_eq_true rfl) (by first | decide | omega) (c_heldOn h s hs2.1 (by omega)) ?_
    rw [hk]
    refine ms_istore (ls' := [_, _, _, _, _, _]) hJ dX8_taken_37 (by decide) rfl rfl ?_
    refine mj_iload hJ dX8_taken_39 rfl ?_
    refine mj_iconst hJ dX8_taken_41 (by decide) ?_
    refine mj_icmp_ne (tgt := 48) hJ dX8_taken_42 (by decide) (fun hk1 => ?_) (fun hk1 => ?_)
    · -- something is held
      have hc : (N 139 s = 2 ∧ (0 ≤ N 140 s ∧ N 140 s ≤ 3) ∧ k = 10 + N 140 s ∧ I 100 s = N 141 s) ∨ (thgP N s ∧ (0 ≤ N 140 s ∧ N 140 s ≤ 6) ∧ k = N 140 s ∧ I 100 s = N 141 s) := by
        by_cases c : N 139 s = 2
        · rw [if_pos c] at hk2
          rcases hf with q | q | q
          · omega
          · omega
          · exact Or.inl ⟨c, q.2.1, hk2, q.2.2.2⟩
        · rw [if_neg c] at hk2
          by_cases c2 : thgP N s
          · rw [if_pos c2] at hk2
            rcases hf with q | q | q
            · have := c2.1; omega
            · exact Or.inr ⟨c2, q.2.1, hk2, q.2.2.2⟩
            · omega
          · rw [if_neg c2] at hk2
            omega
      have e100 : I 100 s = N 141 s := by
        rcases hc with q | q
        · exact q.2.2.2
        · exact q.2.2.2
      have FIN : ∀ y : Int, (y = 0 ∨ y = 1) → (if y = 0 then -13 else N 141 s) = (if N 139 s = 2 then (if a - 10 = N 140 s then N 141 s else -13) else if thgP N s then (if unw a 8 (N 140 s) = a then N 141 s else -13) else -11) → J 72 [vr 0, vi s, vi a, vi x, vi k, vu] [vi y] (mk I b) := by
        intro y hy he
        rw [← he] at hR
        refine ms_istore (ls' := [_, _, _, _, _, _]) hJ dX8_taken_72 (by decide) rfl rfl ?_
        refine mj_iload hJ dX8_taken_74 rfl ?_
        refine mj_if_eq (tgt := 88) hJ dX8_taken_76 (by decide) (fun hz => ?_) (fun hz => ?_)
        · rw [if_pos hz] at hR
          refine mj_bipush hJ dX8_taken_88 (by decide) ?_
          exact hR _ _ _ _ _ dX8_taken_90 nar_i h.refl
        · rw [if_neg hz] at hR
          refine mj_aload_n hJ dX8_taken_79 rfl ?_
          refine mk_getR hJ dX8_taken_80 fw_X8_73 rfl (by decide) rfl rfl ?_
          refine mj_iload_n hJ dX8_taken_83 rfl ?_
          refine mk_iald hJ dX8_taken_84 rfl (by omega) (by omega) ?_
          rw [e100]
          refine mj_goto (tgt := 90) hJ dX8_taken_85 (by decide) ?_
          exact hR _ _ _ _ _ dX8_taken_90 nar_i h.refl
      refine mj_iload_n hJ dX8_taken_48 rfl ?_
      refine mj_if_eq (tgt := 61) hJ dX8_taken_49 (by decide) (fun hx0 => ?_) (fun hx0 => ?_)
      · have ha2 : 10 ≤ a ∧ a ≤ 13 := by
          by_cases c : 0 ≤ a ∧ a ≤ 6
          · rw [if_pos c] at hx; omega
          · omega
        refine mj_iload hJ dX8_taken_61 rfl ?_
        refine mj_iload_n hJ dX8_taken_63 rfl ?_
        refine mj_icmp_ne (tgt := 71) hJ dX8_taken_64 (by decide) (fun hka => ?_) (fun hka => ?_)
        · refine mj_iconst hJ dX8_taken_71 (by decide) ?_
          refine FIN 0 (Or.inl rfl) ?_
          rw [if_pos rfl]
          rcases hc with q | q
          · rw [if_pos q.1, if_neg (by omega)]
          · rw [if_neg (by have := q.1.1; omega), if_pos q.1, if_neg (unw_no ha2.1 8 _ q.2.1.2)]
        · refine mj_iconst hJ dX8_taken_67 (by decide) ?_
          refine mj_goto (tgt := 72) hJ dX8_taken_68 (by decide) ?_
          refine FIN 1 (Or.inr rfl) ?_
          rw [if_neg (by decide)]
          rcases hc with q | q
          · rw [if_pos q.1, if_pos (by omega)]
          · omega
      · have ha2 : 0 ≤ a ∧ a ≤ 6 := by
          by_cases c : 0 ≤ a ∧ a ≤ 6
          · exact c
          · rw [if_neg c] at hx; exact absurd hx hx0
        refine mj_iload hJ dX8_taken_52 rfl ?_
        refine mj_iload_n hJ dX8_taken_54 rfl ?_
        refine mk_Sp2 hJ dX8_taken_55 cw_X8_284 rfl (Nat.le_of_ble_eq_true rfl) (by first | decide | omega) (c_isUnder hTb k a ha2.1 ha2.2 (by omega) (by omega)) ?_
        refine mj_goto (tgt := 72) hJ dX8_taken_58 (by decide) ?_
        refine FIN _ dec_bit ?_
        rcases hc with q | q
        · have hno : ¬ unw a 8 k = a := fun z => by
            have e1 : unw a 8 k = if 0 ≤ k ∧ k ≠ a then unw a 7 (abv k) else k := rfl
            rw [e1, if_pos (by omega)] at z
            have : abv k = -1 := by
              unfold abv
              rw [if_neg (by omega), if_neg (by omega), if_neg (by omega)]
            rw [this] at z
            have e2 : unw a 7 (-1) = -1 := if_neg (fun q => absurd q.1 (by decide))
            rw [e2] at z
            omega
          rw [if_neg hno, if_pos rfl, if_pos q.1, if_neg (by omega)]
        · rw [if_neg (show ¬N 139 s = 2 by have := q.1.1; omega), if_pos q.1, ← q.2.2.1]
          by_cases z : unw a 8 k = a
          · rw [if_pos z, if_pos z, if_neg (by decide)]
          · rw [if_neg z, if_neg z, if_pos rfl]
    · have e2 : ¬N 139 s = 2 := fun c => by
        rw [if_pos c] at hk2
        rcases hf with q | q | q
        · omega
        · omega
        · have := q.2.1; omega
      have e3 : ¬thgP N s := fun c => by
        rw [if_neg e2, if_pos c] at hk2
        have := (hs.sh hs2.1 (show s < 4 by omega)).2.2 c.1
        omega
      rw [if_neg e2, if_neg e3] at hR
      refine mj_bipush hJ dX8_taken_45 (by decide) ?_
      exact hR _ _ _ _ _ dX8_taken_47 nar_i h.refl
  refine mj_iload_n hJ dX8_taken_0 rfl ?_
  refine mj_iconst hJ dX8_taken_1 (by decide) ?_
  refine mj_bipush hJ dX8_taken_2 (by decide) ?_
  refine mk_Sp3 hJ dX8_taken_4 cw_X8_105 rfl (Nat.le_of_ble_eq_true rfl) (by first | decide | omega) (c_within a 0 6) ?_
  have hb := dec_bit (P := 0 ≤ a ∧ a ≤ 6)
  refine ms_istore_n (ls' := [_, _, _, _, _, _]) hJ dX8_taken_7 (by decide) rfl rfl ?_
  refine mj_iload_n hJ dX8_taken_8 rfl ?_
  refine mk_Sp1 hJ dX8_taken_9 cw_X8_275 rfl (Nat.le_of_ble_eq_true rfl) (by first | decide | omega) (c_isShelf s) ?_
  by_cases h1 : 0 ≤ s ∧ s ≤ 3
  · rw [if_pos h1]
    refine mj_if_eq (tgt := 30) hJ dX8_taken_12 (by decide) (fun hyes => absurd hyes (by decide)) (fun _ => ?_)
    refine mj_iload_n hJ dX8_taken_15 rfl ?_
    refine mj_if_ne (tgt := 32) hJ dX8_taken_16 (by decide) (fun hx => ?_) (fun hx => ?_)
    · have ha : 0 ≤ a ∧ a ≤ 6 := by
        by_cases c : 0 ≤ a ∧ a ≤ 6
        · exact c
        · rw [if_neg c] at hx; exact absurd rfl hx
      exact K32 h1 (Or.inl ha) _ rfl
    · refine mj_iload_n hJ dX8_taken_19 rfl ?_
      refine mj_bipush hJ dX8_taken_20 (by decide) ?_
      refine mj_bipush hJ dX8_taken_22 (by decide) ?_
      refine mk_Sp3 hJ dX8_taken_24 cw_X8_105 rfl (Nat.le_of_ble_eq_true rfl) (by first | decide | omega) (c_within a 10 13) ?_
      by_cases h2 : 10 ≤ a ∧ a ≤ 13
      · rw [if_pos h2]
        refine mj_if_ne (tgt := 32) hJ dX8_taken_27 (by decide) (fun _ => ?_) (fun hno => absurd hno (by decide))
        exact K32 h1 (Or.inr h2) _ rfl
      · rw [if_neg h2]
        refine mj_if_ne (tgt := 32) hJ dX8_taken_27 (by decide) (fun hyes => absurd (by decide) hyes) (fun _ => ?_)
        refine bad _ (fun q => ?_)
        rcases q.2 with z | z
        · rw [if_pos z] at hx; exact absurd hx (by decide)
        · exact h2 z
  · rw [if_neg h1]
    refine mj_if_eq (tgt := 30) hJ dX8_taken_12 (by decide) (fun _ => ?_) (fun hno => absurd rfl hno)
    exact bad _ (fun q => h1 q.1)
theorem c_trace (h : RX I N T) (i : Int) : MtI G yX8_trace cX8_trace 2 (some .int) 1 [vr 0, vi i] I b (Xg I (F_trace N i) N T) := by
  refine mt_enterI (own := RX8) (ls0 := [vr 0, vi i]) rfl (by decide +kernel) (Nat.le_of_ble_eq_true rfl) rfl rfl (fun J hJ hR => ?_)
  have hs := h.1.2.1
  have ha := h.2.2.2.2.2.1
  have h39 := hs.2.2.1
  unfold F_trace at hR
  refine mj_iload_n hJ dX8_trace_0 rfl ?_
  refine mj_iconst hJ dX8_trace_1 (by decide) ?_
  refine mj_aload_n hJ dX8_trace_2 rfl ?_
  refine mk_getR hJ dX8_trace_3 fw_X8_79 rfl (by decide) rfl rfl ?_
  refine mk_getI (j' := 1) hJ dX8_trace_6 fw_X8_297 rfl (by decide) rfl rfl ?_
  rw [ha.1]
  refine mj_iconst hJ dX8_trace_9 (by decide) ?_
  first | refine ms_isub hJ dX8_trace_10 (by omega) ?_ | refine mj_isub hJ dX8_trace_10 ?_
  refine mk_Sp3 hJ dX8_trace_11 cw_X8_105 rfl (Nat.le_of_ble_eq_true rfl) (by first | decide | omega) (c_within i 0 (N 111 39 - 1)) ?_
  by_cases c : 0 ≤ i ∧ i < N 111 39
  · rw [if_pos (show 0 ≤ i ∧ i ≤ N 111 39 - 1 by omega)]
    rw [if_pos c] at hR
    refine mj_if_eq (tgt := 29) hJ dX8_trace_14 (by decide) (fun hyes => absurd hyes (by decide)) (fun _ => ?_)
    refine mj_aload_n hJ dX8_trace_17 rfl ?_
    refine mk_getR hJ dX8_trace_18 fw_X8_79 rfl (by decide) rfl rfl ?_
    refine mk_getR hJ dX8_trace_21 fw_X8_300 rfl (by decide) rfl rfl ?_
    refine mj_iload_n hJ dX8_trace_24 rfl ?_
    refine mk_iald hJ dX8_trace_25 rfl (by omega) (by omega) ?_
    rw [ha.2 i c.1 c.2]
    refine mj_goto (tgt := 31) hJ dX8_trace_26 (by decide) ?_
    exact hR _ _ _ _ _ dX8_trace_31 nar_i h.refl
  · rw [if_neg (show ¬(0 ≤ i ∧ i ≤ N 111 39 - 1) by omega)]
    rw [if_neg c] at hR
    refine mj_if_eq (tgt := 29) hJ dX8_trace_14 (by decide) (fun _ => ?_) (fun hno => absurd rfl hno)
    refine mj_bipush hJ dX8_trace_29 (by decide) ?_
    exact hR _ _ _ _ _ dX8_trace_31 nar_i h.refl
theorem c_many (h : RX I N T) (w : Int) : MtI G yX8_many cX8_many 2 (some .int) 0 [vr 0, vi w] I b (Xg I (F_many N w) N T) := by
  refine mt_enterI (own := RX8) (ls0 := [vr 0, vi w]) rfl (by decide +kernel) (Nat.le_of_ble_eq_true rfl) rfl rfl (fun J hJ hR => ?_)
  have hl := h.2.1.1
  have hT := h.2.1.2
  have hM := h.1.2.2
  unfold F_many at hR
  refine mj_iload_n hJ dX8_many_0 rfl ?_
  by_cases w0 : w = 0
  · subst w0
    refine mj_tabIn (off := 47) (tgt := 48) hJ dX8_many_1 (by decide) (by decide) rfl (by decide) ?_
    refine mj_aload_n hJ dX8_many_48 rfl ?_
    refine mk_getR hJ dX8_many_49 fw_X8_12 rfl (by decide) rfl rfl ?_
    refine mk_getI (j' := 0) hJ dX8_many_52 fw_X8_94 rfl (by decide) rfl rfl ?_
    rw [hl.1.1]
    exact hR _ _ _ _ _ dX8_many_55 nar_i h.refl
  · rw [if_neg w0] at hR
    by_cases w1 : w = 1
    · subst w1
      refine mj_tabIn (off := 55) (tgt := 56) hJ dX8_many_1 (by decide) (by decide) rfl (by decide) ?_
      refine mj_aload_n hJ dX8_many_56 rfl ?_
      refine mk_getR hJ dX8_many_57 fw_X8_12 rfl (by decide) rfl rfl ?_
      refine mk_getI (j' := 3) hJ dX8_many_60 fw_X8_185 rfl (by decide) rfl rfl ?_
      rw [hl.1.2.1]
      exact hR _ _ _ _ _ dX8_many_63 nar_i h.refl
    · rw [if_neg w1] at hR
      by_cases w2 : w = 2
      · subst w2
        rw [if_pos rfl, hM.1] at hR
        refine mj_tabIn (off := 63) (tgt := 64) hJ dX8_many_1 (by decide) (by decide) rfl (by decide) ?_
        refine mj_aload_n hJ dX8_many_64 rfl ?_
        refine mk_getR hJ dX8_many_65 fw_X8_12 rfl (by decide) rfl rfl ?_
        refine mk_getR hJ dX8_many_68 fw_X8_217 rfl (by decide) rfl rfl ?_
        refine mk_getI (j' := 0) hJ dX8_many_71 fw_X8_230 rfl (by decide) rfl rfl ?_
        rw [hT.1.1]
        exact hR _ _ _ _ _ dX8_many_74 nar_i h.refl
      · rw [if_neg w2] at hR
        by_cases w3 : w = 3
        · subst w3
          refine mj_tabIn (off := 74) (tgt := 75) hJ dX8_many_1 (by decide) (by decide) rfl (by decide) ?_
          refine mj_aload_n hJ dX8_many_75 rfl ?_
          refine mk_getI (j' := 9) hJ dX8_many_76 fw_X8_60 rfl (by decide) rfl rfl ?_
          rw [h.2.2.1.1]
          exact hR _ _ _ _ _ dX8_many_79 nar_i h.refl
        · rw [if_neg w3] at hR
          by_cases w4 : w = 4
          · subst w4
            refine mj_tabIn (off := 79) (tgt := 80) hJ dX8_many_1 (by decide) (by decide) rfl (by decide) ?_
            refine mj_aload_n hJ dX8_many_80 rfl ?_
            refine mk_getR hJ dX8_many_81 fw_X8_47 rfl (by decide) rfl rfl ?_
            refine mk_getI (j' := 0) hJ dX8_many_84 fw_X8_211 rfl (by decide) rfl rfl ?_
            rw [h.2.2.2.2.2.2.1.1]
            exact hR _ _ _ _ _ dX8_many_87 nar_i h.refl
          · rw [if_neg w4] at hR
            by_cases w5 : w = 5
            · subst w5
              refine mj_tabIn (off := 87) (tgt := 88) hJ dX8_many_1 (by decide) (by decide) rfl (by decide) ?_
              refine mj_aload_n hJ dX8_many_88 rfl ?_
              refine mk_getR hJ dX8_many_89 fw_X8_79 rfl (by decide) rfl rfl ?_
              refine mk_getI (j' := 1) hJ dX8_many_92 fw_X8_297 rfl (by decide) rfl rfl ?_
              rw [h.2.2.2.2.2.1.1]
              exact hR _ _ _ _ _ dX8_many_95 nar_i h.refl
            · rw [if_neg w5] at hR
              by_cases w6 : w = 6
              · subst w6
                refine mj_tabIn (off := 95) (tgt := 96) hJ dX8_many_1 (by decide) (by decide) rfl (by decide) ?_
                refine mj_aload_n hJ dX8_many_96 rfl ?_
                refine mk_getR hJ dX8_many_97 fw_X8_12 rfl (by decide) rfl rfl ?_
                refine mk_getI (j' := 6) hJ dX8_many_100 fw_X8_197 rfl (by decide) rfl rfl ?_
                rw [hl.1.2.2.2]
                exact hR _ _ _ _ _ dX8_many_103 nar_i h.refl
              · rw [if_neg w6] at hR
                by_cases w7 : w = 7
                · subst w7
                  refine mj_tabIn (off := 103) (tgt := 104) hJ dX8_many_1 (by decide) (by decide) rfl (by decide) ?_
                  refine mj_aload_n hJ dX8_many_104 rfl ?_
                  refine mk_getR hJ dX8_many_105 fw_X8_12 rfl (by decide) rfl rfl ?_
                  refine mk_getI (j' := 5) hJ dX8_many_108 fw_X8_194 rfl (by decide) rfl rfl ?_
                  rw [hl.1.2.2.1]
                  exact hR _ _ _ _ _ dX8_many_111 nar_i h.refl
                · rw [if_neg w7] at hR
                  refine mj_tabOut (tgt := 112) hJ dX8_many_1 (by omega) (by decide) ?_
                  refine mj_iconst hJ dX8_many_112 (by decide) ?_
                  exact hR _ _ _ _ _ dX8_many_113 nar_i h.refl
end C12
