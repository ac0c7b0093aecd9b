section C4
variable {G : GE} {I : Ints} {b : Bool} {f : Int → Int}
theorem TC.same {I I' : Ints} {T : List Ln} (h : TC I 17 18 19 20 21 T) (e : ∀ c, 17 ≤ c → c ≤ 21 → I' c = I c) : TC I' 17 18 19 20 21 T := by
  unfold TC
  rw [e 17 (by decide) (by decide), e 18 (by decide) (by decide), e 19 (by decide) (by decide), e 20 (by decide) (by decide), e 21 (by decide) (by decide)]
  exact h
theorem told_nnW {w c fl v : Int} : ∀ (L : List Ln) (a : Int), (∀ t ∈ L, (0 ≤ t.1 ∧ t.1 ≤ 5) ∧ (0 ≤ t.2.1 ∧ t.2.1 ≤ 99) ∧ oko t.2.2) → 0 ≤ a ∧ a ≤ 99 → 0 ≤ told w c fl v L a ∧ told w c fl v L a ≤ 99
  | [], a, _, h => h
  | (lv, m, e) :: L, a, h, ha => by
    show 0 ≤ told w c fl v L (if lv = v ∧ evo w c fl e = true then m else a) ∧ told w c fl v L (if lv = v ∧ evo w c fl e = true then m else a) ≤ 99
    refine told_nnW L _ (fun t ht => h t (List.mem_cons_of_mem _ ht)) ?_
    have := (h (lv, m, e) List.mem_cons_self).2.1
    have : 0 ≤ m ∧ m ≤ 99 := this
    split <;> omega
theorem TF_bdW {f : Int → Int} {T : List Ln} {w p v c : Int} (hp : (0 ≤ p ∧ p ≤ 24) ∨ (p = -1 ∧ TW T)) : 0 ≤ TF f T w p v c ∧ TF f T w p v c ≤ 99 := by
  unfold TF
  rcases hp with h | ⟨h, h2⟩
  · rw [if_pos h.1]; omega
  · rw [if_neg (by omega)]
    exact told_nnW T 0 h2.1 (by omega)
theorem c_X7_follow (hw : WN f) (hl : LN I f) (T : List Ln) (w p : Int) (w0 : 0 ≤ w) (w1 : w ≤ 20) (hp : (0 ≤ p ∧ p ≤ 24) ∨ (p = -1 ∧ TW T)) (hT : p = -1 → TC I 17 18 19 20 21 T) :
    MtI G yX7_follow cX7_follow 8 (some .int) 4 [vr 43, vr 1, vi w, vi p] I b (fun z I' b' => z = gS f w (TF f T w p) (f 0).toNat ∧ b' = b ∧ (∀ c, (c < 44 ∨ 49 < c) → I' c = I c) ∧
      ∀ v : Int, 0 ≤ v → v < f 0 → I' 45 v = gC f w (TF f T w p) v ∧ I' 46 v = gL f w (TF f T w p) v ∧ I' 47 v = gT' f w (TF f T w p) v ∧ I' 48 v = gP f w (TF f T w p) v ∧ I' 49 v = gM f w (TF f T w p) v) := by
  refine mt_enterI (own := RX7) (ls0 := [vr 43, vr 1, vi w, vi p, vu, vu, vu, vu]) rfl (by decide +kernel) (Nat.le_of_ble_eq_true rfl) rfl rfl (fun J hJ hR => ?_)
  have hn := hw.nv
  have hTF : ∀ v c, 0 ≤ TF f T w p v c ∧ TF f T w p v c ≤ 99 := fun v c => TF_bdW hp
  have hTFe : ∀ v c, TF f T w p v c = if 0 ≤ p then p else told w c (f (10 + 18 * v + 0)) v T 0 := fun v c => rfl
  obtain ⟨F, hF⟩ : ∃ F, TF f T w p = F := ⟨_, rfl⟩
  rw [hF] at hR hTF hTFe
  have loop : ∀ (m v : Nat) (I3 : Ints), ((v + m : Nat) : Int) = f 0 → (∀ c, (c < 44 ∨ 49 < c) → I3 c = I c) → (∀ u, 0 ≤ u → u < f 0 → I3 44 u = infl f w u) →
      (∀ u : Int, 0 ≤ u → u < v → I3 45 u = gC f w F u ∧ I3 46 u = gL f w F u ∧ I3 47 u = gT' f w F u ∧ I3 48 u = gP f w F u ∧ I3 49 u = gM f w F u) →
      J 15 [vr 43, vr 1, vi w, vi p, vi (gab f w F v), vi (gS f w F v), vi v, vu] [] (mk I3 b) := by
    intro m
    induction m with
    | zero =>
      intro v I3 hvm hf h44 hB
      have e0 : I3 1 0 = f 0 := (congrFun (hf 1 (by decide)) 0).trans hl.1.1
      refine mj_iload hJ dX7_follow_15 rfl ?_
      refine mj_aload_n hJ dX7_follow_17 rfl ?_
      refine mk_getI (j' := 0) hJ dX7_follow_18 fw_X7_35 rfl (by decide) rfl rfl ?_
      rw [e0]
      refine mj_icmp_ge (tgt := 151) hJ dX7_follow_21 (by decide) (fun _ => ?_) (fun hno => absurd (by omega) hno)
      refine mj_iload hJ dX7_follow_151 rfl ?_
      refine hR _ _ _ _ _ dX7_follow_153 nar_i ⟨by rw [show (f 0).toNat = v by omega], rfl, hf, fun u x y => hB u x (by omega)⟩
    | succ m ih =>
      intro v I3 hvm hf h44 hB
      have e0 : I3 1 0 = f 0 := (congrFun (hf 1 (by decide)) 0).trans hl.1.1
      have hl3 : LN I3 f := LN.same hw hl (fun c c1 c2 => hf c (by omega))
      have gb := g_bd hw w0 w1 (T := F) (fun v c => (hTF v c).1) (v := (v : Int)) (by omega) (by omega)
      have gs := gS_bd hw w0 w1 (T := F) (fun v c => (hTF v c).1) v (by omega)
      have ga := gab_bd hw w0 w1 (T := F) (fun v c => (hTF v c).1) v (by omega)
      have qv := infl_bd hw (v := (v : Int)) (by omega) (by omega) w0 w1
      have ec : gab f w F v + infl f w v = gC f w F v := by unfold gC; rw [Int.toNat_natCast]
      have tb := hTF v (gC f w F v)
      have et := hTFe v (gC f w F v)
      have el : gL f w F v = min (F v (gC f w F v)) (gC f w F v) := by unfold gL; split <;> omega
      have eu : gT' f w F v = cu f v (gC f w F v - gL f w F v) := rfl
      have ep : gP f w F v = gC f w F v - gT' f w F v := rfl
      have em : gM f w F v = mde f v (gT' f w F v) (gP f w F v) := rfl
      have es : gS f w F (v + 1) = gS f w F v + gM f w F v := rfl
      have eab := gab_succ f w F v
      obtain ⟨c, hc⟩ : ∃ c, gC f w F v = c := ⟨_, rfl⟩
      obtain ⟨t, ht⟩ : ∃ t, F v c = t := ⟨_, rfl⟩
      obtain ⟨x, hx⟩ : ∃ x, gL f w F v = x := ⟨_, rfl⟩
      obtain ⟨u, hu⟩ : ∃ u, gT' f w F v = u := ⟨_, rfl⟩
      obtain ⟨a, ha⟩ : ∃ a, gab f w F v = a := ⟨_, rfl⟩
      obtain ⟨s, hs⟩ : ∃ s, gS f w F v = s := ⟨_, rfl⟩
      rw [hc] at gb ec tb et el eu ep
      rw [ht] at tb et el
      rw [hx] at gb el eu
      rw [hu] at gb eu ep em
      rw [ep] at gb em eab
      rw [em] at gb es
      rw [ha] at ga ec ⊢
      rw [hs] at gs es ⊢
      have hl4 : LN (upI I3 45 v c) f := LN.same hw hl3 (fun c c1 c2 => upI_ne (by omega))
      have K77 : J 77 [vr 43, vr 1, vi w, vi p, vi a, vi s, vi v, vi t] [] (mk (upI I3 45 v c) b) := by
        have hl5 : LN (upI (upI I3 45 v c) 46 v x) f := LN.same hw hl4 (fun c c1 c2 => upI_ne (by omega))
        refine mj_aload_n hJ dX7_follow_77 rfl ?_
        refine mk_getR hJ dX7_follow_78 fw_X7_18 rfl (by decide) rfl rfl ?_
        refine mj_iload hJ dX7_follow_81 rfl ?_
        refine mj_iload hJ dX7_follow_83 rfl ?_
        refine mj_aload_n hJ dX7_follow_85 rfl ?_
        refine mk_getR hJ dX7_follow_86 fw_X7_15 rfl (by decide) rfl rfl ?_
        refine mj_iload hJ dX7_follow_89 rfl ?_
        refine mk_iald hJ dX7_follow_91 rfl (by omega) (by omega) ?_
        rw [upI_at, if_pos rfl]
        refine mk_Sp2 hJ dX7_follow_92 cw_X7_78 rfl (Nat.le_of_ble_eq_true rfl) (by first | decide | omega) (c_min t c) ?_
        rw [← el]
        refine mk_iast hJ dX7_follow_95 rfl (by omega) (by omega) ?_
        refine mj_aload_n hJ dX7_follow_96 rfl ?_
        refine mj_aload_n hJ dX7_follow_97 rfl ?_
        refine mj_iload hJ dX7_follow_98 rfl ?_
        refine mj_aload_n hJ dX7_follow_100 rfl ?_
        refine mj_iload hJ dX7_follow_101 rfl ?_
        refine mj_aload_n hJ dX7_follow_103 rfl ?_
        refine mk_getR hJ dX7_follow_104 fw_X7_15 rfl (by decide) rfl rfl ?_
        refine mj_iload hJ dX7_follow_107 rfl ?_
        refine mk_iald hJ dX7_follow_109 rfl (by omega) (by omega) ?_
        rw [upI_ne (by decide), upI_at, if_pos rfl]
        refine mj_aload_n hJ dX7_follow_110 rfl ?_
        refine mk_getR hJ dX7_follow_111 fw_X7_18 rfl (by decide) rfl rfl ?_
        refine mj_iload hJ dX7_follow_114 rfl ?_
        refine mk_iald hJ dX7_follow_116 rfl (by omega) (by omega) ?_
        rw [upI_at, if_pos rfl]
        first | refine ms_isub hJ dX7_follow_117 (by omega) ?_ | refine mj_isub hJ dX7_follow_117 ?_
        refine mk_Vp2 hJ dX7_follow_118 cw_X7_84 rfl rfl rfl rfl (Nat.le_of_ble_eq_true rfl) (by first | decide | omega) (c_X2_wanted hw hl5 v (c - x) (by omega) (by omega)) ?_
        rw [← eu]
        have hse := c_X7_settle (G := G) (b := b) hw hl5 v u (by omega) (by omega) (by omega) (by omega) (by rw [upI_ne (by decide), upI_at, if_pos rfl]; omega) (by rw [upI_ne (by decide), upI_at, if_pos rfl]; omega)
        rw [upI_ne (by decide), upI_at, if_pos rfl] at hse
        refine mk_Vv3 hJ dX7_follow_121 cw_X7_64 rfl rfl rfl rfl (Nat.le_of_ble_eq_true rfl) (by first | decide | omega) (hse) (fun I5 b5 hq9 => ?_)
        obtain ⟨rfl, e5⟩ := hq9
        have e48 : I5 48 v = c - u := by rw [e5, upI_ne (by decide), upI_at, if_pos rfl]
        have e49 : I5 49 v = mde f v u (c - u) := by rw [e5, upI_at, if_pos rfl]
        refine mj_aload_n hJ dX7_follow_124 rfl ?_
        refine mk_getR hJ dX7_follow_125 fw_X7_24 rfl (by decide) rfl rfl ?_
        refine mj_iload hJ dX7_follow_128 rfl ?_
        refine mk_iald hJ dX7_follow_130 rfl (by omega) (by omega) ?_
        rw [e48]
        refine ms_istore (ls' := [_, _, _, _, _, _, _, _]) hJ dX7_follow_131 (by decide) rfl rfl ?_
        refine mj_iload hJ dX7_follow_133 rfl ?_
        refine mj_aload_n hJ dX7_follow_135 rfl ?_
        refine mk_getR hJ dX7_follow_136 fw_X7_27 rfl (by decide) rfl rfl ?_
        refine mj_iload hJ dX7_follow_139 rfl ?_
        refine mk_iald hJ dX7_follow_141 rfl (by omega) (by omega) ?_
        rw [e49]
        first | refine ms_iadd hJ dX7_follow_142 (by omega) ?_ | refine mj_iadd hJ dX7_follow_142 ?_
        refine ms_istore (ls' := [_, _, _, _, _, _, _, _]) hJ dX7_follow_143 (by decide) rfl rfl ?_
        refine ms_iinc (ls' := [_, _, _, _, _, _, _, _]) hJ dX7_follow_145 rfl (by decide) rfl (wr_id (by omega)) rfl ?_
        refine mj_goto (tgt := 15) hJ dX7_follow_148 (by decide) ?_
        refine mj_drop (ls' := [_, _, _, _, _, _, _, vu]) hJ ⟨Or.inl rfl, Or.inl rfl, Or.inl rfl, Or.inl rfl, Or.inl rfl, Or.inl rfl, Or.inl rfl, Or.inr rfl, trivial⟩ ?_
        rw [← es, ← eab, show (v : Int) + 1 = ((v + 1 : Nat) : Int) by omega]
        refine ih (v + 1) I5 (by omega) (fun y hy => ?_) (fun u' x1 y1 => ?_) (fun u' x1 y1 => ?_)
        · rw [e5, upI_ne (by omega), upI_ne (by omega), upI_ne (by omega), upI_ne (by omega), upI_ne (by omega)]; exact hf y hy
        · rw [e5, upI_ne (by decide), upI_ne (by decide), upI_ne (by decide), upI_ne (by decide), upI_ne (by decide)]; exact h44 u' x1 y1
        · have f45 : I5 45 u' = if u' = v then c else I3 45 u' := by rw [e5, upI_ne (by decide), upI_ne (by decide), upI_ne (by decide), upI_ne (by decide), upI_at]
          have f46 : I5 46 u' = if u' = v then x else I3 46 u' := by rw [e5, upI_ne (by decide), upI_ne (by decide), upI_ne (by decide), upI_at, upI_ne (by decide)]
          have f47 : I5 47 u' = if u' = v then u else I3 47 u' := by rw [e5, upI_ne (by decide), upI_ne (by decide), upI_at, upI_ne (by decide), upI_ne (by decide)]
          have f48 : I5 48 u' = if u' = v then c - u else I3 48 u' := by rw [e5, upI_ne (by decide), upI_at, upI_ne (by decide), upI_ne (by decide), upI_ne (by decide)]
          have f49 : I5 49 u' = if u' = v then mde f v u (c - u) else I3 49 u' := by rw [e5, upI_at, upI_ne (by decide), upI_ne (by decide), upI_ne (by decide), upI_ne (by decide)]
          rw [f45, f46, f47, f48, f49]
          by_cases e : u' = v
          · subst e
            rw [if_pos rfl, if_pos rfl, if_pos rfl, if_pos rfl, if_pos rfl]
            exact ⟨hc.symm, hx.symm, hu.symm, ep.symm, em.symm⟩
          · rw [if_neg e, if_neg e, if_neg e, if_neg e, if_neg e]
            exact hB u' x1 (by omega)
      refine mj_iload hJ dX7_follow_15 rfl ?_
      refine mj_aload_n hJ dX7_follow_17 rfl ?_
      refine mk_getI (j' := 0) hJ dX7_follow_18 fw_X7_35 rfl (by decide) rfl rfl ?_
      rw [e0]
      refine mj_icmp_ge (tgt := 151) hJ dX7_follow_21 (by decide) (fun hyes => absurd hyes (by omega)) (fun _ => ?_)
      refine mj_aload_n hJ dX7_follow_24 rfl ?_
      refine mk_getR hJ dX7_follow_25 fw_X7_15 rfl (by decide) rfl rfl ?_
      refine mj_iload hJ dX7_follow_28 rfl ?_
      refine mj_iload hJ dX7_follow_30 rfl ?_
      refine mj_aload_n hJ dX7_follow_32 rfl ?_
      refine mk_getR hJ dX7_follow_33 fw_X7_9 rfl (by decide) rfl rfl ?_
      refine mj_iload hJ dX7_follow_36 rfl ?_
      refine mk_iald hJ dX7_follow_38 rfl (by omega) (by omega) ?_
      rw [h44 v (by omega) (by omega)]
      first | refine ms_iadd hJ dX7_follow_39 (by omega) ?_ | refine mj_iadd hJ dX7_follow_39 ?_
      rw [ec]
      refine mk_iast hJ dX7_follow_40 rfl (by omega) (by omega) ?_
      refine mj_iload_n hJ dX7_follow_41 rfl ?_
      refine ms_istore (ls' := [_, _, _, _, _, _, _, _]) hJ dX7_follow_42 (by decide) rfl rfl ?_
      refine mj_iload_n hJ dX7_follow_44 rfl ?_
      refine mj_iconst hJ dX7_follow_45 (by decide) ?_
      refine mj_icmp_ne (tgt := 77) hJ dX7_follow_46 (by decide) (fun hpn => ?_) (fun hpn => ?_)
      · have hp0 : 0 ≤ p := by
          rcases hp with h | h
          · exact h.1
          · exact absurd h.1 hpn
        rw [if_pos hp0] at et
        rw [et] at K77
        exact K77
      · rw [if_neg (by omega)] at et
        have hT4 : TC (upI I3 45 v c) 17 18 19 20 21 T := TC.same (hT hpn) (fun y y0 y1 => by rw [upI_ne (by omega)]; exact hf y (by omega))
        have hTW : TW T := by
          rcases hp with h | h
          · omega
          · exact h.2
        refine mj_aload_n hJ dX7_follow_49 rfl ?_
        refine mk_getR hJ dX7_follow_50 fw_X7_68 rfl (by decide) rfl rfl ?_
        refine mj_iload hJ dX7_follow_53 rfl ?_
        refine mj_iload_n hJ dX7_follow_55 rfl ?_
        refine mj_aload_n hJ dX7_follow_56 rfl ?_
        refine mk_getR hJ dX7_follow_57 fw_X7_15 rfl (by decide) rfl rfl ?_
        refine mj_iload hJ dX7_follow_60 rfl ?_
        refine mk_iald hJ dX7_follow_62 rfl (by omega) (by omega) ?_
        rw [upI_at, if_pos rfl]
        refine mj_aload_n hJ dX7_follow_63 rfl ?_
        refine mk_getR hJ dX7_follow_64 fw_X7_41 rfl (by decide) rfl rfl ?_
        refine mj_iload hJ dX7_follow_67 rfl ?_
        refine mk_aald hJ dX7_follow_69 rfl (Or.inl rfl) (by omega) (by omega) (gr_2 (by omega) (by omega)).1 ?_
        refine mj_iconst hJ dX7_follow_70 (by decide) ?_
        refine mk_iald hJ dX7_follow_71 (gr_2 (b := true) (by omega) (by omega)).2 (by omega) (by omega) ?_
        rw [hl4.fact (by omega) (by omega) (by decide) (by decide)]
        refine mk_Vp4 hJ dX7_follow_72 cw_X7_72 rfl rfl rfl rfl (Nat.le_of_ble_eq_true rfl) (by first | decide | omega) (c_X5_toldFor T hT4 hTW v w c (f (10 + 18 * v + 0))) ?_
        rw [← et]
        refine ms_istore (ls' := [_, _, _, _, _, _, _, _]) hJ dX7_follow_75 (by decide) rfl rfl ?_
        exact K77
  refine mj_aload_n hJ dX7_follow_0 rfl ?_
  refine mj_aload_n hJ dX7_follow_1 rfl ?_
  refine mj_iload_n hJ dX7_follow_2 rfl ?_
  refine mk_Vv2 hJ dX7_follow_3 cw_X7_58 rfl rfl rfl rfl (Nat.le_of_ble_eq_true rfl) (by first | decide | omega) (c_X7_fill hw hl w w0 w1) (fun I1 b1 hq9 => ?_)
  obtain ⟨rfl, hf1, h44⟩ := hq9
  refine mj_iconst hJ dX7_follow_6 (by decide) ?_
  refine ms_istore (ls' := [_, _, _, _, _, _, _, _]) hJ dX7_follow_7 (by decide) rfl rfl ?_
  refine mj_iconst hJ dX7_follow_9 (by decide) ?_
  refine ms_istore (ls' := [_, _, _, _, _, _, _, _]) hJ dX7_follow_10 (by decide) rfl rfl ?_
  refine mj_iconst hJ dX7_follow_12 (by decide) ?_
  refine ms_istore (ls' := [_, _, _, _, _, _, _, _]) hJ dX7_follow_13 (by decide) rfl rfl ?_
  exact loop (f 0).toNat 0 I1 (by omega) (fun c hc => hf1 c (by omega)) h44 (fun u x y => by omega)
theorem c_bestOf (hw : WN f) (hl : LN I f) (w : Int) (w0 : 0 ≤ w) (w1 : w ≤ 20) : MtI G yX8_bestOf cX8_bestOf 2 (some .int) 4 [vr 0, vi w] I b (fun z I' b' => z = bestv f w ∧ b' = b ∧ (∀ c, (c < 44 ∨ 57 < c) → I' c = I c) ∧ ∀ v, 0 ≤ v → v < f 0 → I' 44 v = infl f w v) := by
  refine mt_enterI (own := RX8) (ls0 := [vr 0, vi w]) rfl (by decide +kernel) (Nat.le_of_ble_eq_true rfl) rfl rfl (fun J hJ hR => ?_)
  have hn := hw.nv
  refine mj_aload_n hJ dX8_bestOf_0 rfl ?_
  refine mk_getR hJ dX8_bestOf_1 fw_X8_26 rfl (by decide) rfl rfl ?_
  refine mj_aload_n hJ dX8_bestOf_4 rfl ?_
  refine mk_getR hJ dX8_bestOf_5 fw_X8_12 rfl (by decide) rfl rfl ?_
  refine mj_iload_n hJ dX8_bestOf_8 rfl ?_
  refine mk_Vv2 hJ dX8_bestOf_9 cw_X8_159 rfl rfl rfl rfl (Nat.le_of_ble_eq_true rfl) (by first | decide | omega) (c_X7_fill hw hl w w0 w1) (fun I1 b1 hq9 => ?_)
  obtain ⟨rfl, hf1, h44⟩ := hq9
  have hl1 : LN I1 f := LN.same hw hl (fun c c1 c2 => hf1 c (by omega))
  refine mj_aload_n hJ dX8_bestOf_12 rfl ?_
  refine mk_getR hJ dX8_bestOf_13 fw_X8_26 rfl (by decide) rfl rfl ?_
  refine mj_aload_n hJ dX8_bestOf_16 rfl ?_
  refine mk_getR hJ dX8_bestOf_17 fw_X8_12 rfl (by decide) rfl rfl ?_
  refine mj_iconst hJ dX8_bestOf_20 (by decide) ?_
  refine mj_aload_n hJ dX8_bestOf_21 rfl ?_
  refine mk_getR hJ dX8_bestOf_22 fw_X8_12 rfl (by decide) rfl rfl ?_
  refine mk_getI (j' := 0) hJ dX8_bestOf_25 fw_X8_94 rfl (by decide) rfl rfl ?_
  rw [hl1.1.1]
  refine mj_iconst hJ dX8_bestOf_28 (by decide) ?_
  first | refine ms_isub hJ dX8_bestOf_29 (by omega) ?_ | refine mj_isub hJ dX8_bestOf_29 ?_
  refine mk_Vi3 hJ dX8_bestOf_30 cw_X8_155 rfl rfl rfl rfl (Nat.le_of_ble_eq_true rfl) (by first | decide | omega) (c_mostMadeQ hw hl1 0 (f 0 - 1) (infl f w) (fun v x y => h44 v x (by omega)) (Int.le_refl _) (by omega) (by omega) (fun v x y => (infl_bd hw x (by omega) w0 w1).1) (by have := sg_infl hw w0 w1 (a := 0) (l := f 0 - 1) (by omega) (by omega) (by omega); omega)) (fun z I2 b2 hq9 => ?_)
  obtain ⟨rfl, rfl, hf2, hT⟩ := hq9
  refine hR _ _ _ _ _ dX8_bestOf_33 nar_i ⟨(bestv_gQ hn.1).symm, rfl, fun c hc => (hf2 c (by omega)).trans (hf1 c (by omega)), fun v x y => by rw [hf2 44 (by decide)]; exact h44 v x y⟩
theorem c_madeInBest (hw : WN f) (hl : LN I f) (v : Int) (v0 : 0 ≤ v) (v1 : v < f 0) : MtI G yX8_madeInBest cX8_madeInBest 2 (some .int) 5 [vr 0, vi v] I b (fun z I' b' => z = bM f v ∧ b' = b ∧ (∀ c, (c < 44 ∨ 57 < c) → I' c = I c)) := by
  refine mt_enterI (own := RX8) (ls0 := [vr 0, vi v]) rfl (by decide +kernel) (Nat.le_of_ble_eq_true rfl) rfl rfl (fun J hJ hR => ?_)
  have hn := hw.nv
  refine mj_aload_n hJ dX8_madeInBest_0 rfl ?_
  refine mk_getR hJ dX8_madeInBest_1 fw_X8_26 rfl (by decide) rfl rfl ?_
  refine mj_aload_n hJ dX8_madeInBest_4 rfl ?_
  refine mk_getR hJ dX8_madeInBest_5 fw_X8_12 rfl (by decide) rfl rfl ?_
  refine mj_bipush hJ dX8_madeInBest_8 (by decide) ?_
  refine mk_Vv2 hJ dX8_madeInBest_10 cw_X8_139 rfl rfl rfl rfl (Nat.le_of_ble_eq_true rfl) (by first | decide | omega) (c_X7_followBest hw hl 10 (by decide) (by decide)) (fun I1 b1 hq9 => ?_)
  obtain ⟨rfl, hf1, hB⟩ := hq9
  refine mj_aload_n hJ dX8_madeInBest_13 rfl ?_
  refine mk_getR hJ dX8_madeInBest_14 fw_X8_26 rfl (by decide) rfl rfl ?_
  refine mk_getR hJ dX8_madeInBest_17 fw_X8_149 rfl (by decide) rfl rfl ?_
  refine mj_iload_n hJ dX8_madeInBest_20 rfl ?_
  refine mk_iald hJ dX8_madeInBest_21 rfl (by omega) (by omega) ?_
  rw [(hB v v0 v1).2.2]
  exact hR _ _ _ _ _ dX8_madeInBest_22 nar_i ⟨rfl, rfl, hf1⟩
theorem c_mostOf (hw : WN f) (hl : LN I f) (v : Int) (v0 : 0 ≤ v) (v1 : v < f 0) (h44 : ∀ u, 0 ≤ u → u < f 0 → I 44 u = infl f 10 u) : MtP G yX8_mostOf cX8_mostOf 4 (some .int) 1 [vr 0, vi v] I b (mostv f v) := by
  refine mt_enterI (own := RX8) (ls0 := [vr 0, vi v, vu, vu]) rfl (by decide +kernel) (Nat.le_of_ble_eq_true rfl) rfl rfl (fun J hJ hR => ?_)
  have hn := hw.nv
  have hq : ∀ i : Int, 0 ≤ i → i ≤ v → 0 ≤ infl f 10 i ∧ infl f 10 i ≤ 24 := fun i x y => infl_bd hw x (by omega) (by decide) (by decide)
  have hsv := sg_infl hw (w := 10) (by decide) (by decide) (a := 0) (l := v) (by omega) (by omega) (by omega)
  have loop : ∀ (m : Nat) (u : Int), u + m = v + 1 → 0 ≤ u → J 4 [vr 0, vi v, vi (sg (infl f 10) 0 (u - 1)), vi u] [] (mk I b) := by
    intro m
    induction m with
    | zero =>
      intro u hu u0
      have eu : u = v + 1 := by omega
      subst eu
      rw [show v + 1 - 1 = v by omega]
      have s0 := sg_le (q := infl f 10) (a := 0) (l := v) (fun i x y => (hq i x y).1) (v := v) (by omega) (Int.le_refl _)
      have et := hl.tog v0 v1 (n := min (sg (infl f 10) 0 v) 12) (by omega) (by omega)
      refine mj_iload_n hJ dX8_mostOf_4 rfl ?_
      refine mj_iload_n hJ dX8_mostOf_5 rfl ?_
      refine mj_icmp_gt (tgt := 27) hJ dX8_mostOf_6 (by decide) (fun _ => ?_) (fun hno => absurd (by omega) hno)
      refine mj_aload_n hJ dX8_mostOf_27 rfl ?_
      refine mk_getR hJ dX8_mostOf_28 fw_X8_12 rfl (by decide) rfl rfl ?_
      refine mk_getR hJ dX8_mostOf_31 fw_X8_129 rfl (by decide) rfl rfl ?_
      refine mj_iload_n hJ dX8_mostOf_34 rfl ?_
      refine mk_aald hJ dX8_mostOf_35 rfl (Or.inl rfl) (by omega) (by omega) (gr_9 (by omega) (by omega)).1 ?_
      refine mj_iload_n hJ dX8_mostOf_36 rfl ?_
      refine mj_bipush hJ dX8_mostOf_37 (by decide) ?_
      refine mk_Sp2 hJ dX8_mostOf_39 cw_X8_312 rfl (Nat.le_of_ble_eq_true rfl) (by first | decide | omega) (c_min (sg (infl f 10) 0 v) 12) ?_
      refine mk_iald hJ dX8_mostOf_42 (gr_9 (b := true) (by omega) (by omega)).2 (by omega) (by omega) ?_
      rw [et]
      refine hR _ _ _ _ _ dX8_mostOf_43 nar_i ⟨?_, rfl, rfl⟩
      unfold mostv cap
      rw [show (min (sg (infl f 10) 0 v) 12).toNat = (if sg (infl f 10) 0 v ≤ 12 then sg (infl f 10) 0 v else 12).toNat by split <;> omega]
    | succ m ih =>
      intro u hu u0
      have s0 := sg_le (q := infl f 10) (a := 0) (l := v) (fun i x y => (hq i x y).1) (v := u) (by omega) (by omega)
      have s1 := sg_le (q := infl f 10) (a := 0) (l := v) (fun i x y => (hq i x y).1) (v := u - 1) (by omega) (by omega)
      have es := sg_succ (q := infl f 10) (a := 0) (v := u - 1) (by omega)
      rw [show u - 1 + 1 = u by omega] at es
      refine mj_iload_n hJ dX8_mostOf_4 rfl ?_
      refine mj_iload_n hJ dX8_mostOf_5 rfl ?_
      refine mj_icmp_gt (tgt := 27) hJ dX8_mostOf_6 (by decide) (fun hyes => absurd hyes (by omega)) (fun _ => ?_)
      refine mj_iload_n hJ dX8_mostOf_9 rfl ?_
      refine mj_aload_n hJ dX8_mostOf_10 rfl ?_
      refine mk_getR hJ dX8_mostOf_11 fw_X8_26 rfl (by decide) rfl rfl ?_
      refine mk_getR hJ dX8_mostOf_14 fw_X8_152 rfl (by decide) rfl rfl ?_
      refine mj_iload_n hJ dX8_mostOf_17 rfl ?_
      refine mk_iald hJ dX8_mostOf_18 rfl (by omega) (by omega) ?_
      rw [h44 u u0 (by omega)]
      first | refine ms_iadd hJ dX8_mostOf_19 (by omega) ?_ | refine mj_iadd hJ dX8_mostOf_19 ?_
      refine ms_istore_n (ls' := [_, _, _, _]) hJ dX8_mostOf_20 (by decide) rfl rfl ?_
      refine ms_iinc (ls' := [_, _, _, _]) hJ dX8_mostOf_21 rfl (by decide) rfl (wr_id (by omega)) rfl ?_
      refine mj_goto (tgt := 4) hJ dX8_mostOf_24 (by decide) ?_
      rw [← es]
      have ih := ih (u + 1) (by omega) (by omega)
      rw [show u + 1 - 1 = u by omega] at ih
      exact ih
  refine mj_iconst hJ dX8_mostOf_0 (by decide) ?_
  refine ms_istore_n (ls' := [_, _, _, _]) hJ dX8_mostOf_1 (by decide) rfl rfl ?_
  refine mj_iconst hJ dX8_mostOf_2 (by decide) ?_
  refine ms_istore_n (ls' := [_, _, _, _]) hJ dX8_mostOf_3 (by decide) rfl rfl ?_
  have key := loop (v + 1).toNat 0 (by omega) (by omega)
  rw [sg_pre (q := infl f 10) (a := 0)] at key
  exact key
theorem xor_sign {x y : Int} (hx : inR x) (hy : inR y) (y0 : 0 ≤ y) : 0 ≤ (i32 x ^^^ i32 y).toInt ↔ 0 ≤ x := by
  have key : ∀ a : Int32, 0 ≤ a.toInt ↔ a.toBitVec.msb = false := fun a => by
    have h : a.toInt = a.toBitVec.toInt := rfl
    rw [h, BitVec.msb_eq_toInt, decide_eq_false_iff_not]
    omega
  rw [key, Int32.toBitVec_xor, BitVec.msb_xor]
  have h1 := key (i32 x)
  have h2 := key (i32 y)
  rw [i32_t hx] at h1
  rw [i32_t hy] at h2
  rw [h2.1 y0, Bool.xor_false]
  exact h1.symm
theorem tdiv_small {x n : Int} (n0 : 0 < n) : (0 ≤ x → x.tdiv n = x / n) ∧ (x < 0 → x.tdiv n = -((-x) / n)) := by
  refine ⟨fun h => Int.tdiv_eq_ediv_of_nonneg h, fun h => ?_⟩
  rw [← Int.tdiv_eq_ediv_of_nonneg (show 0 ≤ -x by omega), Int.neg_tdiv]
  omega
theorem c_floorDiv (x n : Int) (hx : -100000 ≤ x ∧ x ≤ 100000) (n0 : 0 < n) (n1 : n ≤ 6) : MtP G yJ9_floorDiv_7cf53 cJ9_floorDiv_7cf53 3 (some .int) 0 [vi x, vi n] I b (x / n) := by
  refine mt_enterIF (own := RJ9) (ls0 := [vi x, vi n, vu]) rfl (by decide +kernel) (Nat.le_of_ble_eq_true rfl) rfl rfl (fun J hJ hR => ?_)
  have hx2 : inR x := ⟨by omega, by omega⟩
  have hn2 : inR n := ⟨by omega, by omega⟩
  have hsg := xor_sign hx2 hn2 (by omega)
  have hd := tdiv_small (x := x) n0
  have hall : (-100000 ≤ x.tdiv n ∧ x.tdiv n ≤ 100000) ∧ (-700000 ≤ x.tdiv n * n ∧ x.tdiv n * n ≤ 700000) ∧ (x < 0 → (x.tdiv n * n = x → x / n = x.tdiv n) ∧ (x.tdiv n * n ≠ x → x / n = x.tdiv n - 1)) := by
    have e1 : n = 1 ∨ n = 2 ∨ n = 3 ∨ n = 4 ∨ n = 5 ∨ n = 6 := by omega
    rcases e1 with rfl | rfl | rfl | rfl | rfl | rfl <;> omega
  refine mj_iload_n hJ dJ9_floorDiv_7cf53_0 rfl ?_
  refine mj_iload_n hJ dJ9_floorDiv_7cf53_1 rfl ?_
  refine ms_idiv hJ dJ9_floorDiv_7cf53_2 (by omega) (by omega) ?_
  refine ms_istore_n (ls' := [_, _, _]) hJ dJ9_floorDiv_7cf53_3 (by decide) rfl rfl ?_
  refine mj_iload_n hJ dJ9_floorDiv_7cf53_4 rfl ?_
  refine mj_iload_n hJ dJ9_floorDiv_7cf53_5 rfl ?_
  refine mj_ixor hJ dJ9_floorDiv_7cf53_6 ?_
  refine mj_if_ge (tgt := 21) hJ dJ9_floorDiv_7cf53_7 (by decide) (fun h => ?_) (fun h => ?_)
  · have hx0 := hsg.1 h
    refine mj_iload_n hJ dJ9_floorDiv_7cf53_21 rfl ?_
    refine hR _ _ _ _ _ dJ9_floorDiv_7cf53_22 nar_i ⟨hd.1 hx0, rfl, rfl⟩
  · have hx0 : ¬ 0 ≤ x := fun q => h (hsg.2 q)
    refine mj_iload_n hJ dJ9_floorDiv_7cf53_10 rfl ?_
    refine mj_iload_n hJ dJ9_floorDiv_7cf53_11 rfl ?_
    first | refine ms_imul hJ dJ9_floorDiv_7cf53_12 (by omega) ?_ | refine mj_imul hJ dJ9_floorDiv_7cf53_12 ?_
    refine mj_iload_n hJ dJ9_floorDiv_7cf53_13 rfl ?_
    refine mj_icmp_eq (tgt := 21) hJ dJ9_floorDiv_7cf53_14 (by decide) (fun h2 => ?_) (fun h2 => ?_)
    · refine mj_iload_n hJ dJ9_floorDiv_7cf53_21 rfl ?_
      refine hR _ _ _ _ _ dJ9_floorDiv_7cf53_22 nar_i ⟨((hall.2.2 (by omega)).1 h2).symm, rfl, rfl⟩
    · refine mj_iload_n hJ dJ9_floorDiv_7cf53_17 rfl ?_
      refine mj_iconst hJ dJ9_floorDiv_7cf53_18 (by decide) ?_
      first | refine ms_isub hJ dJ9_floorDiv_7cf53_19 (by omega) ?_ | refine mj_isub hJ dJ9_floorDiv_7cf53_19 ?_
      refine hR _ _ _ _ _ dJ9_floorDiv_7cf53_20 nar_i ⟨((hall.2.2 (by omega)).2 h2).symm, rfl, rfl⟩
theorem c_floorMod (x n : Int) (hx : -100000 ≤ x ∧ x ≤ 100000) (n0 : 0 < n) (n1 : n ≤ 6) : MtP G yJ9_floorMod_7cf53 cJ9_floorMod_7cf53 3 (some .int) 0 [vi x, vi n] I b (x % n) := by
  refine mt_enterIF (own := RJ9) (ls0 := [vi x, vi n, vu]) rfl (by decide +kernel) (Nat.le_of_ble_eq_true rfl) rfl rfl (fun J hJ hR => ?_)
  have hx2 : inR x := ⟨by omega, by omega⟩
  have hn2 : inR n := ⟨by omega, by omega⟩
  have hsg := xor_sign hx2 hn2 (by omega)
  have hd := tdiv_small (x := x) n0
  have hm : x.tmod n = x - n * x.tdiv n := Int.tmod_def x n
  have hmb : (0 ≤ x → x.tmod n = x % n) ∧ (x < 0 → (x.tmod n = 0 → x % n = 0) ∧ (x.tmod n ≠ 0 → x % n = x.tmod n + n)) ∧ -10 ≤ x.tmod n ∧ x.tmod n ≤ 10 := by
    have e1 : n = 1 ∨ n = 2 ∨ n = 3 ∨ n = 4 ∨ n = 5 ∨ n = 6 := by omega
    rcases e1 with rfl | rfl | rfl | rfl | rfl | rfl <;> omega
  refine mj_iload_n hJ dJ9_floorMod_7cf53_0 rfl ?_
  refine mj_iload_n hJ dJ9_floorMod_7cf53_1 rfl ?_
  refine mj_irem hJ dJ9_floorMod_7cf53_2 (by omega) ?_
  refine ms_istore_n (ls' := [_, _, _]) hJ dJ9_floorMod_7cf53_3 (by decide) rfl rfl ?_
  refine mj_iload_n hJ dJ9_floorMod_7cf53_4 rfl ?_
  refine mj_iload_n hJ dJ9_floorMod_7cf53_5 rfl ?_
  refine mj_ixor hJ dJ9_floorMod_7cf53_6 ?_
  refine mj_if_ge (tgt := 18) hJ dJ9_floorMod_7cf53_7 (by decide) (fun h => ?_) (fun h => ?_)
  · have hx0 := hsg.1 h
    refine mj_iload_n hJ dJ9_floorMod_7cf53_18 rfl ?_
    refine hR _ _ _ _ _ dJ9_floorMod_7cf53_19 nar_i ⟨hmb.1 hx0, rfl, rfl⟩
  · have hx0 : ¬ 0 ≤ x := fun q => h (hsg.2 q)
    refine mj_iload_n hJ dJ9_floorMod_7cf53_10 rfl ?_
    refine mj_if_eq (tgt := 18) hJ dJ9_floorMod_7cf53_11 (by decide) (fun h2 => ?_) (fun h2 => ?_)
    · refine mj_iload_n hJ dJ9_floorMod_7cf53_18 rfl ?_
      refine hR _ _ _ _ _ dJ9_floorMod_7cf53_19 nar_i ⟨by rw [h2]; exact ((hmb.2.1 (by omega)).1 h2).symm, rfl, rfl⟩
    · refine mj_iload_n hJ dJ9_floorMod_7cf53_14 rfl ?_
      refine mj_iload_n hJ dJ9_floorMod_7cf53_15 rfl ?_
      first | refine ms_iadd hJ dJ9_floorMod_7cf53_16 (by omega) ?_ | refine mj_iadd hJ dJ9_floorMod_7cf53_16 ?_
      refine hR _ _ _ _ _ dJ9_floorMod_7cf53_17 nar_i ⟨((hmb.2.1 (by omega)).2 h2).symm, rfl, rfl⟩
end C4
