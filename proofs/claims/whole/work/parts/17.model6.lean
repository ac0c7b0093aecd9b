section M6
variable {G : GE} {I : Ints} {b : Bool}
theorem Same.trans' {I I1 I2 : Ints} (h : Same I I1) (h2 : Same I1 I2) : Same I I2 := ⟨fun c hc => (h2.1 c hc).trans (h.1 c hc), h2.2.1.trans h.2.1, h2.2.2.1.trans h.2.2.1, h2.2.2.2.1.trans h.2.2.2.1, h2.2.2.2.2.trans h.2.2.2.2⟩
theorem Same.eq {I I' : Ints} (h : I' = I) : Same I I' := by subst h; exact Same.rfl'
abbrev Qg (I' : Ints) (b : Bool) (F : Int) : Int → Ints → Bool → Prop := fun z I1 b1 => z = F ∧ b1 = b ∧ Same I' I1
theorem c_X9_village (w : Int) (hw : WN (I 112)) : MtI G yX9_village cX9_village 4 (some .int) 2 [vr 111, vi w] I b (Qg (G_village I w) b (F_village I w)) := by
  refine mt_enterI (own := RX9) (ls0 := [vr 111, vi w, vu, vu]) rfl (by decide +kernel) (Nat.le_of_ble_eq_true rfl) rfl rfl (fun J hJ hR => ?_)
  have hn := hw.nv
  refine mj_iload_n hJ dX9_village_0 rfl ?_
  refine mj_iconst hJ dX9_village_1 (by decide) ?_
  refine mj_bipush hJ dX9_village_2 (by decide) ?_
  refine mk_Sp3 hJ dX9_village_4 cw_X9_104 rfl (Nat.le_of_ble_eq_true rfl) (by decide) (c_X9_in w 0 12) ?_
  by_cases h : 0 ≤ w ∧ w ≤ 12
  · rw [if_pos h]
    refine mj_if_ne (tgt := 12) hJ dX9_village_7 (by decide) (fun _ => ?_) (fun hno => absurd hno (by decide))
    refine mj_aload_n hJ dX9_village_12 rfl ?_
    refine mk_getR hJ dX9_village_13 fw_X9_9 rfl (by decide) rfl rfl ?_
    refine mj_iconst hJ dX9_village_16 (by decide) ?_
    refine mk_iald hJ dX9_village_17 rfl (by omega) (by omega) ?_
    refine ms_istore_n (ls' := [_, _, _, _]) hJ dX9_village_18 (by decide) rfl rfl ?_
    refine mj_iload_n hJ dX9_village_19 rfl ?_
    refine mj_bipush hJ dX9_village_20 (by decide) ?_
    refine mj_icmp_ne (tgt := 28) hJ dX9_village_22 (by decide) (fun h6 => ?_) (fun h6 => ?_)
    · have loop : ∀ (m : Nat) (k : Int) (I1 : Ints), 0 ≤ k → k + m = 18 → (∀ c, c ≠ 112 → I1 c = I c) → (∀ j, I1 112 j = if 10 + 18 * I 112 0 ≤ j ∧ j < 10 + 18 * I 112 0 + k then 0 else I 112 j) → J 30 [vr 111, vi w, vi (I 112 0), vi k] [] (mk I1 b) := by
        intro m
        induction m with
        | zero =>
          intro k I1 hk hkm hf hr
          refine mj_iload_n hJ dX9_village_30 rfl ?_
          refine mj_bipush hJ dX9_village_31 (by decide) ?_
          refine mj_icmp_ge (tgt := 53) hJ dX9_village_33 (by decide) (fun _ => ?_) (fun hno => absurd (by omega) hno)
          refine mj_aload_n hJ dX9_village_53 rfl ?_
          refine mk_getR hJ dX9_village_54 fw_X9_9 rfl (by decide) rfl rfl ?_
          refine mj_iload_n hJ dX9_village_57 rfl ?_
          refine mj_iconst hJ dX9_village_58 (by decide) ?_
          refine mk_Sp2 hJ dX9_village_59 cw_X9_108 rfl (Nat.le_of_ble_eq_true rfl) (by decide) (c_X9_at _ 0 (by omega) (by omega) (by omega) (by omega)) ?_
          refine mj_iload_n hJ dX9_village_62 rfl ?_
          refine mk_iast hJ dX9_village_63 rfl (by omega) (by omega) ?_
          refine mj_aload_n hJ dX9_village_64 rfl ?_
          refine mk_getR hJ dX9_village_65 fw_X9_9 rfl (by decide) rfl rfl ?_
          refine mj_iload_n hJ dX9_village_68 rfl ?_
          refine mj_iconst hJ dX9_village_69 (by decide) ?_
          refine mk_Sp2 hJ dX9_village_70 cw_X9_108 rfl (Nat.le_of_ble_eq_true rfl) (by decide) (c_X9_at _ 1 (by omega) (by omega) (by omega) (by omega)) ?_
          refine mj_bipush hJ dX9_village_73 (by decide) ?_
          refine mk_iast hJ dX9_village_75 rfl (by omega) (by omega) ?_
          refine mj_aload_n hJ dX9_village_76 rfl ?_
          refine mk_getR hJ dX9_village_77 fw_X9_9 rfl (by decide) rfl rfl ?_
          refine mj_iload_n hJ dX9_village_80 rfl ?_
          refine mj_iconst hJ dX9_village_81 (by decide) ?_
          refine mk_Sp2 hJ dX9_village_82 cw_X9_108 rfl (Nat.le_of_ble_eq_true rfl) (by decide) (c_X9_at _ 4 (by omega) (by omega) (by omega) (by omega)) ?_
          refine mj_bipush hJ dX9_village_85 (by decide) ?_
          refine mk_iast hJ dX9_village_87 rfl (by omega) (by omega) ?_
          refine mj_aload_n hJ dX9_village_88 rfl ?_
          refine mk_getR hJ dX9_village_89 fw_X9_9 rfl (by decide) rfl rfl ?_
          refine mj_iload_n hJ dX9_village_92 rfl ?_
          refine mj_iconst hJ dX9_village_93 (by decide) ?_
          refine mk_Sp2 hJ dX9_village_94 cw_X9_108 rfl (Nat.le_of_ble_eq_true rfl) (by decide) (c_X9_at _ 5 (by omega) (by omega) (by omega) (by omega)) ?_
          refine mj_iconst hJ dX9_village_97 (by decide) ?_
          refine mk_iast hJ dX9_village_98 rfl (by omega) (by omega) ?_
          refine mj_aload_n hJ dX9_village_99 rfl ?_
          refine mk_getR hJ dX9_village_100 fw_X9_9 rfl (by decide) rfl rfl ?_
          refine mj_iconst hJ dX9_village_103 (by decide) ?_
          refine mj_dup2 hJ dX9_village_104 ?_
          refine mk_iald hJ dX9_village_105 rfl (by omega) (by omega) ?_
          rw [upI_at, if_neg (by omega), upI_at, if_neg (by omega), upI_at, if_neg (by omega), upI_at, if_neg (by omega), hr, if_neg (by omega)]
          refine mj_iconst hJ dX9_village_106 (by decide) ?_
          first | refine ms_iadd hJ dX9_village_107 (by omega) ?_ | refine mj_iadd hJ dX9_village_107 ?_
          refine mk_iast hJ dX9_village_108 rfl (by omega) (by omega) ?_
          refine mj_iload_n hJ dX9_village_109 rfl ?_
          refine hR _ _ _ _ _ dX9_village_110 nar_i ⟨?_, rfl, Same.eq ?_⟩
          · unfold F_village; rw [if_pos h, if_neg h6]
          · unfold G_village
            rw [if_pos ⟨h, h6⟩]
            funext c
            by_cases hc : c = 112
            · subst hc
              funext j
              rw [rowI_at]
              simp only [upI_at, hr, nowV]
              repeat' split
              all_goals omega
            · rw [rowI_ne hc, upI_ne hc, upI_ne hc, upI_ne hc, upI_ne hc, upI_ne hc, hf c hc]
        | succ m ih =>
          intro k I1 hk hkm hf hr
          refine mj_iload_n hJ dX9_village_30 rfl ?_
          refine mj_bipush hJ dX9_village_31 (by decide) ?_
          refine mj_icmp_ge (tgt := 53) hJ dX9_village_33 (by decide) (fun hyes => absurd hyes (by omega)) (fun _ => ?_)
          refine mj_aload_n hJ dX9_village_36 rfl ?_
          refine mk_getR hJ dX9_village_37 fw_X9_9 rfl (by decide) rfl rfl ?_
          refine mj_iload_n hJ dX9_village_40 rfl ?_
          refine mj_iload_n hJ dX9_village_41 rfl ?_
          refine mk_Sp2 hJ dX9_village_42 cw_X9_108 rfl (Nat.le_of_ble_eq_true rfl) (by decide) (c_X9_at _ k (by omega) (by omega) (by omega) (by omega)) ?_
          refine mj_iconst hJ dX9_village_45 (by decide) ?_
          refine mk_iast hJ dX9_village_46 rfl (by omega) (by omega) ?_
          refine ms_iinc (ls' := [_, _, _, _]) hJ dX9_village_47 rfl (by decide) rfl (wr_id (by omega)) rfl ?_
          refine mj_goto (tgt := 30) hJ dX9_village_50 (by decide) ?_
          refine ih (k + 1) _ (by omega) (by omega) (fun c hc => (upI_ne hc).trans (hf c hc)) (fun j => ?_)
          rw [upI_at, hr]
          repeat' split
          all_goals omega
      refine mj_iconst hJ dX9_village_28 (by decide) ?_
      refine ms_istore_n (ls' := [_, _, _, _]) hJ dX9_village_29 (by decide) rfl rfl ?_
      exact loop 18 0 I (by omega) (by omega) (fun _ _ => rfl) (fun j => by rw [if_neg (by omega)])
    · refine mj_bipush hJ dX9_village_25 (by decide) ?_
      exact hR _ _ _ _ _ dX9_village_27 nar_i ⟨by unfold F_village; rw [if_pos h, if_pos (by omega)], rfl, Same.eq (by unfold G_village; rw [if_neg (fun q => q.2 (by omega))])⟩
  · rw [if_neg h]
    refine mj_if_ne (tgt := 12) hJ dX9_village_7 (by decide) (fun hyes => absurd (by decide) hyes) (fun _ => ?_)
    refine mj_iconst hJ dX9_village_10 (by decide) ?_
    exact hR _ _ _ _ _ dX9_village_11 nar_i ⟨by unfold F_village; rw [if_neg h], rfl, Same.eq (by unfold G_village; rw [if_neg (fun q => h q.1)])⟩
theorem c_X9_set (v w n : Int) (hw : WN (I 112)) : MtI G yX9_set cX9_set 5 (some .int) 2 [vr 111, vi v, vi w, vi n] I b (Qg (G_set I v w n) b (F_set I v w n)) := by
  refine mt_enterI (own := RX9) (ls0 := [vr 111, vi v, vi w, vi n, vu]) rfl (by decide +kernel) (Nat.le_of_ble_eq_true rfl) rfl rfl (fun J hJ hR => ?_)
  have hn := hw.nv
  have no : ¬ setP I v w n → J 25 [vr 111, vi v, vi w, vi n, vu] [] (mk I b) := by
    intro hno
    refine mj_iconst hJ dX9_set_25 (by decide) ?_
    exact hR _ _ _ _ _ dX9_set_26 nar_i ⟨by unfold F_set; rw [if_neg hno], rfl, Same.eq (by unfold G_set; rw [if_neg hno])⟩
  refine mj_aload_n hJ dX9_set_0 rfl ?_
  refine mj_iload_n hJ dX9_set_1 rfl ?_
  refine mk_Vp1 hJ dX9_set_2 cw_X9_112 rfl rfl rfl rfl (Nat.le_of_ble_eq_true rfl) (by decide) (c_X9_isVillage v hn.1 hn.2) ?_
  by_cases h : 0 ≤ v ∧ v < I 112 0
  · rw [if_pos h]
    refine mj_if_eq (tgt := 25) hJ dX9_set_5 (by decide) (fun hyes => absurd hyes (by decide)) (fun _ => ?_)
    refine mj_iload_n hJ dX9_set_8 rfl ?_
    refine mj_iconst hJ dX9_set_9 (by decide) ?_
    refine mj_iconst hJ dX9_set_10 (by decide) ?_
    refine mk_Sp3 hJ dX9_set_11 cw_X9_104 rfl (Nat.le_of_ble_eq_true rfl) (by decide) (c_X9_in w 0 5) ?_
    by_cases h2 : 0 ≤ w ∧ w ≤ 5
    · rw [if_pos h2]
      refine mj_if_eq (tgt := 25) hJ dX9_set_14 (by decide) (fun hyes => absurd hyes (by decide)) (fun _ => ?_)
      refine mj_iload_n hJ dX9_set_17 rfl ?_
      refine mj_iload_n hJ dX9_set_18 rfl ?_
      refine mk_Sp2 hJ dX9_set_19 cw_X9_119 rfl (Nat.le_of_ble_eq_true rfl) (by decide) (c_X9_fits w n h2.1 (by omega)) ?_
      by_cases h3 : (if w = 5 then 1 else 0) ≤ n ∧ n ≤ (if w = 0 then 12 else if w = 1 ∨ w = 4 then 99 else if w = 2 then 9 else if w = 3 then 20 else 9)
      · rw [if_pos h3]
        have hP : setP I v w n := ⟨h, h2, h3⟩
        refine mj_if_ne (tgt := 27) hJ dX9_set_22 (by decide) (fun _ => ?_) (fun hno => absurd hno (by decide))
        refine mj_aload_n hJ dX9_set_27 rfl ?_
        refine mj_iload_n hJ dX9_set_28 rfl ?_
        refine mj_iload_n hJ dX9_set_29 rfl ?_
        refine mk_Vp2 hJ dX9_set_30 cw_X9_116 rfl rfl rfl rfl (Nat.le_of_ble_eq_true rfl) (by decide) (c_X9_of v w h.1 (by omega) h2.1 (by omega)) ?_
        refine ms_istore (ls' := [_, _, _, _, _]) hJ dX9_set_33 (by decide) rfl rfl ?_
        refine mj_aload_n hJ dX9_set_35 rfl ?_
        refine mk_getR hJ dX9_set_36 fw_X9_9 rfl (by decide) rfl rfl ?_
        refine mj_iload_n hJ dX9_set_39 rfl ?_
        refine mj_iload_n hJ dX9_set_40 rfl ?_
        refine mk_Sp2 hJ dX9_set_41 cw_X9_108 rfl (Nat.le_of_ble_eq_true rfl) (by decide) (c_X9_at v w h.1 (by omega) h2.1 (by omega)) ?_
        refine mj_iload_n hJ dX9_set_44 rfl ?_
        refine mk_iast hJ dX9_set_45 rfl (by omega) (by omega) ?_
        refine mj_iload hJ dX9_set_46 rfl ?_
        exact hR _ _ _ _ _ dX9_set_48 nar_i ⟨by unfold F_set; rw [if_pos hP], rfl, Same.eq (by unfold G_set; rw [if_pos hP])⟩
      · rw [if_neg h3]
        refine mj_if_ne (tgt := 27) hJ dX9_set_22 (by decide) (fun hyes => absurd (by decide) hyes) (fun _ => ?_)
        exact no (fun q => h3 q.2.2)
    · rw [if_neg h2]
      refine mj_if_eq (tgt := 25) hJ dX9_set_14 (by decide) (fun _ => ?_) (fun hno => absurd (by decide) hno)
      exact no (fun q => h2 q.2.1)
  · rw [if_neg h]
    refine mj_if_eq (tgt := 25) hJ dX9_set_5 (by decide) (fun _ => ?_) (fun hno => absurd (by decide) hno)
    exact no (fun q => h q.1)
end M6
