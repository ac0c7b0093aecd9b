section C2
variable {G : GE} {I : Ints} {b : Bool} {f : Int → Int}
/-- what village w makes with those below it, when p passes the one above it; 0 behind the last one -/
def gQ (f q : Int → Int) (l w p : Int) : Int := if w ≤ l then (bb f q (l - w).toNat w (p + q w)).1 else 0
def mQ (f q : Int → Int) (a l : Int) (I1 : Ints) (v : Int) : Prop :=
  ∀ w : Int, v ≤ w → w ≤ l + 1 → ∀ p : Int, 0 ≤ p → p ≤ (if w ≤ l then sg q a (w - 1) else 148) → I1 (51 + w.toNat) p = gQ f q l w p
theorem hv_gQ {f q : Int → Int} {l v c u : Int} : hv f q l v c u = mde f v u (c - u) + gQ f q l (v + 1) (c - u) := by
  unfold hv gQ
  by_cases e : v < l
  · rw [if_pos e, if_pos (show v + 1 ≤ l by omega)]
  · rw [if_neg e, if_neg (show ¬(v + 1 ≤ l) by omega)]
theorem gQ_bd {f q : Int → Int} (hw : WN f) {a l w p : Int} (a0 : 0 ≤ a) (h2 : l < 6) (hq : ∀ v, a ≤ v → v ≤ l → 0 ≤ q v) (hs : sg q a l ≤ 148) (wa : a ≤ w) (p0 : 0 ≤ p) (p1 : w ≤ l → p ≤ sg q a (w - 1)) : -10800 ≤ gQ f q l w p ∧ gQ f q l w p ≤ 7128 := by
  unfold gQ
  by_cases e : w ≤ l
  · rw [if_pos e]
    have hrest := sg_rest (q := q) (a := a) (w := w) (l := l) (by omega) (by omega)
    have hp := p1 e
    have es := sg_succ (q := q) (a := a) (v := w - 1) (by omega)
    rw [show w - 1 + 1 = w by omega] at es
    have q0 := hq w wa e
    have := bb_bd (q := q) hw (l - w).toNat w (p + q w) (by omega) (by omega) (by omega) (fun i x y => hq i (by omega) (by omega)) (by omega)
    omega
  · rw [if_neg e]
    omega
theorem c_X7_leastBestUse (hw : WN f) (hl : LN I f) (v come : Int) (g : Int → Int) (v0 : 0 ≤ v) (v1 : v < f 0) (c0 : 0 ≤ come) (c1 : come ≤ 148) (hg : ∀ p, 0 ≤ p → p ≤ come → I (51 + (v + 1).toNat) p = g p ∧ (-20000 ≤ g p ∧ g p ≤ 20000)) :
    MtP G yX7_leastBestUse cX7_leastBestUse 8 (some .int) 2 [vr 43, vr 1, vi v, vi come] I b (scan (fun u => mde f v u (come - u) + g (come - u)) (cap come)).2 := by
  refine mt_enterI (own := RX7) (ls0 := [vr 43, vr 1, vi v, vi come, vu, vu, vu, vu]) rfl (by decide +kernel) (Nat.le_of_ble_eq_true rfl) rfl rfl (fun J hJ hR => ?_)
  have hn := hw.nv
  have hcap := cap_le c0
  have hcc : (cap come : Int) = 12 ∨ ((cap come : Int) < 12 ∧ (cap come : Int) = come) := by unfold cap at hcap ⊢; split <;> omega
  obtain ⟨h, hh⟩ : ∃ h, (fun u : Int => mde f v u (come - u) + g (come - u)) = h := ⟨_, rfl⟩
  have he : ∀ u : Int, h u = mde f v u (come - u) + g (come - u) := fun u => by rw [← hh]
  have hb : ∀ u : Int, 0 ≤ u → u ≤ cap come → -30000 ≤ h u ∧ h u ≤ 30000 := fun u u0 u1 => by
    have m := mde_bd hw v0 (by omega) (u := u) (p := come - u) (by omega) (by omega) (by omega)
    have := (hg (come - u) (by omega) (by omega)).2
    rw [he]
    omega
  rw [hh] at hR
  have loop : ∀ (m k : Nat), k + m = cap come → J 26 [vr 43, vr 1, vi v, vi come, vi (scan h k).2, vi (scan h k).1, vi (k + 1), vu] [] (mk I b) := by
    intro m
    induction m with
    | zero =>
      intro k hk
      have ek : k = cap come := by omega
      subst ek
      have out : J 87 [vr 43, vr 1, vi v, vi come, vi (scan h (cap come)).2, vi (scan h (cap come)).1, vi (cap come + 1), vu] [] (mk I b) := by
        refine mj_iload hJ dX7_leastBestUse_87 rfl ?_
        exact hR _ _ _ _ _ dX7_leastBestUse_89 nar_i ⟨rfl, rfl, rfl⟩
      refine mj_iload hJ dX7_leastBestUse_26 rfl ?_
      refine mj_iload_n hJ dX7_leastBestUse_28 rfl ?_
      refine mj_icmp_gt (tgt := 87) hJ dX7_leastBestUse_29 (by decide) (fun hx => ?_) (fun hx => ?_)
      · exact out
      · refine mj_iload hJ dX7_leastBestUse_32 rfl ?_
        refine mj_bipush hJ dX7_leastBestUse_34 (by decide) ?_
        refine mj_icmp_gt (tgt := 87) hJ dX7_leastBestUse_36 (by decide) (fun _ => ?_) (fun hno => absurd (by omega) hno)
        exact out
    | succ m ih =>
      intro k hk
      have g1 := hg (come - (k + 1)) (by omega) (by omega)
      have e := he (k + 1)
      have hb1 := hb (k + 1) (by omega) (by omega)
      obtain ⟨u', u0, u1, eu⟩ := scan_mem h k
      have hb2 := hb u' u0 (by omega)
      have es : scan h (k + 1) = if (scan h k).1 < h (k + 1) then (h (k + 1), (k : Int) + 1) else scan h k := rfl
      have ek : (((k + 1 : Nat) : Int) + 1) = (k : Int) + 1 + 1 := by omega
      have ih := ih (k + 1) (by omega)
      rw [ek] at ih
      have m1 := mde_bd hw v0 (by omega) (u := (k : Int) + 1) (p := come - (k + 1)) (by omega) (by omega) (by omega)
      refine mj_iload hJ dX7_leastBestUse_26 rfl ?_
      refine mj_iload_n hJ dX7_leastBestUse_28 rfl ?_
      refine mj_icmp_gt (tgt := 87) hJ dX7_leastBestUse_29 (by decide) (fun hyes => absurd hyes (by omega)) (fun _ => ?_)
      refine mj_iload hJ dX7_leastBestUse_32 rfl ?_
      refine mj_bipush hJ dX7_leastBestUse_34 (by decide) ?_
      refine mj_icmp_gt (tgt := 87) hJ dX7_leastBestUse_36 (by decide) (fun hyes => absurd hyes (by omega)) (fun _ => ?_)
      refine mj_aload_n hJ dX7_leastBestUse_39 rfl ?_
      refine mj_iload_n hJ dX7_leastBestUse_40 rfl ?_
      refine mj_iload hJ dX7_leastBestUse_41 rfl ?_
      refine mj_iload_n hJ dX7_leastBestUse_43 rfl ?_
      refine mj_iload hJ dX7_leastBestUse_44 rfl ?_
      first | refine ms_isub hJ dX7_leastBestUse_46 (by omega) ?_ | refine mj_isub hJ dX7_leastBestUse_46 ?_
      refine mk_Vp3 hJ dX7_leastBestUse_47 cw_X7_54 rfl rfl rfl rfl (Nat.le_of_ble_eq_true rfl) (by first | decide | omega) (c_X2_made hw hl v (k + 1) (come - (k + 1)) v0 v1 (by omega) (by omega) (by omega) (by omega)) ?_
      refine mj_aload_n hJ dX7_leastBestUse_50 rfl ?_
      refine mk_getR hJ dX7_leastBestUse_51 fw_X7_32 rfl (by decide) rfl rfl ?_
      refine mj_iload_n hJ dX7_leastBestUse_54 rfl ?_
      refine mj_iconst hJ dX7_leastBestUse_55 (by decide) ?_
      first | refine ms_iadd hJ dX7_leastBestUse_56 (by omega) ?_ | refine mj_iadd hJ dX7_leastBestUse_56 ?_
      refine mk_aald hJ dX7_leastBestUse_57 rfl (Or.inl rfl) (by omega) (by omega) (gr_50 (by omega) (by omega)).1 ?_
      refine mj_iload_n hJ dX7_leastBestUse_58 rfl ?_
      refine mj_iload hJ dX7_leastBestUse_59 rfl ?_
      first | refine ms_isub hJ dX7_leastBestUse_61 (by omega) ?_ | refine mj_isub hJ dX7_leastBestUse_61 ?_
      refine mk_iald hJ dX7_leastBestUse_62 (gr_50 (b := true) (by omega) (by omega)).2 (by omega) (by omega) ?_
      rw [g1.1]
      first | refine ms_iadd hJ dX7_leastBestUse_63 (by omega) ?_ | refine mj_iadd hJ dX7_leastBestUse_63 ?_
      rw [← e]
      refine ms_istore (ls' := [_, _, _, _, _, _, _, _]) hJ dX7_leastBestUse_64 (by decide) rfl rfl ?_
      refine mj_iload hJ dX7_leastBestUse_66 rfl ?_
      refine mj_iload hJ dX7_leastBestUse_68 rfl ?_
      have hs1 : (scan h k).1 = h u' := by rw [eu]
      refine mj_icmp_le (tgt := 81) hJ dX7_leastBestUse_70 (by decide) (fun hx => ?_) (fun hx => ?_)
      · rw [if_neg (by omega)] at es
        refine ms_iinc (ls' := [_, _, _, _, _, _, _, _]) hJ dX7_leastBestUse_81 rfl (by decide) rfl (wr_id (by omega)) rfl ?_
        refine mj_goto (tgt := 26) hJ dX7_leastBestUse_84 (by decide) ?_
        refine mj_drop (ls' := [_, _, _, _, _, _, _, vu]) hJ ⟨Or.inl rfl, Or.inl rfl, Or.inl rfl, Or.inl rfl, Or.inl rfl, Or.inl rfl, Or.inl rfl, Or.inr rfl, trivial⟩ ?_
        rw [es] at ih
        exact ih
      · rw [if_pos (by omega)] at es
        refine mj_iload hJ dX7_leastBestUse_73 rfl ?_
        refine ms_istore (ls' := [_, _, _, _, _, _, _, _]) hJ dX7_leastBestUse_75 (by decide) rfl rfl ?_
        refine mj_iload hJ dX7_leastBestUse_77 rfl ?_
        refine ms_istore (ls' := [_, _, _, _, _, _, _, _]) hJ dX7_leastBestUse_79 (by decide) rfl rfl ?_
        refine ms_iinc (ls' := [_, _, _, _, _, _, _, _]) hJ dX7_leastBestUse_81 rfl (by decide) rfl (wr_id (by omega)) rfl ?_
        refine mj_goto (tgt := 26) hJ dX7_leastBestUse_84 (by decide) ?_
        refine mj_drop (ls' := [_, _, _, _, _, _, _, vu]) hJ ⟨Or.inl rfl, Or.inl rfl, Or.inl rfl, Or.inl rfl, Or.inl rfl, Or.inl rfl, Or.inl rfl, Or.inr rfl, trivial⟩ ?_
        rw [es] at ih
        exact ih
  have g0 := hg come c0 (Int.le_refl _)
  have e0 := he 0
  rw [Int.sub_zero] at e0
  have hb0 := hb 0 (by omega) (by omega)
  have m0 := mde_bd hw v0 (by omega) (u := 0) (p := come) (by omega) (by omega) (by omega)
  refine mj_iconst hJ dX7_leastBestUse_0 (by decide) ?_
  refine ms_istore (ls' := [_, _, _, _, _, _, _, _]) hJ dX7_leastBestUse_1 (by decide) rfl rfl ?_
  refine mj_aload_n hJ dX7_leastBestUse_3 rfl ?_
  refine mj_iload_n hJ dX7_leastBestUse_4 rfl ?_
  refine mj_iconst hJ dX7_leastBestUse_5 (by decide) ?_
  refine mj_iload_n hJ dX7_leastBestUse_6 rfl ?_
  refine mk_Vp3 hJ dX7_leastBestUse_7 cw_X7_54 rfl rfl rfl rfl (Nat.le_of_ble_eq_true rfl) (by first | decide | omega) (c_X2_made hw hl v 0 come v0 v1 (by omega) (by omega) (by omega) (by omega)) ?_
  refine mj_aload_n hJ dX7_leastBestUse_10 rfl ?_
  refine mk_getR hJ dX7_leastBestUse_11 fw_X7_32 rfl (by decide) rfl rfl ?_
  refine mj_iload_n hJ dX7_leastBestUse_14 rfl ?_
  refine mj_iconst hJ dX7_leastBestUse_15 (by decide) ?_
  first | refine ms_iadd hJ dX7_leastBestUse_16 (by omega) ?_ | refine mj_iadd hJ dX7_leastBestUse_16 ?_
  refine mk_aald hJ dX7_leastBestUse_17 rfl (Or.inl rfl) (by omega) (by omega) (gr_50 (by omega) (by omega)).1 ?_
  refine mj_iload_n hJ dX7_leastBestUse_18 rfl ?_
  refine mk_iald hJ dX7_leastBestUse_19 (gr_50 (b := true) (by omega) (by omega)).2 (by omega) (by omega) ?_
  rw [g0.1]
  first | refine ms_iadd hJ dX7_leastBestUse_20 (by omega) ?_ | refine mj_iadd hJ dX7_leastBestUse_20 ?_
  rw [← e0]
  refine ms_istore (ls' := [_, _, _, _, _, _, _, _]) hJ dX7_leastBestUse_21 (by decide) rfl rfl ?_
  refine mj_iconst hJ dX7_leastBestUse_23 (by decide) ?_
  refine ms_istore (ls' := [_, _, _, _, _, _, _, _]) hJ dX7_leastBestUse_24 (by decide) rfl rfl ?_
  exact loop (cap come) 0 (by omega)
theorem c_X7_mostMade (hw : WN f) (hl : LN I f) (a l : Int) (a0 : 0 ≤ a) (h1 : a ≤ l + 1) (l1 : l < f 0) (hq : ∀ v, a ≤ v → v ≤ l → 0 ≤ I 44 v) (hs : sg (I 44) a l ≤ 148) :
    MtI G yX7_mostMade cX7_mostMade 9 (some .int) 3 [vr 43, vr 1, vi a, vi l] I b (fun z I' b' => z = gQ f (I 44) l a 0 ∧ b' = b ∧ (∀ c, (c < 51 ∨ 57 < c) → I' c = I c) ∧ mQ f (I 44) a l I' a) := by
  refine mt_enterI (own := RX7) (ls0 := [vr 43, vr 1, vi a, vi l, vu, vu, vu, vu, vu]) rfl (by decide +kernel) (Nat.le_of_ble_eq_true rfl) rfl rfl (fun J hJ hR => ?_)
  have hn := hw.nv
  have hsg : ∀ v, a - 1 ≤ v → v ≤ l → 0 ≤ sg (I 44) a v ∧ sg (I 44) a v ≤ 148 := fun v x y => by
    have := sg_le hq x y
    omega
  have hq1 : ∀ v, a ≤ v → v ≤ l → sg (I 44) a v = sg (I 44) a (v - 1) + I 44 v := fun v x y => by
    have e := sg_succ (q := I 44) (a := a) (v := v - 1) (by omega)
    rw [show v - 1 + 1 = v by omega] at e
    exact e
  have hlen : ∀ w : Int, a ≤ w → w ≤ l + 1 → (if w ≤ l then sg (I 44) a (w - 1) else 148) ≤ 148 := fun w x y => by
    by_cases e : w ≤ l
    · rw [if_pos e]; exact (hsg (w - 1) (by omega) (by omega)).2
    · rw [if_neg e]; omega
  -- the row of village v
  have L3 : ∀ v : Int, a ≤ v → v ≤ l →
      (∀ I2 : Ints, (∀ c, (c < 51 ∨ 57 < c) → I2 c = I c) → mQ f (I 44) a l I2 v → J 141 [vr 43, vr 1, vi a, vi l, vi (sg (I 44) a (v - 1)), vi v, vu, vu, vu] [] (mk I2 b)) →
      ∀ (m : Nat) (p : Int) (I1 : Ints), 0 ≤ p → p + m = sg (I 44) a (v - 1) + 1 → (∀ c, (c < 51 ∨ 57 < c) → I1 c = I c) → mQ f (I 44) a l I1 (v + 1) → (∀ p', 0 ≤ p' → p' < p → I1 (51 + v.toNat) p' = gQ f (I 44) l v p') →
      J 66 [vr 43, vr 1, vi a, vi l, vi (sg (I 44) a (v - 1)), vi v, vi p, vu, vu] [] (mk I1 b) := by
    intro v va vl kk m
    have s1 := hsg (v - 1) (by omega) (by omega)
    have s2 := hsg v (by omega) vl
    have es := hq1 v va vl
    have qv := hq v va vl
    induction m with
    | zero =>
      intro p I1 p0 pm hf hT hB
      refine mj_iload hJ dX7_mostMade_66 rfl ?_
      refine mj_iload hJ dX7_mostMade_68 rfl ?_
      refine mj_icmp_gt (tgt := 141) hJ dX7_mostMade_70 (by decide) (fun _ => ?_) (fun hno => absurd (by omega) hno)
      refine mj_drop (ls' := [_, _, _, _, _, _, vu, vu, vu]) hJ ⟨Or.inl rfl, Or.inl rfl, Or.inl rfl, Or.inl rfl, Or.inl rfl, Or.inl rfl, Or.inr rfl, Or.inr rfl, Or.inr rfl, trivial⟩ ?_
      refine kk I1 hf (fun w w0 w1 p' q0 q1 => ?_)
      by_cases e : w = v
      · subst e
        rw [if_pos vl] at q1
        exact hB p' q0 (by omega)
      · exact hT w (by omega) w1 p' q0 q1
    | succ m ih =>
      intro p I1 p0 pm hf hT hB
      have e44 : I1 44 = I 44 := hf 44 (by decide)
      have hl1 : LN I1 f := LN.same hw hl (fun c c1 c2 => hf c (by omega))
      have hg : ∀ p', 0 ≤ p' → p' ≤ p + I 44 v → I1 (51 + (v + 1).toNat) p' = gQ f (I 44) l (v + 1) p' ∧ (-20000 ≤ gQ f (I 44) l (v + 1) p' ∧ gQ f (I 44) l (v + 1) p' ≤ 20000) := fun p' q0 q1 => by
        have bd := gQ_bd (q := I 44) (a := a) (l := l) (w := v + 1) (p := p') hw a0 (by omega) hq hs (by omega) q0 (fun _ => by rw [show v + 1 - 1 = v by omega]; omega)
        refine ⟨hT (v + 1) (by omega) (by omega) p' q0 ?_, by omega⟩
        by_cases e : v + 1 ≤ l
        · rw [if_pos e, show v + 1 - 1 = v by omega]; omega
        · rw [if_neg e]; omega
      have eh : (fun u : Int => mde f v u (p + I 44 v - u) + gQ f (I 44) l (v + 1) (p + I 44 v - u)) = hv f (I 44) l v (p + I 44 v) := funext fun u => hv_gQ.symm
      have hu := c_X7_leastBestUse (G := G) (b := b) hw hl1 v (p + I 44 v) (gQ f (I 44) l (v + 1)) (by omega) (by omega) (by omega) (by omega) hg
      rw [eh] at hu
      have hcap := cap_le (c := p + I 44 v) (by omega)
      obtain ⟨u, u0, u1, eu⟩ := scan_mem (hv f (I 44) l v (p + I 44 v)) (cap (p + I 44 v))
      have ebb := bb_hv (f := f) (q := I 44) (l := l) (v := v) (c := p + I 44 v) vl
      rw [eu] at hu ebb
      have eg := (hg (p + I 44 v - u) (by omega) (by omega))
      have ev : hv f (I 44) l v (p + I 44 v) u = mde f v u (p + I 44 v - u) + gQ f (I 44) l (v + 1) (p + I 44 v - u) := hv_gQ
      have m1 := mde_bd hw (v := v) (by omega) (by omega) (u := u) (p := p + I 44 v - u) (by omega) (by omega) (by omega)
      have egv : gQ f (I 44) l v p = hv f (I 44) l v (p + I 44 v) u := by
        unfold gQ
        rw [if_pos vl, ebb]
      have ih := ih (p + 1)
      refine mj_iload hJ dX7_mostMade_66 rfl ?_
      refine mj_iload hJ dX7_mostMade_68 rfl ?_
      refine mj_icmp_gt (tgt := 141) hJ dX7_mostMade_70 (by decide) (fun hyes => absurd hyes (by omega)) (fun _ => ?_)
      refine mj_iload hJ dX7_mostMade_73 rfl ?_
      refine mj_aload_n hJ dX7_mostMade_75 rfl ?_
      refine mk_getR hJ dX7_mostMade_76 fw_X7_9 rfl (by decide) rfl rfl ?_
      refine mj_iload hJ dX7_mostMade_79 rfl ?_
      refine mk_iald hJ dX7_mostMade_81 rfl (by omega) (by omega) ?_
      rw [e44]
      first | refine ms_iadd hJ dX7_mostMade_82 (by omega) ?_ | refine mj_iadd hJ dX7_mostMade_82 ?_
      refine ms_istore (ls' := [_, _, _, _, _, _, _, _, _]) hJ dX7_mostMade_83 (by decide) rfl rfl ?_
      refine mj_aload_n hJ dX7_mostMade_85 rfl ?_
      refine mj_aload_n hJ dX7_mostMade_86 rfl ?_
      refine mj_iload hJ dX7_mostMade_87 rfl ?_
      refine mj_iload hJ dX7_mostMade_89 rfl ?_
      refine mk_Vp3 hJ dX7_mostMade_91 cw_X7_50 rfl rfl rfl rfl (Nat.le_of_ble_eq_true rfl) (by first | decide | omega) hu ?_
      refine ms_istore (ls' := [_, _, _, _, _, _, _, _, _]) hJ dX7_mostMade_94 (by decide) rfl rfl ?_
      refine mj_aload_n hJ dX7_mostMade_96 rfl ?_
      refine mk_getR hJ dX7_mostMade_97 fw_X7_32 rfl (by decide) rfl rfl ?_
      refine mj_iload hJ dX7_mostMade_100 rfl ?_
      refine mk_aald hJ dX7_mostMade_102 rfl (Or.inl rfl) (by omega) (by omega) (gr_50 (by omega) (by omega)).1 ?_
      refine mj_iload hJ dX7_mostMade_103 rfl ?_
      refine mj_aload_n hJ dX7_mostMade_105 rfl ?_
      refine mj_iload hJ dX7_mostMade_106 rfl ?_
      refine mj_iload hJ dX7_mostMade_108 rfl ?_
      refine mj_iload hJ dX7_mostMade_110 rfl ?_
      refine mj_iload hJ dX7_mostMade_112 rfl ?_
      first | refine ms_isub hJ dX7_mostMade_114 (by omega) ?_ | refine mj_isub hJ dX7_mostMade_114 ?_
      refine mk_Vp3 hJ dX7_mostMade_115 cw_X7_54 rfl rfl rfl rfl (Nat.le_of_ble_eq_true rfl) (by first | decide | omega) (c_X2_made hw hl1 v u (p + I 44 v - u) (by omega) (by omega) (by omega) (by omega) (by omega) (by omega)) ?_
      refine mj_aload_n hJ dX7_mostMade_118 rfl ?_
      refine mk_getR hJ dX7_mostMade_119 fw_X7_32 rfl (by decide) rfl rfl ?_
      refine mj_iload hJ dX7_mostMade_122 rfl ?_
      refine mj_iconst hJ dX7_mostMade_124 (by decide) ?_
      first | refine ms_iadd hJ dX7_mostMade_125 (by omega) ?_ | refine mj_iadd hJ dX7_mostMade_125 ?_
      refine mk_aald hJ dX7_mostMade_126 rfl (Or.inl rfl) (by omega) (by omega) (gr_50 (by omega) (by omega)).1 ?_
      refine mj_iload hJ dX7_mostMade_127 rfl ?_
      refine mj_iload hJ dX7_mostMade_129 rfl ?_
      first | refine ms_isub hJ dX7_mostMade_131 (by omega) ?_ | refine mj_isub hJ dX7_mostMade_131 ?_
      refine mk_iald hJ dX7_mostMade_132 (gr_50 (b := true) (by omega) (by omega)).2 (by omega) (by omega) ?_
      rw [eg.1]
      first | refine ms_iadd hJ dX7_mostMade_133 (by omega) ?_ | refine mj_iadd hJ dX7_mostMade_133 ?_
      rw [← ev, ← egv]
      refine mk_iast hJ dX7_mostMade_134 (gr_50 (b := true) (by omega) (by omega)).2 (by omega) (by omega) ?_
      refine ms_iinc (ls' := [_, _, _, _, _, _, _, _, _]) hJ dX7_mostMade_135 rfl (by decide) rfl (wr_id (by omega)) rfl ?_
      refine mj_goto (tgt := 66) hJ dX7_mostMade_138 (by decide) ?_
      refine mj_drop (ls' := [_, _, _, _, _, _, _, vu, vu]) hJ ⟨Or.inl rfl, Or.inl rfl, Or.inl rfl, Or.inl rfl, Or.inl rfl, Or.inl rfl, Or.inl rfl, Or.inr rfl, Or.inr rfl, trivial⟩ ?_
      refine ih _ (by omega) (by omega) (fun c hc => ?_) (fun w w0 w1 p' q0 q1 => ?_) (fun p' q0 q1 => ?_)
      · rw [upI_ne (by omega)]; exact hf c hc
      · rw [upI_ne (by omega)]; exact hT w w0 w1 p' q0 q1
      · rw [upI_at]
        by_cases e : p' = p
        · subst e
          rw [if_pos rfl]
        · rw [if_neg e]; exact hB p' q0 (by omega)
  -- village by village, from the last one up
  have L2 : ∀ (m : Nat) (v : Int) (I1 : Ints), v = a - 1 + m → v ≤ l → (∀ c, (c < 51 ∨ 57 < c) → I1 c = I c) → mQ f (I 44) a l I1 (v + 1) → J 45 [vr 43, vr 1, vi a, vi l, vi (sg (I 44) a v), vi v, vu, vu, vu] [] (mk I1 b) := by
    intro m
    induction m with
    | zero =>
      intro v I1 hv0 hv1 hf hT
      have ev : v + 1 = a := by omega
      rw [ev] at hT
      have e0 := hT a (by omega) (by omega) 0 (by omega) (by
        by_cases e : a ≤ l
        · rw [if_pos e]; exact (hsg (a - 1) (by omega) (by omega)).1
        · rw [if_neg e]; omega)
      refine mj_iload hJ dX7_mostMade_45 rfl ?_
      refine mj_iload_n hJ dX7_mostMade_47 rfl ?_
      refine mj_icmp_lt (tgt := 147) hJ dX7_mostMade_48 (by decide) (fun _ => ?_) (fun hno => absurd (by omega) hno)
      refine mj_aload_n hJ dX7_mostMade_147 rfl ?_
      refine mk_getR hJ dX7_mostMade_148 fw_X7_32 rfl (by decide) rfl rfl ?_
      refine mj_iload_n hJ dX7_mostMade_151 rfl ?_
      refine mk_aald hJ dX7_mostMade_152 rfl (Or.inl rfl) (by omega) (by omega) (gr_50 (by omega) (by omega)).1 ?_
      refine mj_iconst hJ dX7_mostMade_153 (by decide) ?_
      refine mk_iald hJ dX7_mostMade_154 (gr_50 (b := true) (by omega) (by omega)).2 (by omega) (by omega) ?_
      rw [e0]
      exact hR _ _ _ _ _ dX7_mostMade_155 nar_i ⟨rfl, rfl, hf, hT⟩
    | succ m ih =>
      intro v I1 hv0 hv1 hf hT
      have e44 : I1 44 = I 44 := hf 44 (by decide)
      have s2 := hsg v (by omega) hv1
      have s1 := hsg (v - 1) (by omega) (by omega)
      have es := hq1 v (by omega) hv1
      refine mj_iload hJ dX7_mostMade_45 rfl ?_
      refine mj_iload_n hJ dX7_mostMade_47 rfl ?_
      refine mj_icmp_lt (tgt := 147) hJ dX7_mostMade_48 (by decide) (fun hyes => absurd hyes (by omega)) (fun _ => ?_)
      refine mj_iload hJ dX7_mostMade_51 rfl ?_
      refine mj_aload_n hJ dX7_mostMade_53 rfl ?_
      refine mk_getR hJ dX7_mostMade_54 fw_X7_9 rfl (by decide) rfl rfl ?_
      refine mj_iload hJ dX7_mostMade_57 rfl ?_
      refine mk_iald hJ dX7_mostMade_59 rfl (by omega) (by omega) ?_
      rw [e44]
      first | refine ms_isub hJ dX7_mostMade_60 (by omega) ?_ | refine mj_isub hJ dX7_mostMade_60 ?_
      rw [show sg (I 44) a v - I 44 v = sg (I 44) a (v - 1) by omega]
      refine ms_istore (ls' := [_, _, _, _, _, _, _, _, _]) hJ dX7_mostMade_61 (by decide) rfl rfl ?_
      refine mj_iconst hJ dX7_mostMade_63 (by decide) ?_
      refine ms_istore (ls' := [_, _, _, _, _, _, _, _, _]) hJ dX7_mostMade_64 (by decide) rfl rfl ?_
      refine L3 v (by omega) hv1 (fun I2 hf2 hT2 => ?_) (sg (I 44) a (v - 1) + 1).toNat 0 I1 (by omega) (by omega) hf hT (fun p' q0 q1 => by omega)
      refine ms_iinc (ls' := [_, _, _, _, _, _, _, _, _]) hJ dX7_mostMade_141 rfl (by decide) rfl (wr_id (by omega)) rfl ?_
      refine mj_goto (tgt := 45) hJ dX7_mostMade_144 (by decide) ?_
      rw [show v + -1 = v - 1 by omega]
      exact ih (v - 1) I2 (by omega) (by omega) hf2 (by rw [show v - 1 + 1 = v by omega]; exact hT2)
  -- the sum
  have L1 : ∀ (m : Nat) (v : Int), v + m = l + 1 → a ≤ v → J 6 [vr 43, vr 1, vi a, vi l, vi (sg (I 44) a (v - 1)), vi v, vu, vu, vu] [] (mk I b) := by
    intro m
    induction m with
    | zero =>
      intro v hv hva
      have ev : v = l + 1 := by omega
      subst ev
      rw [show l + 1 - 1 = l by omega]
      refine mj_iload hJ dX7_mostMade_6 rfl ?_
      refine mj_iload_n hJ dX7_mostMade_8 rfl ?_
      refine mj_icmp_gt (tgt := 30) hJ dX7_mostMade_9 (by decide) (fun _ => ?_) (fun hno => absurd (by omega) hno)
      refine mj_aload_n hJ dX7_mostMade_30 rfl ?_
      refine mk_getR hJ dX7_mostMade_31 fw_X7_32 rfl (by decide) rfl rfl ?_
      refine mj_iload_n hJ dX7_mostMade_34 rfl ?_
      refine mj_iconst hJ dX7_mostMade_35 (by decide) ?_
      first | refine ms_iadd hJ dX7_mostMade_36 (by omega) ?_ | refine mj_iadd hJ dX7_mostMade_36 ?_
      refine mk_aald hJ dX7_mostMade_37 rfl (Or.inl rfl) (by omega) (by omega) (gr_50 (by omega) (by omega)).1 ?_
      refine mj_iconst hJ dX7_mostMade_38 (by decide) ?_
      refine mk_Sv2 hJ dX7_mostMade_39 cw_X7_44 rfl (Nat.le_of_ble_eq_true rfl) (by first | decide | omega) (c_fill (51 + (l + 1).toNat) 149 0 (gr_50 (b := true) (by omega) (by omega)).2 (by decide)) (fun I1 b1 hq9 => ?_)
      obtain ⟨rfl, e1⟩ := hq9
      refine mj_iload_n hJ dX7_mostMade_42 rfl ?_
      refine ms_istore (ls' := [_, _, _, _, _, _, _, _, _]) hJ dX7_mostMade_43 (by decide) rfl rfl ?_
      refine L2 (l - (a - 1)).toNat l I1 (by omega) (Int.le_refl _) (fun c hc => ?_) (fun w w0 w1 p q0 q1 => ?_)
      · rw [e1, rowI_ne (by omega)]
      · have ew : w = l + 1 := by omega
        subst ew
        rw [if_neg (by omega)] at q1
        rw [e1, rowI_at, if_pos (by omega)]
        unfold gQ
        rw [if_neg (by omega)]
    | succ m ih =>
      intro v hv hva
      have s2 := hsg v (by omega) (by omega)
      have s1 := hsg (v - 1) (by omega) (by omega)
      have es := hq1 v hva (by omega)
      refine mj_iload hJ dX7_mostMade_6 rfl ?_
      refine mj_iload_n hJ dX7_mostMade_8 rfl ?_
      refine mj_icmp_gt (tgt := 30) hJ dX7_mostMade_9 (by decide) (fun hyes => absurd hyes (by omega)) (fun _ => ?_)
      refine mj_iload hJ dX7_mostMade_12 rfl ?_
      refine mj_aload_n hJ dX7_mostMade_14 rfl ?_
      refine mk_getR hJ dX7_mostMade_15 fw_X7_9 rfl (by decide) rfl rfl ?_
      refine mj_iload hJ dX7_mostMade_18 rfl ?_
      refine mk_iald hJ dX7_mostMade_20 rfl (by omega) (by omega) ?_
      first | refine ms_iadd hJ dX7_mostMade_21 (by omega) ?_ | refine mj_iadd hJ dX7_mostMade_21 ?_
      refine ms_istore (ls' := [_, _, _, _, _, _, _, _, _]) hJ dX7_mostMade_22 (by decide) rfl rfl ?_
      refine ms_iinc (ls' := [_, _, _, _, _, _, _, _, _]) hJ dX7_mostMade_24 rfl (by decide) rfl (wr_id (by omega)) rfl ?_
      refine mj_goto (tgt := 6) hJ dX7_mostMade_27 (by decide) ?_
      rw [← es]
      have ih := ih (v + 1) (by omega) (by omega)
      rw [show v + 1 - 1 = v by omega] at ih
      exact ih
  refine mj_iconst hJ dX7_mostMade_0 (by decide) ?_
  refine ms_istore (ls' := [_, _, _, _, _, _, _, _, _]) hJ dX7_mostMade_1 (by decide) rfl rfl ?_
  refine mj_iload_n hJ dX7_mostMade_3 rfl ?_
  refine ms_istore (ls' := [_, _, _, _, _, _, _, _, _]) hJ dX7_mostMade_4 (by decide) rfl rfl ?_
  have key := L1 (l + 1 - a).toNat a (by omega) (Int.le_refl _)
  rw [sg_pre] at key
  exact key
theorem c_X7_settle (hw : WN f) (hl : LN I f) (v u : Int) (v0 : 0 ≤ v) (v1 : v < f 0) (u0 : 0 ≤ u) (u1 : u ≤ 12) (u2 : u ≤ I 45 v) (c1 : I 45 v ≤ 200) :
    MtV G yX7_settle cX7_settle 4 2 [vr 43, vr 1, vi v, vi u] I b (fun I' b' => b' = b ∧ I' = upI (upI (upI I 47 v u) 48 v (I 45 v - u)) 49 v (mde f v u (I 45 v - u))) := by
  refine mt_enterV (own := RX7) (ls0 := [vr 43, vr 1, vi v, vi u]) rfl (by decide +kernel) (Nat.le_of_ble_eq_true rfl) rfl (fun J hJ hR => ?_)
  have hn := hw.nv
  have m1 := mde_bd hw v0 (by omega) (u := u) (p := I 45 v - u) (by omega) (by omega) (by omega)
  refine mj_aload_n hJ dX7_settle_0 rfl ?_
  refine mk_getR hJ dX7_settle_1 fw_X7_21 rfl (by decide) rfl rfl ?_
  refine mj_iload_n hJ dX7_settle_4 rfl ?_
  refine mj_iload_n hJ dX7_settle_5 rfl ?_
  refine mk_iast hJ dX7_settle_6 rfl (by omega) (by omega) ?_
  refine mj_aload_n hJ dX7_settle_7 rfl ?_
  refine mk_getR hJ dX7_settle_8 fw_X7_24 rfl (by decide) rfl rfl ?_
  refine mj_iload_n hJ dX7_settle_11 rfl ?_
  refine mj_aload_n hJ dX7_settle_12 rfl ?_
  refine mk_getR hJ dX7_settle_13 fw_X7_15 rfl (by decide) rfl rfl ?_
  refine mj_iload_n hJ dX7_settle_16 rfl ?_
  refine mk_iald hJ dX7_settle_17 rfl (by omega) (by omega) ?_
  rw [upI_ne (by decide)]
  refine mj_iload_n hJ dX7_settle_18 rfl ?_
  first | refine ms_isub hJ dX7_settle_19 (by omega) ?_ | refine mj_isub hJ dX7_settle_19 ?_
  refine mk_iast hJ dX7_settle_20 rfl (by omega) (by omega) ?_
  refine mj_aload_n hJ dX7_settle_21 rfl ?_
  refine mk_getR hJ dX7_settle_22 fw_X7_27 rfl (by decide) rfl rfl ?_
  refine mj_iload_n hJ dX7_settle_25 rfl ?_
  refine mj_aload_n hJ dX7_settle_26 rfl ?_
  refine mj_iload_n hJ dX7_settle_27 rfl ?_
  refine mj_iload_n hJ dX7_settle_28 rfl ?_
  refine mj_aload_n hJ dX7_settle_29 rfl ?_
  refine mk_getR hJ dX7_settle_30 fw_X7_24 rfl (by decide) rfl rfl ?_
  refine mj_iload_n hJ dX7_settle_33 rfl ?_
  refine mk_iald hJ dX7_settle_34 rfl (by omega) (by omega) ?_
  rw [upI_at, if_pos rfl]
  have hl1 : LN (upI (upI I 47 v u) 48 v (I 45 v - u)) f := LN.same hw hl (fun c c1 c2 => by rw [upI_ne (by omega), upI_ne (by omega)])
  refine mk_Vp3 hJ dX7_settle_35 cw_X7_54 rfl rfl rfl rfl (Nat.le_of_ble_eq_true rfl) (by first | decide | omega) (c_X2_made hw hl1 v u (I 45 v - u) v0 v1 u0 u1 (by omega) (by omega)) ?_
  refine mk_iast hJ dX7_settle_38 rfl (by omega) (by omega) ?_
  refine hR _ _ _ _ dX7_settle_39 ⟨rfl, rfl⟩
end C2
