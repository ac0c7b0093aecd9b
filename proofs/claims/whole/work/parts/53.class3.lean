section C3
variable {G : GE} {I : Ints} {b : Bool} {f : Int → Int}
theorem gQ_congr {f q q' : Int → Int} {l w p : Int} (h : ∀ i : Int, w ≤ i → i ≤ l → q i = q' i) : gQ f q l w p = gQ f q' l w p := by
  unfold gQ
  by_cases e : w ≤ l
  · rw [if_pos e, if_pos e, h w (Int.le_refl _) e, bb_congr (q := q) (q' := q') _ w _ (fun i x y => h i (by omega) (by omega))]
  · rw [if_neg e, if_neg e]
theorem mQ_congr {f q q' : Int → Int} {a l v : Int} {I1 : Ints} (h : ∀ i : Int, a ≤ i → i ≤ l → q i = q' i) (hv : a ≤ v) (hm : mQ f q a l I1 v) : mQ f q' a l I1 v := by
  intro w w0 w1 p p0 p1
  have e : (if w ≤ l then sg q a (w - 1) else 148) = (if w ≤ l then sg q' a (w - 1) else 148) := by
    by_cases c : w ≤ l
    · rw [if_pos c, if_pos c, sg_congr (fun i x y => h i x (by omega))]
    · rw [if_neg c, if_neg c]
  rw [← e] at p1
  rw [hm w w0 w1 p p0 p1]
  exact gQ_congr (fun i x y => h i (by omega) y)
theorem c_mostMadeQ (hw : WN f) (hl : LN I f) (a l : Int) (q : Int → Int) (h44 : ∀ v, a ≤ v → v ≤ l → I 44 v = q v) (a0 : 0 ≤ a) (h1 : a ≤ l + 1) (l1 : l < f 0) (hq : ∀ v, a ≤ v → v ≤ l → 0 ≤ q v) (hs : sg q a l ≤ 148) :
    MtI G yX7_mostMade cX7_mostMade 9 (some .int) 3 [vr 43, vr 1, vi a, vi l] I b (fun z I' b' => z = gQ f q l a 0 ∧ b' = b ∧ (∀ c, (c < 51 ∨ 57 < c) → I' c = I c) ∧ mQ f q a l I' a) := by
  have es : sg (I 44) a l = sg q a l := sg_congr (fun i x y => h44 i x y)
  refine mtI_mono (c_X7_mostMade hw hl a l a0 h1 l1 (fun v x y => by rw [h44 v x y]; exact hq v x y) (by rw [es]; exact hs)) (fun z I' b' k => ⟨?_, k.2.1, k.2.2.1, ?_⟩)
  · rw [k.1]
    exact gQ_congr (fun i x y => h44 i x y)
  · exact mQ_congr (fun i x y => h44 i x y) (Int.le_refl _) k.2.2.2
theorem bestv_gQ {f : Int → Int} {w : Int} (h : 0 ≤ f 0) : bestv f w = gQ f (infl f w) (f 0 - 1) 0 0 := by
  unfold bestv gQ
  by_cases e : f 0 = 0
  · rw [if_pos e, if_neg (by omega)]
  · rw [if_neg e, if_pos (by omega), Int.zero_add, Int.sub_zero]
theorem c_X7_followBest (hw : WN f) (hl : LN I f) (w : Int) (w0 : 0 ≤ w) (w1 : w ≤ 20) : MtV G yX7_followBest cX7_followBest 5 4 [vr 43, vr 1, vi w] I b (fun I' b' => b' = b ∧ (∀ c, (c < 44 ∨ 57 < c) → I' c = I c) ∧
    ∀ v : Int, 0 ≤ v → v < f 0 → I' 47 v = puse f (infl f w) (f 0 - 1) v.toNat ∧ I' 48 v = pab f (infl f w) (f 0 - 1) (v.toNat + 1) ∧ I' 49 v = mde f v (puse f (infl f w) (f 0 - 1) v.toNat) (pab f (infl f w) (f 0 - 1) (v.toNat + 1))) := by
  refine mt_enterV (own := RX7) (ls0 := [vr 43, vr 1, vi w, vu, vu]) rfl (by decide +kernel) (Nat.le_of_ble_eq_true rfl) rfl (fun J hJ hR => ?_)
  have hn := hw.nv
  obtain ⟨q, hq0⟩ : ∃ q, infl f w = q := ⟨_, rfl⟩
  obtain ⟨l, hl0⟩ : ∃ l, f 0 - 1 = l := ⟨_, rfl⟩
  rw [hq0, hl0] at hR
  have hq : ∀ v : Int, 0 ≤ v → v ≤ l → 0 ≤ q v := fun v x y => by rw [← hq0]; exact (infl_bd hw x (by omega) w0 w1).1
  have hs : sg q 0 l ≤ 148 := by
    have := sg_infl hw w0 w1 (a := 0) (l := l) (by omega) (by omega) (by omega)
    rw [hq0] at this
    omega
  have loop : ∀ (m v : Nat) (I3 : Ints), ((v + m : Nat) : Int) = f 0 → (∀ c, (c < 44 ∨ 57 < c) → I3 c = I c) → (∀ u, 0 ≤ u → u ≤ l → I3 44 u = q u) → mQ f q 0 l I3 0 →
      (∀ u : Int, 0 ≤ u → u < v → I3 47 u = puse f q l u.toNat ∧ I3 48 u = pab f q l (u.toNat + 1) ∧ I3 49 u = mde f u (puse f q l u.toNat) (pab f q l (u.toNat + 1))) →
      J 24 [vr 43, vr 1, vi w, vi (pab f q l v), vi v] [] (mk I3 b) := by
    intro m
    induction m with
    | zero =>
      intro v I3 hvm hf h44 hT hB
      have e0 : I3 1 0 = f 0 := (congrFun (hf 1 (by decide)) 0).trans hl.1.1
      refine mj_iload hJ dX7_followBest_24 rfl ?_
      refine mj_aload_n hJ dX7_followBest_26 rfl ?_
      refine mk_getI (j' := 0) hJ dX7_followBest_27 fw_X7_35 rfl (by decide) rfl rfl ?_
      rw [e0]
      refine mj_icmp_ge (tgt := 84) hJ dX7_followBest_30 (by decide) (fun _ => ?_) (fun hno => absurd (by omega) hno)
      refine hR _ _ _ _ dX7_followBest_84 ⟨rfl, hf, fun u x y => hB u x (by omega)⟩
    | succ m ih =>
      intro v I3 hvm hf h44 hT hB
      have e0 : I3 1 0 = f 0 := (congrFun (hf 1 (by decide)) 0).trans hl.1.1
      have hl3 : LN I3 f := LN.same hw hl (fun c c1 c2 => hf c (by omega))
      have pb := pab_bd (f := f) hq v (by omega)
      have ub := puse_bd (f := f) hq v (by omega)
      have qv := hq v (by omega) (by omega)
      have sb := sg_le (q := q) (a := 0) (l := l) hq (v := v) (by omega) (by omega)
      have es := sg_succ (q := q) (a := 0) (v := (v : Int) - 1) (by omega)
      rw [show (v : Int) - 1 + 1 = v by omega] at es
      obtain ⟨c, hc⟩ : ∃ c, pab f q l v + q v = c := ⟨_, rfl⟩
      obtain ⟨u, hu⟩ : ∃ u, puse f q l v = u := ⟨_, rfl⟩
      have eu : (bb f q (l - v).toNat v c).2 = u := by rw [← hu, ← hc]; rfl
      have ep : pab f q l (v + 1) = c - u := by rw [← hu, ← hc]; exact pab_succ f q l v
      rw [hu] at ub
      have hg : ∀ p, 0 ≤ p → p ≤ c → upI I3 45 v c (51 + ((v : Int) + 1).toNat) p = gQ f q l (v + 1) p ∧ (-20000 ≤ gQ f q l (v + 1) p ∧ gQ f q l (v + 1) p ≤ 20000) := fun p p0 p1 => by
        have bd := gQ_bd (q := q) (a := 0) (l := l) (w := v + 1) (p := p) hw (Int.le_refl _) (by omega) hq hs (by omega) p0 (fun _ => by rw [show (v : Int) + 1 - 1 = v by omega]; omega)
        refine ⟨?_, by omega⟩
        rw [upI_ne (by omega)]
        refine hT (v + 1) (by omega) (by omega) p p0 ?_
        by_cases e : (v : Int) + 1 ≤ l
        · rw [if_pos e, show (v : Int) + 1 - 1 = v by omega]; omega
        · rw [if_neg e]; omega
      have hl4 : LN (upI I3 45 v c) f := LN.same hw hl3 (fun c c1 c2 => upI_ne (by omega))
      have hlb := c_X7_leastBestUse (G := G) (b := b) hw hl4 v c (gQ f q l (v + 1)) (by omega) (by omega) (by omega) (by omega) hg
      have eh : (fun u : Int => mde f v u (c - u) + gQ f q l (v + 1) (c - u)) = hv f q l v c := funext fun u => hv_gQ.symm
      rw [eh, ← bb_hv (by omega), eu] at hlb
      have hse := c_X7_settle (G := G) (b := b) hw hl4 v u (by omega) (by omega) (by omega) (by omega) (by rw [upI_at, if_pos rfl]; omega) (by rw [upI_at, if_pos rfl]; omega)
      rw [upI_at, if_pos rfl] at hse
      refine mj_iload hJ dX7_followBest_24 rfl ?_
      refine mj_aload_n hJ dX7_followBest_26 rfl ?_
      refine mk_getI (j' := 0) hJ dX7_followBest_27 fw_X7_35 rfl (by decide) rfl rfl ?_
      rw [e0]
      refine mj_icmp_ge (tgt := 84) hJ dX7_followBest_30 (by decide) (fun hyes => absurd hyes (by omega)) (fun _ => ?_)
      refine mj_aload_n hJ dX7_followBest_33 rfl ?_
      refine mk_getR hJ dX7_followBest_34 fw_X7_15 rfl (by decide) rfl rfl ?_
      refine mj_iload hJ dX7_followBest_37 rfl ?_
      refine mj_iload_n hJ dX7_followBest_39 rfl ?_
      refine mj_aload_n hJ dX7_followBest_40 rfl ?_
      refine mk_getR hJ dX7_followBest_41 fw_X7_9 rfl (by decide) rfl rfl ?_
      refine mj_iload hJ dX7_followBest_44 rfl ?_
      refine mk_iald hJ dX7_followBest_46 rfl (by omega) (by omega) ?_
      rw [h44 v (by omega) (by omega)]
      first | refine ms_iadd hJ dX7_followBest_47 (by omega) ?_ | refine mj_iadd hJ dX7_followBest_47 ?_
      refine mk_iast hJ dX7_followBest_48 rfl (by omega) (by omega) ?_
      refine mj_aload_n hJ dX7_followBest_49 rfl ?_
      refine mj_aload_n hJ dX7_followBest_50 rfl ?_
      refine mj_iload hJ dX7_followBest_51 rfl ?_
      refine mj_aload_n hJ dX7_followBest_53 rfl ?_
      refine mj_aload_n hJ dX7_followBest_54 rfl ?_
      refine mj_iload hJ dX7_followBest_55 rfl ?_
      refine mj_aload_n hJ dX7_followBest_57 rfl ?_
      refine mk_getR hJ dX7_followBest_58 fw_X7_15 rfl (by decide) rfl rfl ?_
      refine mj_iload hJ dX7_followBest_61 rfl ?_
      refine mk_iald hJ dX7_followBest_63 rfl (by omega) (by omega) ?_
      rw [hc, upI_at, if_pos rfl]
      refine mk_Vp3 hJ dX7_followBest_64 cw_X7_50 rfl rfl rfl rfl (Nat.le_of_ble_eq_true rfl) (by first | decide | omega) (hlb) ?_
      refine mk_Vv3 hJ dX7_followBest_67 cw_X7_64 rfl rfl rfl rfl (Nat.le_of_ble_eq_true rfl) (by first | decide | omega) (hse) (fun I5 b5 hq9 => ?_)
      obtain ⟨rfl, e5⟩ := hq9
      have e48 : I5 48 v = c - u := by rw [e5, upI_ne (by decide), upI_at, if_pos rfl]
      refine mj_aload_n hJ dX7_followBest_70 rfl ?_
      refine mk_getR hJ dX7_followBest_71 fw_X7_24 rfl (by decide) rfl rfl ?_
      refine mj_iload hJ dX7_followBest_74 rfl ?_
      refine mk_iald hJ dX7_followBest_76 rfl (by omega) (by omega) ?_
      rw [e48]
      refine ms_istore_n (ls' := [_, _, _, _, _]) hJ dX7_followBest_77 (by decide) rfl rfl ?_
      refine ms_iinc (ls' := [_, _, _, _, _]) hJ dX7_followBest_78 rfl (by decide) rfl (wr_id (by omega)) rfl ?_
      refine mj_goto (tgt := 24) hJ dX7_followBest_81 (by decide) ?_
      rw [← ep, show (v : Int) + 1 = ((v + 1 : Nat) : Int) by omega]
      refine ih (v + 1) I5 (by omega) (fun x hx => ?_) (fun u' x y => ?_) (fun w' x y p p0 p1 => ?_) (fun u' x y => ?_)
      · rw [e5, upI_ne (by omega), upI_ne (by omega), upI_ne (by omega), upI_ne (by omega)]; exact hf x hx
      · rw [e5, upI_ne (by decide), upI_ne (by decide), upI_ne (by decide), upI_ne (by decide)]; exact h44 u' x y
      · rw [e5, upI_ne (by omega), upI_ne (by omega), upI_ne (by omega), upI_ne (by omega)]; exact hT w' x y p p0 p1
      · have e47 : I5 47 u' = if u' = v then u else I3 47 u' := by rw [e5, upI_ne (by decide), upI_ne (by decide), upI_at, upI_ne (by decide)]
        have e48' : I5 48 u' = if u' = v then c - u else I3 48 u' := by rw [e5, upI_ne (by decide), upI_at, upI_ne (by decide), upI_ne (by decide)]
        have e49 : I5 49 u' = if u' = v then mde f v u (c - u) else I3 49 u' := by rw [e5, upI_at, upI_ne (by decide), upI_ne (by decide), upI_ne (by decide)]
        rw [e47, e48', e49]
        by_cases e : u' = v
        · subst e
          rw [if_pos rfl, if_pos rfl, if_pos rfl, Int.toNat_natCast, hu, ep]
          exact ⟨rfl, rfl, rfl⟩
        · rw [if_neg e, if_neg e, if_neg e]
          exact hB u' x (by omega)
  refine mj_aload_n hJ dX7_followBest_0 rfl ?_
  refine mj_aload_n hJ dX7_followBest_1 rfl ?_
  refine mj_iload_n hJ dX7_followBest_2 rfl ?_
  refine mk_Vv2 hJ dX7_followBest_3 cw_X7_58 rfl rfl rfl rfl (Nat.le_of_ble_eq_true rfl) (by first | decide | omega) (c_X7_fill hw hl w w0 w1) (fun I1 b1 hq9 => ?_)
  obtain ⟨rfl, hf1, h44⟩ := hq9
  rw [hq0] at h44
  have hl1 : LN I1 f := LN.same hw hl (fun c c1 c2 => hf1 c (by omega))
  refine mj_aload_n hJ dX7_followBest_6 rfl ?_
  refine mj_aload_n hJ dX7_followBest_7 rfl ?_
  refine mj_iconst hJ dX7_followBest_8 (by decide) ?_
  refine mj_aload_n hJ dX7_followBest_9 rfl ?_
  refine mk_getI (j' := 0) hJ dX7_followBest_10 fw_X7_35 rfl (by decide) rfl rfl ?_
  rw [hl1.1.1]
  refine mj_iconst hJ dX7_followBest_13 (by decide) ?_
  first | refine ms_isub hJ dX7_followBest_14 (by omega) ?_ | refine mj_isub hJ dX7_followBest_14 ?_
  rw [hl0]
  refine mk_Vi3 hJ dX7_followBest_15 cw_X7_61 rfl rfl rfl rfl (Nat.le_of_ble_eq_true rfl) (by first | decide | omega) (c_mostMadeQ hw hl1 0 l q (fun v x y => h44 v x (by omega)) (Int.le_refl _) (by omega) (by omega) hq hs) (fun z I2 b2 hq9 => ?_)
  obtain ⟨rfl, rfl, hf2, hT⟩ := hq9
  refine mj_popi hJ dX7_followBest_18 ?_
  refine mj_iconst hJ dX7_followBest_19 (by decide) ?_
  refine ms_istore_n (ls' := [_, _, _, _, _]) hJ dX7_followBest_20 (by decide) rfl rfl ?_
  refine mj_iconst hJ dX7_followBest_21 (by decide) ?_
  refine ms_istore (ls' := [_, _, _, _, _]) hJ dX7_followBest_22 (by decide) rfl rfl ?_
  exact loop (f 0).toNat 0 I2 (by omega) (fun c hc => (hf2 c (by omega)).trans (hf1 c (by omega))) (fun u x y => by rw [hf2 44 (by decide)]; exact h44 u x (by omega)) hT (fun u x y => by omega)
/-! the treaty -/
theorem c_valueOf (x w c fl : Int) : MtP G yX5_valueOf cX5_valueOf 4 (some .int) 0 [vi x, vi w, vi c, vi fl] I b (vlx x w c fl) := by
  refine mt_enterI (own := RX5) (ls0 := [vi x, vi w, vi c, vi fl]) rfl (by decide +kernel) (Nat.le_of_ble_eq_true rfl) rfl rfl (fun J hJ hR => ?_)
  unfold vlx at hR
  refine mj_iload_n hJ dX5_valueOf_0 rfl ?_
  by_cases h0 : x = 1000
  · subst h0
    refine mj_tabIn (off := 27) (tgt := 28) hJ dX5_valueOf_1 (by decide) (by decide) rfl (by decide) ?_
    refine mj_iload_n hJ dX5_valueOf_28 rfl ?_
    exact hR _ _ _ _ _ dX5_valueOf_29 nar_i ⟨rfl, rfl, rfl⟩
  · rw [if_neg h0] at hR
    by_cases h1 : x = 1001
    · subst h1
      refine mj_tabIn (off := 29) (tgt := 30) hJ dX5_valueOf_1 (by decide) (by decide) rfl (by decide) ?_
      refine mj_iload_n hJ dX5_valueOf_30 rfl ?_
      exact hR _ _ _ _ _ dX5_valueOf_31 nar_i ⟨rfl, rfl, rfl⟩
    · rw [if_neg h1] at hR
      by_cases h2 : x = 1002
      · subst h2
        refine mj_tabIn (off := 31) (tgt := 32) hJ dX5_valueOf_1 (by decide) (by decide) rfl (by decide) ?_
        refine mj_iload_n hJ dX5_valueOf_32 rfl ?_
        exact hR _ _ _ _ _ dX5_valueOf_33 nar_i ⟨rfl, rfl, rfl⟩
      · rw [if_neg h2] at hR
        refine mj_tabOut (tgt := 34) hJ dX5_valueOf_1 (by omega) (by decide) ?_
        refine mj_iload_n hJ dX5_valueOf_34 rfl ?_
        exact hR _ _ _ _ _ dX5_valueOf_35 nar_i ⟨rfl, rfl, rfl⟩
theorem c_compares (l s r w c fl : Int) (s0 : 0 ≤ s) (s1 : s ≤ 2) (l0 : 0 ≤ l) (l1 : l ≤ 1002) (r0 : 0 ≤ r) (r1 : r ≤ 1002) : MtP G yX5_compares cX5_compares 7 (some .boolean) 1 [vi (enc (l, s, r)), vi w, vi c, vi fl] I b (if cmpv w c fl (l, s, r) = true then 1 else 0) := by
  refine mt_enterI (own := RX5) (ls0 := [vi (enc (l, s, r)), vi w, vi c, vi fl, vu, vu, vu]) rfl (by decide +kernel) (Nat.le_of_ble_eq_true rfl) rfl rfl (fun J hJ hR => ?_)
  have ep := enc_parts s0 s1 l0 l1 r0 r1
  obtain ⟨x, hx⟩ : ∃ x, enc (l, s, r) = x := ⟨_, rfl⟩
  rw [hx] at ep ⊢
  unfold cmpv at hR
  refine mj_iload_n hJ dX5_compares_0 rfl ?_
  refine mj_bipush hJ dX5_compares_1 (by decide) ?_
  refine mj_ishr hJ dX5_compares_3 ?_
  rw [b_shr20 ep.1.1 (by omega), ep.2.1]
  refine ms_istore (ls' := [_, _, _, _, _, _, _]) hJ dX5_compares_4 (by decide) rfl rfl ?_
  refine mj_iload_n hJ dX5_compares_6 rfl ?_
  refine mj_bipush hJ dX5_compares_7 (by decide) ?_
  refine mj_ishr hJ dX5_compares_9 ?_
  rw [b_shr10 ep.1.1 (by omega)]
  refine mj_sipush hJ dX5_compares_10 (by decide) ?_
  refine mj_iand hJ dX5_compares_13 ?_
  rw [b_and1023 (by omega) (by omega), ep.2.2.1]
  refine mj_iload_n hJ dX5_compares_14 rfl ?_
  refine mj_iload_n hJ dX5_compares_15 rfl ?_
  refine mj_iload_n hJ dX5_compares_16 rfl ?_
  refine mk_Sp4 hJ dX5_compares_17 cw_X5_37 rfl (Nat.le_of_ble_eq_true rfl) (by first | decide | omega) (c_valueOf l w c fl) ?_
  refine ms_istore (ls' := [_, _, _, _, _, _, _]) hJ dX5_compares_20 (by decide) rfl rfl ?_
  refine mj_iload_n hJ dX5_compares_22 rfl ?_
  refine mj_sipush hJ dX5_compares_23 (by decide) ?_
  refine mj_iand hJ dX5_compares_26 ?_
  rw [b_and1023 ep.1.1 (by omega), ep.2.2.2]
  refine mj_iload_n hJ dX5_compares_27 rfl ?_
  refine mj_iload_n hJ dX5_compares_28 rfl ?_
  refine mj_iload_n hJ dX5_compares_29 rfl ?_
  refine mk_Sp4 hJ dX5_compares_30 cw_X5_37 rfl (Nat.le_of_ble_eq_true rfl) (by first | decide | omega) (c_valueOf r w c fl) ?_
  refine ms_istore (ls' := [_, _, _, _, _, _, _]) hJ dX5_compares_33 (by decide) rfl rfl ?_
  refine mj_iload hJ dX5_compares_35 rfl ?_
  refine mj_if_ne (tgt := 53) hJ dX5_compares_37 (by decide) (fun hs0 => ?_) (fun hs0 => ?_)
  · rw [if_neg (show ¬(l, s, r).2.1 = 0 from hs0)] at hR
    refine mj_iload hJ dX5_compares_53 rfl ?_
    refine mj_iconst hJ dX5_compares_55 (by decide) ?_
    refine mj_icmp_ne (tgt := 74) hJ dX5_compares_56 (by decide) (fun hs1 => ?_) (fun hs1 => ?_)
    · rw [if_neg (show ¬(l, s, r).2.1 = 1 from hs1)] at hR
      refine mj_iload hJ dX5_compares_74 rfl ?_
      refine mj_iload hJ dX5_compares_76 rfl ?_
      refine mj_icmp_le (tgt := 85) hJ dX5_compares_78 (by decide) (fun h => ?_) (fun h => ?_)
      · rw [if_neg (fun q => by have : vlx r w c fl < vlx l w c fl := of_decide_eq_true q; omega)] at hR
        refine mj_iconst hJ dX5_compares_85 (by decide) ?_
        exact hR _ _ _ _ _ dX5_compares_86 (nar_z (by first | exact Or.inl rfl | exact Or.inr rfl | assumption | omega)) ⟨rfl, rfl, rfl⟩
      · rw [if_pos (decide_eq_true (show vlx r w c fl < vlx l w c fl by omega))] at hR
        refine mj_iconst hJ dX5_compares_81 (by decide) ?_
        refine mj_goto (tgt := 86) hJ dX5_compares_82 (by decide) ?_
        exact hR _ _ _ _ _ dX5_compares_86 (nar_z (by first | exact Or.inl rfl | exact Or.inr rfl | assumption | omega)) ⟨rfl, rfl, rfl⟩
    · rw [if_pos (show (l, s, r).2.1 = 1 from hs1)] at hR
      refine mj_iload hJ dX5_compares_59 rfl ?_
      refine mj_iload hJ dX5_compares_61 rfl ?_
      refine mj_icmp_ne (tgt := 70) hJ dX5_compares_63 (by decide) (fun h => ?_) (fun h => ?_)
      · rw [if_neg (fun q => h (of_decide_eq_true q))] at hR
        refine mj_iconst hJ dX5_compares_70 (by decide) ?_
        refine mj_goto (tgt := 86) hJ dX5_compares_71 (by decide) ?_
        exact hR _ _ _ _ _ dX5_compares_86 (nar_z (by first | exact Or.inl rfl | exact Or.inr rfl | assumption | omega)) ⟨rfl, rfl, rfl⟩
      · rw [if_pos (decide_eq_true h)] at hR
        refine mj_iconst hJ dX5_compares_66 (by decide) ?_
        refine mj_goto (tgt := 86) hJ dX5_compares_67 (by decide) ?_
        exact hR _ _ _ _ _ dX5_compares_86 (nar_z (by first | exact Or.inl rfl | exact Or.inr rfl | assumption | omega)) ⟨rfl, rfl, rfl⟩
  · rw [if_pos (show (l, s, r).2.1 = 0 from hs0)] at hR
    refine mj_iload hJ dX5_compares_40 rfl ?_
    refine mj_iload hJ dX5_compares_42 rfl ?_
    refine mj_icmp_ge (tgt := 51) hJ dX5_compares_44 (by decide) (fun h => ?_) (fun h => ?_)
    · rw [if_neg (fun q => by have : vlx l w c fl < vlx r w c fl := of_decide_eq_true q; omega)] at hR
      refine mj_iconst hJ dX5_compares_51 (by decide) ?_
      exact hR _ _ _ _ _ dX5_compares_52 (nar_z (by first | exact Or.inl rfl | exact Or.inr rfl | assumption | omega)) ⟨rfl, rfl, rfl⟩
    · rw [if_pos (decide_eq_true (show vlx l w c fl < vlx r w c fl by omega))] at hR
      refine mj_iconst hJ dX5_compares_47 (by decide) ?_
      refine mj_goto (tgt := 52) hJ dX5_compares_48 (by decide) ?_
      exact hR _ _ _ _ _ dX5_compares_52 (nar_z (by first | exact Or.inl rfl | exact Or.inr rfl | assumption | omega)) ⟨rfl, rfl, rfl⟩
theorem c_X5_holds (p e w c fl : Int) (S : List St) (p0 : 0 ≤ p) (hpe : e = p + S.length) (e1 : e ≤ 200) (hS : oko S) (hst : stp (I 21) p S) : MtP G yX5_holds cX5_holds 9 (some .boolean) 2 [vr 17, vi p, vi e, vi w, vi c, vi fl] I b (if evo w c fl S = true then 1 else 0) := by
  refine mt_enterI (own := RX5) (ls0 := [vr 17, vi p, vi e, vi w, vi c, vi fl, vu, vu, vu]) rfl (by decide +kernel) (Nat.le_of_ble_eq_true rfl) rfl rfl (fun J hJ hR => ?_)
  have FIN : ∀ (x : Bool) (z i : Int), (i32 z &&& i32 1).toInt = (if x = true then 1 else 0) → evo w c fl S = x → J 110 [vr 17, vi p, vi e, vi w, vi c, vi fl, vi z, vi i, vu] [] (mk I b) := by
    intro x z i hz hx
    rw [hx] at hR
    refine mj_iload hJ dX5_holds_110 rfl ?_
    refine mj_iconst hJ dX5_holds_112 (by decide) ?_
    refine mj_iand hJ dX5_holds_113 ?_
    rw [hz]
    refine mj_iconst hJ dX5_holds_114 (by decide) ?_
    refine mj_icmp_ne (tgt := 122) hJ dX5_holds_115 (by decide) (fun h => ?_) (fun h => ?_)
    · refine mj_iconst hJ dX5_holds_122 (by decide) ?_
      have hx : x = false := by cases x <;> simp at h ⊢
      rw [hx] at hR
      exact hR _ _ _ _ _ dX5_holds_123 (nar_z (by first | exact Or.inl rfl | exact Or.inr rfl | assumption | omega)) ⟨rfl, rfl, rfl⟩
    · refine mj_iconst hJ dX5_holds_118 (by decide) ?_
      refine mj_goto (tgt := 123) hJ dX5_holds_119 (by decide) ?_
      have hx : x = true := by cases x <;> simp at h ⊢
      rw [hx] at hR
      exact hR _ _ _ _ _ dX5_holds_123 (nar_z (by first | exact Or.inl rfl | exact Or.inr rfl | assumption | omega)) ⟨rfl, rfl, rfl⟩
  have loop : ∀ (L : List St) (i : Int) (s : List Bool), s.length ≤ 20 → 0 ≤ i → i + L.length = e → wst L s.length → stp (I 21) i L → hdb (evs w c fl L s) = evo w c fl S → J 6 [vr 17, vi p, vi e, vi w, vi c, vi fl, vi (pil s), vi i, vu] [] (mk I b) := by
    intro L
    induction L with
    | nil =>
      intro i s s20 i0 ie hw2 _ hev
      have ie : i = e := by simpa using ie
      have hl : s.length = 1 := by
        have : ((s.length : Nat) : Int) = 1 := hw2
        omega
      refine mj_iload hJ dX5_holds_6 rfl ?_
      refine mj_iload_n hJ dX5_holds_8 rfl ?_
      refine mj_icmp_ge (tgt := 110) hJ dX5_holds_9 (by decide) (fun _ => ?_) (fun hno => absurd (by omega) hno)
      cases s with
      | nil => simp at hl
      | cons x r =>
        have hr : r = [] := by cases r <;> simp at hl ⊢
        subst hr
        exact FIN x _ i (pil_low x [] (by decide)) hev.symm
    | cons t L ih =>
      intro i s s20 i0 ie hw2 hst2 hev
      have hlen : ((t :: L).length : Int) = L.length + 1 := by rw [List.length_cons]; omega
      obtain ⟨l, sn, r⟩ := t
      have NEXT : ∀ (s' : List Bool) (y8 : Vl), s'.length ≤ 20 → wst L s'.length → (hdb (evs w c fl L s') = evo w c fl S) → J 104 [vr 17, vi p, vi e, vi w, vi c, vi fl, vi (pil s'), vi i, y8] [] (mk I b) := by
        intro s' y8 h0 h1 h2
        refine ms_iinc (ls' := [_, _, _, _, _, _, _, _, _]) hJ dX5_holds_104 rfl (by decide) rfl (wr_id (by omega)) rfl ?_
        refine mj_goto (tgt := 6) hJ dX5_holds_107 (by decide) ?_
        refine mj_drop (ls' := [_, _, _, _, _, _, _, _, vu]) hJ ⟨Or.inl rfl, Or.inl rfl, Or.inl rfl, Or.inl rfl, Or.inl rfl, Or.inl rfl, Or.inl rfl, Or.inl rfl, Or.inr rfl, trivial⟩ ?_
        exact ih (i + 1) s' h0 (by omega) (by omega) h1 hst2.2 h2
      have hok := hw2.1
      have hw3 := hw2.2
      refine mj_iload hJ dX5_holds_6 rfl ?_
      refine mj_iload_n hJ dX5_holds_8 rfl ?_
      refine mj_icmp_ge (tgt := 110) hJ dX5_holds_9 (by decide) (fun hyes => absurd hyes (by omega)) (fun _ => ?_)
      refine mj_aload_n hJ dX5_holds_12 rfl ?_
      refine mk_getR hJ dX5_holds_13 fw_X5_23 rfl (by decide) rfl rfl ?_
      refine mj_iload hJ dX5_holds_16 rfl ?_
      refine mk_iald hJ dX5_holds_18 rfl (by omega) (by omega) ?_
      rw [hst2.1]
      by_cases hs : 0 ≤ sn
      · have hok : 0 ≤ sn ∧ sn ≤ 2 ∧ (0 ≤ l ∧ l ≤ 1002) ∧ (0 ≤ r ∧ r ≤ 1002) := by
          rcases hok with k | k
          · exact k
          · have : sn ≤ -1 := k.2
            omega
        rw [if_pos (by exact hs)] at hw3
        have ep := enc_parts hok.1 hok.2.1 hok.2.2.1.1 hok.2.2.1.2 hok.2.2.2.1 hok.2.2.2.2
        have pl := pil_lt (s := s) (by omega)
        have ev2 : evs w c fl ((l, sn, r) :: L) s = evs w c fl L (cmpv w c fl (l, sn, r) :: s) := by
          show evs w c fl L (if 0 ≤ sn then _ else _) = _
          rw [if_pos hs]
        rw [ev2] at hev
        refine ms_istore (ls' := [_, _, _, _, _, _, _, _, _]) hJ dX5_holds_19 (by decide) rfl rfl ?_
        refine mj_iload hJ dX5_holds_21 rfl ?_
        refine mj_iconst hJ dX5_holds_23 (by decide) ?_
        refine mj_icmp_ne (tgt := 36) hJ dX5_holds_24 (by decide) (fun _ => ?_) (fun hno => absurd hno (by omega))
        refine mj_iload hJ dX5_holds_36 rfl ?_
        refine mj_bipush hJ dX5_holds_38 (by decide) ?_
        refine mj_icmp_ne (tgt := 58) hJ dX5_holds_40 (by decide) (fun _ => ?_) (fun hno => absurd hno (by omega))
        refine mj_iload hJ dX5_holds_58 rfl ?_
        refine mj_bipush hJ dX5_holds_60 (by decide) ?_
        refine mj_icmp_ne (tgt := 79) hJ dX5_holds_62 (by decide) (fun _ => ?_) (fun hno => absurd hno (by omega))
        refine mj_iload hJ dX5_holds_79 rfl ?_
        refine mj_iconst hJ dX5_holds_81 (by decide) ?_
        refine mj_ishl hJ dX5_holds_82 ?_
        refine mj_iload hJ dX5_holds_83 rfl ?_
        refine mj_iload_n hJ dX5_holds_85 rfl ?_
        refine mj_iload hJ dX5_holds_86 rfl ?_
        refine mj_iload hJ dX5_holds_88 rfl ?_
        refine mk_Sp4 hJ dX5_holds_90 cw_X5_33 rfl (Nat.le_of_ble_eq_true rfl) (by first | decide | omega) (c_compares l sn r w c fl hok.1 hok.2.1 hok.2.2.1.1 hok.2.2.1.2 hok.2.2.2.1 hok.2.2.2.2) ?_
        have K : ∀ z : Int, z = (if cmpv w c fl (l, sn, r) = true then 1 else 0) → J 101 [vr 17, vi p, vi e, vi w, vi c, vi fl, vi (pil s), vi i, vi (enc (l, sn, r))] [vi z, vi ((i32 (pil s) <<< (i32 1 &&& 31)).toInt)] (mk I b) := by
          intro z hz
          refine mj_ior hJ dX5_holds_101 ?_
          rw [pil_push z (cmpv w c fl (l, sn, r)) s (by omega) hz]
          refine ms_istore (ls' := [_, _, _, _, _, _, _, _, _]) hJ dX5_holds_102 (by decide) rfl rfl ?_
          exact NEXT _ _ (by rw [List.length_cons]; omega) (by rw [List.length_cons]; exact hw3.2) hev
        by_cases hc : cmpv w c fl (l, sn, r) = true
        · rw [if_pos hc]
          refine mj_if_eq (tgt := 100) hJ dX5_holds_93 (by decide) (fun hyes => absurd hyes (by decide)) (fun _ => ?_)
          refine mj_iconst hJ dX5_holds_96 (by decide) ?_
          refine mj_goto (tgt := 101) hJ dX5_holds_97 (by decide) ?_
          exact K 1 (by rw [if_pos hc])
        · rw [if_neg hc]
          refine mj_if_eq (tgt := 100) hJ dX5_holds_93 (by decide) (fun _ => ?_) (fun hno => absurd rfl hno)
          refine mj_iconst hJ dX5_holds_100 (by decide) ?_
          exact K 0 (by rw [if_neg hc])
      · have hok : -3 ≤ sn ∧ sn ≤ -1 := by
          rcases hok with k | k
          · exact absurd k.1 hs
          · exact k
        have een : enc (l, sn, r) = sn := by
          unfold enc
          rw [if_neg (by exact hs)]
        rw [een]
        rw [if_neg (by exact hs)] at hw3
        by_cases h1 : sn = -1
        · subst h1
          rw [if_pos (by rfl)] at hw3
          cases s with
          | nil => exact absurd hw3.1 (by decide)
          | cons x r' =>
            rw [List.length_cons] at s20
            refine ms_istore (ls' := [_, _, _, _, _, _, _, _, _]) hJ dX5_holds_19 (by decide) rfl rfl ?_
            refine mj_iload hJ dX5_holds_21 rfl ?_
            refine mj_iconst hJ dX5_holds_23 (by decide) ?_
            refine mj_icmp_ne (tgt := 36) hJ dX5_holds_24 (by decide) (fun hyes => absurd (by decide) hyes) (fun _ => ?_)
            refine mj_iload hJ dX5_holds_27 rfl ?_
            refine mj_iconst hJ dX5_holds_29 (by decide) ?_
            refine mj_ixor hJ dX5_holds_30 ?_
            rw [pil_not x r' (by omega)]
            refine ms_istore (ls' := [_, _, _, _, _, _, _, _, _]) hJ dX5_holds_31 (by decide) rfl rfl ?_
            refine mj_goto (tgt := 104) hJ dX5_holds_33 (by decide) ?_
            refine NEXT _ _ (by rw [List.length_cons]; omega) (by have := hw3.2; rw [List.length_cons] at this ⊢; exact this) ?_
            rw [← hev]
            rfl
        · rw [if_neg (by exact h1)] at hw3
          cases s with
          | nil => exact absurd hw3.1 (by decide)
          | cons y s1 =>
            cases s1 with
            | nil => exact absurd hw3.1 (by show ¬((2 : Int) ≤ ((1 : Nat) : Int)); decide)
            | cons x r' =>
              rw [List.length_cons, List.length_cons] at s20
              have hlw : ∀ z : Bool, (((z :: r').length : Nat) : Int) = ((y :: x :: r').length : Nat) - 1 := fun z => by
                rw [List.length_cons, List.length_cons, List.length_cons]; omega
              refine ms_istore (ls' := [_, _, _, _, _, _, _, _, _]) hJ dX5_holds_19 (by decide) rfl rfl ?_
              refine mj_iload hJ dX5_holds_21 rfl ?_
              refine mj_iconst hJ dX5_holds_23 (by decide) ?_
              refine mj_icmp_ne (tgt := 36) hJ dX5_holds_24 (by decide) (fun _ => ?_) (fun hno => absurd hno h1)
              refine mj_iload hJ dX5_holds_36 rfl ?_
              refine mj_bipush hJ dX5_holds_38 (by decide) ?_
              by_cases h2 : sn = -2
              · subst h2
                refine mj_icmp_ne (tgt := 58) hJ dX5_holds_40 (by decide) (fun hyes => absurd (by decide) hyes) (fun _ => ?_)
                refine mj_iload hJ dX5_holds_43 rfl ?_
                refine mj_iconst hJ dX5_holds_45 (by decide) ?_
                refine mj_ishr hJ dX5_holds_46 ?_
                rw [pil_shr y (x :: r') (by rw [List.length_cons]; omega)]
                refine mj_iload hJ dX5_holds_47 rfl ?_
                refine mj_bipush hJ dX5_holds_49 (by decide) ?_
                refine mj_ior hJ dX5_holds_51 ?_
                refine mj_iand hJ dX5_holds_52 ?_
                rw [pil_and y x r' (by omega)]
                refine ms_istore (ls' := [_, _, _, _, _, _, _, _, _]) hJ dX5_holds_53 (by decide) rfl rfl ?_
                refine mj_goto (tgt := 104) hJ dX5_holds_55 (by decide) ?_
                refine NEXT _ _ (by rw [List.length_cons]; omega) (by rw [hlw]; exact hw3.2) ?_
                rw [← hev]
                rfl
              · have h3 : sn = -3 := by omega
                subst h3
                refine mj_icmp_ne (tgt := 58) hJ dX5_holds_40 (by decide) (fun _ => ?_) (fun hno => absurd hno (by decide))
                refine mj_iload hJ dX5_holds_58 rfl ?_
                refine mj_bipush hJ dX5_holds_60 (by decide) ?_
                refine mj_icmp_ne (tgt := 79) hJ dX5_holds_62 (by decide) (fun hyes => absurd (by decide) hyes) (fun _ => ?_)
                refine mj_iload hJ dX5_holds_65 rfl ?_
                refine mj_iconst hJ dX5_holds_67 (by decide) ?_
                refine mj_ishr hJ dX5_holds_68 ?_
                rw [pil_shr y (x :: r') (by rw [List.length_cons]; omega)]
                refine mj_iload hJ dX5_holds_69 rfl ?_
                refine mj_iconst hJ dX5_holds_71 (by decide) ?_
                refine mj_iand hJ dX5_holds_72 ?_
                rw [pil_low y (x :: r') (by rw [List.length_cons]; omega)]
                refine mj_ior hJ dX5_holds_73 ?_
                rw [pil_or y x r' (by omega)]
                refine ms_istore (ls' := [_, _, _, _, _, _, _, _, _]) hJ dX5_holds_74 (by decide) rfl rfl ?_
                refine mj_goto (tgt := 104) hJ dX5_holds_76 (by decide) ?_
                refine NEXT _ _ (by rw [List.length_cons]; omega) (by rw [hlw]; exact hw3.2) ?_
                rw [← hev]
                rfl
  refine mj_iconst hJ dX5_holds_0 (by decide) ?_
  refine ms_istore (ls' := [_, _, _, _, _, _, _, _, _]) hJ dX5_holds_1 (by decide) rfl rfl ?_
  refine mj_iload_n hJ dX5_holds_3 rfl ?_
  refine ms_istore (ls' := [_, _, _, _, _, _, _, _, _]) hJ dX5_holds_4 (by decide) rfl rfl ?_
  rcases hS with hS | hS
  · subst hS
    have epe : e = p := by simpa using hpe
    subst epe
    refine mj_iload hJ dX5_holds_6 rfl ?_
    refine mj_iload_n hJ dX5_holds_8 rfl ?_
    refine mj_icmp_ge (tgt := 110) hJ dX5_holds_9 (by decide) (fun _ => ?_) (fun hno => absurd (by omega) hno)
    exact FIN true 1 e (by decide) rfl
  · exact loop S p [] (by decide) p0 hpe.symm hS hst rfl
theorem c_X5_toldFor (T : List Ln) (hT : TC I 17 18 19 20 21 T) (hTW : TW T) (v w c fl : Int) : MtP G yX5_toldFor cX5_toldFor 8 (some .int) 3 [vr 17, vi v, vi w, vi c, vi fl] I b (told w c fl v T 0) := by
  refine mt_enterI (own := RX5) (ls0 := [vr 17, vi v, vi w, vi c, vi fl, vu, vu, vu]) rfl (by decide +kernel) (Nat.le_of_ble_eq_true rfl) rfl rfl (fun J hJ hR => ?_)
  have loop : ∀ (L : List Ln) (l p a : Int), 0 ≤ l → l + L.length = T.length → 0 ≤ p → p + stn L ≤ 200 → (∀ t ∈ L, (0 ≤ t.1 ∧ t.1 ≤ 5) ∧ (0 ≤ t.2.1 ∧ t.2.1 ≤ 99) ∧ oko t.2.2) → tcl (I 18) (I 19) (I 20) (I 21) l p L → told w c fl v L a = told w c fl v T 0 → J 9 [vr 17, vi v, vi w, vi c, vi fl, vi a, vi p, vi l] [] (mk I b) := by
    intro L
    induction L with
    | nil =>
      intro l p a l0 hl p0 hp hok hc he
      have hl : l = T.length := by simpa using hl
      refine mj_iload hJ dX5_toldFor_9 rfl ?_
      refine mj_aload_n hJ dX5_toldFor_11 rfl ?_
      refine mk_getI (j' := 0) hJ dX5_toldFor_12 fw_X5_7 rfl (by decide) rfl rfl ?_
      rw [hT.1.1]
      refine mj_icmp_ge (tgt := 73) hJ dX5_toldFor_15 (by decide) (fun _ => ?_) (fun hno => absurd (by omega) hno)
      refine mj_iload hJ dX5_toldFor_73 rfl ?_
      exact hR _ _ _ _ _ dX5_toldFor_75 nar_i ⟨he, rfl, rfl⟩
    | cons t L ih =>
      intro l p a l0 hl p0 hp hok hc he
      obtain ⟨lv, m, S⟩ := t
      have hlen : (((lv, m, S) :: L).length : Int) = L.length + 1 := by rw [List.length_cons]; omega
      have h8 := hT.1.2
      have hst : stn ((lv, m, S) :: L) = S.length + stn L := rfl
      have hnn := stn_nn L
      have hc1 := hc.1
      have hk := hok (lv, m, S) (List.mem_cons_self)
      have NEXT : ∀ a' : Int, told w c fl v L a' = told w c fl v T 0 → J 58 [vr 17, vi v, vi w, vi c, vi fl, vi a', vi p, vi l] [] (mk I b) := by
        intro a' he'
        refine mj_aload_n hJ dX5_toldFor_58 rfl ?_
        refine mk_getR hJ dX5_toldFor_59 fw_X5_20 rfl (by decide) rfl rfl ?_
        refine mj_iload hJ dX5_toldFor_62 rfl ?_
        refine mk_iald hJ dX5_toldFor_64 rfl (by omega) (by omega) ?_
        rw [hc1.2.2.1]
        refine ms_istore (ls' := [_, _, _, _, _, _, _, _]) hJ dX5_toldFor_65 (by decide) rfl rfl ?_
        refine ms_iinc (ls' := [_, _, _, _, _, _, _, _]) hJ dX5_toldFor_67 rfl (by decide) rfl (wr_id (by omega)) rfl ?_
        refine mj_goto (tgt := 9) hJ dX5_toldFor_70 (by decide) ?_
        exact ih (l + 1) (p + S.length) a' (by omega) (by omega) (by omega) (by omega) (fun t ht => hok t (List.mem_cons_of_mem _ ht)) hc.2 he'
      have hev : told w c fl v ((lv, m, S) :: L) a = told w c fl v L (if lv = v ∧ evo w c fl S = true then m else a) := rfl
      rw [hev] at he
      refine mj_iload hJ dX5_toldFor_9 rfl ?_
      refine mj_aload_n hJ dX5_toldFor_11 rfl ?_
      refine mk_getI (j' := 0) hJ dX5_toldFor_12 fw_X5_7 rfl (by decide) rfl rfl ?_
      rw [hT.1.1]
      refine mj_icmp_ge (tgt := 73) hJ dX5_toldFor_15 (by decide) (fun hyes => absurd hyes (by omega)) (fun _ => ?_)
      refine mj_aload_n hJ dX5_toldFor_18 rfl ?_
      refine mk_getR hJ dX5_toldFor_19 fw_X5_13 rfl (by decide) rfl rfl ?_
      refine mj_iload hJ dX5_toldFor_22 rfl ?_
      refine mk_iald hJ dX5_toldFor_24 rfl (by omega) (by omega) ?_
      rw [hc1.1]
      refine mj_iload_n hJ dX5_toldFor_25 rfl ?_
      refine mj_icmp_ne (tgt := 58) hJ dX5_toldFor_26 (by decide) (fun h1 => ?_) (fun h1 => ?_)
      · rw [if_neg (fun q => h1 q.1)] at he
        exact NEXT a he
      · refine mj_aload_n hJ dX5_toldFor_29 rfl ?_
        refine mj_iload hJ dX5_toldFor_30 rfl ?_
        refine mj_aload_n hJ dX5_toldFor_32 rfl ?_
        refine mk_getR hJ dX5_toldFor_33 fw_X5_20 rfl (by decide) rfl rfl ?_
        refine mj_iload hJ dX5_toldFor_36 rfl ?_
        refine mk_iald hJ dX5_toldFor_38 rfl (by omega) (by omega) ?_
        rw [hc1.2.2.1]
        refine mj_iload_n hJ dX5_toldFor_39 rfl ?_
        refine mj_iload_n hJ dX5_toldFor_40 rfl ?_
        refine mj_iload hJ dX5_toldFor_41 rfl ?_
        refine mk_Vp5 hJ dX5_toldFor_43 cw_X5_29 rfl rfl rfl rfl (Nat.le_of_ble_eq_true rfl) (by first | decide | omega) (c_X5_holds p (p + S.length) w c fl S p0 rfl (by omega) hk.2.2 hc1.2.2.2) ?_
        by_cases hh : evo w c fl S = true
        · rw [if_pos hh]
          rw [if_pos ⟨h1, hh⟩] at he
          refine mj_if_eq (tgt := 58) hJ dX5_toldFor_46 (by decide) (fun hyes => absurd hyes (by decide)) (fun _ => ?_)
          refine mj_aload_n hJ dX5_toldFor_49 rfl ?_
          refine mk_getR hJ dX5_toldFor_50 fw_X5_17 rfl (by decide) rfl rfl ?_
          refine mj_iload hJ dX5_toldFor_53 rfl ?_
          refine mk_iald hJ dX5_toldFor_55 rfl (by omega) (by omega) ?_
          rw [hc1.2.1]
          refine ms_istore (ls' := [_, _, _, _, _, _, _, _]) hJ dX5_toldFor_56 (by decide) rfl rfl ?_
          exact NEXT m he
        · rw [if_neg hh]
          rw [if_neg (fun q => hh q.2)] at he
          refine mj_if_eq (tgt := 58) hJ dX5_toldFor_46 (by decide) (fun _ => ?_) (fun hno => absurd rfl hno)
          exact NEXT a he
  refine mj_iconst hJ dX5_toldFor_0 (by decide) ?_
  refine ms_istore (ls' := [_, _, _, _, _, _, _, _]) hJ dX5_toldFor_1 (by decide) rfl rfl ?_
  refine mj_iconst hJ dX5_toldFor_3 (by decide) ?_
  refine ms_istore (ls' := [_, _, _, _, _, _, _, _]) hJ dX5_toldFor_4 (by decide) rfl rfl ?_
  refine mj_iconst hJ dX5_toldFor_6 (by decide) ?_
  refine ms_istore (ls' := [_, _, _, _, _, _, _, _]) hJ dX5_toldFor_7 (by decide) rfl rfl ?_
  exact loop T 0 0 0 (by omega) (by omega) (by omega) (by have := hTW.2; omega) hTW.1 hT.2 rfl
end C3
