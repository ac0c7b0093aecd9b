section C7
variable {G : GE} {I N : Ints} {b : Bool} {f : Int → Int}
theorem c_X1_coins (hw : WN f) (hl : LN I f) (v t c x : Int) (v0 : 0 ≤ v) (v1 : v < f 0) (c0 : 0 ≤ c) (c1 : c ≤ t) (t1 : t ≤ 120) (hx : I (73 + (v + 1).toNat) (t - c) = x) (x0 : 0 ≤ x) (x1 : x ≤ 10000) : MtP G yX1_coins cX1_coins 5 (some .int) 0 [vr 70, vr 1, vi v, vi t, vi c] I b (c * clq f v + x) := by
  refine mt_enterI (own := RX1) (ls0 := [vr 70, vr 1, vi v, vi t, vi c]) rfl (by decide +kernel) (Nat.le_of_ble_eq_true rfl) rfl rfl (fun J hJ hR => ?_)
  have hn := hw.nv
  have fa := hw.fact v0 (by omega)
  have m := mul_bd (a := c) (b := f (10 + 18 * v + 5)) (A := 120) (B := 9) c0 (by omega) (by omega) fa.2.2.2.2.2.2
  refine mj_iload hJ dX1_coins_0 rfl ?_
  refine mj_aload_n hJ dX1_coins_2 rfl ?_
  refine mk_getR hJ dX1_coins_3 fw_X1_26 rfl (by decide) rfl rfl ?_
  refine mj_iload_n hJ dX1_coins_6 rfl ?_
  refine mk_aald hJ dX1_coins_7 rfl (Or.inl rfl) (by omega) (by omega) (gr_2 (by omega) (by omega)).1 ?_
  refine mj_iconst hJ dX1_coins_8 (by decide) ?_
  refine mk_iald hJ dX1_coins_9 (gr_2 (b := true) (by omega) (by omega)).2 (by omega) (by omega) ?_
  rw [hl.fact v0 v1 (by decide) (by decide)]
  first | refine ms_imul hJ dX1_coins_10 (by omega) ?_ | refine mj_imul hJ dX1_coins_10 ?_
  refine mj_aload_n hJ dX1_coins_11 rfl ?_
  refine mk_getR hJ dX1_coins_12 fw_X1_17 rfl (by decide) rfl rfl ?_
  refine mj_iload_n hJ dX1_coins_15 rfl ?_
  refine mj_iconst hJ dX1_coins_16 (by decide) ?_
  first | refine ms_iadd hJ dX1_coins_17 (by omega) ?_ | refine mj_iadd hJ dX1_coins_17 ?_
  refine mk_aald hJ dX1_coins_18 rfl (Or.inl rfl) (by omega) (by omega) (gr_72 (by omega) (by omega)).1 ?_
  refine mj_iload_n hJ dX1_coins_19 rfl ?_
  refine mj_iload hJ dX1_coins_20 rfl ?_
  first | refine ms_isub hJ dX1_coins_22 (by omega) ?_ | refine mj_isub hJ dX1_coins_22 ?_
  refine mk_iald hJ dX1_coins_23 (gr_72 (b := true) (by omega) (by omega)).2 (by omega) (by omega) ?_
  rw [hx]
  first | refine ms_iadd hJ dX1_coins_24 (by omega) ?_ | refine mj_iadd hJ dX1_coins_24 ?_
  exact hR _ _ _ _ _ dX1_coins_25 nar_i ⟨rfl, rfl, rfl⟩
theorem c_X1_leastBest (hw : WN f) (hl : LN I f) (v t : Int) (g : Int → Int) (v0 : 0 ≤ v) (v1 : v < f 0) (t0 : 0 ≤ t) (t1 : t ≤ 120) (hg : ∀ p, 0 ≤ p → p ≤ t → I (73 + (v + 1).toNat) p = g p ∧ (0 ≤ g p ∧ g p ≤ 10000)) :
    MtP G yX1_leastBest cX1_leastBest 7 (some .int) 1 [vr 70, vr 1, vi v, vi t] I b (scm (fun c => c * clq f v + g (t - c)) (msl (lmq f) (f 0 - 1) v t) (t - msl (lmq f) (f 0 - 1) v t).toNat).2 := by
  refine mt_enterI (own := RX1) (ls0 := [vr 70, vr 1, vi v, vi t, vu, vu, vu]) rfl (by decide +kernel) (Nat.le_of_ble_eq_true rfl) rfl rfl (fun J hJ hR => ?_)
  have hn := hw.nv
  obtain ⟨h, hh⟩ : ∃ h, (fun c : Int => c * clq f v + g (t - c)) = h := ⟨_, rfl⟩
  have he : ∀ c : Int, h c = c * clq f v + g (t - c) := fun c => by rw [← hh]
  have hb : ∀ c : Int, 0 ≤ c → c ≤ t → 0 ≤ h c ∧ h c ≤ 20000 := fun c c0 c1 => by
    have fa := hw.fact v0 (by omega)
    have m := mul_bd (a := c) (b := clq f v) (A := 120) (B := 9) c0 (by omega) (by unfold clq; omega) fa.2.2.2.2.2.2
    have := (hg (t - c) (by omega) (by omega)).2
    rw [he]
    omega
  rw [hh] at hR
  obtain ⟨mu, hmu⟩ : ∃ mu, msl (lmq f) (f 0 - 1) v t = mu := ⟨_, rfl⟩
  rw [hmu] at hR
  have K31 : 0 ≤ mu → mu ≤ t → J 31 [vr 70, vr 1, vi v, vi t, vi mu, vu, vu] [] (mk I b) := by
    intro m0 m1
    have loop : ∀ (m k : Nat), k + m = (t - mu).toNat → J 41 [vr 70, vr 1, vi v, vi t, vi mu, vi (scm h mu k).2, vi (mu + (k + 1))] [] (mk I b) := by
      intro m
      induction m with
      | zero =>
        intro k hk
        have ek : k = (t - mu).toNat := by omega
        subst ek
        refine mj_iload hJ dX1_leastBest_41 rfl ?_
        refine mj_iload_n hJ dX1_leastBest_43 rfl ?_
        refine mj_icmp_gt (tgt := 78) hJ dX1_leastBest_44 (by decide) (fun _ => ?_) (fun hno => absurd (by omega) hno)
        refine mj_iload hJ dX1_leastBest_78 rfl ?_
        exact hR _ _ _ _ _ dX1_leastBest_80 nar_i ⟨rfl, rfl, rfl⟩
      | succ m ih =>
        intro k hk
        obtain ⟨u, u0, u1, eu⟩ := scm_mem h mu k
        have es : scm h mu (k + 1) = if h (mu + (k + 1)) < (scm h mu k).1 then (h (mu + (k + 1)), mu + ((k : Int) + 1)) else scm h mu k := rfl
        have ih := ih (k + 1) (by omega)
        rw [show mu + (((k + 1 : Nat) : Int) + 1) = mu + ((k : Int) + 1) + 1 by omega] at ih
        have g1 := hg (t - (mu + (k + 1))) (by omega) (by omega)
        have g2 := hg (t - u) (by omega) (by omega)
        rw [eu] at es ⊢
        refine mj_iload hJ dX1_leastBest_41 rfl ?_
        refine mj_iload_n hJ dX1_leastBest_43 rfl ?_
        refine mj_icmp_gt (tgt := 78) hJ dX1_leastBest_44 (by decide) (fun hyes => absurd hyes (by omega)) (fun _ => ?_)
        refine mj_aload_n hJ dX1_leastBest_47 rfl ?_
        refine mj_aload_n hJ dX1_leastBest_48 rfl ?_
        refine mj_iload_n hJ dX1_leastBest_49 rfl ?_
        refine mj_iload_n hJ dX1_leastBest_50 rfl ?_
        refine mj_iload hJ dX1_leastBest_51 rfl ?_
        refine mk_Vp4 hJ dX1_leastBest_53 cw_X1_39 rfl rfl rfl rfl (Nat.le_of_ble_eq_true rfl) (by first | decide | omega) (c_X1_coins hw hl v t (mu + (k + 1)) _ v0 v1 (by omega) (by omega) t1 g1.1 g1.2.1 g1.2.2) ?_
        rw [← he]
        refine mj_aload_n hJ dX1_leastBest_56 rfl ?_
        refine mj_aload_n hJ dX1_leastBest_57 rfl ?_
        refine mj_iload_n hJ dX1_leastBest_58 rfl ?_
        refine mj_iload_n hJ dX1_leastBest_59 rfl ?_
        refine mj_iload hJ dX1_leastBest_60 rfl ?_
        refine mk_Vp4 hJ dX1_leastBest_62 cw_X1_39 rfl rfl rfl rfl (Nat.le_of_ble_eq_true rfl) (by first | decide | omega) (c_X1_coins hw hl v t u _ v0 v1 (by omega) (by omega) t1 g2.1 g2.2.1 g2.2.2) ?_
        rw [← he]
        refine mj_icmp_ge (tgt := 72) hJ dX1_leastBest_65 (by decide) (fun hx => ?_) (fun hx => ?_)
        · rw [if_neg (by show ¬(h (mu + (k + 1)) < h u); omega)] at es
          refine ms_iinc (ls' := [_, _, _, _, _, _, _]) hJ dX1_leastBest_72 rfl (by decide) rfl (wr_id (by omega)) rfl ?_
          refine mj_goto (tgt := 41) hJ dX1_leastBest_75 (by decide) ?_
          rw [es] at ih
          exact ih
        · rw [if_pos (by show h (mu + (k + 1)) < h u; omega)] at es
          refine mj_iload hJ dX1_leastBest_68 rfl ?_
          refine ms_istore (ls' := [_, _, _, _, _, _, _]) hJ dX1_leastBest_70 (by decide) rfl rfl ?_
          refine ms_iinc (ls' := [_, _, _, _, _, _, _]) hJ dX1_leastBest_72 rfl (by decide) rfl (wr_id (by omega)) rfl ?_
          refine mj_goto (tgt := 41) hJ dX1_leastBest_75 (by decide) ?_
          rw [es] at ih
          exact ih
    refine mj_iload hJ dX1_leastBest_31 rfl ?_
    refine ms_istore (ls' := [_, _, _, _, _, _, _]) hJ dX1_leastBest_33 (by decide) rfl rfl ?_
    refine mj_iload hJ dX1_leastBest_35 rfl ?_
    refine mj_iconst hJ dX1_leastBest_37 (by decide) ?_
    first | refine ms_iadd hJ dX1_leastBest_38 (by omega) ?_ | refine mj_iadd hJ dX1_leastBest_38 ?_
    refine ms_istore (ls' := [_, _, _, _, _, _, _]) hJ dX1_leastBest_39 (by decide) rfl rfl ?_
    have key := loop (t - mu).toNat 0 (by omega)
    rw [show mu + (((0 : Nat) : Int) + 1) = mu + 1 by omega] at key
    exact key
  refine mj_iconst hJ dX1_leastBest_0 (by decide) ?_
  refine ms_istore (ls' := [_, _, _, _, _, _, _]) hJ dX1_leastBest_1 (by decide) rfl rfl ?_
  refine mj_iload_n hJ dX1_leastBest_3 rfl ?_
  refine mj_iconst hJ dX1_leastBest_4 (by decide) ?_
  first | refine ms_iadd hJ dX1_leastBest_5 (by omega) ?_ | refine mj_iadd hJ dX1_leastBest_5 ?_
  refine mj_aload_n hJ dX1_leastBest_6 rfl ?_
  refine mk_getI (j' := 0) hJ dX1_leastBest_7 fw_X1_20 rfl (by decide) rfl rfl ?_
  rw [hl.1.1]
  unfold msl mst lmq at hmu
  refine mj_icmp_ge (tgt := 31) hJ dX1_leastBest_10 (by decide) (fun hlast => ?_) (fun hlast => ?_)
  · rw [if_neg (by omega)] at hmu
    subst hmu
    exact K31 (Int.le_refl _) t0
  · rw [if_pos (by omega)] at hmu
    have fa := hw.fact (v := v + 1) (by omega) (by omega)
    refine mj_iconst hJ dX1_leastBest_13 (by decide) ?_
    refine mj_iload_n hJ dX1_leastBest_14 rfl ?_
    refine mj_aload_n hJ dX1_leastBest_15 rfl ?_
    refine mk_getR hJ dX1_leastBest_16 fw_X1_26 rfl (by decide) rfl rfl ?_
    refine mj_iload_n hJ dX1_leastBest_19 rfl ?_
    refine mj_iconst hJ dX1_leastBest_20 (by decide) ?_
    first | refine ms_iadd hJ dX1_leastBest_21 (by omega) ?_ | refine mj_iadd hJ dX1_leastBest_21 ?_
    refine mk_aald hJ dX1_leastBest_22 rfl (Or.inl rfl) (by omega) (by omega) (gr_2 (by omega) (by omega)).1 ?_
    refine mj_iconst hJ dX1_leastBest_23 (by decide) ?_
    refine mk_iald hJ dX1_leastBest_24 (gr_2 (b := true) (by omega) (by omega)).2 (by omega) (by omega) ?_
    rw [hl.fact (v := v + 1) (by omega) (by omega) (by decide) (by decide)]
    first | refine ms_isub hJ dX1_leastBest_25 (by omega) ?_ | refine mj_isub hJ dX1_leastBest_25 ?_
    refine mk_Sp2 hJ dX1_leastBest_26 cw_X1_43 rfl (Nat.le_of_ble_eq_true rfl) (by first | decide | omega) (c_max 0 (t - f (10 + 18 * (v + 1) + 4))) ?_
    have em : max 0 (t - f (10 + 18 * (v + 1) + 4)) = mu := by
      rw [← hmu]
      split <;> omega
    rw [em]
    refine ms_istore (ls' := [_, _, _, _, _, _, _]) hJ dX1_leastBest_29 (by decide) rfl rfl ?_
    exact K31 (by omega) (by omega)
/-- the least coins of village w and those below it, when p comes past the one above; 0 behind the last one -/
def gDr (f : Int → Int) (l w p : Int) : Int := if w ≤ l then (cl f (lmq f) (l - w).toNat w p).1 else 0
def mDr (f : Int → Int) (l : Int) (I1 : Ints) (v : Int) : Prop := ∀ w : Int, v ≤ w → w ≤ l + 1 → ∀ p : Int, 0 ≤ p → p ≤ (if w ≤ l then sq (dq f) 0 w.toNat else 120) → I1 (73 + w.toNat) p = gDr f l w p
theorem hcl_gD {f : Int → Int} {l v t c : Int} : hcl f (lmq f) l v t c = c * clq f v + gDr f l (v + 1) (t - c) := by
  unfold hcl gDr
  by_cases e : v < l
  · rw [if_pos e, if_pos (show v + 1 ≤ l by omega)]
  · rw [if_neg e, if_neg (show ¬(v + 1 ≤ l) by omega)]
theorem gD_bd {f : Int → Int} (hw : WN f) {w p : Int} (w0 : 0 ≤ w) (p0 : 0 ≤ p) (p1 : w ≤ f 0 - 1 → p ≤ sq (dq f) 0 w.toNat) : 0 ≤ gDr f (f 0 - 1) w p ∧ gDr f (f 0 - 1) w p ≤ 6480 := by
  unfold gDr
  by_cases e : w ≤ f 0 - 1
  · rw [if_pos e]
    have := (cl_at hw (k := w.toNat) (p := p) (by omega) p0 (p1 e)).2.1
    rw [show ((w.toNat : Nat) : Int) = w by omega] at this
    exact this
  · rw [if_neg e]
    omega
theorem c_X1_clean (hw : WN f) (hl : LN I f) : MtI G yX1_clean cX1_clean 7 (some .int) 2 [vr 70, vr 1] I b (fun z I' b' => z = gDr f (f 0 - 1) 0 0 ∧ b' = b ∧ (∀ c, (c < 71 ∨ 79 < c) → I' c = I c) ∧ ∀ v : Int, 0 ≤ v → v < f 0 → I' 71 v = ccl f v) := by
  refine mt_enterI (own := RX1) (ls0 := [vr 70, vr 1, vu, vu, vu, vu, vu]) rfl (by decide +kernel) (Nat.le_of_ble_eq_true rfl) rfl rfl (fun J hJ hR => ?_)
  have hn := hw.nv
  obtain ⟨l, hl0⟩ : ∃ l, f 0 - 1 = l := ⟨_, rfl⟩
  have hsd : ∀ k : Nat, k ≤ 6 → 0 ≤ sq (dq f) 0 k ∧ sq (dq f) 0 k ≤ 120 := fun k hk => by
    have a := (sd_mono hw k 0 (by omega)).1
    have c := sd_bd hw k hk
    omega
  have hss : ∀ k : Nat, sq (dq f) 0 (k + 1) = sq (dq f) 0 k + f (10 + 18 * k + 3) := fun k => by
    show sq (dq f) 0 k + dq f (0 + (k : Int)) = _
    rw [Int.zero_add]
    rfl
  have hd : ∀ k : Nat, (k : Int) < f 0 → 0 ≤ f (10 + 18 * (k : Int) + 3) := fun k hk => (hw.fact (v := (k : Int)) (by omega) (by omega)).2.2.2.1.1
  have hgd : ∀ w p : Int, 0 ≤ w → 0 ≤ p → (w ≤ l → p ≤ sq (dq f) 0 w.toNat) → 0 ≤ gDr f l w p ∧ gDr f l w p ≤ 10000 := fun w p w0 p0 p1 => by
    have := gD_bd hw w0 p0 (fun e => p1 (by omega))
    rw [hl0] at this
    omega
  -- the least best of village v, when p comes past the one above
  have LBst : ∀ (v : Nat) (p : Int) (I1 : Ints), (v : Int) ≤ l → 0 ≤ p → p ≤ sq (dq f) 0 v → (∀ c, (c < 71 ∨ 79 < c) → I1 c = I c) → mDr f l I1 (v + 1) →
      ∃ u, (0 ≤ u ∧ u ≤ p + f (10 + 18 * v + 3)) ∧ cl f (lmq f) (l - v).toNat v p = (hcl f (lmq f) l v (p + f (10 + 18 * v + 3)) u, u) ∧ MtP G yX1_leastBest cX1_leastBest 7 (some .int) 1 [vr 70, vr 1, vi v, vi (p + f (10 + 18 * v + 3))] I1 b u ∧
        MtP G yX1_coins cX1_coins 5 (some .int) 0 [vr 70, vr 1, vi v, vi (p + f (10 + 18 * v + 3)), vi u] I1 b (gDr f l v p) := by
    intro v p I1 vl p0 p1 hf hT
    have hl1 : LN I1 f := LN.same hw hl (fun c c1 c2 => hf c (by omega))
    have d0 := hd v (by omega)
    have es := hss v
    have sb := hsd (v + 1) (by omega)
    obtain ⟨t, ht⟩ : ∃ t, p + f (10 + 18 * (v : Int) + 3) = t := ⟨_, rfl⟩
    have hg : ∀ p', 0 ≤ p' → p' ≤ t → I1 (73 + ((v : Int) + 1).toNat) p' = gDr f l (v + 1) p' ∧ (0 ≤ gDr f l (v + 1) p' ∧ gDr f l (v + 1) p' ≤ 10000) := fun p' q0 q1 => by
      have e2 : ((v : Int) + 1).toNat = v + 1 := by omega
      refine ⟨hT (v + 1) (by omega) (by omega) p' q0 ?_, hgd _ _ (by omega) q0 (fun _ => by rw [e2]; omega)⟩
      by_cases e : (v : Int) + 1 ≤ l
      · rw [if_pos e, e2]; omega
      · rw [if_neg e]; omega
    have hlb := c_X1_leastBest (G := G) (b := b) hw hl1 v t (gDr f l (v + 1)) (by omega) (by omega) (by omega) (by omega) hg
    have eh : (fun c : Int => c * clq f v + gDr f l (v + 1) (t - c)) = hcl f (lmq f) l v t := funext fun c => hcl_gD.symm
    rw [eh, hl0] at hlb
    have ecl : cl f (lmq f) (l - v).toNat v p = scm (hcl f (lmq f) l v t) (msl (lmq f) l v t) (t - msl (lmq f) l v t).toNat := by
      rw [cl_h (f := f) (lm := lmq f) (l := l) (v := (v : Int)) (p := p) vl, show p + dq f (v : Int) = t from ht]
    have mb : 0 ≤ msl (lmq f) l v t ∧ msl (lmq f) l v t ≤ t := by
      unfold msl
      by_cases c : (v : Int) < l
      · rw [if_pos c]
        exact mst_bd (by omega) (by have := (hw.fact (v := (v : Int) + 1) (by omega) (by omega)).2.2.2.2.1.1; exact this)
      · rw [if_neg c]; omega
    obtain ⟨u, u0, u1, eu⟩ := scm_mem (hcl f (lmq f) l v t) (msl (lmq f) l v t) (t - msl (lmq f) l v t).toNat
    rw [eu] at ecl hlb
    rw [ht]
    have hu : 0 ≤ u ∧ u ≤ t := by omega
    have gu := hg (t - u) (by omega) (by omega)
    have hco := c_X1_coins (G := G) (b := b) hw hl1 v t u _ (by omega) (by omega) hu.1 hu.2 (by omega) gu.1 gu.2.1 gu.2.2
    have ego : u * clq f v + gDr f l (v + 1) (t - u) = gDr f l v p := by
      rw [← hcl_gD]
      unfold gDr
      rw [if_pos vl, ecl]
    rw [ego] at hco
    exact ⟨u, hu, ecl, hlb, hco⟩
  -- what each cleans
  have L4 : ∀ (m v : Nat) (I1 : Ints), ((v + m : Nat) : Int) = f 0 → (∀ c, (c < 71 ∨ 79 < c) → I1 c = I c) → mDr f l I1 0 → (∀ u : Int, 0 ≤ u → u < v → I1 71 u = ccl f u) → J 137 [vr 70, vr 1, vi l, vu, vi (cab f v), vi v, vu] [] (mk I1 b) := by
    intro m
    induction m with
    | zero =>
      intro v I1 vm hf hT hB
      have e0 := hT 0 (Int.le_refl _) (by omega) 0 (Int.le_refl _) (by
        split
        · exact Int.le_refl _
        · decide)
      refine mj_iload hJ dX1_clean_137 rfl ?_
      refine mj_iload_n hJ dX1_clean_139 rfl ?_
      refine mj_icmp_gt (tgt := 191) hJ dX1_clean_140 (by decide) (fun _ => ?_) (fun hno => absurd (by omega) hno)
      refine mj_aload_n hJ dX1_clean_191 rfl ?_
      refine mk_getR hJ dX1_clean_192 fw_X1_17 rfl (by decide) rfl rfl ?_
      refine mj_iconst hJ dX1_clean_195 (by decide) ?_
      refine mk_aald hJ dX1_clean_196 rfl (Or.inl rfl) (by omega) (by omega) (gr_72 (by omega) (by omega)).1 ?_
      refine mj_iconst hJ dX1_clean_197 (by decide) ?_
      refine mk_iald hJ dX1_clean_198 (gr_72 (b := true) (by omega) (by omega)).2 (by omega) (by omega) ?_
      rw [e0]
      refine hR _ _ _ _ _ dX1_clean_199 nar_i ⟨by rw [hl0], rfl, hf, fun u x y => hB u x (by omega)⟩
    | succ m ih =>
      intro v I1 vm hf hT hB
      have hl1 : LN I1 f := LN.same hw hl (fun c c1 c2 => hf c (by omega))
      have cb := cab_bd hw v (by omega)
      have cb2 := cab_bd hw (v + 1) (by omega)
      have sb := hsd (v + 1) (by omega)
      have sb0 := hsd v (by omega)
      have es := hss v
      have d0 := hd v (by omega)
      obtain ⟨u, hu, ecl, hlb, -⟩ := LBst v (cab f v) I1 (by omega) cb.1 cb.2 hf (fun w w0 w1 => hT w (by omega) w1)
      have ec1 : cab f (v + 1) = cab f v + f (10 + 18 * v + 3) - u := by
        show cab f v + dq f v - (cl f (lmq f) (f 0 - 1 - v).toNat v (cab f v)).2 = _
        rw [hl0, ecl]
        rfl
      have ecc : ccl f v = u := by
        unfold ccl
        rw [Int.toNat_natCast, hl0, ecl]
      refine mj_iload hJ dX1_clean_137 rfl ?_
      refine mj_iload_n hJ dX1_clean_139 rfl ?_
      refine mj_icmp_gt (tgt := 191) hJ dX1_clean_140 (by decide) (fun hyes => absurd hyes (by omega)) (fun _ => ?_)
      refine mj_iload hJ dX1_clean_143 rfl ?_
      refine mj_aload_n hJ dX1_clean_145 rfl ?_
      refine mk_getR hJ dX1_clean_146 fw_X1_26 rfl (by decide) rfl rfl ?_
      refine mj_iload hJ dX1_clean_149 rfl ?_
      refine mk_aald hJ dX1_clean_151 rfl (Or.inl rfl) (by omega) (by omega) (gr_2 (by omega) (by omega)).1 ?_
      refine mj_iconst hJ dX1_clean_152 (by decide) ?_
      refine mk_iald hJ dX1_clean_153 (gr_2 (b := true) (by omega) (by omega)).2 (by omega) (by omega) ?_
      rw [hl1.fact (by omega) (by omega) (by decide) (by decide)]
      first | refine ms_iadd hJ dX1_clean_154 (by omega) ?_ | refine mj_iadd hJ dX1_clean_154 ?_
      refine ms_istore (ls' := [_, _, _, _, _, _, _]) hJ dX1_clean_155 (by decide) rfl rfl ?_
      refine mj_aload_n hJ dX1_clean_157 rfl ?_
      refine mk_getR hJ dX1_clean_158 fw_X1_9 rfl (by decide) rfl rfl ?_
      refine mj_iload hJ dX1_clean_161 rfl ?_
      refine mj_aload_n hJ dX1_clean_163 rfl ?_
      refine mj_aload_n hJ dX1_clean_164 rfl ?_
      refine mj_iload hJ dX1_clean_165 rfl ?_
      refine mj_iload hJ dX1_clean_167 rfl ?_
      refine mk_Vp3 hJ dX1_clean_169 cw_X1_35 rfl rfl rfl rfl (Nat.le_of_ble_eq_true rfl) (by first | decide | omega) (hlb) ?_
      refine mk_iast hJ dX1_clean_172 rfl (by omega) (by omega) ?_
      refine mj_iload hJ dX1_clean_173 rfl ?_
      refine mj_aload_n hJ dX1_clean_175 rfl ?_
      refine mk_getR hJ dX1_clean_176 fw_X1_9 rfl (by decide) rfl rfl ?_
      refine mj_iload hJ dX1_clean_179 rfl ?_
      refine mk_iald hJ dX1_clean_181 rfl (by omega) (by omega) ?_
      rw [upI_at, if_pos rfl]
      first | refine ms_isub hJ dX1_clean_182 (by omega) ?_ | refine mj_isub hJ dX1_clean_182 ?_
      refine ms_istore (ls' := [_, _, _, _, _, _, _]) hJ dX1_clean_183 (by decide) rfl rfl ?_
      refine ms_iinc (ls' := [_, _, _, _, _, _, _]) hJ dX1_clean_185 rfl (by decide) rfl (wr_id (by omega)) rfl ?_
      refine mj_goto (tgt := 137) hJ dX1_clean_188 (by decide) ?_
      refine mj_drop (ls' := [_, _, _, vu, _, _, vu]) hJ ⟨Or.inl rfl, Or.inl rfl, Or.inl rfl, Or.inr rfl, Or.inl rfl, Or.inl rfl, Or.inr rfl, trivial⟩ ?_
      rw [← ec1, show (v : Int) + 1 = ((v + 1 : Nat) : Int) by omega]
      refine ih (v + 1) _ (by omega) (fun c hc => by rw [upI_ne (by omega)]; exact hf c hc) (fun w w0 w1 p q0 q1 => by rw [upI_ne (by omega)]; exact hT w w0 w1 p q0 q1) (fun u' x y => ?_)
      rw [upI_at]
      by_cases e : u' = v
      · subst e
        rw [if_pos rfl, ecc]
      · rw [if_neg e]
        exact hB u' x (by omega)
  -- the row of village v
  have L3 : ∀ v : Nat, (v : Int) ≤ l → (∀ I2 : Ints, (∀ c, (c < 71 ∨ 79 < c) → I2 c = I c) → mDr f l I2 v → J 125 [vr 70, vr 1, vi l, vi (sq (dq f) 0 v), vi v, vu, vu] [] (mk I2 b)) →
      ∀ (m : Nat) (p : Int) (I1 : Ints), 0 ≤ p → p + m = sq (dq f) 0 v + 1 → (∀ c, (c < 71 ∨ 79 < c) → I1 c = I c) → mDr f l I1 (v + 1) → (∀ p', 0 ≤ p' → p' < p → I1 (73 + v) p' = gDr f l v p') →
      J 71 [vr 70, vr 1, vi l, vi (sq (dq f) 0 v), vi v, vi p, vu] [] (mk I1 b) := by
    intro v vl kk m
    have sb0 := hsd v (by omega)
    have sb := hsd (v + 1) (by omega)
    have es := hss v
    have d0 := hd v (by omega)
    induction m with
    | zero =>
      intro p I1 p0 pm hf hT hB
      refine mj_iload hJ dX1_clean_71 rfl ?_
      refine mj_iload_n hJ dX1_clean_73 rfl ?_
      refine mj_icmp_gt (tgt := 125) hJ dX1_clean_74 (by decide) (fun _ => ?_) (fun hno => absurd (by omega) hno)
      refine mj_drop (ls' := [_, _, _, _, _, vu, vu]) hJ ⟨Or.inl rfl, Or.inl rfl, Or.inl rfl, Or.inl rfl, Or.inl rfl, Or.inr rfl, Or.inr rfl, trivial⟩ ?_
      refine kk I1 hf (fun w w0 w1 p' q0 q1 => ?_)
      by_cases e : w = v
      · subst e
        rw [if_pos vl, Int.toNat_natCast] at q1
        rw [Int.toNat_natCast]
        exact hB p' q0 (by omega)
      · exact hT w (by omega) w1 p' q0 q1
    | succ m ih =>
      intro p I1 p0 pm hf hT hB
      have hl1 : LN I1 f := LN.same hw hl (fun c c1 c2 => hf c (by omega))
      obtain ⟨u, hu, -, hlb, hco⟩ := LBst v p I1 vl p0 (by omega) hf hT
      have ih := ih (p + 1)
      refine mj_iload hJ dX1_clean_71 rfl ?_
      refine mj_iload_n hJ dX1_clean_73 rfl ?_
      refine mj_icmp_gt (tgt := 125) hJ dX1_clean_74 (by decide) (fun hyes => absurd hyes (by omega)) (fun _ => ?_)
      refine mj_iload hJ dX1_clean_77 rfl ?_
      refine mj_aload_n hJ dX1_clean_79 rfl ?_
      refine mk_getR hJ dX1_clean_80 fw_X1_26 rfl (by decide) rfl rfl ?_
      refine mj_iload hJ dX1_clean_83 rfl ?_
      refine mk_aald hJ dX1_clean_85 rfl (Or.inl rfl) (by omega) (by omega) (gr_2 (by omega) (by omega)).1 ?_
      refine mj_iconst hJ dX1_clean_86 (by decide) ?_
      refine mk_iald hJ dX1_clean_87 (gr_2 (b := true) (by omega) (by omega)).2 (by omega) (by omega) ?_
      rw [hl1.fact (by omega) (by omega) (by decide) (by decide)]
      first | refine ms_iadd hJ dX1_clean_88 (by omega) ?_ | refine mj_iadd hJ dX1_clean_88 ?_
      refine ms_istore (ls' := [_, _, _, _, _, _, _]) hJ dX1_clean_89 (by decide) rfl rfl ?_
      refine mj_aload_n hJ dX1_clean_91 rfl ?_
      refine mk_getR hJ dX1_clean_92 fw_X1_17 rfl (by decide) rfl rfl ?_
      refine mj_iload hJ dX1_clean_95 rfl ?_
      refine mk_aald hJ dX1_clean_97 rfl (Or.inl rfl) (by omega) (by omega) (gr_72 (by omega) (by omega)).1 ?_
      refine mj_iload hJ dX1_clean_98 rfl ?_
      refine mj_aload_n hJ dX1_clean_100 rfl ?_
      refine mj_aload_n hJ dX1_clean_101 rfl ?_
      refine mj_iload hJ dX1_clean_102 rfl ?_
      refine mj_iload hJ dX1_clean_104 rfl ?_
      refine mj_aload_n hJ dX1_clean_106 rfl ?_
      refine mj_aload_n hJ dX1_clean_107 rfl ?_
      refine mj_iload hJ dX1_clean_108 rfl ?_
      refine mj_iload hJ dX1_clean_110 rfl ?_
      refine mk_Vp3L hJ dX1_clean_112 cw_X1_35 rfl rfl rfl rfl (Nat.le_of_ble_eq_true rfl) (by first | decide | omega) (hlb) ?_
      refine mk_Vp4 hJ dX1_clean_115 cw_X1_39 rfl rfl rfl rfl (Nat.le_of_ble_eq_true rfl) (by first | decide | omega) (hco) ?_
      refine mk_iast hJ dX1_clean_118 (gr_72 (b := true) (by omega) (by omega)).2 (by omega) (by omega) ?_
      refine ms_iinc (ls' := [_, _, _, _, _, _, _]) hJ dX1_clean_119 rfl (by decide) rfl (wr_id (by omega)) rfl ?_
      refine mj_goto (tgt := 71) hJ dX1_clean_122 (by decide) ?_
      refine mj_drop (ls' := [_, _, _, _, _, _, vu]) hJ ⟨Or.inl rfl, Or.inl rfl, Or.inl rfl, Or.inl rfl, Or.inl rfl, Or.inl rfl, Or.inr rfl, trivial⟩ ?_
      rw [Int.toNat_natCast]
      refine ih _ (by omega) (by omega) (fun c hc => ?_) (fun w w0 w1 p' q0 q1 => ?_) (fun p' q0 q1 => ?_)
      · rw [upI_ne (by omega)]; exact hf c hc
      · rw [upI_ne (by omega)]; exact hT w w0 w1 p' q0 q1
      · rw [upI_at]
        by_cases e : p' = p
        · subst e
          rw [if_pos rfl]
        · rw [if_neg e]; exact hB p' q0 (by omega)
  have L2 : ∀ (m : Nat) (I1 : Ints), (m : Int) ≤ f 0 → (∀ c, (c < 71 ∨ 79 < c) → I1 c = I c) → mDr f l I1 m → J 51 [vr 70, vr 1, vi l, vi (sq (dq f) 0 m), vi ((m : Int) - 1), vu, vu] [] (mk I1 b) := by
    intro m
    induction m with
    | zero =>
      intro I1 hm hf hT
      refine mj_iload hJ dX1_clean_51 rfl ?_
      refine mj_if_lt (tgt := 131) hJ dX1_clean_53 (by decide) (fun _ => ?_) (fun hno => absurd (by omega) hno)
      refine mj_iconst hJ dX1_clean_131 (by decide) ?_
      refine ms_istore (ls' := [_, _, _, _, _, _, _]) hJ dX1_clean_132 (by decide) rfl rfl ?_
      refine mj_iconst hJ dX1_clean_134 (by decide) ?_
      refine ms_istore (ls' := [_, _, _, _, _, _, _]) hJ dX1_clean_135 (by decide) rfl rfl ?_
      refine mj_drop (ls' := [_, _, _, vu, _, _, vu]) hJ ⟨Or.inl rfl, Or.inl rfl, Or.inl rfl, Or.inr rfl, Or.inl rfl, Or.inl rfl, Or.inr rfl, trivial⟩ ?_
      exact L4 (f 0).toNat 0 I1 (by omega) hf hT (fun u x y => by omega)
    | succ v ih =>
      intro I1 hm hf hT
      have hl1 : LN I1 f := LN.same hw hl (fun c c1 c2 => hf c (by omega))
      have sb0 := hsd v (by omega)
      have sb := hsd (v + 1) (by omega)
      have es := hss v
      have d0 := hd v (by omega)
      rw [show ((v + 1 : Nat) : Int) - 1 = v by omega]
      refine mj_iload hJ dX1_clean_51 rfl ?_
      refine mj_if_lt (tgt := 131) hJ dX1_clean_53 (by decide) (fun hyes => absurd hyes (by omega)) (fun _ => ?_)
      refine mj_iload_n hJ dX1_clean_56 rfl ?_
      refine mj_aload_n hJ dX1_clean_57 rfl ?_
      refine mk_getR hJ dX1_clean_58 fw_X1_26 rfl (by decide) rfl rfl ?_
      refine mj_iload hJ dX1_clean_61 rfl ?_
      refine mk_aald hJ dX1_clean_63 rfl (Or.inl rfl) (by omega) (by omega) (gr_2 (by omega) (by omega)).1 ?_
      refine mj_iconst hJ dX1_clean_64 (by decide) ?_
      refine mk_iald hJ dX1_clean_65 (gr_2 (b := true) (by omega) (by omega)).2 (by omega) (by omega) ?_
      rw [hl1.fact (by omega) (by omega) (by decide) (by decide)]
      first | refine ms_isub hJ dX1_clean_66 (by omega) ?_ | refine mj_isub hJ dX1_clean_66 ?_
      rw [show sq (dq f) 0 (v + 1) - f (10 + 18 * (v : Int) + 3) = sq (dq f) 0 v by omega]
      refine ms_istore_n (ls' := [_, _, _, _, _, _, _]) hJ dX1_clean_67 (by decide) rfl rfl ?_
      refine mj_iconst hJ dX1_clean_68 (by decide) ?_
      refine ms_istore (ls' := [_, _, _, _, _, _, _]) hJ dX1_clean_69 (by decide) rfl rfl ?_
      refine L3 v (by omega) (fun I2 hf2 hT2 => ?_) (sq (dq f) 0 v + 1).toNat 0 I1 (Int.le_refl _) (by omega) hf hT (fun p' q0 q1 => by omega)
      refine ms_iinc (ls' := [_, _, _, _, _, _, _]) hJ dX1_clean_125 rfl (by decide) rfl (wr_id (by omega)) rfl ?_
      refine mj_goto (tgt := 51) hJ dX1_clean_128 (by decide) ?_
      rw [show (v : Int) + -1 = (v : Int) - 1 by omega]
      exact ih I2 (by omega) hf2 hT2
  have L1 : ∀ (m v : Nat), ((v + m : Nat) : Int) = f 0 → J 12 [vr 70, vr 1, vi l, vi (sq (dq f) 0 v), vi v, vu, vu] [] (mk I b) := by
    intro m
    induction m with
    | zero =>
      intro v vm
      refine mj_iload hJ dX1_clean_12 rfl ?_
      refine mj_iload_n hJ dX1_clean_14 rfl ?_
      refine mj_icmp_gt (tgt := 36) hJ dX1_clean_15 (by decide) (fun _ => ?_) (fun hno => absurd (by omega) hno)
      refine mj_aload_n hJ dX1_clean_36 rfl ?_
      refine mk_getR hJ dX1_clean_37 fw_X1_17 rfl (by decide) rfl rfl ?_
      refine mj_iload_n hJ dX1_clean_40 rfl ?_
      refine mj_iconst hJ dX1_clean_41 (by decide) ?_
      first | refine ms_iadd hJ dX1_clean_42 (by omega) ?_ | refine mj_iadd hJ dX1_clean_42 ?_
      refine mk_aald hJ dX1_clean_43 rfl (Or.inl rfl) (by omega) (by omega) (gr_72 (by omega) (by omega)).1 ?_
      refine mj_iconst hJ dX1_clean_44 (by decide) ?_
      refine mk_Sv2 hJ dX1_clean_45 cw_X1_29 rfl (Nat.le_of_ble_eq_true rfl) (by first | decide | omega) (c_fill (73 + (l + 1).toNat) 121 0 (gr_72 (b := true) (by omega) (by omega)).2 (by decide)) (fun I1 b1 hq9 => ?_)
      obtain ⟨rfl, e1⟩ := hq9
      refine mj_iload_n hJ dX1_clean_48 rfl ?_
      refine ms_istore (ls' := [_, _, _, _, _, _, _]) hJ dX1_clean_49 (by decide) rfl rfl ?_
      rw [show l = (v : Int) - 1 by omega] at *
      refine L2 v I1 (by omega) (fun c hc => by rw [e1, rowI_ne (by omega)]) (fun w w0 w1 p q0 q1 => ?_)
      have ew : w = v := by omega
      subst ew
      rw [if_neg (by omega)] at q1
      rw [e1, show 73 + ((v : Int) - 1 + 1).toNat = 73 + ((v : Int)).toNat by omega, rowI_at, if_pos (by omega)]
      unfold gDr
      rw [if_neg (by omega)]
    | succ m ih =>
      intro v vm
      have sb0 := hsd v (by omega)
      have sb := hsd (v + 1) (by omega)
      have es := hss v
      refine mj_iload hJ dX1_clean_12 rfl ?_
      refine mj_iload_n hJ dX1_clean_14 rfl ?_
      refine mj_icmp_gt (tgt := 36) hJ dX1_clean_15 (by decide) (fun hyes => absurd hyes (by omega)) (fun _ => ?_)
      refine mj_iload_n hJ dX1_clean_18 rfl ?_
      refine mj_aload_n hJ dX1_clean_19 rfl ?_
      refine mk_getR hJ dX1_clean_20 fw_X1_26 rfl (by decide) rfl rfl ?_
      refine mj_iload hJ dX1_clean_23 rfl ?_
      refine mk_aald hJ dX1_clean_25 rfl (Or.inl rfl) (by omega) (by omega) (gr_2 (by omega) (by omega)).1 ?_
      refine mj_iconst hJ dX1_clean_26 (by decide) ?_
      refine mk_iald hJ dX1_clean_27 (gr_2 (b := true) (by omega) (by omega)).2 (by omega) (by omega) ?_
      rw [hl.fact (by omega) (by omega) (by decide) (by decide)]
      first | refine ms_iadd hJ dX1_clean_28 (by omega) ?_ | refine mj_iadd hJ dX1_clean_28 ?_
      refine ms_istore_n (ls' := [_, _, _, _, _, _, _]) hJ dX1_clean_29 (by decide) rfl rfl ?_
      refine ms_iinc (ls' := [_, _, _, _, _, _, _]) hJ dX1_clean_30 rfl (by decide) rfl (wr_id (by omega)) rfl ?_
      refine mj_goto (tgt := 12) hJ dX1_clean_33 (by decide) ?_
      rw [← es, show (v : Int) + 1 = ((v + 1 : Nat) : Int) by omega]
      exact ih (v + 1) (by omega)
  refine mj_aload_n hJ dX1_clean_0 rfl ?_
  refine mk_getI (j' := 0) hJ dX1_clean_1 fw_X1_20 rfl (by decide) rfl rfl ?_
  rw [hl.1.1]
  refine mj_iconst hJ dX1_clean_4 (by decide) ?_
  first | refine ms_isub hJ dX1_clean_5 (by omega) ?_ | refine mj_isub hJ dX1_clean_5 ?_
  refine ms_istore_n (ls' := [_, _, _, _, _, _, _]) hJ dX1_clean_6 (by decide) rfl rfl ?_
  refine mj_iconst hJ dX1_clean_7 (by decide) ?_
  refine ms_istore_n (ls' := [_, _, _, _, _, _, _]) hJ dX1_clean_8 (by decide) rfl rfl ?_
  refine mj_iconst hJ dX1_clean_9 (by decide) ?_
  refine ms_istore (ls' := [_, _, _, _, _, _, _]) hJ dX1_clean_10 (by decide) rfl rfl ?_
  rw [hl0]
  exact L1 (f 0).toNat 0 (by omega)
theorem c_cleaning (hw : WN (N 112)) (hl : LN I (N 112)) (v : Int) : MtI G yX8_cleaning cX8_cleaning 3 (some .int) 3 [vr 0, vi v] I b (Xs I (F_cleaning N v)) := by
  refine mt_enterI (own := RX8) (ls0 := [vr 0, vi v, vu]) rfl (by decide +kernel) (Nat.le_of_ble_eq_true rfl) rfl rfl (fun J hJ hR => ?_)
  have hn := hw.nv
  have e0 := hl.1.1
  unfold F_cleaning at hR
  have K15 : (v = -1 ∨ (0 ≤ v ∧ v < N 112 0)) → J 15 [vr 0, vi v, vu] [] (mk I b) := by
    intro h
    rw [if_pos h] at hR
    refine mj_aload_n hJ dX8_cleaning_15 rfl ?_
    refine mk_getR hJ dX8_cleaning_16 fw_X8_40 rfl (by decide) rfl rfl ?_
    refine mj_aload_n hJ dX8_cleaning_19 rfl ?_
    refine mk_getR hJ dX8_cleaning_20 fw_X8_12 rfl (by decide) rfl rfl ?_
    refine mk_Vi1 hJ dX8_cleaning_23 cw_X8_178 rfl rfl rfl rfl (Nat.le_of_ble_eq_true rfl) (by first | decide | omega) (c_X1_clean hw hl) (fun z I1 b1 hq9 => ?_)
    obtain ⟨rfl, rfl, hf, hB⟩ := hq9
    have hS : SmC I I1 := fun c hc => hf c (by omega)
    have eg : gDr (N 112) (N 112 0 - 1) 0 0 = if N 112 0 = 0 then 0 else (cl (N 112) (lmq (N 112)) (N 112 0 - 1).toNat 0 0).1 := by
      unfold gDr
      by_cases c : N 112 0 = 0
      · rw [if_pos c, if_neg (by omega)]
      · rw [if_neg c, if_pos (by omega), Int.sub_zero]
    refine ms_istore_n (ls' := [_, _, _]) hJ dX8_cleaning_26 (by decide) rfl rfl ?_
    refine mj_iload_n hJ dX8_cleaning_27 rfl ?_
    refine mj_iconst hJ dX8_cleaning_28 (by decide) ?_
    refine mj_icmp_ne (tgt := 36) hJ dX8_cleaning_29 (by decide) (fun h2 => ?_) (fun h2 => ?_)
    · rw [if_neg (by omega)] at hR
      refine mj_aload_n hJ dX8_cleaning_36 rfl ?_
      refine mk_getR hJ dX8_cleaning_37 fw_X8_40 rfl (by decide) rfl rfl ?_
      refine mk_getR hJ dX8_cleaning_40 fw_X8_182 rfl (by decide) rfl rfl ?_
      refine mj_iload_n hJ dX8_cleaning_43 rfl ?_
      refine mk_iald hJ dX8_cleaning_44 rfl (by omega) (by omega) ?_
      rw [hB v (by omega) (by omega)]
      exact hR _ _ _ _ _ dX8_cleaning_45 nar_i ⟨rfl, hS⟩
    · rw [if_pos (by omega)] at hR
      refine mj_iload_n hJ dX8_cleaning_32 rfl ?_
      refine mj_goto (tgt := 45) hJ dX8_cleaning_33 (by decide) ?_
      exact hR _ _ _ _ _ dX8_cleaning_45 nar_i ⟨eg, hS⟩
  refine mj_iload_n hJ dX8_cleaning_0 rfl ?_
  refine mj_iconst hJ dX8_cleaning_1 (by decide) ?_
  refine mj_icmp_eq (tgt := 15) hJ dX8_cleaning_2 (by decide) (fun h1 => ?_) (fun h1 => ?_)
  · exact K15 (Or.inl h1)
  · refine mj_aload_n hJ dX8_cleaning_5 rfl ?_
    refine mj_iload_n hJ dX8_cleaning_6 rfl ?_
    refine mk_Vp1 hJ dX8_cleaning_7 cw_X8_101 rfl rfl rfl rfl (Nat.le_of_ble_eq_true rfl) (by first | decide | omega) (c_isVillage v (by rw [e0]; exact hn.1) (by rw [e0]; exact hn.2)) ?_
    rw [e0]
    by_cases h : 0 ≤ v ∧ v < N 112 0
    · rw [if_pos h]
      refine mj_if_ne (tgt := 15) hJ dX8_cleaning_10 (by decide) (fun _ => ?_) (fun hno => absurd hno (by decide))
      exact K15 (Or.inr h)
    · rw [if_neg h]
      rw [if_neg (by omega)] at hR
      refine mj_if_ne (tgt := 15) hJ dX8_cleaning_10 (by decide) (fun hyes => absurd (by decide) hyes) (fun _ => ?_)
      refine mj_iconst hJ dX8_cleaning_13 (by decide) ?_
      exact hR _ _ _ _ _ dX8_cleaning_14 nar_i ⟨rfl, SmC.rfl'⟩
end C7
