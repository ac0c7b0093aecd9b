/-! THE CLASS: what its cells hold of the land f (the row 'now' of the model) -/
def tb0 (j : Int) : Int := if j = 5 then 1 else 0
def tb1 (j : Int) : Int := if j = 0 then 12 else if j = 1 ∨ j = 4 then 99 else if j = 2 then 9 else if j = 3 then 20 else 9
def tb2 (j : Int) : Int := if j = 1 ∨ j = 4 then 99 else if j = 5 then 1 else 0
def tb3 (j : Int) : Int := if j = 1 ∨ j = 2 then 0 else if j = 3 ∨ j = 4 then 2 else if j = 5 then 3 else -1
def tb4L : List Int := [10, 11, 12, 13, 10, 20, 12, 13, 30, 11, 12, 13, 30, 40, 12, 41, 30, 11, 50, 13, 60, 40, 61, 41, 70, 71, 72, 73]
def tb4 (j : Int) : Int := tb4L.getD j.toNat 0
/-- the class's tables -/
def TBs (G : GE) : Prop := gT G 0 = (6, tb0) ∧ gT G 1 = (6, tb1) ∧ gT G 2 = (6, tb2) ∧ gT G 3 = (7, tb3) ∧ gT G 4 = (28, tb4)
def LD (I : Ints) (c1 c3 c10 c16 : Nat) (f : Int → Int) : Prop :=
  (I c1 0 = f 0 ∧ I c1 3 = f 1 ∧ I c1 5 = f 4 ∧ I c1 6 = f 5) ∧
  (∀ v k : Int, 0 ≤ v → v < f 0 → 0 ≤ k → k < 6 → I (c3 + v.toNat) k = f (10 + 18 * v + k)) ∧
  (∀ v n : Int, 0 ≤ v → v < f 0 → 0 ≤ n → n ≤ 12 → I (c10 + v.toNat) n = fst f v n.toNat) ∧
  (∀ y : Int, 0 ≤ y → y < f 1 → I c16 y = f (118 + y))
abbrev LN (I : Ints) (f : Int → Int) : Prop := LD I 1 3 10 16 f
theorem LD.fact {I : Ints} {c1 c3 c10 c16 : Nat} {f : Int → Int} (h : LD I c1 c3 c10 c16 f) {v k : Int} (h0 : 0 ≤ v) (h1 : v < f 0) (h2 : 0 ≤ k) (h3 : k < 6) : I (c3 + v.toNat) k = f (10 + 18 * v + k) := h.2.1 v k h0 h1 h2 h3
theorem LD.tog {I : Ints} {c1 c3 c10 c16 : Nat} {f : Int → Int} (h : LD I c1 c3 c10 c16 f) {v n : Int} (h0 : 0 ≤ v) (h1 : v < f 0) (h2 : 0 ≤ n) (h3 : n ≤ 12) : I (c10 + v.toNat) n = fst f v n.toNat := h.2.2.1 v n h0 h1 h2 h3
theorem LN.same {I I' : Ints} {f : Int → Int} (hw : WN f) (h : LN I f) (e : ∀ c, 1 ≤ c → c ≤ 16 → I' c = I c) : LN I' f := by
  have hn := hw.nv
  unfold LN LD
  rw [e 1 (by decide) (by decide), e 16 (by decide) (by decide)]
  refine ⟨h.1, fun v k h0 h1 h2 h3 => ?_, fun v n h0 h1 h2 h3 => ?_, h.2.2.2⟩
  · rw [e (3 + v.toNat) (by omega) (by omega)]; exact h.2.1 v k h0 h1 h2 h3
  · rw [e (10 + v.toNat) (by omega) (by omega)]; exact h.2.2.1 v n h0 h1 h2 h3
section C1
variable {G : GE} {I : Ints} {b : Bool} {f : Int → Int}
theorem c_max (x y : Int) : MtP G yJ9_max_7cf53 cJ9_max_7cf53 2 (some .int) 0 [vi x, vi y] I b (max x y) := by
  refine mt_enterIF (own := RJ9) (ls0 := [vi x, vi y]) rfl (by decide +kernel) (Nat.le_of_ble_eq_true rfl) rfl rfl (fun J hJ hR => ?_)
  refine mj_iload_n hJ dJ9_max_7cf53_0 rfl ?_
  refine mj_iload_n hJ dJ9_max_7cf53_1 rfl ?_
  refine mj_icmp_lt (tgt := 9) hJ dJ9_max_7cf53_2 (by decide) (fun h => ?_) (fun h => ?_)
  · refine mj_iload_n hJ dJ9_max_7cf53_9 rfl ?_
    exact hR _ _ _ _ _ dJ9_max_7cf53_10 nar_i ⟨by omega, rfl, rfl⟩
  · refine mj_iload_n hJ dJ9_max_7cf53_5 rfl ?_
    refine mj_goto (tgt := 10) hJ dJ9_max_7cf53_6 (by decide) ?_
    exact hR _ _ _ _ _ dJ9_max_7cf53_10 nar_i ⟨by omega, rfl, rfl⟩
theorem c_min (x y : Int) : MtP G yJ9_min_7cf53 cJ9_min_7cf53 2 (some .int) 0 [vi x, vi y] I b (min x y) := by
  refine mt_enterIF (own := RJ9) (ls0 := [vi x, vi y]) rfl (by decide +kernel) (Nat.le_of_ble_eq_true rfl) rfl rfl (fun J hJ hR => ?_)
  refine mj_iload_n hJ dJ9_min_7cf53_0 rfl ?_
  refine mj_iload_n hJ dJ9_min_7cf53_1 rfl ?_
  refine mj_icmp_gt (tgt := 9) hJ dJ9_min_7cf53_2 (by decide) (fun h => ?_) (fun h => ?_)
  · refine mj_iload_n hJ dJ9_min_7cf53_9 rfl ?_
    exact hR _ _ _ _ _ dJ9_min_7cf53_10 nar_i ⟨by omega, rfl, rfl⟩
  · refine mj_iload_n hJ dJ9_min_7cf53_5 rfl ?_
    refine mj_goto (tgt := 10) hJ dJ9_min_7cf53_6 (by decide) ?_
    exact hR _ _ _ _ _ dJ9_min_7cf53_10 nar_i ⟨by omega, rfl, rfl⟩
theorem c_fill (k n : Nat) (z : Int) (hk : S0[k]? = some (16, n)) (hn : n < 2000) : MtV G yJ7_fill_53178 cJ7_fill_53178 4 0 [vr k, vi z] I b (fun I' b' => b' = b ∧ I' = rowI I k (fun j => if 0 ≤ j ∧ j < n then z else I k j)) := by
  refine mt_enterV (own := RJ7) (ls0 := [vr k, vi z, vu, vu]) rfl (by decide +kernel) (Nat.le_of_ble_eq_true rfl) rfl (fun J hJ hR => ?_)
  have loop : ∀ (m : Nat) (i : Int) (I1 : Ints), 0 ≤ i → i + m = n → (∀ c, c ≠ k → I1 c = I c) → (∀ j, I1 k j = if 0 ≤ j ∧ j < i then z else I k j) → J 5 [vr k, vi z, vi i, vi n] [] (mk I1 b) := by
    intro m
    induction m with
    | zero =>
      intro i I1 i0 im hf hr
      have ek : i = n := by omega
      subst ek
      refine mj_iload_n hJ dJ7_fill_53178_5 rfl ?_
      refine mj_iload_n hJ dJ7_fill_53178_6 rfl ?_
      refine mj_icmp_ge (tgt := 20) hJ dJ7_fill_53178_7 (by decide) (fun _ => ?_) (fun hno => absurd (by omega) hno)
      refine hR _ _ _ _ dJ7_fill_53178_20 ⟨rfl, ?_⟩
      funext c
      by_cases hc : c = k
      · subst hc
        rw [rowI_at]
        exact funext hr
      · rw [rowI_ne hc, hf c hc]
    | succ m ih =>
      intro i I1 i0 im hf hr
      refine mj_iload_n hJ dJ7_fill_53178_5 rfl ?_
      refine mj_iload_n hJ dJ7_fill_53178_6 rfl ?_
      refine mj_icmp_ge (tgt := 20) hJ dJ7_fill_53178_7 (by decide) (fun hyes => absurd hyes (by omega)) (fun _ => ?_)
      refine mj_aload_n hJ dJ7_fill_53178_10 rfl ?_
      refine mj_iload_n hJ dJ7_fill_53178_11 rfl ?_
      refine mj_iload_n hJ dJ7_fill_53178_12 rfl ?_
      refine mk_iast hJ dJ7_fill_53178_13 (by assumption) (by omega) (by omega) ?_
      refine ms_iinc (ls' := [_, _, _, _]) hJ dJ7_fill_53178_14 rfl (by decide) rfl (wr_id (by omega)) rfl ?_
      refine mj_goto (tgt := 5) hJ dJ7_fill_53178_17 (by decide) ?_
      refine ih (i + 1) _ (by omega) (by omega) (fun c hc => (upI_ne hc).trans (hf c hc)) (fun j => ?_)
      rw [upI_at, hr]
      by_cases e : j = i
      · subst e
        rw [if_pos rfl, if_pos (by omega)]
      · rw [if_neg e]
        by_cases q : 0 ≤ j ∧ j < i
        · rw [if_pos q, if_pos (by omega)]
        · rw [if_neg q, if_neg (by omega)]
  refine mj_iconst hJ dJ7_fill_53178_0 (by decide) ?_
  refine ms_istore_n (ls' := [_, _, _, _]) hJ dJ7_fill_53178_1 (by decide) rfl rfl ?_
  refine mj_aload_n hJ dJ7_fill_53178_2 rfl ?_
  refine mk_alen hJ dJ7_fill_53178_3 (by assumption) (by first | decide | omega) ?_
  refine ms_istore_n (ls' := [_, _, _, _]) hJ dJ7_fill_53178_4 (by decide) rfl rfl ?_
  exact loop n 0 I (by omega) (by omega) (fun _ _ => rfl) (fun j => by rw [if_neg (by omega)])
theorem c_within (x lo hi : Int) : MtP G yX8_within cX8_within 3 (some .boolean) 0 [vi x, vi lo, vi hi] I b (if lo ≤ x ∧ x ≤ hi then 1 else 0) := by
  refine mt_enterI (own := RX8) (ls0 := [vi x, vi lo, vi hi]) rfl (by decide +kernel) (Nat.le_of_ble_eq_true rfl) rfl rfl (fun J hJ hR => ?_)
  refine mj_iload_n hJ dX8_within_0 rfl ?_
  refine mj_iload_n hJ dX8_within_1 rfl ?_
  refine mj_icmp_gt (tgt := 14) hJ dX8_within_2 (by decide) (fun h => ?_) (fun h => ?_)
  · refine mj_iconst hJ dX8_within_14 (by decide) ?_
    exact hR _ _ _ _ _ dX8_within_15 (nar_z (by first | exact Or.inl rfl | exact Or.inr rfl | assumption | omega)) ⟨by rw [if_neg (by omega)], rfl, rfl⟩
  · refine mj_iload_n hJ dX8_within_5 rfl ?_
    refine mj_iload_n hJ dX8_within_6 rfl ?_
    refine mj_icmp_gt (tgt := 14) hJ dX8_within_7 (by decide) (fun h2 => ?_) (fun h2 => ?_)
    · refine mj_iconst hJ dX8_within_14 (by decide) ?_
      exact hR _ _ _ _ _ dX8_within_15 (nar_z (by first | exact Or.inl rfl | exact Or.inr rfl | assumption | omega)) ⟨by rw [if_neg (by omega)], rfl, rfl⟩
    · refine mj_iconst hJ dX8_within_10 (by decide) ?_
      refine mj_goto (tgt := 15) hJ dX8_within_11 (by decide) ?_
      exact hR _ _ _ _ _ dX8_within_15 (nar_z (by first | exact Or.inl rfl | exact Or.inr rfl | assumption | omega)) ⟨by rw [if_pos (by omega)], rfl, rfl⟩
theorem dec_bit {P : Prop} [Decidable P] : (if P then (1 : Int) else 0) = 0 ∨ (if P then (1 : Int) else 0) = 1 := by
  by_cases h : P
  · rw [if_pos h]; exact Or.inr rfl
  · rw [if_neg h]; exact Or.inl rfl
theorem c_isWet (w : Int) : MtP G yX8_isWet cX8_isWet 1 (some .boolean) 1 [vi w] I b (if 0 ≤ w ∧ w ≤ 20 then 1 else 0) := by
  refine mt_enterI (own := RX8) (ls0 := [vi w]) rfl (by decide +kernel) (Nat.le_of_ble_eq_true rfl) rfl rfl (fun J hJ hR => ?_)
  refine mj_iload_n hJ dX8_isWet_0 rfl ?_
  refine mj_iconst hJ dX8_isWet_1 (by decide) ?_
  refine mj_bipush hJ dX8_isWet_2 (by decide) ?_
  refine mk_Sp3 hJ dX8_isWet_4 cw_X8_105 rfl (Nat.le_of_ble_eq_true rfl) (by first | decide | omega) (c_within w 0 20) ?_
  have hb := dec_bit (P := 0 ≤ w ∧ w ≤ 20)
  exact hR _ _ _ _ _ dX8_isWet_7 (nar_z (by first | exact Or.inl rfl | exact Or.inr rfl | assumption | omega)) ⟨rfl, rfl, rfl⟩
theorem c_isSheet (w : Int) : MtP G yX8_isSheet cX8_isSheet 1 (some .boolean) 1 [vi w] I b (if 0 ≤ w ∧ w ≤ 3 then 1 else 0) := by
  refine mt_enterI (own := RX8) (ls0 := [vi w]) rfl (by decide +kernel) (Nat.le_of_ble_eq_true rfl) rfl rfl (fun J hJ hR => ?_)
  refine mj_iload_n hJ dX8_isSheet_0 rfl ?_
  refine mj_iconst hJ dX8_isSheet_1 (by decide) ?_
  refine mj_iconst hJ dX8_isSheet_2 (by decide) ?_
  refine mk_Sp3 hJ dX8_isSheet_3 cw_X8_105 rfl (Nat.le_of_ble_eq_true rfl) (by first | decide | omega) (c_within w 0 3) ?_
  have hb := dec_bit (P := 0 ≤ w ∧ w ≤ 3)
  exact hR _ _ _ _ _ dX8_isSheet_6 (nar_z (by first | exact Or.inl rfl | exact Or.inr rfl | assumption | omega)) ⟨rfl, rfl, rfl⟩
theorem c_isShelf (w : Int) : MtP G yX8_isShelf cX8_isShelf 1 (some .boolean) 1 [vi w] I b (if 0 ≤ w ∧ w ≤ 3 then 1 else 0) := by
  refine mt_enterI (own := RX8) (ls0 := [vi w]) rfl (by decide +kernel) (Nat.le_of_ble_eq_true rfl) rfl rfl (fun J hJ hR => ?_)
  refine mj_iload_n hJ dX8_isShelf_0 rfl ?_
  refine mj_iconst hJ dX8_isShelf_1 (by decide) ?_
  refine mj_iconst hJ dX8_isShelf_2 (by decide) ?_
  refine mk_Sp3 hJ dX8_isShelf_3 cw_X8_105 rfl (Nat.le_of_ble_eq_true rfl) (by first | decide | omega) (c_within w 0 3) ?_
  have hb := dec_bit (P := 0 ≤ w ∧ w ≤ 3)
  exact hR _ _ _ _ _ dX8_isShelf_6 (nar_z (by first | exact Or.inl rfl | exact Or.inr rfl | assumption | omega)) ⟨rfl, rfl, rfl⟩
theorem c_isFact (hT : TBs G) (w n : Int) (w0 : 0 ≤ w) (w1 : w ≤ 5) : MtP G yX8_isFact cX8_isFact 2 (some .boolean) 1 [vi w, vi n] I b (if (if w = 5 then 1 else 0) ≤ n ∧ n ≤ (if w = 0 then 12 else if w = 1 ∨ w = 4 then 99 else if w = 2 then 9 else if w = 3 then 20 else 9) then 1 else 0) := by
  refine mt_enterI (own := RX8) (ls0 := [vi w, vi n]) rfl (by decide +kernel) (Nat.le_of_ble_eq_true rfl) rfl rfl (fun J hJ hR => ?_)
  obtain ⟨h0, h1, -⟩ := hT
  have i0 : inR (tb0 w) := by unfold inR tb0; split <;> omega
  have i1 : inR (tb1 w) := by unfold inR tb1; repeat' split
                              all_goals omega
  refine mj_iload_n hJ dX8_isFact_0 rfl ?_
  refine mj_gst (t := 0) hJ dX8_isFact_1 (by decide) gs_X8_306 ?_
  refine mj_iload_n hJ dX8_isFact_4 rfl ?_
  refine mj_tald (t := 0) hJ dX8_isFact_5 (by decide) (by assumption) (by omega) (by omega) (by assumption) ?_
  refine mj_gst (t := 1) hJ dX8_isFact_6 (by decide) gs_X8_309 ?_
  refine mj_iload_n hJ dX8_isFact_9 rfl ?_
  refine mj_tald (t := 1) hJ dX8_isFact_10 (by decide) (by assumption) (by omega) (by omega) (by assumption) ?_
  refine mk_Sp3 hJ dX8_isFact_11 cw_X8_105 rfl (Nat.le_of_ble_eq_true rfl) (by first | decide | omega) (c_within n (tb0 w) (tb1 w)) ?_
  have hb := dec_bit (P := tb0 w ≤ n ∧ n ≤ tb1 w)
  exact hR _ _ _ _ _ dX8_isFact_14 (nar_z (by first | exact Or.inl rfl | exact Or.inr rfl | assumption | omega)) ⟨rfl, rfl, rfl⟩
theorem c_isVillage (v : Int) (h0 : 0 ≤ I 1 0) (h6 : I 1 0 ≤ 6) : MtP G yX8_isVillage cX8_isVillage 2 (some .boolean) 1 [vr 0, vi v] I b (if 0 ≤ v ∧ v < I 1 0 then 1 else 0) := by
  refine mt_enterI (own := RX8) (ls0 := [vr 0, vi v]) rfl (by decide +kernel) (Nat.le_of_ble_eq_true rfl) rfl rfl (fun J hJ hR => ?_)
  refine mj_iload_n hJ dX8_isVillage_0 rfl ?_
  refine mj_iconst hJ dX8_isVillage_1 (by decide) ?_
  refine mj_aload_n hJ dX8_isVillage_2 rfl ?_
  refine mk_getR hJ dX8_isVillage_3 fw_X8_12 rfl (by decide) rfl rfl ?_
  refine mk_getI (j' := 0) hJ dX8_isVillage_6 fw_X8_94 rfl (by decide) rfl rfl ?_
  refine mj_iconst hJ dX8_isVillage_9 (by decide) ?_
  first | refine ms_isub hJ dX8_isVillage_10 (by omega) ?_ | refine mj_isub hJ dX8_isVillage_10 ?_
  refine mk_Sp3 hJ dX8_isVillage_11 cw_X8_105 rfl (Nat.le_of_ble_eq_true rfl) (by first | decide | omega) (c_within v 0 (I 1 0 - 1)) ?_
  have hb := dec_bit (P := 0 ≤ v ∧ v ≤ I 1 0 - 1)
  have e : (if 0 ≤ v ∧ v ≤ I 1 0 - 1 then (1 : Int) else 0) = if 0 ≤ v ∧ v < I 1 0 then 1 else 0 := by
    by_cases c : 0 ≤ v ∧ v < I 1 0
    · rw [if_pos c, if_pos (by omega)]
    · rw [if_neg c, if_neg (by omega)]
  exact hR _ _ _ _ _ dX8_isVillage_14 (nar_z (by first | exact Or.inl rfl | exact Or.inr rfl | assumption | omega)) ⟨e, rfl, rfl⟩
theorem c_isYear (v : Int) (h0 : 0 ≤ I 1 3) (h6 : I 1 3 ≤ 6) : MtP G yX8_isYear cX8_isYear 2 (some .boolean) 1 [vr 0, vi v] I b (if 0 ≤ v ∧ v < I 1 3 then 1 else 0) := by
  refine mt_enterI (own := RX8) (ls0 := [vr 0, vi v]) rfl (by decide +kernel) (Nat.le_of_ble_eq_true rfl) rfl rfl (fun J hJ hR => ?_)
  refine mj_iload_n hJ dX8_isYear_0 rfl ?_
  refine mj_iconst hJ dX8_isYear_1 (by decide) ?_
  refine mj_aload_n hJ dX8_isYear_2 rfl ?_
  refine mk_getR hJ dX8_isYear_3 fw_X8_12 rfl (by decide) rfl rfl ?_
  refine mk_getI (j' := 3) hJ dX8_isYear_6 fw_X8_185 rfl (by decide) rfl rfl ?_
  refine mj_iconst hJ dX8_isYear_9 (by decide) ?_
  first | refine ms_isub hJ dX8_isYear_10 (by omega) ?_ | refine mj_isub hJ dX8_isYear_10 ?_
  refine mk_Sp3 hJ dX8_isYear_11 cw_X8_105 rfl (Nat.le_of_ble_eq_true rfl) (by first | decide | omega) (c_within v 0 (I 1 3 - 1)) ?_
  have hb := dec_bit (P := 0 ≤ v ∧ v ≤ I 1 3 - 1)
  have e : (if 0 ≤ v ∧ v ≤ I 1 3 - 1 then (1 : Int) else 0) = if 0 ≤ v ∧ v < I 1 3 then 1 else 0 := by
    by_cases c : 0 ≤ v ∧ v < I 1 3
    · rw [if_pos c, if_pos (by omega)]
    · rw [if_neg c, if_neg (by omega)]
  exact hR _ _ _ _ _ dX8_isYear_14 (nar_z (by first | exact Or.inl rfl | exact Or.inr rfl | assumption | omega)) ⟨e, rfl, rfl⟩
theorem c_isRowPart (i w : Int) (h0 : 0 ≤ I 0 9) (h6 : I 0 9 ≤ 6) : MtP G yX8_isRowPart cX8_isRowPart 3 (some .boolean) 1 [vr 0, vi i, vi w] I b (if (0 ≤ i ∧ i < I 0 9) ∧ (0 ≤ w ∧ w ≤ 2) then 1 else 0) := by
  refine mt_enterI (own := RX8) (ls0 := [vr 0, vi i, vi w]) rfl (by decide +kernel) (Nat.le_of_ble_eq_true rfl) rfl rfl (fun J hJ hR => ?_)
  refine mj_iload_n hJ dX8_isRowPart_0 rfl ?_
  refine mj_iconst hJ dX8_isRowPart_1 (by decide) ?_
  refine mj_aload_n hJ dX8_isRowPart_2 rfl ?_
  refine mk_getI (j' := 9) hJ dX8_isRowPart_3 fw_X8_60 rfl (by decide) rfl rfl ?_
  refine mj_iconst hJ dX8_isRowPart_6 (by decide) ?_
  first | refine ms_isub hJ dX8_isRowPart_7 (by omega) ?_ | refine mj_isub hJ dX8_isRowPart_7 ?_
  refine mk_Sp3 hJ dX8_isRowPart_8 cw_X8_105 rfl (Nat.le_of_ble_eq_true rfl) (by first | decide | omega) (c_within i 0 (I 0 9 - 1)) ?_
  by_cases c : 0 ≤ i ∧ i < I 0 9
  · rw [if_pos (by omega)]
    refine mj_if_eq (tgt := 27) hJ dX8_isRowPart_11 (by decide) (fun hyes => absurd hyes (by decide)) (fun _ => ?_)
    refine mj_iload_n hJ dX8_isRowPart_14 rfl ?_
    refine mj_iconst hJ dX8_isRowPart_15 (by decide) ?_
    refine mj_iconst hJ dX8_isRowPart_16 (by decide) ?_
    refine mk_Sp3 hJ dX8_isRowPart_17 cw_X8_105 rfl (Nat.le_of_ble_eq_true rfl) (by first | decide | omega) (c_within w 0 2) ?_
    by_cases c2 : 0 ≤ w ∧ w ≤ 2
    · rw [if_pos c2]
      refine mj_if_eq (tgt := 27) hJ dX8_isRowPart_20 (by decide) (fun hyes => absurd hyes (by decide)) (fun _ => ?_)
      refine mj_iconst hJ dX8_isRowPart_23 (by decide) ?_
      refine mj_goto (tgt := 28) hJ dX8_isRowPart_24 (by decide) ?_
      exact hR _ _ _ _ _ dX8_isRowPart_28 (nar_z (by first | exact Or.inl rfl | exact Or.inr rfl | assumption | omega)) ⟨by rw [if_pos ⟨c, c2⟩], rfl, rfl⟩
    · rw [if_neg c2]
      refine mj_if_eq (tgt := 27) hJ dX8_isRowPart_20 (by decide) (fun _ => ?_) (fun hno => absurd rfl hno)
      refine mj_iconst hJ dX8_isRowPart_27 (by decide) ?_
      exact hR _ _ _ _ _ dX8_isRowPart_28 (nar_z (by first | exact Or.inl rfl | exact Or.inr rfl | assumption | omega)) ⟨by rw [if_neg (fun q => c2 q.2)], rfl, rfl⟩
  · rw [if_neg (by omega)]
    refine mj_if_eq (tgt := 27) hJ dX8_isRowPart_11 (by decide) (fun _ => ?_) (fun hno => absurd rfl hno)
    refine mj_iconst hJ dX8_isRowPart_27 (by decide) ?_
    exact hR _ _ _ _ _ dX8_isRowPart_28 (nar_z (by first | exact Or.inl rfl | exact Or.inr rfl | assumption | omega)) ⟨by rw [if_neg (fun q => c q.1)], rfl, rfl⟩
theorem c_X2_made (hw : WN f) (hl : LN I f) (v u p : Int) (h0 : 0 ≤ v) (h1 : v < f 0) (u0 : 0 ≤ u) (u1 : u ≤ 12) (p0 : 0 ≤ p) (p1 : p ≤ 200) : MtP G yX2_made cX2_made 4 (some .int) 1 [vr 1, vi v, vi u, vi p] I b (mde f v u p) := by
  refine mt_enterI (own := RX2) (ls0 := [vr 1, vi v, vi u, vi p]) rfl (by decide +kernel) (Nat.le_of_ble_eq_true rfl) rfl rfl (fun J hJ hR => ?_)
  have hn := hw.nv
  have a := hw.fact h0 (by omega)
  have fb := fst_bd hw h0 (by omega) u.toNat (by omega)
  have e1 := hl.fact h0 h1 (k := 1) (by decide) (by decide)
  have e2 := hl.fact h0 h1 (k := 2) (by decide) (by decide)
  have e3 := hl.tog h0 h1 u0 u1
  refine mj_aload_n hJ dX2_made_0 rfl ?_
  refine mk_getR hJ dX2_made_1 fw_X2_20 rfl (by decide) rfl rfl ?_
  refine mj_iload_n hJ dX2_made_4 rfl ?_
  refine mk_aald hJ dX2_made_5 rfl (Or.inl rfl) (by omega) (by omega) (gr_9 (by omega) (by omega)).1 ?_
  refine mj_iload_n hJ dX2_made_6 rfl ?_
  refine mk_iald hJ dX2_made_7 (gr_9 (b := true) (by omega) (by omega)).2 (by omega) (by omega) ?_
  rw [e3]
  refine mj_aload_n hJ dX2_made_8 rfl ?_
  refine mk_getR hJ dX2_made_9 fw_X2_17 rfl (by decide) rfl rfl ?_
  refine mj_iload_n hJ dX2_made_12 rfl ?_
  refine mk_aald hJ dX2_made_13 rfl (Or.inl rfl) (by omega) (by omega) (gr_2 (by omega) (by omega)).1 ?_
  refine mj_iconst hJ dX2_made_14 (by decide) ?_
  refine mk_iald hJ dX2_made_15 (gr_2 (b := true) (by omega) (by omega)).2 (by omega) (by omega) ?_
  rw [e2]
  refine mj_iconst hJ dX2_made_16 (by decide) ?_
  refine mj_iload_n hJ dX2_made_17 rfl ?_
  refine mj_aload_n hJ dX2_made_18 rfl ?_
  refine mk_getR hJ dX2_made_19 fw_X2_17 rfl (by decide) rfl rfl ?_
  refine mj_iload_n hJ dX2_made_22 rfl ?_
  refine mk_aald hJ dX2_made_23 rfl (Or.inl rfl) (by omega) (by omega) (gr_2 (by omega) (by omega)).1 ?_
  refine mj_iconst hJ dX2_made_24 (by decide) ?_
  refine mk_iald hJ dX2_made_25 (gr_2 (b := true) (by omega) (by omega)).2 (by omega) (by omega) ?_
  rw [e1]
  first | refine ms_isub hJ dX2_made_26 (by omega) ?_ | refine mj_isub hJ dX2_made_26 ?_
  refine mk_Sp2 hJ dX2_made_27 cw_X2_58 rfl (Nat.le_of_ble_eq_true rfl) (by first | decide | omega) (c_max 0 (p - f (10 + 18 * v + 1))) ?_
  have m := mul_bd (a := f (10 + 18 * v + 2)) (b := max 0 (p - f (10 + 18 * v + 1))) (A := 9) (B := 200) a.2.2.1.1 a.2.2.1.2 (by omega) (by omega)
  first | refine ms_imul hJ dX2_made_30 (by omega) ?_ | refine mj_imul hJ dX2_made_30 ?_
  first | refine ms_isub hJ dX2_made_31 (by omega) ?_ | refine mj_isub hJ dX2_made_31 ?_
  refine hR _ _ _ _ _ dX2_made_32 nar_i ⟨?_, rfl, rfl⟩
  unfold mde hrm
  by_cases c : 0 < p - f (10 + 18 * v + 1)
  · rw [if_pos c, show max 0 (p - f (10 + 18 * v + 1)) = p - f (10 + 18 * v + 1) by omega, Int.mul_comm]
  · rw [if_neg c, show max 0 (p - f (10 + 18 * v + 1)) = 0 by omega, Int.mul_zero]
theorem c_X2_wanted (hw : WN f) (hl : LN I f) (v t : Int) (h0 : 0 ≤ v) (h1 : v < f 0) : MtP G yX2_wanted cX2_wanted 4 (some .int) 0 [vr 1, vi v, vi t] I b (cu f v t) := by
  refine mt_enterI (own := RX2) (ls0 := [vr 1, vi v, vi t, vu]) rfl (by decide +kernel) (Nat.le_of_ble_eq_true rfl) rfl rfl (fun J hJ hR => ?_)
  have hn := hw.nv
  have loop : ∀ (k : Nat) (u : Int), 0 ≤ u → u + k = 12 → cus f v t k u = cu f v t → J 2 [vr 1, vi v, vi t, vi u] [] (mk I b) := by
    intro k
    induction k with
    | zero =>
      intro u hu hk he
      refine mj_iload_n hJ dX2_wanted_2 rfl ?_
      refine mj_bipush hJ dX2_wanted_3 (by decide) ?_
      refine mj_icmp_ge (tgt := 40) hJ dX2_wanted_5 (by decide) (fun _ => ?_) (fun hno => absurd (by omega) hno)
      refine mj_iload_n hJ dX2_wanted_40 rfl ?_
      exact hR _ _ _ _ _ dX2_wanted_41 nar_i ⟨he, rfl, rfl⟩
    | succ k ih =>
      intro u hu hk he
      have e1 : cus f v t (k + 1) u = if u < 12 ∧ u < t ∧ 0 < f (10 + 18 * v + (6 + u)) then cus f v t k (u + 1) else u := rfl
      have g1 := hl.tog h0 h1 (n := u + 1) (by omega) (by omega)
      have g2 := hl.tog h0 h1 (n := u) (by omega) (by omega)
      have g3 : fst f v (u + 1).toNat = fst f v u.toNat + f (10 + 18 * v + (6 + u)) := by
        rw [show (u + 1).toNat = u.toNat + 1 by omega]
        show fst f v u.toNat + f (10 + 18 * v + (6 + (u.toNat : Int))) = _
        rw [show (u.toNat : Int) = u by omega]
      have fb := fst_bd hw h0 (by omega) u.toNat (by omega)
      have wb := hw.worth h0 (by omega) (k := u) (by omega) (by omega)
      refine mj_iload_n hJ dX2_wanted_2 rfl ?_
      refine mj_bipush hJ dX2_wanted_3 (by decide) ?_
      refine mj_icmp_ge (tgt := 40) hJ dX2_wanted_5 (by decide) (fun hyes => absurd hyes (by omega)) (fun _ => ?_)
      refine mj_iload_n hJ dX2_wanted_8 rfl ?_
      refine mj_iload_n hJ dX2_wanted_9 rfl ?_
      refine mj_icmp_ge (tgt := 40) hJ dX2_wanted_10 (by decide) (fun hc => ?_) (fun hc => ?_)
      · refine mj_iload_n hJ dX2_wanted_40 rfl ?_
        exact hR _ _ _ _ _ dX2_wanted_41 nar_i ⟨by rw [← he, e1, if_neg (by omega)], rfl, rfl⟩
      · refine mj_aload_n hJ dX2_wanted_13 rfl ?_
        refine mk_getR hJ dX2_wanted_14 fw_X2_20 rfl (by decide) rfl rfl ?_
        refine mj_iload_n hJ dX2_wanted_17 rfl ?_
        refine mk_aald hJ dX2_wanted_18 rfl (Or.inl rfl) (by omega) (by omega) (gr_9 (by omega) (by omega)).1 ?_
        refine mj_iload_n hJ dX2_wanted_19 rfl ?_
        refine mj_iconst hJ dX2_wanted_20 (by decide) ?_
        first | refine ms_iadd hJ dX2_wanted_21 (by omega) ?_ | refine mj_iadd hJ dX2_wanted_21 ?_
        refine mk_iald hJ dX2_wanted_22 (gr_9 (b := true) (by omega) (by omega)).2 (by omega) (by omega) ?_
        rw [g1]
        refine mj_aload_n hJ dX2_wanted_23 rfl ?_
        refine mk_getR hJ dX2_wanted_24 fw_X2_20 rfl (by decide) rfl rfl ?_
        refine mj_iload_n hJ dX2_wanted_27 rfl ?_
        refine mk_aald hJ dX2_wanted_28 rfl (Or.inl rfl) (by omega) (by omega) (gr_9 (by omega) (by omega)).1 ?_
        refine mj_iload_n hJ dX2_wanted_29 rfl ?_
        refine mk_iald hJ dX2_wanted_30 (gr_9 (b := true) (by omega) (by omega)).2 (by omega) (by omega) ?_
        rw [g2]
        refine mj_icmp_le (tgt := 40) hJ dX2_wanted_31 (by decide) (fun hd => ?_) (fun hd => ?_)
        · refine mj_iload_n hJ dX2_wanted_40 rfl ?_
          exact hR _ _ _ _ _ dX2_wanted_41 nar_i ⟨by rw [← he, e1, if_neg (by omega)], rfl, rfl⟩
        · refine ms_iinc (ls' := [_, _, _, _]) hJ dX2_wanted_34 rfl (by decide) rfl (wr_id (by omega)) rfl ?_
          refine mj_goto (tgt := 2) hJ dX2_wanted_37 (by decide) ?_
          exact ih (u + 1) (by omega) (by omega) (by rw [← he, e1, if_pos (by omega)])
  refine mj_iconst hJ dX2_wanted_0 (by decide) ?_
  refine ms_istore_n (ls' := [_, _, _, _]) hJ dX2_wanted_1 (by decide) rfl rfl ?_
  exact loop 12 0 (by omega) (by omega) rfl
/-- what comes in -/
theorem c_X7_fill (hw : WN f) (hl : LN I f) (w : Int) (w0 : 0 ≤ w) (w1 : w ≤ 20) : MtV G yX7_fill cX7_fill 4 0 [vr 43, vr 1, vi w] I b (fun I' b' => b' = b ∧ (∀ c, c ≠ 44 → I' c = I c) ∧ ∀ v, 0 ≤ v → v < f 0 → I' 44 v = infl f w v) := by
  refine mt_enterV (own := RX7) (ls0 := [vr 43, vr 1, vi w, vu]) rfl (by decide +kernel) (Nat.le_of_ble_eq_true rfl) rfl (fun J hJ hR => ?_)
  have hn := hw.nv
  have loop : ∀ (m : Nat) (v : Int) (I1 : Ints), 0 ≤ v → v + m = f 0 → (∀ c, c ≠ 44 → I1 c = I c) → (∀ u, 0 ≤ u → u < v → I1 44 u = infl f w u) → J 2 [vr 43, vr 1, vi w, vi v] [] (mk I1 b) := by
    intro m
    induction m with
    | zero =>
      intro v I1 v0 vm hf hr
      have e0 : I1 1 0 = f 0 := (congrFun (hf 1 (by decide)) 0).trans hl.1.1
      refine mj_iload_n hJ dX7_fill_2 rfl ?_
      refine mj_aload_n hJ dX7_fill_3 rfl ?_
      refine mk_getI (j' := 0) hJ dX7_fill_4 fw_X7_35 rfl (by decide) rfl rfl ?_
      rw [e0]
      refine mj_icmp_ge (tgt := 35) hJ dX7_fill_7 (by decide) (fun _ => ?_) (fun hno => absurd (by omega) hno)
      refine hR _ _ _ _ dX7_fill_35 ⟨rfl, hf, fun u x y => hr u x (by omega)⟩
    | succ m ih =>
      intro v I1 v0 vm hf hr
      have e0 : I1 1 0 = f 0 := (congrFun (hf 1 (by decide)) 0).trans hl.1.1
      have e1 := hl.fact v0 (by omega) (k := 0) (by decide) (by decide)
      have a := (hw.fact v0 (by omega)).1
      have m := mul_bd (a := f (10 + 18 * v + 0)) (b := w) a.1 a.2 w0 w1
      have nb := infl_bd hw v0 (by omega) w0 w1
      unfold infl at nb
      refine mj_iload_n hJ dX7_fill_2 rfl ?_
      refine mj_aload_n hJ dX7_fill_3 rfl ?_
      refine mk_getI (j' := 0) hJ dX7_fill_4 fw_X7_35 rfl (by decide) rfl rfl ?_
      rw [e0]
      refine mj_icmp_ge (tgt := 35) hJ dX7_fill_7 (by decide) (fun hyes => absurd hyes (by omega)) (fun _ => ?_)
      refine mj_aload_n hJ dX7_fill_10 rfl ?_
      refine mk_getR hJ dX7_fill_11 fw_X7_9 rfl (by decide) rfl rfl ?_
      refine mj_iload_n hJ dX7_fill_14 rfl ?_
      refine mj_aload_n hJ dX7_fill_15 rfl ?_
      refine mk_getR hJ dX7_fill_16 fw_X7_41 rfl (by decide) rfl rfl ?_
      refine mj_iload_n hJ dX7_fill_19 rfl ?_
      refine mk_aald hJ dX7_fill_20 rfl (Or.inl rfl) (by omega) (by omega) (gr_2 (by omega) (by omega)).1 ?_
      refine mj_iconst hJ dX7_fill_21 (by decide) ?_
      refine mk_iald hJ dX7_fill_22 (gr_2 (b := true) (by omega) (by omega)).2 (by omega) (by omega) ?_
      rw [hf _ (by omega), e1]
      refine mj_iload_n hJ dX7_fill_23 rfl ?_
      first | refine ms_imul hJ dX7_fill_24 (by omega) ?_ | refine mj_imul hJ dX7_fill_24 ?_
      refine mj_bipush hJ dX7_fill_25 (by decide) ?_
      refine ms_idiv hJ dX7_fill_27 (by omega) (by omega) ?_
      refine mk_iast hJ dX7_fill_28 rfl (by omega) (by omega) ?_
      refine ms_iinc (ls' := [_, _, _, _]) hJ dX7_fill_29 rfl (by decide) rfl (wr_id (by omega)) rfl ?_
      refine mj_goto (tgt := 2) hJ dX7_fill_32 (by decide) ?_
      refine ih (v + 1) _ (by omega) (by omega) (fun c hc => (upI_ne hc).trans (hf c hc)) (fun u x y => ?_)
      rw [upI_at]
      by_cases e : u = v
      · subst e
        rw [if_pos rfl]
        rfl
      · rw [if_neg e]
        exact hr u x (by omega)
  refine mj_iconst hJ dX7_fill_0 (by decide) ?_
  refine ms_istore_n (ls' := [_, _, _, _]) hJ dX7_fill_1 (by decide) rfl rfl ?_
  exact loop (f 0).toNat 0 I (by omega) (by omega) (fun _ _ => rfl) (fun u x y => by omega)
end C1
