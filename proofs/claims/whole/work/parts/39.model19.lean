section M19
variable {G : GE} {I : Ints} {b : Bool}
theorem mtc_drop {g : Int → Int} {p : Int} {L : List Int} {k : Nat} (h : k < L.length) : mtc g (p + k) (L.drop k) = (decide (g (p + k) = L.getD k 0) && mtc g (p + ((k + 1 : Nat) : Int)) (L.drop (k + 1))) := by
  rw [List.drop_eq_getElem_cons h, List.getD_eq_getElem?_getD, List.getElem?_eq_getElem h]
  show (decide (g (p + k) = L[k]) && mtc g (p + k + 1) (L.drop (k + 1))) = _
  rw [show p + (k : Int) + 1 = p + ((k + 1 : Nat) : Int) by omega]
  rfl
theorem c_X9_isWord (i : Nat) (p e : Int) (hi : i < 22) (h18 : I 111 18 = p) (h19 : I 111 19 = e) (p0 : 0 ≤ p) (p1 : p ≤ e) (e1 : e ≤ 200) : MtP G yX9_isWord cX9_isWord 4 (some .boolean) 4 [vr 111, vr (1000 + i)] I b (if I 111 20 = 0 ∧ wdb (I 127) p e (sTx i).2.2.2 = true then 1 else 0) := by
  refine mt_enterI (own := RX9) (ls0 := [vr 111, vr (1000 + i), vu, vu]) rfl (by decide +kernel) (Nat.le_of_ble_eq_true rfl) rfl rfl (fun J hJ hR => ?_)
  have hl10 := (sTx_R i hi).1
  obtain ⟨L, hL⟩ : ∃ L, (sTx i).2.2.2 = L := ⟨_, rfl⟩
  rw [hL] at hl10
  have fin : ∀ (z : Int) (k : Int), (z = 0 ∨ z = 1) → z = (if I 111 20 = 0 ∧ wdb (I 127) p e (sTx i).2.2.2 = true then 1 else 0) → J 74 [vr 111, vr (1000 + i), vi z, vi k] [] (mk I b) := by
    intro z k hz he
    refine mj_iload_n hJ dX9_isWord_74 rfl ?_
    exact hR _ _ _ _ _ dX9_isWord_75 (nar_z (by first | exact Or.inl rfl | exact Or.inr rfl | assumption | omega)) ⟨he, rfl, rfl⟩
  have no : ¬(I 111 20 = 0 ∧ wdb (I 127) p e (sTx i).2.2.2 = true) → J 27 [vr 111, vr (1000 + i), vu, vu] [] (mk I b) := by
    intro hno
    refine mj_iconst hJ dX9_isWord_27 (by decide) ?_
    refine ms_istore_n (ls' := [_, _, _, _]) hJ dX9_isWord_28 (by decide) rfl rfl ?_
    refine mj_iconst hJ dX9_isWord_29 (by decide) ?_
    refine ms_istore_n (ls' := [_, _, _, _]) hJ dX9_isWord_30 (by decide) rfl rfl ?_
    refine mj_iload_n hJ dX9_isWord_31 rfl ?_
    refine mj_if_eq (tgt := 74) hJ dX9_isWord_32 (by decide) (fun _ => ?_) (fun hno => absurd rfl hno)
    exact fin 0 0 (Or.inl rfl) (by rw [if_neg hno])
  have loop : I 111 20 = 0 → e - p = L.length → ∀ (m k : Nat), k + m = L.length → mtc (I 127) (p + k) (L.drop k) = wdb (I 127) p e (sTx i).2.2.2 → J 31 [vr 111, vr (1000 + i), vi 1, vi k] [] (mk I b) := by
    intro hf hlen m
    induction m with
    | zero =>
      intro k hk he
      have ed : L.drop k = [] := List.drop_eq_nil_of_le (by omega)
      rw [ed] at he
      refine mj_iload_n hJ dX9_isWord_31 rfl ?_
      refine mj_if_eq (tgt := 74) hJ dX9_isWord_32 (by decide) (fun hyes => absurd hyes (by decide)) (fun _ => ?_)
      refine mj_iload_n hJ dX9_isWord_35 rfl ?_
      refine mj_aload_n hJ dX9_isWord_36 rfl ?_
      refine mk_Tp0 hJ dX9_isWord_37 cw_X9_194 (by omega) rfl rfl (Nat.le_of_ble_eq_true rfl) (by first | decide | omega) (c_length i hi) ?_
      rw [hL]
      refine mj_icmp_ge (tgt := 74) hJ dX9_isWord_40 (by decide) (fun _ => ?_) (fun hno => absurd (by omega) hno)
      exact fin 1 k (Or.inr rfl) (by rw [if_pos ⟨hf, he.symm⟩])
    | succ m ih =>
      intro k hk he
      have hkl : k < L.length := by omega
      have hch := sch_bd (i := i) hi (k := k) (by omega) (by rw [hL]; omega)
      rw [mtc_drop hkl] at he
      refine mj_iload_n hJ dX9_isWord_31 rfl ?_
      refine mj_if_eq (tgt := 74) hJ dX9_isWord_32 (by decide) (fun hyes => absurd hyes (by decide)) (fun _ => ?_)
      refine mj_iload_n hJ dX9_isWord_35 rfl ?_
      refine mj_aload_n hJ dX9_isWord_36 rfl ?_
      refine mk_Tp0 hJ dX9_isWord_37 cw_X9_194 (by omega) rfl rfl (Nat.le_of_ble_eq_true rfl) (by first | decide | omega) (c_length i hi) ?_
      rw [hL]
      refine mj_icmp_ge (tgt := 74) hJ dX9_isWord_40 (by decide) (fun hyes => absurd hyes (by omega)) (fun _ => ?_)
      refine mj_aload_n hJ dX9_isWord_43 rfl ?_
      refine mk_getR hJ dX9_isWord_44 fw_X9_56 rfl (by decide) rfl rfl ?_
      refine mj_aload_n hJ dX9_isWord_47 rfl ?_
      refine mk_getI (j' := 18) hJ dX9_isWord_48 fw_X9_178 rfl (by decide) rfl rfl ?_
      rw [h18]
      refine mj_iload_n hJ dX9_isWord_51 rfl ?_
      first | refine ms_iadd hJ dX9_isWord_52 (by omega) ?_ | refine mj_iadd hJ dX9_isWord_52 ?_
      refine mk_iald hJ dX9_isWord_53 rfl (by omega) (by omega) ?_
      refine mj_aload_n hJ dX9_isWord_54 rfl ?_
      refine mj_iload_n hJ dX9_isWord_55 rfl ?_
      refine mk_Tp1 hJ dX9_isWord_56 cw_X9_199 (by omega) rfl rfl (Nat.le_of_ble_eq_true rfl) (by first | decide | omega) (c_chrAt i k hi (by omega) (by rw [hL]; omega)) ?_
      rw [hL, Int.toNat_natCast]
      refine mj_icmp_ne (tgt := 66) hJ dX9_isWord_59 (by decide) (fun hne => ?_) (fun hne => ?_)
      · refine mj_iconst hJ dX9_isWord_66 (by decide) ?_
        refine ms_istore_n (ls' := [_, _, _, _]) hJ dX9_isWord_67 (by decide) rfl rfl ?_
        refine ms_iinc (ls' := [_, _, _, _]) hJ dX9_isWord_68 rfl (by decide) rfl (wr_id (by omega)) rfl ?_
        refine mj_goto (tgt := 31) hJ dX9_isWord_71 (by decide) ?_
        refine mj_iload_n hJ dX9_isWord_31 rfl ?_
        refine mj_if_eq (tgt := 74) hJ dX9_isWord_32 (by decide) (fun _ => ?_) (fun hno => absurd rfl hno)
        refine fin 0 _ (Or.inl rfl) ?_
        rw [if_neg]
        intro q
        rw [q.2, decide_eq_false hne] at he
        exact Bool.noConfusion he
      · refine mj_iconst hJ dX9_isWord_62 (by decide) ?_
        refine mj_goto (tgt := 67) hJ dX9_isWord_63 (by decide) ?_
        refine ms_istore_n (ls' := [_, _, _, _]) hJ dX9_isWord_67 (by decide) rfl rfl ?_
        refine ms_iinc (ls' := [_, _, _, _]) hJ dX9_isWord_68 rfl (by decide) rfl (wr_id (by omega)) rfl ?_
        refine mj_goto (tgt := 31) hJ dX9_isWord_71 (by decide) ?_
        rw [decide_eq_true (by omega), Bool.true_and] at he
        exact ih (k + 1) (by omega) he
  refine mj_aload_n hJ dX9_isWord_0 rfl ?_
  refine mk_getI (j' := 20) hJ dX9_isWord_1 fw_X9_187 rfl (by decide) rfl rfl ?_
  refine mj_if_ne (tgt := 27) hJ dX9_isWord_4 (by decide) (fun hf => ?_) (fun hf => ?_)
  · exact no (fun q => hf q.1)
  · have hf : I 111 20 = 0 := by omega
    refine mj_aload_n hJ dX9_isWord_7 rfl ?_
    refine mk_getI (j' := 19) hJ dX9_isWord_8 fw_X9_175 rfl (by decide) rfl rfl ?_
    rw [h19]
    refine mj_aload_n hJ dX9_isWord_11 rfl ?_
    refine mk_getI (j' := 18) hJ dX9_isWord_12 fw_X9_178 rfl (by decide) rfl rfl ?_
    rw [h18]
    first | refine ms_isub hJ dX9_isWord_15 (by omega) ?_ | refine mj_isub hJ dX9_isWord_15 ?_
    refine mj_aload_n hJ dX9_isWord_16 rfl ?_
    refine mk_Tp0 hJ dX9_isWord_17 cw_X9_194 (by omega) rfl rfl (Nat.le_of_ble_eq_true rfl) (by first | decide | omega) (c_length i hi) ?_
    rw [hL]
    refine mj_icmp_ne (tgt := 27) hJ dX9_isWord_20 (by decide) (fun hne => ?_) (fun hne => ?_)
    · refine no (fun q => ?_)
      have := q.2
      unfold wdb at this
      rw [hL, decide_eq_false hne] at this
      exact Bool.noConfusion this
    · refine mj_iconst hJ dX9_isWord_23 (by decide) ?_
      refine mj_goto (tgt := 28) hJ dX9_isWord_24 (by decide) ?_
      refine ms_istore_n (ls' := [_, _, _, _]) hJ dX9_isWord_28 (by decide) rfl rfl ?_
      refine mj_iconst hJ dX9_isWord_29 (by decide) ?_
      refine ms_istore_n (ls' := [_, _, _, _]) hJ dX9_isWord_30 (by decide) rfl rfl ?_
      have hlen : e - p = L.length := by omega
      have := loop hf hlen L.length 0 (by omega) (by
        unfold wdb
        rw [hL, decide_eq_true hlen, Bool.true_and, List.drop_zero]
        congr 1
        omega)
      exact this
/-- need: on to the next part, or the fault -/
theorem c_X9_need (x e : Int) (hx : x = 0 ∨ x = 1) (h19 : I 111 19 = e) (h20 : I 111 20 = 0 ∨ I 111 20 = 1) (e0 : 0 ≤ e) (e1 : e ≤ I 111 17) (hn : I 111 17 ≤ 200) :
    MtV G yX9_need cX9_need 2 3 [vr 111, vi x] I b (fun I' b' => b' = b ∧ (∀ c, c ≠ 111 → I' c = I c) ∧ (∀ j, j ≠ 18 → j ≠ 19 → j ≠ 20 → I' 111 j = I 111 j) ∧
      (I 111 20 = 0 ∧ x = 1 → I' 111 20 = 0 ∧ I' 111 18 = skp (I 127) (I 111 17) e ∧ I' 111 19 = tend (I 127) (I 111 17) (skp (I 127) (I 111 17) e)) ∧
      (¬(I 111 20 = 0 ∧ x = 1) → I' 111 20 = 1 ∧ I' 111 18 = I 111 18 ∧ I' 111 19 = I 111 19)) := by
  refine mt_enterV (own := RX9) (ls0 := [vr 111, vi x]) rfl (by decide +kernel) (Nat.le_of_ble_eq_true rfl) rfl (fun J hJ hR => ?_)
  have bad : ¬(I 111 20 = 0 ∧ x = 1) → J 12 [vr 111, vi x] [vr 111] (mk I b) := by
    intro hno
    refine mj_iconst hJ dX9_need_12 (by decide) ?_
    refine mj_goto (tgt := 17) hJ dX9_need_13 (by decide) ?_
    refine mk_putZ (j' := 20) hJ dX9_need_17 fw_X9_187 rfl (by decide) rfl (by first | exact Or.inl rfl | exact Or.inr rfl | assumption | omega) rfl ?_
    refine mj_aload_n hJ dX9_need_20 rfl ?_
    refine mk_getI (j' := 20) hJ dX9_need_21 fw_X9_187 rfl (by decide) rfl rfl ?_
    rw [upI_at, if_pos rfl]
    refine mj_if_ne (tgt := 31) hJ dX9_need_24 (by decide) (fun _ => ?_) (fun hno => absurd hno (by decide))
    exact hR _ _ _ _ dX9_need_31 ⟨rfl, fun c hc => upI_ne hc, fun j j1 j2 j3 => by rw [upI_at, if_neg j3], fun q => absurd q hno, fun _ => ⟨by rw [upI_at, if_pos rfl], by rw [upI_at, if_neg (by decide)], by rw [upI_at, if_neg (by decide)]⟩⟩
  refine mj_aload_n hJ dX9_need_0 rfl ?_
  refine mj_aload_n hJ dX9_need_1 rfl ?_
  refine mk_getI (j' := 20) hJ dX9_need_2 fw_X9_187 rfl (by decide) rfl rfl ?_
  refine mj_if_ne (tgt := 12) hJ dX9_need_5 (by decide) (fun h => ?_) (fun h => ?_)
  · exact bad (fun q => h q.1)
  · refine mj_iload_n hJ dX9_need_8 rfl ?_
    refine mj_if_ne (tgt := 16) hJ dX9_need_9 (by decide) (fun h2 => ?_) (fun h2 => ?_)
    · have hP : I 111 20 = 0 ∧ x = 1 := ⟨by omega, by omega⟩
      refine mj_iconst hJ dX9_need_16 (by decide) ?_
      refine mk_putZ (j' := 20) hJ dX9_need_17 fw_X9_187 rfl (by decide) rfl (by first | exact Or.inl rfl | exact Or.inr rfl | assumption | omega) rfl ?_
      refine mj_aload_n hJ dX9_need_20 rfl ?_
      refine mk_getI (j' := 20) hJ dX9_need_21 fw_X9_187 rfl (by decide) rfl rfl ?_
      rw [upI_at, if_pos rfl]
      refine mj_if_ne (tgt := 31) hJ dX9_need_24 (by decide) (fun hyes => absurd (by decide) hyes) (fun _ => ?_)
      refine mj_aload_n hJ dX9_need_27 rfl ?_
      have e17 : upI I 111 20 0 111 17 = I 111 17 := by rw [upI_at, if_neg (by decide)]
      have e127 : upI I 111 20 0 127 = I 127 := upI_ne (by decide)
      have hN := c_X9_next (G := G) (I := upI I 111 20 0) (b := b) e (by rw [upI_at, if_neg (by decide)]; exact h19) e0 (by rw [e17]; exact e1) (by rw [e17]; exact hn)
      rw [e17, e127] at hN
      refine mk_Vv0 hJ dX9_need_28 cw_X9_191 rfl rfl rfl rfl (Nat.le_of_ble_eq_true rfl) (by first | decide | omega) (hN) (fun I1 b1 hq9 => ?_)
      obtain ⟨rfl, hf, h1, k18, k19⟩ := hq9
      exact hR _ _ _ _ dX9_need_31 ⟨rfl, fun c hc => (hf c hc).trans (upI_ne hc), fun j j1 j2 j3 => by rw [h1 j j1 j2, upI_at, if_neg j3], fun _ => ⟨by rw [h1 20 (by decide) (by decide), upI_at, if_pos rfl], k18, k19⟩, fun q => absurd hP q⟩
    · exact bad (fun q => by omega)
theorem c_X9_put1 (x : Int) (h20 : I 111 20 = 0 ∨ I 111 20 = 1) (c1 : I 111 20 = 0 → 0 ≤ I 111 22 ∧ I 111 22 < 200) :
    MtV G yX9_put cX9_put 2 0 [vr 111, vi x] I b (fun I' b' => b' = b ∧ I' = if I 111 20 = 0 then upI (upI I 128 (I 111 22) x) 111 22 (I 111 22 + 1) else I) := by
  refine mt_enterV (own := RX9) (ls0 := [vr 111, vi x]) rfl (by decide +kernel) (Nat.le_of_ble_eq_true rfl) rfl (fun J hJ hR => ?_)
  refine mj_aload_n hJ dX9_put_0 rfl ?_
  refine mk_getI (j' := 20) hJ dX9_put_1 fw_X9_187 rfl (by decide) rfl rfl ?_
  refine mj_if_ne (tgt := 27) hJ dX9_put_4 (by decide) (fun h => ?_) (fun h => ?_)
  · exact hR _ _ _ _ dX9_put_27 ⟨rfl, by rw [if_neg h]⟩
  · have h : I 111 20 = 0 := by omega
    have c1 := c1 h
    refine mj_aload_n hJ dX9_put_7 rfl ?_
    refine mk_getR hJ dX9_put_8 fw_X9_59 rfl (by decide) rfl rfl ?_
    refine mj_aload_n hJ dX9_put_11 rfl ?_
    refine mk_getI (j' := 22) hJ dX9_put_12 fw_X9_207 rfl (by decide) rfl rfl ?_
    refine mj_iload_n hJ dX9_put_15 rfl ?_
    refine mk_iast hJ dX9_put_16 rfl (by omega) (by omega) ?_
    refine mj_aload_n hJ dX9_put_17 rfl ?_
    refine mj_dupr hJ dX9_put_18 ?_
    refine mk_getI (j' := 22) hJ dX9_put_19 fw_X9_207 rfl (by decide) rfl rfl ?_
    rw [upI_ne (by decide)]
    refine mj_iconst hJ dX9_put_22 (by decide) ?_
    first | refine ms_iadd hJ dX9_put_23 (by omega) ?_ | refine mj_iadd hJ dX9_put_23 ?_
    refine mk_putI (j' := 22) hJ dX9_put_24 fw_X9_207 rfl (by decide) rfl rfl ?_
    exact hR _ _ _ _ dX9_put_27 ⟨rfl, by rw [if_pos h]⟩
end M19
