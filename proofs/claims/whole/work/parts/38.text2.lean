section MTX
variable {G : GE} {I : Ints} {b : Bool}
theorem c_coder (i : Nat) (hi : i < 22) : MtP G yJ0_coder_7d493 cJ0_coder_7d493 1 (some .byte) 0 [vr (1000 + i)] I b 0 := by
  refine mt_enterI (own := RJ0) (ls0 := [vr (1000 + i)]) rfl (by decide +kernel) (Nat.le_of_ble_eq_true rfl) rfl rfl (fun J hJ hR => ?_)
  refine mj_gsC hJ dJ0_coder_7d493_0 fl_J0_38 ?_
  refine mj_if_eq (tgt := 13) hJ dJ0_coder_7d493_3 (by decide) (fun hyes => absurd hyes (by decide)) (fun _ => ?_)
  refine mj_aload_n hJ dJ0_coder_7d493_6 rfl ?_
  refine mj_strC hJ dJ0_coder_7d493_7 (by omega) fl_J0_15 ?_
  refine mj_goto (tgt := 14) hJ dJ0_coder_7d493_10 (by decide) ?_
  exact hR _ _ _ _ _ dJ0_coder_7d493_14 nar_b0 ⟨rfl, rfl, rfl⟩
theorem c_length (i : Nat) (hi : i < 22) : MtP G yJ0_length_8abf5 cJ0_length_8abf5 1 (some .int) 1 [vr (1000 + i)] I b (sTx i).2.2.2.length := by
  refine mt_enterI (own := RJ0) (ls0 := [vr (1000 + i)]) rfl (by decide +kernel) (Nat.le_of_ble_eq_true rfl) rfl rfl (fun J hJ hR => ?_)
  refine mj_aload_n hJ dJ0_length_8abf5_0 rfl ?_
  refine mj_strV hJ dJ0_length_8abf5_1 (by omega) fl_J0_9 ?_
  refine mj_slen hJ dJ0_length_8abf5_4 (by omega) ?_
  refine mj_aload_n hJ dJ0_length_8abf5_5 rfl ?_
  refine mk_Tp0 hJ dJ0_length_8abf5_6 cw_J0_335 (by omega) rfl rfl (Nat.le_of_ble_eq_true rfl) (by first | decide | omega) (c_coder i hi) ?_
  refine mj_ishr hJ dJ0_length_8abf5_9 ?_
  rw [len_sh (sTx_R i hi).1]
  exact hR _ _ _ _ _ dJ0_length_8abf5_10 nar_i ⟨rfl, rfl, rfl⟩
theorem c_isLatin1 (i : Nat) (hi : i < 22) : MtP G yJ0_isLatin1_aae02 cJ0_isLatin1_aae02 1 (some .boolean) 0 [vr (1000 + i)] I b 1 := by
  refine mt_enterI (own := RJ0) (ls0 := [vr (1000 + i)]) rfl (by decide +kernel) (Nat.le_of_ble_eq_true rfl) rfl rfl (fun J hJ hR => ?_)
  refine mj_gsC hJ dJ0_isLatin1_aae02_0 fl_J0_38 ?_
  refine mj_if_eq (tgt := 17) hJ dJ0_isLatin1_aae02_3 (by decide) (fun hyes => absurd hyes (by decide)) (fun _ => ?_)
  refine mj_aload_n hJ dJ0_isLatin1_aae02_6 rfl ?_
  refine mj_strC hJ dJ0_isLatin1_aae02_7 (by omega) fl_J0_15 ?_
  refine mj_if_ne (tgt := 17) hJ dJ0_isLatin1_aae02_10 (by decide) (fun hyes => absurd rfl hyes) (fun _ => ?_)
  refine mj_iconst hJ dJ0_isLatin1_aae02_13 (by decide) ?_
  refine mj_goto (tgt := 18) hJ dJ0_isLatin1_aae02_14 (by decide) ?_
  exact hR _ _ _ _ _ dJ0_isLatin1_aae02_18 (nar_z (by first | exact Or.inl rfl | exact Or.inr rfl | assumption | omega)) ⟨rfl, rfl, rfl⟩
theorem c_checkIu (k n : Int) (h0 : 0 ≤ k) (h1 : k < n) : MtP G yJ3_checkIndex_8e157 cJ3_checkIndex_8e157 3 (some .int) 0 [vi k, vi n, vu] I b k := by
  refine mt_enterI (own := RJ3) (ls0 := [vi k, vi n, vu]) rfl (by decide +kernel) (Nat.le_of_ble_eq_true rfl) rfl rfl (fun J hJ hR => ?_)
  refine mj_iload_n hJ dJ3_checkIndex_8e157_0 rfl ?_
  refine mj_if_lt (tgt := 9) hJ dJ3_checkIndex_8e157_1 (by decide) (fun hyes => absurd hyes (by omega)) (fun _ => ?_)
  refine mj_iload_n hJ dJ3_checkIndex_8e157_4 rfl ?_
  refine mj_iload_n hJ dJ3_checkIndex_8e157_5 rfl ?_
  refine mj_icmp_lt (tgt := 16) hJ dJ3_checkIndex_8e157_6 (by decide) (fun _ => ?_) (fun hno => absurd (by omega) hno)
  refine mj_iload_n hJ dJ3_checkIndex_8e157_16 rfl ?_
  exact hR _ _ _ _ _ dJ3_checkIndex_8e157_17 nar_i ⟨rfl, rfl, rfl⟩
theorem c_checkIr (k n : Int) (h0 : 0 ≤ k) (h1 : k < n) : MtP G yJ3_checkIndex_8e157 cJ3_checkIndex_8e157 3 (some .int) 0 [vi k, vi n, vr 2010] I b k := by
  refine mt_enterI (own := RJ3) (ls0 := [vi k, vi n, vr 2010]) rfl (by decide +kernel) (Nat.le_of_ble_eq_true rfl) rfl rfl (fun J hJ hR => ?_)
  refine mj_iload_n hJ dJ3_checkIndex_8e157_0 rfl ?_
  refine mj_if_lt (tgt := 9) hJ dJ3_checkIndex_8e157_1 (by decide) (fun hyes => absurd hyes (by omega)) (fun _ => ?_)
  refine mj_iload_n hJ dJ3_checkIndex_8e157_4 rfl ?_
  refine mj_iload_n hJ dJ3_checkIndex_8e157_5 rfl ?_
  refine mj_icmp_lt (tgt := 16) hJ dJ3_checkIndex_8e157_6 (by decide) (fun _ => ?_) (fun hno => absurd (by omega) hno)
  refine mj_iload_n hJ dJ3_checkIndex_8e157_16 rfl ?_
  exact hR _ _ _ _ _ dJ3_checkIndex_8e157_17 nar_i ⟨rfl, rfl, rfl⟩
theorem c_checkI (k n : Int) (h0 : 0 ≤ k) (h1 : k < n) : MtP G yJ3_checkIndex_8e157 cJ3_checkIndex_8e157 3 (some .int) 0 [vi k, vi n, sioV G] I b k := by
  unfold sioV
  split
  · exact c_checkIu k n h0 h1
  · exact c_checkIr k n h0 h1
theorem c_checkI2 (k n : Int) (h0 : 0 ≤ k) (h1 : k < n) : MtV G yJ0_checkIndex_df160 cJ0_checkIndex_df160 2 1 [vi k, vi n] I b (fun I' b' => I' = I ∧ b' = b) := by
  refine mt_enterV (own := RJ0) (ls0 := [vi k, vi n]) rfl (by decide +kernel) (Nat.le_of_ble_eq_true rfl) rfl (fun J hJ hR => ?_)
  refine mj_iload_n hJ dJ0_checkIndex_df160_0 rfl ?_
  refine mj_iload_n hJ dJ0_checkIndex_df160_1 rfl ?_
  refine mj_gsF hJ dJ0_checkIndex_df160_2 fl_J0_1053 ?_
  refine mk_Sp3 hJ dJ0_checkIndex_df160_5 cw_J0_1059 rfl (Nat.le_of_ble_eq_true rfl) (by first | decide | omega) (c_checkI k n h0 h1) ?_
  refine mj_popi hJ dJ0_checkIndex_df160_8 ?_
  exact hR _ _ _ _ dJ0_checkIndex_df160_9 ⟨rfl, rfl⟩
theorem sch_bd {i : Nat} (hi : i < 22) {k : Int} (h0 : 0 ≤ k) (h1 : k < (sTx i).2.2.2.length) : 0 ≤ (sTx i).2.2.2.getD k.toNat 0 ∧ (sTx i).2.2.2.getD k.toNat 0 < 128 := by
  have h : k.toNat < (sTx i).2.2.2.length := by omega
  rw [List.getD_eq_getElem?_getD, List.getElem?_eq_getElem h]
  exact (sTx_R i hi).2 _ (List.getElem_mem h)
theorem c_chr1 (i : Nat) (k : Int) (hi : i < 22) (h0 : 0 ≤ k) (h1 : k < (sTx i).2.2.2.length) : MtP G yJ1_charAt_3b067 cJ1_charAt_3b067 2 (some .char) 2 [vr (1100 + i), vi k] I b ((sTx i).2.2.2.getD k.toNat 0) := by
  refine mt_enterI (own := RJ1) (ls0 := [vr (1100 + i), vi k]) rfl (by decide +kernel) (Nat.le_of_ble_eq_true rfl) rfl rfl (fun J hJ hR => ?_)
  have hb := sch_bd hi h0 h1
  refine mj_iload_n hJ dJ1_charAt_3b067_0 rfl ?_
  refine mj_aload_n hJ dJ1_charAt_3b067_1 rfl ?_
  refine mj_slen hJ dJ1_charAt_3b067_2 (by omega) ?_
  refine mk_Sv2 hJ dJ1_charAt_3b067_3 cw_J1_9 rfl (Nat.le_of_ble_eq_true rfl) (by first | decide | omega) (c_checkI2 k _ h0 h1) (fun I1 b1 hq9 => ?_)
  obtain ⟨rfl, rfl⟩ := hq9
  refine mj_aload_n hJ dJ1_charAt_3b067_6 rfl ?_
  refine mj_iload_n hJ dJ1_charAt_3b067_7 rfl ?_
  refine mj_sald hJ dJ1_charAt_3b067_8 (by omega) (by omega) (by omega) ?_
  refine mj_sipush hJ dJ1_charAt_3b067_9 (by decide) ?_
  refine mj_iand hJ dJ1_charAt_3b067_12 ?_
  refine mj_i2c hJ dJ1_charAt_3b067_13 ?_
  rw [chr_id hb.1 hb.2]
  exact hR _ _ _ _ _ dJ1_charAt_3b067_14 (nar_c (by omega) (by omega)) ⟨rfl, rfl, rfl⟩
theorem c_chrAt (i : Nat) (k : Int) (hi : i < 22) (h0 : 0 ≤ k) (h1 : k < (sTx i).2.2.2.length) : MtP G yJ0_charAt_5068e cJ0_charAt_5068e 2 (some .char) 3 [vr (1000 + i), vi k] I b ((sTx i).2.2.2.getD k.toNat 0) := by
  refine mt_enterI (own := RJ0) (ls0 := [vr (1000 + i), vi k]) rfl (by decide +kernel) (Nat.le_of_ble_eq_true rfl) rfl rfl (fun J hJ hR => ?_)
  have hb := sch_bd hi h0 h1
  refine mj_aload_n hJ dJ0_charAt_5068e_0 rfl ?_
  refine mk_Tp0 hJ dJ0_charAt_5068e_1 cw_J0_492 (by omega) rfl rfl (Nat.le_of_ble_eq_true rfl) (by first | decide | omega) (c_isLatin1 i hi) ?_
  refine mj_if_eq (tgt := 16) hJ dJ0_charAt_5068e_4 (by decide) (fun hyes => absurd hyes (by decide)) (fun _ => ?_)
  refine mj_aload_n hJ dJ0_charAt_5068e_7 rfl ?_
  refine mj_strV hJ dJ0_charAt_5068e_8 (by omega) fl_J0_9 ?_
  refine mj_iload_n hJ dJ0_charAt_5068e_11 rfl ?_
  refine mk_Sp2 hJ dJ0_charAt_5068e_12 cw_J0_495 rfl (Nat.le_of_ble_eq_true rfl) (by first | decide | omega) (c_chr1 i k hi h0 h1) ?_
  exact hR _ _ _ _ _ dJ0_charAt_5068e_15 (nar_c (by omega) (by omega)) ⟨rfl, rfl, rfl⟩
end MTX
