/-! the model's small methods -/
section M1
variable {G : GE} {I : Ints} {b : Bool}
theorem c_X9_in (v lo hi : Int) : MtP G yX9_in cX9_in 3 (some .boolean) 0 [vi v, vi lo, vi hi] I b (if lo ≤ v ∧ v ≤ hi then 1 else 0) := by
  refine mt_enterI (own := RX9) (ls0 := [vi v, vi lo, vi hi]) rfl (by decide +kernel) (Nat.le_of_ble_eq_true rfl) rfl rfl (fun J hJ hR => ?_)
  refine mj_iload_n hJ dX9_in_0 rfl ?_
  refine mj_iload_n hJ dX9_in_1 rfl ?_
  refine mj_icmp_lt (tgt := 14) hJ dX9_in_2 (by decide) (fun h1 => ?_) (fun h1 => ?_)
  · refine mj_iconst hJ dX9_in_14 (by decide) ?_
    exact hR _ _ _ _ _ dX9_in_15 (nar_z (by first | exact Or.inl rfl | exact Or.inr rfl | assumption | omega)) ⟨by rw [if_neg (by omega)], rfl, rfl⟩
  · refine mj_iload_n hJ dX9_in_5 rfl ?_
    refine mj_iload_n hJ dX9_in_6 rfl ?_
    refine mj_icmp_gt (tgt := 14) hJ dX9_in_7 (by decide) (fun h2 => ?_) (fun h2 => ?_)
    · refine mj_iconst hJ dX9_in_14 (by decide) ?_
      exact hR _ _ _ _ _ dX9_in_15 (nar_z (by first | exact Or.inl rfl | exact Or.inr rfl | assumption | omega)) ⟨by rw [if_neg (by omega)], rfl, rfl⟩
    · refine mj_iconst hJ dX9_in_10 (by decide) ?_
      refine mj_goto (tgt := 15) hJ dX9_in_11 (by decide) ?_
      exact hR _ _ _ _ _ dX9_in_15 (nar_z (by first | exact Or.inl rfl | exact Or.inr rfl | assumption | omega)) ⟨by rw [if_pos (by omega)], rfl, rfl⟩
theorem c_X9_isVillage (v : Int) (h0 : 0 ≤ I 112 0) (h6 : I 112 0 ≤ 6) : MtP G yX9_isVillage cX9_isVillage 2 (some .boolean) 1 [vr 111, vi v] I b (if 0 ≤ v ∧ v < I 112 0 then 1 else 0) := by
  refine mt_enterI (own := RX9) (ls0 := [vr 111, vi v]) rfl (by decide +kernel) (Nat.le_of_ble_eq_true rfl) rfl rfl (fun J hJ hR => ?_)
  refine mj_iload_n hJ dX9_isVillage_0 rfl ?_
  refine mj_iconst hJ dX9_isVillage_1 (by decide) ?_
  refine mj_aload_n hJ dX9_isVillage_2 rfl ?_
  refine mk_getR hJ dX9_isVillage_3 fw_X9_9 rfl (by decide) rfl rfl ?_
  refine mj_iconst hJ dX9_isVillage_6 (by decide) ?_
  refine mk_iald hJ dX9_isVillage_7 rfl (by omega) (by omega) ?_
  refine mj_iconst hJ dX9_isVillage_8 (by decide) ?_
  first | refine ms_isub hJ dX9_isVillage_9 (by omega) ?_ | refine mj_isub hJ dX9_isVillage_9 ?_
  refine mk_Sp3 hJ dX9_isVillage_10 cw_X9_104 rfl (Nat.le_of_ble_eq_true rfl) (by decide) (c_X9_in _ _ _) ?_
  have e : (if 0 ≤ v ∧ v ≤ I 112 0 - 1 then (1 : Int) else 0) = if 0 ≤ v ∧ v < I 112 0 then 1 else 0 := by
    by_cases h : 0 ≤ v ∧ v < I 112 0
    · rw [if_pos h, if_pos (by omega)]
    · rw [if_neg h, if_neg (by omega)]
  rw [e]
  have hz : (if 0 ≤ v ∧ v < I 112 0 then (1 : Int) else 0) = 0 ∨ (if 0 ≤ v ∧ v < I 112 0 then (1 : Int) else 0) = 1 := by split <;> simp
  exact hR _ _ _ _ _ dX9_isVillage_13 (nar_z (by first | exact Or.inl rfl | exact Or.inr rfl | assumption | omega)) ⟨rfl, rfl, rfl⟩
theorem c_X9_at (v w : Int) (h0 : 0 ≤ v) (h1 : v ≤ 6) (h2 : 0 ≤ w) (h3 : w < 18) : MtP G yX9_at cX9_at 2 (some .int) 0 [vi v, vi w] I b (10 + 18 * v + w) := by
  refine mt_enterI (own := RX9) (ls0 := [vi v, vi w]) rfl (by decide +kernel) (Nat.le_of_ble_eq_true rfl) rfl rfl (fun J hJ hR => ?_)
  refine mj_bipush hJ dX9_at_0 (by decide) ?_
  refine mj_bipush hJ dX9_at_2 (by decide) ?_
  refine mj_iload_n hJ dX9_at_4 rfl ?_
  first | refine ms_imul hJ dX9_at_5 (by omega) ?_ | refine mj_imul hJ dX9_at_5 ?_
  first | refine ms_iadd hJ dX9_at_6 (by omega) ?_ | refine mj_iadd hJ dX9_at_6 ?_
  refine mj_iload_n hJ dX9_at_7 rfl ?_
  first | refine ms_iadd hJ dX9_at_8 (by omega) ?_ | refine mj_iadd hJ dX9_at_8 ?_
  exact hR _ _ _ _ _ dX9_at_9 nar_i ⟨rfl, rfl, rfl⟩
theorem c_X9_of (v w : Int) (h0 : 0 ≤ v) (h1 : v < 6) (h2 : 0 ≤ w) (h3 : w < 18) : MtP G yX9_of cX9_of 3 (some .int) 1 [vr 111, vi v, vi w] I b (I 112 (10 + 18 * v + w)) := by
  refine mt_enterI (own := RX9) (ls0 := [vr 111, vi v, vi w]) rfl (by decide +kernel) (Nat.le_of_ble_eq_true rfl) rfl rfl (fun J hJ hR => ?_)
  refine mj_aload_n hJ dX9_of_0 rfl ?_
  refine mk_getR hJ dX9_of_1 fw_X9_9 rfl (by decide) rfl rfl ?_
  refine mj_iload_n hJ dX9_of_4 rfl ?_
  refine mj_iload_n hJ dX9_of_5 rfl ?_
  refine mk_Sp2 hJ dX9_of_6 cw_X9_108 rfl (Nat.le_of_ble_eq_true rfl) (by decide) (c_X9_at v w h0 (by omega) h2 h3) ?_
  refine mk_iald hJ dX9_of_9 rfl (by omega) (by omega) ?_
  exact hR _ _ _ _ _ dX9_of_10 nar_i ⟨rfl, rfl, rfl⟩
end M1
