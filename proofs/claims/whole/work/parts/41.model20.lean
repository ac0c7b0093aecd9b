section M20
variable {G : GE} {I : Ints} {b : Bool}
/-- on to the next part, or the fault: what need leaves -/
def Nd (I I' : Ints) (e : Int) (ok : Prop) : Prop := (∀ c, c ≠ 111 → I' c = I c) ∧ (∀ j, j ≠ 18 → j ≠ 19 → j ≠ 20 → I' 111 j = I 111 j) ∧
  (I 111 20 = 0 ∧ ok → I' 111 20 = 0 ∧ I' 111 18 = skp (I 127) (I 111 17) e ∧ I' 111 19 = tend (I 127) (I 111 17) (skp (I 127) (I 111 17) e)) ∧
  (¬(I 111 20 = 0 ∧ ok) → I' 111 20 = 1 ∧ I' 111 18 = I 111 18 ∧ I' 111 19 = I 111 19)
theorem c_X9_number (t p : Int) (t0 : 0 ≤ t) (t1 : t ≤ 999) (h18 : I 111 18 = p) (h19 : I 111 19 = tend (I 127) (I 111 17) p) (h20 : I 111 20 = 0 ∨ I 111 20 = 1) (p0 : 0 ≤ p) (p1 : p ≤ I 111 17) (hn : I 111 17 ≤ 200) :
    MtI G yX9_number cX9_number 5 (some .int) 4 [vr 111, vi t] I b (fun z I' b' => b' = b ∧ (I 111 20 = 0 ∧ isn (I 127) (I 111 17) p → z = nv (I 127) (I 111 17) p) ∧ Nd I I' (tend (I 127) (I 111 17) p) (isn (I 127) (I 111 17) p ∧ nv (I 127) (I 111 17) p ≤ t)) := by
  refine mt_enterI (own := RX9) (ls0 := [vr 111, vi t, vu, vu, vu]) rfl (by decide +kernel) (Nat.le_of_ble_eq_true rfl) rfl rfl (fun J hJ hR => ?_)
  have tb := tend_bd (g := I 127) p1
  obtain ⟨e, he⟩ : ∃ e, tend (I 127) (I 111 17) p = e := ⟨_, rfl⟩
  have nve : nv (I 127) (I 111 17) p = nmv (I 127) (e - p).toNat p 0 := by unfold nv; rw [he]
  have K95 : ∀ (x v k s : Int), (x = 0 ∨ x = 1) → (x = 1 ↔ ((I 111 20 = 0 ∧ isn (I 127) (I 111 17) p) ∧ nv (I 127) (I 111 17) p ≤ t) ∨ False) → (I 111 20 = 0 ∧ isn (I 127) (I 111 17) p → v = nv (I 127) (I 111 17) p) → J 95 [vr 111, vi t, vi s, vi v, vi k] [vi x, vr 111] (mk I b) := by
    intro x v k s hx hq hv
    refine mk_Vv1 hJ dX9_number_95 cw_X9_203 rfl rfl rfl rfl (Nat.le_of_ble_eq_true rfl) (by first | decide | omega) (c_X9_need x (tend (I 127) (I 111 17) p) hx h19 h20 (by omega) (by omega) hn) (fun I1 b1 hq9 => ?_)
    obtain ⟨rfl, hf, h1, q1, q2⟩ := hq9
    refine mj_iload_n hJ dX9_number_98 rfl ?_
    exact hR _ _ _ _ _ dX9_number_99 nar_i ⟨rfl, hv, hf, h1, fun q => q1 ⟨q.1, hq.2 (Or.inl ⟨⟨q.1, q.2.1⟩, q.2.2⟩)⟩, fun q => q2 (fun w => q (by
      rcases hq.1 w.2 with z | z
      · exact ⟨z.1.1, z.1.2, z.2⟩
      · exact z.elim))⟩
  -- it is no number
  have no : ¬(I 111 20 = 0 ∧ isn (I 127) (I 111 17) p) → J 35 [vr 111, vi t, vu, vu, vu] [] (mk I b) := by
    intro hno
    refine mj_iconst hJ dX9_number_35 (by decide) ?_
    refine ms_istore_n (ls' := [_, _, _, _, _]) hJ dX9_number_36 (by decide) rfl rfl ?_
    refine mj_iconst hJ dX9_number_37 (by decide) ?_
    refine ms_istore_n (ls' := [_, _, _, _, _]) hJ dX9_number_38 (by decide) rfl rfl ?_
    refine mj_aload_n hJ dX9_number_39 rfl ?_
    refine mk_getI (j' := 18) hJ dX9_number_40 fw_X9_178 rfl (by decide) rfl rfl ?_
    rw [h18]
    refine ms_istore (ls' := [_, _, _, _, _]) hJ dX9_number_43 (by decide) rfl rfl ?_
    refine mj_iload_n hJ dX9_number_45 rfl ?_
    refine mj_if_eq (tgt := 80) hJ dX9_number_46 (by decide) (fun _ => ?_) (fun hno => absurd rfl hno)
    refine mj_aload_n hJ dX9_number_80 rfl ?_
    refine mj_iload_n hJ dX9_number_81 rfl ?_
    refine mj_if_eq (tgt := 94) hJ dX9_number_82 (by decide) (fun _ => ?_) (fun hno => absurd rfl hno)
    refine mj_iconst hJ dX9_number_94 (by decide) ?_
    exact K95 0 0 p 0 (Or.inl rfl) ⟨fun q => absurd q (by decide), fun q => q.elim (fun w => absurd w.1 hno) False.elim⟩ (fun q => absurd q hno)
  have loop : I 111 20 = 0 ∧ isn (I 127) (I 111 17) p → ∀ (m : Nat) (k v : Int), p ≤ k → k + m = e → (0 ≤ v ∧ (m = 3 → v = 0) ∧ (m = 2 → v ≤ 9) ∧ (m = 1 → v ≤ 99) ∧ v ≤ 999) → m ≤ 3 → nmv (I 127) m k v = nv (I 127) (I 111 17) p → J 45 [vr 111, vi t, vi 1, vi v, vi k] [] (mk I b) := by
    intro hP m
    induction m with
    | zero =>
      intro k v k0 km vb m3 hv
      have hv : v = nv (I 127) (I 111 17) p := hv
      refine mj_iload_n hJ dX9_number_45 rfl ?_
      refine mj_if_eq (tgt := 80) hJ dX9_number_46 (by decide) (fun hyes => absurd hyes (by decide)) (fun _ => ?_)
      refine mj_iload hJ dX9_number_49 rfl ?_
      refine mj_aload_n hJ dX9_number_51 rfl ?_
      refine mk_getI (j' := 19) hJ dX9_number_52 fw_X9_175 rfl (by decide) rfl rfl ?_
      rw [h19, he]
      refine mj_icmp_ge (tgt := 80) hJ dX9_number_55 (by decide) (fun _ => ?_) (fun hno => absurd (by omega) hno)
      refine mj_aload_n hJ dX9_number_80 rfl ?_
      refine mj_iload_n hJ dX9_number_81 rfl ?_
      refine mj_if_eq (tgt := 94) hJ dX9_number_82 (by decide) (fun hyes => absurd hyes (by decide)) (fun _ => ?_)
      refine mj_iload_n hJ dX9_number_85 rfl ?_
      refine mj_iload_n hJ dX9_number_86 rfl ?_
      refine mj_icmp_gt (tgt := 94) hJ dX9_number_87 (by decide) (fun hl => ?_) (fun hl => ?_)
      · refine mj_iconst hJ dX9_number_94 (by decide) ?_
        exact K95 0 v k 1 (Or.inl rfl) ⟨fun q => absurd q (by decide), fun q => q.elim (fun w => by have := w.2; omega) False.elim⟩ (fun _ => hv)
      · refine mj_iconst hJ dX9_number_90 (by decide) ?_
        refine mj_goto (tgt := 95) hJ dX9_number_91 (by decide) ?_
        exact K95 1 v k 1 (Or.inr rfl) ⟨fun _ => Or.inl ⟨hP, by omega⟩, fun _ => rfl⟩ (fun _ => hv)
    | succ m ih =>
      intro k v k0 km vb m3 hv
      have hg := tend_dg hP.2.1 k0 (by omega)
      refine mj_iload_n hJ dX9_number_45 rfl ?_
      refine mj_if_eq (tgt := 80) hJ dX9_number_46 (by decide) (fun hyes => absurd hyes (by decide)) (fun _ => ?_)
      refine mj_iload hJ dX9_number_49 rfl ?_
      refine mj_aload_n hJ dX9_number_51 rfl ?_
      refine mk_getI (j' := 19) hJ dX9_number_52 fw_X9_175 rfl (by decide) rfl rfl ?_
      rw [h19, he]
      refine mj_icmp_ge (tgt := 80) hJ dX9_number_55 (by decide) (fun hyes => absurd hyes (by omega)) (fun _ => ?_)
      refine mj_bipush hJ dX9_number_58 (by decide) ?_
      refine mj_iload_n hJ dX9_number_60 rfl ?_
      first | refine ms_imul hJ dX9_number_61 (by omega) ?_ | refine mj_imul hJ dX9_number_61 ?_
      refine mj_aload_n hJ dX9_number_62 rfl ?_
      refine mk_getR hJ dX9_number_63 fw_X9_56 rfl (by decide) rfl rfl ?_
      refine mj_iload hJ dX9_number_66 rfl ?_
      refine mk_iald hJ dX9_number_68 rfl (by omega) (by omega) ?_
      first | refine ms_iadd hJ dX9_number_69 (by omega) ?_ | refine mj_iadd hJ dX9_number_69 ?_
      refine mj_bipush hJ dX9_number_70 (by decide) ?_
      first | refine ms_isub hJ dX9_number_72 (by omega) ?_ | refine mj_isub hJ dX9_number_72 ?_
      refine ms_istore_n (ls' := [_, _, _, _, _]) hJ dX9_number_73 (by decide) rfl rfl ?_
      refine ms_iinc (ls' := [_, _, _, _, _]) hJ dX9_number_74 rfl (by decide) rfl (wr_id (by omega)) rfl ?_
      refine mj_goto (tgt := 45) hJ dX9_number_77 (by decide) ?_
      exact ih (k + 1) _ (by omega) (by omega) (by omega) (by omega) hv
  refine mj_aload_n hJ dX9_number_0 rfl ?_
  refine mk_getI (j' := 20) hJ dX9_number_1 fw_X9_187 rfl (by decide) rfl rfl ?_
  refine mj_if_ne (tgt := 35) hJ dX9_number_4 (by decide) (fun h => ?_) (fun h => ?_)
  · exact no (fun q => h q.1)
  · have h : I 111 20 = 0 := by omega
    refine mj_aload_n hJ dX9_number_7 rfl ?_
    refine mj_aload_n hJ dX9_number_8 rfl ?_
    refine mk_getI (j' := 18) hJ dX9_number_9 fw_X9_178 rfl (by decide) rfl rfl ?_
    rw [h18]
    refine mk_Vp1 hJ dX9_number_12 cw_X9_184 rfl rfl rfl rfl (Nat.le_of_ble_eq_true rfl) (by first | decide | omega) (c_X9_isDigit p p0 hn) ?_
    by_cases hd : dgt (I 127) (I 111 17) p
    · rw [if_pos hd]
      refine mj_if_eq (tgt := 35) hJ dX9_number_15 (by decide) (fun hyes => absurd hyes (by decide)) (fun _ => ?_)
      refine mj_aload_n hJ dX9_number_18 rfl ?_
      refine mk_getI (j' := 19) hJ dX9_number_19 fw_X9_175 rfl (by decide) rfl rfl ?_
      rw [h19, he]
      refine mj_aload_n hJ dX9_number_22 rfl ?_
      refine mk_getI (j' := 18) hJ dX9_number_23 fw_X9_178 rfl (by decide) rfl rfl ?_
      rw [h18]
      first | refine ms_isub hJ dX9_number_26 (by omega) ?_ | refine mj_isub hJ dX9_number_26 ?_
      refine mj_iconst hJ dX9_number_27 (by decide) ?_
      refine mj_icmp_gt (tgt := 35) hJ dX9_number_28 (by decide) (fun h3 => ?_) (fun h3 => ?_)
      · exact no (fun q => by have := q.2.2; omega)
      · have hP : I 111 20 = 0 ∧ isn (I 127) (I 111 17) p := ⟨h, hd, by omega⟩
        refine mj_iconst hJ dX9_number_31 (by decide) ?_
        refine mj_goto (tgt := 36) hJ dX9_number_32 (by decide) ?_
        refine ms_istore_n (ls' := [_, _, _, _, _]) hJ dX9_number_36 (by decide) rfl rfl ?_
        refine mj_iconst hJ dX9_number_37 (by decide) ?_
        refine ms_istore_n (ls' := [_, _, _, _, _]) hJ dX9_number_38 (by decide) rfl rfl ?_
        refine mj_aload_n hJ dX9_number_39 rfl ?_
        refine mk_getI (j' := 18) hJ dX9_number_40 fw_X9_178 rfl (by decide) rfl rfl ?_
        rw [h18]
        refine ms_istore (ls' := [_, _, _, _, _]) hJ dX9_number_43 (by decide) rfl rfl ?_
        exact loop hP (e - p).toNat p 0 (Int.le_refl _) (by omega) (by omega) (by omega) nve.symm
    · rw [if_neg hd]
      refine mj_if_eq (tgt := 35) hJ dX9_number_15 (by decide) (fun _ => ?_) (fun hno => absurd rfl hno)
      exact no (fun q => hd q.2.1)
end M20
