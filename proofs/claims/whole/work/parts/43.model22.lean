section M22
variable {G : GE} {I I0 : Ints} {b : Bool}
theorem wdp_lt {g : Int → Int} {n p : Int} {L : List Int} (h : wdp g n p L) (hL : 0 < L.length) (hp : p ≤ n) : p < n := by
  have tb := tend_bd (g := g) hp
  have h2 : wdb g p (tend g n p) L = true := h
  unfold wdb at h2
  rw [Bool.and_eq_true] at h2
  have := of_decide_eq_true h2.1
  omega
theorem c_valueR {ft : Bool} {p : Int} {C : List Int} (h : RD I0 I ft p C) : MtV G yX9_value cX9_value 2 5 [vr 111] I b (fun I' b' => b' = b ∧ (∀ x, ft = false → pval (I0 127) (I0 111 17) p = some x → RD I0 I' false (nxp (I0 127) (I0 111 17) p) (C ++ [mvl x])) ∧ ((ft = true ∨ pval (I0 127) (I0 111 17) p = none) → ∀ C', RD I0 I' true p C')) := by
  refine mt_enterV (own := RX9) (ls0 := [vr 111, vu]) rfl (by decide +kernel) (Nat.le_of_ble_eq_true rfl) rfl (fun J hJ hR => ?_)
  have name : ∀ x : Int, 1000 ≤ x → x ≤ 1002 → ft = false → p < I0 111 17 → pval (I0 127) (I0 111 17) p = some x → J 46 [vr 111, vu] [vi (x + 1000)] (mk I b) := by
    intro x x0 x1 hf hp hx
    subst hf
    have nb := nxp_bd (g := I0 127) h.2.2.1.1.2
    have hl := (h.2.2.2 rfl).2.2
    refine ms_istore_n (ls' := [_, _]) hJ dX9_value_46 (by decide) rfl rfl ?_
    refine mj_iload_n hJ dX9_value_47 rfl ?_
    refine mj_if_le (tgt := 63) hJ dX9_value_48 (by decide) (fun hyes => absurd hyes (by omega)) (fun _ => ?_)
    refine mj_aload_n hJ dX9_value_51 rfl ?_
    refine mk_Vv0 hJ dX9_value_52 cw_X9_191 rfl rfl rfl rfl (Nat.le_of_ble_eq_true rfl) (by first | decide | omega) (c_nextR h) (fun I1 b1 hq9 => ?_)
    obtain ⟨rfl, h1⟩ := hq9
    refine mj_aload_n hJ dX9_value_55 rfl ?_
    refine mj_iload_n hJ dX9_value_56 rfl ?_
    refine mk_Vv1 hJ dX9_value_57 cw_X9_218 rfl rfl rfl rfl (Nat.le_of_ble_eq_true rfl) (by first | decide | omega) (c_putR (x + 1000) h1 (fun _ => by omega)) (fun I2 b2 hq9 => ?_)
    obtain ⟨rfl, h2, -⟩ := hq9
    refine mj_goto (tgt := 74) hJ dX9_value_60 (by decide) ?_
    refine hR _ _ _ _ dX9_value_74 ⟨rfl, fun y _ hy => ?_, fun q => ?_⟩
    · have e : x = y := Option.some.inj (hx.symm.trans hy)
      subst e
      have em : mvl x = x + 1000 := by unfold mvl; rw [if_neg (by omega)]
      rw [em]
      exact h2 rfl
    · rcases q with q | q
      · exact Bool.noConfusion q
      · rw [hx] at q; cases q
  have num : ¬(ft = false ∧ wdp (I0 127) (I0 111 17) p [119, 101, 116]) → ¬(ft = false ∧ wdp (I0 127) (I0 111 17) p [99, 111, 109, 101, 115]) → ¬(ft = false ∧ wdp (I0 127) (I0 111 17) p [102, 108, 111, 119]) → J 45 [vr 111, vu] [] (mk I b) := by
    intro n1 n2 n3
    have ev : ft = false → pval (I0 127) (I0 111 17) p = if isn (I0 127) (I0 111 17) p then some (nv (I0 127) (I0 111 17) p) else none := fun hf => by
      unfold pval
      rw [if_neg (fun q => n1 ⟨hf, q⟩), if_neg (fun q => n2 ⟨hf, q⟩), if_neg (fun q => n3 ⟨hf, q⟩)]
    refine mj_iconst hJ dX9_value_45 (by decide) ?_
    refine ms_istore_n (ls' := [_, _]) hJ dX9_value_46 (by decide) rfl rfl ?_
    refine mj_iload_n hJ dX9_value_47 rfl ?_
    refine mj_if_le (tgt := 63) hJ dX9_value_48 (by decide) (fun _ => ?_) (fun hno => absurd (by decide) hno)
    refine mj_aload_n hJ dX9_value_63 rfl ?_
    refine mj_aload_n hJ dX9_value_64 rfl ?_
    refine mj_sipush hJ dX9_value_65 (by decide) ?_
    refine mk_Vi1 hJ dX9_value_68 cw_X9_221 rfl rfl rfl rfl (Nat.le_of_ble_eq_true rfl) (by first | decide | omega) (c_numR 999 (by decide) (by decide) h) (fun z I1 b1 hq9 => ?_)
    obtain ⟨rfl, h1, h2⟩ := hq9
    by_cases hq : ft = false ∧ isn (I0 127) (I0 111 17) p ∧ nv (I0 127) (I0 111 17) p ≤ 999
    · have w := h1 hq
      have hf := hq.1
      subst hf
      have nb := nxp_bd (g := I0 127) h.2.2.1.1.2
      have hl := (h.2.2.2 rfl).2.2
      have hpn := hq.2.1.1.1
      rw [w.1]
      refine mk_Vv1 hJ dX9_value_71 cw_X9_218 rfl rfl rfl rfl (Nat.le_of_ble_eq_true rfl) (by first | decide | omega) (c_putR _ w.2 (fun _ => by omega)) (fun I2 b2 hq9 => ?_)
      obtain ⟨rfl, h3, -⟩ := hq9
      refine hR _ _ _ _ dX9_value_74 ⟨rfl, fun y _ hy => ?_, fun q => ?_⟩
      · rw [ev rfl, if_pos hq.2.1] at hy
        have e : nv (I0 127) (I0 111 17) p = y := Option.some.inj hy
        subst e
        have em : mvl (nv (I0 127) (I0 111 17) p) = nv (I0 127) (I0 111 17) p := by unfold mvl; rw [if_pos (by have := hq.2.2; omega)]
        rw [em]
        exact h3 rfl
      · rcases q with q | q
        · exact Bool.noConfusion q
        · rw [ev rfl, if_pos hq.2.1] at q; cases q
    · have w := h2 hq
      refine mk_Vv1 hJ dX9_value_71 cw_X9_218 rfl rfl rfl rfl (Nat.le_of_ble_eq_true rfl) (by first | decide | omega) (c_putR z (w C) (fun q => Bool.noConfusion q)) (fun I2 b2 hq9 => ?_)
      obtain ⟨rfl, -, h3⟩ := hq9
      refine hR _ _ _ _ dX9_value_74 ⟨rfl, fun y hf hy => ?_, fun _ C' => h3 rfl C'⟩
      exfalso
      rw [ev hf] at hy
      by_cases c : isn (I0 127) (I0 111 17) p
      · exact hq ⟨hf, c, nv_le c⟩
      · rw [if_neg c] at hy; cases hy
  refine mj_aload_n hJ dX9_value_0 rfl ?_
  refine mj_ldcS (i := 13) hJ dX9_value_1 (by decide) rfl rfl ?_
  refine mk_Vp1 hJ dX9_value_3 cw_X9_212 rfl rfl rfl rfl (Nat.le_of_ble_eq_true rfl) (by first | decide | omega) (c_isW 13 [119, 101, 116] (by decide) rfl h) ?_
  by_cases w1 : ft = false ∧ wdp (I0 127) (I0 111 17) p [119, 101, 116]
  · rw [if_pos w1]
    refine mj_if_eq (tgt := 15) hJ dX9_value_6 (by decide) (fun hyes => absurd hyes (by decide)) (fun _ => ?_)
    refine mj_sipush hJ dX9_value_9 (by decide) ?_
    refine mj_goto (tgt := 46) hJ dX9_value_12 (by decide) ?_
    exact name 1000 (by decide) (by decide) w1.1 (wdp_lt w1.2 (by decide) h.2.2.1.1.2) (by unfold pval; rw [if_pos w1.2])
  · rw [if_neg w1]
    refine mj_if_eq (tgt := 15) hJ dX9_value_6 (by decide) (fun _ => ?_) (fun hno => absurd rfl hno)
    refine mj_aload_n hJ dX9_value_15 rfl ?_
    refine mj_ldcS (i := 14) hJ dX9_value_16 (by decide) rfl rfl ?_
    refine mk_Vp1 hJ dX9_value_18 cw_X9_212 rfl rfl rfl rfl (Nat.le_of_ble_eq_true rfl) (by first | decide | omega) (c_isW 14 [99, 111, 109, 101, 115] (by decide) rfl h) ?_
    by_cases w2 : ft = false ∧ wdp (I0 127) (I0 111 17) p [99, 111, 109, 101, 115]
    · rw [if_pos w2]
      refine mj_if_eq (tgt := 30) hJ dX9_value_21 (by decide) (fun hyes => absurd hyes (by decide)) (fun _ => ?_)
      refine mj_sipush hJ dX9_value_24 (by decide) ?_
      refine mj_goto (tgt := 46) hJ dX9_value_27 (by decide) ?_
      exact name 1001 (by decide) (by decide) w2.1 (wdp_lt w2.2 (by decide) h.2.2.1.1.2) (by unfold pval; rw [if_neg (fun q => w1 ⟨w2.1, q⟩), if_pos w2.2])
    · rw [if_neg w2]
      refine mj_if_eq (tgt := 30) hJ dX9_value_21 (by decide) (fun _ => ?_) (fun hno => absurd rfl hno)
      refine mj_aload_n hJ dX9_value_30 rfl ?_
      refine mj_ldcS (i := 15) hJ dX9_value_31 (by decide) rfl rfl ?_
      refine mk_Vp1 hJ dX9_value_33 cw_X9_212 rfl rfl rfl rfl (Nat.le_of_ble_eq_true rfl) (by first | decide | omega) (c_isW 15 [102, 108, 111, 119] (by decide) rfl h) ?_
      by_cases w3 : ft = false ∧ wdp (I0 127) (I0 111 17) p [102, 108, 111, 119]
      · rw [if_pos w3]
        refine mj_if_eq (tgt := 45) hJ dX9_value_36 (by decide) (fun hyes => absurd hyes (by decide)) (fun _ => ?_)
        refine mj_sipush hJ dX9_value_39 (by decide) ?_
        refine mj_goto (tgt := 46) hJ dX9_value_42 (by decide) ?_
        exact name 1002 (by decide) (by decide) w3.1 (wdp_lt w3.2 (by decide) h.2.2.1.1.2) (by unfold pval; rw [if_neg (fun q => w1 ⟨w3.1, q⟩), if_neg (fun q => w2 ⟨w3.1, q⟩), if_pos w3.2])
      · rw [if_neg w3]
        refine mj_if_eq (tgt := 45) hJ dX9_value_36 (by decide) (fun _ => ?_) (fun hno => absurd rfl hno)
        exact num w1 w2 w3
end M22
