section M7
variable {G : GE} {I : Ints} {b : Bool}
theorem tdiv_floor {a n : Int} (hn : 0 < n) : a.tdiv n - (if a < a.tdiv n * n then 1 else 0) = a / n := by
  have h1 := Int.mul_ediv_add_emod a n
  have h2 := Int.emod_nonneg a (show n ≠ 0 by omega)
  have h3 := Int.emod_lt_of_pos a hn
  by_cases c : 0 ≤ a
  · rw [Int.tdiv_eq_ediv_of_nonneg c, if_neg (by rw [Int.mul_comm]; omega)]
    omega
  · have e : a.tdiv n = -((-a) / n) := by
      rw [← Int.tdiv_eq_ediv_of_nonneg (by omega), Int.neg_tdiv]
      omega
    have g1 := Int.mul_ediv_add_emod (-a) n
    have g2 := Int.emod_nonneg (-a) (show n ≠ 0 by omega)
    have g3 := Int.emod_lt_of_pos (-a) hn
    rw [e]
    have e2 : -(-a / n) * n = -(n * (-a / n)) := by rw [Int.neg_mul, Int.mul_comm]
    rw [e2]
    generalize hx : -a / n = x at g1 g2 g3 e2
    generalize hy : a / n = y at h1
    by_cases z : (-a) % n = 0
    · rw [if_neg (by omega)]
      have : n * (y + x) + a % n = 0 := by rw [Int.mul_add]; omega
      have hk : y + x = 0 := by
        have l1 : ¬ (0 < y + x) := fun q => by have := Int.mul_pos hn q; omega
        have l2 : ¬ (y + x < 0) := fun q => by
          have := Int.mul_le_mul_of_nonneg_left (show y + x ≤ -1 by omega) (show 0 ≤ n by omega)
          omega
        omega
      omega
    · rw [if_pos (by omega)]
      have : n * (y + x + 1) = n * y + n * x + n := by rw [Int.mul_add, Int.mul_add, Int.mul_one]
      have hk : y + x + 1 = 0 := by
        have l1 : ¬ (0 < y + x + 1) := fun q => by
          have := Int.mul_le_mul_of_nonneg_left (show 1 ≤ y + x + 1 by omega) (show 0 ≤ n by omega)
          omega
        have l2 : ¬ (y + x + 1 < 0) := fun q => by
          have := Int.mul_le_mul_of_nonneg_left (show y + x + 1 ≤ -1 by omega) (show 0 ≤ n by omega)
          omega
        omega
      omega
theorem c_X9_findShares (s : Int) (hw : WN (I 112)) : MtV G yX9_findShares cX9_findShares 8 6 [vr 111, vi s] I b (fun I' b' => b' = b ∧ (∀ c, (c < 114 ∨ 121 ≤ c) → I' c = I c) ∧ (∀ v : Int, 0 ≤ v → v < I 112 0 → I' 120 v = shv (I 112) s v ∧ I' 119 v = bM (I 112) v)) := by
  refine mt_enterV (own := RX9) (ls0 := [vr 111, vi s, vu, vu, vu, vu, vu, vu]) rfl (by decide +kernel) (Nat.le_of_ble_eq_true rfl) rfl (fun J hJ hR => ?_)
  have hn := hw.nv
  refine mj_aload_n hJ dX9_findShares_0 rfl ?_
  refine mk_getR hJ dX9_findShares_1 fw_X9_9 rfl (by decide) rfl rfl ?_
  refine mj_iconst hJ dX9_findShares_4 (by decide) ?_
  refine mk_iald hJ dX9_findShares_5 rfl (by omega) (by omega) ?_
  refine ms_istore_n (ls' := [_, _, _, _, _, _, _, _]) hJ dX9_findShares_6 (by decide) rfl rfl ?_
  refine mj_aload_n hJ dX9_findShares_7 rfl ?_
  refine mk_Vi0 hJ dX9_findShares_8 cw_X9_141 rfl rfl rfl rfl (Nat.le_of_ble_eq_true rfl) (by decide) (c_X9_findBest' hw) (fun z I1 b1 hq9 => ?_)
  obtain ⟨rfl, rfl, hf, hv⟩ := hq9
  have e112 := hf 112 (by omega)
  have hbv := bestv_bd hw (w := 10) (by omega) (by omega)
  refine ms_istore_n (ls' := [_, _, _, _, _, _, _, _]) hJ dX9_findShares_11 (by decide) rfl rfl ?_
  refine mj_iconst hJ dX9_findShares_12 (by decide) ?_
  refine ms_istore (ls' := [_, _, _, _, _, _, _, _]) hJ dX9_findShares_13 (by decide) rfl rfl ?_
  refine mj_iconst hJ dX9_findShares_15 (by decide) ?_
  refine ms_istore (ls' := [_, _, _, _, _, _, _, _]) hJ dX9_findShares_16 (by decide) rfl rfl ?_
  have loop : ∀ (m : Nat) (k : Nat) (x : Int) (I2 : Ints), (k + m : Int) = I 112 0 → (∀ c, (c < 114 ∨ (117 ≤ c ∧ c ≠ 120)) → I2 c = I1 c) → (∀ v : Int, 0 ≤ v → v < k → I2 120 v = shv (I 112) s v) → (s = 0 → x = gab (I 112) 10 (fun _ _ => 0) k) → J 18 [vr 111, vi s, vi (I 112 0), vi (bestv (I 112) 10), vi x, vi k, vu, vu] [] (mk I2 b1) := by
    intro m
    induction m with
    | zero =>
      intro k x I2 hk hf2 hs hx
      refine mj_iload hJ dX9_findShares_18 rfl ?_
      refine mj_iload_n hJ dX9_findShares_20 rfl ?_
      refine mj_icmp_ge (tgt := 231) hJ dX9_findShares_21 (by decide) (fun _ => ?_) (fun hno => absurd (by omega) hno)
      exact hR _ _ _ _ dX9_findShares_231 ⟨rfl, fun c hc => (hf2 c (by omega)).trans (hf c (by omega)), fun v a c => ⟨hs v a (by omega), by rw [hf2 119 (by omega)]; exact (hv v a c).2.2⟩⟩
    | succ m ih =>
      intro k x I2 hk hf2 hs hx
      have e112' : I2 112 = I 112 := (hf2 112 (by omega)).trans e112
      have hw2 : WN (I2 112) := by rw [e112']; exact hw
      have up : ∀ (I3 : Ints) (y : Int), (∀ c, (c < 114 ∨ 117 ≤ c) → I3 c = I2 c) → y = shv (I 112) s k → ∀ v : Int, 0 ≤ v → v < ((k + 1 : Nat) : Int) → upI I3 120 k y 120 v = shv (I 112) s v := by
        intro I3 y h3 hy v v0 v1
        rw [upI_at]
        by_cases e : v = k
        · rw [if_pos e, e, hy]
        · rw [if_neg e, h3 120 (by omega)]
          exact hs v v0 (by omega)
      have fr : ∀ (I3 : Ints) (y : Int), (∀ c, (c < 114 ∨ 117 ≤ c) → I3 c = I2 c) → ∀ c, (c < 114 ∨ (117 ≤ c ∧ c ≠ 120)) → upI I3 120 k y c = I1 c := fun I3 y h3 c hc => by
        rw [upI_ne (by omega), h3 c (by omega)]
        exact hf2 c hc
      refine mj_iload hJ dX9_findShares_18 rfl ?_
      refine mj_iload_n hJ dX9_findShares_20 rfl ?_
      refine mj_icmp_ge (tgt := 231) hJ dX9_findShares_21 (by decide) (fun hyes => absurd hyes (by omega)) (fun _ => ?_)
      refine mj_iload_n hJ dX9_findShares_24 rfl ?_
      by_cases h0 : s = 0
      · have hxx := hx h0
        clear hx
        subst h0
        have g := g_bd hw (w := 10) (by omega) (by omega) (T := fun _ _ => 0) (fun _ _ => Int.le_refl _) (v := k) (by omega) (by omega)
        have eC : gC (I 112) 10 (fun _ _ => 0) k = x + I 112 (10 + 18 * k + 0) := by unfold gC; rw [Int.toNat_natCast, ← hxx, infl_10]
        have eL : gL (I 112) 10 (fun _ _ => 0) k = 0 := by unfold gL; simp only []; split <;> omega
        have eT : gT' (I 112) 10 (fun _ _ => 0) k = cu (I 112) k (gC (I 112) 10 (fun _ _ => 0) k) := by unfold gT'; rw [eL, Int.sub_zero]
        have eP : gP (I 112) 10 (fun _ _ => 0) k = gC (I 112) 10 (fun _ _ => 0) k - gT' (I 112) 10 (fun _ _ => 0) k := rfl
        have fl := (hw.fact (v := k) (by omega) (by omega)).1
        have gb := gab_bd hw (w := 10) (by omega) (by omega) (T := fun _ _ => 0) (fun _ _ => Int.le_refl _) k (by omega)
        rw [← hxx] at gb
        refine mj_if_ne (tgt := 87) hJ dX9_findShares_25 (by decide) (fun hyes => absurd (by omega) hyes) (fun _ => ?_)
        refine mj_iload hJ dX9_findShares_28 rfl ?_
        refine mj_aload_n hJ dX9_findShares_30 rfl ?_
        refine mj_iload hJ dX9_findShares_31 rfl ?_
        refine mj_iconst hJ dX9_findShares_33 (by decide) ?_
        refine mk_Vp2 hJ dX9_findShares_34 cw_X9_116 rfl rfl rfl rfl (Nat.le_of_ble_eq_true rfl) (by decide) (c_X9_of k 0 (by omega) (by omega) (by omega) (by omega)) ?_
        rw [e112']
        first | refine ms_iadd hJ dX9_findShares_37 (by omega) ?_ | refine mj_iadd hJ dX9_findShares_37 ?_
        rw [← eC]
        refine ms_istore (ls' := [_, _, _, _, _, _, _, _]) hJ dX9_findShares_38 (by decide) rfl rfl ?_
        refine mj_aload_n hJ dX9_findShares_40 rfl ?_
        refine mj_iload hJ dX9_findShares_41 rfl ?_
        refine mj_iload hJ dX9_findShares_43 rfl ?_
        refine mk_Vp2 hJ dX9_findShares_45 cw_X9_151 rfl rfl rfl rfl (Nat.le_of_ble_eq_true rfl) (by decide) (c_X9_canUse k (gC (I 112) 10 (fun _ _ => 0) k) (by omega) (by omega)) ?_
        rw [e112', ← eT]
        refine ms_istore (ls' := [_, _, _, _, _, _, _, _]) hJ dX9_findShares_48 (by decide) rfl rfl ?_
        refine mj_aload_n hJ dX9_findShares_50 rfl ?_
        refine mk_getR hJ dX9_findShares_51 fw_X9_34 rfl (by decide) rfl rfl ?_
        refine mj_iload hJ dX9_findShares_54 rfl ?_
        refine mj_aload_n hJ dX9_findShares_56 rfl ?_
        refine mj_iload hJ dX9_findShares_57 rfl ?_
        refine mj_iload hJ dX9_findShares_59 rfl ?_
        refine mk_Vp2 hJ dX9_findShares_61 cw_X9_123 rfl rfl rfl rfl (Nat.le_of_ble_eq_true rfl) (by decide) (c_X9_firstI k (gT' (I 112) 10 (fun _ _ => 0) k) (by omega) (by omega) (by omega) (by omega) hw2) ?_
        rw [e112']
        refine mj_aload_n hJ dX9_findShares_64 rfl ?_
        refine mj_iload hJ dX9_findShares_65 rfl ?_
        refine mj_iload hJ dX9_findShares_67 rfl ?_
        refine mj_iload hJ dX9_findShares_69 rfl ?_
        refine ms_isub hJ dX9_findShares_71 (by omega) ?_
        rw [← eP]
        refine mk_Vp2 hJ dX9_findShares_72 cw_X9_126 rfl rfl rfl rfl (Nat.le_of_ble_eq_true rfl) (by decide) (c_X9_harm k (gP (I 112) 10 (fun _ _ => 0) k) (by omega) (by omega) (by omega) (by omega) hw2) ?_
        rw [e112']
        have fb := fst_bd hw (v := k) (by omega) (by omega) (gT' (I 112) 10 (fun _ _ => 0) k).toNat (by omega)
        have hb := hrm_bd hw (v := k) (by omega) (by omega) (p := gP (I 112) 10 (fun _ _ => 0) k) (by omega) (by omega)
        first | refine ms_isub hJ dX9_findShares_75 (by omega) ?_ | refine mj_isub hJ dX9_findShares_75 ?_
        refine mk_iast hJ dX9_findShares_76 rfl (by omega) (by omega) ?_
        refine mj_iload hJ dX9_findShares_77 rfl ?_
        refine mj_iload hJ dX9_findShares_79 rfl ?_
        first | refine ms_isub hJ dX9_findShares_81 (by omega) ?_ | refine mj_isub hJ dX9_findShares_81 ?_
        refine ms_istore (ls' := [_, _, _, _, _, _, _, _]) hJ dX9_findShares_82 (by decide) rfl rfl ?_
        refine mj_goto (tgt := 225) hJ dX9_findShares_84 (by decide) ?_
        refine ms_iinc (ls' := [_, _, _, _, _, _, _, _]) hJ dX9_findShares_225 rfl (by decide) rfl (wr_id (by omega)) rfl ?_
        refine mj_goto (tgt := 18) hJ dX9_findShares_228 (by decide) ?_
        refine mj_drop (ls' := [_, _, _, _, _, _, vu, vu]) hJ ⟨Or.inl rfl, Or.inl rfl, Or.inl rfl, Or.inl rfl, Or.inl rfl, Or.inl rfl, Or.inr rfl, Or.inr rfl, trivial⟩ ?_
        refine ih (k + 1) _ _ (by omega) (fr I2 _ (fun _ _ => rfl)) (up I2 _ (fun _ _ => rfl) rfl) (fun _ => ?_)
        rw [gab_succ, eP]
      · refine mj_if_ne (tgt := 87) hJ dX9_findShares_25 (by decide) (fun _ => ?_) (fun hno => absurd hno (by omega))
        refine mj_iload_n hJ dX9_findShares_87 rfl ?_
        refine mj_iconst hJ dX9_findShares_88 (by decide) ?_
        by_cases h1 : s = 1
        · subst h1
          refine mj_icmp_ne (tgt := 128) hJ dX9_findShares_89 (by decide) (fun hyes => absurd (by omega) hyes) (fun _ => ?_)
          refine mj_aload_n hJ dX9_findShares_92 rfl ?_
          refine mk_getR hJ dX9_findShares_93 fw_X9_34 rfl (by decide) rfl rfl ?_
          refine mj_iload hJ dX9_findShares_96 rfl ?_
          refine mj_aload_n hJ dX9_findShares_98 rfl ?_
          refine mj_iconst hJ dX9_findShares_99 (by decide) ?_
          refine mj_iload hJ dX9_findShares_100 rfl ?_
          refine mk_Vi2 hJ dX9_findShares_102 cw_X9_145 rfl rfl rfl rfl (Nat.le_of_ble_eq_true rfl) (by decide) (c_X9_runOf 0 k hw2 (by omega) (by omega) (by rw [e112']; omega)) (fun z I3 b3 hq9 => ?_)
          obtain ⟨rfl, rfl, hf3⟩ := hq9
          rw [e112']
          have r1 := runv_bd hw (a := 0) (l := k) (by omega) (by omega) (by omega)
          refine mj_iload hJ dX9_findShares_105 rfl ?_
          have K : ∀ (I4 : Ints) (y : Int), (∀ c, (c < 114 ∨ 117 ≤ c) → I4 c = I2 c) → (if 0 < (k : Int) then runv (I 112) 0 (k - 1) else 0) = y → -20000 ≤ y → y ≤ 20000 → J 123 [vr 111, vi 1, vi (I 112 0), vi (bestv (I 112) 10), vi x, vi k, vu, vu] [vi y, vi (runv (I 112) 0 k), vi k, vr 120] (mk I4 b3) := by
            intro I4 y h4 hy y0 y1
            first | refine ms_isub hJ dX9_findShares_123 (by omega) ?_ | refine mj_isub hJ dX9_findShares_123 ?_
            refine mk_iast hJ dX9_findShares_124 rfl (by omega) (by omega) ?_
            refine mj_goto (tgt := 225) hJ dX9_findShares_125 (by decide) ?_
            refine ms_iinc (ls' := [_, _, _, _, _, _, _, _]) hJ dX9_findShares_225 rfl (by decide) rfl (wr_id (by omega)) rfl ?_
            refine mj_goto (tgt := 18) hJ dX9_findShares_228 (by decide) ?_
            refine ih (k + 1) _ _ (by omega) (fr I4 _ h4) (up I4 _ h4 ?_) (fun q => absurd q (by omega))
            unfold shv downv
            rw [if_neg (by omega), if_pos rfl, hy]
          refine mj_if_le (tgt := 122) hJ dX9_findShares_107 (by decide) (fun hk0 => ?_) (fun hk0 => ?_)
          · refine mj_iconst hJ dX9_findShares_122 (by decide) ?_
            exact K I3 0 (fun c hc => hf3 c (by omega)) (by rw [if_neg (by omega)]) (by omega) (by omega)
          · have e3 : I3 112 = I 112 := (hf3 112 (by omega)).trans e112'
            refine mj_aload_n hJ dX9_findShares_110 rfl ?_
            refine mj_iconst hJ dX9_findShares_111 (by decide) ?_
            refine mj_iload hJ dX9_findShares_112 rfl ?_
            refine mj_iconst hJ dX9_findShares_114 (by decide) ?_
            first | refine ms_isub hJ dX9_findShares_115 (by omega) ?_ | refine mj_isub hJ dX9_findShares_115 ?_
            refine mk_Vi2 hJ dX9_findShares_116 cw_X9_145 rfl rfl rfl rfl (Nat.le_of_ble_eq_true rfl) (by decide) (c_X9_runOf 0 (k - 1) (by rw [e3]; exact hw) (by omega) (by omega) (by rw [e3]; omega)) (fun z I4 b4 hq9 => ?_)
            obtain ⟨rfl, rfl, hf4⟩ := hq9
            rw [e3]
            have r2 := runv_bd hw (a := 0) (l := k - 1) (by omega) (by omega) (by omega)
            refine mj_goto (tgt := 123) hJ dX9_findShares_119 (by decide) ?_
            exact K I4 _ (fun c hc => (hf4 c (by omega)).trans (hf3 c (by omega))) (by rw [if_pos (by omega)]) (by omega) (by omega)
        · refine mj_icmp_ne (tgt := 128) hJ dX9_findShares_89 (by decide) (fun _ => ?_) (fun hno => absurd hno (by omega))
          refine mj_iload_n hJ dX9_findShares_128 rfl ?_
          refine mj_iconst hJ dX9_findShares_129 (by decide) ?_
          by_cases h2 : s = 2
          · subst h2
            refine mj_icmp_ne (tgt := 176) hJ dX9_findShares_130 (by decide) (fun hyes => absurd (by omega) hyes) (fun _ => ?_)
            refine mj_aload_n hJ dX9_findShares_133 rfl ?_
            refine mk_getR hJ dX9_findShares_134 fw_X9_34 rfl (by decide) rfl rfl ?_
            refine mj_iload hJ dX9_findShares_137 rfl ?_
            refine mj_aload_n hJ dX9_findShares_139 rfl ?_
            refine mj_iload hJ dX9_findShares_140 rfl ?_
            refine mj_iload_n hJ dX9_findShares_142 rfl ?_
            refine mj_iconst hJ dX9_findShares_143 (by decide) ?_
            first | refine ms_isub hJ dX9_findShares_144 (by omega) ?_ | refine mj_isub hJ dX9_findShares_144 ?_
            refine mk_Vi2 hJ dX9_findShares_145 cw_X9_145 rfl rfl rfl rfl (Nat.le_of_ble_eq_true rfl) (by decide) (c_X9_runOf k (I 112 0 - 1) hw2 (by omega) (by omega) (by rw [e112']; omega)) (fun z I3 b3 hq9 => ?_)
            obtain ⟨rfl, rfl, hf3⟩ := hq9
            rw [e112']
            have r1 := runv_bd hw (a := k) (l := I 112 0 - 1) (by omega) (by omega) (by omega)
            refine mj_iload hJ dX9_findShares_148 rfl ?_
            refine mj_iload_n hJ dX9_findShares_150 rfl ?_
            refine mj_iconst hJ dX9_findShares_151 (by decide) ?_
            first | refine ms_isub hJ dX9_findShares_152 (by omega) ?_ | refine mj_isub hJ dX9_findShares_152 ?_
            have K : ∀ (I4 : Ints) (y : Int), (∀ c, (c < 114 ∨ 117 ≤ c) → I4 c = I2 c) → (if (k : Int) < I 112 0 - 1 then runv (I 112) (k + 1) (I 112 0 - 1) else 0) = y → -20000 ≤ y → y ≤ 20000 → J 171 [vr 111, vi 2, vi (I 112 0), vi (bestv (I 112) 10), vi x, vi k, vu, vu] [vi y, vi (runv (I 112) k (I 112 0 - 1)), vi k, vr 120] (mk I4 b3) := by
              intro I4 y h4 hy y0 y1
              first | refine ms_isub hJ dX9_findShares_171 (by omega) ?_ | refine mj_isub hJ dX9_findShares_171 ?_
              refine mk_iast hJ dX9_findShares_172 rfl (by omega) (by omega) ?_
              refine mj_goto (tgt := 225) hJ dX9_findShares_173 (by decide) ?_
              refine ms_iinc (ls' := [_, _, _, _, _, _, _, _]) hJ dX9_findShares_225 rfl (by decide) rfl (wr_id (by omega)) rfl ?_
              refine mj_goto (tgt := 18) hJ dX9_findShares_228 (by decide) ?_
              refine ih (k + 1) _ _ (by omega) (fr I4 _ h4) (up I4 _ h4 ?_) (fun q => absurd q (by omega))
              unfold shv upv
              rw [if_neg (by omega), if_neg (by omega), if_pos rfl, hy]
            refine mj_icmp_ge (tgt := 170) hJ dX9_findShares_153 (by decide) (fun hk0 => ?_) (fun hk0 => ?_)
            · refine mj_iconst hJ dX9_findShares_170 (by decide) ?_
              exact K I3 0 (fun c hc => hf3 c (by omega)) (by rw [if_neg (by omega)]) (by omega) (by omega)
            · have e3 : I3 112 = I 112 := (hf3 112 (by omega)).trans e112'
              refine mj_aload_n hJ dX9_findShares_156 rfl ?_
              refine mj_iload hJ dX9_findShares_157 rfl ?_
              refine mj_iconst hJ dX9_findShares_159 (by decide) ?_
              first | refine ms_iadd hJ dX9_findShares_160 (by omega) ?_ | refine mj_iadd hJ dX9_findShares_160 ?_
              refine mj_iload_n hJ dX9_findShares_161 rfl ?_
              refine mj_iconst hJ dX9_findShares_162 (by decide) ?_
              first | refine ms_isub hJ dX9_findShares_163 (by omega) ?_ | refine mj_isub hJ dX9_findShares_163 ?_
              refine mk_Vi2 hJ dX9_findShares_164 cw_X9_145 rfl rfl rfl rfl (Nat.le_of_ble_eq_true rfl) (by decide) (c_X9_runOf (k + 1) (I 112 0 - 1) (by rw [e3]; exact hw) (by omega) (by omega) (by rw [e3]; omega)) (fun z I4 b4 hq9 => ?_)
              obtain ⟨rfl, rfl, hf4⟩ := hq9
              rw [e3]
              have r2 := runv_bd hw (a := k + 1) (l := I 112 0 - 1) (by omega) (by omega) (by omega)
              refine mj_goto (tgt := 171) hJ dX9_findShares_167 (by decide) ?_
              exact K I4 _ (fun c hc => (hf4 c (by omega)).trans (hf3 c (by omega))) (by rw [if_pos (by omega)]) (by omega) (by omega)
          · have hn0 : 0 < I 112 0 := by omega
            have et := tdiv_floor (a := bestv (I 112) 10) hn0
            have m1 := Int.mul_ediv_add_emod (bestv (I 112) 10) (I 112 0)
            have m2 := Int.emod_nonneg (bestv (I 112) 10) (show I 112 0 ≠ 0 by omega)
            have m3 := Int.emod_lt_of_pos (bestv (I 112) 10) hn0
            have t1 := Int.mul_tdiv_add_tmod (bestv (I 112) 10) (I 112 0)
            have tb : -20000 ≤ (bestv (I 112) 10).tdiv (I 112 0) ∧ (bestv (I 112) 10).tdiv (I 112 0) ≤ 20000 := by
              have h9 : ((bestv (I 112) 10).tdiv (I 112 0)).natAbs ≤ (bestv (I 112) 10).natAbs := by
                rw [Int.natAbs_tdiv]
                exact Nat.div_le_self _ _
              omega
            have tm : -20000 ≤ (bestv (I 112) 10).tdiv (I 112 0) * I 112 0 ∧ (bestv (I 112) 10).tdiv (I 112 0) * I 112 0 ≤ 20000 := by
              have h7 : (I 112 0 * (bestv (I 112) 10).tdiv (I 112 0)).natAbs ≤ (bestv (I 112) 10).natAbs := by
                rw [Int.natAbs_mul, Int.natAbs_tdiv]
                exact Nat.mul_div_le _ _
              rw [Int.mul_comm]
              omega
            have db : -30000 ≤ bestv (I 112) 10 / I 112 0 ∧ bestv (I 112) 10 / I 112 0 ≤ 30000 := by
              rw [← et]
              split <;> omega
            refine mj_icmp_ne (tgt := 176) hJ dX9_findShares_130 (by decide) (fun _ => ?_) (fun hno => absurd hno (by omega))
            refine mj_iload_n hJ dX9_findShares_176 rfl ?_
            refine mj_iload_n hJ dX9_findShares_177 rfl ?_
            refine ms_idiv hJ dX9_findShares_178 (by omega) (by omega) ?_
            refine ms_istore (ls' := [_, _, _, _, _, _, _, _]) hJ dX9_findShares_179 (by decide) rfl rfl ?_
            refine mj_iload hJ dX9_findShares_181 rfl ?_
            refine mj_iload hJ dX9_findShares_183 rfl ?_
            refine mj_iload_n hJ dX9_findShares_185 rfl ?_
            first | refine ms_imul hJ dX9_findShares_186 (by omega) ?_ | refine mj_imul hJ dX9_findShares_186 ?_
            refine mj_iload_n hJ dX9_findShares_187 rfl ?_
            have K : ∀ y : Int, y = (if bestv (I 112) 10 < (bestv (I 112) 10).tdiv (I 112 0) * I 112 0 then 1 else 0) → J 196 [vr 111, vi s, vi (I 112 0), vi (bestv (I 112) 10), vi x, vi k, vi ((bestv (I 112) 10).tdiv (I 112 0)), vu] [vi y, vi ((bestv (I 112) 10).tdiv (I 112 0))] (mk I2 b1) := by
              intro y hy
              have y2 : 0 ≤ y ∧ y ≤ 1 := by rw [hy]; split <;> omega
              first | refine ms_isub hJ dX9_findShares_196 (by omega) ?_ | refine mj_isub hJ dX9_findShares_196 ?_
              rw [hy, et]
              have m4 : bestv (I 112) 10 / I 112 0 * I 112 0 = bestv (I 112) 10 - bestv (I 112) 10 % I 112 0 := by rw [Int.mul_comm]; omega
              refine ms_istore (ls' := [_, _, _, _, _, _, _, _]) hJ dX9_findShares_197 (by decide) rfl rfl ?_
              refine mj_aload_n hJ dX9_findShares_199 rfl ?_
              refine mk_getR hJ dX9_findShares_200 fw_X9_34 rfl (by decide) rfl rfl ?_
              refine mj_iload hJ dX9_findShares_203 rfl ?_
              refine mj_iload hJ dX9_findShares_205 rfl ?_
              refine mj_iload hJ dX9_findShares_207 rfl ?_
              refine mj_iload_n hJ dX9_findShares_209 rfl ?_
              refine mj_iload hJ dX9_findShares_210 rfl ?_
              refine mj_iload_n hJ dX9_findShares_212 rfl ?_
              first | refine ms_imul hJ dX9_findShares_213 (by omega) ?_ | refine mj_imul hJ dX9_findShares_213 ?_
              rw [m4]
              first | refine ms_isub hJ dX9_findShares_214 (by omega) ?_ | refine mj_isub hJ dX9_findShares_214 ?_
              have K2 : ∀ u : Int, u = (if (k : Int) < bestv (I 112) 10 % I 112 0 then 1 else 0) → J 223 [vr 111, vi s, vi (I 112 0), vi (bestv (I 112) 10), vi x, vi k, vi (bestv (I 112) 10 / I 112 0), vu] [vi u, vi (bestv (I 112) 10 / I 112 0), vi k, vr 120] (mk I2 b1) := by
                intro u hu
                have u2 : 0 ≤ u ∧ u ≤ 1 := by rw [hu]; split <;> omega
                first | refine ms_iadd hJ dX9_findShares_223 (by omega) ?_ | refine mj_iadd hJ dX9_findShares_223 ?_
                refine mk_iast hJ dX9_findShares_224 rfl (by omega) (by omega) ?_
                refine ms_iinc (ls' := [_, _, _, _, _, _, _, _]) hJ dX9_findShares_225 rfl (by decide) rfl (wr_id (by omega)) rfl ?_
                refine mj_goto (tgt := 18) hJ dX9_findShares_228 (by decide) ?_
                refine mj_drop (ls' := [_, _, _, _, _, _, vu, vu]) hJ ⟨Or.inl rfl, Or.inl rfl, Or.inl rfl, Or.inl rfl, Or.inl rfl, Or.inl rfl, Or.inr rfl, Or.inr rfl, trivial⟩ ?_
                refine ih (k + 1) _ _ (by omega) (fr I2 _ (fun _ _ => rfl)) (up I2 _ (fun _ _ => rfl) ?_) (fun q => absurd q h0)
                unfold shv equalv
                rw [if_neg h0, if_neg h1, if_neg h2, hu]
              refine mj_icmp_ge (tgt := 222) hJ dX9_findShares_215 (by decide) (fun hl => ?_) (fun hl => ?_)
              · refine mj_iconst hJ dX9_findShares_222 (by decide) ?_
                exact K2 0 (by rw [if_neg (by omega)])
              · refine mj_iconst hJ dX9_findShares_218 (by decide) ?_
                refine mj_goto (tgt := 223) hJ dX9_findShares_219 (by decide) ?_
                exact K2 1 (by rw [if_pos (by omega)])
            refine mj_icmp_le (tgt := 195) hJ dX9_findShares_188 (by decide) (fun hl => ?_) (fun hl => ?_)
            · refine mj_iconst hJ dX9_findShares_195 (by decide) ?_
              exact K 0 (by rw [if_neg (by omega)])
            · refine mj_iconst hJ dX9_findShares_191 (by decide) ?_
              refine mj_goto (tgt := 196) hJ dX9_findShares_192 (by decide) ?_
              exact K 1 (by rw [if_pos (by omega)])
  exact loop (I 112 0).toNat 0 0 I1 (by omega) (fun _ _ => rfl) (fun v a c => absurd c (by omega)) (fun _ => rfl)
end M7
