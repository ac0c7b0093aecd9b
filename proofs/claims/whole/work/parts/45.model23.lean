section M23
variable {G : GE} {I I0 : Ints} {b : Bool}
/-- what a part of the parse leaves -/
abbrev PtR (I0 I' : Ints) (r : PR) (C : List Int) : Prop := (r.1 = true → RD I0 I' false r.2.1 (C ++ codo r.2.2)) ∧ (r.1 = false → ∀ C', RD I0 I' true r.2.1 C')
theorem upI_back {I : Ints} {k : Nat} {j x y : Int} (h : I k j = y) : upI (upI I k j x) k j y = I := by
  funext c i
  unfold upI
  by_cases e : c = k ∧ i = j
  · rw [if_pos e, e.1, e.2, h]
  · rw [if_neg e, if_neg e]
theorem nof {ft : Bool} {P : Prop} (h : ft = true) : ¬(ft = false ∧ P) := fun q => by rw [h] at q; exact Bool.noConfusion q.1
theorem c_oneF {p : Int} {C : List Int} (h : RD I0 I true p C) : MtV G yX9_one cX9_one 3 6 [vr 111] I b (fun I' b' => b' = b ∧ ∀ C', RD I0 I' true p C') := by
  refine mt_enterV (own := RX9) (ls0 := [vr 111, vu, vu]) rfl (by decide +kernel) (Nat.le_of_ble_eq_true rfl) rfl (fun J hJ hR => ?_)
  refine mj_iconst hJ dX9_one_0 (by decide) ?_
  refine ms_istore_n (ls' := [_, _, _]) hJ dX9_one_1 (by decide) rfl rfl ?_
  refine mj_aload_n hJ dX9_one_2 rfl ?_
  refine mj_ldcS (i := 10) hJ dX9_one_3 (by decide) rfl rfl ?_
  refine mk_Vp1 hJ dX9_one_5 cw_X9_212 rfl rfl rfl rfl (Nat.le_of_ble_eq_true rfl) (by first | decide | omega) (c_isW 10 [110, 111, 116] (by decide) rfl h) ?_
  rw [if_neg (nof rfl)]
  refine mj_if_eq (tgt := 21) hJ dX9_one_8 (by decide) (fun _ => ?_) (fun hno => absurd rfl hno)
  refine mj_aload_n hJ dX9_one_21 rfl ?_
  refine mj_ldcS (i := 11) hJ dX9_one_22 (by decide) rfl rfl ?_
  refine mk_Vp1 hJ dX9_one_24 cw_X9_212 rfl rfl rfl rfl (Nat.le_of_ble_eq_true rfl) (by first | decide | omega) (c_isW 11 [40] (by decide) rfl h) ?_
  rw [if_neg (nof rfl)]
  refine mj_if_eq (tgt := 84) hJ dX9_one_27 (by decide) (fun _ => ?_) (fun hno => absurd rfl hno)
  refine mj_aload_n hJ dX9_one_84 rfl ?_
  refine mk_Vv0 hJ dX9_one_85 cw_X9_236 rfl rfl rfl rfl (Nat.le_of_ble_eq_true rfl) (by first | decide | omega) (c_valueR h) (fun I1 b1 hq9 => ?_)
  obtain ⟨rfl, -, h1⟩ := hq9
  have h1 := h1 (Or.inl rfl)
  refine mj_aload_n hJ dX9_one_88 rfl ?_
  refine mj_ldcS (i := 16) hJ dX9_one_89 (by decide) rfl rfl ?_
  refine mk_Vp1 hJ dX9_one_91 cw_X9_212 rfl rfl rfl rfl (Nat.le_of_ble_eq_true rfl) (by first | decide | omega) (c_isW 16 [60] (by decide) rfl (h1 C)) ?_
  rw [if_neg (nof rfl)]
  refine mj_if_eq (tgt := 103) hJ dX9_one_94 (by decide) (fun _ => ?_) (fun hno => absurd rfl hno)
  refine mj_aload_n hJ dX9_one_103 rfl ?_
  refine mj_ldcS (i := 17) hJ dX9_one_104 (by decide) rfl rfl ?_
  refine mk_Vp1 hJ dX9_one_106 cw_X9_212 rfl rfl rfl rfl (Nat.le_of_ble_eq_true rfl) (by first | decide | omega) (c_isW 17 [61] (by decide) rfl (h1 C)) ?_
  rw [if_neg (nof rfl)]
  refine mj_if_eq (tgt := 118) hJ dX9_one_109 (by decide) (fun _ => ?_) (fun hno => absurd rfl hno)
  refine mj_aload_n hJ dX9_one_118 rfl ?_
  refine mj_ldcS (i := 18) hJ dX9_one_119 (by decide) rfl rfl ?_
  refine mk_Vp1 hJ dX9_one_121 cw_X9_212 rfl rfl rfl rfl (Nat.le_of_ble_eq_true rfl) (by first | decide | omega) (c_isW 18 [62] (by decide) rfl (h1 C)) ?_
  rw [if_neg (nof rfl)]
  refine mj_if_eq (tgt := 133) hJ dX9_one_124 (by decide) (fun _ => ?_) (fun hno => absurd rfl hno)
  refine mj_iconst hJ dX9_one_133 (by decide) ?_
  refine ms_istore_n (ls' := [_, _, _]) hJ dX9_one_134 (by decide) rfl rfl ?_
  refine mj_aload_n hJ dX9_one_135 rfl ?_
  refine mj_iload_n hJ dX9_one_136 rfl ?_
  refine mj_if_le (tgt := 144) hJ dX9_one_137 (by decide) (fun _ => ?_) (fun hno => absurd (by decide) hno)
  refine mj_iconst hJ dX9_one_144 (by decide) ?_
  refine mk_Vv1 hJ dX9_one_145 cw_X9_203 rfl rfl rfl rfl (Nat.le_of_ble_eq_true rfl) (by first | decide | omega) (c_needR 0 (Or.inl rfl) (h1 C)) (fun I2 b2 hq9 => ?_)
  obtain ⟨rfl, -, h2⟩ := hq9
  have h2 := h2 (fun q => Bool.noConfusion q.1)
  refine mj_aload_n hJ dX9_one_148 rfl ?_
  refine mk_getI (j' := 20) hJ dX9_one_149 fw_X9_187 rfl (by decide) rfl rfl ?_
  rw [(h2 C).2.1.2.2]
  refine mj_if_ne (tgt := 159) hJ dX9_one_152 (by decide) (fun _ => ?_) (fun hno => absurd hno (by decide))
  refine mj_aload_n hJ dX9_one_159 rfl ?_
  refine mj_iload_n hJ dX9_one_160 rfl ?_
  refine mk_Vv1 hJ dX9_one_161 cw_X9_218 rfl rfl rfl rfl (Nat.le_of_ble_eq_true rfl) (by first | decide | omega) (c_putR 0 (h2 C) (fun q => Bool.noConfusion q)) (fun I3 b3 hq9 => ?_)
  obtain ⟨rfl, -, h3⟩ := hq9
  have h3 := h3 rfl
  refine mj_iload_n hJ dX9_one_164 rfl ?_
  refine mj_iconst hJ dX9_one_165 (by decide) ?_
  refine mj_irem hJ dX9_one_166 (by omega) ?_
  refine mj_iconst hJ dX9_one_167 (by decide) ?_
  refine mj_icmp_ne (tgt := 178) hJ dX9_one_168 (by decide) (fun _ => ?_) (fun hno => absurd hno (by decide))
  exact hR _ _ _ _ dX9_one_178 ⟨rfl, h3⟩
theorem c_allF {p : Int} {C : List Int} (h : RD I0 I true p C) : MtV G yX9_all cX9_all 1 7 [vr 111] I b (fun I' b' => b' = b ∧ ∀ C', RD I0 I' true p C') := by
  refine mt_enterV (own := RX9) (ls0 := [vr 111]) rfl (by decide +kernel) (Nat.le_of_ble_eq_true rfl) rfl (fun J hJ hR => ?_)
  refine mj_aload_n hJ dX9_all_0 rfl ?_
  refine mk_Vv0 hJ dX9_all_1 cw_X9_245 rfl rfl rfl rfl (Nat.le_of_ble_eq_true rfl) (by first | decide | omega) (c_oneF h) (fun I1 b1 hq9 => ?_)
  obtain ⟨rfl, h1⟩ := hq9
  refine mj_aload_n hJ dX9_all_4 rfl ?_
  refine mj_ldcS (i := 19) hJ dX9_all_5 (by decide) rfl rfl ?_
  refine mk_Vp1 hJ dX9_all_7 cw_X9_212 rfl rfl rfl rfl (Nat.le_of_ble_eq_true rfl) (by first | decide | omega) (c_isW 19 [97, 110, 100] (by decide) rfl (h1 C)) ?_
  rw [if_neg (nof rfl)]
  refine mj_if_eq (tgt := 31) hJ dX9_all_10 (by decide) (fun _ => ?_) (fun hno => absurd rfl hno)
  exact hR _ _ _ _ dX9_all_31 ⟨rfl, h1⟩
theorem c_condF {p : Int} {C : List Int} (h : RD I0 I true p C) : MtV G yX9_cond cX9_cond 1 8 [vr 111] I b (fun I' b' => b' = b ∧ ∀ C', RD I0 I' true p C') := by
  refine mt_enterV (own := RX9) (ls0 := [vr 111]) rfl (by decide +kernel) (Nat.le_of_ble_eq_true rfl) rfl (fun J hJ hR => ?_)
  refine mj_aload_n hJ dX9_cond_0 rfl ?_
  refine mk_Vv0 hJ dX9_cond_1 cw_X9_250 rfl rfl rfl rfl (Nat.le_of_ble_eq_true rfl) (by first | decide | omega) (c_allF h) (fun I1 b1 hq9 => ?_)
  obtain ⟨rfl, h1⟩ := hq9
  refine mj_aload_n hJ dX9_cond_4 rfl ?_
  refine mj_ldcS (i := 20) hJ dX9_cond_5 (by decide) rfl rfl ?_
  refine mk_Vp1 hJ dX9_cond_7 cw_X9_212 rfl rfl rfl rfl (Nat.le_of_ble_eq_true rfl) (by first | decide | omega) (c_isW 20 [111, 114] (by decide) rfl (h1 C)) ?_
  rw [if_neg (nof rfl)]
  refine mj_if_eq (tgt := 31) hJ dX9_cond_10 (by decide) (fun _ => ?_) (fun hno => absurd rfl hno)
  exact hR _ _ _ _ dX9_cond_31 ⟨rfl, h1⟩
/-- cond, where m brackets more may be opened -/
abbrev CondOK (G : GE) (m : Nat) : Prop := ∀ (I0 I : Ints) (b : Bool) (p : Int) (C : List Int) (g : Int → Int) (n : Int), I0 127 = g → I0 111 17 = n → I0 111 21 = 3 - m → RD I0 I false p C → MtV G yX9_cond cX9_cond 1 (11 + 3 * m) [vr 111] I b (fun I' b' => b' = b ∧ PtR I0 I' (pcon g n (popen g n m) p) C)
theorem c_one (lv : Nat) (hlv : lv ≤ 3) (hC : ∀ m, lv = m + 1 → CondOK G m) {p : Int} {C : List Int} (h21 : I0 111 21 = 3 - lv) (h : RD I0 I false p C) : MtV G yX9_one cX9_one 3 (9 + 3 * lv) [vr 111] I b (fun I' b' => b' = b ∧ PtR I0 I' (pone (I0 127) (I0 111 17) (popen (I0 127) (I0 111 17) lv) p) C) := by
  refine mt_enterV (own := RX9) (ls0 := [vr 111, vu, vu]) rfl (by decide +kernel) (Nat.le_of_ble_eq_true rfl) rfl (fun J hJ hR => ?_)
  have hn200 := h.2.2.1.2
  have hp := h.2.2.1.1
  have hCl := (h.2.2.2 rfl).2.2
  have fin : ∀ (k q : Int) (t : Bool) (r : PR) (I1 : Ints) (x2 : Vl), 0 ≤ k → k ≤ 200 → (k % 2 = 1 ↔ t = true) → PtR I0 I1 r C → (r.1 = true → (C.length : Int) + (codo r.2.2).length + (if t = true then 1 else 0) ≤ r.2.1) →
      pnot (I0 127) (I0 111 17) (I0 111 17 - p).toNat p false = (t, q) → (if wdp (I0 127) (I0 111 17) q [40] then popen (I0 127) (I0 111 17) lv q else pcmp (I0 127) (I0 111 17) q) = r → J 164 [vr 111, vi k, x2] [] (mk I1 b) := by
    intro k q t r I1 x2 k0 k1 hk hr hl hpn hre
    have ep : pone (I0 127) (I0 111 17) (popen (I0 127) (I0 111 17) lv) p = if r.1 = true then (true, r.2.1, r.2.2 ++ (if t = true then [(0, -1, 0)] else [])) else r := by
      unfold pone
      rw [hpn]
      show (if (if wdp (I0 127) (I0 111 17) q [40] then popen (I0 127) (I0 111 17) lv q else pcmp (I0 127) (I0 111 17) q).1 = true then _ else _) = _
      rw [hre]
    refine mj_iload_n hJ dX9_one_164 rfl ?_
    refine mj_iconst hJ dX9_one_165 (by decide) ?_
    refine mj_irem hJ dX9_one_166 (by omega) ?_
    rw [Int.tmod_eq_emod_of_nonneg k0]
    refine mj_iconst hJ dX9_one_167 (by decide) ?_
    refine mj_icmp_ne (tgt := 178) hJ dX9_one_168 (by decide) (fun ho => ?_) (fun ho => ?_)
    · have ht : ¬ t = true := fun q => ho (hk.2 q)
      refine hR _ _ _ _ dX9_one_178 ⟨rfl, ?_⟩
      rw [ep]
      by_cases c : r.1 = true
      · rw [if_pos c, if_neg ht, List.append_nil]
        exact ⟨fun _ => hr.1 c, fun q => Bool.noConfusion q⟩
      · rw [if_neg c]
        exact hr
    · have ht : t = true := hk.1 ho
      refine mj_aload_n hJ dX9_one_171 rfl ?_
      refine mj_sipush hJ dX9_one_172 (by decide) ?_
      rw [if_pos ht] at hl
      by_cases c : r.1 = true
      · refine mk_Vv1 hJ dX9_one_175 cw_X9_218 rfl rfl rfl rfl (Nat.le_of_ble_eq_true rfl) (by first | decide | omega) (c_putR 2006 (hr.1 c) (fun _ => by have := hl c; rw [List.length_append]; omega)) (fun I2 b2 hq9 => ?_)
        obtain ⟨rfl, h2, -⟩ := hq9
        refine hR _ _ _ _ dX9_one_178 ⟨rfl, ?_⟩
        rw [ep, if_pos c, if_pos ht]
        refine ⟨fun _ => ?_, fun q => Bool.noConfusion q⟩
        show RD I0 I2 false r.2.1 (C ++ codo (r.2.2 ++ [(0, -1, 0)]))
        rw [codo_append, ← List.append_assoc]
        exact h2 rfl
      · have cf : r.1 = false := by
          cases e : r.1
          · rfl
          · exact absurd e c
        refine mk_Vv1 hJ dX9_one_175 cw_X9_218 rfl rfl rfl rfl (Nat.le_of_ble_eq_true rfl) (by first | decide | omega) (c_putR 2006 (hr.2 cf C) (fun q => Bool.noConfusion q)) (fun I2 b2 hq9 => ?_)
        obtain ⟨rfl, -, h2⟩ := hq9
        refine hR _ _ _ _ dX9_one_178 ⟨rfl, ?_⟩
        rw [ep, if_neg c]
        exact ⟨fun q => absurd q c, fun _ => h2 rfl⟩
  have bad : ∀ (q' : Int) (S : List St) (I1 : Ints), (∀ C', RD I0 I1 true q' C') → PtR I0 I1 (false, q', S) C := fun q' S I1 w => ⟨fun q => Bool.noConfusion q, fun _ => w⟩
  -- the rest behind the nots
  have REST : ∀ (k q : Int) (t : Bool) (I1 : Ints), 0 ≤ k → p + k ≤ q → (k % 2 = 1 ↔ t = true) → RD I0 I1 false q C → pnot (I0 127) (I0 111 17) (I0 111 17 - p).toNat p false = (t, q) → J 21 [vr 111, vi k, vu] [] (mk I1 b) := by
    intro k q t I1 k0 hkq hk h1 hpn
    have hq := h1.2.2.1.1
    have k1 : k ≤ 200 := by omega
    have htq : (C.length : Int) + (if t = true then 1 else 0) ≤ q := by
      by_cases c : t = true
      · rw [if_pos c]; have := hk.2 c; omega
      · rw [if_neg c]; omega
    have b1 := nxp_bd (g := I0 127) hq.2
    have b2 := nxp_bd (g := I0 127) b1.2.1
    have b3 := nxp_bd (g := I0 127) b2.2.1
    refine mj_aload_n hJ dX9_one_21 rfl ?_
    refine mj_ldcS (i := 11) hJ dX9_one_22 (by decide) rfl rfl ?_
    refine mk_Vp1 hJ dX9_one_24 cw_X9_212 rfl rfl rfl rfl (Nat.le_of_ble_eq_true rfl) (by first | decide | omega) (c_isW 11 [40] (by decide) rfl h1) ?_
    by_cases hb : wdp (I0 127) (I0 111 17) q [40]
    · rw [if_pos ⟨rfl, hb⟩]
      refine mj_if_eq (tgt := 84) hJ dX9_one_27 (by decide) (fun hyes => absurd hyes (by decide)) (fun _ => ?_)
      refine mj_aload_n hJ dX9_one_30 rfl ?_
      refine mj_aload_n hJ dX9_one_31 rfl ?_
      refine mk_getI (j' := 21) hJ dX9_one_32 fw_X9_228 rfl (by decide) rfl rfl ?_
      rw [h1.1.2 21 (by decide) (by decide) (by decide) (by decide), h21]
      refine mj_iconst hJ dX9_one_35 (by decide) ?_
      have fn := fun (r : PR) (I2 : Ints) (x2 : Vl) (a : PtR I0 I2 r C) (c : r.1 = true → (C.length : Int) + (codo r.2.2).length + (if t = true then 1 else 0) ≤ r.2.1) (d : popen (I0 127) (I0 111 17) lv q = r) => fin k q t r I2 x2 k0 k1 hk a c hpn (by rw [if_pos hb]; exact d)
      cases lv with
      | zero =>
        refine mj_icmp_ge (tgt := 43) hJ dX9_one_36 (by decide) (fun _ => ?_) (fun hno => absurd (by omega) hno)
        refine mj_iconst hJ dX9_one_43 (by decide) ?_
        refine mk_Vv1 hJ dX9_one_44 cw_X9_203 rfl rfl rfl rfl (Nat.le_of_ble_eq_true rfl) (by first | decide | omega) (c_needR 0 (Or.inl rfl) h1) (fun I2 b2 hq9 => ?_)
        obtain ⟨rfl, -, h2⟩ := hq9
        have h2 := h2 (fun w => absurd w.2 (by decide))
        refine mj_aload_n hJ dX9_one_47 rfl ?_
        refine mj_dupr hJ dX9_one_48 ?_
        refine mk_getI (j' := 21) hJ dX9_one_49 fw_X9_228 rfl (by decide) rfl rfl ?_
        rw [(h2 C).1.2 21 (by decide) (by decide) (by decide) (by decide), h21]
        refine mj_iconst hJ dX9_one_52 (by decide) ?_
        first | refine ms_iadd hJ dX9_one_53 (by omega) ?_ | refine mj_iadd hJ dX9_one_53 ?_
        refine mk_putI (j' := 21) hJ dX9_one_54 fw_X9_228 rfl (by decide) rfl rfl ?_
        refine mj_aload_n hJ dX9_one_57 rfl ?_
        refine mk_Vv0 hJ dX9_one_58 cw_X9_231 rfl rfl rfl rfl (Nat.le_of_ble_eq_true rfl) (by first | decide | omega) (c_condF ((h2 C).brk (3 - ((0 : Nat) : Int) + 1))) (fun I3 b3 hq9 => ?_)
        obtain ⟨rfl, h3⟩ := hq9
        refine mj_aload_n hJ dX9_one_61 rfl ?_
        refine mj_aload_n hJ dX9_one_62 rfl ?_
        refine mj_ldcS (i := 12) hJ dX9_one_63 (by decide) rfl rfl ?_
        refine mk_Vp1 hJ dX9_one_65 cw_X9_212 rfl rfl rfl rfl (Nat.le_of_ble_eq_true rfl) (by first | decide | omega) (c_isW 12 [41] (by decide) rfl (h3 C)) ?_
        rw [if_neg (nof rfl)]
        refine mk_Vv1 hJ dX9_one_68 cw_X9_203 rfl rfl rfl rfl (Nat.le_of_ble_eq_true rfl) (by first | decide | omega) (c_needR 0 (Or.inl rfl) (h3 C)) (fun I4 b4 hq9 => ?_)
        obtain ⟨rfl, -, h4⟩ := hq9
        have h4 := h4 (fun w => Bool.noConfusion w.1)
        refine mj_aload_n hJ dX9_one_71 rfl ?_
        refine mj_dupr hJ dX9_one_72 ?_
        refine mk_getI (j' := 21) hJ dX9_one_73 fw_X9_228 rfl (by decide) rfl rfl ?_
        rw [(h4 C).1.2 21 (by decide) (by decide) (by decide) (by decide), upI_at, if_pos rfl]
        refine mj_iconst hJ dX9_one_76 (by decide) ?_
        first | refine ms_isub hJ dX9_one_77 (by omega) ?_ | refine mj_isub hJ dX9_one_77 ?_
        refine mk_putI (j' := 21) hJ dX9_one_78 fw_X9_228 rfl (by decide) rfl rfl ?_
        refine mj_goto (tgt := 164) hJ dX9_one_81 (by decide) ?_
        refine fn (false, q, []) _ _ (bad _ _ _ (fun C' => ?_)) (fun w => Bool.noConfusion w) rfl
        have w := (h4 C').brk (3 - ((0 : Nat) : Int) + 1 - 1)
        rw [upI_back (by rw [h21]; omega)] at w
        exact w
      | succ m =>
        refine mj_icmp_ge (tgt := 43) hJ dX9_one_36 (by decide) (fun hyes => absurd hyes (by omega)) (fun _ => ?_)
        refine mj_iconst hJ dX9_one_39 (by decide) ?_
        refine mj_goto (tgt := 44) hJ dX9_one_40 (by decide) ?_
        refine mk_Vv1 hJ dX9_one_44 cw_X9_203 rfl rfl rfl rfl (Nat.le_of_ble_eq_true rfl) (by first | decide | omega) (c_needR 1 (Or.inr rfl) h1) (fun I2 b2 hq9 => ?_)
        obtain ⟨rfl, h2, -⟩ := hq9
        have h2 := h2 ⟨rfl, rfl⟩
        refine mj_aload_n hJ dX9_one_47 rfl ?_
        refine mj_dupr hJ dX9_one_48 ?_
        refine mk_getI (j' := 21) hJ dX9_one_49 fw_X9_228 rfl (by decide) rfl rfl ?_
        rw [h2.1.2 21 (by decide) (by decide) (by decide) (by decide), h21]
        refine mj_iconst hJ dX9_one_52 (by decide) ?_
        first | refine ms_iadd hJ dX9_one_53 (by omega) ?_ | refine mj_iadd hJ dX9_one_53 ?_
        refine mk_putI (j' := 21) hJ dX9_one_54 fw_X9_228 rfl (by decide) rfl rfl ?_
        refine mj_aload_n hJ dX9_one_57 rfl ?_
        have e127 : upI I0 111 21 (3 - ((m + 1 : Nat) : Int) + 1) 127 = I0 127 := upI_ne (by decide)
        have e17 : upI I0 111 21 (3 - ((m + 1 : Nat) : Int) + 1) 111 17 = I0 111 17 := by rw [upI_at, if_neg (by decide)]
        refine mk_Vv0 hJ dX9_one_58 cw_X9_231 rfl rfl rfl rfl (Nat.le_of_ble_eq_true rfl) (by first | decide | omega) (hC m rfl _ _ _ _ _ _ _ e127 e17 (by rw [upI_at, if_pos rfl]; omega) (h2.brk (3 - ((m + 1 : Nat) : Int) + 1))) (fun I3 b3 hq9 => ?_)
        obtain ⟨rfl, h3⟩ := hq9
        have ep : popen (I0 127) (I0 111 17) (m + 1) q = if (pcon (I0 127) (I0 111 17) (popen (I0 127) (I0 111 17) m) (nxp (I0 127) (I0 111 17) q)).1 = true then (if wdp (I0 127) (I0 111 17) (pcon (I0 127) (I0 111 17) (popen (I0 127) (I0 111 17) m) (nxp (I0 127) (I0 111 17) q)).2.1 [41] then (true, nxp (I0 127) (I0 111 17) (pcon (I0 127) (I0 111 17) (popen (I0 127) (I0 111 17) m) (nxp (I0 127) (I0 111 17) q)).2.1, (pcon (I0 127) (I0 111 17) (popen (I0 127) (I0 111 17) m) (nxp (I0 127) (I0 111 17) q)).2.2) else (false, (pcon (I0 127) (I0 111 17) (popen (I0 127) (I0 111 17) m) (nxp (I0 127) (I0 111 17) q)).2.1, (pcon (I0 127) (I0 111 17) (popen (I0 127) (I0 111 17) m) (nxp (I0 127) (I0 111 17) q)).2.2)) else pcon (I0 127) (I0 111 17) (popen (I0 127) (I0 111 17) m) (nxp (I0 127) (I0 111 17) q) := rfl
        have hf := pcon_far (g := I0 127) (po := popen (I0 127) (I0 111 17) m) (fun q hq => popen_far m q hq) b1.2.1
        generalize pcon (I0 127) (I0 111 17) (popen (I0 127) (I0 111 17) m) (nxp (I0 127) (I0 111 17) q) = r at h3 ep hf
        have br := nxp_bd (g := I0 127) hf.1.2
        -- from the need of the closing bracket on
        have K : ∀ (I4 : Ints) (r' : PR), (PtR (upI I0 111 21 (3 - ((m + 1 : Nat) : Int) + 1)) I4 r' C) → (r'.1 = true → (C.length : Int) + (codo r'.2.2).length + (if t = true then 1 else 0) ≤ r'.2.1) → popen (I0 127) (I0 111 17) (m + 1) q = r' → J 71 [vr 111, vi k, vu] [] (mk I4 b3) := by
          intro I4 r' w1 w2 w3
          have e21 : I4 111 21 = 3 - ((m + 1 : Nat) : Int) + 1 := by
            cases c : r'.1 with
            | true => rw [(w1.1 c).1.2 21 (by decide) (by decide) (by decide) (by decide), upI_at, if_pos rfl]
            | false => rw [(w1.2 c C).1.2 21 (by decide) (by decide) (by decide) (by decide), upI_at, if_pos rfl]
          refine mj_aload_n hJ dX9_one_71 rfl ?_
          refine mj_dupr hJ dX9_one_72 ?_
          refine mk_getI (j' := 21) hJ dX9_one_73 fw_X9_228 rfl (by decide) rfl rfl ?_
          rw [e21]
          refine mj_iconst hJ dX9_one_76 (by decide) ?_
          first | refine ms_isub hJ dX9_one_77 (by omega) ?_ | refine mj_isub hJ dX9_one_77 ?_
          refine mk_putI (j' := 21) hJ dX9_one_78 fw_X9_228 rfl (by decide) rfl rfl ?_
          refine mj_goto (tgt := 164) hJ dX9_one_81 (by decide) ?_
          refine fn r' _ _ ⟨fun c => ?_, fun c C' => ?_⟩ w2 w3
          · have w := (w1.1 c).brk (3 - ((m + 1 : Nat) : Int) + 1 - 1)
            rw [upI_back (by rw [h21]; omega)] at w
            exact w
          · have w := (w1.2 c C').brk (3 - ((m + 1 : Nat) : Int) + 1 - 1)
            rw [upI_back (by rw [h21]; omega)] at w
            exact w
        cases c : r.1 with
        | false =>
          rw [c, if_neg (by decide)] at ep
          have h3 := h3.2 c
          refine mj_aload_n hJ dX9_one_61 rfl ?_
          refine mj_aload_n hJ dX9_one_62 rfl ?_
          refine mj_ldcS (i := 12) hJ dX9_one_63 (by decide) rfl rfl ?_
          refine mk_Vp1 hJ dX9_one_65 cw_X9_212 rfl rfl rfl rfl (Nat.le_of_ble_eq_true rfl) (by first | decide | omega) (c_isW 12 [41] (by decide) rfl (h3 C)) ?_
          rw [if_neg (nof rfl)]
          refine mk_Vv1 hJ dX9_one_68 cw_X9_203 rfl rfl rfl rfl (Nat.le_of_ble_eq_true rfl) (by first | decide | omega) (c_needR 0 (Or.inl rfl) (h3 C)) (fun I4 b4 hq9 => ?_)
          obtain ⟨rfl, -, h4⟩ := hq9
          have h4 := h4 (fun w => Bool.noConfusion w.1)
          exact K I4 r ⟨fun w => by rw [c] at w; exact Bool.noConfusion w, fun _ => h4⟩ (fun w => by rw [c] at w; exact Bool.noConfusion w) ep
        | true =>
          rw [c, if_pos rfl] at ep
          have h3 := h3.1 c
          have hl := hf.2 c
          refine mj_aload_n hJ dX9_one_61 rfl ?_
          refine mj_aload_n hJ dX9_one_62 rfl ?_
          refine mj_ldcS (i := 12) hJ dX9_one_63 (by decide) rfl rfl ?_
          refine mk_Vp1 hJ dX9_one_65 cw_X9_212 rfl rfl rfl rfl (Nat.le_of_ble_eq_true rfl) (by first | decide | omega) (c_isW 12 [41] (by decide) rfl h3) ?_
          rw [e127, e17]
          by_cases w : wdp (I0 127) (I0 111 17) r.2.1 [41]
          · rw [if_pos ⟨rfl, w⟩]
            rw [if_pos w] at ep
            refine mk_Vv1 hJ dX9_one_68 cw_X9_203 rfl rfl rfl rfl (Nat.le_of_ble_eq_true rfl) (by first | decide | omega) (c_needR 1 (Or.inr rfl) h3) (fun I4 b4 hq9 => ?_)
            obtain ⟨rfl, h4, -⟩ := hq9
            have h4 := h4 ⟨rfl, rfl⟩
            rw [e127, e17] at h4
            exact K I4 _ ⟨fun _ => h4, fun z => Bool.noConfusion z⟩ (fun _ => by show (C.length : Int) + (codo r.2.2).length + _ ≤ nxp (I0 127) (I0 111 17) r.2.1; omega) ep
          · rw [if_neg (fun z => w z.2)]
            rw [if_neg w] at ep
            refine mk_Vv1 hJ dX9_one_68 cw_X9_203 rfl rfl rfl rfl (Nat.le_of_ble_eq_true rfl) (by first | decide | omega) (c_needR 0 (Or.inl rfl) h3) (fun I4 b4 hq9 => ?_)
            obtain ⟨rfl, -, h4⟩ := hq9
            have h4 := h4 (fun w => absurd w.2 (by decide))
            exact K I4 (false, r.2.1, r.2.2) ⟨fun z => Bool.noConfusion z, fun _ => h4⟩ (fun z => Bool.noConfusion z) ep
    · rw [if_neg (fun z => hb z.2)]
      refine mj_if_eq (tgt := 84) hJ dX9_one_27 (by decide) (fun _ => ?_) (fun hno => absurd rfl hno)
      have fn := fun (r : PR) (I2 : Ints) (x2 : Vl) (a : PtR I0 I2 r C) (c : r.1 = true → (C.length : Int) + (codo r.2.2).length + (if t = true then 1 else 0) ≤ r.2.1) (d : pcmp (I0 127) (I0 111 17) q = r) => fin k q t r I2 x2 k0 k1 hk a c hpn (by rw [if_neg hb]; exact d)
      have hcmp : pcmp (I0 127) (I0 111 17) q = match pval (I0 127) (I0 111 17) q with
          | none => (false, q, [])
          | some l => match psg (I0 127) (I0 111 17) (nxp (I0 127) (I0 111 17) q) with
            | none => (false, nxp (I0 127) (I0 111 17) q, [])
            | some s => match pval (I0 127) (I0 111 17) (nxp (I0 127) (I0 111 17) (nxp (I0 127) (I0 111 17) q)) with
              | none => (false, nxp (I0 127) (I0 111 17) (nxp (I0 127) (I0 111 17) q), [])
              | some r => (true, nxp (I0 127) (I0 111 17) (nxp (I0 127) (I0 111 17) (nxp (I0 127) (I0 111 17) q)), [(l, s, r)]) := rfl
      have K159 : ∀ (q' x : Int) (S : List St) (I2 : Ints), (∀ C', RD I0 I2 true q' C') → pcmp (I0 127) (I0 111 17) q = (false, q', S) → J 159 [vr 111, vi k, vi x] [] (mk I2 b) := by
        intro q' x S I2 w e
        refine mj_aload_n hJ dX9_one_159 rfl ?_
        refine mj_iload_n hJ dX9_one_160 rfl ?_
        refine mk_Vv1 hJ dX9_one_161 cw_X9_218 rfl rfl rfl rfl (Nat.le_of_ble_eq_true rfl) (by first | decide | omega) (c_putR x (w C) (fun q => Bool.noConfusion q)) (fun I3 b3 hq9 => ?_)
        obtain ⟨rfl, -, h3⟩ := hq9
        have h3 := h3 rfl
        exact fn (false, q', S) I3 _ (bad _ _ _ h3) (fun z => Bool.noConfusion z) e
      have K134 : ∀ (ft : Bool) (q' : Int) (C' : List Int) (S : List St) (I2 : Ints), RD I0 I2 ft q' C' → pcmp (I0 127) (I0 111 17) q = (false, q', S) → J 134 [vr 111, vi k, vu] [vi 0] (mk I2 b) := by
        intro ft q' C' S I2 w e
        refine ms_istore_n (ls' := [_, _, _]) hJ dX9_one_134 (by decide) rfl rfl ?_
        refine mj_aload_n hJ dX9_one_135 rfl ?_
        refine mj_iload_n hJ dX9_one_136 rfl ?_
        refine mj_if_le (tgt := 144) hJ dX9_one_137 (by decide) (fun _ => ?_) (fun hno => absurd (by decide) hno)
        refine mj_iconst hJ dX9_one_144 (by decide) ?_
        refine mk_Vv1 hJ dX9_one_145 cw_X9_203 rfl rfl rfl rfl (Nat.le_of_ble_eq_true rfl) (by first | decide | omega) (c_needR 0 (Or.inl rfl) w) (fun I3 b3 hq9 => ?_)
        obtain ⟨rfl, -, h3⟩ := hq9
        have h3 := h3 (fun z => absurd z.2 (by decide))
        refine mj_aload_n hJ dX9_one_148 rfl ?_
        refine mk_getI (j' := 20) hJ dX9_one_149 fw_X9_187 rfl (by decide) rfl rfl ?_
        rw [(h3 C).2.1.2.2]
        refine mj_if_ne (tgt := 159) hJ dX9_one_152 (by decide) (fun _ => ?_) (fun hno => absurd hno (by decide))
        exact K159 q' 0 S I3 h3 e
      have SG : ∀ (l s : Int) (I2 : Ints), 0 ≤ s → s ≤ 2 → pval (I0 127) (I0 111 17) q = some l → psg (I0 127) (I0 111 17) (nxp (I0 127) (I0 111 17) q) = some s → RD I0 I2 false (nxp (I0 127) (I0 111 17) q) (C ++ [mvl l]) → J 134 [vr 111, vi k, vu] [vi (2003 + s)] (mk I2 b) := by
        intro l s I2 s0 s1 hl hs w
        have ll := pval_lt hq.2 hl
        have ls := psg_lt b1.2.1 hs
        rw [hl] at hcmp
        simp only [] at hcmp
        rw [hs] at hcmp
        simp only [] at hcmp
        refine ms_istore_n (ls' := [_, _, _]) hJ dX9_one_134 (by decide) rfl rfl ?_
        refine mj_aload_n hJ dX9_one_135 rfl ?_
        refine mj_iload_n hJ dX9_one_136 rfl ?_
        refine mj_if_le (tgt := 144) hJ dX9_one_137 (by decide) (fun hyes => absurd hyes (by omega)) (fun _ => ?_)
        refine mj_iconst hJ dX9_one_140 (by decide) ?_
        refine mj_goto (tgt := 145) hJ dX9_one_141 (by decide) ?_
        refine mk_Vv1 hJ dX9_one_145 cw_X9_203 rfl rfl rfl rfl (Nat.le_of_ble_eq_true rfl) (by first | decide | omega) (c_needR 1 (Or.inr rfl) w) (fun I3 b3 hq9 => ?_)
        obtain ⟨rfl, h3, -⟩ := hq9
        have h3 := h3 ⟨rfl, rfl⟩
        refine mj_aload_n hJ dX9_one_148 rfl ?_
        refine mk_getI (j' := 20) hJ dX9_one_149 fw_X9_187 rfl (by decide) rfl rfl ?_
        rw [h3.2.1.2.2]
        refine mj_if_ne (tgt := 159) hJ dX9_one_152 (by decide) (fun hyes => absurd rfl hyes) (fun _ => ?_)
        refine mj_aload_n hJ dX9_one_155 rfl ?_
        refine mk_Vv0 hJ dX9_one_156 cw_X9_236 rfl rfl rfl rfl (Nat.le_of_ble_eq_true rfl) (by first | decide | omega) (c_valueR h3) (fun I4 b4 hq9 => ?_)
        obtain ⟨rfl, h4, h5⟩ := hq9
        cases hv : pval (I0 127) (I0 111 17) (nxp (I0 127) (I0 111 17) (nxp (I0 127) (I0 111 17) q)) with
        | none =>
          rw [hv] at hcmp
          exact K159 _ _ _ I4 (h5 (Or.inr hv)) hcmp
        | some r =>
          rw [hv] at hcmp
          simp only [] at hcmp
          have h4 := h4 r rfl hv
          have lr := pval_lt b2.2.1 hv
          refine mj_aload_n hJ dX9_one_159 rfl ?_
          refine mj_iload_n hJ dX9_one_160 rfl ?_
          refine mk_Vv1 hJ dX9_one_161 cw_X9_218 rfl rfl rfl rfl (Nat.le_of_ble_eq_true rfl) (by first | decide | omega) (c_putR (2003 + s) h4 (fun _ => by rw [List.length_append, List.length_append]; simp; omega)) (fun I5 b5 hq9 => ?_)
          obtain ⟨rfl, h6, -⟩ := hq9
          have h6 := h6 rfl
          have ec : codo [(l, s, r)] = [mvl l, mvl r, 2003 + s] := by
            show cods (l, s, r) ++ [] = _
            unfold cods
            rw [if_pos (by exact s0)]
            rfl
          refine fn _ I5 _ ⟨fun _ => ?_, fun z => Bool.noConfusion z⟩ (fun _ => ?_) hcmp
          · show RD I0 I5 false _ (C ++ codo [(l, s, r)])
            rw [ec]
            rw [List.append_assoc, List.append_assoc] at h6
            exact h6
          · show (C.length : Int) + (codo [(l, s, r)]).length + _ ≤ nxp (I0 127) (I0 111 17) (nxp (I0 127) (I0 111 17) (nxp (I0 127) (I0 111 17) q))
            rw [ec]
            show (C.length : Int) + ((3 : Nat) : Int) + _ ≤ _
            omega
      refine mj_aload_n hJ dX9_one_84 rfl ?_
      refine mk_Vv0 hJ dX9_one_85 cw_X9_236 rfl rfl rfl rfl (Nat.le_of_ble_eq_true rfl) (by first | decide | omega) (c_valueR h1) (fun I2 b2 hq9 => ?_)
      obtain ⟨rfl, h2, h3⟩ := hq9
      cases hv : pval (I0 127) (I0 111 17) q with
      | none =>
        rw [hv] at hcmp
        have h3 := h3 (Or.inr hv)
        refine mj_aload_n hJ dX9_one_88 rfl ?_
        refine mj_ldcS (i := 16) hJ dX9_one_89 (by decide) rfl rfl ?_
        refine mk_Vp1 hJ dX9_one_91 cw_X9_212 rfl rfl rfl rfl (Nat.le_of_ble_eq_true rfl) (by first | decide | omega) (c_isW 16 [60] (by decide) rfl (h3 C)) ?_
        rw [if_neg (nof rfl)]
        refine mj_if_eq (tgt := 103) hJ dX9_one_94 (by decide) (fun _ => ?_) (fun hno => absurd rfl hno)
        refine mj_aload_n hJ dX9_one_103 rfl ?_
        refine mj_ldcS (i := 17) hJ dX9_one_104 (by decide) rfl rfl ?_
        refine mk_Vp1 hJ dX9_one_106 cw_X9_212 rfl rfl rfl rfl (Nat.le_of_ble_eq_true rfl) (by first | decide | omega) (c_isW 17 [61] (by decide) rfl (h3 C)) ?_
        rw [if_neg (nof rfl)]
        refine mj_if_eq (tgt := 118) hJ dX9_one_109 (by decide) (fun _ => ?_) (fun hno => absurd rfl hno)
        refine mj_aload_n hJ dX9_one_118 rfl ?_
        refine mj_ldcS (i := 18) hJ dX9_one_119 (by decide) rfl rfl ?_
        refine mk_Vp1 hJ dX9_one_121 cw_X9_212 rfl rfl rfl rfl (Nat.le_of_ble_eq_true rfl) (by first | decide | omega) (c_isW 18 [62] (by decide) rfl (h3 C)) ?_
        rw [if_neg (nof rfl)]
        refine mj_if_eq (tgt := 133) hJ dX9_one_124 (by decide) (fun _ => ?_) (fun hno => absurd rfl hno)
        refine mj_iconst hJ dX9_one_133 (by decide) ?_
        exact K134 true q C [] I2 (h3 C) hcmp
      | some l =>
        have h2 := h2 l rfl hv
        refine mj_aload_n hJ dX9_one_88 rfl ?_
        refine mj_ldcS (i := 16) hJ dX9_one_89 (by decide) rfl rfl ?_
        refine mk_Vp1 hJ dX9_one_91 cw_X9_212 rfl rfl rfl rfl (Nat.le_of_ble_eq_true rfl) (by first | decide | omega) (c_isW 16 [60] (by decide) rfl h2) ?_
        by_cases c1 : wdp (I0 127) (I0 111 17) (nxp (I0 127) (I0 111 17) q) [60]
        · rw [if_pos ⟨rfl, c1⟩]
          refine mj_if_eq (tgt := 103) hJ dX9_one_94 (by decide) (fun hyes => absurd hyes (by decide)) (fun _ => ?_)
          refine mj_sipush hJ dX9_one_97 (by decide) ?_
          refine mj_goto (tgt := 134) hJ dX9_one_100 (by decide) ?_
          exact SG l 0 I2 (by decide) (by decide) hv (by unfold psg; rw [if_pos c1]) h2
        · rw [if_neg (fun z => c1 z.2)]
          refine mj_if_eq (tgt := 103) hJ dX9_one_94 (by decide) (fun _ => ?_) (fun hno => absurd rfl hno)
          refine mj_aload_n hJ dX9_one_103 rfl ?_
          refine mj_ldcS (i := 17) hJ dX9_one_104 (by decide) rfl rfl ?_
          refine mk_Vp1 hJ dX9_one_106 cw_X9_212 rfl rfl rfl rfl (Nat.le_of_ble_eq_true rfl) (by first | decide | omega) (c_isW 17 [61] (by decide) rfl h2) ?_
          by_cases c2 : wdp (I0 127) (I0 111 17) (nxp (I0 127) (I0 111 17) q) [61]
          · rw [if_pos ⟨rfl, c2⟩]
            refine mj_if_eq (tgt := 118) hJ dX9_one_109 (by decide) (fun hyes => absurd hyes (by decide)) (fun _ => ?_)
            refine mj_sipush hJ dX9_one_112 (by decide) ?_
            refine mj_goto (tgt := 134) hJ dX9_one_115 (by decide) ?_
            exact SG l 1 I2 (by decide) (by decide) hv (by unfold psg; rw [if_neg c1, if_pos c2]) h2
          · rw [if_neg (fun z => c2 z.2)]
            refine mj_if_eq (tgt := 118) hJ dX9_one_109 (by decide) (fun _ => ?_) (fun hno => absurd rfl hno)
            refine mj_aload_n hJ dX9_one_118 rfl ?_
            refine mj_ldcS (i := 18) hJ dX9_one_119 (by decide) rfl rfl ?_
            refine mk_Vp1 hJ dX9_one_121 cw_X9_212 rfl rfl rfl rfl (Nat.le_of_ble_eq_true rfl) (by first | decide | omega) (c_isW 18 [62] (by decide) rfl h2) ?_
            by_cases c3 : wdp (I0 127) (I0 111 17) (nxp (I0 127) (I0 111 17) q) [62]
            · rw [if_pos ⟨rfl, c3⟩]
              refine mj_if_eq (tgt := 133) hJ dX9_one_124 (by decide) (fun hyes => absurd hyes (by decide)) (fun _ => ?_)
              refine mj_sipush hJ dX9_one_127 (by decide) ?_
              refine mj_goto (tgt := 134) hJ dX9_one_130 (by decide) ?_
              exact SG l 2 I2 (by decide) (by decide) hv (by unfold psg; rw [if_neg c1, if_neg c2, if_pos c3]) h2
            · rw [if_neg (fun z => c3 z.2)]
              refine mj_if_eq (tgt := 133) hJ dX9_one_124 (by decide) (fun _ => ?_) (fun hno => absurd rfl hno)
              refine mj_iconst hJ dX9_one_133 (by decide) ?_
              have hs : psg (I0 127) (I0 111 17) (nxp (I0 127) (I0 111 17) q) = none := by unfold psg; rw [if_neg c1, if_neg c2, if_neg c3]
              rw [hv] at hcmp
              simp only [] at hcmp
              rw [hs] at hcmp
              exact K134 false _ _ [] I2 h2 hcmp
  have loop : ∀ (m : Nat) (k q : Int) (t : Bool) (I1 : Ints), I0 111 17 - q ≤ m → 0 ≤ k → p + k ≤ q → (k % 2 = 1 ↔ t = true) → RD I0 I1 false q C → pnot (I0 127) (I0 111 17) (I0 111 17 - p).toNat p false = pnot (I0 127) (I0 111 17) m q t → J 2 [vr 111, vi k, vu] [] (mk I1 b) := by
    intro m
    induction m with
    | zero =>
      intro k q t I1 hm k0 hkq hk h1 hpn
      have hq := h1.2.2.1.1
      refine mj_aload_n hJ dX9_one_2 rfl ?_
      refine mj_ldcS (i := 10) hJ dX9_one_3 (by decide) rfl rfl ?_
      refine mk_Vp1 hJ dX9_one_5 cw_X9_212 rfl rfl rfl rfl (Nat.le_of_ble_eq_true rfl) (by first | decide | omega) (c_isW 10 [110, 111, 116] (by decide) rfl h1) ?_
      rw [if_neg (fun z => by have := wdp_lt z.2 (by decide) hq.2; omega)]
      refine mj_if_eq (tgt := 21) hJ dX9_one_8 (by decide) (fun _ => ?_) (fun hno => absurd rfl hno)
      exact REST k q t I1 k0 hkq hk h1 hpn
    | succ m ih =>
      intro k q t I1 hm k0 hkq hk h1 hpn
      have hq := h1.2.2.1.1
      have b1 := nxp_bd (g := I0 127) hq.2
      have e : pnot (I0 127) (I0 111 17) (m + 1) q t = if wdp (I0 127) (I0 111 17) q [110, 111, 116] then pnot (I0 127) (I0 111 17) m (nxp (I0 127) (I0 111 17) q) (!t) else (t, q) := rfl
      rw [e] at hpn
      refine mj_aload_n hJ dX9_one_2 rfl ?_
      refine mj_ldcS (i := 10) hJ dX9_one_3 (by decide) rfl rfl ?_
      refine mk_Vp1 hJ dX9_one_5 cw_X9_212 rfl rfl rfl rfl (Nat.le_of_ble_eq_true rfl) (by first | decide | omega) (c_isW 10 [110, 111, 116] (by decide) rfl h1) ?_
      by_cases w : wdp (I0 127) (I0 111 17) q [110, 111, 116]
      · rw [if_pos ⟨rfl, w⟩]
        rw [if_pos w] at hpn
        have lt := wdp_lt w (by decide) hq.2
        refine mj_if_eq (tgt := 21) hJ dX9_one_8 (by decide) (fun hyes => absurd hyes (by decide)) (fun _ => ?_)
        refine mj_aload_n hJ dX9_one_11 rfl ?_
        refine mk_Vv0 hJ dX9_one_12 cw_X9_191 rfl rfl rfl rfl (Nat.le_of_ble_eq_true rfl) (by first | decide | omega) (c_nextR h1) (fun I2 b2 hq9 => ?_)
        obtain ⟨rfl, h2⟩ := hq9
        refine ms_iinc (ls' := [_, _, _]) hJ dX9_one_15 rfl (by decide) rfl (wr_id (by omega)) rfl ?_
        refine mj_goto (tgt := 2) hJ dX9_one_18 (by decide) ?_
        refine ih (k + 1) _ (!t) I2 (by omega) (by omega) (by omega) ?_ h2 hpn
        cases t
        · exact ⟨fun _ => rfl, fun _ => by have : ¬ k % 2 = 1 := fun z => Bool.noConfusion (hk.1 z); omega⟩
        · exact ⟨fun z => by have := hk.2 rfl; omega, fun z => Bool.noConfusion z⟩
      · rw [if_neg (fun z => w z.2)]
        rw [if_neg w] at hpn
        refine mj_if_eq (tgt := 21) hJ dX9_one_8 (by decide) (fun _ => ?_) (fun hno => absurd rfl hno)
        exact REST k q t I1 k0 hkq hk h1 hpn
  refine mj_iconst hJ dX9_one_0 (by decide) ?_
  refine ms_istore_n (ls' := [_, _, _]) hJ dX9_one_1 (by decide) rfl rfl ?_
  exact loop _ 0 p false I (by omega) (by decide) (by omega) ⟨fun z => absurd z (by decide), fun z => Bool.noConfusion z⟩ h rfl
end M23
