section M14
variable {G : GE} {I : Ints} {b : Bool}
/-- how the trace and the sign of parting went on -/
def Tr (I I' : Ints) (L : List Int) (p : Bool) : Prop := (∀ c, c ≠ 111 → c ≠ 142 → I' c = I c) ∧ (∀ j, j ≠ 39 → j ≠ 43 → I' 111 j = I 111 j) ∧ (I' 142, I' 111 39) = ap (I 142, I 111 39) L ∧ I' 111 43 = (if p = true then 1 else I 111 43)
theorem Tr.comp {I I1 I2 : Ints} {L L' : List Int} {p p' : Bool} (h : Tr I I1 L p) (h' : Tr I1 I2 L' p') : Tr I I2 (L ++ L') (p || p') := by
  refine ⟨fun c c1 c2 => (h'.1 c c1 c2).trans (h.1 c c1 c2), fun j j1 j2 => (h'.2.1 j j1 j2).trans (h.2.1 j j1 j2), ?_, ?_⟩
  · rw [h'.2.2.1, h.2.2.1, ap_append]
  · rw [h'.2.2.2, h.2.2.2]
    cases p <;> cases p' <;> rfl
abbrev PA (I : Ints) (b : Bool) (r : AR) : Int → Ints → Bool → Prop := fun z I' b' => z = r.1 ∧ b' = b ∧ Tr I I' r.2.1 r.2.2
def HA (I : Ints) (k a n : Int) : Prop := (I 111 40 = k ∧ I 111 41 = a ∧ I 111 42 = n) ∧ (0 ≤ k ∧ k ≤ 6) ∧ (0 ≤ n ∧ n ≤ 6) ∧ (-40000 ≤ a ∧ a ≤ 40000) ∧ (0 ≤ I 111 39 ∧ I 111 39 ≤ 30)
theorem HA.step {I I' : Ints} {k a n : Int} {L : List Int} {p : Bool} (h : HA I k a n) (t : Tr I I' L p) : HA I' k a n := by
  refine ⟨⟨(t.2.1 40 (by decide) (by decide)).trans h.1.1, (t.2.1 41 (by decide) (by decide)).trans h.1.2.1, (t.2.1 42 (by decide) (by decide)).trans h.1.2.2⟩, h.2.1, h.2.2.1, h.2.2.2.1, ?_⟩
  have e : I' 111 39 = (ap (I 142, I 111 39) L).2 := by rw [← t.2.2.1]
  rw [e]
  exact ap_bd L (I 142, I 111 39) h.2.2.2.2.1 h.2.2.2.2.2
theorem c_X9_began (w : Int) (h0 : 0 ≤ I 111 39) (h1 : I 111 39 ≤ 30) : MtV G yX9_began cX9_began 2 0 [vr 111, vi w] I b (fun I' b' => b' = b ∧ Tr I I' [w] false) := by
  refine mt_enterV (own := RX9) (ls0 := [vr 111, vi w]) rfl (by decide +kernel) (Nat.le_of_ble_eq_true rfl) rfl (fun J hJ hR => ?_)
  refine mj_aload_n hJ dX9_began_0 rfl ?_
  refine mk_getI (j' := 39) hJ dX9_began_1 fw_X9_299 rfl (by decide) rfl rfl ?_
  refine mj_bipush hJ dX9_began_4 (by decide) ?_
  refine mj_icmp_ge (tgt := 29) hJ dX9_began_6 (by decide) (fun h => ?_) (fun h => ?_)
  · refine hR _ _ _ _ dX9_began_29 ⟨rfl, fun _ _ _ => rfl, fun _ _ _ => rfl, ?_, rfl⟩
    show _ = (if I 111 39 < 30 then _ else _)
    rw [if_neg (by omega)]
  · refine mj_aload_n hJ dX9_began_9 rfl ?_
    refine mk_getR hJ dX9_began_10 fw_X9_101 rfl (by decide) rfl rfl ?_
    refine mj_aload_n hJ dX9_began_13 rfl ?_
    refine mk_getI (j' := 39) hJ dX9_began_14 fw_X9_299 rfl (by decide) rfl rfl ?_
    refine mj_iload_n hJ dX9_began_17 rfl ?_
    refine mk_iast hJ dX9_began_18 rfl (by omega) (by omega) ?_
    refine mj_aload_n hJ dX9_began_19 rfl ?_
    refine mj_dupr hJ dX9_began_20 ?_
    refine mk_getI (j' := 39) hJ dX9_began_21 fw_X9_299 rfl (by decide) rfl rfl ?_
    rw [upI_ne (by decide)]
    refine mj_iconst hJ dX9_began_24 (by decide) ?_
    first | refine ms_iadd hJ dX9_began_25 (by omega) ?_ | refine mj_iadd hJ dX9_began_25 ?_
    refine mk_putI (j' := 39) hJ dX9_began_26 fw_X9_299 rfl (by decide) rfl rfl ?_
    refine hR _ _ _ _ dX9_began_29 ⟨rfl, fun c c1 c2 => by rw [upI_ne c1, upI_ne c2], fun j j1 j2 => by rw [upI_at, if_neg j1, upI_ne (by decide)], ?_, by rw [upI_at, if_neg (by decide), upI_ne (by decide)]; rfl⟩
    show _ = (if I 111 39 < 30 then _ else _)
    rw [if_pos (by omega), upI_at, if_pos rfl, upI_ne (by decide)]
    congr 1
    funext j
    rw [upI_at]
theorem c_X9_bodyOf (k j : Int) (k0 : 0 ≤ k) (k1 : k ≤ 6) (j0 : 0 ≤ j) (j1 : j ≤ 3) : MtP G yX9_bodyOf cX9_bodyOf 3 (some .int) 1 [vi k, vi j] I b (bod k j) := by
  refine mt_enterI (own := RX9) (ls0 := [vi k, vi j, vu]) rfl (by decide +kernel) (Nat.le_of_ble_eq_true rfl) rfl rfl (fun J hJ hR => ?_)
  have loop : ∀ (m : Nat) (q : Int), 0 ≤ q → q < m → q ≤ 6 → bod q j = bod k j → J 2 [vi k, vi j, vi q] [] (mk I b) := by
    intro m
    induction m with
    | zero => intro q q0 q1 q2 hq; exact absurd q1 (by omega)
    | succ m ih =>
      intro q q0 q1 q2 hq
      have up : abv q ≠ -1 → bod (abv q) j = bod q j → J 147 [vi k, vi j, vi q] [] (mk I b) := by
        intro ha hb
        have ab := abv_bd q0
        refine mj_iload_n hJ dX9_bodyOf_147 rfl ?_
        refine mk_Sp1 hJ dX9_bodyOf_148 cw_X9_296 rfl (Nat.le_of_ble_eq_true rfl) (by first | decide | omega) (c_X9_above q) ?_
        refine ms_istore_n (ls' := [_, _, _]) hJ dX9_bodyOf_151 (by decide) rfl rfl ?_
        refine mj_goto (tgt := 2) hJ dX9_bodyOf_152 (by decide) ?_
        exact ih (abv q) (by omega) (by omega) (by omega) (hb.trans hq)
      refine mj_iload_n hJ dX9_bodyOf_2 rfl ?_
      refine mj_if_lt (tgt := 155) hJ dX9_bodyOf_3 (by decide) (fun hyes => absurd hyes (by omega)) (fun _ => ?_)
      refine mj_bipush hJ dX9_bodyOf_6 (by decide) ?_
      refine mj_iload_n hJ dX9_bodyOf_8 rfl ?_
      first | refine ms_imul hJ dX9_bodyOf_9 (by omega) ?_ | refine mj_imul hJ dX9_bodyOf_9 ?_
      refine mj_iload_n hJ dX9_bodyOf_10 rfl ?_
      first | refine ms_iadd hJ dX9_bodyOf_11 (by omega) ?_ | refine mj_iadd hJ dX9_bodyOf_11 ?_
      have hj : j = 0 ∨ j = 1 ∨ j = 2 ∨ j = 3 := by omega
      have hk : q = 0 ∨ q = 1 ∨ q = 2 ∨ q = 3 ∨ q = 4 ∨ q = 5 ∨ q = 6 := by omega
      rcases hk with rfl | rfl | rfl | rfl | rfl | rfl | rfl
      · rcases hj with rfl | rfl | rfl | rfl
        · refine mj_look (off := 126) (tgt := 138) hJ dX9_bodyOf_12 (by decide) rfl (by decide) ?_
          refine mj_iload_n hJ dX9_bodyOf_138 rfl ?_
          refine mj_if_ne (tgt := 147) hJ dX9_bodyOf_139 (by decide) (fun hyes => absurd (by decide) hyes) (fun _ => ?_)
          refine mj_bipush hJ dX9_bodyOf_142 (by decide) ?_
          refine mj_iload_n hJ dX9_bodyOf_144 rfl ?_
          first | refine ms_iadd hJ dX9_bodyOf_145 (by omega) ?_ | refine mj_iadd hJ dX9_bodyOf_145 ?_
          exact hR _ _ _ _ _ dX9_bodyOf_146 nar_i ⟨by rw [← hq]; rfl, rfl, rfl⟩
        · refine mj_look (off := 126) (tgt := 138) hJ dX9_bodyOf_12 (by decide) rfl (by decide) ?_
          refine mj_iload_n hJ dX9_bodyOf_138 rfl ?_
          refine mj_if_ne (tgt := 147) hJ dX9_bodyOf_139 (by decide) (fun hyes => absurd (by decide) hyes) (fun _ => ?_)
          refine mj_bipush hJ dX9_bodyOf_142 (by decide) ?_
          refine mj_iload_n hJ dX9_bodyOf_144 rfl ?_
          first | refine ms_iadd hJ dX9_bodyOf_145 (by omega) ?_ | refine mj_iadd hJ dX9_bodyOf_145 ?_
          exact hR _ _ _ _ _ dX9_bodyOf_146 nar_i ⟨by rw [← hq]; rfl, rfl, rfl⟩
        · refine mj_look (off := 126) (tgt := 138) hJ dX9_bodyOf_12 (by decide) rfl (by decide) ?_
          refine mj_iload_n hJ dX9_bodyOf_138 rfl ?_
          refine mj_if_ne (tgt := 147) hJ dX9_bodyOf_139 (by decide) (fun hyes => absurd (by decide) hyes) (fun _ => ?_)
          refine mj_bipush hJ dX9_bodyOf_142 (by decide) ?_
          refine mj_iload_n hJ dX9_bodyOf_144 rfl ?_
          first | refine ms_iadd hJ dX9_bodyOf_145 (by omega) ?_ | refine mj_iadd hJ dX9_bodyOf_145 ?_
          exact hR _ _ _ _ _ dX9_bodyOf_146 nar_i ⟨by rw [← hq]; rfl, rfl, rfl⟩
        · refine mj_look (off := 126) (tgt := 138) hJ dX9_bodyOf_12 (by decide) rfl (by decide) ?_
          refine mj_iload_n hJ dX9_bodyOf_138 rfl ?_
          refine mj_if_ne (tgt := 147) hJ dX9_bodyOf_139 (by decide) (fun hyes => absurd (by decide) hyes) (fun _ => ?_)
          refine mj_bipush hJ dX9_bodyOf_142 (by decide) ?_
          refine mj_iload_n hJ dX9_bodyOf_144 rfl ?_
          first | refine ms_iadd hJ dX9_bodyOf_145 (by omega) ?_ | refine mj_iadd hJ dX9_bodyOf_145 ?_
          exact hR _ _ _ _ _ dX9_bodyOf_146 nar_i ⟨by rw [← hq]; rfl, rfl, rfl⟩
      · rcases hj with rfl | rfl | rfl | rfl
        · refine mj_look (off := 126) (tgt := 138) hJ dX9_bodyOf_12 (by decide) rfl (by decide) ?_
          refine mj_iload_n hJ dX9_bodyOf_138 rfl ?_
          refine mj_if_ne (tgt := 147) hJ dX9_bodyOf_139 (by decide) (fun _ => ?_) (fun hno => absurd hno (by decide))
          exact up (by decide) rfl
        · refine mj_look (off := 100) (tgt := 112) hJ dX9_bodyOf_12 (by decide) rfl (by decide) ?_
          refine mj_bipush hJ dX9_bodyOf_112 (by decide) ?_
          exact hR _ _ _ _ _ dX9_bodyOf_114 nar_i ⟨by rw [← hq]; rfl, rfl, rfl⟩
        · refine mj_look (off := 126) (tgt := 138) hJ dX9_bodyOf_12 (by decide) rfl (by decide) ?_
          refine mj_iload_n hJ dX9_bodyOf_138 rfl ?_
          refine mj_if_ne (tgt := 147) hJ dX9_bodyOf_139 (by decide) (fun _ => ?_) (fun hno => absurd hno (by decide))
          exact up (by decide) rfl
        · refine mj_look (off := 126) (tgt := 138) hJ dX9_bodyOf_12 (by decide) rfl (by decide) ?_
          refine mj_iload_n hJ dX9_bodyOf_138 rfl ?_
          refine mj_if_ne (tgt := 147) hJ dX9_bodyOf_139 (by decide) (fun _ => ?_) (fun hno => absurd hno (by decide))
          exact up (by decide) rfl
      · rcases hj with rfl | rfl | rfl | rfl
        · refine mj_look (off := 103) (tgt := 115) hJ dX9_bodyOf_12 (by decide) rfl (by decide) ?_
          refine mj_bipush hJ dX9_bodyOf_115 (by decide) ?_
          exact hR _ _ _ _ _ dX9_bodyOf_117 nar_i ⟨by rw [← hq]; rfl, rfl, rfl⟩
        · refine mj_look (off := 126) (tgt := 138) hJ dX9_bodyOf_12 (by decide) rfl (by decide) ?_
          refine mj_iload_n hJ dX9_bodyOf_138 rfl ?_
          refine mj_if_ne (tgt := 147) hJ dX9_bodyOf_139 (by decide) (fun _ => ?_) (fun hno => absurd hno (by decide))
          exact up (by decide) rfl
        · refine mj_look (off := 126) (tgt := 138) hJ dX9_bodyOf_12 (by decide) rfl (by decide) ?_
          refine mj_iload_n hJ dX9_bodyOf_138 rfl ?_
          refine mj_if_ne (tgt := 147) hJ dX9_bodyOf_139 (by decide) (fun _ => ?_) (fun hno => absurd hno (by decide))
          exact up (by decide) rfl
        · refine mj_look (off := 126) (tgt := 138) hJ dX9_bodyOf_12 (by decide) rfl (by decide) ?_
          refine mj_iload_n hJ dX9_bodyOf_138 rfl ?_
          refine mj_if_ne (tgt := 147) hJ dX9_bodyOf_139 (by decide) (fun _ => ?_) (fun hno => absurd hno (by decide))
          exact up (by decide) rfl
      · rcases hj with rfl | rfl | rfl | rfl
        · refine mj_look (off := 126) (tgt := 138) hJ dX9_bodyOf_12 (by decide) rfl (by decide) ?_
          refine mj_iload_n hJ dX9_bodyOf_138 rfl ?_
          refine mj_if_ne (tgt := 147) hJ dX9_bodyOf_139 (by decide) (fun _ => ?_) (fun hno => absurd hno (by decide))
          exact up (by decide) rfl
        · refine mj_look (off := 106) (tgt := 118) hJ dX9_bodyOf_12 (by decide) rfl (by decide) ?_
          refine mj_bipush hJ dX9_bodyOf_118 (by decide) ?_
          exact hR _ _ _ _ _ dX9_bodyOf_120 nar_i ⟨by rw [← hq]; rfl, rfl, rfl⟩
        · refine mj_look (off := 126) (tgt := 138) hJ dX9_bodyOf_12 (by decide) rfl (by decide) ?_
          refine mj_iload_n hJ dX9_bodyOf_138 rfl ?_
          refine mj_if_ne (tgt := 147) hJ dX9_bodyOf_139 (by decide) (fun _ => ?_) (fun hno => absurd hno (by decide))
          exact up (by decide) rfl
        · refine mj_look (off := 109) (tgt := 121) hJ dX9_bodyOf_12 (by decide) rfl (by decide) ?_
          refine mj_bipush hJ dX9_bodyOf_121 (by decide) ?_
          exact hR _ _ _ _ _ dX9_bodyOf_123 nar_i ⟨by rw [← hq]; rfl, rfl, rfl⟩
      · rcases hj with rfl | rfl | rfl | rfl
        · refine mj_look (off := 126) (tgt := 138) hJ dX9_bodyOf_12 (by decide) rfl (by decide) ?_
          refine mj_iload_n hJ dX9_bodyOf_138 rfl ?_
          refine mj_if_ne (tgt := 147) hJ dX9_bodyOf_139 (by decide) (fun _ => ?_) (fun hno => absurd hno (by decide))
          exact up (by decide) rfl
        · refine mj_look (off := 126) (tgt := 138) hJ dX9_bodyOf_12 (by decide) rfl (by decide) ?_
          refine mj_iload_n hJ dX9_bodyOf_138 rfl ?_
          refine mj_if_ne (tgt := 147) hJ dX9_bodyOf_139 (by decide) (fun _ => ?_) (fun hno => absurd hno (by decide))
          exact up (by decide) rfl
        · refine mj_look (off := 112) (tgt := 124) hJ dX9_bodyOf_12 (by decide) rfl (by decide) ?_
          refine mj_bipush hJ dX9_bodyOf_124 (by decide) ?_
          exact hR _ _ _ _ _ dX9_bodyOf_126 nar_i ⟨by rw [← hq]; rfl, rfl, rfl⟩
        · refine mj_look (off := 126) (tgt := 138) hJ dX9_bodyOf_12 (by decide) rfl (by decide) ?_
          refine mj_iload_n hJ dX9_bodyOf_138 rfl ?_
          refine mj_if_ne (tgt := 147) hJ dX9_bodyOf_139 (by decide) (fun _ => ?_) (fun hno => absurd hno (by decide))
          exact up (by decide) rfl
      · rcases hj with rfl | rfl | rfl | rfl
        · refine mj_look (off := 115) (tgt := 127) hJ dX9_bodyOf_12 (by decide) rfl (by decide) ?_
          refine mj_bipush hJ dX9_bodyOf_127 (by decide) ?_
          exact hR _ _ _ _ _ dX9_bodyOf_129 nar_i ⟨by rw [← hq]; rfl, rfl, rfl⟩
        · refine mj_look (off := 126) (tgt := 138) hJ dX9_bodyOf_12 (by decide) rfl (by decide) ?_
          refine mj_iload_n hJ dX9_bodyOf_138 rfl ?_
          refine mj_if_ne (tgt := 147) hJ dX9_bodyOf_139 (by decide) (fun _ => ?_) (fun hno => absurd hno (by decide))
          exact up (by decide) rfl
        · refine mj_look (off := 118) (tgt := 130) hJ dX9_bodyOf_12 (by decide) rfl (by decide) ?_
          refine mj_bipush hJ dX9_bodyOf_130 (by decide) ?_
          exact hR _ _ _ _ _ dX9_bodyOf_132 nar_i ⟨by rw [← hq]; rfl, rfl, rfl⟩
        · refine mj_look (off := 126) (tgt := 138) hJ dX9_bodyOf_12 (by decide) rfl (by decide) ?_
          refine mj_iload_n hJ dX9_bodyOf_138 rfl ?_
          refine mj_if_ne (tgt := 147) hJ dX9_bodyOf_139 (by decide) (fun _ => ?_) (fun hno => absurd hno (by decide))
          exact up (by decide) rfl
      · rcases hj with rfl | rfl | rfl | rfl
        · refine mj_look (off := 121) (tgt := 133) hJ dX9_bodyOf_12 (by decide) rfl (by decide) ?_
          refine mj_bipush hJ dX9_bodyOf_133 (by decide) ?_
          refine mj_iload_n hJ dX9_bodyOf_135 rfl ?_
          first | refine ms_iadd hJ dX9_bodyOf_136 (by omega) ?_ | refine mj_iadd hJ dX9_bodyOf_136 ?_
          exact hR _ _ _ _ _ dX9_bodyOf_137 nar_i ⟨by rw [← hq]; rfl, rfl, rfl⟩
        · refine mj_look (off := 121) (tgt := 133) hJ dX9_bodyOf_12 (by decide) rfl (by decide) ?_
          refine mj_bipush hJ dX9_bodyOf_133 (by decide) ?_
          refine mj_iload_n hJ dX9_bodyOf_135 rfl ?_
          first | refine ms_iadd hJ dX9_bodyOf_136 (by omega) ?_ | refine mj_iadd hJ dX9_bodyOf_136 ?_
          exact hR _ _ _ _ _ dX9_bodyOf_137 nar_i ⟨by rw [← hq]; rfl, rfl, rfl⟩
        · refine mj_look (off := 121) (tgt := 133) hJ dX9_bodyOf_12 (by decide) rfl (by decide) ?_
          refine mj_bipush hJ dX9_bodyOf_133 (by decide) ?_
          refine mj_iload_n hJ dX9_bodyOf_135 rfl ?_
          first | refine ms_iadd hJ dX9_bodyOf_136 (by omega) ?_ | refine mj_iadd hJ dX9_bodyOf_136 ?_
          exact hR _ _ _ _ _ dX9_bodyOf_137 nar_i ⟨by rw [← hq]; rfl, rfl, rfl⟩
        · refine mj_look (off := 121) (tgt := 133) hJ dX9_bodyOf_12 (by decide) rfl (by decide) ?_
          refine mj_bipush hJ dX9_bodyOf_133 (by decide) ?_
          refine mj_iload_n hJ dX9_bodyOf_135 rfl ?_
          first | refine ms_iadd hJ dX9_bodyOf_136 (by omega) ?_ | refine mj_iadd hJ dX9_bodyOf_136 ?_
          exact hR _ _ _ _ _ dX9_bodyOf_137 nar_i ⟨by rw [← hq]; rfl, rfl, rfl⟩
  refine mj_iload_n hJ dX9_bodyOf_0 rfl ?_
  refine ms_istore_n (ls' := [_, _, _]) hJ dX9_bodyOf_1 (by decide) rfl rfl ?_
  exact loop 7 k k0 (by omega) k1 rfl
theorem c_X9_acted {k a n : Int} (j x : Int) (ha : HA I k a n) (j0 : 0 ≤ j) (j1 : j ≤ 3) {r : AR} (d d' : Nat) (hd : d' + 1 ≤ d) (hd1 : 2 ≤ d) (hB : MtI G yX9_body cX9_body 4 (some .int) d' [vr 111, vi (bod k j), vi x] I b (PA I b r)) : MtI G yX9_acted cX9_acted 3 (some .int) d [vr 111, vi j, vi x] I b (PA I b r) := by
  refine mt_enterI (own := RX9) (ls0 := [vr 111, vi j, vi x]) rfl (by decide +kernel) (Nat.le_of_ble_eq_true rfl) rfl rfl (fun J hJ hR => ?_)
  refine mj_aload_n hJ dX9_acted_0 rfl ?_
  refine mj_aload_n hJ dX9_acted_1 rfl ?_
  refine mk_getI (j' := 40) hJ dX9_acted_2 fw_X9_302 rfl (by decide) rfl rfl ?_
  rw [ha.1.1]
  refine mj_iload_n hJ dX9_acted_5 rfl ?_
  refine mk_Sp2 hJ dX9_acted_6 cw_X9_305 rfl (Nat.le_of_ble_eq_true rfl) (by first | decide | omega) (c_X9_bodyOf k j ha.2.1.1 ha.2.1.2 j0 j1) ?_
  refine mj_iload_n hJ dX9_acted_9 rfl ?_
  refine mk_Vi2 hJ dX9_acted_10 cw_X9_308 rfl rfl rfl rfl (Nat.le_of_ble_eq_true rfl) (by first | decide | omega) (hB) (fun z I1 b1 hq => ?_)
  exact hR _ _ _ _ _ dX9_acted_13 nar_i hq
theorem c_X9_fromAbove (o j x : Int) (o0 : 0 ≤ abv o) (o1 : abv o ≤ 6) (j0 : 0 ≤ j) (j1 : j ≤ 3) {r : AR} (d d' : Nat) (hd : d' + 1 ≤ d) (hd1 : 2 ≤ d) (hB : MtI G yX9_body cX9_body 4 (some .int) d' [vr 111, vi (bod (abv o) j), vi x] I b (PA I b r)) : MtI G yX9_fromAbove cX9_fromAbove 4 (some .int) d [vr 111, vi o, vi j, vi x] I b (PA I b r) := by
  refine mt_enterI (own := RX9) (ls0 := [vr 111, vi o, vi j, vi x]) rfl (by decide +kernel) (Nat.le_of_ble_eq_true rfl) rfl rfl (fun J hJ hR => ?_)
  refine mj_aload_n hJ dX9_fromAbove_0 rfl ?_
  refine mj_iload_n hJ dX9_fromAbove_1 rfl ?_
  refine mk_Sp1 hJ dX9_fromAbove_2 cw_X9_296 rfl (Nat.le_of_ble_eq_true rfl) (by first | decide | omega) (c_X9_above o) ?_
  refine mj_iload_n hJ dX9_fromAbove_5 rfl ?_
  refine mk_Sp2 hJ dX9_fromAbove_6 cw_X9_305 rfl (Nat.le_of_ble_eq_true rfl) (by first | decide | omega) (c_X9_bodyOf (abv o) j o0 o1 j0 j1) ?_
  refine mj_iload_n hJ dX9_fromAbove_9 rfl ?_
  refine mk_Vi2 hJ dX9_fromAbove_10 cw_X9_308 rfl rfl rfl rfl (Nat.le_of_ble_eq_true rfl) (by first | decide | omega) (hB) (fun z I1 b1 hq => ?_)
  exact hR _ _ _ _ _ dX9_fromAbove_13 nar_i hq
theorem c_X9_parted {k a n : Int} (x : Int) (ha : HA I k a n) : MtI G yX9_parted cX9_parted 2 (some .int) 0 [vr 111, vi x] I b (fun z I' b' => z = (if a = n then 0 else wr (x.tdiv (a - n))) ∧ b' = b ∧ Tr I I' [] (decide (a = n))) := by
  refine mt_enterI (own := RX9) (ls0 := [vr 111, vi x]) rfl (by decide +kernel) (Nat.le_of_ble_eq_true rfl) rfl rfl (fun J hJ hR => ?_)
  have h1 := ha.1
  have h2 := ha.2.2.1
  have h3 := ha.2.2.2.1
  refine mj_aload_n hJ dX9_parted_0 rfl ?_
  refine mk_getI (j' := 41) hJ dX9_parted_1 fw_X9_311 rfl (by decide) rfl rfl ?_
  refine mj_aload_n hJ dX9_parted_4 rfl ?_
  refine mk_getI (j' := 42) hJ dX9_parted_5 fw_X9_314 rfl (by decide) rfl rfl ?_
  rw [h1.2.1, h1.2.2]
  refine mj_icmp_ne (tgt := 18) hJ dX9_parted_8 (by decide) (fun h => ?_) (fun h => ?_)
  · refine mj_iload_n hJ dX9_parted_18 rfl ?_
    refine mj_aload_n hJ dX9_parted_19 rfl ?_
    refine mk_getI (j' := 41) hJ dX9_parted_20 fw_X9_311 rfl (by decide) rfl rfl ?_
    refine mj_aload_n hJ dX9_parted_23 rfl ?_
    refine mk_getI (j' := 42) hJ dX9_parted_24 fw_X9_314 rfl (by decide) rfl rfl ?_
    rw [h1.2.1, h1.2.2]
    first | refine ms_isub hJ dX9_parted_27 (by omega) ?_ | refine mj_isub hJ dX9_parted_27 ?_
    refine mj_idiv hJ dX9_parted_28 (by omega) ?_
    exact hR _ _ _ _ _ dX9_parted_29 nar_i ⟨by rw [if_neg h], rfl, fun _ _ _ => rfl, fun _ _ _ => rfl, rfl, by rw [decide_eq_false h]; rfl⟩
  · have h : a = n := by omega
    refine mj_aload_n hJ dX9_parted_11 rfl ?_
    refine mj_iconst hJ dX9_parted_12 (by decide) ?_
    refine mk_putZ (j' := 43) hJ dX9_parted_13 fw_X9_316 rfl (by decide) rfl (by first | exact Or.inl rfl | exact Or.inr rfl | assumption | omega) rfl ?_
    refine mj_iconst hJ dX9_parted_16 (by decide) ?_
    exact hR _ _ _ _ _ dX9_parted_17 nar_i ⟨by rw [if_pos h], rfl, fun c c1 c2 => upI_ne c1, fun j j1 j2 => by rw [upI_at, if_neg j2], by rw [upI_ne (by decide), upI_at, if_neg (by decide)]; rfl, by rw [decide_eq_true h, upI_at, if_pos rfl]; rfl⟩

theorem c_X9_body_10 {k a n : Int} (x : Int) (ha : HA I k a n) (d : Nat) (hd : 1 ≤ d) : MtI G yX9_body cX9_body 4 (some .int) d [vr 111, vi 10, vi x] I b (PA I b (o10 a x)) := by
  refine mt_enterI (own := RX9) (ls0 := [vr 111, vi 10, vi x, vu]) rfl (by decide +kernel) (Nat.le_of_ble_eq_true rfl) rfl rfl (fun J hJ hR => ?_)
  have h1 := ha.1
  have h2 := ha.2.2.1
  have h3 := ha.2.2.2.1
  refine mj_aload_n hJ dX9_body_0 rfl ?_
  refine mj_iload_n hJ dX9_body_1 rfl ?_
  refine mk_Vv1 hJ dX9_body_2 cw_X9_319 rfl rfl rfl rfl (Nat.le_of_ble_eq_true rfl) (by first | decide | omega) (c_X9_began 10 ha.2.2.2.2.1 ha.2.2.2.2.2) (fun I1 b1 hq9 => ?_)
  obtain ⟨rfl, t1⟩ := hq9
  have ha1 := ha.step t1
  have g1 := ha1.1
  refine mj_iload_n hJ dX9_body_5 rfl ?_
  refine mj_look (off := 122) (tgt := 128) hJ dX9_body_6 (by decide) rfl (by decide) ?_
  refine mj_iload_n hJ dX9_body_128 rfl ?_
  refine mj_aload_n hJ dX9_body_129 rfl ?_
  refine mk_getI (j' := 41) hJ dX9_body_130 fw_X9_311 rfl (by decide) rfl rfl ?_
  rw [g1.2.1]
  refine mj_iadd hJ dX9_body_133 ?_
  exact hR _ _ _ _ _ dX9_body_134 nar_i ⟨rfl, rfl, t1⟩
theorem c_X9_body_70 {k a n : Int} (x : Int) (ha : HA I k a n) (d : Nat) (hd : 1 ≤ d) : MtI G yX9_body cX9_body 4 (some .int) d [vr 111, vi 70, vi x] I b (PA I b (o70 a x)) := by
  refine mt_enterI (own := RX9) (ls0 := [vr 111, vi 70, vi x, vu]) rfl (by decide +kernel) (Nat.le_of_ble_eq_true rfl) rfl rfl (fun J hJ hR => ?_)
  have h1 := ha.1
  have h2 := ha.2.2.1
  have h3 := ha.2.2.2.1
  refine mj_aload_n hJ dX9_body_0 rfl ?_
  refine mj_iload_n hJ dX9_body_1 rfl ?_
  refine mk_Vv1 hJ dX9_body_2 cw_X9_319 rfl rfl rfl rfl (Nat.le_of_ble_eq_true rfl) (by first | decide | omega) (c_X9_began 70 ha.2.2.2.2.1 ha.2.2.2.2.2) (fun I1 b1 hq9 => ?_)
  obtain ⟨rfl, t1⟩ := hq9
  have ha1 := ha.step t1
  have g1 := ha1.1
  refine mj_iload_n hJ dX9_body_5 rfl ?_
  refine mj_look (off := 244) (tgt := 250) hJ dX9_body_6 (by decide) rfl (by decide) ?_
  refine mj_iload_n hJ dX9_body_250 rfl ?_
  refine mj_aload_n hJ dX9_body_251 rfl ?_
  refine mk_getI (j' := 41) hJ dX9_body_252 fw_X9_311 rfl (by decide) rfl rfl ?_
  rw [g1.2.1]
  refine mj_isub hJ dX9_body_255 ?_
  exact hR _ _ _ _ _ dX9_body_256 nar_i ⟨rfl, rfl, t1⟩
theorem c_X9_body_72 {k a n : Int} (x : Int) (ha : HA I k a n) (d : Nat) (hd : 1 ≤ d) : MtI G yX9_body cX9_body 4 (some .int) d [vr 111, vi 72, vi x] I b (PA I b (o72 a x)) := by
  refine mt_enterI (own := RX9) (ls0 := [vr 111, vi 72, vi x, vu]) rfl (by decide +kernel) (Nat.le_of_ble_eq_true rfl) rfl rfl (fun J hJ hR => ?_)
  have h1 := ha.1
  have h2 := ha.2.2.1
  have h3 := ha.2.2.2.1
  refine mj_aload_n hJ dX9_body_0 rfl ?_
  refine mj_iload_n hJ dX9_body_1 rfl ?_
  refine mk_Vv1 hJ dX9_body_2 cw_X9_319 rfl rfl rfl rfl (Nat.le_of_ble_eq_true rfl) (by first | decide | omega) (c_X9_began 72 ha.2.2.2.2.1 ha.2.2.2.2.2) (fun I1 b1 hq9 => ?_)
  obtain ⟨rfl, t1⟩ := hq9
  have ha1 := ha.step t1
  have g1 := ha1.1
  refine mj_iload_n hJ dX9_body_5 rfl ?_
  refine mj_look (off := 263) (tgt := 269) hJ dX9_body_6 (by decide) rfl (by decide) ?_
  refine mj_iload_n hJ dX9_body_269 rfl ?_
  refine mj_aload_n hJ dX9_body_270 rfl ?_
  refine mk_getI (j' := 41) hJ dX9_body_271 fw_X9_311 rfl (by decide) rfl rfl ?_
  rw [g1.2.1]
  refine mj_ixor hJ dX9_body_274 ?_
  exact hR _ _ _ _ _ dX9_body_275 nar_i ⟨rfl, rfl, t1⟩
theorem c_X9_body_12 {k a n : Int} (x : Int) (ha : HA I k a n) (d : Nat) (hd : 1 ≤ d) : MtI G yX9_body cX9_body 4 (some .int) d [vr 111, vi 12, vi x] I b (PA I b (o12 a n x)) := by
  refine mt_enterI (own := RX9) (ls0 := [vr 111, vi 12, vi x, vu]) rfl (by decide +kernel) (Nat.le_of_ble_eq_true rfl) rfl rfl (fun J hJ hR => ?_)
  have h1 := ha.1
  have h2 := ha.2.2.1
  have h3 := ha.2.2.2.1
  refine mj_aload_n hJ dX9_body_0 rfl ?_
  refine mj_iload_n hJ dX9_body_1 rfl ?_
  refine mk_Vv1 hJ dX9_body_2 cw_X9_319 rfl rfl rfl rfl (Nat.le_of_ble_eq_true rfl) (by first | decide | omega) (c_X9_began 12 ha.2.2.2.2.1 ha.2.2.2.2.2) (fun I1 b1 hq9 => ?_)
  obtain ⟨rfl, t1⟩ := hq9
  have ha1 := ha.step t1
  have g1 := ha1.1
  refine mj_iload_n hJ dX9_body_5 rfl ?_
  refine mj_look (off := 138) (tgt := 144) hJ dX9_body_6 (by decide) rfl (by decide) ?_
  refine mj_aload_n hJ dX9_body_144 rfl ?_
  refine mj_iload_n hJ dX9_body_145 rfl ?_
  refine mk_Vi1 hJ dX9_body_146 cw_X9_325 rfl rfl rfl rfl (Nat.le_of_ble_eq_true rfl) (by first | decide | omega) (c_X9_parted x ha1) (fun z I2 b2 hq9 => ?_)
  obtain ⟨rfl, rfl, t2⟩ := hq9
  have t := t1.comp t2
  by_cases c : a = n
  · rw [if_pos c]
    rw [decide_eq_true c] at t
    exact hR _ _ _ _ _ dX9_body_149 nar_i ⟨by unfold o12; rw [if_pos c], rfl, by unfold o12; rw [if_pos c]; exact t⟩
  · rw [if_neg c]
    rw [decide_eq_false c] at t
    exact hR _ _ _ _ _ dX9_body_149 nar_i ⟨by unfold o12; rw [if_neg c], rfl, by unfold o12; rw [if_neg c]; exact t⟩
theorem c_X9_body_30 {k a n : Int} (x : Int) (ha : HA I k a n) (d : Nat) (hd : 3 ≤ d) : MtI G yX9_body cX9_body 4 (some .int) d [vr 111, vi 30, vi x] I b (PA I b (o30 a x)) := by
  refine mt_enterI (own := RX9) (ls0 := [vr 111, vi 30, vi x, vu]) rfl (by decide +kernel) (Nat.le_of_ble_eq_true rfl) rfl rfl (fun J hJ hR => ?_)
  have h1 := ha.1
  have h2 := ha.2.2.1
  have h3 := ha.2.2.2.1
  refine mj_aload_n hJ dX9_body_0 rfl ?_
  refine mj_iload_n hJ dX9_body_1 rfl ?_
  refine mk_Vv1 hJ dX9_body_2 cw_X9_319 rfl rfl rfl rfl (Nat.le_of_ble_eq_true rfl) (by first | decide | omega) (c_X9_began 30 ha.2.2.2.2.1 ha.2.2.2.2.2) (fun I1 b1 hq9 => ?_)
  obtain ⟨rfl, t1⟩ := hq9
  have ha1 := ha.step t1
  have g1 := ha1.1
  refine mj_iload_n hJ dX9_body_5 rfl ?_
  refine mj_look (off := 166) (tgt := 172) hJ dX9_body_6 (by decide) rfl (by decide) ?_
  refine mj_aload_n hJ dX9_body_172 rfl ?_
  refine mj_iconst hJ dX9_body_173 (by decide) ?_
  refine mj_iconst hJ dX9_body_174 (by decide) ?_
  refine mj_iload_n hJ dX9_body_175 rfl ?_
  refine mk_Vi3 hJ dX9_body_176 cw_X9_328 rfl rfl rfl rfl (Nat.le_of_ble_eq_true rfl) (by first | decide | omega) (c_X9_fromAbove 2 0 x (by decide) (by decide) (by decide) (by decide) 2 1 (by decide) (by decide) (c_X9_body_10 x ha1 1 (by decide))) (fun z I2 b2 hq9 => ?_)
  obtain ⟨rfl, rfl, t2⟩ := hq9
  refine mj_iconst hJ dX9_body_179 (by decide) ?_
  refine mj_imul hJ dX9_body_180 ?_
  exact hR _ _ _ _ _ dX9_body_181 nar_i ⟨rfl, rfl, t1.comp t2⟩
theorem c_X9_body_60 {k a n : Int} (x : Int) (ha : HA I k a n) (d : Nat) (hd : 5 ≤ d) : MtI G yX9_body cX9_body 4 (some .int) d [vr 111, vi 60, vi x] I b (PA I b (o60 a x)) := by
  refine mt_enterI (own := RX9) (ls0 := [vr 111, vi 60, vi x, vu]) rfl (by decide +kernel) (Nat.le_of_ble_eq_true rfl) rfl rfl (fun J hJ hR => ?_)
  have h1 := ha.1
  have h2 := ha.2.2.1
  have h3 := ha.2.2.2.1
  refine mj_aload_n hJ dX9_body_0 rfl ?_
  refine mj_iload_n hJ dX9_body_1 rfl ?_
  refine mk_Vv1 hJ dX9_body_2 cw_X9_319 rfl rfl rfl rfl (Nat.le_of_ble_eq_true rfl) (by first | decide | omega) (c_X9_began 60 ha.2.2.2.2.1 ha.2.2.2.2.2) (fun I1 b1 hq9 => ?_)
  obtain ⟨rfl, t1⟩ := hq9
  have ha1 := ha.step t1
  have g1 := ha1.1
  refine mj_iload_n hJ dX9_body_5 rfl ?_
  refine mj_look (off := 221) (tgt := 227) hJ dX9_body_6 (by decide) rfl (by decide) ?_
  refine mj_aload_n hJ dX9_body_227 rfl ?_
  refine mj_iconst hJ dX9_body_228 (by decide) ?_
  refine mj_iconst hJ dX9_body_229 (by decide) ?_
  refine mj_iload_n hJ dX9_body_230 rfl ?_
  refine mk_Vi3 hJ dX9_body_231 cw_X9_328 rfl rfl rfl rfl (Nat.le_of_ble_eq_true rfl) (by first | decide | omega) (c_X9_fromAbove 5 0 x (by decide) (by decide) (by decide) (by decide) 4 3 (by decide) (by decide) (c_X9_body_30 x ha1 3 (by decide))) (fun z I2 b2 hq9 => ?_)
  obtain ⟨rfl, rfl, t2⟩ := hq9
  refine mj_aload_n hJ dX9_body_234 rfl ?_
  refine mk_getI (j' := 41) hJ dX9_body_235 fw_X9_311 rfl (by decide) rfl rfl ?_
  rw [(ha1.step t2).1.2.1]
  refine mj_ixor hJ dX9_body_238 ?_
  exact hR _ _ _ _ _ dX9_body_239 nar_i ⟨rfl, rfl, t1.comp t2⟩
theorem c_X9_body_A0 {k a n : Int} (x : Int) (ha : HA I k a n) (d : Nat) (hd : 5 ≤ d) : MtI G yX9_body cX9_body 4 (some .int) d [vr 111, vi (bod k 0), vi x] I b (PA I b (oA0 k a x)) := by
  have hk : k = 0 ∨ k = 1 ∨ k = 2 ∨ k = 3 ∨ k = 4 ∨ k = 5 ∨ k = 6 := by have := ha.2.1; omega
  rcases hk with rfl | rfl | rfl | rfl | rfl | rfl | rfl
  · exact c_X9_body_10 x ha d (by omega)
  · exact c_X9_body_10 x ha d (by omega)
  · exact c_X9_body_30 x ha d (by omega)
  · exact c_X9_body_30 x ha d (by omega)
  · exact c_X9_body_30 x ha d (by omega)
  · exact c_X9_body_60 x ha d (by omega)
  · exact c_X9_body_70 x ha d (by omega)
theorem c_X9_body_11 {k a n : Int} (x : Int) (ha : HA I k a n) (d : Nat) (hd : 7 ≤ d) : MtI G yX9_body cX9_body 4 (some .int) d [vr 111, vi 11, vi x] I b (PA I b (o11 k a x)) := by
  refine mt_enterI (own := RX9) (ls0 := [vr 111, vi 11, vi x, vu]) rfl (by decide +kernel) (Nat.le_of_ble_eq_true rfl) rfl rfl (fun J hJ hR => ?_)
  have h1 := ha.1
  have h2 := ha.2.2.1
  have h3 := ha.2.2.2.1
  refine mj_aload_n hJ dX9_body_0 rfl ?_
  refine mj_iload_n hJ dX9_body_1 rfl ?_
  refine mk_Vv1 hJ dX9_body_2 cw_X9_319 rfl rfl rfl rfl (Nat.le_of_ble_eq_true rfl) (by first | decide | omega) (c_X9_began 11 ha.2.2.2.2.1 ha.2.2.2.2.2) (fun I1 b1 hq9 => ?_)
  obtain ⟨rfl, t1⟩ := hq9
  have ha1 := ha.step t1
  have g1 := ha1.1
  refine mj_iload_n hJ dX9_body_5 rfl ?_
  refine mj_look (off := 129) (tgt := 135) hJ dX9_body_6 (by decide) rfl (by decide) ?_
  refine mj_aload_n hJ dX9_body_135 rfl ?_
  refine mj_iconst hJ dX9_body_136 (by decide) ?_
  refine mj_iload_n hJ dX9_body_137 rfl ?_
  refine mk_Vi2 hJ dX9_body_138 cw_X9_322 rfl rfl rfl rfl (Nat.le_of_ble_eq_true rfl) (by first | decide | omega) (c_X9_acted 0 x ha1 (by decide) (by decide) 6 5 (by decide) (by decide) (c_X9_body_A0 x ha1 5 (by omega))) (fun z I2 b2 hq9 => ?_)
  obtain ⟨rfl, rfl, t2⟩ := hq9
  refine mj_iconst hJ dX9_body_141 (by decide) ?_
  refine mj_imul hJ dX9_body_142 ?_
  exact hR _ _ _ _ _ dX9_body_143 nar_i ⟨rfl, rfl, t1.comp t2⟩
theorem c_X9_body_71 {k a n : Int} (x : Int) (ha : HA I k a n) (d : Nat) (hd : 7 ≤ d) : MtI G yX9_body cX9_body 4 (some .int) d [vr 111, vi 71, vi x] I b (PA I b (o71 k a n x)) := by
  refine mt_enterI (own := RX9) (ls0 := [vr 111, vi 71, vi x, vu]) rfl (by decide +kernel) (Nat.le_of_ble_eq_true rfl) rfl rfl (fun J hJ hR => ?_)
  have h1 := ha.1
  have h2 := ha.2.2.1
  have h3 := ha.2.2.2.1
  refine mj_aload_n hJ dX9_body_0 rfl ?_
  refine mj_iload_n hJ dX9_body_1 rfl ?_
  refine mk_Vv1 hJ dX9_body_2 cw_X9_319 rfl rfl rfl rfl (Nat.le_of_ble_eq_true rfl) (by first | decide | omega) (c_X9_began 71 ha.2.2.2.2.1 ha.2.2.2.2.2) (fun I1 b1 hq9 => ?_)
  obtain ⟨rfl, t1⟩ := hq9
  have ha1 := ha.step t1
  have g1 := ha1.1
  refine mj_iload_n hJ dX9_body_5 rfl ?_
  refine mj_look (off := 251) (tgt := 257) hJ dX9_body_6 (by decide) rfl (by decide) ?_
  refine mj_aload_n hJ dX9_body_257 rfl ?_
  refine mj_iconst hJ dX9_body_258 (by decide) ?_
  refine mj_iload_n hJ dX9_body_259 rfl ?_
  refine mk_Vi2 hJ dX9_body_260 cw_X9_322 rfl rfl rfl rfl (Nat.le_of_ble_eq_true rfl) (by first | decide | omega) (c_X9_acted 0 x ha1 (by decide) (by decide) 6 5 (by decide) (by decide) (c_X9_body_A0 x ha1 5 (by omega))) (fun z I2 b2 hq9 => ?_)
  obtain ⟨rfl, rfl, t2⟩ := hq9
  refine mj_aload_n hJ dX9_body_263 rfl ?_
  refine mk_getI (j' := 42) hJ dX9_body_264 fw_X9_314 rfl (by decide) rfl rfl ?_
  rw [(ha1.step t2).1.2.2]
  refine mj_imul hJ dX9_body_267 ?_
  exact hR _ _ _ _ _ dX9_body_268 nar_i ⟨rfl, rfl, t1.comp t2⟩
theorem c_X9_body_20 {k a n : Int} (x : Int) (ha : HA I k a n) (d : Nat) (hd : 9 ≤ d) : MtI G yX9_body cX9_body 4 (some .int) d [vr 111, vi 20, vi x] I b (PA I b (o20 k a x)) := by
  refine mt_enterI (own := RX9) (ls0 := [vr 111, vi 20, vi x, vu]) rfl (by decide +kernel) (Nat.le_of_ble_eq_true rfl) rfl rfl (fun J hJ hR => ?_)
  have h1 := ha.1
  have h2 := ha.2.2.1
  have h3 := ha.2.2.2.1
  refine mj_aload_n hJ dX9_body_0 rfl ?_
  refine mj_iload_n hJ dX9_body_1 rfl ?_
  refine mk_Vv1 hJ dX9_body_2 cw_X9_319 rfl rfl rfl rfl (Nat.le_of_ble_eq_true rfl) (by first | decide | omega) (c_X9_began 20 ha.2.2.2.2.1 ha.2.2.2.2.2) (fun I1 b1 hq9 => ?_)
  obtain ⟨rfl, t1⟩ := hq9
  have ha1 := ha.step t1
  have g1 := ha1.1
  refine mj_iload_n hJ dX9_body_5 rfl ?_
  refine mj_look (off := 156) (tgt := 162) hJ dX9_body_6 (by decide) rfl (by decide) ?_
  refine mj_iconst hJ dX9_body_162 (by decide) ?_
  refine mj_aload_n hJ dX9_body_163 rfl ?_
  refine mj_iconst hJ dX9_body_164 (by decide) ?_
  refine mj_iconst hJ dX9_body_165 (by decide) ?_
  refine mj_iload_n hJ dX9_body_166 rfl ?_
  refine mk_Vi3 hJ dX9_body_167 cw_X9_328 rfl rfl rfl rfl (Nat.le_of_ble_eq_true rfl) (by first | decide | omega) (c_X9_fromAbove 1 1 x (by decide) (by decide) (by decide) (by decide) 8 7 (by decide) (by decide) (c_X9_body_11 x ha1 7 (by decide))) (fun z I2 b2 hq9 => ?_)
  obtain ⟨rfl, rfl, t2⟩ := hq9
  refine mj_isub hJ dX9_body_170 ?_
  exact hR _ _ _ _ _ dX9_body_171 nar_i ⟨rfl, rfl, t1.comp t2⟩
theorem c_X9_body_40 {k a n : Int} (x : Int) (ha : HA I k a n) (d : Nat) (hd : 9 ≤ d) : MtI G yX9_body cX9_body 4 (some .int) d [vr 111, vi 40, vi x] I b (PA I b (o40 k a x)) := by
  refine mt_enterI (own := RX9) (ls0 := [vr 111, vi 40, vi x, vu]) rfl (by decide +kernel) (Nat.le_of_ble_eq_true rfl) rfl rfl (fun J hJ hR => ?_)
  have h1 := ha.1
  have h2 := ha.2.2.1
  have h3 := ha.2.2.2.1
  refine mj_aload_n hJ dX9_body_0 rfl ?_
  refine mj_iload_n hJ dX9_body_1 rfl ?_
  refine mk_Vv1 hJ dX9_body_2 cw_X9_319 rfl rfl rfl rfl (Nat.le_of_ble_eq_true rfl) (by first | decide | omega) (c_X9_began 40 ha.2.2.2.2.1 ha.2.2.2.2.2) (fun I1 b1 hq9 => ?_)
  obtain ⟨rfl, t1⟩ := hq9
  have ha1 := ha.step t1
  have g1 := ha1.1
  refine mj_iload_n hJ dX9_body_5 rfl ?_
  refine mj_look (off := 176) (tgt := 182) hJ dX9_body_6 (by decide) rfl (by decide) ?_
  refine mj_aload_n hJ dX9_body_182 rfl ?_
  refine mj_iconst hJ dX9_body_183 (by decide) ?_
  refine mj_iconst hJ dX9_body_184 (by decide) ?_
  refine mj_iload_n hJ dX9_body_185 rfl ?_
  refine mk_Vi3 hJ dX9_body_186 cw_X9_328 rfl rfl rfl rfl (Nat.le_of_ble_eq_true rfl) (by first | decide | omega) (c_X9_fromAbove 3 1 x (by decide) (by decide) (by decide) (by decide) 8 7 (by decide) (by decide) (c_X9_body_11 x ha1 7 (by decide))) (fun z I2 b2 hq9 => ?_)
  obtain ⟨rfl, rfl, t2⟩ := hq9
  refine mj_aload_n hJ dX9_body_189 rfl ?_
  refine mk_getI (j' := 41) hJ dX9_body_190 fw_X9_311 rfl (by decide) rfl rfl ?_
  rw [(ha1.step t2).1.2.1]
  refine mj_iadd hJ dX9_body_193 ?_
  exact hR _ _ _ _ _ dX9_body_194 nar_i ⟨rfl, rfl, t1.comp t2⟩
theorem c_X9_body_A1 {k a n : Int} (x : Int) (ha : HA I k a n) (d : Nat) (hd : 9 ≤ d) : MtI G yX9_body cX9_body 4 (some .int) d [vr 111, vi (bod k 1), vi x] I b (PA I b (oA1 k a n x)) := by
  have hk : k = 0 ∨ k = 1 ∨ k = 2 ∨ k = 3 ∨ k = 4 ∨ k = 5 ∨ k = 6 := by have := ha.2.1; omega
  rcases hk with rfl | rfl | rfl | rfl | rfl | rfl | rfl
  · exact c_X9_body_11 x ha d (by omega)
  · exact c_X9_body_20 x ha d (by omega)
  · exact c_X9_body_11 x ha d (by omega)
  · exact c_X9_body_40 x ha d (by omega)
  · exact c_X9_body_11 x ha d (by omega)
  · exact c_X9_body_40 x ha d (by omega)
  · exact c_X9_body_71 x ha d (by omega)
theorem c_X9_body_50 {k a n : Int} (x : Int) (ha : HA I k a n) (d : Nat) (hd : 3 ≤ d) : MtI G yX9_body cX9_body 4 (some .int) d [vr 111, vi 50, vi x] I b (PA I b (o50 a n x)) := by
  refine mt_enterI (own := RX9) (ls0 := [vr 111, vi 50, vi x, vu]) rfl (by decide +kernel) (Nat.le_of_ble_eq_true rfl) rfl rfl (fun J hJ hR => ?_)
  have h1 := ha.1
  have h2 := ha.2.2.1
  have h3 := ha.2.2.2.1
  refine mj_aload_n hJ dX9_body_0 rfl ?_
  refine mj_iload_n hJ dX9_body_1 rfl ?_
  refine mk_Vv1 hJ dX9_body_2 cw_X9_319 rfl rfl rfl rfl (Nat.le_of_ble_eq_true rfl) (by first | decide | omega) (c_X9_began 50 ha.2.2.2.2.1 ha.2.2.2.2.2) (fun I1 b1 hq9 => ?_)
  obtain ⟨rfl, t1⟩ := hq9
  have ha1 := ha.step t1
  have g1 := ha1.1
  refine mj_iload_n hJ dX9_body_5 rfl ?_
  refine mj_look (off := 211) (tgt := 217) hJ dX9_body_6 (by decide) rfl (by decide) ?_
  refine mj_aload_n hJ dX9_body_217 rfl ?_
  refine mj_iconst hJ dX9_body_218 (by decide) ?_
  refine mj_iconst hJ dX9_body_219 (by decide) ?_
  refine mj_iload_n hJ dX9_body_220 rfl ?_
  refine mj_iconst hJ dX9_body_221 (by decide) ?_
  refine mj_isub hJ dX9_body_222 ?_
  refine mk_Vi3 hJ dX9_body_223 cw_X9_328 rfl rfl rfl rfl (Nat.le_of_ble_eq_true rfl) (by first | decide | omega) (c_X9_fromAbove 4 2 (wr (x - 1)) (by decide) (by decide) (by decide) (by decide) 2 1 (by decide) (by decide) (c_X9_body_12 (wr (x - 1)) ha1 1 (by decide))) (fun z I2 b2 hq9 => ?_)
  obtain ⟨rfl, rfl, t2⟩ := hq9
  exact hR _ _ _ _ _ dX9_body_226 nar_i ⟨rfl, rfl, t1.comp t2⟩
theorem c_X9_body_61 {k a n : Int} (x : Int) (ha : HA I k a n) (d : Nat) (hd : 3 ≤ d) : MtI G yX9_body cX9_body 4 (some .int) d [vr 111, vi 61, vi x] I b (PA I b (o61 a n x)) := by
  refine mt_enterI (own := RX9) (ls0 := [vr 111, vi 61, vi x, vu]) rfl (by decide +kernel) (Nat.le_of_ble_eq_true rfl) rfl rfl (fun J hJ hR => ?_)
  have h1 := ha.1
  have h2 := ha.2.2.1
  have h3 := ha.2.2.2.1
  refine mj_aload_n hJ dX9_body_0 rfl ?_
  refine mj_iload_n hJ dX9_body_1 rfl ?_
  refine mk_Vv1 hJ dX9_body_2 cw_X9_319 rfl rfl rfl rfl (Nat.le_of_ble_eq_true rfl) (by first | decide | omega) (c_X9_began 61 ha.2.2.2.2.1 ha.2.2.2.2.2) (fun I1 b1 hq9 => ?_)
  obtain ⟨rfl, t1⟩ := hq9
  have ha1 := ha.step t1
  have g1 := ha1.1
  refine mj_iload_n hJ dX9_body_5 rfl ?_
  refine mj_look (off := 234) (tgt := 240) hJ dX9_body_6 (by decide) rfl (by decide) ?_
  refine mj_aload_n hJ dX9_body_240 rfl ?_
  refine mj_iconst hJ dX9_body_241 (by decide) ?_
  refine mj_iconst hJ dX9_body_242 (by decide) ?_
  refine mj_iload_n hJ dX9_body_243 rfl ?_
  refine mj_iconst hJ dX9_body_244 (by decide) ?_
  refine mj_iadd hJ dX9_body_245 ?_
  refine mk_Vi3 hJ dX9_body_246 cw_X9_328 rfl rfl rfl rfl (Nat.le_of_ble_eq_true rfl) (by first | decide | omega) (c_X9_fromAbove 5 2 (wr (x + 2)) (by decide) (by decide) (by decide) (by decide) 2 1 (by decide) (by decide) (c_X9_body_12 (wr (x + 2)) ha1 1 (by decide))) (fun z I2 b2 hq9 => ?_)
  obtain ⟨rfl, rfl, t2⟩ := hq9
  exact hR _ _ _ _ _ dX9_body_249 nar_i ⟨rfl, rfl, t1.comp t2⟩
theorem c_X9_body_A2 {k a n : Int} (x : Int) (ha : HA I k a n) (d : Nat) (hd : 3 ≤ d) : MtI G yX9_body cX9_body 4 (some .int) d [vr 111, vi (bod k 2), vi x] I b (PA I b (oA2 k a n x)) := by
  have hk : k = 0 ∨ k = 1 ∨ k = 2 ∨ k = 3 ∨ k = 4 ∨ k = 5 ∨ k = 6 := by have := ha.2.1; omega
  rcases hk with rfl | rfl | rfl | rfl | rfl | rfl | rfl
  · exact c_X9_body_12 x ha d (by omega)
  · exact c_X9_body_12 x ha d (by omega)
  · exact c_X9_body_12 x ha d (by omega)
  · exact c_X9_body_12 x ha d (by omega)
  · exact c_X9_body_50 x ha d (by omega)
  · exact c_X9_body_61 x ha d (by omega)
  · exact c_X9_body_72 x ha d (by omega)
theorem c_X9_body_13 {k a n : Int} (x : Int) (ha : HA I k a n) (d : Nat) (hd : 11 ≤ d) : MtI G yX9_body cX9_body 4 (some .int) d [vr 111, vi 13, vi x] I b (PA I b (o13 k a n x)) := by
  refine mt_enterI (own := RX9) (ls0 := [vr 111, vi 13, vi x, vu]) rfl (by decide +kernel) (Nat.le_of_ble_eq_true rfl) rfl rfl (fun J hJ hR => ?_)
  have h1 := ha.1
  have h2 := ha.2.2.1
  have h3 := ha.2.2.2.1
  refine mj_aload_n hJ dX9_body_0 rfl ?_
  refine mj_iload_n hJ dX9_body_1 rfl ?_
  refine mk_Vv1 hJ dX9_body_2 cw_X9_319 rfl rfl rfl rfl (Nat.le_of_ble_eq_true rfl) (by first | decide | omega) (c_X9_began 13 ha.2.2.2.2.1 ha.2.2.2.2.2) (fun I1 b1 hq9 => ?_)
  obtain ⟨rfl, t1⟩ := hq9
  have ha1 := ha.step t1
  have g1 := ha1.1
  refine mj_iload_n hJ dX9_body_5 rfl ?_
  refine mj_look (off := 144) (tgt := 150) hJ dX9_body_6 (by decide) rfl (by decide) ?_
  refine mj_aload_n hJ dX9_body_150 rfl ?_
  refine mj_iconst hJ dX9_body_151 (by decide) ?_
  refine mj_iload_n hJ dX9_body_152 rfl ?_
  refine mk_Vi2 hJ dX9_body_153 cw_X9_322 rfl rfl rfl rfl (Nat.le_of_ble_eq_true rfl) (by first | decide | omega) (c_X9_acted 1 x ha1 (by decide) (by decide) 10 9 (by decide) (by decide) (c_X9_body_A1 x ha1 9 (by omega))) (fun z I2 b2 hq9 => ?_)
  obtain ⟨rfl, rfl, t2⟩ := hq9
  refine mj_aload_n hJ dX9_body_156 rfl ?_
  refine mk_getI (j' := 42) hJ dX9_body_157 fw_X9_314 rfl (by decide) rfl rfl ?_
  rw [(ha1.step t2).1.2.2]
  refine mj_ixor hJ dX9_body_160 ?_
  exact hR _ _ _ _ _ dX9_body_161 nar_i ⟨rfl, rfl, t1.comp t2⟩
theorem c_X9_body_73 {k a n : Int} (x : Int) (ha : HA I k a n) (d : Nat) (hd : 11 ≤ d) : MtI G yX9_body cX9_body 4 (some .int) d [vr 111, vi 73, vi x] I b (PA I b (o73 k a n x)) := by
  refine mt_enterI (own := RX9) (ls0 := [vr 111, vi 73, vi x, vu]) rfl (by decide +kernel) (Nat.le_of_ble_eq_true rfl) rfl rfl (fun J hJ hR => ?_)
  have h1 := ha.1
  have h2 := ha.2.2.1
  have h3 := ha.2.2.2.1
  refine mj_aload_n hJ dX9_body_0 rfl ?_
  refine mj_iload_n hJ dX9_body_1 rfl ?_
  refine mk_Vv1 hJ dX9_body_2 cw_X9_319 rfl rfl rfl rfl (Nat.le_of_ble_eq_true rfl) (by first | decide | omega) (c_X9_began 73 ha.2.2.2.2.1 ha.2.2.2.2.2) (fun I1 b1 hq9 => ?_)
  obtain ⟨rfl, t1⟩ := hq9
  have ha1 := ha.step t1
  have g1 := ha1.1
  refine mj_iload_n hJ dX9_body_5 rfl ?_
  refine mj_look (off := 270) (tgt := 276) hJ dX9_body_6 (by decide) rfl (by decide) ?_
  refine mj_aload_n hJ dX9_body_276 rfl ?_
  refine mj_iconst hJ dX9_body_277 (by decide) ?_
  refine mj_iload_n hJ dX9_body_278 rfl ?_
  refine mk_Vi2 hJ dX9_body_279 cw_X9_322 rfl rfl rfl rfl (Nat.le_of_ble_eq_true rfl) (by first | decide | omega) (c_X9_acted 1 x ha1 (by decide) (by decide) 10 9 (by decide) (by decide) (c_X9_body_A1 x ha1 9 (by omega))) (fun z I2 b2 hq9 => ?_)
  obtain ⟨rfl, rfl, t2⟩ := hq9
  have ha2 := ha1.step t2
  refine ms_istore_n (ls' := [_, _, _, _]) hJ dX9_body_282 (by decide) rfl rfl ?_
  refine mj_iload_n hJ dX9_body_283 rfl ?_
  refine mj_aload_n hJ dX9_body_284 rfl ?_
  refine mj_iconst hJ dX9_body_285 (by decide) ?_
  refine mj_aload_n hJ dX9_body_286 rfl ?_
  refine mk_getI (j' := 42) hJ dX9_body_287 fw_X9_314 rfl (by decide) rfl rfl ?_
  rw [ha2.1.2.2]
  refine mk_Vi2 hJ dX9_body_290 cw_X9_322 rfl rfl rfl rfl (Nat.le_of_ble_eq_true rfl) (by first | decide | omega) (c_X9_acted 2 n ha2 (by decide) (by decide) 4 3 (by decide) (by decide) (c_X9_body_A2 n ha2 3 (by omega))) (fun z I3 b3 hq9 => ?_)
  obtain ⟨rfl, rfl, t3⟩ := hq9
  refine mj_iadd hJ dX9_body_293 ?_
  exact hR _ _ _ _ _ dX9_body_294 nar_i ⟨rfl, rfl, (t1.comp (t2.comp t3))⟩
theorem c_X9_body_41 {k a n : Int} (x : Int) (ha : HA I k a n) (d : Nat) (hd : 13 ≤ d) : MtI G yX9_body cX9_body 4 (some .int) d [vr 111, vi 41, vi x] I b (PA I b (o41 k a n x)) := by
  refine mt_enterI (own := RX9) (ls0 := [vr 111, vi 41, vi x, vu]) rfl (by decide +kernel) (Nat.le_of_ble_eq_true rfl) rfl rfl (fun J hJ hR => ?_)
  have h1 := ha.1
  have h2 := ha.2.2.1
  have h3 := ha.2.2.2.1
  refine mj_aload_n hJ dX9_body_0 rfl ?_
  refine mj_iload_n hJ dX9_body_1 rfl ?_
  refine mk_Vv1 hJ dX9_body_2 cw_X9_319 rfl rfl rfl rfl (Nat.le_of_ble_eq_true rfl) (by first | decide | omega) (c_X9_began 41 ha.2.2.2.2.1 ha.2.2.2.2.2) (fun I1 b1 hq9 => ?_)
  obtain ⟨rfl, t1⟩ := hq9
  have ha1 := ha.step t1
  have g1 := ha1.1
  refine mj_iload_n hJ dX9_body_5 rfl ?_
  refine mj_look (off := 189) (tgt := 195) hJ dX9_body_6 (by decide) rfl (by decide) ?_
  refine mj_aload_n hJ dX9_body_195 rfl ?_
  refine mj_iconst hJ dX9_body_196 (by decide) ?_
  refine mj_iconst hJ dX9_body_197 (by decide) ?_
  refine mj_iload_n hJ dX9_body_198 rfl ?_
  refine mk_Vi3 hJ dX9_body_199 cw_X9_328 rfl rfl rfl rfl (Nat.le_of_ble_eq_true rfl) (by first | decide | omega) (c_X9_fromAbove 3 3 x (by decide) (by decide) (by decide) (by decide) 12 11 (by decide) (by decide) (c_X9_body_13 x ha1 11 (by decide))) (fun z I2 b2 hq9 => ?_)
  obtain ⟨rfl, rfl, t2⟩ := hq9
  have ha2 := ha1.step t2
  refine ms_istore_n (ls' := [_, _, _, _]) hJ dX9_body_202 (by decide) rfl rfl ?_
  refine mj_iload_n hJ dX9_body_203 rfl ?_
  refine mj_aload_n hJ dX9_body_204 rfl ?_
  refine mj_iconst hJ dX9_body_205 (by decide) ?_
  refine mj_aload_n hJ dX9_body_206 rfl ?_
  refine mk_getI (j' := 42) hJ dX9_body_207 fw_X9_314 rfl (by decide) rfl rfl ?_
  rw [ha2.1.2.2]
  refine mj_iconst hJ dX9_body_210 (by decide) ?_
  first | refine ms_iadd hJ dX9_body_211 (by omega) ?_ | refine mj_iadd hJ dX9_body_211 ?_
  refine mk_Vi2 hJ dX9_body_212 cw_X9_322 rfl rfl rfl rfl (Nat.le_of_ble_eq_true rfl) (by first | decide | omega) (c_X9_acted 2 (n + 1) ha2 (by decide) (by decide) 4 3 (by decide) (by decide) (c_X9_body_A2 (n + 1) ha2 3 (by omega))) (fun z I3 b3 hq9 => ?_)
  obtain ⟨rfl, rfl, t3⟩ := hq9
  refine mj_iadd hJ dX9_body_215 ?_
  exact hR _ _ _ _ _ dX9_body_216 nar_i ⟨rfl, rfl, (t1.comp (t2.comp t3))⟩
theorem c_X9_body_A3 {k a n : Int} (x : Int) (ha : HA I k a n) (d : Nat) (hd : 13 ≤ d) : MtI G yX9_body cX9_body 4 (some .int) d [vr 111, vi (bod k 3), vi x] I b (PA I b (oA3 k a n x)) := by
  have hk : k = 0 ∨ k = 1 ∨ k = 2 ∨ k = 3 ∨ k = 4 ∨ k = 5 ∨ k = 6 := by have := ha.2.1; omega
  rcases hk with rfl | rfl | rfl | rfl | rfl | rfl | rfl
  · exact c_X9_body_13 x ha d (by omega)
  · exact c_X9_body_13 x ha d (by omega)
  · exact c_X9_body_13 x ha d (by omega)
  · exact c_X9_body_41 x ha d (by omega)
  · exact c_X9_body_13 x ha d (by omega)
  · exact c_X9_body_41 x ha d (by omega)
  · exact c_X9_body_73 x ha d (by omega)
theorem c_X9_body_A {k a n : Int} (j x : Int) (j0 : 0 ≤ j) (j1 : j ≤ 3) (ha : HA I k a n) (d : Nat) (hd : 13 ≤ d) : MtI G yX9_body cX9_body 4 (some .int) d [vr 111, vi (bod k j), vi x] I b (PA I b (oA k a n j x)) := by
  have hj : j = 0 ∨ j = 1 ∨ j = 2 ∨ j = 3 := by omega
  rcases hj with rfl | rfl | rfl | rfl
  · exact c_X9_body_A0 x ha d (by omega)
  · exact c_X9_body_A1 x ha d (by omega)
  · exact c_X9_body_A2 x ha d (by omega)
  · exact c_X9_body_A3 x ha d (by omega)
end M14
