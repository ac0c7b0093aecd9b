section C14
variable {G : GE} {I N : Ints} {b : Bool} {T : List Ln}
/-- how the class's trace and its sign of parting went on -/
def Tc (I I' : Ints) (L : List Int) (p : Bool) : Prop := (∀ c, c ≠ 101 → c ≠ 102 → I' c = I c) ∧ (∀ j, j ≠ 1 → j ≠ 5 → I' 101 j = I 101 j) ∧ (I' 102, I' 101 1) = ap (I 102, I 101 1) L ∧ I' 101 5 = (if p = true then 1 else I 101 5)
theorem Tc.comp {I I1 I2 : Ints} {L L' : List Int} {p p' : Bool} (h : Tc I I1 L p) (h' : Tc I1 I2 L' p') : Tc I I2 (L ++ L') (p || p') := by
  refine ⟨fun c c1 c2 => (h'.1 c c1 c2).trans (h.1 c c1 c2), fun j j1 j2 => (h'.2.1 j j1 j2).trans (h.2.1 j j1 j2), ?_, ?_⟩
  · rw [h'.2.2.1, h.2.2.1, ap_append]
  · rw [h'.2.2.2, h.2.2.2]
    cases p <;> cases p' <;> rfl
theorem Tc.nil {I : Ints} : Tc I I [] false := ⟨fun _ _ _ => rfl, fun _ _ _ => rfl, rfl, rfl⟩
abbrev PC (I : Ints) (b : Bool) (r : AR) : Int → Ints → Bool → Prop := fun z I' b' => z = r.1 ∧ b' = b ∧ Tc I I' r.2.1 r.2.2
def tlr (r : AR) : AR := (r.1, r.2.1.tail, r.2.2)
def HC (I : Ints) (k a n : Int) : Prop := (I 101 2 = k ∧ I 101 4 = a ∧ I 101 3 = n) ∧ (0 ≤ k ∧ k ≤ 6) ∧ (0 ≤ n ∧ n ≤ 6) ∧ (-40000 ≤ a ∧ a ≤ 40000) ∧ (0 ≤ I 101 1 ∧ I 101 1 ≤ 30)
theorem HC.step {I I' : Ints} {k a n : Int} {L : List Int} {p : Bool} (h : HC I k a n) (t : Tc I I' L p) : HC I' k a n := by
  refine ⟨⟨(t.2.1 2 (by decide) (by decide)).trans h.1.1, (t.2.1 4 (by decide) (by decide)).trans h.1.2.1, (t.2.1 3 (by decide) (by decide)).trans h.1.2.2⟩, h.2.1, h.2.2.1, h.2.2.2.1, ?_⟩
  have e : I' 101 1 = (ap (I 102, I 101 1) L).2 := by rw [← t.2.2.1]
  rw [e]
  exact ap_bd L (I 102, I 101 1) h.2.2.2.2.1 h.2.2.2.2.2
theorem tb4_in : ∀ z : Int, inR (tb4 z) := fun z => by
  have all : ∀ n : Nat, n < 28 → inR (tb4L.getD n 0) := by
    unfold inR
    decide
  by_cases c : z.toNat < 28
  · exact all _ c
  · have : tb4 z = 0 := by
      unfold tb4
      rw [List.getD_eq_getElem?_getD, List.getElem?_eq_none (by show (28 : Nat) ≤ _; omega)]
      rfl
    rw [this]
    exact inR_0
/-- an act as a kind has it: the body begins, and answers -/
theorem c_perf (hTb : TBs G) {k a n : Int} (k' j x dp w : Int) (ha : HC I k a n) (k0 : 0 ≤ k') (k1 : k' ≤ 6) (j0 : 0 ≤ j) (j1 : j ≤ 3) (dp0 : 0 ≤ dp) (dp1 : dp ≤ 40) (r : AR) (hw : bod k' j = w) (hr : r.2.1 = w :: r.2.1.tail) (d d' : Nat) (hd : d' + 1 ≤ d)
    (hB : ∀ I1 : Ints, HC I1 k a n → MtI G yX0_answerOf cX0_answerOf 4 (some .int) d' [vr 101, vi w, vi x, vi (dp + 1)] I1 b (PC I1 b (tlr r))) : MtI G yX0_perform cX0_perform 6 (some .int) d [vr 101, vi k', vi j, vi x, vi dp] I b (PC I b r) := by
  refine mt_enterI (own := RX0) (ls0 := [vr 101, vi k', vi j, vi x, vi dp, vu]) rfl (by decide +kernel) (Nat.le_of_ble_eq_true rfl) rfl rfl (fun J hJ hR => ?_)
  obtain ⟨-, -, -, -, h4⟩ := hTb
  have hi := tb4_in (4 * k' + j)
  have ew : tb4 (4 * k' + j) = w := hw
  have h30 := ha.2.2.2.2
  refine mj_iload hJ dX0_perform_0 rfl ?_
  refine mj_bipush hJ dX0_perform_2 (by decide) ?_
  refine mj_icmp_le (tgt := 9) hJ dX0_perform_4 (by decide) (fun _ => ?_) (fun hno => absurd (by omega) hno)
  refine mj_gst (t := 4) hJ dX0_perform_9 (by decide) gs_X0_36 ?_
  refine mj_iconst hJ dX0_perform_12 (by decide) ?_
  refine mj_iload_n hJ dX0_perform_13 rfl ?_
  first | refine ms_imul hJ dX0_perform_14 (by omega) ?_ | refine mj_imul hJ dX0_perform_14 ?_
  refine mj_iload_n hJ dX0_perform_15 rfl ?_
  first | refine ms_iadd hJ dX0_perform_16 (by omega) ?_ | refine mj_iadd hJ dX0_perform_16 ?_
  refine mj_tald (t := 4) hJ dX0_perform_17 (by decide) (by assumption) (by omega) (by omega) (by assumption) ?_
  rw [ew]
  refine ms_istore (ls' := [_, _, _, _, _, _]) hJ dX0_perform_18 (by decide) rfl rfl ?_
  refine mj_aload_n hJ dX0_perform_20 rfl ?_
  refine mk_getI (j' := 1) hJ dX0_perform_21 fw_X0_15 rfl (by decide) rfl rfl ?_
  refine mj_bipush hJ dX0_perform_24 (by decide) ?_
  have K50 : ∀ I1 : Ints, Tc I I1 [w] false → J 50 [vr 101, vi k', vi j, vi x, vi dp, vi w] [] (mk I1 b) := by
    intro I1 t1
    refine mj_aload_n hJ dX0_perform_50 rfl ?_
    refine mj_iload hJ dX0_perform_51 rfl ?_
    refine mj_iload_n hJ dX0_perform_53 rfl ?_
    refine mj_iload hJ dX0_perform_54 rfl ?_
    refine mj_iconst hJ dX0_perform_56 (by decide) ?_
    first | refine ms_iadd hJ dX0_perform_57 (by omega) ?_ | refine mj_iadd hJ dX0_perform_57 ?_
    refine mk_Vi3 hJ dX0_perform_58 cw_X0_39 rfl rfl rfl rfl (Nat.le_of_ble_eq_true rfl) (by first | decide | omega) (hB I1 (ha.step t1)) (fun z I2 b2 hq9 => ?_)
    obtain ⟨rfl, rfl, t2⟩ := hq9
    have t := t1.comp t2
    rw [Bool.false_or] at t
    have e : [w] ++ (tlr r).2.1 = r.2.1 := hr.symm
    rw [e] at t
    exact hR _ _ _ _ _ dX0_perform_61 nar_i ⟨rfl, rfl, t⟩
  refine mj_icmp_ge (tgt := 50) hJ dX0_perform_26 (by decide) (fun hc => ?_) (fun hc => ?_)
  · refine K50 I ⟨fun _ _ _ => rfl, fun _ _ _ => rfl, ?_, rfl⟩
    show _ = (if I 101 1 < 30 then _ else _)
    rw [if_neg (by omega)]
  · refine mj_aload_n hJ dX0_perform_29 rfl ?_
    refine mk_getR hJ dX0_perform_30 fw_X0_11 rfl (by decide) rfl rfl ?_
    refine mj_aload_n hJ dX0_perform_33 rfl ?_
    refine mk_getI (j' := 1) hJ dX0_perform_34 fw_X0_15 rfl (by decide) rfl rfl ?_
    refine mj_iload hJ dX0_perform_37 rfl ?_
    refine mk_iast hJ dX0_perform_39 rfl (by omega) (by omega) ?_
    refine mj_aload_n hJ dX0_perform_40 rfl ?_
    refine mj_dupr hJ dX0_perform_41 ?_
    refine mk_getI (j' := 1) hJ dX0_perform_42 fw_X0_15 rfl (by decide) rfl rfl ?_
    rw [upI_ne (by decide)]
    refine mj_iconst hJ dX0_perform_45 (by decide) ?_
    first | refine ms_iadd hJ dX0_perform_46 (by omega) ?_ | refine mj_iadd hJ dX0_perform_46 ?_
    refine mk_putI (j' := 1) hJ dX0_perform_47 fw_X0_15 rfl (by decide) rfl rfl ?_
    refine K50 _ ⟨fun c c1 c2 => by rw [upI_ne c1, upI_ne c2], fun j j1 j2 => by rw [upI_at, if_neg j1, upI_ne (by decide)], ?_, by rw [upI_at, if_neg (by decide), upI_ne (by decide)]; rfl⟩
    show _ = (if I 101 1 < 30 then _ else _)
    rw [if_pos (by omega), upI_at, if_pos rfl, upI_ne (by decide)]
    show _ = ((fun j => if j = I 101 1 then w else I 102 j), I 101 1 + 1)
    congr 1
    funext j
    rw [upI_at]
theorem c_quot {k a n : Int} (x : Int) (ha : HC I k a n) : MtI G yX0_quotient cX0_quotient 3 (some .int) 0 [vr 101, vi x, vi (a - n)] I b (fun z I' b' => z = (if a = n then 0 else wr (x.tdiv (a - n))) ∧ b' = b ∧ Tc I I' [] (decide (a = n))) := by
  refine mt_enterI (own := RX0) (ls0 := [vr 101, vi x, vi (a - n)]) rfl (by decide +kernel) (Nat.le_of_ble_eq_true rfl) rfl rfl (fun J hJ hR => ?_)
  refine mj_iload_n hJ dX0_quotient_0 rfl ?_
  refine mj_if_ne (tgt := 11) hJ dX0_quotient_1 (by decide) (fun h => ?_) (fun h => ?_)
  · have hne : ¬ a = n := by omega
    refine mj_iload_n hJ dX0_quotient_11 rfl ?_
    refine mj_iload_n hJ dX0_quotient_12 rfl ?_
    refine mj_idiv hJ dX0_quotient_13 h ?_
    exact hR _ _ _ _ _ dX0_quotient_14 nar_i ⟨by rw [if_neg hne], rfl, by rw [decide_eq_false hne]; exact Tc.nil⟩
  · have he : a = n := by omega
    refine mj_aload_n hJ dX0_quotient_4 rfl ?_
    refine mj_iconst hJ dX0_quotient_5 (by decide) ?_
    refine mk_putZ (j' := 5) hJ dX0_quotient_6 fw_X0_28 rfl (by decide) rfl (by first | exact Or.inl rfl | exact Or.inr rfl | assumption | omega) rfl ?_
    refine mj_iconst hJ dX0_quotient_9 (by decide) ?_
    exact hR _ _ _ _ _ dX0_quotient_10 nar_i ⟨by rw [if_pos he], rfl, fun c c1 c2 => upI_ne c1, fun j j1 j2 => by rw [upI_at, if_neg j2], by rw [upI_ne (by decide), upI_at, if_neg (by decide)]; rfl, by rw [decide_eq_true he, upI_at, if_pos rfl]; rfl⟩
theorem c_ans_10 (hTb : TBs G) {k a n : Int} (x dp : Int) (ha : HC I k a n) (dp0 : 0 ≤ dp) (dp1 : dp ≤ 60) (d : Nat) (hd : 0 ≤ d) : MtI G yX0_answerOf cX0_answerOf 4 (some .int) d [vr 101, vi 10, vi x, vi dp] I b (PC I b (tlr (o10 a x))) := by
  refine mt_enterI (own := RX0) (ls0 := [vr 101, vi 10, vi x, vi dp]) rfl (by decide +kernel) (Nat.le_of_ble_eq_true rfl) rfl rfl (fun J hJ hR => ?_)
  have h1 := ha.1
  have h2 := ha.2.2.1
  have h3 := ha.2.2.2.1
  refine mj_iload_n hJ dX0_answerOf_0 rfl ?_
  refine mj_tabIn (off := 271) (tgt := 272) hJ dX0_answerOf_1 (by decide) (by decide) rfl (by decide) ?_
  refine mj_iload_n hJ dX0_answerOf_272 rfl ?_
  refine mj_aload_n hJ dX0_answerOf_273 rfl ?_
  refine mk_getI (j' := 4) hJ dX0_answerOf_274 fw_X0_25 rfl (by decide) rfl rfl ?_
  rw [h1.2.1]
  refine mj_iadd hJ dX0_answerOf_277 ?_
  exact hR _ _ _ _ _ dX0_answerOf_278 nar_i ⟨rfl, rfl, Tc.nil⟩
theorem c_ans_70 (hTb : TBs G) {k a n : Int} (x dp : Int) (ha : HC I k a n) (dp0 : 0 ≤ dp) (dp1 : dp ≤ 60) (d : Nat) (hd : 0 ≤ d) : MtI G yX0_answerOf cX0_answerOf 4 (some .int) d [vr 101, vi 70, vi x, vi dp] I b (PC I b (tlr (o70 a x))) := by
  refine mt_enterI (own := RX0) (ls0 := [vr 101, vi 70, vi x, vi dp]) rfl (by decide +kernel) (Nat.le_of_ble_eq_true rfl) rfl rfl (fun J hJ hR => ?_)
  have h1 := ha.1
  have h2 := ha.2.2.1
  have h3 := ha.2.2.2.1
  refine mj_iload_n hJ dX0_answerOf_0 rfl ?_
  refine mj_tabIn (off := 422) (tgt := 423) hJ dX0_answerOf_1 (by decide) (by decide) rfl (by decide) ?_
  refine mj_iload_n hJ dX0_answerOf_423 rfl ?_
  refine mj_aload_n hJ dX0_answerOf_424 rfl ?_
  refine mk_getI (j' := 4) hJ dX0_answerOf_425 fw_X0_25 rfl (by decide) rfl rfl ?_
  rw [h1.2.1]
  refine mj_isub hJ dX0_answerOf_428 ?_
  exact hR _ _ _ _ _ dX0_answerOf_429 nar_i ⟨rfl, rfl, Tc.nil⟩
theorem c_ans_72 (hTb : TBs G) {k a n : Int} (x dp : Int) (ha : HC I k a n) (dp0 : 0 ≤ dp) (dp1 : dp ≤ 60) (d : Nat) (hd : 0 ≤ d) : MtI G yX0_answerOf cX0_answerOf 4 (some .int) d [vr 101, vi 72, vi x, vi dp] I b (PC I b (tlr (o72 a x))) := by
  refine mt_enterI (own := RX0) (ls0 := [vr 101, vi 72, vi x, vi dp]) rfl (by decide +kernel) (Nat.le_of_ble_eq_true rfl) rfl rfl (fun J hJ hR => ?_)
  have h1 := ha.1
  have h2 := ha.2.2.1
  have h3 := ha.2.2.2.1
  refine mj_iload_n hJ dX0_answerOf_0 rfl ?_
  refine mj_tabIn (off := 446) (tgt := 447) hJ dX0_answerOf_1 (by decide) (by decide) rfl (by decide) ?_
  refine mj_iload_n hJ dX0_answerOf_447 rfl ?_
  refine mj_aload_n hJ dX0_answerOf_448 rfl ?_
  refine mk_getI (j' := 4) hJ dX0_answerOf_449 fw_X0_25 rfl (by decide) rfl rfl ?_
  rw [h1.2.1]
  refine mj_ixor hJ dX0_answerOf_452 ?_
  exact hR _ _ _ _ _ dX0_answerOf_453 nar_i ⟨rfl, rfl, Tc.nil⟩
theorem c_ans_12 (hTb : TBs G) {k a n : Int} (x dp : Int) (ha : HC I k a n) (dp0 : 0 ≤ dp) (dp1 : dp ≤ 60) (d : Nat) (hd : 1 ≤ d) : MtI G yX0_answerOf cX0_answerOf 4 (some .int) d [vr 101, vi 12, vi x, vi dp] I b (PC I b (tlr (o12 a n x))) := by
  refine mt_enterI (own := RX0) (ls0 := [vr 101, vi 12, vi x, vi dp]) rfl (by decide +kernel) (Nat.le_of_ble_eq_true rfl) rfl rfl (fun J hJ hR => ?_)
  have h1 := ha.1
  have h2 := ha.2.2.1
  have h3 := ha.2.2.2.1
  refine mj_iload_n hJ dX0_answerOf_0 rfl ?_
  refine mj_tabIn (off := 292) (tgt := 293) hJ dX0_answerOf_1 (by decide) (by decide) rfl (by decide) ?_
  refine mj_aload_n hJ dX0_answerOf_293 rfl ?_
  refine mj_iload_n hJ dX0_answerOf_294 rfl ?_
  refine mj_aload_n hJ dX0_answerOf_295 rfl ?_
  refine mk_getI (j' := 4) hJ dX0_answerOf_296 fw_X0_25 rfl (by decide) rfl rfl ?_
  rw [h1.2.1]
  refine mj_aload_n hJ dX0_answerOf_299 rfl ?_
  refine mk_getI (j' := 3) hJ dX0_answerOf_300 fw_X0_22 rfl (by decide) rfl rfl ?_
  rw [h1.2.2]
  first | refine ms_isub hJ dX0_answerOf_303 (by omega) ?_ | refine mj_isub hJ dX0_answerOf_303 ?_
  refine mk_Vi2 hJ dX0_answerOf_304 cw_X0_43 rfl rfl rfl rfl (Nat.le_of_ble_eq_true rfl) (by first | decide | omega) (c_quot x ha) (fun z I2 b2 hq9 => ?_)
  obtain ⟨rfl, rfl, t2⟩ := hq9
  unfold o12 at hR
  by_cases c : a = n
  · rw [if_pos c] at hR ⊢
    rw [decide_eq_true c] at t2
    exact hR _ _ _ _ _ dX0_answerOf_307 nar_i ⟨rfl, rfl, t2⟩
  · rw [if_neg c] at hR ⊢
    rw [decide_eq_false c] at t2
    exact hR _ _ _ _ _ dX0_answerOf_307 nar_i ⟨rfl, rfl, t2⟩
theorem c_ans_30 (hTb : TBs G) {k a n : Int} (x dp : Int) (ha : HC I k a n) (dp0 : 0 ≤ dp) (dp1 : dp ≤ 38) (d : Nat) (hd : 3 ≤ d) : MtI G yX0_answerOf cX0_answerOf 4 (some .int) d [vr 101, vi 30, vi x, vi dp] I b (PC I b (tlr (o30 a x))) := by
  refine mt_enterI (own := RX0) (ls0 := [vr 101, vi 30, vi x, vi dp]) rfl (by decide +kernel) (Nat.le_of_ble_eq_true rfl) rfl rfl (fun J hJ hR => ?_)
  have h1 := ha.1
  have h2 := ha.2.2.1
  have h3 := ha.2.2.2.1
  refine mj_iload_n hJ dX0_answerOf_0 rfl ?_
  refine mj_tabIn (off := 335) (tgt := 336) hJ dX0_answerOf_1 (by decide) (by decide) rfl (by decide) ?_
  refine mj_aload_n hJ dX0_answerOf_336 rfl ?_
  refine mj_iconst hJ dX0_answerOf_337 (by decide) ?_
  refine mj_iconst hJ dX0_answerOf_338 (by decide) ?_
  refine mj_iload_n hJ dX0_answerOf_339 rfl ?_
  refine mj_iload_n hJ dX0_answerOf_340 rfl ?_
  refine mk_Vi4 hJ dX0_answerOf_341 cw_X0_32 rfl rfl rfl rfl (Nat.le_of_ble_eq_true rfl) (by first | decide | omega) (c_perf hTb 0 0 (x) dp 10 ha (by omega) (by omega) (by decide) (by decide) dp0 (by omega) (o10 a x) rfl rfl 2 1 (by decide) (fun I1 h1 => c_ans_10 hTb x (dp + 1) h1 (by omega) (by omega) 1 (by decide))) (fun z I2 b2 hq9 => ?_)
  obtain ⟨rfl, rfl, t2⟩ := hq9
  refine mj_iconst hJ dX0_answerOf_344 (by decide) ?_
  refine mj_imul hJ dX0_answerOf_345 ?_
  exact hR _ _ _ _ _ dX0_answerOf_346 nar_i ⟨rfl, rfl, t2⟩
theorem c_ans_60 (hTb : TBs G) {k a n : Int} (x dp : Int) (ha : HC I k a n) (dp0 : 0 ≤ dp) (dp1 : dp ≤ 36) (d : Nat) (hd : 5 ≤ d) : MtI G yX0_answerOf cX0_answerOf 4 (some .int) d [vr 101, vi 60, vi x, vi dp] I b (PC I b (tlr (o60 a x))) := by
  refine mt_enterI (own := RX0) (ls0 := [vr 101, vi 60, vi x, vi dp]) rfl (by decide +kernel) (Nat.le_of_ble_eq_true rfl) rfl rfl (fun J hJ hR => ?_)
  have h1 := ha.1
  have h2 := ha.2.2.1
  have h3 := ha.2.2.2.1
  refine mj_iload_n hJ dX0_answerOf_0 rfl ?_
  refine mj_tabIn (off := 397) (tgt := 398) hJ dX0_answerOf_1 (by decide) (by decide) rfl (by decide) ?_
  refine mj_aload_n hJ dX0_answerOf_398 rfl ?_
  refine mj_iconst hJ dX0_answerOf_399 (by decide) ?_
  refine mj_iconst hJ dX0_answerOf_400 (by decide) ?_
  refine mj_iload_n hJ dX0_answerOf_401 rfl ?_
  refine mj_iload_n hJ dX0_answerOf_402 rfl ?_
  refine mk_Vi4 hJ dX0_answerOf_403 cw_X0_32 rfl rfl rfl rfl (Nat.le_of_ble_eq_true rfl) (by first | decide | omega) (c_perf hTb 3 0 (x) dp 30 ha (by omega) (by omega) (by decide) (by decide) dp0 (by omega) (o30 a x) rfl rfl 4 3 (by decide) (fun I1 h1 => c_ans_30 hTb x (dp + 1) h1 (by omega) (by omega) 3 (by decide))) (fun z I2 b2 hq9 => ?_)
  obtain ⟨rfl, rfl, t2⟩ := hq9
  refine mj_aload_n hJ dX0_answerOf_406 rfl ?_
  refine mk_getI (j' := 4) hJ dX0_answerOf_407 fw_X0_25 rfl (by decide) rfl rfl ?_
  rw [(ha.step t2).1.2.1]
  refine mj_ixor hJ dX0_answerOf_410 ?_
  exact hR _ _ _ _ _ dX0_answerOf_411 nar_i ⟨rfl, rfl, t2⟩
theorem c_ans_A0 (hTb : TBs G) {k a n : Int} (x dp : Int) (ha : HC I k a n) (dp0 : 0 ≤ dp) (dp1 : dp ≤ 36) (d : Nat) (hd : 5 ≤ d) : MtI G yX0_answerOf cX0_answerOf 4 (some .int) d [vr 101, vi (bod k 0), vi x, vi dp] I b (PC I b (tlr (oA0 k a x))) ∧ (oA0 k a x).2.1 = bod k 0 :: (oA0 k a x).2.1.tail := by
  have hk : k = 0 ∨ k = 1 ∨ k = 2 ∨ k = 3 ∨ k = 4 ∨ k = 5 ∨ k = 6 := by have := ha.2.1; omega
  rcases hk with rfl | rfl | rfl | rfl | rfl | rfl | rfl
  · exact ⟨c_ans_10 hTb x dp ha dp0 (by omega) d (by omega), rfl⟩
  · exact ⟨c_ans_10 hTb x dp ha dp0 (by omega) d (by omega), rfl⟩
  · exact ⟨c_ans_30 hTb x dp ha dp0 (by omega) d (by omega), rfl⟩
  · exact ⟨c_ans_30 hTb x dp ha dp0 (by omega) d (by omega), rfl⟩
  · exact ⟨c_ans_30 hTb x dp ha dp0 (by omega) d (by omega), rfl⟩
  · exact ⟨c_ans_60 hTb x dp ha dp0 (by omega) d (by omega), rfl⟩
  · exact ⟨c_ans_70 hTb x dp ha dp0 (by omega) d (by omega), rfl⟩
theorem c_ans_11 (hTb : TBs G) {k a n : Int} (x dp : Int) (ha : HC I k a n) (dp0 : 0 ≤ dp) (dp1 : dp ≤ 34) (d : Nat) (hd : 7 ≤ d) : MtI G yX0_answerOf cX0_answerOf 4 (some .int) d [vr 101, vi 11, vi x, vi dp] I b (PC I b (tlr (o11 k a x))) := by
  refine mt_enterI (own := RX0) (ls0 := [vr 101, vi 11, vi x, vi dp]) rfl (by decide +kernel) (Nat.le_of_ble_eq_true rfl) rfl rfl (fun J hJ hR => ?_)
  have h1 := ha.1
  have h2 := ha.2.2.1
  have h3 := ha.2.2.2.1
  refine mj_iload_n hJ dX0_answerOf_0 rfl ?_
  refine mj_tabIn (off := 278) (tgt := 279) hJ dX0_answerOf_1 (by decide) (by decide) rfl (by decide) ?_
  have hkb := ha.2.1
  refine mj_aload_n hJ dX0_answerOf_279 rfl ?_
  refine mj_aload_n hJ dX0_answerOf_280 rfl ?_
  refine mk_getI (j' := 2) hJ dX0_answerOf_281 fw_X0_19 rfl (by decide) rfl rfl ?_
  rw [ha.1.1]
  refine mj_iconst hJ dX0_answerOf_284 (by decide) ?_
  refine mj_iload_n hJ dX0_answerOf_285 rfl ?_
  refine mj_iload_n hJ dX0_answerOf_286 rfl ?_
  refine mk_Vi4 hJ dX0_answerOf_287 cw_X0_32 rfl rfl rfl rfl (Nat.le_of_ble_eq_true rfl) (by first | decide | omega) (c_perf hTb k 0 (x) dp (bod k 0) ha (by omega) (by omega) (by decide) (by decide) dp0 (by omega) (oA0 k a x) rfl (c_ans_A0 (b := true) hTb (x) (dp + 1) ha (by omega) (by omega) 5 (by decide)).2 6 5 (by decide) (fun I9 h9 => (c_ans_A0 hTb (x) (dp + 1) h9 (by omega) (by omega) 5 (by decide)).1)) (fun z I2 b2 hq9 => ?_)
  obtain ⟨rfl, rfl, t2⟩ := hq9
  refine mj_iconst hJ dX0_answerOf_290 (by decide) ?_
  refine mj_imul hJ dX0_answerOf_291 ?_
  exact hR _ _ _ _ _ dX0_answerOf_292 nar_i ⟨rfl, rfl, t2⟩
theorem c_ans_71 (hTb : TBs G) {k a n : Int} (x dp : Int) (ha : HC I k a n) (dp0 : 0 ≤ dp) (dp1 : dp ≤ 34) (d : Nat) (hd : 7 ≤ d) : MtI G yX0_answerOf cX0_answerOf 4 (some .int) d [vr 101, vi 71, vi x, vi dp] I b (PC I b (tlr (o71 k a n x))) := by
  refine mt_enterI (own := RX0) (ls0 := [vr 101, vi 71, vi x, vi dp]) rfl (by decide +kernel) (Nat.le_of_ble_eq_true rfl) rfl rfl (fun J hJ hR => ?_)
  have h1 := ha.1
  have h2 := ha.2.2.1
  have h3 := ha.2.2.2.1
  refine mj_iload_n hJ dX0_answerOf_0 rfl ?_
  refine mj_tabIn (off := 429) (tgt := 430) hJ dX0_answerOf_1 (by decide) (by decide) rfl (by decide) ?_
  have hkb := ha.2.1
  refine mj_aload_n hJ dX0_answerOf_430 rfl ?_
  refine mj_aload_n hJ dX0_answerOf_431 rfl ?_
  refine mk_getI (j' := 2) hJ dX0_answerOf_432 fw_X0_19 rfl (by decide) rfl rfl ?_
  rw [ha.1.1]
  refine mj_iconst hJ dX0_answerOf_435 (by decide) ?_
  refine mj_iload_n hJ dX0_answerOf_436 rfl ?_
  refine mj_iload_n hJ dX0_answerOf_437 rfl ?_
  refine mk_Vi4 hJ dX0_answerOf_438 cw_X0_32 rfl rfl rfl rfl (Nat.le_of_ble_eq_true rfl) (by first | decide | omega) (c_perf hTb k 0 (x) dp (bod k 0) ha (by omega) (by omega) (by decide) (by decide) dp0 (by omega) (oA0 k a x) rfl (c_ans_A0 (b := true) hTb (x) (dp + 1) ha (by omega) (by omega) 5 (by decide)).2 6 5 (by decide) (fun I9 h9 => (c_ans_A0 hTb (x) (dp + 1) h9 (by omega) (by omega) 5 (by decide)).1)) (fun z I2 b2 hq9 => ?_)
  obtain ⟨rfl, rfl, t2⟩ := hq9
  refine mj_aload_n hJ dX0_answerOf_441 rfl ?_
  refine mk_getI (j' := 3) hJ dX0_answerOf_442 fw_X0_22 rfl (by decide) rfl rfl ?_
  rw [(ha.step t2).1.2.2]
  refine mj_imul hJ dX0_answerOf_445 ?_
  exact hR _ _ _ _ _ dX0_answerOf_446 nar_i ⟨rfl, rfl, t2⟩
theorem c_ans_20 (hTb : TBs G) {k a n : Int} (x dp : Int) (ha : HC I k a n) (dp0 : 0 ≤ dp) (dp1 : dp ≤ 32) (d : Nat) (hd : 9 ≤ d) : MtI G yX0_answerOf cX0_answerOf 4 (some .int) d [vr 101, vi 20, vi x, vi dp] I b (PC I b (tlr (o20 k a x))) := by
  refine mt_enterI (own := RX0) (ls0 := [vr 101, vi 20, vi x, vi dp]) rfl (by decide +kernel) (Nat.le_of_ble_eq_true rfl) rfl rfl (fun J hJ hR => ?_)
  have h1 := ha.1
  have h2 := ha.2.2.1
  have h3 := ha.2.2.2.1
  refine mj_iload_n hJ dX0_answerOf_0 rfl ?_
  refine mj_tabIn (off := 324) (tgt := 325) hJ dX0_answerOf_1 (by decide) (by decide) rfl (by decide) ?_
  refine mj_iconst hJ dX0_answerOf_325 (by decide) ?_
  refine mj_aload_n hJ dX0_answerOf_326 rfl ?_
  refine mj_iconst hJ dX0_answerOf_327 (by decide) ?_
  refine mj_iconst hJ dX0_answerOf_328 (by decide) ?_
  refine mj_iload_n hJ dX0_answerOf_329 rfl ?_
  refine mj_iload_n hJ dX0_answerOf_330 rfl ?_
  refine mk_Vi4 hJ dX0_answerOf_331 cw_X0_32 rfl rfl rfl rfl (Nat.le_of_ble_eq_true rfl) (by first | decide | omega) (c_perf hTb 0 1 (x) dp 11 ha (by omega) (by omega) (by decide) (by decide) dp0 (by omega) (o11 k a x) rfl rfl 8 7 (by decide) (fun I1 h1 => c_ans_11 hTb x (dp + 1) h1 (by omega) (by omega) 7 (by decide))) (fun z I2 b2 hq9 => ?_)
  obtain ⟨rfl, rfl, t2⟩ := hq9
  refine mj_isub hJ dX0_answerOf_334 ?_
  exact hR _ _ _ _ _ dX0_answerOf_335 nar_i ⟨rfl, rfl, t2⟩
theorem c_ans_40 (hTb : TBs G) {k a n : Int} (x dp : Int) (ha : HC I k a n) (dp0 : 0 ≤ dp) (dp1 : dp ≤ 32) (d : Nat) (hd : 9 ≤ d) : MtI G yX0_answerOf cX0_answerOf 4 (some .int) d [vr 101, vi 40, vi x, vi dp] I b (PC I b (tlr (o40 k a x))) := by
  refine mt_enterI (own := RX0) (ls0 := [vr 101, vi 40, vi x, vi dp]) rfl (by decide +kernel) (Nat.le_of_ble_eq_true rfl) rfl rfl (fun J hJ hR => ?_)
  have h1 := ha.1
  have h2 := ha.2.2.1
  have h3 := ha.2.2.2.1
  refine mj_iload_n hJ dX0_answerOf_0 rfl ?_
  refine mj_tabIn (off := 346) (tgt := 347) hJ dX0_answerOf_1 (by decide) (by decide) rfl (by decide) ?_
  refine mj_aload_n hJ dX0_answerOf_347 rfl ?_
  refine mj_iconst hJ dX0_answerOf_348 (by decide) ?_
  refine mj_iconst hJ dX0_answerOf_349 (by decide) ?_
  refine mj_iload_n hJ dX0_answerOf_350 rfl ?_
  refine mj_iload_n hJ dX0_answerOf_351 rfl ?_
  refine mk_Vi4 hJ dX0_answerOf_352 cw_X0_32 rfl rfl rfl rfl (Nat.le_of_ble_eq_true rfl) (by first | decide | omega) (c_perf hTb 2 1 (x) dp 11 ha (by omega) (by omega) (by decide) (by decide) dp0 (by omega) (o11 k a x) rfl rfl 8 7 (by decide) (fun I1 h1 => c_ans_11 hTb x (dp + 1) h1 (by omega) (by omega) 7 (by decide))) (fun z I2 b2 hq9 => ?_)
  obtain ⟨rfl, rfl, t2⟩ := hq9
  refine mj_aload_n hJ dX0_answerOf_355 rfl ?_
  refine mk_getI (j' := 4) hJ dX0_answerOf_356 fw_X0_25 rfl (by decide) rfl rfl ?_
  rw [(ha.step t2).1.2.1]
  refine mj_iadd hJ dX0_answerOf_359 ?_
  exact hR _ _ _ _ _ dX0_answerOf_360 nar_i ⟨rfl, rfl, t2⟩
theorem c_ans_A1 (hTb : TBs G) {k a n : Int} (x dp : Int) (ha : HC I k a n) (dp0 : 0 ≤ dp) (dp1 : dp ≤ 32) (d : Nat) (hd : 9 ≤ d) : MtI G yX0_answerOf cX0_answerOf 4 (some .int) d [vr 101, vi (bod k 1), vi x, vi dp] I b (PC I b (tlr (oA1 k a n x))) ∧ (oA1 k a n x).2.1 = bod k 1 :: (oA1 k a n x).2.1.tail := by
  have hk : k = 0 ∨ k = 1 ∨ k = 2 ∨ k = 3 ∨ k = 4 ∨ k = 5 ∨ k = 6 := by have := ha.2.1; omega
  rcases hk with rfl | rfl | rfl | rfl | rfl | rfl | rfl
  · exact ⟨c_ans_11 hTb x dp ha dp0 (by omega) d (by omega), rfl⟩
  · exact ⟨c_ans_20 hTb x dp ha dp0 (by omega) d (by omega), rfl⟩
  · exact ⟨c_ans_11 hTb x dp ha dp0 (by omega) d (by omega), rfl⟩
  · exact ⟨c_ans_40 hTb x dp ha dp0 (by omega) d (by omega), rfl⟩
  · exact ⟨c_ans_11 hTb x dp ha dp0 (by omega) d (by omega), rfl⟩
  · exact ⟨c_ans_40 hTb x dp ha dp0 (by omega) d (by omega), rfl⟩
  · exact ⟨c_ans_71 hTb x dp ha dp0 (by omega) d (by omega), rfl⟩
theorem o12_cons (a n x : Int) : (o12 a n x).2.1 = 12 :: (o12 a n x).2.1.tail := by
  unfold o12
  split <;> rfl
theorem c_ans_50 (hTb : TBs G) {k a n : Int} (x dp : Int) (ha : HC I k a n) (dp0 : 0 ≤ dp) (dp1 : dp ≤ 38) (d : Nat) (hd : 3 ≤ d) : MtI G yX0_answerOf cX0_answerOf 4 (some .int) d [vr 101, vi 50, vi x, vi dp] I b (PC I b (tlr (o50 a n x))) := by
  refine mt_enterI (own := RX0) (ls0 := [vr 101, vi 50, vi x, vi dp]) rfl (by decide +kernel) (Nat.le_of_ble_eq_true rfl) rfl rfl (fun J hJ hR => ?_)
  have h1 := ha.1
  have h2 := ha.2.2.1
  have h3 := ha.2.2.2.1
  refine mj_iload_n hJ dX0_answerOf_0 rfl ?_
  refine mj_tabIn (off := 386) (tgt := 387) hJ dX0_answerOf_1 (by decide) (by decide) rfl (by decide) ?_
  refine mj_aload_n hJ dX0_answerOf_387 rfl ?_
  refine mj_iconst hJ dX0_answerOf_388 (by decide) ?_
  refine mj_iconst hJ dX0_answerOf_389 (by decide) ?_
  refine mj_iload_n hJ dX0_answerOf_390 rfl ?_
  refine mj_iconst hJ dX0_answerOf_391 (by decide) ?_
  refine mj_isub hJ dX0_answerOf_392 ?_
  refine mj_iload_n hJ dX0_answerOf_393 rfl ?_
  refine mk_Vi4 hJ dX0_answerOf_394 cw_X0_32 rfl rfl rfl rfl (Nat.le_of_ble_eq_true rfl) (by first | decide | omega) (c_perf hTb 2 2 (wr (x - 1)) dp 12 ha (by omega) (by omega) (by decide) (by decide) dp0 (by omega) (o12 a n (wr (x - 1))) rfl (o12_cons a n _) 2 1 (by decide) (fun I1 h1 => c_ans_12 hTb (wr (x - 1)) (dp + 1) h1 (by omega) (by omega) 1 (by decide))) (fun z I2 b2 hq9 => ?_)
  obtain ⟨rfl, rfl, t2⟩ := hq9
  exact hR _ _ _ _ _ dX0_answerOf_397 nar_i ⟨rfl, rfl, t2⟩
theorem c_ans_61 (hTb : TBs G) {k a n : Int} (x dp : Int) (ha : HC I k a n) (dp0 : 0 ≤ dp) (dp1 : dp ≤ 38) (d : Nat) (hd : 3 ≤ d) : MtI G yX0_answerOf cX0_answerOf 4 (some .int) d [vr 101, vi 61, vi x, vi dp] I b (PC I b (tlr (o61 a n x))) := by
  refine mt_enterI (own := RX0) (ls0 := [vr 101, vi 61, vi x, vi dp]) rfl (by decide +kernel) (Nat.le_of_ble_eq_true rfl) rfl rfl (fun J hJ hR => ?_)
  have h1 := ha.1
  have h2 := ha.2.2.1
  have h3 := ha.2.2.2.1
  refine mj_iload_n hJ dX0_answerOf_0 rfl ?_
  refine mj_tabIn (off := 411) (tgt := 412) hJ dX0_answerOf_1 (by decide) (by decide) rfl (by decide) ?_
  refine mj_aload_n hJ dX0_answerOf_412 rfl ?_
  refine mj_iconst hJ dX0_answerOf_413 (by decide) ?_
  refine mj_iconst hJ dX0_answerOf_414 (by decide) ?_
  refine mj_iload_n hJ dX0_answerOf_415 rfl ?_
  refine mj_iconst hJ dX0_answerOf_416 (by decide) ?_
  refine mj_iadd hJ dX0_answerOf_417 ?_
  refine mj_iload_n hJ dX0_answerOf_418 rfl ?_
  refine mk_Vi4 hJ dX0_answerOf_419 cw_X0_32 rfl rfl rfl rfl (Nat.le_of_ble_eq_true rfl) (by first | decide | omega) (c_perf hTb 3 2 (wr (x + 2)) dp 12 ha (by omega) (by omega) (by decide) (by decide) dp0 (by omega) (o12 a n (wr (x + 2))) rfl (o12_cons a n _) 2 1 (by decide) (fun I1 h1 => c_ans_12 hTb (wr (x + 2)) (dp + 1) h1 (by omega) (by omega) 1 (by decide))) (fun z I2 b2 hq9 => ?_)
  obtain ⟨rfl, rfl, t2⟩ := hq9
  exact hR _ _ _ _ _ dX0_answerOf_422 nar_i ⟨rfl, rfl, t2⟩
theorem c_ans_A2 (hTb : TBs G) {k a n : Int} (x dp : Int) (ha : HC I k a n) (dp0 : 0 ≤ dp) (dp1 : dp ≤ 38) (d : Nat) (hd : 3 ≤ d) : MtI G yX0_answerOf cX0_answerOf 4 (some .int) d [vr 101, vi (bod k 2), vi x, vi dp] I b (PC I b (tlr (oA2 k a n x))) ∧ (oA2 k a n x).2.1 = bod k 2 :: (oA2 k a n x).2.1.tail := by
  have hk : k = 0 ∨ k = 1 ∨ k = 2 ∨ k = 3 ∨ k = 4 ∨ k = 5 ∨ k = 6 := by have := ha.2.1; omega
  rcases hk with rfl | rfl | rfl | rfl | rfl | rfl | rfl
  · exact ⟨c_ans_12 hTb x dp ha dp0 (by omega) d (by omega), o12_cons a n x⟩
  · exact ⟨c_ans_12 hTb x dp ha dp0 (by omega) d (by omega), o12_cons a n x⟩
  · exact ⟨c_ans_12 hTb x dp ha dp0 (by omega) d (by omega), o12_cons a n x⟩
  · exact ⟨c_ans_12 hTb x dp ha dp0 (by omega) d (by omega), o12_cons a n x⟩
  · exact ⟨c_ans_50 hTb x dp ha dp0 (by omega) d (by omega), rfl⟩
  · exact ⟨c_ans_61 hTb x dp ha dp0 (by omega) d (by omega), rfl⟩
  · exact ⟨c_ans_72 hTb x dp ha dp0 (by omega) d (by omega), rfl⟩
theorem c_ans_13 (hTb : TBs G) {k a n : Int} (x dp : Int) (ha : HC I k a n) (dp0 : 0 ≤ dp) (dp1 : dp ≤ 30) (d : Nat) (hd : 11 ≤ d) : MtI G yX0_answerOf cX0_answerOf 4 (some .int) d [vr 101, vi 13, vi x, vi dp] I b (PC I b (tlr (o13 k a n x))) := by
  refine mt_enterI (own := RX0) (ls0 := [vr 101, vi 13, vi x, vi dp]) rfl (by decide +kernel) (Nat.le_of_ble_eq_true rfl) rfl rfl (fun J hJ hR => ?_)
  have h1 := ha.1
  have h2 := ha.2.2.1
  have h3 := ha.2.2.2.1
  refine mj_iload_n hJ dX0_answerOf_0 rfl ?_
  refine mj_tabIn (off := 307) (tgt := 308) hJ dX0_answerOf_1 (by decide) (by decide) rfl (by decide) ?_
  have hkb := ha.2.1
  refine mj_aload_n hJ dX0_answerOf_308 rfl ?_
  refine mj_aload_n hJ dX0_answerOf_309 rfl ?_
  refine mk_getI (j' := 2) hJ dX0_answerOf_310 fw_X0_19 rfl (by decide) rfl rfl ?_
  rw [ha.1.1]
  refine mj_iconst hJ dX0_answerOf_313 (by decide) ?_
  refine mj_iload_n hJ dX0_answerOf_314 rfl ?_
  refine mj_iload_n hJ dX0_answerOf_315 rfl ?_
  refine mk_Vi4 hJ dX0_answerOf_316 cw_X0_32 rfl rfl rfl rfl (Nat.le_of_ble_eq_true rfl) (by first | decide | omega) (c_perf hTb k 1 (x) dp (bod k 1) ha (by omega) (by omega) (by decide) (by decide) dp0 (by omega) (oA1 k a n x) rfl (c_ans_A1 (b := true) hTb (x) (dp + 1) ha (by omega) (by omega) 9 (by decide)).2 10 9 (by decide) (fun I9 h9 => (c_ans_A1 hTb (x) (dp + 1) h9 (by omega) (by omega) 9 (by decide)).1)) (fun z I2 b2 hq9 => ?_)
  obtain ⟨rfl, rfl, t2⟩ := hq9
  refine mj_aload_n hJ dX0_answerOf_319 rfl ?_
  refine mk_getI (j' := 3) hJ dX0_answerOf_320 fw_X0_22 rfl (by decide) rfl rfl ?_
  rw [(ha.step t2).1.2.2]
  refine mj_ixor hJ dX0_answerOf_323 ?_
  exact hR _ _ _ _ _ dX0_answerOf_324 nar_i ⟨rfl, rfl, t2⟩
theorem c_ans_73 (hTb : TBs G) {k a n : Int} (x dp : Int) (ha : HC I k a n) (dp0 : 0 ≤ dp) (dp1 : dp ≤ 30) (d : Nat) (hd : 11 ≤ d) : MtI G yX0_answerOf cX0_answerOf 4 (some .int) d [vr 101, vi 73, vi x, vi dp] I b (PC I b (tlr (o73 k a n x))) := by
  refine mt_enterI (own := RX0) (ls0 := [vr 101, vi 73, vi x, vi dp]) rfl (by decide +kernel) (Nat.le_of_ble_eq_true rfl) rfl rfl (fun J hJ hR => ?_)
  have h1 := ha.1
  have h2 := ha.2.2.1
  have h3 := ha.2.2.2.1
  refine mj_iload_n hJ dX0_answerOf_0 rfl ?_
  refine mj_tabIn (off := 453) (tgt := 454) hJ dX0_answerOf_1 (by decide) (by decide) rfl (by decide) ?_
  have hkb := ha.2.1
  refine mj_aload_n hJ dX0_answerOf_454 rfl ?_
  refine mj_aload_n hJ dX0_answerOf_455 rfl ?_
  refine mk_getI (j' := 2) hJ dX0_answerOf_456 fw_X0_19 rfl (by decide) rfl rfl ?_
  rw [ha.1.1]
  refine mj_iconst hJ dX0_answerOf_459 (by decide) ?_
  refine mj_iload_n hJ dX0_answerOf_460 rfl ?_
  refine mj_iload_n hJ dX0_answerOf_461 rfl ?_
  refine mk_Vi4 hJ dX0_answerOf_462 cw_X0_32 rfl rfl rfl rfl (Nat.le_of_ble_eq_true rfl) (by first | decide | omega) (c_perf hTb k 1 (x) dp (bod k 1) ha (by omega) (by omega) (by decide) (by decide) dp0 (by omega) (oA1 k a n x) rfl (c_ans_A1 (b := true) hTb (x) (dp + 1) ha (by omega) (by omega) 9 (by decide)).2 10 9 (by decide) (fun I9 h9 => (c_ans_A1 hTb (x) (dp + 1) h9 (by omega) (by omega) 9 (by decide)).1)) (fun z I2 b2 hq9 => ?_)
  obtain ⟨rfl, rfl, t2⟩ := hq9
  have ha2 := ha.step t2
  refine mj_aload_n hJ dX0_answerOf_465 rfl ?_
  refine mj_aload_n hJ dX0_answerOf_466 rfl ?_
  refine mk_getI (j' := 2) hJ dX0_answerOf_467 fw_X0_19 rfl (by decide) rfl rfl ?_
  rw [ha2.1.1]
  refine mj_iconst hJ dX0_answerOf_470 (by decide) ?_
  refine mj_aload_n hJ dX0_answerOf_471 rfl ?_
  refine mk_getI (j' := 3) hJ dX0_answerOf_472 fw_X0_22 rfl (by decide) rfl rfl ?_
  rw [ha2.1.2.2]
  refine mj_iload_n hJ dX0_answerOf_475 rfl ?_
  refine mk_Vi4 hJ dX0_answerOf_476 cw_X0_32 rfl rfl rfl rfl (Nat.le_of_ble_eq_true rfl) (by first | decide | omega) (c_perf hTb k 2 n dp (bod k 2) ha2 (by omega) (by omega) (by decide) (by decide) dp0 (by omega) (oA2 k a n n) rfl (c_ans_A2 (b := true) hTb n (dp + 1) ha2 (by omega) (by omega) 3 (by decide)).2 10 9 (by decide) (fun I9 h9 => (c_ans_A2 hTb n (dp + 1) h9 (by omega) (by omega) 9 (by decide)).1)) (fun z I3 b3 hq9 => ?_)
  obtain ⟨rfl, rfl, t3⟩ := hq9
  refine mj_iadd hJ dX0_answerOf_479 ?_
  exact hR _ _ _ _ _ dX0_answerOf_480 nar_i ⟨rfl, rfl, t2.comp t3⟩
theorem c_ans_41 (hTb : TBs G) {k a n : Int} (x dp : Int) (ha : HC I k a n) (dp0 : 0 ≤ dp) (dp1 : dp ≤ 28) (d : Nat) (hd : 13 ≤ d) : MtI G yX0_answerOf cX0_answerOf 4 (some .int) d [vr 101, vi 41, vi x, vi dp] I b (PC I b (tlr (o41 k a n x))) := by
  refine mt_enterI (own := RX0) (ls0 := [vr 101, vi 41, vi x, vi dp]) rfl (by decide +kernel) (Nat.le_of_ble_eq_true rfl) rfl rfl (fun J hJ hR => ?_)
  have h1 := ha.1
  have h2 := ha.2.2.1
  have h3 := ha.2.2.2.1
  refine mj_iload_n hJ dX0_answerOf_0 rfl ?_
  refine mj_tabIn (off := 360) (tgt := 361) hJ dX0_answerOf_1 (by decide) (by decide) rfl (by decide) ?_
  have hkb := ha.2.1
  refine mj_aload_n hJ dX0_answerOf_361 rfl ?_
  refine mj_iconst hJ dX0_answerOf_362 (by decide) ?_
  refine mj_iconst hJ dX0_answerOf_363 (by decide) ?_
  refine mj_iload_n hJ dX0_answerOf_364 rfl ?_
  refine mj_iload_n hJ dX0_answerOf_365 rfl ?_
  refine mk_Vi4 hJ dX0_answerOf_366 cw_X0_32 rfl rfl rfl rfl (Nat.le_of_ble_eq_true rfl) (by first | decide | omega) (c_perf hTb 2 3 (x) dp 13 ha (by omega) (by omega) (by decide) (by decide) dp0 (by omega) (o13 k a n x) rfl rfl 12 11 (by decide) (fun I1 h1 => c_ans_13 hTb x (dp + 1) h1 (by omega) (by omega) 11 (by decide))) (fun z I2 b2 hq9 => ?_)
  obtain ⟨rfl, rfl, t2⟩ := hq9
  have ha2 := ha.step t2
  refine mj_aload_n hJ dX0_answerOf_369 rfl ?_
  refine mj_aload_n hJ dX0_answerOf_370 rfl ?_
  refine mk_getI (j' := 2) hJ dX0_answerOf_371 fw_X0_19 rfl (by decide) rfl rfl ?_
  rw [ha2.1.1]
  refine mj_iconst hJ dX0_answerOf_374 (by decide) ?_
  refine mj_aload_n hJ dX0_answerOf_375 rfl ?_
  refine mk_getI (j' := 3) hJ dX0_answerOf_376 fw_X0_22 rfl (by decide) rfl rfl ?_
  rw [ha2.1.2.2]
  refine mj_iconst hJ dX0_answerOf_379 (by decide) ?_
  first | refine ms_iadd hJ dX0_answerOf_380 (by omega) ?_ | refine mj_iadd hJ dX0_answerOf_380 ?_
  refine mj_iload_n hJ dX0_answerOf_381 rfl ?_
  refine mk_Vi4 hJ dX0_answerOf_382 cw_X0_32 rfl rfl rfl rfl (Nat.le_of_ble_eq_true rfl) (by first | decide | omega) (c_perf hTb k 2 (n + 1) dp (bod k 2) ha2 (by omega) (by omega) (by decide) (by decide) dp0 (by omega) (oA2 k a n (n + 1)) rfl (c_ans_A2 (b := true) hTb (n + 1) (dp + 1) ha2 (by omega) (by omega) 3 (by decide)).2 10 9 (by decide) (fun I9 h9 => (c_ans_A2 hTb (n + 1) (dp + 1) h9 (by omega) (by omega) 9 (by decide)).1)) (fun z I3 b3 hq9 => ?_)
  obtain ⟨rfl, rfl, t3⟩ := hq9
  refine mj_iadd hJ dX0_answerOf_385 ?_
  exact hR _ _ _ _ _ dX0_answerOf_386 nar_i ⟨rfl, rfl, t2.comp t3⟩
theorem c_ans_A3 (hTb : TBs G) {k a n : Int} (x dp : Int) (ha : HC I k a n) (dp0 : 0 ≤ dp) (dp1 : dp ≤ 28) (d : Nat) (hd : 13 ≤ d) : MtI G yX0_answerOf cX0_answerOf 4 (some .int) d [vr 101, vi (bod k 3), vi x, vi dp] I b (PC I b (tlr (oA3 k a n x))) ∧ (oA3 k a n x).2.1 = bod k 3 :: (oA3 k a n x).2.1.tail := by
  have hk : k = 0 ∨ k = 1 ∨ k = 2 ∨ k = 3 ∨ k = 4 ∨ k = 5 ∨ k = 6 := by have := ha.2.1; omega
  rcases hk with rfl | rfl | rfl | rfl | rfl | rfl | rfl
  · exact ⟨c_ans_13 hTb x dp ha dp0 (by omega) d (by omega), rfl⟩
  · exact ⟨c_ans_13 hTb x dp ha dp0 (by omega) d (by omega), rfl⟩
  · exact ⟨c_ans_13 hTb x dp ha dp0 (by omega) d (by omega), rfl⟩
  · exact ⟨c_ans_41 hTb x dp ha dp0 (by omega) d (by omega), rfl⟩
  · exact ⟨c_ans_13 hTb x dp ha dp0 (by omega) d (by omega), rfl⟩
  · exact ⟨c_ans_41 hTb x dp ha dp0 (by omega) d (by omega), rfl⟩
  · exact ⟨c_ans_73 hTb x dp ha dp0 (by omega) d (by omega), rfl⟩
theorem c_perfA (hTb : TBs G) {k a n : Int} (j x : Int) (ha : HC I k a n) (j0 : 0 ≤ j) (j1 : j ≤ 3) : MtI G yX0_perform cX0_perform 6 (some .int) 14 [vr 101, vi k, vi j, vi x, vi 0] I b (PC I b (oA k a n j x)) := by
  have hk := ha.2.1
  have hj : j = 0 ∨ j = 1 ∨ j = 2 ∨ j = 3 := by omega
  rcases hj with rfl | rfl | rfl | rfl
  · exact c_perf hTb k 0 x 0 _ ha hk.1 hk.2 (by decide) (by decide) (by decide) (by decide) (oA0 k a x) rfl (c_ans_A0 (b := true) hTb x (0 + 1) ha (by decide) (by decide) 13 (by decide)).2 14 13 (by decide) (fun I1 h1 => (c_ans_A0 hTb x (0 + 1) h1 (by decide) (by decide) 13 (by decide)).1)
  · exact c_perf hTb k 1 x 0 _ ha hk.1 hk.2 (by decide) (by decide) (by decide) (by decide) (oA1 k a n x) rfl (c_ans_A1 (b := true) hTb x (0 + 1) ha (by decide) (by decide) 13 (by decide)).2 14 13 (by decide) (fun I1 h1 => (c_ans_A1 hTb x (0 + 1) h1 (by decide) (by decide) 13 (by decide)).1)
  · exact c_perf hTb k 2 x 0 _ ha hk.1 hk.2 (by decide) (by decide) (by decide) (by decide) (oA2 k a n x) rfl (c_ans_A2 (b := true) hTb x (0 + 1) ha (by decide) (by decide) 13 (by decide)).2 14 13 (by decide) (fun I1 h1 => (c_ans_A2 hTb x (0 + 1) h1 (by decide) (by decide) 13 (by decide)).1)
  · exact c_perf hTb k 3 x 0 _ ha hk.1 hk.2 (by decide) (by decide) (by decide) (by decide) (oA3 k a n x) rfl (c_ans_A3 (b := true) hTb x (0 + 1) ha (by decide) (by decide) 13 (by decide)).2 14 13 (by decide) (fun I1 h1 => (c_ans_A3 hTb x (0 + 1) h1 (by decide) (by decide) 13 (by decide)).1)
theorem c_play (hTb : TBs G) (k n a j x : Int) (hk : 0 ≤ k ∧ k ≤ 6) (hn : 0 ≤ n ∧ n ≤ 6) (ha : -40000 ≤ a ∧ a ≤ 40000) (j0 : 0 ≤ j) (j1 : j ≤ 3) (h30 : 0 ≤ I 101 1 ∧ I 101 1 ≤ 30) : MtI G yX0_play cX0_play 7 (some .int) 15 [vr 101, vi k, vi n, vi a, vi j, vi x] I b (fun z I' b' => z = (if (oA k a n j x).2.2 = true then -15 else (oA k a n j x).1) ∧ b' = b ∧ (∀ c, c ≠ 101 → c ≠ 102 → I' c = I c) ∧ (I' 102, I' 101 1) = ap (I 102, I 101 1) (oA k a n j x).2.1) := by
  refine mt_enterI (own := RX0) (ls0 := [vr 101, vi k, vi n, vi a, vi j, vi x, vu]) rfl (by decide +kernel) (Nat.le_of_ble_eq_true rfl) rfl rfl (fun J hJ hR => ?_)
  refine mj_aload_n hJ dX0_play_0 rfl ?_
  refine mj_iload_n hJ dX0_play_1 rfl ?_
  refine mk_putI (j' := 2) hJ dX0_play_2 fw_X0_19 rfl (by decide) rfl rfl ?_
  refine mj_aload_n hJ dX0_play_5 rfl ?_
  refine mj_iload_n hJ dX0_play_6 rfl ?_
  refine mk_putI (j' := 3) hJ dX0_play_7 fw_X0_22 rfl (by decide) rfl rfl ?_
  refine mj_aload_n hJ dX0_play_10 rfl ?_
  refine mj_iload_n hJ dX0_play_11 rfl ?_
  refine mk_putI (j' := 4) hJ dX0_play_12 fw_X0_25 rfl (by decide) rfl rfl ?_
  refine mj_aload_n hJ dX0_play_15 rfl ?_
  refine mj_iconst hJ dX0_play_16 (by decide) ?_
  refine mk_putZ (j' := 5) hJ dX0_play_17 fw_X0_28 rfl (by decide) rfl (by first | exact Or.inl rfl | exact Or.inr rfl | assumption | omega) rfl ?_
  refine mj_aload_n hJ dX0_play_20 rfl ?_
  refine mj_iload_n hJ dX0_play_21 rfl ?_
  refine mj_iload hJ dX0_play_22 rfl ?_
  refine mj_iload hJ dX0_play_24 rfl ?_
  refine mj_iconst hJ dX0_play_26 (by decide) ?_
  obtain ⟨I1, hI1⟩ : ∃ y, upI (upI (upI (upI I 101 2 k) 101 3 n) 101 4 a) 101 5 0 = y := ⟨_, rfl⟩
  rw [hI1]
  have n1 : ∀ c, c ≠ 101 → I1 c = I c := fun c hc => by rw [← hI1, upI_ne hc, upI_ne hc, upI_ne hc, upI_ne hc]
  have a1 : I1 101 1 = I 101 1 := by rw [← hI1, upI_at, if_neg (by decide), upI_at, if_neg (by decide), upI_at, if_neg (by decide), upI_at, if_neg (by decide)]
  have a5 : I1 101 5 = 0 := by rw [← hI1, upI_at, if_pos rfl]
  have hc : HC I1 k a n := by
    refine ⟨⟨?_, ?_, ?_⟩, hk, hn, ha, by rw [a1]; exact h30⟩
    · rw [← hI1, upI_at, if_neg (by decide), upI_at, if_neg (by decide), upI_at, if_neg (by decide), upI_at, if_pos rfl]
    · rw [← hI1, upI_at, if_neg (by decide), upI_at, if_pos rfl]
    · rw [← hI1, upI_at, if_neg (by decide), upI_at, if_neg (by decide), upI_at, if_pos rfl]
  refine mk_Vi4 hJ dX0_play_27 cw_X0_32 rfl rfl rfl rfl (Nat.le_of_ble_eq_true rfl) (by first | decide | omega) (c_perfA hTb j x hc j0 j1) (fun z I2 b2 hq9 => ?_)
  obtain ⟨rfl, rfl, t⟩ := hq9
  have ep := t.2.2.2
  rw [a5] at ep
  have et := t.2.2.1
  rw [n1 102 (by decide), a1] at et
  have ef : ∀ c, c ≠ 101 → c ≠ 102 → I2 c = I c := fun c c1 c2 => (t.1 c c1 c2).trans (n1 c c1)
  refine ms_istore (ls' := [_, _, _, _, _, _, _]) hJ dX0_play_30 (by decide) rfl rfl ?_
  refine mj_aload_n hJ dX0_play_32 rfl ?_
  refine mk_getI (j' := 5) hJ dX0_play_33 fw_X0_28 rfl (by decide) rfl rfl ?_
  rw [ep]
  by_cases hp : (oA k a n j x).2.2 = true
  · rw [if_pos hp] at hR ⊢
    refine mj_if_eq (tgt := 44) hJ dX0_play_36 (by decide) (fun hyes => absurd hyes (by decide)) (fun _ => ?_)
    refine mj_bipush hJ dX0_play_39 (by decide) ?_
    refine mj_goto (tgt := 46) hJ dX0_play_41 (by decide) ?_
    exact hR _ _ _ _ _ dX0_play_46 nar_i ⟨rfl, rfl, ef, et⟩
  · rw [if_neg hp] at hR ⊢
    refine mj_if_eq (tgt := 44) hJ dX0_play_36 (by decide) (fun _ => ?_) (fun hno => absurd rfl hno)
    refine mj_iload hJ dX0_play_44 rfl ?_
    exact hR _ _ _ _ _ dX0_play_46 nar_i ⟨rfl, rfl, ef, et⟩
theorem ap_agree : ∀ (L : List Int) (s s' : (Int → Int) × Int), 0 ≤ s.2 → s.2 = s'.2 → (∀ j, 0 ≤ j → j < s.2 → s.1 j = s'.1 j) → (ap s L).2 = (ap s' L).2 ∧ ∀ j, 0 ≤ j → j < (ap s L).2 → (ap s L).1 j = (ap s' L).1 j
  | [], _, _, _, e, h => ⟨e, h⟩
  | w :: L, s, s', h0, e, h => by
    show (ap (if s.2 < 30 then _ else s) L).2 = (ap (if s'.2 < 30 then _ else s') L).2 ∧ ∀ j, 0 ≤ j → j < (ap (if s.2 < 30 then _ else s) L).2 → (ap (if s.2 < 30 then _ else s) L).1 j = (ap (if s'.2 < 30 then _ else s') L).1 j
    rw [← e]
    by_cases c : s.2 < 30
    · rw [if_pos c, if_pos c]
      refine ap_agree L _ _ (by show 0 ≤ s.2 + 1; omega) rfl (fun j j0 j1 => ?_)
      have j1 : j < s.2 + 1 := j1
      show (if j = s.2 then w else s.1 j) = (if j = s.2 then w else s'.1 j)
      by_cases z : j = s.2
      · rw [if_pos z, if_pos z]
      · rw [if_neg z, if_neg z]
        exact h j j0 (by omega)
    · rw [if_neg c, if_neg c]
      exact ap_agree L s s' h0 e h
theorem c_amountOf (f : Int → Int) (hw : WN f) (hl : LN I f) (k v : Int) (k0 : 0 ≤ k) (k1 : k ≤ 6) (v0 : 0 ≤ v) (v1 : v < f 0) : MtI G yX8_amountOf cX8_amountOf 3 (some .int) 6 [vr 0, vi k, vi v] I b (fun z I' b' => z = itsv f k v ∧ b' = b ∧ (∀ c, (c < 44 ∨ 57 < c) → c ≠ 90 → I' c = I c)) := by
  refine mt_enterI (own := RX8) (ls0 := [vr 0, vi k, vi v]) rfl (by decide +kernel) (Nat.le_of_ble_eq_true rfl) rfl rfl (fun J hJ hR => ?_)
  have hn := hw.nv
  have K91 : ∀ (s : Int) (I1 : Ints), (∀ c, (c < 44 ∨ 57 < c) → c ≠ 90 → I1 c = I c) → I1 90 v = shv f s v → itsv f k v = shv f s v → J 91 [vr 0, vi k, vi v] [] (mk I1 b) := by
    intro s I1 hf hs he
    refine mj_aload_n hJ dX8_amountOf_91 rfl ?_
    refine mk_getR hJ dX8_amountOf_92 fw_X8_51 rfl (by decide) rfl rfl ?_
    refine mj_iload_n hJ dX8_amountOf_95 rfl ?_
    refine mk_iald hJ dX8_amountOf_96 rfl (by omega) (by omega) ?_
    rw [hs]
    exact hR _ _ _ _ _ dX8_amountOf_97 nar_i ⟨he.symm, rfl, hf⟩
  have K44 : itsv f k v = bM f v → J 44 [vr 0, vi k, vi v] [] (mk I b) := by
    intro he
    refine mj_aload_n hJ dX8_amountOf_44 rfl ?_
    refine mj_iload_n hJ dX8_amountOf_45 rfl ?_
    refine mk_Vi1 hJ dX8_amountOf_46 cw_X8_168 rfl rfl rfl rfl (Nat.le_of_ble_eq_true rfl) (by first | decide | omega) (c_madeInBest hw hl v v0 v1) (fun z I1 b1 hq9 => ?_)
    obtain ⟨rfl, rfl, hf⟩ := hq9
    exact hR _ _ _ _ _ dX8_amountOf_49 nar_i ⟨he.symm, rfl, fun c c1 _ => hf c c1⟩
  have hk : k = 0 ∨ k = 1 ∨ k = 2 ∨ k = 3 ∨ k = 4 ∨ k = 5 ∨ k = 6 := by omega
  refine mj_iload_n hJ dX8_amountOf_0 rfl ?_
  rcases hk with rfl | rfl | rfl | rfl | rfl | rfl | rfl
  · refine mj_tabIn (off := 43) (tgt := 44) hJ dX8_amountOf_1 (by decide) (by decide) rfl (by decide) ?_
    exact K44 rfl
  · refine mj_tabIn (off := 85) (tgt := 86) hJ dX8_amountOf_1 (by decide) (by decide) rfl (by decide) ?_
    refine mj_aload_n hJ dX8_amountOf_86 rfl ?_
    refine mj_iconst hJ dX8_amountOf_87 (by decide) ?_
    refine mk_Vv1 hJ dX8_amountOf_88 cw_X8_164 rfl rfl rfl rfl (Nat.le_of_ble_eq_true rfl) (by first | decide | omega) (c_fillShares hw hl 0 (by decide) (by decide)) (fun I1 b1 hq9 => ?_)
    obtain ⟨rfl, hf, hB⟩ := hq9
    exact K91 0 I1 hf (hB v v0 v1) rfl
  · refine mj_tabIn (off := 43) (tgt := 44) hJ dX8_amountOf_1 (by decide) (by decide) rfl (by decide) ?_
    exact K44 rfl
  · refine mj_tabIn (off := 61) (tgt := 62) hJ dX8_amountOf_1 (by decide) (by decide) rfl (by decide) ?_
    refine mj_aload_n hJ dX8_amountOf_62 rfl ?_
    refine mj_iconst hJ dX8_amountOf_63 (by decide) ?_
    refine mk_Vv1 hJ dX8_amountOf_64 cw_X8_164 rfl rfl rfl rfl (Nat.le_of_ble_eq_true rfl) (by first | decide | omega) (c_fillShares hw hl 1 (by decide) (by decide)) (fun I1 b1 hq9 => ?_)
    obtain ⟨rfl, hf, hB⟩ := hq9
    refine mj_goto (tgt := 91) hJ dX8_amountOf_67 (by decide) ?_
    exact K91 1 I1 hf (hB v v0 v1) rfl
  · refine mj_tabIn (off := 69) (tgt := 70) hJ dX8_amountOf_1 (by decide) (by decide) rfl (by decide) ?_
    refine mj_aload_n hJ dX8_amountOf_70 rfl ?_
    refine mj_iconst hJ dX8_amountOf_71 (by decide) ?_
    refine mk_Vv1 hJ dX8_amountOf_72 cw_X8_164 rfl rfl rfl rfl (Nat.le_of_ble_eq_true rfl) (by first | decide | omega) (c_fillShares hw hl 2 (by decide) (by decide)) (fun I1 b1 hq9 => ?_)
    obtain ⟨rfl, hf, hB⟩ := hq9
    refine mj_goto (tgt := 91) hJ dX8_amountOf_75 (by decide) ?_
    exact K91 2 I1 hf (hB v v0 v1) rfl
  · refine mj_tabIn (off := 77) (tgt := 78) hJ dX8_amountOf_1 (by decide) (by decide) rfl (by decide) ?_
    refine mj_aload_n hJ dX8_amountOf_78 rfl ?_
    refine mj_iconst hJ dX8_amountOf_79 (by decide) ?_
    refine mk_Vv1 hJ dX8_amountOf_80 cw_X8_164 rfl rfl rfl rfl (Nat.le_of_ble_eq_true rfl) (by first | decide | omega) (c_fillShares hw hl 3 (by decide) (by decide)) (fun I1 b1 hq9 => ?_)
    obtain ⟨rfl, hf, hB⟩ := hq9
    refine mj_goto (tgt := 91) hJ dX8_amountOf_83 (by decide) ?_
    exact K91 3 I1 hf (hB v v0 v1) rfl
  · refine mj_tabIn (off := 49) (tgt := 50) hJ dX8_amountOf_1 (by decide) (by decide) rfl (by decide) ?_
    refine mj_aload_n hJ dX8_amountOf_50 rfl ?_
    refine mk_getR hJ dX8_amountOf_51 fw_X8_12 rfl (by decide) rfl rfl ?_
    refine mk_getR hJ dX8_amountOf_54 fw_X8_109 rfl (by decide) rfl rfl ?_
    refine mj_iload_n hJ dX8_amountOf_57 rfl ?_
    refine mk_aald hJ dX8_amountOf_58 rfl (Or.inl rfl) (by omega) (by omega) (gr_2 (by omega) (by omega)).1 ?_
    refine mj_iconst hJ dX8_amountOf_59 (by decide) ?_
    refine mk_iald hJ dX8_amountOf_60 (gr_2 (b := true) (by omega) (by omega)).2 (by omega) (by omega) ?_
    rw [hl.fact v0 v1 (by decide) (by decide)]
    exact hR _ _ _ _ _ dX8_amountOf_61 nar_i ⟨rfl, rfl, fun _ _ _ => rfl⟩
theorem c_clear : MtV G yX0_clearTrace cX0_clearTrace 1 0 [vr 101] I b (fun I' b' => b' = b ∧ I' = upI I 101 1 0) := by
  refine mt_enterV (own := RX0) (ls0 := [vr 101]) rfl (by decide +kernel) (Nat.le_of_ble_eq_true rfl) rfl (fun J hJ hR => ?_)
  refine mj_aload_n hJ dX0_clearTrace_0 rfl ?_
  refine mj_iconst hJ dX0_clearTrace_1 (by decide) ?_
  refine mk_putI (j' := 1) hJ dX0_clearTrace_2 fw_X0_15 rfl (by decide) rfl rfl ?_
  refine hR _ _ _ _ dX0_clearTrace_5 ⟨rfl, rfl⟩
/-- only acts have changed -/
theorem RX.acs {I N I' N' : Ints} {T : List Ln} (h : RX I N T) (eI : ∀ c, (c < 43 ∨ c = 80 ∨ c = 86 ∨ (91 ≤ c ∧ c ≤ 100) ∨ 103 ≤ c) → I' c = I c) (eN : ∀ c, c ≠ 111 → c ≠ 142 → N' c = N c) (e1 : ∀ j, j ≠ 39 → N' 111 j = N 111 j) (e39 : 0 ≤ N' 111 39 ∧ N' 111 39 ≤ 30) (hr : RActs I' N') : RX I' N' T := by
  obtain ⟨⟨h1, h2, h3⟩, ⟨h4, h5⟩, h6, h7, h8, h9, h10, h11⟩ := h
  have e112 := eN 112 (by decide) (by decide)
  refine ⟨⟨by rw [e112]; exact h1, ?_, by rw [e112]; exact h3⟩, ⟨by rw [e112]; exact LN.same h1 h4 (fun c c1 c2 => eI c (by omega)), h5.same (fun c c1 c2 => eI c (by omega))⟩, h6.same h2 (by rw [eI 0 (by decide)]) (fun c c1 c2 => eI c (by omega)) (e1 31 (by decide)) (eN 135 (by decide) (by decide)), h7.same (fun c c1 c2 => eI c (by omega)) (fun c c1 c2 => eN c (by omega) (by omega)), h8.same (eI 99 (by decide)) (eI 100 (by decide)) (fun c c1 c2 => eN c (by omega) (by omega)), hr, h10.same (by rw [eI 80 (by decide)]) (eI 86 (by decide)) (e1 17 (by decide)) (eN 127 (by decide) (by decide)), h11.same (by rw [eI 0 (by decide)]) (fun c c1 c2 => eI c (by omega)) (e1 2 (by decide)) (eN 113 (by decide) (by decide))⟩
  unfold WS
  rw [e1 31 (by decide), e1 17 (by decide), eN 136 (by decide) (by decide), eN 137 (by decide) (by decide), eN 139 (by decide) (by decide), eN 140 (by decide) (by decide)]
  exact ⟨h2.1, h2.2.1, e39, h2.2.2.2⟩
theorem c_act (hTb : TBs G) (h : RX I N T) (s j x : Int) : MtI G yX8_act cX8_act 6 (some .int) 16 [vr 0, vi s, vi j, vi x] I b (Xg I (F_act N s j x) (G_act N s j x) T) := by
  refine mt_enterI (own := RX8) (ls0 := [vr 0, vi s, vi j, vi x, vu, vu]) rfl (by decide +kernel) (Nat.le_of_ble_eq_true rfl) rfl rfl (fun J hJ hR => ?_)
  have hw := h.1.1
  have hl := h.2.1.1
  have hn := hw.nv
  have hs := h.1.2.1
  have hf := h.2.2.2.2.1
  -- the answer: the class's trace is told as the model's
  have FIN : ∀ (z : Int) (I2 : Ints), z = F_act N s j x → (∀ c, (c < 44 ∨ 57 < c) → c ≠ 90 → c ≠ 101 → c ≠ 102 → I2 c = I c) → (I2 102, I2 101 1) = ap (I 102, 0) (actL N s j x) → Xg I (F_act N s j x) (G_act N s j x) T z I2 true := by
    intro z I2 hz g1 g2
    have ab := ap_bd (actL N s j x) (N 142, 0) (Int.le_refl _) (by show (0 : Int) ≤ 30; decide)
    have ag := ap_agree (actL N s j x) (I 102, 0) (N 142, 0) (Int.le_refl _) rfl (fun j j0 j1 => by have j1 : j < 0 := j1; omega)
    rw [← g2] at ag
    have n39 : G_act N s j x 111 39 = (ap (N 142, 0) (actL N s j x)).2 := by unfold G_act; rw [upI_at, if_pos rfl]
    have n142 : G_act N s j x 142 = (ap (N 142, 0) (actL N s j x)).1 := by unfold G_act; rw [upI_ne (by decide), rowI_at]
    refine ⟨hz, h.acs (fun c hc => g1 c (by omega) (by omega) (by omega) (by omega)) (fun c c1 c2 => by unfold G_act; rw [upI_ne c1, rowI_ne c2]) (fun i hi => by unfold G_act; rw [upI_at, if_neg hi, rowI_ne (by decide)]) (by rw [n39]; exact ab) ?_, fun c hc => g1 c (by omega) (by omega) (by omega) (by omega)⟩
    exact ⟨by rw [n39]; exact ag.1, fun i i0 i1 => by rw [n142]; exact ag.2 i i0 (by rw [ag.1]; rw [n39] at i1; exact i1)⟩
  have no : ¬ actP N s j → Xg I (F_act N s j x) (G_act N s j x) T 0 (upI I 101 1 0) true := fun hno => by
    have eL : actL N s j x = [] := by unfold actL; rw [if_neg hno]
    refine FIN 0 _ (by unfold F_act; rw [if_neg hno]) (fun c _ _ c3 _ => upI_ne c3) ?_
    rw [eL, upI_ne (by decide), upI_at, if_pos rfl]
    rfl
  -- the state once the trace is cleared
  have h1 : RX (upI I 101 1 0) (upI N 111 39 0) T := h.acs (fun c hc => upI_ne (by omega)) (fun c c1 _ => upI_ne c1) (fun i hi => by rw [upI_at, if_neg hi]) (by rw [upI_at, if_pos rfl]; decide) ⟨by rw [upI_at, if_pos rfl, upI_at, if_pos rfl], fun i i0 i1 => by rw [upI_at, if_pos rfl] at i1; omega⟩
  have ehd : ∀ s, hdv (upI N 111 39 0) s = hdv N s := fun s => by
    unfold hdv thgP
    rw [upI_ne (by decide), upI_ne (by decide), upI_ne (by decide), upI_ne (by decide)]
  refine mj_aload_n hJ dX8_act_0 rfl ?_
  refine mk_getR hJ dX8_act_1 fw_X8_79 rfl (by decide) rfl rfl ?_
  refine mk_Vv0 hJ dX8_act_4 cw_X8_287 rfl rfl rfl rfl (Nat.le_of_ble_eq_true rfl) (by first | decide | omega) (c_clear) (fun I1 b1 hq9 => ?_)
  obtain ⟨rfl, e1⟩ := hq9
  subst e1
  have K23 : ∀ kd : Int, ((0 ≤ s ∧ s ≤ 3) → kd = hdv N s) → (¬(0 ≤ s ∧ s ≤ 3) → kd = -1) → J 23 [vr 0, vi s, vi j, vi x, vu, vu] [vi kd] (mk (upI I 101 1 0) b1) := by
    intro kd hk1 hk2
    have hthing : (0 ≤ kd ∧ kd ≤ 6) → (0 ≤ s ∧ s ≤ 3) ∧ thgP N s ∧ kd = N 140 s ∧ I 100 s = N 141 s := by
      intro q
      have hs2 : 0 ≤ s ∧ s ≤ 3 := Classical.byContradiction fun z => by have := hk2 z; omega
      have e := hk1 hs2
      have fs := hf s hs2.1 (by omega)
      unfold hdv at e
      by_cases c : N 139 s = 2
      · rw [if_pos c] at e
        rcases fs with z | z | z
        · omega
        · omega
        · have := z.2.1; omega
      · rw [if_neg c] at e
        by_cases c2 : thgP N s
        · rw [if_pos c2] at e
          rcases fs with z | z | z
          · have := c2.1; omega
          · exact ⟨hs2, c2, e, z.2.2.2⟩
          · omega
        · rw [if_neg c2] at e
          omega
    refine ms_istore (ls' := [_, _, _, _, _, _]) hJ dX8_act_23 (by decide) rfl rfl ?_
    refine mj_iload hJ dX8_act_25 rfl ?_
    refine mj_iconst hJ dX8_act_27 (by decide) ?_
    refine mj_bipush hJ dX8_act_28 (by decide) ?_
    refine mk_Sp3 hJ dX8_act_30 cw_X8_105 rfl (Nat.le_of_ble_eq_true rfl) (by first | decide | omega) (c_within kd 0 6) ?_
    by_cases c1 : 0 ≤ kd ∧ kd ≤ 6
    · rw [if_pos c1]
      obtain ⟨hs2, hth, ek, e100⟩ := hthing c1
      refine mj_if_eq (tgt := 45) hJ dX8_act_33 (by decide) (fun hyes => absurd hyes (by decide)) (fun _ => ?_)
      refine mj_iload_n hJ dX8_act_36 rfl ?_
      refine mj_iconst hJ dX8_act_37 (by decide) ?_
      refine mj_iconst hJ dX8_act_38 (by decide) ?_
      refine mk_Sp3 hJ dX8_act_39 cw_X8_105 rfl (Nat.le_of_ble_eq_true rfl) (by first | decide | omega) (c_within j 0 3) ?_
      by_cases c2 : 0 ≤ j ∧ j ≤ 3
      · rw [if_pos c2]
        have hP : actP N s j := ⟨hs2, c2, hth⟩
        have hb := itsv_bd hw (N 140 s) hth.2.1 hth.2.2
        refine mj_if_ne (tgt := 47) hJ dX8_act_42 (by decide) (fun _ => ?_) (fun hno => absurd hno (by decide))
        refine mj_aload_n hJ dX8_act_47 rfl ?_
        refine mk_getR hJ dX8_act_48 fw_X8_73 rfl (by decide) rfl rfl ?_
        refine mj_iload_n hJ dX8_act_51 rfl ?_
        refine mk_iald hJ dX8_act_52 rfl (by omega) (by omega) ?_
        rw [upI_ne (by decide), e100]
        refine ms_istore (ls' := [_, _, _, _, _, _]) hJ dX8_act_53 (by decide) rfl rfl ?_
        refine mj_aload_n hJ dX8_act_55 rfl ?_
        refine mk_getR hJ dX8_act_56 fw_X8_79 rfl (by decide) rfl rfl ?_
        refine mj_iload hJ dX8_act_59 rfl ?_
        refine mj_iload hJ dX8_act_61 rfl ?_
        refine mj_aload_n hJ dX8_act_63 rfl ?_
        refine mj_iload hJ dX8_act_64 rfl ?_
        refine mj_iload hJ dX8_act_66 rfl ?_
        subst ek
        have hl1 : LN (upI I 101 1 0) (N 112) := LN.same hw hl (fun c c1 c2 => upI_ne (by omega))
        refine mk_Vi2 hJ dX8_act_68 cw_X8_290 rfl rfl rfl rfl (Nat.le_of_ble_eq_true rfl) (by first | decide | omega) (c_amountOf (N 112) hw hl1 (N 140 s) (N 141 s) c1.1 c1.2 hth.2.1 hth.2.2) (fun z I2 b2 hq9 => ?_)
        obtain ⟨rfl, rfl, hf2⟩ := hq9
        refine mj_iload_n hJ dX8_act_71 rfl ?_
        refine mj_iload_n hJ dX8_act_72 rfl ?_
        refine mk_Vi5 hJ dX8_act_73 cw_X8_293 rfl rfl rfl rfl (Nat.le_of_ble_eq_true rfl) (by first | decide | omega) (c_play hTb (N 140 s) (N 141 s) (itsv (N 112) (N 140 s) (N 141 s)) j x c1 (by have := hth.2; omega) (by omega) c2.1 c2.2 (by rw [hf2 101 (by decide) (by decide), upI_at, if_pos rfl]; decide)) (fun z I3 b3 hq9 => ?_)
        obtain ⟨rfl, rfl, hf3, ht3⟩ := hq9
        have eR : oA (N 140 s) (itsv (N 112) (N 140 s) (N 141 s)) (N 141 s) j x = actR N s j x := rfl
        rw [eR] at ht3
        rw [eR]
        rw [hf2 102 (by decide) (by decide), hf2 101 (by decide) (by decide), upI_ne (by decide), upI_at, if_pos rfl] at ht3
        refine hR _ _ _ _ _ dX8_act_76 nar_i (FIN _ I3 ?_ (fun c a1 a2 a3 a4 => by rw [hf3 c a3 a4, hf2 c a1 a2, upI_ne a3]) ?_)
        · unfold F_act
          rw [if_pos hP]
        · rw [ht3]
          unfold actL
          rw [if_pos hP]
      · rw [if_neg c2]
        refine mj_if_ne (tgt := 47) hJ dX8_act_42 (by decide) (fun hyes => absurd (by decide) hyes) (fun _ => ?_)
        refine mj_iconst hJ dX8_act_45 (by decide) ?_
        exact hR _ _ _ _ _ dX8_act_46 nar_i (no (fun q => c2 q.2.1))
    · rw [if_neg c1]
      refine mj_if_eq (tgt := 45) hJ dX8_act_33 (by decide) (fun _ => ?_) (fun hno => absurd rfl hno)
      refine mj_iconst hJ dX8_act_45 (by decide) ?_
      refine hR _ _ _ _ _ dX8_act_46 nar_i (no (fun q => c1 ?_))
      have e := hk1 q.1
      unfold hdv at e
      have h1 := q.2.2
      rw [if_neg (by have := h1.1; omega), if_pos h1] at e
      have := (hs.sh q.1.1 (show s < 4 by have := q.1.2; omega)).2.2 h1.1
      omega
  refine mj_iload_n hJ dX8_act_7 rfl ?_
  refine mk_Sp1 hJ dX8_act_8 cw_X8_275 rfl (Nat.le_of_ble_eq_true rfl) (by first | decide | omega) (c_isShelf s) ?_
  by_cases c : 0 ≤ s ∧ s ≤ 3
  · rw [if_pos c]
    refine mj_if_eq (tgt := 22) hJ dX8_act_11 (by decide) (fun hyes => absurd hyes (by decide)) (fun _ => ?_)
    refine mj_aload_n hJ dX8_act_14 rfl ?_
    refine mj_iload_n hJ dX8_act_15 rfl ?_
    refine mk_Vp1 hJ dX8_act_16 cw_X8_281 rfl rfl rfl rfl (Nat.le_of_ble_eq_true rfl) (by first | decide | omega) (c_heldOn h1 s c.1 (by omega)) ?_
    rw [ehd]
    refine mj_goto (tgt := 23) hJ dX8_act_19 (by decide) ?_
    exact K23 _ (fun _ => rfl) (fun q => absurd c q)
  · rw [if_neg c]
    refine mj_if_eq (tgt := 22) hJ dX8_act_11 (by decide) (fun _ => ?_) (fun hno => absurd rfl hno)
    refine mj_iconst hJ dX8_act_22 (by decide) ?_
    exact K23 (-1) (fun q => absurd q c) (fun _ => rfl)
end C14
