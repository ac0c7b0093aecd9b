section M24
variable {G : GE} {I I0 : Ints} {b : Bool}
theorem palL_bad {g : Int → Int} {n : Int} {po : Int → PR} {r : PR} (c : r.1 = false) : ∀ m : Nat, palL g n po m r = r
  | 0 => rfl
  | _ + 1 => if_neg (fun z => by rw [c] at z; exact Bool.noConfusion z.1)
theorem pcoL_bad {g : Int → Int} {n : Int} {po : Int → PR} {r : PR} (c : r.1 = false) : ∀ m : Nat, pcoL g n po m r = r
  | 0 => rfl
  | _ + 1 => if_neg (fun z => by rw [c] at z; exact Bool.noConfusion z.1)
theorem c_all (lv : Nat) (hlv : lv ≤ 3) (hC : ∀ m, lv = m + 1 → CondOK G m) {p : Int} {C : List Int} (h21 : I0 111 21 = 3 - lv) (h : RD I0 I false p C) : MtV G yX9_all cX9_all 1 (10 + 3 * lv) [vr 111] I b (fun I' b' => b' = b ∧ PtR I0 I' (pall (I0 127) (I0 111 17) (popen (I0 127) (I0 111 17) lv) p) C) := by
  refine mt_enterV (own := RX9) (ls0 := [vr 111]) rfl (by decide +kernel) (Nat.le_of_ble_eq_true rfl) rfl (fun J hJ hR => ?_)
  have hp := h.2.2.1.1
  have hpo := fun q (hq : q ≤ I0 111 17) => popen_far (g := I0 127) lv q hq
  have out : ∀ (r : PR) (I1 : Ints), (∀ C', RD I0 I1 true r.2.1 C') → r.1 = false → pall (I0 127) (I0 111 17) (popen (I0 127) (I0 111 17) lv) p = r → J 4 [vr 111] [] (mk I1 b) := by
    intro r I1 h1 c e
    refine mj_aload_n hJ dX9_all_4 rfl ?_
    refine mj_ldcS (i := 19) hJ dX9_all_5 (by decide) rfl rfl ?_
    refine mk_Vp1 hJ dX9_all_7 cw_X9_212 rfl rfl rfl rfl (Nat.le_of_ble_eq_true rfl) (by first | decide | omega) (c_isW 19 [97, 110, 100] (by decide) rfl (h1 C)) ?_
    rw [if_neg (nof rfl)]
    refine mj_if_eq (tgt := 31) hJ dX9_all_10 (by decide) (fun _ => ?_) (fun hno => absurd rfl hno)
    exact hR _ _ _ _ dX9_all_31 ⟨rfl, by rw [e]; exact ⟨fun q => by rw [c] at q; exact Bool.noConfusion q, fun _ => h1⟩⟩
  have loop : ∀ (m : Nat) (r : PR) (I1 : Ints), r.1 = true → I0 111 17 - r.2.1 ≤ m → Far (I0 111 17) p r → RD I0 I1 false r.2.1 (C ++ codo r.2.2) → pall (I0 127) (I0 111 17) (popen (I0 127) (I0 111 17) lv) p = palL (I0 127) (I0 111 17) (popen (I0 127) (I0 111 17) lv) m r → J 4 [vr 111] [] (mk I1 b) := by
    intro m
    induction m with
    | zero =>
      intro r I1 c hm hf h1 e
      have e : pall (I0 127) (I0 111 17) (popen (I0 127) (I0 111 17) lv) p = r := e
      refine mj_aload_n hJ dX9_all_4 rfl ?_
      refine mj_ldcS (i := 19) hJ dX9_all_5 (by decide) rfl rfl ?_
      refine mk_Vp1 hJ dX9_all_7 cw_X9_212 rfl rfl rfl rfl (Nat.le_of_ble_eq_true rfl) (by first | decide | omega) (c_isW 19 [97, 110, 100] (by decide) rfl h1) ?_
      rw [if_neg (fun z => by have := wdp_lt z.2 (by decide) hf.1.2; omega)]
      refine mj_if_eq (tgt := 31) hJ dX9_all_10 (by decide) (fun _ => ?_) (fun hno => absurd rfl hno)
      exact hR _ _ _ _ dX9_all_31 ⟨rfl, by rw [e]; exact ⟨fun _ => h1, fun q => by rw [show r.1 = true from c] at q; exact Bool.noConfusion q⟩⟩
    | succ m ih =>
      intro r I1 c hm hf h1 e
      have e2 : palL (I0 127) (I0 111 17) (popen (I0 127) (I0 111 17) lv) (m + 1) r = if r.1 = true ∧ wdp (I0 127) (I0 111 17) r.2.1 [97, 110, 100] then palL (I0 127) (I0 111 17) (popen (I0 127) (I0 111 17) lv) m ((pone (I0 127) (I0 111 17) (popen (I0 127) (I0 111 17) lv) (nxp (I0 127) (I0 111 17) r.2.1)).1, (pone (I0 127) (I0 111 17) (popen (I0 127) (I0 111 17) lv) (nxp (I0 127) (I0 111 17) r.2.1)).2.1, r.2.2 ++ ((pone (I0 127) (I0 111 17) (popen (I0 127) (I0 111 17) lv) (nxp (I0 127) (I0 111 17) r.2.1)).2.2 ++ [(0, -2, 0)])) else r := rfl
      rw [e2] at e
      refine mj_aload_n hJ dX9_all_4 rfl ?_
      refine mj_ldcS (i := 19) hJ dX9_all_5 (by decide) rfl rfl ?_
      refine mk_Vp1 hJ dX9_all_7 cw_X9_212 rfl rfl rfl rfl (Nat.le_of_ble_eq_true rfl) (by first | decide | omega) (c_isW 19 [97, 110, 100] (by decide) rfl h1) ?_
      by_cases w : wdp (I0 127) (I0 111 17) r.2.1 [97, 110, 100]
      · rw [if_pos ⟨rfl, w⟩]
        rw [if_pos ⟨c, w⟩] at e
        have nb := nxp_bd (g := I0 127) hf.1.2
        have lt := nb.2.2 (wdp_lt w (by decide) hf.1.2)
        have hf2 := pone_far (g := I0 127) hpo nb.2.1
        refine mj_if_eq (tgt := 31) hJ dX9_all_10 (by decide) (fun hyes => absurd hyes (by decide)) (fun _ => ?_)
        refine mj_aload_n hJ dX9_all_13 rfl ?_
        refine mk_Vv0 hJ dX9_all_14 cw_X9_191 rfl rfl rfl rfl (Nat.le_of_ble_eq_true rfl) (by first | decide | omega) (c_nextR h1) (fun I2 b2 hq9 => ?_)
        obtain ⟨rfl, h2⟩ := hq9
        refine mj_aload_n hJ dX9_all_17 rfl ?_
        refine mk_Vv0 hJ dX9_all_18 cw_X9_245 rfl rfl rfl rfl (Nat.le_of_ble_eq_true rfl) (by first | decide | omega) (c_one lv hlv hC h21 h2) (fun I3 b3 hq9 => ?_)
        obtain ⟨rfl, h3⟩ := hq9
        generalize pone (I0 127) (I0 111 17) (popen (I0 127) (I0 111 17) lv) (nxp (I0 127) (I0 111 17) r.2.1) = r2 at h3 hf2 e
        refine mj_aload_n hJ dX9_all_21 rfl ?_
        refine mj_sipush hJ dX9_all_22 (by decide) ?_
        cases c2 : r2.1 with
        | true =>
          have h3 := h3.1 c2
          have l2 := hf2.2 c2
          have l1 := (h1.2.2.2 rfl).2.2
          refine mk_Vv1 hJ dX9_all_25 cw_X9_218 rfl rfl rfl rfl (Nat.le_of_ble_eq_true rfl) (by first | decide | omega) (c_putR 2007 h3 (fun _ => by rw [List.length_append]; omega)) (fun I4 b4 hq9 => ?_)
          obtain ⟨rfl, h4, -⟩ := hq9
          have h4 := h4 rfl
          refine mj_goto (tgt := 4) hJ dX9_all_28 (by decide) ?_
          refine ih (r2.1, r2.2.1, r.2.2 ++ (r2.2.2 ++ [(0, -2, 0)])) I4 c2 (by show I0 111 17 - r2.2.1 ≤ m; have := hf2.1; omega) (far_step (by decide) hf c lt hf2) ?_ e
          show RD I0 I4 false r2.2.1 (C ++ codo (r.2.2 ++ (r2.2.2 ++ [(0, -2, 0)])))
          rw [codo_append, codo_append, ← List.append_assoc, ← List.append_assoc]
          exact h4
        | false =>
          have h3 := h3.2 c2
          refine mk_Vv1 hJ dX9_all_25 cw_X9_218 rfl rfl rfl rfl (Nat.le_of_ble_eq_true rfl) (by first | decide | omega) (c_putR 2007 (h3 C) (fun q => Bool.noConfusion q)) (fun I4 b4 hq9 => ?_)
          obtain ⟨rfl, -, h4⟩ := hq9
          have h4 := h4 rfl
          refine mj_goto (tgt := 4) hJ dX9_all_28 (by decide) ?_
          exact out (r2.1, r2.2.1, r.2.2 ++ (r2.2.2 ++ [(0, -2, 0)])) I4 h4 c2 (e.trans (palL_bad (r := (r2.1, r2.2.1, r.2.2 ++ (r2.2.2 ++ [(0, -2, 0)]))) c2 m))
      · rw [if_neg (fun z => w z.2)]
        rw [if_neg (fun z => w z.2)] at e
        refine mj_if_eq (tgt := 31) hJ dX9_all_10 (by decide) (fun _ => ?_) (fun hno => absurd rfl hno)
        exact hR _ _ _ _ dX9_all_31 ⟨rfl, by rw [e]; exact ⟨fun _ => h1, fun q => by rw [show r.1 = true from c] at q; exact Bool.noConfusion q⟩⟩
  refine mj_aload_n hJ dX9_all_0 rfl ?_
  refine mk_Vv0 hJ dX9_all_1 cw_X9_245 rfl rfl rfl rfl (Nat.le_of_ble_eq_true rfl) (by first | decide | omega) (c_one lv hlv hC h21 h) (fun I1 b1 hq9 => ?_)
  obtain ⟨rfl, h1⟩ := hq9
  have hf := pone_far (g := I0 127) hpo hp.2
  have e : pall (I0 127) (I0 111 17) (popen (I0 127) (I0 111 17) lv) p = palL (I0 127) (I0 111 17) (popen (I0 127) (I0 111 17) lv) (I0 111 17 - p).toNat (pone (I0 127) (I0 111 17) (popen (I0 127) (I0 111 17) lv) p) := rfl
  generalize pone (I0 127) (I0 111 17) (popen (I0 127) (I0 111 17) lv) p = r at h1 hf e
  cases c : r.1 with
  | true => exact loop _ r I1 c (by have := hf.1; omega) hf (h1.1 c) e
  | false =>
    exact out r I1 (h1.2 c) c (e.trans (palL_bad c _))
theorem c_cond (lv : Nat) (hlv : lv ≤ 3) (hC : ∀ m, lv = m + 1 → CondOK G m) : CondOK G lv := by
  intro I0 I b p C g0 n0 eg en h21 h
  subst eg en
  refine mt_enterV (own := RX9) (ls0 := [vr 111]) rfl (by decide +kernel) (Nat.le_of_ble_eq_true rfl) rfl (fun J hJ hR => ?_)
  have hp := h.2.2.1.1
  have hpo := fun q (hq : q ≤ I0 111 17) => popen_far (g := I0 127) lv q hq
  have out : ∀ (r : PR) (I1 : Ints), (∀ C', RD I0 I1 true r.2.1 C') → r.1 = false → pcon (I0 127) (I0 111 17) (popen (I0 127) (I0 111 17) lv) p = r → J 4 [vr 111] [] (mk I1 b) := by
    intro r I1 h1 c e
    refine mj_aload_n hJ dX9_cond_4 rfl ?_
    refine mj_ldcS (i := 20) hJ dX9_cond_5 (by decide) rfl rfl ?_
    refine mk_Vp1 hJ dX9_cond_7 cw_X9_212 rfl rfl rfl rfl (Nat.le_of_ble_eq_true rfl) (by first | decide | omega) (c_isW 20 [111, 114] (by decide) rfl (h1 C)) ?_
    rw [if_neg (nof rfl)]
    refine mj_if_eq (tgt := 31) hJ dX9_cond_10 (by decide) (fun _ => ?_) (fun hno => absurd rfl hno)
    exact hR _ _ _ _ dX9_cond_31 ⟨rfl, by rw [e]; exact ⟨fun q => by rw [c] at q; exact Bool.noConfusion q, fun _ => h1⟩⟩
  have loop : ∀ (m : Nat) (r : PR) (I1 : Ints), r.1 = true → I0 111 17 - r.2.1 ≤ m → Far (I0 111 17) p r → RD I0 I1 false r.2.1 (C ++ codo r.2.2) → pcon (I0 127) (I0 111 17) (popen (I0 127) (I0 111 17) lv) p = pcoL (I0 127) (I0 111 17) (popen (I0 127) (I0 111 17) lv) m r → J 4 [vr 111] [] (mk I1 b) := by
    intro m
    induction m with
    | zero =>
      intro r I1 c hm hf h1 e
      have e : pcon (I0 127) (I0 111 17) (popen (I0 127) (I0 111 17) lv) p = r := e
      refine mj_aload_n hJ dX9_cond_4 rfl ?_
      refine mj_ldcS (i := 20) hJ dX9_cond_5 (by decide) rfl rfl ?_
      refine mk_Vp1 hJ dX9_cond_7 cw_X9_212 rfl rfl rfl rfl (Nat.le_of_ble_eq_true rfl) (by first | decide | omega) (c_isW 20 [111, 114] (by decide) rfl h1) ?_
      rw [if_neg (fun z => by have := wdp_lt z.2 (by decide) hf.1.2; omega)]
      refine mj_if_eq (tgt := 31) hJ dX9_cond_10 (by decide) (fun _ => ?_) (fun hno => absurd rfl hno)
      exact hR _ _ _ _ dX9_cond_31 ⟨rfl, by rw [e]; exact ⟨fun _ => h1, fun q => by rw [show r.1 = true from c] at q; exact Bool.noConfusion q⟩⟩
    | succ m ih =>
      intro r I1 c hm hf h1 e
      have e2 : pcoL (I0 127) (I0 111 17) (popen (I0 127) (I0 111 17) lv) (m + 1) r = if r.1 = true ∧ wdp (I0 127) (I0 111 17) r.2.1 [111, 114] then pcoL (I0 127) (I0 111 17) (popen (I0 127) (I0 111 17) lv) m ((pall (I0 127) (I0 111 17) (popen (I0 127) (I0 111 17) lv) (nxp (I0 127) (I0 111 17) r.2.1)).1, (pall (I0 127) (I0 111 17) (popen (I0 127) (I0 111 17) lv) (nxp (I0 127) (I0 111 17) r.2.1)).2.1, r.2.2 ++ ((pall (I0 127) (I0 111 17) (popen (I0 127) (I0 111 17) lv) (nxp (I0 127) (I0 111 17) r.2.1)).2.2 ++ [(0, -3, 0)])) else r := rfl
      rw [e2] at e
      refine mj_aload_n hJ dX9_cond_4 rfl ?_
      refine mj_ldcS (i := 20) hJ dX9_cond_5 (by decide) rfl rfl ?_
      refine mk_Vp1 hJ dX9_cond_7 cw_X9_212 rfl rfl rfl rfl (Nat.le_of_ble_eq_true rfl) (by first | decide | omega) (c_isW 20 [111, 114] (by decide) rfl h1) ?_
      by_cases w : wdp (I0 127) (I0 111 17) r.2.1 [111, 114]
      · rw [if_pos ⟨rfl, w⟩]
        rw [if_pos ⟨c, w⟩] at e
        have nb := nxp_bd (g := I0 127) hf.1.2
        have lt := nb.2.2 (wdp_lt w (by decide) hf.1.2)
        have hf2 := pall_far (g := I0 127) hpo nb.2.1
        refine mj_if_eq (tgt := 31) hJ dX9_cond_10 (by decide) (fun hyes => absurd hyes (by decide)) (fun _ => ?_)
        refine mj_aload_n hJ dX9_cond_13 rfl ?_
        refine mk_Vv0 hJ dX9_cond_14 cw_X9_191 rfl rfl rfl rfl (Nat.le_of_ble_eq_true rfl) (by first | decide | omega) (c_nextR h1) (fun I2 b2 hq9 => ?_)
        obtain ⟨rfl, h2⟩ := hq9
        refine mj_aload_n hJ dX9_cond_17 rfl ?_
        refine mk_Vv0 hJ dX9_cond_18 cw_X9_250 rfl rfl rfl rfl (Nat.le_of_ble_eq_true rfl) (by first | decide | omega) (c_all lv hlv hC h21 h2) (fun I3 b3 hq9 => ?_)
        obtain ⟨rfl, h3⟩ := hq9
        generalize pall (I0 127) (I0 111 17) (popen (I0 127) (I0 111 17) lv) (nxp (I0 127) (I0 111 17) r.2.1) = r2 at h3 hf2 e
        refine mj_aload_n hJ dX9_cond_21 rfl ?_
        refine mj_sipush hJ dX9_cond_22 (by decide) ?_
        cases c2 : r2.1 with
        | true =>
          have h3 := h3.1 c2
          have l2 := hf2.2 c2
          have l1 := (h1.2.2.2 rfl).2.2
          refine mk_Vv1 hJ dX9_cond_25 cw_X9_218 rfl rfl rfl rfl (Nat.le_of_ble_eq_true rfl) (by first | decide | omega) (c_putR 2008 h3 (fun _ => by rw [List.length_append]; omega)) (fun I4 b4 hq9 => ?_)
          obtain ⟨rfl, h4, -⟩ := hq9
          have h4 := h4 rfl
          refine mj_goto (tgt := 4) hJ dX9_cond_28 (by decide) ?_
          refine ih (r2.1, r2.2.1, r.2.2 ++ (r2.2.2 ++ [(0, -3, 0)])) I4 c2 (by show I0 111 17 - r2.2.1 ≤ m; have := hf2.1; omega) (far_step (by decide) hf c lt hf2) ?_ e
          show RD I0 I4 false r2.2.1 (C ++ codo (r.2.2 ++ (r2.2.2 ++ [(0, -3, 0)])))
          rw [codo_append, codo_append, ← List.append_assoc, ← List.append_assoc]
          exact h4
        | false =>
          have h3 := h3.2 c2
          refine mk_Vv1 hJ dX9_cond_25 cw_X9_218 rfl rfl rfl rfl (Nat.le_of_ble_eq_true rfl) (by first | decide | omega) (c_putR 2008 (h3 C) (fun q => Bool.noConfusion q)) (fun I4 b4 hq9 => ?_)
          obtain ⟨rfl, -, h4⟩ := hq9
          have h4 := h4 rfl
          refine mj_goto (tgt := 4) hJ dX9_cond_28 (by decide) ?_
          exact out (r2.1, r2.2.1, r.2.2 ++ (r2.2.2 ++ [(0, -3, 0)])) I4 h4 c2 (e.trans (pcoL_bad (r := (r2.1, r2.2.1, r.2.2 ++ (r2.2.2 ++ [(0, -3, 0)]))) c2 m))
      · rw [if_neg (fun z => w z.2)]
        rw [if_neg (fun z => w z.2)] at e
        refine mj_if_eq (tgt := 31) hJ dX9_cond_10 (by decide) (fun _ => ?_) (fun hno => absurd rfl hno)
        exact hR _ _ _ _ dX9_cond_31 ⟨rfl, by rw [e]; exact ⟨fun _ => h1, fun q => by rw [show r.1 = true from c] at q; exact Bool.noConfusion q⟩⟩
  refine mj_aload_n hJ dX9_cond_0 rfl ?_
  refine mk_Vv0 hJ dX9_cond_1 cw_X9_250 rfl rfl rfl rfl (Nat.le_of_ble_eq_true rfl) (by first | decide | omega) (c_all lv hlv hC h21 h) (fun I1 b1 hq9 => ?_)
  obtain ⟨rfl, h1⟩ := hq9
  have hf := pall_far (g := I0 127) hpo hp.2
  have e : pcon (I0 127) (I0 111 17) (popen (I0 127) (I0 111 17) lv) p = pcoL (I0 127) (I0 111 17) (popen (I0 127) (I0 111 17) lv) (I0 111 17 - p).toNat (pall (I0 127) (I0 111 17) (popen (I0 127) (I0 111 17) lv) p) := rfl
  generalize pall (I0 127) (I0 111 17) (popen (I0 127) (I0 111 17) lv) p = r at h1 hf e
  cases c : r.1 with
  | true => exact loop _ r I1 c (by have := hf.1; omega) hf (h1.1 c) e
  | false =>
    exact out r I1 (h1.2 c) c (e.trans (pcoL_bad c _))
theorem condOK : ∀ lv : Nat, lv ≤ 3 → CondOK G lv
  | 0, h => c_cond 0 h (fun m e => by omega)
  | lv + 1, h => c_cond (lv + 1) h (fun m e => by
    have e2 : m = lv := by omega
    subst e2
    exact condOK m (by omega))
theorem RD.up129 {ft : Bool} {p : Int} {C : List Int} (j x : Int) (h : RD I0 I ft p C) : RD (upI I0 129 j x) (upI I 129 j x) ft p C := by
  have e127 : upI I0 129 j x 127 = I0 127 := upI_ne (by decide)
  have e111 : upI I0 129 j x 111 = I0 111 := upI_ne (by decide)
  have f111 : upI I 129 j x 111 = I 111 := upI_ne (by decide)
  have f128 : upI I 129 j x 128 = I 128 := upI_ne (by decide)
  unfold RD
  rw [e127, e111, f111, f128]
  refine ⟨⟨fun c c1 c2 => ?_, h.1.2⟩, h.2⟩
  by_cases e : c = 129
  · subst e
    funext i
    rw [upI_at, upI_at, h.1.1 129 (by decide) (by decide)]
  · rw [upI_ne e, upI_ne e]
    exact h.1.1 c c1 c2
/-- line k is written into the fresh lines -/
def fl4 (I : Ints) (k v m a e : Int) : Ints := upI (upI (upI (upI I 129 (4 * k) v) 129 (4 * k + 1) m) 129 (4 * k + 2) a) 129 (4 * k + 3) e
theorem RD.fl4 {ft : Bool} {p : Int} {C : List Int} (k v m a e : Int) (h : RD I0 I ft p C) : RD (fl4 I0 k v m a e) (fl4 I k v m a e) ft p C := (((h.up129 _ _).up129 _ _).up129 _ _).up129 _ _
abbrev LnR (I0 I' : Ints) (k : Int) (R : Bool × Int × Ln) (C : List Int) : Prop := (R.1 = true → RD (fl4 I0 k R.2.2.1 R.2.2.2.1 C.length (C.length + (codo R.2.2.2.2).length)) I' false R.2.1 (C ++ codo R.2.2.2.2)) ∧ (R.1 = false → ∀ C', RD I0 I' true R.2.1 C')
theorem c_line (k p : Int) {C : List Int} (k0 : 0 ≤ k) (k1 : k ≤ 8) (h21 : I0 111 21 = 0) (h : RD I0 I false p C) : MtV G yX9_line cX9_line 5 21 [vr 111, vi k] I b (fun I' b' => b' = b ∧ LnR I0 I' k (pln (I0 127) (I0 111 17) k p) C) := by
  refine mt_enterV (own := RX9) (ls0 := [vr 111, vi k, vu, vu, vu]) rfl (by decide +kernel) (Nat.le_of_ble_eq_true rfl) rfl (fun J hJ hR => ?_)
  have hp := h.2.2.1.1
  have b1 := nxp_bd (g := I0 127) hp.2
  have b2 := nxp_bd (g := I0 127) b1.2.1
  have b3 := nxp_bd (g := I0 127) b2.2.1
  obtain ⟨p1, e1⟩ : ∃ x, nxp (I0 127) (I0 111 17) p = x := ⟨_, rfl⟩
  obtain ⟨p2, e2⟩ : ∃ x, nxp (I0 127) (I0 111 17) p1 = x := ⟨_, rfl⟩
  obtain ⟨p3, e3⟩ : ∃ x, nxp (I0 127) (I0 111 17) p2 = x := ⟨_, rfl⟩
  have hpl : pln (I0 127) (I0 111 17) k p = if wdp (I0 127) (I0 111 17) p [108, 101, 116] ∧ k < 8 then
    if isn (I0 127) (I0 111 17) p1 ∧ nv (I0 127) (I0 111 17) p1 ≤ 5 then
      if isn (I0 127) (I0 111 17) p2 ∧ nv (I0 127) (I0 111 17) p2 ≤ 99 then
        if (pif (I0 127) (I0 111 17) p3).1 = true ∧ wdp (I0 127) (I0 111 17) (pif (I0 127) (I0 111 17) p3).2.1 [59] then
          (true, nxp (I0 127) (I0 111 17) (pif (I0 127) (I0 111 17) p3).2.1, (nv (I0 127) (I0 111 17) p1, nv (I0 127) (I0 111 17) p2, (pif (I0 127) (I0 111 17) p3).2.2))
        else (false, (pif (I0 127) (I0 111 17) p3).2.1, (0, 0, []))
      else (false, p2, (0, 0, []))
    else (false, p1, (0, 0, []))
  else (false, p, (0, 0, [])) := by
    subst e3 e2 e1
    rfl
  rw [e1] at b1 b2 b3
  rw [e2] at b2 b3
  rw [e3] at b3
  generalize pln (I0 127) (I0 111 17) k p = R at hpl hR
  have F61 : ∀ (q : Int) (I1 : Ints) (x2 x3 x4 : Int), (∀ C', RD I0 I1 true q C') → R.1 = false → R.2.1 = q → J 61 [vr 111, vi k, vi x2, vi x3, vi x4] [] (mk I1 b) := by
    intro q I1 x2 x3 x4 h1 r1 r2
    refine mj_aload_n hJ dX9_line_61 rfl ?_
    refine mj_aload_n hJ dX9_line_62 rfl ?_
    refine mj_ldcwS (i := 21) hJ dX9_line_63 (by decide) rfl rfl ?_
    refine mk_Vp1 hJ dX9_line_66 cw_X9_212 rfl rfl rfl rfl (Nat.le_of_ble_eq_true rfl) (by first | decide | omega) (c_isW 21 [59] (by decide) rfl (h1 C)) ?_
    rw [if_neg (nof rfl)]
    refine mk_Vv1 hJ dX9_line_69 cw_X9_203 rfl rfl rfl rfl (Nat.le_of_ble_eq_true rfl) (by first | decide | omega) (c_needR 0 (Or.inl rfl) (h1 C)) (fun I2 b2 hq9 => ?_)
    obtain ⟨rfl, -, h2⟩ := hq9
    have h2 := h2 (fun z => Bool.noConfusion z.1)
    refine mj_aload_n hJ dX9_line_72 rfl ?_
    refine mk_getI (j' := 20) hJ dX9_line_73 fw_X9_187 rfl (by decide) rfl rfl ?_
    rw [(h2 C).2.1.2.2]
    refine mj_if_ne (tgt := 125) hJ dX9_line_76 (by decide) (fun _ => ?_) (fun hno => absurd hno (by decide))
    refine hR _ _ _ _ dX9_line_125 ⟨rfl, fun z => by rw [r1] at z; exact Bool.noConfusion z, fun _ => by rw [r2]; exact h2⟩
  have F37 : ∀ (q : Int) (I1 : Ints) (x2 x3 : Int), (∀ C', RD I0 I1 true q C') → R.1 = false → R.2.1 = q → J 37 [vr 111, vi k, vi x2, vi x3, vu] [] (mk I1 b) := by
    intro q I1 x2 x3 h1 r1 r2
    refine mj_aload_n hJ dX9_line_37 rfl ?_
    refine mk_getI (j' := 22) hJ dX9_line_38 fw_X9_207 rfl (by decide) rfl rfl ?_
    refine ms_istore (ls' := [_, _, _, _, _]) hJ dX9_line_41 (by decide) rfl rfl ?_
    refine mj_aload_n hJ dX9_line_43 rfl ?_
    refine mj_ldcwS (i := 9) hJ dX9_line_44 (by decide) rfl rfl ?_
    refine mk_Vp1 hJ dX9_line_47 cw_X9_212 rfl rfl rfl rfl (Nat.le_of_ble_eq_true rfl) (by first | decide | omega) (c_isW 9 [105, 102] (by decide) rfl (h1 C)) ?_
    rw [if_neg (nof rfl)]
    refine mj_if_eq (tgt := 61) hJ dX9_line_50 (by decide) (fun _ => ?_) (fun hno => absurd rfl hno)
    exact F61 q I1 x2 x3 _ h1 r1 r2
  have F30 : ∀ (q : Int) (I1 : Ints) (x2 : Int), (∀ C', RD I0 I1 true q C') → R.1 = false → R.2.1 = q → J 30 [vr 111, vi k, vi x2, vu, vu] [] (mk I1 b) := by
    intro q I1 x2 h1 r1 r2
    refine mj_aload_n hJ dX9_line_30 rfl ?_
    refine mj_bipush hJ dX9_line_31 (by decide) ?_
    refine mk_Vi1 hJ dX9_line_33 cw_X9_221 rfl rfl rfl rfl (Nat.le_of_ble_eq_true rfl) (by first | decide | omega) (c_numR 99 (by decide) (by decide) (h1 C)) (fun z I2 b2 hq9 => ?_)
    obtain ⟨rfl, -, h2⟩ := hq9
    refine ms_istore_n (ls' := [_, _, _, _, _]) hJ dX9_line_36 (by decide) rfl rfl ?_
    exact F37 q I2 x2 z (h2 (fun w => Bool.noConfusion w.1)) r1 r2
  have F24 : ∀ (q : Int) (I1 : Ints), (∀ C', RD I0 I1 true q C') → R.1 = false → R.2.1 = q → J 24 [vr 111, vi k, vu, vu, vu] [] (mk I1 b) := by
    intro q I1 h1 r1 r2
    refine mj_aload_n hJ dX9_line_24 rfl ?_
    refine mj_iconst hJ dX9_line_25 (by decide) ?_
    refine mk_Vi1 hJ dX9_line_26 cw_X9_221 rfl rfl rfl rfl (Nat.le_of_ble_eq_true rfl) (by first | decide | omega) (c_numR 5 (by decide) (by decide) (h1 C)) (fun z I2 b2 hq9 => ?_)
    obtain ⟨rfl, -, h2⟩ := hq9
    refine ms_istore_n (ls' := [_, _, _, _, _]) hJ dX9_line_29 (by decide) rfl rfl ?_
    exact F30 q I2 z (h2 (fun w => Bool.noConfusion w.1)) r1 r2
  have F20 : ¬(wdp (I0 127) (I0 111 17) p [108, 101, 116] ∧ k < 8) → J 20 [vr 111, vi k, vu, vu, vu] [vr 111] (mk I b) := by
    intro w
    rw [if_neg w] at hpl
    refine mj_iconst hJ dX9_line_20 (by decide) ?_
    refine mk_Vv1 hJ dX9_line_21 cw_X9_203 rfl rfl rfl rfl (Nat.le_of_ble_eq_true rfl) (by first | decide | omega) (c_needR 0 (Or.inl rfl) h) (fun I2 b2 hq9 => ?_)
    obtain ⟨rfl, -, h2⟩ := hq9
    exact F24 p I2 (h2 (fun z => absurd z.2 (by decide))) (by rw [hpl]) (by rw [hpl])
  have G61 : ∀ (r : PR) (I1 : Ints) (x2 x3 : Int), r.1 = true → Far (I0 111 17) p3 r → RD I0 I1 false r.2.1 (C ++ codo r.2.2) → k < 8 → (R = if r.1 = true ∧ wdp (I0 127) (I0 111 17) r.2.1 [59] then (true, nxp (I0 127) (I0 111 17) r.2.1, (x2, x3, r.2.2)) else (false, r.2.1, (0, 0, []))) → J 61 [vr 111, vi k, vi x2, vi x3, vi C.length] [] (mk I1 b) := by
    intro r I1 x2 x3 c hf h1 k7 hr
    refine mj_aload_n hJ dX9_line_61 rfl ?_
    refine mj_aload_n hJ dX9_line_62 rfl ?_
    refine mj_ldcwS (i := 21) hJ dX9_line_63 (by decide) rfl rfl ?_
    refine mk_Vp1 hJ dX9_line_66 cw_X9_212 rfl rfl rfl rfl (Nat.le_of_ble_eq_true rfl) (by first | decide | omega) (c_isW 21 [59] (by decide) rfl h1) ?_
    by_cases w : wdp (I0 127) (I0 111 17) r.2.1 [59]
    · rw [if_pos ⟨rfl, w⟩]
      rw [if_pos ⟨c, w⟩] at hr
      refine mk_Vv1 hJ dX9_line_69 cw_X9_203 rfl rfl rfl rfl (Nat.le_of_ble_eq_true rfl) (by first | decide | omega) (c_needR 1 (Or.inr rfl) h1) (fun I2 b2 hq9 => ?_)
      obtain ⟨rfl, h2, -⟩ := hq9
      have h2 := h2 ⟨rfl, rfl⟩
      have hc := (h2.2.2.2 rfl).1
      refine mj_aload_n hJ dX9_line_72 rfl ?_
      refine mk_getI (j' := 20) hJ dX9_line_73 fw_X9_187 rfl (by decide) rfl rfl ?_
      rw [h2.2.1.2.2]
      refine mj_if_ne (tgt := 125) hJ dX9_line_76 (by decide) (fun hyes => absurd rfl hyes) (fun _ => ?_)
      refine mj_aload_n hJ dX9_line_79 rfl ?_
      refine mk_getR hJ dX9_line_80 fw_X9_62 rfl (by decide) rfl rfl ?_
      refine mj_iconst hJ dX9_line_83 (by decide) ?_
      refine mj_iload_n hJ dX9_line_84 rfl ?_
      first | refine ms_imul hJ dX9_line_85 (by omega) ?_ | refine mj_imul hJ dX9_line_85 ?_
      refine mj_iload_n hJ dX9_line_86 rfl ?_
      refine mk_iast hJ dX9_line_87 rfl (by omega) (by omega) ?_
      refine mj_aload_n hJ dX9_line_88 rfl ?_
      refine mk_getR hJ dX9_line_89 fw_X9_62 rfl (by decide) rfl rfl ?_
      refine mj_iconst hJ dX9_line_92 (by decide) ?_
      refine mj_iload_n hJ dX9_line_93 rfl ?_
      first | refine ms_imul hJ dX9_line_94 (by omega) ?_ | refine mj_imul hJ dX9_line_94 ?_
      refine mj_iconst hJ dX9_line_95 (by decide) ?_
      first | refine ms_iadd hJ dX9_line_96 (by omega) ?_ | refine mj_iadd hJ dX9_line_96 ?_
      refine mj_iload_n hJ dX9_line_97 rfl ?_
      refine mk_iast hJ dX9_line_98 rfl (by omega) (by omega) ?_
      refine mj_aload_n hJ dX9_line_99 rfl ?_
      refine mk_getR hJ dX9_line_100 fw_X9_62 rfl (by decide) rfl rfl ?_
      refine mj_iconst hJ dX9_line_103 (by decide) ?_
      refine mj_iload_n hJ dX9_line_104 rfl ?_
      first | refine ms_imul hJ dX9_line_105 (by omega) ?_ | refine mj_imul hJ dX9_line_105 ?_
      refine mj_iconst hJ dX9_line_106 (by decide) ?_
      first | refine ms_iadd hJ dX9_line_107 (by omega) ?_ | refine mj_iadd hJ dX9_line_107 ?_
      refine mj_iload hJ dX9_line_108 rfl ?_
      refine mk_iast hJ dX9_line_110 rfl (by omega) (by omega) ?_
      refine mj_aload_n hJ dX9_line_111 rfl ?_
      refine mk_getR hJ dX9_line_112 fw_X9_62 rfl (by decide) rfl rfl ?_
      refine mj_iconst hJ dX9_line_115 (by decide) ?_
      refine mj_iload_n hJ dX9_line_116 rfl ?_
      first | refine ms_imul hJ dX9_line_117 (by omega) ?_ | refine mj_imul hJ dX9_line_117 ?_
      refine mj_iconst hJ dX9_line_118 (by decide) ?_
      first | refine ms_iadd hJ dX9_line_119 (by omega) ?_ | refine mj_iadd hJ dX9_line_119 ?_
      refine mj_aload_n hJ dX9_line_120 rfl ?_
      refine mk_getI (j' := 22) hJ dX9_line_121 fw_X9_207 rfl (by decide) rfl rfl ?_
      rw [upI_ne (by decide), upI_ne (by decide), upI_ne (by decide), hc]
      refine mk_iast hJ dX9_line_124 rfl (by omega) (by omega) ?_
      refine hR _ _ _ _ dX9_line_125 ⟨rfl, fun _ => ?_, fun z => by rw [hr] at z; exact Bool.noConfusion z⟩
      rw [hr]
      have w2 := h2.fl4 k x2 x3 C.length (C.length + (codo r.2.2).length)
      unfold fl4 at w2 ⊢
      rw [List.length_append]
      exact w2
    · rw [if_neg (fun z => w z.2)]
      rw [if_neg (fun z => w z.2)] at hr
      refine mk_Vv1 hJ dX9_line_69 cw_X9_203 rfl rfl rfl rfl (Nat.le_of_ble_eq_true rfl) (by first | decide | omega) (c_needR 0 (Or.inl rfl) h1) (fun I2 b2 hq9 => ?_)
      obtain ⟨rfl, -, h2⟩ := hq9
      have h2 := h2 (fun z => absurd z.2 (by decide))
      refine mj_aload_n hJ dX9_line_72 rfl ?_
      refine mk_getI (j' := 20) hJ dX9_line_73 fw_X9_187 rfl (by decide) rfl rfl ?_
      rw [(h2 C).2.1.2.2]
      refine mj_if_ne (tgt := 125) hJ dX9_line_76 (by decide) (fun _ => ?_) (fun hno => absurd hno (by decide))
      refine hR _ _ _ _ dX9_line_125 ⟨rfl, fun z => by rw [hr] at z; exact Bool.noConfusion z, fun _ => by rw [hr]; exact h2⟩
  refine mj_aload_n hJ dX9_line_0 rfl ?_
  refine mj_aload_n hJ dX9_line_1 rfl ?_
  refine mj_ldcS (i := 8) hJ dX9_line_2 (by decide) rfl rfl ?_
  refine mk_Vp1 hJ dX9_line_4 cw_X9_212 rfl rfl rfl rfl (Nat.le_of_ble_eq_true rfl) (by first | decide | omega) (c_isW 8 [108, 101, 116] (by decide) rfl h) ?_
  by_cases w : wdp (I0 127) (I0 111 17) p [108, 101, 116]
  · rw [if_pos ⟨rfl, w⟩]
    refine mj_if_eq (tgt := 20) hJ dX9_line_7 (by decide) (fun hyes => absurd hyes (by decide)) (fun _ => ?_)
    refine mj_iload_n hJ dX9_line_10 rfl ?_
    refine mj_bipush hJ dX9_line_11 (by decide) ?_
    refine mj_icmp_ge (tgt := 20) hJ dX9_line_13 (by decide) (fun h8 => ?_) (fun h8 => ?_)
    · exact F20 (fun z => by omega)
    · rw [if_pos ⟨w, by omega⟩] at hpl
      refine mj_iconst hJ dX9_line_16 (by decide) ?_
      refine mj_goto (tgt := 21) hJ dX9_line_17 (by decide) ?_
      refine mk_Vv1 hJ dX9_line_21 cw_X9_203 rfl rfl rfl rfl (Nat.le_of_ble_eq_true rfl) (by first | decide | omega) (c_needR 1 (Or.inr rfl) h) (fun I2 b2 hq9 => ?_)
      obtain ⟨rfl, h2, -⟩ := hq9
      have h2 := h2 ⟨rfl, rfl⟩
      rw [e1] at h2
      refine mj_aload_n hJ dX9_line_24 rfl ?_
      refine mj_iconst hJ dX9_line_25 (by decide) ?_
      refine mk_Vi1 hJ dX9_line_26 cw_X9_221 rfl rfl rfl rfl (Nat.le_of_ble_eq_true rfl) (by first | decide | omega) (c_numR 5 (by decide) (by decide) h2) (fun z I3 b3 hq9 => ?_)
      obtain ⟨rfl, h3, h4⟩ := hq9
      refine ms_istore_n (ls' := [_, _, _, _, _]) hJ dX9_line_29 (by decide) rfl rfl ?_
      by_cases w1 : isn (I0 127) (I0 111 17) p1 ∧ nv (I0 127) (I0 111 17) p1 ≤ 5
      · rw [if_pos w1] at hpl
        obtain ⟨ez, hb3⟩ := h3 ⟨rfl, w1⟩
        rw [e2] at hb3
        rw [ez]
        refine mj_aload_n hJ dX9_line_30 rfl ?_
        refine mj_bipush hJ dX9_line_31 (by decide) ?_
        refine mk_Vi1 hJ dX9_line_33 cw_X9_221 rfl rfl rfl rfl (Nat.le_of_ble_eq_true rfl) (by first | decide | omega) (c_numR 99 (by decide) (by decide) hb3) (fun z I4 b4 hq9 => ?_)
        obtain ⟨rfl, h5, h6⟩ := hq9
        refine ms_istore_n (ls' := [_, _, _, _, _]) hJ dX9_line_36 (by decide) rfl rfl ?_
        by_cases w2 : isn (I0 127) (I0 111 17) p2 ∧ nv (I0 127) (I0 111 17) p2 ≤ 99
        · rw [if_pos w2] at hpl
          obtain ⟨ey, hb5⟩ := h5 ⟨rfl, w2⟩
          rw [e3] at hb5
          rw [ey]
          have hcl := (hb5.2.2.2 rfl).1
          refine mj_aload_n hJ dX9_line_37 rfl ?_
          refine mk_getI (j' := 22) hJ dX9_line_38 fw_X9_207 rfl (by decide) rfl rfl ?_
          rw [hcl]
          refine ms_istore (ls' := [_, _, _, _, _]) hJ dX9_line_41 (by decide) rfl rfl ?_
          refine mj_aload_n hJ dX9_line_43 rfl ?_
          refine mj_ldcwS (i := 9) hJ dX9_line_44 (by decide) rfl rfl ?_
          refine mk_Vp1 hJ dX9_line_47 cw_X9_212 rfl rfl rfl rfl (Nat.le_of_ble_eq_true rfl) (by first | decide | omega) (c_isW 9 [105, 102] (by decide) rfl hb5) ?_
          have hif := pif_far (g := I0 127) b3.2.1
          have epi : pif (I0 127) (I0 111 17) p3 = if wdp (I0 127) (I0 111 17) p3 [105, 102] then pcon (I0 127) (I0 111 17) (popen (I0 127) (I0 111 17) 3) (nxp (I0 127) (I0 111 17) p3) else (true, p3, []) := rfl
          generalize pif (I0 127) (I0 111 17) p3 = r at hpl hif epi
          by_cases w3 : wdp (I0 127) (I0 111 17) p3 [105, 102]
          · rw [if_pos ⟨rfl, w3⟩]
            rw [if_pos w3] at epi
            refine mj_if_eq (tgt := 61) hJ dX9_line_50 (by decide) (fun hyes => absurd hyes (by decide)) (fun _ => ?_)
            refine mj_aload_n hJ dX9_line_53 rfl ?_
            refine mk_Vv0 hJ dX9_line_54 cw_X9_191 rfl rfl rfl rfl (Nat.le_of_ble_eq_true rfl) (by first | decide | omega) (c_nextR hb5) (fun I5 b5 hq9 => ?_)
            obtain ⟨rfl, h7⟩ := hq9
            refine mj_aload_n hJ dX9_line_57 rfl ?_
            refine mk_Vv0 hJ dX9_line_58 cw_X9_231 rfl rfl rfl rfl (Nat.le_of_ble_eq_true rfl) (by first | decide | omega) (condOK 3 (by decide) _ _ _ _ _ _ _ rfl rfl (by rw [h21]; rfl) h7) (fun I6 b6 hq9 => ?_)
            obtain ⟨rfl, h8⟩ := hq9
            rw [← epi] at h8
            cases c : r.1 with
            | true => exact G61 r I6 _ _ c hif (h8.1 c) (by omega) hpl
            | false =>
              rw [if_neg (fun z => by rw [c] at z; exact Bool.noConfusion z.1)] at hpl
              exact F61 _ I6 _ _ _ (h8.2 c) (by rw [hpl]) (by rw [hpl])
          · rw [if_neg (fun z => w3 z.2)]
            rw [if_neg w3] at epi
            refine mj_if_eq (tgt := 61) hJ dX9_line_50 (by decide) (fun _ => ?_) (fun hno => absurd rfl hno)
            refine G61 r I4 _ _ (by rw [epi]) hif ?_ (by omega) hpl
            rw [epi]
            show RD I0 I4 false p3 (C ++ [])
            rw [List.append_nil]
            exact hb5
        · rw [if_neg w2] at hpl
          exact F37 p2 I4 _ z (h6 (fun y => w2 y.2)) (by rw [hpl]) (by rw [hpl])
      · rw [if_neg w1] at hpl
        exact F30 p1 I3 z (h4 (fun y => w1 y.2)) (by rw [hpl]) (by rw [hpl])
  · rw [if_neg (fun z => w z.2)]
    refine mj_if_eq (tgt := 20) hJ dX9_line_7 (by decide) (fun _ => ?_) (fun hno => absurd rfl hno)
    exact F20 (fun z => w z.1)
end M24
