section C17
variable {G : GE} {I0 I N : Ints} {b : Bool} {T : List Ln} {g : Int → Int} {n : Int} {cc k : Nat} {A : List Ln}
theorem cok (hT : TKE I0 g n cc) (n0 : 0 ≤ n) (hn : n ≤ 200) (b0 : 0 ≤ I0 81 5) : ∀ lv : Nat, lv ≤ 3 → COK G I0 g n cc lv
  | 0, h => c_readCondition hT n0 hn b0 0 h (fun m e => by omega)
  | lv + 1, h => c_readCondition hT n0 hn b0 (lv + 1) h (fun m e => by
    have : m = lv := by omega
    subst this
    exact cok hT n0 hn b0 m (by omega))
theorem tcl_append {g1 g2 g3 g4 : Int → Int} {B : List Ln} : ∀ (A : List Ln) (l p : Int), tcl g1 g2 g3 g4 l p (A ++ B) ↔ tcl g1 g2 g3 g4 l p A ∧ tcl g1 g2 g3 g4 (l + A.length) (p + stn A) B
  | [], l, p => by
    have e1 : l + (([] : List Ln).length : Int) = l := Int.add_zero l
    have e2 : p + stn [] = p := Int.add_zero p
    rw [e1, e2]
    exact ⟨fun h => ⟨trivial, h⟩, fun h => h.2⟩
  | (v, m, e) :: A, l, p => by
    have ih := tcl_append (g1 := g1) (g2 := g2) (g3 := g3) (g4 := g4) (B := B) A (l + 1) (p + e.length)
    have e1 : l + (((v, m, e) :: A).length : Int) = l + 1 + (A.length : Int) := by rw [List.length_cons]; omega
    have e2 : p + stn ((v, m, e) :: A) = p + e.length + stn A := by show p + ((e.length : Int) + stn A) = _; omega
    rw [e1, e2]
    show (_ ∧ tcl g1 g2 g3 g4 (l + 1) (p + e.length) (A ++ B)) ↔ (_ ∧ tcl g1 g2 g3 g4 (l + 1) (p + e.length) A) ∧ _
    rw [ih]
    simp only [and_assoc]
theorem tcl_cg {g1 g2 g3 g4 g1' g2' g3' g4' : Int → Int} : ∀ (L : List Ln) (l p : Int), (∀ j, l ≤ j → j < l + L.length → g1' j = g1 j) → (∀ j, l ≤ j → j < l + L.length → g2' j = g2 j) → (∀ j, l ≤ j → j < l + L.length → g3' j = g3 j) → (∀ q, p ≤ q → q < p + stn L → g4' q = g4 q) → tcl g1 g2 g3 g4 l p L → tcl g1' g2' g3' g4' l p L
  | [], _, _, _, _, _, _, _ => trivial
  | (v, m, s) :: L, l, p, e1, e2, e3, e4, h => by
    have hl : (((v, m, s) :: L).length : Int) = L.length + 1 := by rw [List.length_cons]; omega
    have hst : stn ((v, m, s) :: L) = s.length + stn L := rfl
    have hnn := stn_nn L
    refine ⟨⟨by rw [e1 l (by omega) (by omega)]; exact h.1.1, by rw [e2 l (by omega) (by omega)]; exact h.1.2.1, by rw [e3 l (by omega) (by omega)]; exact h.1.2.2.1, stp_congr s p (fun j a c => e4 j (by omega) (by omega)) h.1.2.2.2⟩, tcl_cg L (l + 1) _ (fun j a c => e1 j (by omega) (by omega)) (fun j a c => e2 j (by omega) (by omega)) (fun j a c => e3 j (by omega) (by omega)) (fun j a c => e4 j (by omega) (by omega)) h.2⟩
theorem tml_f3 {f : Int → Int} : ∀ (L : List Ln) (l p : Int), tml f l p L → 0 ≤ p → 0 ≤ f 3 ∧ f 3 ≤ 200
  | [], _, p, h, h0 => by
    have h1 := h.1
    have h2 := h.2
    omega
  | (_, _, e) :: L, l, p, h, h0 => tml_f3 L (l + 1) _ h.2.2 (by omega)
theorem LD.congrT {I : Ints} {c1 c3 c10 c16 : Nat} {f f' : Int → Int} (hw : WN f) (h : LD I c1 c3 c10 c16 f) (e : ∀ j, 0 ≤ j → j < 124 → j ≠ 2 → j ≠ 3 → f' j = f j) : LD I c1 c3 c10 c16 f' := by
  have hn := hw.nv
  have hy := hw.ny
  have e0 := e 0 (by decide) (by decide) (by decide) (by decide)
  have e1 := e 1 (by decide) (by decide) (by decide) (by decide)
  refine ⟨by rw [e0, e1, e 4 (by decide) (by decide) (by decide) (by decide), e 5 (by decide) (by decide) (by decide) (by decide)]; exact h.1, fun v k v0 v1 k0 k1 => ?_, fun v n v0 v1 n0 n1 => ?_, fun y y0 y1 => ?_⟩
  · rw [e0] at v1
    rw [e _ (by omega) (by omega) (by omega) (by omega)]
    exact h.2.1 v k v0 v1 k0 k1
  · rw [e0] at v1
    rw [fst_congr n.toNat (fun k k0 k1 => e _ (by omega) (by omega) (by omega) (by omega))]
    exact h.2.2.1 v n v0 v1 n0 n1
  · rw [e1] at y1
    rw [e _ (by omega) (by omega) (by omega) (by omega)]
    exact h.2.2.2 y y0 y1
theorem stn_append (B : List Ln) : ∀ A : List Ln, stn (A ++ B) = stn A + stn B
  | [] => (Int.zero_add _).symm
  | (v, m, e) :: A => by
    show (e.length : Int) + stn (A ++ B) = (e.length : Int) + stn A + stn B
    rw [stn_append B A]
    omega
def CF (I0 I : Ints) (k : Nat) : Prop := ((∀ c, (c < 80 ∨ 85 < c) → I c = I0 c) ∧ ∀ j, j ≠ 6 → I 80 j = I0 80 j) ∧ I 80 6 = k
/-- the reader is at part k, it has written the lines A -/
def CL (I0 I : Ints) (k : Nat) (A : List Ln) : Prop := CF I0 I k ∧ TC I 81 82 83 84 85 A ∧ I 81 5 = stn A
theorem CR.fr {I1 : Ints} {S : List St} {k1 k2 : Nat} (h : CF I0 I k1) (q : CR I I1 k2 S) : CF I0 I1 k2 :=
  ⟨⟨fun c hc => by rw [q.1.1 c (by omega) (by omega) (by omega)]; exact h.1.1 c hc, fun j j1 => by rw [q.1.2.1 j j1]; exact h.1.2 j j1⟩, q.2.1⟩
theorem TKE.cf {I1 : Ints} (h : TKE I0 g n cc) (q : CF I0 I1 k) : TKE I1 g n cc := by
  unfold TKE TK at h ⊢
  rw [q.1.1 87 (by decide), q.1.1 88 (by decide), q.1.1 89 (by decide)]
  exact h
theorem c_endLine (v m l : Int) (hl : I 81 0 = l) (l0 : 0 ≤ l) (l1 : l < 8) : MtV G yX5_endLine cX5_endLine 3 0 [vr 81, vi v, vi m] I b (fun I' b' => b' = b ∧ I' = upI (upI (upI (upI I 82 l v) 83 l m) 84 l (I 81 5)) 81 0 (l + 1)) := by
  refine mt_enterV (own := RX5) (ls0 := [vr 81, vi v, vi m]) rfl (by decide +kernel) (Nat.le_of_ble_eq_true rfl) rfl (fun J hJ hR => ?_)
  refine mj_aload_n hJ dX5_endLine_0 rfl ?_
  refine mk_getI (j' := 0) hJ dX5_endLine_1 fw_X5_7 rfl (by decide) rfl rfl ?_
  rw [hl]
  refine mj_bipush hJ dX5_endLine_4 (by decide) ?_
  refine mj_icmp_ge (tgt := 52) hJ dX5_endLine_6 (by decide) (fun hyes => absurd hyes (by omega)) (fun _ => ?_)
  refine mj_aload_n hJ dX5_endLine_9 rfl ?_
  refine mk_getR hJ dX5_endLine_10 fw_X5_13 rfl (by decide) rfl rfl ?_
  refine mj_aload_n hJ dX5_endLine_13 rfl ?_
  refine mk_getI (j' := 0) hJ dX5_endLine_14 fw_X5_7 rfl (by decide) rfl rfl ?_
  rw [hl]
  refine mj_iload_n hJ dX5_endLine_17 rfl ?_
  refine mk_iast hJ dX5_endLine_18 rfl (by omega) (by omega) ?_
  refine mj_aload_n hJ dX5_endLine_19 rfl ?_
  refine mk_getR hJ dX5_endLine_20 fw_X5_17 rfl (by decide) rfl rfl ?_
  refine mj_aload_n hJ dX5_endLine_23 rfl ?_
  refine mk_getI (j' := 0) hJ dX5_endLine_24 fw_X5_7 rfl (by decide) rfl rfl ?_
  rw [upI_ne (by decide), hl]
  refine mj_iload_n hJ dX5_endLine_27 rfl ?_
  refine mk_iast hJ dX5_endLine_28 rfl (by omega) (by omega) ?_
  refine mj_aload_n hJ dX5_endLine_29 rfl ?_
  refine mk_getR hJ dX5_endLine_30 fw_X5_20 rfl (by decide) rfl rfl ?_
  refine mj_aload_n hJ dX5_endLine_33 rfl ?_
  refine mk_getI (j' := 0) hJ dX5_endLine_34 fw_X5_7 rfl (by decide) rfl rfl ?_
  rw [upI_ne (by decide), upI_ne (by decide), hl]
  refine mj_aload_n hJ dX5_endLine_37 rfl ?_
  refine mk_getI (j' := 5) hJ dX5_endLine_38 fw_X5_26 rfl (by decide) rfl rfl ?_
  refine mk_iast hJ dX5_endLine_41 rfl (by omega) (by omega) ?_
  refine mj_aload_n hJ dX5_endLine_42 rfl ?_
  refine mj_dupr hJ dX5_endLine_43 ?_
  refine mk_getI (j' := 0) hJ dX5_endLine_44 fw_X5_7 rfl (by decide) rfl rfl ?_
  rw [upI_ne (by decide), upI_ne (by decide), upI_ne (by decide), hl]
  refine mj_iconst hJ dX5_endLine_47 (by decide) ?_
  first | refine ms_iadd hJ dX5_endLine_48 (by omega) ?_ | refine mj_iadd hJ dX5_endLine_48 ?_
  refine mk_putI (j' := 0) hJ dX5_endLine_49 fw_X5_7 rfl (by decide) rfl rfl ?_
  exact hR _ _ _ _ dX5_endLine_52 ⟨rfl, rfl⟩
abbrev LQ (I0 : Ints) (b : Bool) (g : Int → Int) (n : Int) (cc : Nat) (A : List Ln) (R : Bool × Int × Ln) : Int → Ints → Bool → Prop := fun z I' b' => z = (if R.1 = true then 1 else 0) ∧ b' = b ∧ ∃ k', k' ≤ cc ∧ tkp g n k' = R.2.1 ∧ CF I0 I' k' ∧ (R.1 = true → CL I0 I' k' (A ++ [R.2.2]) ∧ stn (A ++ [R.2.2]) ≤ R.2.1)
theorem c_readLine (hT0 : TKE I0 g n cc) (n0 : 0 ≤ n) (hn : n ≤ 200) (h : CL I0 I k A) (hk : k ≤ cc) (hA : (A.length : Int) < 8) (hS : stn A ≤ tkp g n k) : MtI G yX6_readLine cX6_readLine 3 (some .boolean) 10 [vr 80] I b (LQ I0 b g n cc A (pln g n A.length (tkp g n k))) := by
  refine mt_enterI (own := RX6) (ls0 := [vr 80, vu, vu]) rfl (by decide +kernel) (Nat.le_of_ble_eq_true rfl) rfl rfl (fun J hJ hR => ?_)
  have hT := hT0.cf h.1
  have hcn := hT.cn n0
  have b0 : 0 ≤ I 81 5 := by rw [h.2.2]; exact stn_nn A
  have tb := tkp_bd (g := g) n0 k
  obtain ⟨p, hp⟩ : ∃ p, tkp g n k = p := ⟨_, rfl⟩
  rw [hp] at tb hR hS
  have nb1 := nxp_bd (g := g) tb.2
  have nb2 := nxp_bd (g := g) nb1.2.1
  have nb3 := nxp_bd (g := g) nb2.2.1
  have h0 : CR I I k [] := ⟨⟨fun _ _ _ _ => rfl, fun _ _ => rfl, fun _ _ => rfl⟩, h.1.2, (Int.add_zero _).symm, trivial, fun _ _ => rfl⟩
  have NO : ∀ (q : Int) (k2 : Nat) (S2 : List St) (I2 : Ints), pln g n A.length p = (false, q, (0, 0, [])) → k2 ≤ cc → tkp g n k2 = q → CR I I2 k2 S2 → LQ I0 b g n cc A (pln g n A.length p) 0 I2 b := by
    intro q k2 S2 I2 e hk2 ht h2
    rw [e]
    exact ⟨rfl, rfl, k2, hk2, ht, h2.fr h.1, fun q => Bool.noConfusion q⟩
  refine mj_aload_n hJ dX6_readLine_0 rfl ?_
  refine mj_iconst hJ dX6_readLine_1 (by decide) ?_
  refine mk_Vi1 hJ dX6_readLine_2 cw_X6_106 rfl rfl rfl rfl (Nat.le_of_ble_eq_true rfl) (by first | decide | omega) (c_pass hT n0 hn h0 hk 3) (fun z I1 b1 hq9 => ?_)
  obtain ⟨rfl, rfl, hy1, hn1⟩ := hq9
  rw [hp] at hy1 hn1 ⊢
  by_cases c1 : wdp g n p [108, 101, 116]
  · have kd := (knd_let tb.2).2 c1
    have h1 := hy1 kd
    have k1 : k + 1 ≤ cc := (hT.lt hk n0).2 (by rw [hp]; exact wdp_lt c1 (by decide) tb.2)
    have et1 : tkp g n (k + 1) = nxp g n p := by show nxp g n (tkp g n k) = _; rw [hp]
    rw [if_pos kd]
    refine mj_if_eq (tgt := 16) hJ dX6_readLine_5 (by decide) (fun hyes => absurd hyes (by decide)) (fun _ => ?_)
    refine mj_aload_n hJ dX6_readLine_8 rfl ?_
    refine mj_iconst hJ dX6_readLine_9 (by decide) ?_
    refine mk_Vp1 hJ dX6_readLine_10 cw_X6_109 rfl rfl rfl rfl (Nat.le_of_ble_eq_true rfl) (by first | decide | omega) (c_isNumber hT n0 hn h1 k1 5) ?_
    rw [et1]
    by_cases c2 : isn g n (nxp g n p) ∧ nv g n (nxp g n p) ≤ 5
    · have k2 : k + 1 + 1 ≤ cc := (hT.lt k1 n0).2 (by rw [et1]; exact c2.1.1.1)
      have et2 : tkp g n (k + 1 + 1) = nxp g n (nxp g n p) := by show nxp g n (tkp g n (k + 1)) = _; rw [et1]
      have nm1 := hT.nm n0 k1 (by rw [et1]; exact (knd_2 nb1.2.1).2 c2.1)
      have h2 := h1.at' (((k + 1 : Nat) : Int) + 1) (by omega)
      obtain ⟨I2, hI2⟩ : ∃ y, upI I1 80 6 (((k + 1 : Nat) : Int) + 1) = y := ⟨_, rfl⟩
      rw [hI2] at h2
      rw [if_pos c2]
      refine mj_if_ne (tgt := 18) hJ dX6_readLine_13 (by decide) (fun _ => ?_) (fun hno => absurd hno (by decide))
      refine mj_aload_n hJ dX6_readLine_18 rfl ?_
      refine mk_getR hJ dX6_readLine_19 fw_X6_29 rfl (by decide) rfl rfl ?_
      refine mj_aload_n hJ dX6_readLine_22 rfl ?_
      refine mk_getI (j' := 6) hJ dX6_readLine_23 fw_X6_35 rfl (by decide) rfl rfl ?_
      rw [h1.2.1]
      refine mk_iald hJ dX6_readLine_26 rfl (by omega) (by omega) ?_
      rw [h1.1.1 88 (by decide) (by decide) (by decide), nm1, et1]
      refine ms_istore_n (ls' := [_, _, _]) hJ dX6_readLine_27 (by decide) rfl rfl ?_
      refine mj_aload_n hJ dX6_readLine_28 rfl ?_
      refine mj_dupr hJ dX6_readLine_29 ?_
      refine mk_getI (j' := 6) hJ dX6_readLine_30 fw_X6_35 rfl (by decide) rfl rfl ?_
      rw [h1.2.1]
      refine mj_iconst hJ dX6_readLine_33 (by decide) ?_
      first | refine ms_iadd hJ dX6_readLine_34 (by omega) ?_ | refine mj_iadd hJ dX6_readLine_34 ?_
      refine mk_putI (j' := 6) hJ dX6_readLine_35 fw_X6_35 rfl (by decide) rfl rfl ?_
      rw [hI2]
      refine mj_aload_n hJ dX6_readLine_38 rfl ?_
      refine mj_bipush hJ dX6_readLine_39 (by decide) ?_
      refine mk_Vp1 hJ dX6_readLine_41 cw_X6_109 rfl rfl rfl rfl (Nat.le_of_ble_eq_true rfl) (by first | decide | omega) (c_isNumber hT n0 hn h2 k2 99) ?_
      rw [et2]
      by_cases c3 : isn g n (nxp g n (nxp g n p)) ∧ nv g n (nxp g n (nxp g n p)) ≤ 99
      · have k3 : k + 1 + 1 + 1 ≤ cc := (hT.lt k2 n0).2 (by rw [et2]; exact c3.1.1.1)
        have et3 : tkp g n (k + 1 + 1 + 1) = nxp g n (nxp g n (nxp g n p)) := by show nxp g n (tkp g n (k + 1 + 1)) = _; rw [et2]
        have nm2 := hT.nm n0 k2 (by rw [et2]; exact (knd_2 nb2.2.1).2 c3.1)
        have h3 := h2.at' (((k + 1 + 1 : Nat) : Int) + 1) (by omega)
        obtain ⟨I3, hI3⟩ : ∃ y, upI I2 80 6 (((k + 1 + 1 : Nat) : Int) + 1) = y := ⟨_, rfl⟩
        rw [hI3] at h3
        rw [if_pos c3]
        refine mj_if_ne (tgt := 49) hJ dX6_readLine_44 (by decide) (fun _ => ?_) (fun hno => absurd hno (by decide))
        refine mj_aload_n hJ dX6_readLine_49 rfl ?_
        refine mk_getR hJ dX6_readLine_50 fw_X6_29 rfl (by decide) rfl rfl ?_
        refine mj_aload_n hJ dX6_readLine_53 rfl ?_
        refine mk_getI (j' := 6) hJ dX6_readLine_54 fw_X6_35 rfl (by decide) rfl rfl ?_
        rw [h2.2.1]
        refine mk_iald hJ dX6_readLine_57 rfl (by omega) (by omega) ?_
        rw [h2.1.1 88 (by decide) (by decide) (by decide), nm2, et2]
        refine ms_istore_n (ls' := [_, _, _]) hJ dX6_readLine_58 (by decide) rfl rfl ?_
        refine mj_aload_n hJ dX6_readLine_59 rfl ?_
        refine mj_dupr hJ dX6_readLine_60 ?_
        refine mk_getI (j' := 6) hJ dX6_readLine_61 fw_X6_35 rfl (by decide) rfl rfl ?_
        rw [h2.2.1]
        refine mj_iconst hJ dX6_readLine_64 (by decide) ?_
        first | refine ms_iadd hJ dX6_readLine_65 (by omega) ?_ | refine mj_iadd hJ dX6_readLine_65 ?_
        refine mk_putI (j' := 6) hJ dX6_readLine_66 fw_X6_35 rfl (by decide) rfl rfl ?_
        rw [hI3]
        have ePl : pln g n A.length p = if (pif g n (nxp g n (nxp g n (nxp g n p)))).1 = true ∧ wdp g n (pif g n (nxp g n (nxp g n (nxp g n p)))).2.1 [59] then (true, nxp g n (pif g n (nxp g n (nxp g n (nxp g n p)))).2.1, (nv g n (nxp g n p), nv g n (nxp g n (nxp g n p)), (pif g n (nxp g n (nxp g n (nxp g n p)))).2.2)) else (false, (pif g n (nxp g n (nxp g n (nxp g n p)))).2.1, (0, 0, [])) := by
          unfold pln
          rw [if_pos ⟨c1, hA⟩, if_pos c2, if_pos c3]
        have hf := pif_far (g := g) nb3.2.1
        have eif : pif g n (nxp g n (nxp g n (nxp g n p))) = if wdp g n (nxp g n (nxp g n (nxp g n p))) [105, 102] then pcon g n (popen g n 3) (nxp g n (nxp g n (nxp g n (nxp g n p)))) else (true, nxp g n (nxp g n (nxp g n p)), []) := rfl
        generalize pif g n (nxp g n (nxp g n (nxp g n p))) = r at ePl hf eif
        have rb : r.2.1 ≤ n := hf.1.2
        -- behind the condition
        have K87 : ∀ (k4 : Nat) (I4 : Ints), r.1 = true → k4 ≤ cc → tkp g n k4 = r.2.1 → CR I I4 k4 r.2.2 → J 87 [vr 80, vi (nv g n (nxp g n p)), vi (nv g n (nxp g n (nxp g n p)))] [] (mk I4 b1) := by
          intro k4 I4 cr hk4 ht4 h4
          refine mj_aload_n hJ dX6_readLine_87 rfl ?_
          refine mj_bipush hJ dX6_readLine_88 (by decide) ?_
          refine mk_Vi1 hJ dX6_readLine_90 cw_X6_106 rfl rfl rfl rfl (Nat.le_of_ble_eq_true rfl) (by first | decide | omega) (c_pass hT n0 hn h4 hk4 8) (fun z I5 b5 hq9 => ?_)
          obtain ⟨rfl, rfl, hy5, hn5⟩ := hq9
          rw [ht4] at hy5 hn5 ⊢
          by_cases c5 : wdp g n r.2.1 [59]
          · have kd5 := (knd_semi rb).2 c5
            have h5 := hy5 kd5
            have k5 : k4 + 1 ≤ cc := (hT.lt hk4 n0).2 (by rw [ht4]; exact wdp_lt c5 (by decide) rb)
            have e81 : I5 81 0 = A.length := by rw [h5.1.2.2 0 (by decide)]; exact h.2.1.1.1
            rw [if_pos kd5]
            refine mj_if_ne (tgt := 98) hJ dX6_readLine_93 (by decide) (fun _ => ?_) (fun hno => absurd hno (by decide))
            refine mj_aload_n hJ dX6_readLine_98 rfl ?_
            refine mk_getR hJ dX6_readLine_99 fw_X6_18 rfl (by decide) rfl rfl ?_
            refine mj_iload_n hJ dX6_readLine_102 rfl ?_
            refine mj_iload_n hJ dX6_readLine_103 rfl ?_
            refine mk_Vv2 hJ dX6_readLine_104 cw_X6_115 rfl rfl rfl rfl (Nat.le_of_ble_eq_true rfl) (by first | decide | omega) (c_endLine _ _ _ e81 (by omega) hA) (fun I6 b6 hq9 => ?_)
            obtain ⟨rfl, e6⟩ := hq9
            refine mj_iconst hJ dX6_readLine_107 (by decide) ?_
            rw [if_pos ⟨cr, c5⟩] at ePl
            rw [ePl] at hR
            have nb := nxp_bd (g := g) rb
            have fl := hf.2 cr
            have cl := codo_len r.2.2
            have es1 : stn [(nv g n (nxp g n p), nv g n (nxp g n (nxp g n p)), r.2.2)] = (r.2.2.length : Int) := Int.add_zero _
            have h56 : CF I0 I6 (k4 + 1) := by
              have f5 := h5.fr h.1
              subst e6
              exact ⟨⟨fun c hc => by rw [upI_ne (by omega), upI_ne (by omega), upI_ne (by omega), upI_ne (by omega)]; exact f5.1.1 c hc, fun j j1 => by rw [upI_ne (by decide), upI_ne (by decide), upI_ne (by decide), upI_ne (by decide)]; exact f5.1.2 j j1⟩, by rw [upI_ne (by decide), upI_ne (by decide), upI_ne (by decide), upI_ne (by decide)]; exact f5.2⟩
            have s5 : I5 81 5 = stn A + r.2.2.length := by rw [h5.2.2.1, h.2.2]
            refine hR _ _ _ _ _ dX6_readLine_108 (nar_z (Or.inr rfl)) ⟨rfl, rfl, k4 + 1, k5, by show nxp g n (tkp g n k4) = _; rw [ht4], h56, fun _ => ⟨⟨h56, ⟨⟨?_, ?_⟩, ?_⟩, ?_⟩, ?_⟩⟩
            · rw [e6, upI_at, if_pos rfl, List.length_append]
              show (A.length : Int) + 1 = ((A.length + 1 : Nat) : Int)
              omega
            · rw [List.length_append]
              show A.length + 1 ≤ 8
              omega
            · have f82 : ∀ j, I6 82 j = if j = (A.length : Int) then nv g n (nxp g n p) else I 82 j := fun j => by rw [e6, upI_ne (by decide), upI_ne (by decide), upI_ne (by decide), upI_at, h5.1.1 82 (by decide) (by decide) (by decide)]
              have f83 : ∀ j, I6 83 j = if j = (A.length : Int) then nv g n (nxp g n (nxp g n p)) else I 83 j := fun j => by rw [e6, upI_ne (by decide), upI_ne (by decide), upI_at, upI_ne (by decide), h5.1.1 83 (by decide) (by decide) (by decide)]
              have f84 : ∀ j, I6 84 j = if j = (A.length : Int) then stn A + r.2.2.length else I 84 j := fun j => by rw [e6, upI_ne (by decide), upI_at, s5, upI_ne (by decide), upI_ne (by decide), h5.1.1 84 (by decide) (by decide) (by decide)]
              have f85 : ∀ j, I6 85 j = I5 85 j := fun j => by rw [e6, upI_ne (by decide), upI_ne (by decide), upI_ne (by decide), upI_ne (by decide)]
              rw [tcl_append]
              refine ⟨tcl_cg A 0 0 (fun l l0 l1 => ?_) (fun l l0 l1 => ?_) (fun l l0 l1 => ?_) (fun q q0 q1 => ?_) h.2.1.2, ⟨?_, ?_, ?_, ?_⟩, trivial⟩
              · rw [f82, if_neg (by omega)]
              · rw [f83, if_neg (by omega)]
              · rw [f84, if_neg (by omega)]
              · rw [f85, h5.2.2.2.2 q (by rw [h.2.2]; omega)]
              · rw [f82, if_pos (by omega)]
              · rw [f83, if_pos (by omega)]
              · rw [f84, if_pos (by omega)]; omega
              · have h6 := h5.2.2.2.1
                rw [h.2.2] at h6
                rw [Int.zero_add]
                exact stp_congr _ _ (fun j _ _ => f85 j) h6
            · rw [stn_append, es1, e6, upI_at, if_neg (by decide), upI_ne (by decide), upI_ne (by decide), upI_ne (by decide)]
              exact s5
            · rw [stn_append, es1]
              show _ ≤ nxp g n r.2.1
              omega
          · have kd5 : ¬ knd g n r.2.1 = 8 := fun z => c5 ((knd_semi rb).1 z)
            have e5 := hn5 kd5
            subst e5
            rw [if_neg (fun q => c5 q.2)] at ePl
            rw [if_neg kd5]
            refine mj_if_ne (tgt := 98) hJ dX6_readLine_93 (by decide) (fun hyes => absurd (by decide) hyes) (fun _ => ?_)
            refine mj_iconst hJ dX6_readLine_96 (by decide) ?_
            exact hR _ _ _ _ _ dX6_readLine_97 (nar_z (by first | exact Or.inl rfl | exact Or.inr rfl | assumption | omega)) (NO _ k4 _ I5 ePl hk4 ht4 h4)
        refine mj_aload_n hJ dX6_readLine_69 rfl ?_
        refine mj_iconst hJ dX6_readLine_70 (by decide) ?_
        refine mk_Vi1 hJ dX6_readLine_71 cw_X6_106 rfl rfl rfl rfl (Nat.le_of_ble_eq_true rfl) (by first | decide | omega) (c_pass hT n0 hn h3 k3 4) (fun z I4 b4 hq9 => ?_)
        obtain ⟨rfl, rfl, hy4, hn4⟩ := hq9
        rw [et3] at hy4 hn4 ⊢
        by_cases c4 : wdp g n (nxp g n (nxp g n (nxp g n p))) [105, 102]
        · have kd4 := (knd_if nb3.2.1).2 c4
          have h4 := hy4 kd4
          have nb4 := nxp_bd (g := g) nb3.2.1
          have k4 : k + 1 + 1 + 1 + 1 ≤ cc := (hT.lt k3 n0).2 (by rw [et3]; exact wdp_lt c4 (by decide) nb3.2.1)
          have et4 : tkp g n (k + 1 + 1 + 1 + 1) = nxp g n (nxp g n (nxp g n (nxp g n p))) := by show nxp g n (tkp g n (k + 1 + 1 + 1)) = _; rw [et3]
          rw [if_pos c4] at eif
          rw [if_pos kd4]
          refine mj_if_eq (tgt := 87) hJ dX6_readLine_74 (by decide) (fun hyes => absurd hyes (by decide)) (fun _ => ?_)
          refine mj_aload_n hJ dX6_readLine_77 rfl ?_
          refine mj_iconst hJ dX6_readLine_78 (by decide) ?_
          have hc := cok (G := G) hT n0 hn b0 3 (Nat.le_refl 3) I4 b4 (k + 1 + 1 + 1 + 1) [] h4 k4 (by rw [h.2.2, et4]; show stn A + 0 ≤ _; omega)
          rw [et4, ← eif] at hc
          rw [show (3 : Int) - ((3 : Nat) : Int) = 0 from rfl] at hc
          refine mk_Vi1 hJ dX6_readLine_79 cw_X6_112 rfl rfl rfl rfl (Nat.le_of_ble_eq_true rfl) (by first | decide | omega) (hc) (fun z I5 b5 hq9 => ?_)
          obtain ⟨rfl, rfl, k5, hk5, ht5, S5, h5, hs5⟩ := hq9
          cases cr : r.1 with
          | true =>
            have es := hs5 cr
            subst es
            rw [if_pos rfl]
            refine mj_if_ne (tgt := 87) hJ dX6_readLine_82 (by decide) (fun _ => ?_) (fun hno => absurd hno (by decide))
            exact K87 k5 I5 cr hk5 ht5 h5
          | false =>
            rw [if_neg (fun q => by rw [cr] at q; exact Bool.noConfusion q.1)] at ePl
            rw [if_neg (show ¬(false = true) by decide)]
            refine mj_if_ne (tgt := 87) hJ dX6_readLine_82 (by decide) (fun hyes => absurd (by decide) hyes) (fun _ => ?_)
            refine mj_iconst hJ dX6_readLine_85 (by decide) ?_
            exact hR _ _ _ _ _ dX6_readLine_86 (nar_z (by first | exact Or.inl rfl | exact Or.inr rfl | assumption | omega)) (NO _ k5 _ I5 ePl hk5 ht5 h5)
        · have kd4 : ¬ knd g n (nxp g n (nxp g n (nxp g n p))) = 4 := fun z => c4 ((knd_if nb3.2.1).1 z)
          have e4 := hn4 kd4
          subst e4
          rw [if_neg c4] at eif
          rw [if_neg kd4]
          refine mj_if_eq (tgt := 87) hJ dX6_readLine_74 (by decide) (fun _ => ?_) (fun hno => absurd rfl hno)
          subst eif
          exact K87 (k + 1 + 1 + 1) I4 rfl k3 et3 h3
      · have ePl : pln g n A.length p = (false, nxp g n (nxp g n p), (0, 0, [])) := by
          unfold pln
          rw [if_pos ⟨c1, hA⟩, if_pos c2, if_neg c3]
        rw [if_neg c3]
        refine mj_if_ne (tgt := 49) hJ dX6_readLine_44 (by decide) (fun hyes => absurd (by decide) hyes) (fun _ => ?_)
        refine mj_iconst hJ dX6_readLine_47 (by decide) ?_
        exact hR _ _ _ _ _ dX6_readLine_48 (nar_z (by first | exact Or.inl rfl | exact Or.inr rfl | assumption | omega)) (NO _ (k + 1 + 1) _ I2 ePl k2 et2 h2)
    · have ePl : pln g n A.length p = (false, nxp g n p, (0, 0, [])) := by
        unfold pln
        rw [if_pos ⟨c1, hA⟩, if_neg c2]
      rw [if_neg c2]
      refine mj_if_ne (tgt := 18) hJ dX6_readLine_13 (by decide) (fun hyes => absurd (by decide) hyes) (fun _ => ?_)
      refine mj_iconst hJ dX6_readLine_16 (by decide) ?_
      exact hR _ _ _ _ _ dX6_readLine_17 (nar_z (by first | exact Or.inl rfl | exact Or.inr rfl | assumption | omega)) (NO _ (k + 1) _ I1 ePl k1 et1 h1)
  · have kd : ¬ knd g n p = 3 := fun z => c1 ((knd_let tb.2).1 z)
    have e1 := hn1 kd
    subst e1
    have ePl : pln g n A.length p = (false, p, (0, 0, [])) := by
      unfold pln
      rw [if_neg (fun q => c1 q.1)]
    rw [if_neg kd]
    refine mj_if_eq (tgt := 16) hJ dX6_readLine_5 (by decide) (fun _ => ?_) (fun hno => absurd rfl hno)
    refine mj_iconst hJ dX6_readLine_16 (by decide) ?_
    exact hR _ _ _ _ _ dX6_readLine_17 (nar_z (by first | exact Or.inl rfl | exact Or.inr rfl | assumption | omega)) (NO _ k _ I1 ePl hk hp h0)
theorem c_readText {g : Int → Int} {n : Int} (n0 : 0 ≤ n) (hn : n ≤ 200) (h80 : I 80 0 = n) (hg : ∀ j, 0 ≤ j → j < n → I 86 j = g j) : MtI G yX6_readText cX6_readText 2 (some .int) 11 [vr 80] I b (fun z I' b' => z = (if (ptext g n).1 = true then -1 else (ptext g n).2.1) ∧ b' = b ∧ (∀ c, (c < 80 ∨ 89 < c) → I' c = I c) ∧ I' 80 0 = 0 ∧ I' 86 = I 86 ∧ (0 ≤ (ptext g n).2.1 ∧ (ptext g n).2.1 ≤ n) ∧ ((ptext g n).1 = true → TC I' 81 82 83 84 85 (ptext g n).2.2 ∧ stn (ptext g n).2.2 ≤ 200)) := by
  refine mt_enterI (own := RX6) (ls0 := [vr 80, vu]) rfl (by decide +kernel) (Nat.le_of_ble_eq_true rfl) rfl rfl (fun J hJ hR => ?_)
  refine mj_aload_n hJ dX6_readText_0 rfl ?_
  refine mk_Vv0 hJ dX6_readText_1 cw_X6_38 rfl rfl rfl rfl (Nat.le_of_ble_eq_true rfl) (by first | decide | omega) (c_split n0 hn h80 hg) (fun I1 b1 hq9 => ?_)
  obtain ⟨rfl, hf1, cc, hT⟩ := hq9
  refine mj_aload_n hJ dX6_readText_4 rfl ?_
  refine mj_iconst hJ dX6_readText_5 (by decide) ?_
  refine mk_putI (j' := 0) hJ dX6_readText_6 fw_X6_9 rfl (by decide) rfl rfl ?_
  refine mj_aload_n hJ dX6_readText_9 rfl ?_
  refine mj_iconst hJ dX6_readText_10 (by decide) ?_
  refine mk_putI (j' := 6) hJ dX6_readText_11 fw_X6_35 rfl (by decide) rfl rfl ?_
  refine mj_aload_n hJ dX6_readText_14 rfl ?_
  refine mk_getR hJ dX6_readText_15 fw_X6_18 rfl (by decide) rfl rfl ?_
  have clr : ∀ I2 : Ints, MtV G yX5_clear cX5_clear 1 0 [vr 81] I2 b1 (fun I' b' => b' = b1 ∧ I' = upI (upI I2 81 0 0) 81 5 0) := by
    intro I2
    refine mt_enterV (own := RX5) (ls0 := [vr 81]) rfl (by decide +kernel) (Nat.le_of_ble_eq_true rfl) rfl (fun J hJ hR => ?_)
    refine mj_aload_n hJ dX5_clear_0 rfl ?_
    refine mj_iconst hJ dX5_clear_1 (by decide) ?_
    refine mk_putI (j' := 0) hJ dX5_clear_2 fw_X5_7 rfl (by decide) rfl rfl ?_
    refine mj_aload_n hJ dX5_clear_5 rfl ?_
    refine mj_iconst hJ dX5_clear_6 (by decide) ?_
    refine mk_putI (j' := 5) hJ dX5_clear_7 fw_X5_26 rfl (by decide) rfl rfl ?_
    exact hR _ _ _ _ dX5_clear_10 ⟨rfl, rfl⟩
  refine mk_Vv0 hJ dX6_readText_18 cw_X6_41 rfl rfl rfl rfl (Nat.le_of_ble_eq_true rfl) (by first | decide | omega) (clr _) (fun I2 b2 hq9 => ?_)
  obtain ⟨rfl, e2⟩ := hq9
  refine mj_iconst hJ dX6_readText_21 (by decide) ?_
  refine ms_istore_n (ls' := [_, _]) hJ dX6_readText_22 (by decide) rfl rfl ?_
  have hcn := hT.cn n0
  have hL0 : CL I2 I2 0 [] := by
    subst e2
    refine ⟨⟨⟨fun _ _ => rfl, fun _ _ => rfl⟩, by rw [upI_ne (by decide), upI_ne (by decide), upI_at, if_pos rfl]; rfl⟩, ⟨⟨by rw [upI_at, if_neg (by decide), upI_at, if_pos rfl]; rfl, by decide⟩, trivial⟩, by rw [upI_at, if_pos rfl]; rfl⟩
  have f21 : ∀ c, c ≠ 80 → c ≠ 81 → I2 c = I1 c := fun c c1 c2 => by rw [e2, upI_ne c2, upI_ne c2, upI_ne c1, upI_ne c1]
  have e20 : I2 80 0 = 0 := by rw [e2, upI_ne (by decide), upI_ne (by decide), upI_at, if_neg (by decide), upI_at, if_pos rfl]
  have hT2 : TKE I2 g n cc := by
    unfold TKE TK at hT ⊢
    rw [f21 87 (by decide) (by decide), f21 88 (by decide) (by decide), f21 89 (by decide) (by decide)]
    exact hT
  have FR : ∀ (I3 : Ints) (k : Nat), CF I2 I3 k → (∀ c, (c < 80 ∨ 89 < c) → I3 c = I c) ∧ I3 80 0 = 0 ∧ I3 86 = I 86 := by
    intro I3 k h
    exact ⟨fun c hc => by rw [h.1.1 c (by omega), f21 c (by omega) (by omega)]; exact hf1 c (by omega), by rw [h.1.2 0 (by decide)]; exact e20, by rw [h.1.1 86 (by decide), f21 86 (by decide) (by decide)]; exact hf1 86 (by decide)⟩
  -- behind the lines
  have K64 : ∀ (k : Nat) (A : List Ln) (I3 : Ints) (x : Vl), k ≤ cc → CL I2 I3 k A → stn A ≤ tkp g n k → (tkp g n k = n → ptext g n = (true, n, A)) → (tkp g n k ≠ n → (ptext g n).1 = false ∧ (ptext g n).2.1 = tkp g n k) → J 64 [vr 80, x] [] (mk I3 b2) := by
    intro k A I3 x hk h hs hy hno
    have hT3 := hT2.cf h.1
    have tb := tkp_bd (g := g) n0 k
    have fr := FR I3 k h.1
    refine mj_aload_n hJ dX6_readText_64 rfl ?_
    refine mk_getR hJ dX6_readText_65 fw_X6_26 rfl (by decide) rfl rfl ?_
    refine mj_aload_n hJ dX6_readText_68 rfl ?_
    refine mk_getI (j' := 6) hJ dX6_readText_69 fw_X6_35 rfl (by decide) rfl rfl ?_
    rw [h.1.2]
    refine mk_iald hJ dX6_readText_72 rfl (by omega) (by omega) ?_
    rw [hT3.kd n0 hk]
    by_cases c : tkp g n k = n
    · have e := hy c
      rw [e] at hR
      rw [(knd_0 tb.2).2 c]
      refine mj_if_ne (tgt := 80) hJ dX6_readText_73 (by decide) (fun hyes => absurd (by decide) hyes) (fun _ => ?_)
      refine mj_iconst hJ dX6_readText_76 (by decide) ?_
      refine mj_goto (tgt := 89) hJ dX6_readText_77 (by decide) ?_
      exact hR _ _ _ _ _ dX6_readText_89 nar_i ⟨rfl, rfl, fr.1, fr.2.1, fr.2.2, ⟨n0, Int.le_refl _⟩, fun _ => ⟨h.2.1, by show stn A ≤ 200; omega⟩⟩
    · have e := hno c
      rw [e.1, e.2] at hR
      refine mj_if_ne (tgt := 80) hJ dX6_readText_73 (by decide) (fun _ => ?_) (fun hno => absurd hno (fun q => c ((knd_0 tb.2).1 q)))
      refine mj_aload_n hJ dX6_readText_80 rfl ?_
      refine mk_getR hJ dX6_readText_81 fw_X6_32 rfl (by decide) rfl rfl ?_
      refine mj_aload_n hJ dX6_readText_84 rfl ?_
      refine mk_getI (j' := 6) hJ dX6_readText_85 fw_X6_35 rfl (by decide) rfl rfl ?_
      rw [h.1.2]
      refine mk_iald hJ dX6_readText_88 rfl (by omega) (by omega) ?_
      rw [hT3.pl hk]
      exact hR _ _ _ _ _ dX6_readText_89 nar_i ⟨rfl, rfl, fr.1, fr.2.1, fr.2.2, tb, fun q => Bool.noConfusion q⟩
  have loop : ∀ (m k : Nat) (A : List Ln) (I3 : Ints), n - tkp g n k < m → k ≤ cc → CL I2 I3 k A → stn A ≤ tkp g n k → plns g n m (tkp g n k) A = ptext g n → J 23 [vr 80, vi A.length] [] (mk I3 b2) := by
    intro m
    induction m with
    | zero =>
      intro k A I3 hm hk h hs he
      have := tkp_bd (g := g) n0 k
      omega
    | succ m ih =>
      intro k A I3 hm hk h hs he
      have hT3 := hT2.cf h.1
      have tb := tkp_bd (g := g) n0 k
      have fr := FR I3 k h.1
      have hA8 := h.2.1.1.2
      have e1 : plns g n (m + 1) (tkp g n k) A = if tkp g n k < n then (if (pln g n A.length (tkp g n k)).1 = true then plns g n m (pln g n A.length (tkp g n k)).2.1 (A ++ [(pln g n A.length (tkp g n k)).2.2]) else (false, (pln g n A.length (tkp g n k)).2.1, A)) else (true, tkp g n k, A) := rfl
      rw [e1] at he
      have yes : tkp g n k = n → ptext g n = (true, n, A) := fun q => by rw [if_neg (by omega), q] at he; exact he.symm
      refine mj_iload_n hJ dX6_readText_23 rfl ?_
      refine mj_bipush hJ dX6_readText_24 (by decide) ?_
      refine mj_icmp_ge (tgt := 64) hJ dX6_readText_26 (by decide) (fun c8 => ?_) (fun c8 => ?_)
      · refine K64 k A I3 _ hk h hs yes (fun q => ?_)
        rw [if_pos (by omega)] at he
        have ep : pln g n A.length (tkp g n k) = (false, tkp g n k, (0, 0, [])) := by
          unfold pln
          rw [if_neg (fun q => by have := q.2; omega)]
        rw [ep] at he
        rw [← he]
        exact ⟨rfl, rfl⟩
      · refine mj_aload_n hJ dX6_readText_29 rfl ?_
        refine mk_getR hJ dX6_readText_30 fw_X6_26 rfl (by decide) rfl rfl ?_
        refine mj_aload_n hJ dX6_readText_33 rfl ?_
        refine mk_getI (j' := 6) hJ dX6_readText_34 fw_X6_35 rfl (by decide) rfl rfl ?_
        rw [h.1.2]
        refine mk_iald hJ dX6_readText_37 rfl (by omega) (by omega) ?_
        rw [hT3.kd n0 hk]
        by_cases c : tkp g n k = n
        · rw [(knd_0 tb.2).2 c]
          refine mj_if_eq (tgt := 64) hJ dX6_readText_38 (by decide) (fun _ => ?_) (fun hno => absurd rfl hno)
          exact K64 k A I3 _ hk h hs yes (fun q => absurd c q)
        · refine mj_if_eq (tgt := 64) hJ dX6_readText_38 (by decide) (fun hyes => absurd hyes (fun q => c ((knd_0 tb.2).1 q))) (fun _ => ?_)
          refine mj_aload_n hJ dX6_readText_41 rfl ?_
          refine mk_Vi0 hJ dX6_readText_42 cw_X6_44 rfl rfl rfl rfl (Nat.le_of_ble_eq_true rfl) (by first | decide | omega) (c_readLine hT2 n0 hn h hk (by omega) hs) (fun z I4 b4 hq9 => ?_)
          obtain ⟨rfl, rfl, k4, hk4, ht4, hc4, hr4⟩ := hq9
          have plt := fun q => pln_ok (g := g) (n := n) (k := A.length) (p := tkp g n k) (by omega) q
          rw [if_pos (by omega)] at he
          generalize pln g n A.length (tkp g n k) = R at he ht4 hr4 plt ⊢
          cases cr : R.1 with
          | true =>
            rw [cr, if_pos rfl] at he
            have h4 := hr4 cr
            have pl := plt cr
            rw [if_pos rfl]
            refine mj_if_ne (tgt := 58) hJ dX6_readText_45 (by decide) (fun _ => ?_) (fun hno => absurd hno (by decide))
            refine ms_iinc (ls' := [_, _]) hJ dX6_readText_58 rfl (by decide) rfl (wr_id (by omega)) rfl ?_
            refine mj_goto (tgt := 23) hJ dX6_readText_61 (by decide) ?_
            have el : (A.length : Int) + 1 = ((A ++ [R.2.2]).length : Int) := by rw [List.length_append]; rfl
            rw [el]
            exact ih k4 (A ++ [R.2.2]) I4 (by rw [ht4]; omega) hk4 h4.1 (by rw [ht4]; exact h4.2) (by rw [ht4]; exact he)
          | false =>
            rw [cr, if_neg (by decide)] at he
            rw [if_neg (show ¬(false = true) by decide)]
            refine mj_if_ne (tgt := 58) hJ dX6_readText_45 (by decide) (fun hyes => absurd (by decide) hyes) (fun _ => ?_)
            have fr4 := FR I4 k4 hc4
            refine mj_aload_n hJ dX6_readText_48 rfl ?_
            refine mk_getR hJ dX6_readText_49 fw_X6_32 rfl (by decide) rfl rfl ?_
            refine mj_aload_n hJ dX6_readText_52 rfl ?_
            refine mk_getI (j' := 6) hJ dX6_readText_53 fw_X6_35 rfl (by decide) rfl rfl ?_
            rw [hc4.2]
            refine mk_iald hJ dX6_readText_56 rfl (by omega) (by omega) ?_
            rw [(hT2.cf hc4).pl hk4, ht4]
            rw [← he] at hR
            have tb4 := tkp_bd (g := g) n0 k4
            rw [ht4] at tb4
            exact hR _ _ _ _ _ dX6_readText_57 nar_i ⟨rfl, rfl, fr4.1, fr4.2.1, fr4.2.2, tb4, fun q => Bool.noConfusion q⟩
  have sb := skp_bd (g := g) n0
  exact loop (n + 1).toNat 0 [] I2 (by show n - skp g n 0 < _; omega) (Nat.zero_le _) hL0 sb.1 rfl
/-- the class reads its tape -/
theorem c_read (h : RX I N T) : MtI G yX8_read cX8_read 2 (some .int) 12 [vr 0] I b (fun z I' _ => z = F_read N ∧ (∀ c, 111 ≤ c → I' c = I c) ∧ ((ptext (N 127) (N 111 17)).1 = true → ∀ f : Int → Int, TM f (ptext (N 127) (N 111 17)).2.2 → (∀ j : Int, 0 ≤ j → j < 124 → j ≠ 2 → j ≠ 3 → f j = N 112 j) → RX I' (upI (rowI N 112 f) 111 17 0) (ptext (N 127) (N 111 17)).2.2) ∧ ((ptext (N 127) (N 111 17)).1 = false → RX I' (upI N 111 17 0) T)) := by
  refine mt_enterI (own := RX8) (ls0 := [vr 0, vu]) rfl (by decide +kernel) (Nat.le_of_ble_eq_true rfl) rfl rfl (fun J hJ hR => ?_)
  have hs := h.1.2.1
  have ht := h.2.2.2.2.2.2.1
  have hw := h.1.1
  refine mj_aload_n hJ dX8_read_0 rfl ?_
  refine mk_getR hJ dX8_read_1 fw_X8_47 rfl (by decide) rfl rfl ?_
  refine mk_Vi0 hJ dX8_read_4 cw_X8_214 rfl rfl rfl rfl (Nat.le_of_ble_eq_true rfl) (by first | decide | omega) (c_readText (g := N 127) hs.2.2.2.1 hs.2.2.2.2 ht.1 ht.2) (fun z I1 b1 hq9 => ?_)
  obtain ⟨rfl, rfl, hf, h80, h86, hp0, hr⟩ := hq9
  obtain ⟨R, eR⟩ : ∃ R, ptext (N 127) (N 111 17) = R := ⟨_, rfl⟩
  have eF : F_read N = if R.1 = true then (R.2.2.length : Int) else -100 - R.2.1 := by rw [← eR]; rfl
  have htap : ∀ N' : Ints, N' 111 17 = 0 → RTape I1 N' := fun N' e => ⟨by rw [e]; exact h80, fun j j0 j1 => by rw [e] at j1; omega⟩
  rw [eR] at hp0 hr hR ⊢
  rw [eF] at hR
  refine ms_istore_n (ls' := [_, _]) hJ dX8_read_7 (by decide) rfl rfl ?_
  refine mj_iload_n hJ dX8_read_8 rfl ?_
  cases c : R.1 with
  | true =>
    rw [if_pos rfl]
    have h1 := hr c
    refine mj_if_lt (tgt := 17) hJ dX8_read_9 (by decide) (fun _ => ?_) (fun hno => absurd (by decide) hno)
    refine mj_aload_n hJ dX8_read_17 rfl ?_
    refine mk_getR hJ dX8_read_18 fw_X8_12 rfl (by decide) rfl rfl ?_
    refine mk_getR hJ dX8_read_21 fw_X8_217 rfl (by decide) rfl rfl ?_
    refine mj_aload_n hJ dX8_read_24 rfl ?_
    refine mk_getR hJ dX8_read_25 fw_X8_47 rfl (by decide) rfl rfl ?_
    refine mk_getR hJ dX8_read_28 fw_X8_221 rfl (by decide) rfl rfl ?_
    refine mk_Vv1 hJ dX8_read_31 cw_X8_224 rfl rfl rfl rfl (Nat.le_of_ble_eq_true rfl) (by first | decide | omega) (c_tcopy_17_81 h1.1 h1.2) (fun I2 b2 hq9 => ?_)
    obtain ⟨rfl, hf2, hT2⟩ := hq9
    refine mj_aload_n hJ dX8_read_34 rfl ?_
    refine mk_getR hJ dX8_read_35 fw_X8_12 rfl (by decide) rfl rfl ?_
    refine mk_getR hJ dX8_read_38 fw_X8_217 rfl (by decide) rfl rfl ?_
    refine mk_getI (j' := 0) hJ dX8_read_41 fw_X8_230 rfl (by decide) rfl rfl ?_
    rw [hT2.1.1]
    rw [if_pos c] at hR
    have fI : ∀ c, (c < 17 ∨ (21 < c ∧ c < 80) ∨ 89 < c) → I2 c = I c := fun c hc => by rw [hf2 c (by omega)]; exact hf c (by omega)
    refine hR _ _ _ _ _ dX8_read_44 nar_i ⟨rfl, fun c hc => fI c (by omega), fun _ f hTM hfj => ?_, fun q => Bool.noConfusion (c.symm.trans q)⟩
    obtain ⟨⟨w1, w2, w3⟩, ⟨w4, w5⟩, w6, w7, w8, w9, w10, w11⟩ := h
    have eN : ∀ c, c ≠ 111 → c ≠ 112 → upI (rowI N 112 f) 111 17 0 c = N c := fun c c1 c2 => by rw [upI_ne c1, rowI_ne c2]
    have e112 : upI (rowI N 112 f) 111 17 0 112 = f := by rw [upI_ne (by decide), rowI_at]
    have e111 : ∀ j, j ≠ 17 → upI (rowI N 112 f) 111 17 0 111 j = N 111 j := fun j j1 => by rw [upI_at, if_neg j1, rowI_ne (by decide)]
    have hn := w1.nv
    have hy := w1.ny
    refine ⟨⟨?_, ?_, by rw [e112]; exact hTM⟩, ⟨?_, hT2⟩, w6.same w2 (by rw [fI 0 (by decide)]) (fun c c1 c2 => fI c (by omega)) (e111 31 (by decide)) (eN 135 (by decide) (by decide)), w7.same (fun c c1 c2 => fI c (by omega)) (fun c c1 c2 => eN c (by omega) (by omega)), w8.same (fI 99 (by decide)) (fI 100 (by decide)) (fun c c1 c2 => eN c (by omega) (by omega)), w9.same (by rw [fI 101 (by decide)]) (fI 102 (by decide)) (e111 39 (by decide)) (eN 142 (by decide) (by decide)), ⟨?_, fun j j0 j1 => ?_⟩, ?_⟩
    · rw [e112]
      have f3 := tml_f3 _ 0 0 hTM.2.2 (Int.le_refl _)
      have o := fun j j0 j1 j2 j3 => hfj j j0 j1 j2 j3
      refine ⟨by rw [o 0 (by decide) (by decide) (by decide) (by decide)]; exact w1.1, by rw [o 1 (by decide) (by decide) (by decide) (by decide)]; exact w1.2.1, by rw [hTM.1]; have := hTM.2.1; omega, f3, by rw [o 0 (by decide) (by decide) (by decide) (by decide), o 4 (by decide) (by decide) (by decide) (by decide), o 5 (by decide) (by decide) (by decide) (by decide)]; exact w1.dm, fun u u0 u1 => ?_, fun u k u0 u1 k0 k1 => ?_, fun y y0 y1 => ?_⟩
      · rw [o _ (by omega) (by omega) (by omega) (by omega), o _ (by omega) (by omega) (by omega) (by omega), o _ (by omega) (by omega) (by omega) (by omega), o _ (by omega) (by omega) (by omega) (by omega), o _ (by omega) (by omega) (by omega) (by omega), o _ (by omega) (by omega) (by omega) (by omega)]; exact w1.fact u0 u1
      · rw [o _ (by omega) (by omega) (by omega) (by omega)]; exact w1.worth u0 u1 k0 k1
      · rw [o _ (by omega) (by omega) (by omega) (by omega)]; exact w1.wet y0 y1
    · unfold WS
      rw [e111 31 (by decide), e111 39 (by decide), eN 136 (by decide) (by decide), eN 137 (by decide) (by decide), eN 139 (by decide) (by decide), eN 140 (by decide) (by decide), upI_at, if_pos rfl]
      exact ⟨w2.1, w2.2.1, w2.2.2.1, by decide⟩
    · rw [e112]
      exact LD.congrT w1 (LN.same w1 w4 (fun c c1 c2 => fI c (by omega))) hfj
    · rw [upI_at, if_pos rfl, hf2 80 (by decide)]; exact h80
    · rw [upI_at, if_pos rfl] at j1; omega
    · refine w11.same (by rw [fI 0 (by decide)]) (fun c c1 c2 => fI c (by omega)) (e111 2 (by decide)) (eN 113 (by decide) (by decide))
  | false =>
    rw [if_neg (show ¬(false = true) by decide)]
    have rb : R.2.1 ≤ 200 := Int.le_trans hp0.2 hs.2.2.2.2
    refine mj_if_lt (tgt := 17) hJ dX8_read_9 (by decide) (fun hyes => absurd hyes (by omega)) (fun _ => ?_)
    refine mj_bipush hJ dX8_read_12 (by decide) ?_
    refine mj_iload_n hJ dX8_read_14 rfl ?_
    first | refine ms_isub hJ dX8_read_15 (by omega) ?_ | refine mj_isub hJ dX8_read_15 ?_
    rw [if_neg (by rw [c]; decide)] at hR
    refine hR _ _ _ _ _ dX8_read_16 nar_i ⟨rfl, fun c hc => hf c (by omega), fun q => Bool.noConfusion (c.symm.trans q), fun _ => ?_⟩
    exact h.tap (fun c hc => hf c (by omega)) (fun c c1 _ => upI_ne c1) (fun j j1 => by rw [upI_at, if_neg j1]) (by rw [upI_at, if_pos rfl]; decide) (htap _ (by rw [upI_at, if_pos rfl]))
end C17
