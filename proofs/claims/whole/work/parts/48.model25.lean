section M25
variable {G : GE} {I : Ints} {b : Bool}
theorem c_X9_read (hs : WS I) : MtI G yX9_read cX9_read 4 (some .int) 22 [vr 111] I b (fun z I' b' => z = F_read I ∧ b' = b ∧ ((ptext (I 127) (I 111 17)).1 = true → ∃ f : Int → Int, TM f (ptext (I 127) (I 111 17)).2.2 ∧ (∀ j : Int, j < 124 → j ≠ 2 → j ≠ 3 → f j = I 112 j) ∧ Same (upI (rowI I 112 f) 111 17 0) I') ∧ ((ptext (I 127) (I 111 17)).1 = false → Same (upI I 111 17 0) I')) := by
  refine mt_enterI (own := RX9) (ls0 := [vr 111, vu, vu, vu]) rfl (by decide +kernel) (Nat.le_of_ble_eq_true rfl) rfl rfl (fun J hJ hR => ?_)
  have ht := hs.2.2.2
  refine mj_aload_n hJ dX9_read_0 rfl ?_
  refine mj_iconst hJ dX9_read_1 (by decide) ?_
  refine mk_putI (j' := 19) hJ dX9_read_2 fw_X9_175 rfl (by decide) rfl rfl ?_
  refine mj_aload_n hJ dX9_read_5 rfl ?_
  refine mj_iconst hJ dX9_read_6 (by decide) ?_
  refine mk_putZ (j' := 20) hJ dX9_read_7 fw_X9_187 rfl (by decide) rfl (by first | exact Or.inl rfl | exact Or.inr rfl | assumption | omega) rfl ?_
  refine mj_aload_n hJ dX9_read_10 rfl ?_
  refine mj_iconst hJ dX9_read_11 (by decide) ?_
  refine mk_putI (j' := 21) hJ dX9_read_12 fw_X9_228 rfl (by decide) rfl rfl ?_
  refine mj_aload_n hJ dX9_read_15 rfl ?_
  refine mj_iconst hJ dX9_read_16 (by decide) ?_
  refine mk_putI (j' := 22) hJ dX9_read_17 fw_X9_207 rfl (by decide) rfl rfl ?_
  refine mj_iconst hJ dX9_read_20 (by decide) ?_
  refine ms_istore_n (ls' := [_, _, _, _]) hJ dX9_read_21 (by decide) rfl rfl ?_
  refine mj_aload_n hJ dX9_read_22 rfl ?_
  obtain ⟨I1, hI1⟩ : ∃ x, upI (upI (upI (upI I 111 19 0) 111 20 0) 111 21 0) 111 22 0 = x := ⟨_, rfl⟩
  have e1c : ∀ c, c ≠ 111 → I1 c = I c := fun c hc => by rw [← hI1, upI_ne hc, upI_ne hc, upI_ne hc, upI_ne hc]
  have e1j : ∀ j, j < 19 ∨ 22 < j → I1 111 j = I 111 j := fun j hj => by rw [← hI1, upI_at, if_neg (by omega), upI_at, if_neg (by omega), upI_at, if_neg (by omega), upI_at, if_neg (by omega)]
  have e19 : I1 111 19 = 0 := by rw [← hI1, upI_at, if_neg (by decide), upI_at, if_neg (by decide), upI_at, if_neg (by decide), upI_at, if_pos rfl]
  have e20 : I1 111 20 = 0 := by rw [← hI1, upI_at, if_neg (by decide), upI_at, if_neg (by decide), upI_at, if_pos rfl]
  have e21 : I1 111 21 = 0 := by rw [← hI1, upI_at, if_neg (by decide), upI_at, if_pos rfl]
  have e22 : I1 111 22 = 0 := by rw [← hI1, upI_at, if_pos rfl]
  rw [hI1]
  have e17 := e1j 17 (by decide)
  have e127 := e1c 127 (by decide)
  obtain ⟨n, hn⟩ : ∃ n, I 111 17 = n := ⟨_, rfl⟩
  obtain ⟨g, hg⟩ : ∃ g, I 127 = g := ⟨_, rfl⟩
  rw [hn] at ht e17
  rw [hg] at e127
  unfold F_read at hR
  rw [hn, hg] at hR
  -- a fault
  have FA : ∀ (q k : Int) (I0 I2 : Ints), (∀ c, c ≠ 129 → I0 c = I1 c) → (∀ C', RD I0 I2 true q C') → (ptext g n).1 = false → (ptext g n).2.1 = q → 0 ≤ k → J 55 [vr 111, vi k, vu, vu] [] (mk I2 b) := by
    intro q k I0 I2 h0 h2 r1 r2 k0
    have h2 := h2 []
    have hq := h2.2.2.1.1
    have hn0 : I0 111 17 = n := by rw [h0 111 (by decide)]; exact e17
    rw [hn0] at hq
    refine mj_aload_n hJ dX9_read_55 rfl ?_
    refine mk_getI (j' := 18) hJ dX9_read_56 fw_X9_178 rfl (by decide) rfl rfl ?_
    rw [h2.2.1.1]
    refine ms_istore_n (ls' := [_, _, _, _]) hJ dX9_read_59 (by decide) rfl rfl ?_
    refine mj_aload_n hJ dX9_read_60 rfl ?_
    refine mj_iconst hJ dX9_read_61 (by decide) ?_
    refine mk_putI (j' := 17) hJ dX9_read_62 fw_X9_169 rfl (by decide) rfl rfl ?_
    refine mj_aload_n hJ dX9_read_65 rfl ?_
    refine mk_getI (j' := 20) hJ dX9_read_66 fw_X9_187 rfl (by decide) rfl rfl ?_
    rw [upI_at, if_neg (by decide), h2.2.1.2.2]
    refine mj_if_eq (tgt := 77) hJ dX9_read_69 (by decide) (fun hyes => absurd hyes (by decide)) (fun _ => ?_)
    refine mj_bipush hJ dX9_read_72 (by decide) ?_
    refine mj_iload_n hJ dX9_read_74 rfl ?_
    first | refine ms_isub hJ dX9_read_75 (by omega) ?_ | refine mj_isub hJ dX9_read_75 ?_
    refine hR _ _ _ _ _ dX9_read_76 nar_i ⟨by rw [if_neg (by rw [r1]; decide), r2], rfl, fun z => by rw [r1] at z; exact Bool.noConfusion z, fun _ => ?_⟩
    refine ⟨fun c hc => ?_, ?_, ?_, ?_, ?_⟩
    · rw [upI_ne (by omega), upI_ne (by omega), h2.1.1 c (by omega) (by omega), h0 c (by omega), e1c c (by omega)]
    · rw [upI_at, if_neg (by decide), upI_at, if_neg (by decide), h2.1.2 2 (by decide) (by decide) (by decide) (by decide), h0 111 (by decide), e1j 2 (by decide)]
    · rw [upI_at, if_pos rfl, upI_at, if_pos rfl]
    · rw [upI_at, if_neg (by decide), upI_at, if_neg (by decide), h2.1.2 31 (by decide) (by decide) (by decide) (by decide), h0 111 (by decide), e1j 31 (by decide)]
    · rw [upI_at, if_neg (by decide), upI_at, if_neg (by decide), h2.1.2 39 (by decide) (by decide) (by decide) (by decide), h0 111 (by decide), e1j 39 (by decide)]
  -- all is right
  have OK : ∀ (p : Int) (T : List Ln) (I0 I2 : Ints), (∀ c, c ≠ 129 → I0 c = I1 c) → RD I0 I2 false p (allc T) → frl (I0 129) 0 0 T → T.length ≤ 8 → ptext g n = (true, p, T) → J 55 [vr 111, vi T.length, vu, vu] [] (mk I2 b) := by
    intro p T I0 I2 h0 h2 hfr hT8 hpt
    have hq := h2.2.2.1.1
    have hn0 : I0 111 17 = n := by rw [h0 111 (by decide)]; exact e17
    rw [hn0] at hq
    have hcd := h2.2.2.2 rfl
    have e129 : I2 129 = I0 129 := h2.1.1 129 (by decide) (by decide)
    have e112 : I2 112 = I 112 := by rw [h2.1.1 112 (by decide) (by decide), h0 112 (by decide), e1c 112 (by decide)]
    have hcl : ((allc T).length : Int) ≤ 200 := by have := hcd.2.2; omega
    have hT0 : (0 : Int) ≤ T.length := by omega
    obtain ⟨t, htl⟩ : ∃ t : Int, (T.length : Int) = t := ⟨_, rfl⟩
    obtain ⟨cl, hcl2⟩ : ∃ t : Int, ((allc T).length : Int) = t := ⟨_, rfl⟩
    have t8 : t ≤ 8 := by omega
    rw [htl] at hT0 ⊢
    rw [hcl2] at hcl
    have hcl0 : 0 ≤ cl := by omega
    refine mj_aload_n hJ dX9_read_55 rfl ?_
    refine mk_getI (j' := 18) hJ dX9_read_56 fw_X9_178 rfl (by decide) rfl rfl ?_
    rw [h2.2.1.1]
    refine ms_istore_n (ls' := [_, _, _, _]) hJ dX9_read_59 (by decide) rfl rfl ?_
    refine mj_aload_n hJ dX9_read_60 rfl ?_
    refine mj_iconst hJ dX9_read_61 (by decide) ?_
    refine mk_putI (j' := 17) hJ dX9_read_62 fw_X9_169 rfl (by decide) rfl rfl ?_
    refine mj_aload_n hJ dX9_read_65 rfl ?_
    refine mk_getI (j' := 20) hJ dX9_read_66 fw_X9_187 rfl (by decide) rfl rfl ?_
    rw [upI_at, if_neg (by decide), h2.2.1.2.2]
    refine mj_if_eq (tgt := 77) hJ dX9_read_69 (by decide) (fun _ => ?_) (fun hno => absurd rfl hno)
    -- the codes
    have loop2 : ∀ (m : Nat) (k : Int) (I4 : Ints), 0 ≤ k → k + m = cl → (∀ c, c ≠ 112 → I4 c = upI I2 111 17 0 c) → (∀ j : Int, I4 112 j = if 156 ≤ j ∧ j < 156 + k then I2 128 (j - 156) else if 124 ≤ j ∧ j < 124 + 4 * t then I0 129 (j - 124) else I 112 j) → J 109 [vr 111, vi t, vi p, vi k] [] (mk I4 b) := by
      intro m
      induction m with
      | zero =>
        intro k I4 k0 km hf hr
        have ek : k = cl := by omega
        subst ek
        have e22 : I4 111 22 = k := by rw [hf 111 (by decide), upI_at, if_neg (by decide), hcd.1, hcl2]
        refine mj_iload_n hJ dX9_read_109 rfl ?_
        refine mj_aload_n hJ dX9_read_110 rfl ?_
        refine mk_getI (j' := 22) hJ dX9_read_111 fw_X9_207 rfl (by decide) rfl rfl ?_
        rw [e22]
        refine mj_icmp_ge (tgt := 139) hJ dX9_read_114 (by decide) (fun _ => ?_) (fun hno => absurd (by omega) hno)
        refine mj_aload_n hJ dX9_read_139 rfl ?_
        refine mk_getR hJ dX9_read_140 fw_X9_9 rfl (by decide) rfl rfl ?_
        refine mj_iconst hJ dX9_read_143 (by decide) ?_
        refine mj_iload_n hJ dX9_read_144 rfl ?_
        refine mk_iast hJ dX9_read_145 rfl (by omega) (by omega) ?_
        refine mj_aload_n hJ dX9_read_146 rfl ?_
        refine mk_getR hJ dX9_read_147 fw_X9_9 rfl (by decide) rfl rfl ?_
        refine mj_iconst hJ dX9_read_150 (by decide) ?_
        refine mj_aload_n hJ dX9_read_151 rfl ?_
        refine mk_getI (j' := 22) hJ dX9_read_152 fw_X9_207 rfl (by decide) rfl rfl ?_
        rw [upI_ne (by decide), e22]
        refine mk_iast hJ dX9_read_155 rfl (by omega) (by omega) ?_
        refine mj_iload_n hJ dX9_read_156 rfl ?_
        have et : (ptext g n).2.2 = T := by rw [hpt]
        have er : (ptext g n).1 = true := by rw [hpt]
        refine hR _ _ _ _ _ dX9_read_157 nar_i ⟨by rw [if_pos er, et, htl], rfl, fun _ => ?_, fun z => by rw [er] at z; exact Bool.noConfusion z⟩
        rw [et]
        obtain ⟨f, hf2⟩ : ∃ f, upI (upI I4 112 2 t) 112 3 k 112 = f := ⟨_, rfl⟩
        have fj : ∀ j : Int, j ≠ 2 → j ≠ 3 → f j = I4 112 j := fun j j2 j3 => by rw [← hf2, upI_at, if_neg j3, upI_at, if_neg j2]
        refine ⟨f, ⟨by rw [← hf2, upI_at, if_neg (by decide), upI_at, if_pos rfl, htl], hT8, ?_⟩, fun j j0 j2 j3 => by rw [fj j j2 j3, hr, if_neg (by omega), if_neg (by omega)], ?_⟩
        · refine tml_frl (g := I0 129) (s := I2 128) T 0 0 (fun j a c => ?_) (fun j a c => ?_) (by rw [← hf2, upI_at, if_pos rfl, hcl2]; omega) (by omega) hfr hcd.2.1
          · rw [fj _ (by omega) (by omega), hr, if_neg (by omega), if_pos (by omega)]
            congr 1
            omega
          · rw [fj _ (by omega) (by omega), hr, if_pos (by omega)]
            congr 1
            omega
        · refine ⟨fun c hc => ?_, ?_, ?_, ?_, ?_⟩
          · by_cases c1 : c = 112
            · subst c1
              rw [hf2, upI_ne (by decide), rowI_at]
            · rw [upI_ne c1, upI_ne c1, hf c c1, upI_ne (by omega), upI_ne (by omega), rowI_ne c1, h2.1.1 c (by omega) (by omega), h0 c (by omega), e1c c (by omega)]
          · rw [upI_ne (by decide), upI_ne (by decide), hf 111 (by decide), upI_at, if_neg (by decide), upI_at, if_neg (by decide), rowI_ne (by decide), h2.1.2 2 (by decide) (by decide) (by decide) (by decide), h0 111 (by decide), e1j 2 (by decide)]
          · rw [upI_ne (by decide), upI_ne (by decide), hf 111 (by decide), upI_at, if_pos rfl, upI_at, if_pos rfl]
          · rw [upI_ne (by decide), upI_ne (by decide), hf 111 (by decide), upI_at, if_neg (by decide), upI_at, if_neg (by decide), rowI_ne (by decide), h2.1.2 31 (by decide) (by decide) (by decide) (by decide), h0 111 (by decide), e1j 31 (by decide)]
          · rw [upI_ne (by decide), upI_ne (by decide), hf 111 (by decide), upI_at, if_neg (by decide), upI_at, if_neg (by decide), rowI_ne (by decide), h2.1.2 39 (by decide) (by decide) (by decide) (by decide), h0 111 (by decide), e1j 39 (by decide)]
      | succ m ih =>
        intro k I4 k0 km hf hr
        have e22 : I4 111 22 = cl := by rw [hf 111 (by decide), upI_at, if_neg (by decide), hcd.1, hcl2]
        refine mj_iload_n hJ dX9_read_109 rfl ?_
        refine mj_aload_n hJ dX9_read_110 rfl ?_
        refine mk_getI (j' := 22) hJ dX9_read_111 fw_X9_207 rfl (by decide) rfl rfl ?_
        rw [e22]
        refine mj_icmp_ge (tgt := 139) hJ dX9_read_114 (by decide) (fun hyes => absurd hyes (by omega)) (fun _ => ?_)
        refine mj_aload_n hJ dX9_read_117 rfl ?_
        refine mk_getR hJ dX9_read_118 fw_X9_9 rfl (by decide) rfl rfl ?_
        refine mj_sipush hJ dX9_read_121 (by decide) ?_
        refine mj_iload_n hJ dX9_read_124 rfl ?_
        first | refine ms_iadd hJ dX9_read_125 (by omega) ?_ | refine mj_iadd hJ dX9_read_125 ?_
        refine mj_aload_n hJ dX9_read_126 rfl ?_
        refine mk_getR hJ dX9_read_127 fw_X9_59 rfl (by decide) rfl rfl ?_
        refine mj_iload_n hJ dX9_read_130 rfl ?_
        refine mk_iald hJ dX9_read_131 rfl (by omega) (by omega) ?_
        rw [hf 128 (by decide), upI_ne (by decide)]
        refine mk_iast hJ dX9_read_132 rfl (by omega) (by omega) ?_
        refine ms_iinc (ls' := [_, _, _, _]) hJ dX9_read_133 rfl (by decide) rfl (wr_id (by omega)) rfl ?_
        refine mj_goto (tgt := 109) hJ dX9_read_136 (by decide) ?_
        refine ih (k + 1) _ (by omega) (by omega) (fun c hc => (upI_ne hc).trans (hf c hc)) (fun j => ?_)
        rw [upI_at, hr]
        by_cases e : j = 156 + k
        · subst e
          rw [if_pos rfl, if_pos (by omega), show 156 + k - 156 = k by omega]
        · rw [if_neg e]
          by_cases q : 156 ≤ j ∧ j < 156 + k
          · rw [if_pos q, if_pos (by omega)]
          · rw [if_neg q, if_neg (show ¬(156 ≤ j ∧ j < 156 + (k + 1)) by omega)]
    have loop1 : ∀ (m : Nat) (k : Int) (I4 : Ints), 0 ≤ k → k + m = 4 * t → (∀ c, c ≠ 112 → I4 c = upI I2 111 17 0 c) → (∀ j : Int, I4 112 j = if 124 ≤ j ∧ j < 124 + k then I0 129 (j - 124) else I 112 j) → J 79 [vr 111, vi t, vi p, vi k] [] (mk I4 b) := by
      intro m
      induction m with
      | zero =>
        intro k I4 k0 km hf hr
        refine mj_iload_n hJ dX9_read_79 rfl ?_
        refine mj_iconst hJ dX9_read_80 (by decide) ?_
        refine mj_iload_n hJ dX9_read_81 rfl ?_
        first | refine ms_imul hJ dX9_read_82 (by omega) ?_ | refine mj_imul hJ dX9_read_82 ?_
        refine mj_icmp_ge (tgt := 107) hJ dX9_read_83 (by decide) (fun _ => ?_) (fun hno => absurd (by omega) hno)
        refine mj_iconst hJ dX9_read_107 (by decide) ?_
        refine ms_istore_n (ls' := [_, _, _, _]) hJ dX9_read_108 (by decide) rfl rfl ?_
        refine loop2 cl.toNat 0 I4 (by omega) (by omega) hf (fun j => ?_)
        rw [if_neg (by omega), hr, show k = 4 * t by omega]
      | succ m ih =>
        intro k I4 k0 km hf hr
        refine mj_iload_n hJ dX9_read_79 rfl ?_
        refine mj_iconst hJ dX9_read_80 (by decide) ?_
        refine mj_iload_n hJ dX9_read_81 rfl ?_
        first | refine ms_imul hJ dX9_read_82 (by omega) ?_ | refine mj_imul hJ dX9_read_82 ?_
        refine mj_icmp_ge (tgt := 107) hJ dX9_read_83 (by decide) (fun hyes => absurd hyes (by omega)) (fun _ => ?_)
        refine mj_aload_n hJ dX9_read_86 rfl ?_
        refine mk_getR hJ dX9_read_87 fw_X9_9 rfl (by decide) rfl rfl ?_
        refine mj_bipush hJ dX9_read_90 (by decide) ?_
        refine mj_iload_n hJ dX9_read_92 rfl ?_
        first | refine ms_iadd hJ dX9_read_93 (by omega) ?_ | refine mj_iadd hJ dX9_read_93 ?_
        refine mj_aload_n hJ dX9_read_94 rfl ?_
        refine mk_getR hJ dX9_read_95 fw_X9_62 rfl (by decide) rfl rfl ?_
        refine mj_iload_n hJ dX9_read_98 rfl ?_
        refine mk_iald hJ dX9_read_99 rfl (by omega) (by omega) ?_
        rw [hf 129 (by decide), upI_ne (by decide), e129]
        refine mk_iast hJ dX9_read_100 rfl (by omega) (by omega) ?_
        refine ms_iinc (ls' := [_, _, _, _]) hJ dX9_read_101 rfl (by decide) rfl (wr_id (by omega)) rfl ?_
        refine mj_goto (tgt := 79) hJ dX9_read_104 (by decide) ?_
        refine ih (k + 1) _ (by omega) (by omega) (fun c hc => (upI_ne hc).trans (hf c hc)) (fun j => ?_)
        rw [upI_at, hr]
        by_cases e : j = 124 + k
        · subst e
          rw [if_pos rfl, if_pos (by omega), show 124 + k - 124 = k by omega]
        · rw [if_neg e]
          by_cases q : 124 ≤ j ∧ j < 124 + k
          · rw [if_pos q, if_pos (by omega)]
          · rw [if_neg q, if_neg (show ¬(124 ≤ j ∧ j < 124 + (k + 1)) by omega)]
    refine mj_iconst hJ dX9_read_77 (by decide) ?_
    refine ms_istore_n (ls' := [_, _, _, _]) hJ dX9_read_78 (by decide) rfl rfl ?_
    exact loop1 (4 * t).toNat 0 _ (by omega) (by omega) (fun c _ => rfl) (fun j => by rw [if_neg (by omega), upI_ne (by decide), e112])
  have loop : ∀ (m : Nat) (p : Int) (T : List Ln) (I0 I2 : Ints), (∀ c, c ≠ 129 → I0 c = I1 c) → RD I0 I2 false p (allc T) → frl (I0 129) 0 0 T → T.length ≤ 8 → n + 1 - p ≤ m → ptext g n = plns g n m p T → J 26 [vr 111, vi T.length, vu, vu] [] (mk I2 b) := by
    intro m
    induction m with
    | zero =>
      intro p T I0 I2 h0 h2 hfr hT8 hm hpt
      have hn0 : I0 111 17 = n := by rw [h0 111 (by decide)]; exact e17
      have hq := h2.2.2.1.1
      omega
    | succ m ih =>
      intro p T I0 I2 h0 h2 hfr hT8 hm hpt
      have hn0 : I0 111 17 = n := by rw [h0 111 (by decide)]; exact e17
      have hg0 : I0 127 = g := by rw [h0 127 (by decide)]; exact e127
      have h21 : I0 111 21 = 0 := by rw [h0 111 (by decide)]; exact e21
      have hq := h2.2.2.1.1
      have hcd := h2.2.2.2 rfl
      have e : plns g n (m + 1) p T = if p < n then (if (pln g n T.length p).1 = true then plns g n m (pln g n T.length p).2.1 (T ++ [(pln g n T.length p).2.2]) else (false, (pln g n T.length p).2.1, T)) else (true, p, T) := rfl
      rw [e] at hpt
      refine mj_aload_n hJ dX9_read_26 rfl ?_
      refine mk_getI (j' := 20) hJ dX9_read_27 fw_X9_187 rfl (by decide) rfl rfl ?_
      rw [h2.2.1.2.2]
      refine mj_if_ne (tgt := 55) hJ dX9_read_30 (by decide) (fun hyes => absurd rfl hyes) (fun _ => ?_)
      refine mj_aload_n hJ dX9_read_33 rfl ?_
      refine mk_getI (j' := 18) hJ dX9_read_34 fw_X9_178 rfl (by decide) rfl rfl ?_
      rw [h2.2.1.1]
      refine mj_aload_n hJ dX9_read_37 rfl ?_
      refine mk_getI (j' := 17) hJ dX9_read_38 fw_X9_169 rfl (by decide) rfl rfl ?_
      rw [h2.e17, hn0]
      refine mj_icmp_ge (tgt := 55) hJ dX9_read_41 (by decide) (fun hpn => ?_) (fun hpn => ?_)
      · rw [if_neg (by omega)] at hpt
        exact OK p T I0 I2 h0 h2 hfr hT8 hpt
      · rw [if_pos (by omega)] at hpt
        refine mj_aload_n hJ dX9_read_44 rfl ?_
        refine mj_iload_n hJ dX9_read_45 rfl ?_
        refine mk_Vv1 hJ dX9_read_46 cw_X9_261 rfl rfl rfl rfl (Nat.le_of_ble_eq_true rfl) (by first | decide | omega) (c_line T.length p (by omega) (by omega) h21 h2) (fun I3 b3 hq9 => ?_)
        obtain ⟨rfl, h3⟩ := hq9
        rw [hn0, hg0] at h3
        have hok := pln_ok (g := g) (n := n) (k := T.length) (p := p) (by omega)
        generalize pln g n T.length p = R at h3 hok hpt
        refine ms_iinc (ls' := [_, _, _, _]) hJ dX9_read_49 rfl (by decide) rfl (wr_id (by omega)) rfl ?_
        refine mj_goto (tgt := 26) hJ dX9_read_52 (by decide) ?_
        cases c : R.1 with
        | true =>
          have h3 := h3.1 c
          have hok := hok c
          rw [if_pos c] at hpt
          have el : (((T ++ [R.2.2]).length : Nat) : Int) = T.length + 1 := by rw [List.length_append]; rfl
          rw [← el]
          refine ih R.2.1 (T ++ [R.2.2]) (fl4 I0 T.length R.2.2.1 R.2.2.2.1 (allc T).length ((allc T).length + (codo R.2.2.2.2).length)) I3 (fun x hx => ?_) ?_ ?_ (by omega) (by omega) hpt
          · unfold fl4
            rw [upI_ne hx, upI_ne hx, upI_ne hx, upI_ne hx]
            exact h0 x hx
          · rw [allc_append]
            show RD _ I3 false _ (allc T ++ (codo R.2.2.2.2 ++ []))
            rw [List.append_nil]
            exact h3
          · rw [frl_append]
            refine ⟨frl_congr T 0 0 (fun j a x => ?_) hfr, ⟨?_, ?_, ?_, ?_⟩, ⟨hok.2.2.1, hok.2.2.2.1, hok.2.2.2.2⟩, trivial⟩
            · unfold fl4
              rw [upI_at, if_neg (by omega), upI_at, if_neg (by omega), upI_at, if_neg (by omega), upI_at, if_neg (by omega)]
            · unfold fl4
              rw [upI_at, if_neg (by omega), upI_at, if_neg (by omega), upI_at, if_neg (by omega), upI_at, if_pos (by omega)]
            · unfold fl4
              rw [upI_at, if_neg (by omega), upI_at, if_neg (by omega), upI_at, if_pos (by omega)]
            · unfold fl4
              rw [upI_at, if_neg (by omega), upI_at, if_pos (by omega)]
              omega
            · unfold fl4
              rw [upI_at, if_pos (by omega)]
              show _ = 0 + ((allc T).length : Int) + ((codo R.2.2.2.2).length : Int)
              omega
        | false =>
          have h3 := h3.2 c
          rw [if_neg (by rw [c]; decide)] at hpt
          refine mj_aload_n hJ dX9_read_26 rfl ?_
          refine mk_getI (j' := 20) hJ dX9_read_27 fw_X9_187 rfl (by decide) rfl rfl ?_
          rw [(h3 []).2.1.2.2]
          refine mj_if_ne (tgt := 55) hJ dX9_read_30 (by decide) (fun _ => ?_) (fun hno => absurd hno (by decide))
          exact FA _ _ I0 I3 h0 h3 (by rw [hpt]) (by rw [hpt]) (by omega)
  refine mk_Vv0 hJ dX9_read_23 cw_X9_191 rfl rfl rfl rfl (Nat.le_of_ble_eq_true rfl) (by first | decide | omega) (c_X9_next 0 e19 (by decide) (by rw [e17]; exact ht.1) (by rw [e17]; exact ht.2)) (fun I2 b2 hq9 => ?_)
  obtain ⟨rfl, hf, h1, k18, k19⟩ := hq9
  rw [e127, e17] at k18 k19
  have sb := skp_bd (g := g) (n := n) (p := 0) ht.1
  refine loop (n + 1).toNat (skp g n 0) [] I1 I2 (fun _ _ => rfl) ?_ trivial (by decide) (by omega) rfl
  unfold RD
  rw [e127, e17]
  exact ⟨⟨fun c c1 _ => hf c c1, fun j j1 j2 _ _ => h1 j j1 j2⟩, ⟨k18, k19, (h1 20 (by decide) (by decide)).trans e20⟩, ⟨⟨by omega, by omega⟩, ht.2⟩, fun _ => ⟨(h1 22 (by decide) (by decide)).trans e22, trivial, by show ((0 : Nat) : Int) ≤ skp g n 0; omega⟩⟩
end M25
