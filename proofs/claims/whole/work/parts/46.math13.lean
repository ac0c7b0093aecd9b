/-! the steps of a condition stand well; the lines as the reader holds them -/
/-- the steps leave one more in the pile, h of room are enough -/
def Wl (h : Int) (r : PR) : Prop := r.1 = true → ∀ (k : Int) (L : List St), 0 ≤ k → k + h ≤ 20 → wst L (k + 1) → wst (r.2.2 ++ L) k
theorem Wl.mono {h h' : Int} {r : PR} (w : Wl h r) (e : h ≤ h') : Wl h' r := fun a k L k0 k1 x => w a k L k0 (by omega) x
theorem wst_op (s : Int) (h0 : -3 ≤ s) (h1 : s ≤ -2) {L : List St} {k : Int} (hk : 2 ≤ k) (h : wst L (k - 1)) : wst ((0, s, 0) :: L) k := by
  refine ⟨Or.inr ⟨by show -3 ≤ s; omega, by show s ≤ -1; omega⟩, ?_⟩
  rw [if_neg (by show ¬(0 ≤ s); omega), if_neg (by show ¬(s = -1); omega)]
  exact ⟨hk, h⟩
theorem pcmp_wl {g : Int → Int} {n p : Int} (hp : p ≤ n) : Wl 1 (pcmp g n p) := by
  have b1 := nxp_bd (g := g) hp
  have b2 := nxp_bd (g := g) b1.2.1
  unfold pcmp
  cases h1 : pval g n p with
  | none => exact fun q => Bool.noConfusion q
  | some l =>
    simp only []
    cases h2 : psg g n (nxp g n p) with
    | none => exact fun q => Bool.noConfusion q
    | some s =>
      simp only []
      cases h3 : pval g n (nxp g n (nxp g n p)) with
      | none => exact fun q => Bool.noConfusion q
      | some r =>
        have l1 := pval_lt hp h1
        have l2 := psg_lt b1.2.1 h2
        have l3 := pval_lt b2.2.1 h3
        intro _ k L k0 k1 x
        refine ⟨Or.inl ⟨l2.2.1, l2.2.2, l1.2, l3.2⟩, ?_⟩
        rw [if_pos (by exact l2.2.1)]
        exact ⟨by omega, x⟩
theorem pone_wl {g : Int → Int} {n p : Int} {po : Int → PR} {h : Int} (h1 : 1 ≤ h) (hpo : ∀ q, q ≤ n → Wl h (po q)) (hp : p ≤ n) : Wl h (pone g n po p) := by
  have hn := pnot_far (g := g) (n - p).toNat p false hp
  unfold pone
  generalize pnot g n (n - p).toNat p false = tq at hn
  have hr : Wl h (if wdp g n tq.2 [40] then po tq.2 else pcmp g n tq.2) := by
    by_cases c : wdp g n tq.2 [40]
    · rw [if_pos c]; exact hpo _ hn.1.2
    · rw [if_neg c]; exact (pcmp_wl hn.1.2).mono h1
  generalize (if wdp g n tq.2 [40] then po tq.2 else pcmp g n tq.2) = r at hr
  by_cases c : r.1 = true
  · rw [if_pos c]
    intro _ k L k0 k1 x
    show wst ((r.2.2 ++ (if tq.1 = true then [(0, -1, 0)] else [])) ++ L) k
    rw [List.append_assoc]
    refine hr c k _ k0 k1 ?_
    by_cases t : tq.1 = true
    · rw [if_pos t]
      exact ⟨Or.inr ⟨by decide, by decide⟩, by rw [if_neg (by decide), if_pos rfl]; exact ⟨by omega, x⟩⟩
    · rw [if_neg t]
      exact x
  · rw [if_neg c]
    exact fun q => absurd q c
theorem wl_step {h : Int} {r r2 : PR} {s q : Int} (h0 : -3 ≤ s) (h1 : s ≤ -2) (a : Wl (h + 1) r) (hr : r.1 = true) (c : Wl h r2) : Wl (h + 1) (r2.1, q, r.2.2 ++ (r2.2.2 ++ [(0, s, 0)])) := by
  intro e k L k0 k1 x
  show wst ((r.2.2 ++ (r2.2.2 ++ [(0, s, 0)])) ++ L) k
  rw [List.append_assoc, List.append_assoc]
  refine a hr k _ k0 k1 (c e (k + 1) _ (by omega) (by omega) ?_)
  refine wst_op s h0 h1 (by omega) ?_
  rw [show k + 1 + 1 - 1 = k + 1 by omega]
  exact x
theorem palL_wl {g : Int → Int} {n p : Int} {po : Int → PR} {h : Int} (h1 : 1 ≤ h) (hpo : ∀ q, q ≤ n → Wl h (po q)) (hfo : ∀ q, q ≤ n → Far n q (po q)) : ∀ (m : Nat) (r : PR), Far n p r → Wl (h + 1) r → Wl (h + 1) (palL g n po m r)
  | 0, _, _, w => w
  | m + 1, r, hf, w => by
    have e : palL g n po (m + 1) r = if r.1 = true ∧ wdp g n r.2.1 [97, 110, 100] then palL g n po m ((pone g n po (nxp g n r.2.1)).1, (pone g n po (nxp g n r.2.1)).2.1, r.2.2 ++ ((pone g n po (nxp g n r.2.1)).2.2 ++ [(0, -2, 0)])) else r := rfl
    rw [e]
    by_cases c : r.1 = true ∧ wdp g n r.2.1 [97, 110, 100]
    · rw [if_pos c]
      have nb := nxp_bd (g := g) hf.1.2
      exact palL_wl h1 hpo hfo m _ (far_step (by decide) hf c.1 (nb.2.2 (wdp_lt c.2 (by decide) hf.1.2)) (pone_far hfo nb.2.1)) (wl_step (by decide) (by decide) w c.1 (pone_wl h1 hpo nb.2.1))
    · rw [if_neg c]; exact w
theorem pall_wl {g : Int → Int} {n p : Int} {po : Int → PR} {h : Int} (h1 : 1 ≤ h) (hpo : ∀ q, q ≤ n → Wl h (po q)) (hfo : ∀ q, q ≤ n → Far n q (po q)) (hp : p ≤ n) : Wl (h + 1) (pall g n po p) :=
  palL_wl (p := p) h1 hpo hfo _ _ (pone_far hfo hp) ((pone_wl h1 hpo hp).mono (by omega))
theorem pcoL_wl {g : Int → Int} {n p : Int} {po : Int → PR} {h : Int} (h1 : 1 ≤ h) (hpo : ∀ q, q ≤ n → Wl h (po q)) (hfo : ∀ q, q ≤ n → Far n q (po q)) : ∀ (m : Nat) (r : PR), Far n p r → Wl (h + 1 + 1) r → Wl (h + 1 + 1) (pcoL g n po m r)
  | 0, _, _, w => w
  | m + 1, r, hf, w => by
    have e : pcoL g n po (m + 1) r = if r.1 = true ∧ wdp g n r.2.1 [111, 114] then pcoL g n po m ((pall g n po (nxp g n r.2.1)).1, (pall g n po (nxp g n r.2.1)).2.1, r.2.2 ++ ((pall g n po (nxp g n r.2.1)).2.2 ++ [(0, -3, 0)])) else r := rfl
    rw [e]
    by_cases c : r.1 = true ∧ wdp g n r.2.1 [111, 114]
    · rw [if_pos c]
      have nb := nxp_bd (g := g) hf.1.2
      exact pcoL_wl h1 hpo hfo m _ (far_step (by decide) hf c.1 (nb.2.2 (wdp_lt c.2 (by decide) hf.1.2)) (pall_far hfo nb.2.1)) (wl_step (by decide) (by decide) w c.1 (pall_wl h1 hpo hfo nb.2.1))
    · rw [if_neg c]; exact w
theorem pcon_wl {g : Int → Int} {n p : Int} {po : Int → PR} {h : Int} (h1 : 1 ≤ h) (hpo : ∀ q, q ≤ n → Wl h (po q)) (hfo : ∀ q, q ≤ n → Far n q (po q)) (hp : p ≤ n) : Wl (h + 1 + 1) (pcon g n po p) :=
  pcoL_wl (p := p) h1 hpo hfo _ _ (pall_far hfo hp) ((pall_wl h1 hpo hfo hp).mono (by omega))
theorem popen_wl {g : Int → Int} {n : Int} : ∀ (lv : Nat) (p : Int), p ≤ n → Wl (1 + 2 * lv) (popen g n lv p)
  | 0, p, hp => fun q => Bool.noConfusion q
  | lv + 1, p, hp => by
    have nb := nxp_bd (g := g) hp
    have h := pcon_wl (g := g) (po := popen g n lv) (h := 1 + 2 * lv) (by omega) (fun q hq => popen_wl lv q hq) (fun q hq => popen_far lv q hq) nb.2.1
    have e : popen g n (lv + 1) p = if (pcon g n (popen g n lv) (nxp g n p)).1 = true then (if wdp g n (pcon g n (popen g n lv) (nxp g n p)).2.1 [41] then (true, nxp g n (pcon g n (popen g n lv) (nxp g n p)).2.1, (pcon g n (popen g n lv) (nxp g n p)).2.2) else (false, (pcon g n (popen g n lv) (nxp g n p)).2.1, (pcon g n (popen g n lv) (nxp g n p)).2.2)) else pcon g n (popen g n lv) (nxp g n p) := rfl
    rw [e]
    generalize pcon g n (popen g n lv) (nxp g n p) = r at h
    have h' : Wl (1 + 2 * ((lv + 1 : Nat) : Int)) r := h.mono (by omega)
    by_cases c : r.1 = true
    · rw [if_pos c]
      by_cases d : wdp g n r.2.1 [41]
      · rw [if_pos d]
        exact fun _ => h' c
      · rw [if_neg d]
        exact fun q => Bool.noConfusion q
    · rw [if_neg c]
      exact h'
theorem pif_ok {g : Int → Int} {n p : Int} (hp : p ≤ n) (h : (pif g n p).1 = true) : oko (pif g n p).2.2 := by
  unfold pif at h ⊢
  by_cases c : wdp g n p [105, 102]
  · rw [if_pos c] at h ⊢
    have nb := nxp_bd (g := g) hp
    have w := pcon_wl (g := g) (po := popen g n 3) (h := 1 + 2 * ((3 : Nat) : Int)) (by decide) (fun q hq => popen_wl 3 q hq) (fun q hq => popen_far 3 q hq) nb.2.1 h 0 [] (by decide) (by decide) rfl
    rw [List.append_nil] at w
    exact Or.inr w
  · rw [if_neg c]
    exact Or.inl rfl
theorem pif_far {g : Int → Int} {n p : Int} (hp : p ≤ n) : Far n p (pif g n p) := by
  unfold pif
  by_cases c : wdp g n p [105, 102]
  · rw [if_pos c]
    have nb := nxp_bd (g := g) hp
    have w := pcon_far (g := g) (po := popen g n 3) (fun q hq => popen_far 3 q hq) nb.2.1
    exact ⟨⟨by have := w.1.1; omega, w.1.2⟩, fun e => by have := w.2 e; omega⟩
  · rw [if_neg c]
    exact ⟨⟨Int.le_refl _, hp⟩, fun _ => by show p + ((0 : Nat) : Int) ≤ p; omega⟩
/-- the codes of all lines -/
def allc : List Ln → List Int
  | [] => []
  | (_, _, e) :: L => codo e ++ allc L
theorem allc_append (L' : List Ln) : ∀ L : List Ln, allc (L ++ L') = allc L ++ allc L'
  | [] => rfl
  | (_, _, e) :: L => by
    show codo e ++ allc (L ++ L') = (codo e ++ allc L) ++ allc L'
    rw [allc_append L' L, List.append_assoc]
/-- the row g holds the lines from line l on, whose codes stand from p on -/
def frl (g : Int → Int) : Int → Int → List Ln → Prop
  | _, _, [] => True
  | l, p, (v, m, e) :: L => (g (4 * l) = v ∧ g (4 * l + 1) = m ∧ g (4 * l + 2) = p ∧ g (4 * l + 3) = p + (codo e).length) ∧ ((0 ≤ v ∧ v ≤ 5) ∧ (0 ≤ m ∧ m ≤ 99) ∧ oko e) ∧ frl g (l + 1) (p + (codo e).length) L
theorem frl_append {g : Int → Int} {L' : List Ln} : ∀ (L : List Ln) (l p : Int), frl g l p (L ++ L') ↔ frl g l p L ∧ frl g (l + L.length) (p + (allc L).length) L'
  | [], l, p => by
    rw [show l + (([] : List Ln).length : Int) = l by simp, show p + ((allc []).length : Int) = p by simp [allc]]
    exact ⟨fun h => ⟨trivial, h⟩, fun h => h.2⟩
  | (v, m, e) :: L, l, p => by
    have ih := frl_append (g := g) (L' := L') L (l + 1) (p + (codo e).length)
    have e1 : l + (((v, m, e) :: L).length : Int) = l + 1 + (L.length : Int) := by rw [List.length_cons]; omega
    have e2 : p + ((allc ((v, m, e) :: L)).length : Int) = p + (codo e).length + ((allc L).length : Int) := by
      show p + ((codo e ++ allc L).length : Int) = _
      rw [List.length_append]; omega
    rw [e1, e2]
    show (_ ∧ _ ∧ frl g (l + 1) (p + (codo e).length) (L ++ L')) ↔ (_ ∧ _ ∧ frl g (l + 1) (p + (codo e).length) L) ∧ _
    rw [ih]
    exact ⟨fun h => ⟨⟨h.1, h.2.1, h.2.2.1⟩, h.2.2.2⟩, fun h => ⟨h.1.1, h.1.2.1, h.1.2.2, h.2⟩⟩
theorem frl_congr {g g' : Int → Int} : ∀ (L : List Ln) (l p : Int), (∀ j, 4 * l ≤ j → j < 4 * (l + L.length) → g' j = g j) → frl g l p L → frl g' l p L
  | [], _, _, _, _ => trivial
  | (v, m, e) :: L, l, p, h, w => by
    have hl : ((((v, m, e) :: L).length : Nat) : Int) = L.length + 1 := by rw [List.length_cons]; omega
    refine ⟨?_, w.2.1, frl_congr L (l + 1) _ (fun j a c => h j (by omega) (by omega)) w.2.2⟩
    rw [h (4 * l) (by omega) (by omega), h (4 * l + 1) (by omega) (by omega), h (4 * l + 2) (by omega) (by omega), h (4 * l + 3) (by omega) (by omega)]
    exact w.1
theorem cat_stc {f s : Int → Int} : ∀ (L : List Int) (p : Int), (∀ j, p ≤ j → j < p + L.length → f (156 + j) = s j) → stc s p L → cat f p L
  | [], _, _, _ => trivial
  | x :: L, p, h, w => by
    have hl : ((x :: L).length : Int) = L.length + 1 := by rw [List.length_cons]; omega
    exact ⟨by rw [h p (by omega) (by omega)]; exact w.1, cat_stc L (p + 1) (fun j a c => h j (by omega) (by omega)) w.2⟩
/-- the lines as the row 'now' takes them -/
theorem tml_frl {f g s : Int → Int} : ∀ (L : List Ln) (l p : Int), (∀ j, 4 * l ≤ j → j < 4 * (l + L.length) → f (124 + j) = g j) → (∀ j, p ≤ j → j < p + (allc L).length → f (156 + j) = s j) → f 3 = p + (allc L).length → p + (allc L).length ≤ 200 → frl g l p L → stc s p (allc L) → tml f l p L
  | [], l, p, _, _, h3, h4, _, _ => by
    have e : ((allc []).length : Int) = 0 := rfl
    rw [e] at h3 h4
    exact ⟨by omega, by omega⟩
  | (v, m, e) :: L, l, p, hg, hs, h3, h4, w, z => by
    have hl : ((((v, m, e) :: L).length : Nat) : Int) = L.length + 1 := by rw [List.length_cons]; omega
    have ea : allc ((v, m, e) :: L) = codo e ++ allc L := rfl
    rw [ea] at hs h3 h4 z
    rw [List.length_append] at hs h3 h4
    rw [stc_append] at z
    refine ⟨?_, ⟨w.2.1.1, w.2.1.2.1, w.2.1.2.2, cat_stc _ p (fun j a c => hs j a (by omega)) z.1⟩, tml_frl L (l + 1) _ (fun j a c => hg j (by omega) (by omega)) (fun j a c => hs j (by omega) (by omega)) (by omega) (by omega) w.2.2 z.2⟩
    have h := w.1
    rw [show 124 + 4 * l + 1 = 124 + (4 * l + 1) by omega, show 124 + 4 * l + 2 = 124 + (4 * l + 2) by omega, show 124 + 4 * l + 3 = 124 + (4 * l + 3) by omega, hg (4 * l) (by omega) (by omega), hg (4 * l + 1) (by omega) (by omega), hg (4 * l + 2) (by omega) (by omega), hg (4 * l + 3) (by omega) (by omega)]
    exact h
def F_read (N : Ints) : Int := if (ptext (N 127) (N 111 17)).1 = true then ((ptext (N 127) (N 111 17)).2.2.length : Int) else -100 - (ptext (N 127) (N 111 17)).2.1
theorem nv_nn {g : Int → Int} {n p : Int} (h : isn g n p) : 0 ≤ nv g n p := by
  have hp : p < n := h.1.1
  have tb := tend_bd (g := g) (n := n) (p := p) (by omega)
  exact nmv_bd _ p 0 (fun j x y => tend_dg h.1 x (by omega)) (by omega)
theorem pln_ok {g : Int → Int} {n k p : Int} (hp : p < n) (h : (pln g n k p).1 = true) : k < 8 ∧ (p < (pln g n k p).2.1 ∧ (pln g n k p).2.1 ≤ n) ∧ (0 ≤ (pln g n k p).2.2.1 ∧ (pln g n k p).2.2.1 ≤ 5) ∧ (0 ≤ (pln g n k p).2.2.2.1 ∧ (pln g n k p).2.2.2.1 ≤ 99) ∧ oko (pln g n k p).2.2.2.2 := by
  have b1 := nxp_bd (g := g) (Int.le_of_lt hp)
  have b2 := nxp_bd (g := g) b1.2.1
  have b3 := nxp_bd (g := g) b2.2.1
  unfold pln at h ⊢
  by_cases c1 : wdp g n p [108, 101, 116] ∧ k < 8
  · rw [if_pos c1] at h ⊢
    by_cases c2 : isn g n (nxp g n p) ∧ nv g n (nxp g n p) ≤ 5
    · rw [if_pos c2] at h ⊢
      by_cases c3 : isn g n (nxp g n (nxp g n p)) ∧ nv g n (nxp g n (nxp g n p)) ≤ 99
      · rw [if_pos c3] at h ⊢
        by_cases c4 : (pif g n (nxp g n (nxp g n (nxp g n p)))).1 = true ∧ wdp g n (pif g n (nxp g n (nxp g n (nxp g n p)))).2.1 [59]
        · rw [if_pos c4]
          have f := pif_far (g := g) b3.2.1
          have b4 := nxp_bd (g := g) f.1.2
          have f1 := f.1
          have a := b1.2.2 hp
          exact ⟨c1.2, ⟨by show p < nxp g n _; omega, b4.2.1⟩, ⟨nv_nn c2.1, c2.2⟩, ⟨nv_nn c3.1, c3.2⟩, pif_ok b3.2.1 c4.1⟩
        · rw [if_neg c4] at h
          exact Bool.noConfusion h
      · rw [if_neg c3] at h
        exact Bool.noConfusion h
    · rw [if_neg c2] at h
      exact Bool.noConfusion h
  · rw [if_neg c1] at h
    exact Bool.noConfusion h
