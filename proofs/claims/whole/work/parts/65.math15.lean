/-! the parts of the text as the class finds them -/
abbrev ltz (x : Int) : Prop := 97 ≤ x ∧ x ≤ 122
abbrev dgz (x : Int) : Prop := 48 ≤ x ∧ x ≤ 57
abbrev btz (x y : Int) : Prop := (ltz x ∧ ltz y) ∨ (dgz x ∧ dgz y)
/-- a part begins at p -/
abbrev bgn (g : Int → Int) (p : Int) : Prop := g p ≠ 32 ∧ (p = 0 ∨ ¬btz (g (p - 1)) (g p))
theorem skq_sp {g : Int → Int} {n : Int} : ∀ (m : Nat) (p : Int), n - p ≤ m → (∀ j, p ≤ j → j < skq g n m p → g j = 32) ∧ (skq g n m p < n → g (skq g n m p) ≠ 32)
  | 0, p, h => ⟨fun j a c => by have c : j < p := c; omega, fun c => by have c : p < n := c; omega⟩
  | m + 1, p, h => by
    show (∀ j, p ≤ j → j < (if p < n ∧ g p = 32 then skq g n m (p + 1) else p) → g j = 32) ∧ ((if p < n ∧ g p = 32 then skq g n m (p + 1) else p) < n → g (if p < n ∧ g p = 32 then skq g n m (p + 1) else p) ≠ 32)
    by_cases c : p < n ∧ g p = 32
    · rw [if_pos c]
      have ih := skq_sp (g := g) (n := n) m (p + 1) (by omega)
      refine ⟨fun j a d => ?_, ih.2⟩
      by_cases e : j = p
      · subst e; exact c.2
      · exact ih.1 j (by omega) d
    · rw [if_neg c]
      exact ⟨fun j a d => by omega, fun a d => c ⟨a, d⟩⟩
theorem skp_sp {g : Int → Int} {n p : Int} (h : p ≤ n) : (∀ j, p ≤ j → j < skp g n p → g j = 32) ∧ (skp g n p < n → g (skp g n p) ≠ 32) := skq_sp _ p (by omega)
theorem ten_tg {g : Int → Int} {n p : Int} : ∀ (m : Nat) (q : Int), n - q ≤ m → (∀ j, q ≤ j → j < ten g n p m q → tog g n p j) ∧ (ten g n p m q < n → ¬tog g n p (ten g n p m q))
  | 0, q, h => ⟨fun j a c => by have c : j < q := c; omega, fun c => by have c : q < n := c; omega⟩
  | m + 1, q, h => by
    show (∀ j, q ≤ j → j < (if tog g n p q then ten g n p m (q + 1) else q) → tog g n p j) ∧ ((if tog g n p q then ten g n p m (q + 1) else q) < n → ¬tog g n p (if tog g n p q then ten g n p m (q + 1) else q))
    by_cases c : tog g n p q
    · rw [if_pos c]
      have ih := ten_tg (g := g) (n := n) (p := p) m (q + 1) (by omega)
      refine ⟨fun j a d => ?_, ih.2⟩
      by_cases e : j = q
      · subst e; exact c
      · exact ih.1 j (by omega) d
    · rw [if_neg c]
      exact ⟨fun j a d => by omega, fun _ => c⟩
theorem tog_iff {g : Int → Int} {n p q : Int} (hp : p < n) (hq : q < n) : tog g n p q ↔ btz (g p) (g q) :=
  ⟨fun h => h.elim (fun a => Or.inl ⟨a.1.2, a.2.2⟩) (fun a => Or.inr ⟨a.1.2, a.2.2⟩), fun h => h.elim (fun a => Or.inl ⟨⟨hp, a.1⟩, ⟨hq, a.2⟩⟩) (fun a => Or.inr ⟨⟨hp, a.1⟩, ⟨hq, a.2⟩⟩)⟩
theorem nxp_bg {g : Int → Int} {n p : Int} (p0 : 0 ≤ p) (hp : p < n) : (∀ j, p < j → j < nxp g n p → ¬bgn g j) ∧ (nxp g n p < n → bgn g (nxp g n p)) := by
  have tb := tend_bd (g := g) (n := n) (p := p) (by omega)
  have tb3 := tb.2.2 hp
  have ht := ten_tg (g := g) (n := n) (p := p) (n - (p + 1)).toNat (p + 1) (by omega)
  have he : tend g n p = ten g n p (n - (p + 1)).toNat (p + 1) := by unfold tend; rw [if_pos hp]
  rw [← he] at ht
  have hs := skp_sp (g := g) (n := n) (p := tend g n p) tb.2.1
  have sb := skp_bd (g := g) (n := n) (p := tend g n p) tb.2.1
  have e2 : nxp g n p = skp g n (tend g n p) := rfl
  rw [← e2] at hs sb
  -- within the part the bytes are of one class
  have one : ∀ j, p ≤ j → j < tend g n p → j = p ∨ btz (g p) (g j) := fun j a c => by
    by_cases e : j = p
    · exact Or.inl e
    · exact Or.inr ((tog_iff hp (by omega)).1 (ht.1 j (by omega) c))
  refine ⟨fun j a c h => ?_, fun c => ⟨hs.2 c, Or.inr fun h => ?_⟩⟩
  · by_cases d : j < tend g n p
    · have h1 := one j (by omega) d
      have h2 := one (j - 1) (by omega) (by omega)
      rcases h.2 with h3 | h3
      · omega
      · apply h3
        rcases h2 with h2 | h2
        · rw [h2]
          rcases h1 with h1 | h1
          · omega
          · exact h1
        · rcases h1 with h1 | h1
          · omega
          · rcases h1 with h1 | h1 <;> rcases h2 with h2 | h2
            · exact Or.inl ⟨h2.2, h1.2⟩
            · exact absurd h1.1.1 (by have := h2.1.2; omega)
            · exact absurd h2.1.1 (by have := h1.1.2; omega)
            · exact Or.inr ⟨h2.2, h1.2⟩
    · exact h.1 (hs.1 j (by omega) c)
  · by_cases d : tend g n p < nxp g n p
    · have := hs.1 (nxp g n p - 1) (by omega) (by omega)
      rw [this] at h
      rcases h with h | h
      · exact absurd h.1.1 (by decide)
      · exact absurd h.1.1 (by decide)
    · have e3 : nxp g n p = tend g n p := by omega
      rw [e3] at h c
      apply ht.2 c
      rw [tog_iff hp c]
      rcases one (tend g n p - 1) (by omega) (by omega) with h2 | h2
      · rw [h2] at h; exact h
      · rcases h with h1 | h1 <;> rcases h2 with h2 | h2
        · exact Or.inl ⟨h2.1, h1.2⟩
        · exact absurd h1.1.1 (by have := h2.2.2; omega)
        · exact absurd h2.2.1 (by have := h1.1.2; omega)
        · exact Or.inr ⟨h2.1, h1.2⟩
theorem skp_bg {g : Int → Int} {n : Int} (hn : 0 ≤ n) : (∀ j, 0 ≤ j → j < skp g n 0 → ¬bgn g j) ∧ (skp g n 0 < n → bgn g (skp g n 0)) := by
  have hs := skp_sp (g := g) hn
  have sb := skp_bd (g := g) hn
  refine ⟨fun j a c h => h.1 (hs.1 j a c), fun c => ⟨hs.2 c, ?_⟩⟩
  by_cases d : skp g n 0 = 0
  · exact Or.inl d
  · refine Or.inr fun h => ?_
    have := hs.1 (skp g n 0 - 1) (by omega) (by omega)
    rw [this] at h
    rcases h with h | h
    · exact absurd h.1.1 (by decide)
    · exact absurd h.1.1 (by decide)
theorem mtc_inj {g : Int → Int} : ∀ (L L' : List Int) (p : Int), L.length = L'.length → mtc g p L = true → mtc g p L' = true → L = L'
  | [], [], _, _, _, _ => rfl
  | [], _ :: _, _, h, _, _ => by cases h
  | _ :: _, [], _, h, _, _ => by cases h
  | x :: L, y :: L', p, h, a, c => by
    have a : (decide (g p = x) && mtc g (p + 1) L) = true := a
    have c : (decide (g p = y) && mtc g (p + 1) L') = true := c
    rw [Bool.and_eq_true] at a c
    rw [← of_decide_eq_true a.1, ← of_decide_eq_true c.1, mtc_inj L L' (p + 1) (Nat.succ.inj h) a.2 c.2]
theorem wdb_inj {g : Int → Int} {p e : Int} {L L' : List Int} (a : wdb g p e L = true) (c : wdb g p e L' = true) : L = L' := by
  unfold wdb at a c
  rw [Bool.and_eq_true] at a c
  have h1 := of_decide_eq_true a.1
  have h2 := of_decide_eq_true c.1
  exact mtc_inj L L' p (by omega) a.2 c.2
theorem wdb_hd {g : Int → Int} {p e x : Int} {L : List Int} (a : wdb g p e (x :: L) = true) : g p = x := by
  unfold wdb at a
  rw [Bool.and_eq_true] at a
  have a2 : (decide (g p = x) && mtc g (p + 1) L) = true := a.2
  rw [Bool.and_eq_true] at a2
  exact of_decide_eq_true a2.1
theorem wdp_wid {g : Int → Int} {n p : Int} {L : List Int} (h : wdp g n p L) (hp : p ≤ n) : p + L.length ≤ nxp g n p := by
  have tb := tend_bd (g := g) hp
  have sb := skp_bd (g := g) (n := n) (p := tend g n p) tb.2.1
  have h : wdb g p (tend g n p) L = true := h
  unfold wdb at h
  rw [Bool.and_eq_true] at h
  have h1 := of_decide_eq_true h.1
  unfold nxp
  omega
def sW : List (List Int × Int) := [([108, 101, 116], 3), ([105, 102], 4), ([111, 114], 5), ([97, 110, 100], 6), ([110, 111, 116], 7), ([119, 101, 116], 1030), ([99, 111, 109, 101, 115], 1031), ([102, 108, 111, 119], 1032), ([59], 8), ([40], 9), ([41], 10), ([60], 20), ([61], 21), ([62], 22)]
abbrev sWw (i : Nat) : List Int := (sW.getD i ([], 0)).1
abbrev sWk (i : Nat) : Int := (sW.getD i ([], 0)).2
theorem sW_inj : ∀ i : Fin 14, ∀ j : Fin 14, (sWw i.val = sWw j.val → i = j) ∧ (sWk i.val = sWk j.val → i = j) := by decide
theorem sW_ok : ∀ i : Fin 14, ∃ x L, sWw i.val = x :: L ∧ ¬dgz x ∧ (i.val < 8 ↔ ltz x) ∧ sWk i.val ≠ 0 ∧ sWk i.val ≠ 1 ∧ sWk i.val ≠ 2 := fun i => ⟨(sWw i.val).headD 0, (sWw i.val).tail, by revert i; decide, by revert i; decide, by revert i; decide, by revert i; decide, by revert i; decide, by revert i; decide⟩
def kndW (g : Int → Int) (p e : Int) : Int := if wdb g p e [108, 101, 116] = true then 3 else if wdb g p e [105, 102] = true then 4 else if wdb g p e [111, 114] = true then 5 else if wdb g p e [97, 110, 100] = true then 6 else if wdb g p e [110, 111, 116] = true then 7 else if wdb g p e [119, 101, 116] = true then 1030 else if wdb g p e [99, 111, 109, 101, 115] = true then 1031 else if wdb g p e [102, 108, 111, 119] = true then 1032 else 1
def kndS (x : Int) : Int := if x = 59 then 8 else if x = 40 then 9 else if x = 41 then 10 else if x = 60 then 20 else if x = 61 then 21 else if x = 62 then 22 else 1
def kndE (g : Int → Int) (p e : Int) : Int := if ltz (g p) then kndW g p e else if dgz (g p) then (if e - p ≤ 3 then 2 else 1) else kndS (g p)
/-- the kind of the part at p -/
def knd (g : Int → Int) (n p : Int) : Int := if p < n then kndE g p (tend g n p) else 0
theorem kndW_cs {g : Int → Int} {p e : Int} : (∃ i, i < 8 ∧ wdb g p e (sWw i) = true ∧ kndW g p e = sWk i) ∨ ((∀ i, i < 8 → ¬wdb g p e (sWw i) = true) ∧ kndW g p e = 1) := by
  unfold kndW
  by_cases c0 : wdb g p e [108, 101, 116] = true
  · rw [if_pos c0]
    exact Or.inl ⟨0, by decide, c0, rfl⟩
  rw [if_neg c0]
  by_cases c1 : wdb g p e [105, 102] = true
  · rw [if_pos c1]
    exact Or.inl ⟨1, by decide, c1, rfl⟩
  rw [if_neg c1]
  by_cases c2 : wdb g p e [111, 114] = true
  · rw [if_pos c2]
    exact Or.inl ⟨2, by decide, c2, rfl⟩
  rw [if_neg c2]
  by_cases c3 : wdb g p e [97, 110, 100] = true
  · rw [if_pos c3]
    exact Or.inl ⟨3, by decide, c3, rfl⟩
  rw [if_neg c3]
  by_cases c4 : wdb g p e [110, 111, 116] = true
  · rw [if_pos c4]
    exact Or.inl ⟨4, by decide, c4, rfl⟩
  rw [if_neg c4]
  by_cases c5 : wdb g p e [119, 101, 116] = true
  · rw [if_pos c5]
    exact Or.inl ⟨5, by decide, c5, rfl⟩
  rw [if_neg c5]
  by_cases c6 : wdb g p e [99, 111, 109, 101, 115] = true
  · rw [if_pos c6]
    exact Or.inl ⟨6, by decide, c6, rfl⟩
  rw [if_neg c6]
  by_cases c7 : wdb g p e [102, 108, 111, 119] = true
  · rw [if_pos c7]
    exact Or.inl ⟨7, by decide, c7, rfl⟩
  rw [if_neg c7]
  refine Or.inr ⟨fun i hi => ?_, rfl⟩
  match i, hi with
  | 0, _ => exact c0
  | 1, _ => exact c1
  | 2, _ => exact c2
  | 3, _ => exact c3
  | 4, _ => exact c4
  | 5, _ => exact c5
  | 6, _ => exact c6
  | 7, _ => exact c7
theorem tend_sg {g : Int → Int} {n p : Int} (hp : p < n) (h1 : ¬ltz (g p)) (h2 : ¬dgz (g p)) : tend g n p = p + 1 := by
  unfold tend
  rw [if_pos hp]
  cases (n - (p + 1)).toNat with
  | zero => rfl
  | succ m =>
    show (if tog g n p (p + 1) then _ else _) = _
    rw [if_neg]
    exact fun h => h.elim (fun a => h1 a.1.2) (fun a => h2 a.1.2)
theorem wdp_sg {g : Int → Int} {n p x : Int} (hp : p < n) (h1 : ¬ltz (g p)) (h2 : ¬dgz (g p)) (h : g p = x) : wdp g n p [x] := by
  show wdb g p (tend g n p) [x] = true
  rw [tend_sg hp h1 h2]
  unfold wdb mtc mtc
  rw [decide_eq_true h, decide_eq_true (by show p + 1 - p = 1; omega)]
  rfl
/-- what a part may be -/
theorem knd_cs {g : Int → Int} {n p : Int} (hp : p ≤ n) : (p = n ∧ knd g n p = 0 ∧ (∀ i, i < 14 → ¬wdp g n p (sWw i)) ∧ ¬isn g n p) ∨ (p < n ∧ ∃ i, i < 14 ∧ wdp g n p (sWw i) ∧ knd g n p = sWk i ∧ ¬isn g n p) ∨ (p < n ∧ isn g n p ∧ knd g n p = 2 ∧ (∀ i, i < 14 → ¬wdp g n p (sWw i))) ∨ (p < n ∧ knd g n p = 1 ∧ (∀ i, i < 14 → ¬wdp g n p (sWw i)) ∧ ¬isn g n p) := by
  by_cases c : p < n
  · refine Or.inr ?_
    have nd : ∀ i, i < 14 → wdp g n p (sWw i) → ¬dgz (g p) ∧ (i < 8 ↔ ltz (g p)) := fun i hi hw => by
      obtain ⟨x, L, e, h1, h2, -⟩ := sW_ok ⟨i, hi⟩
      have e : sWw i = x :: L := e
      rw [e] at hw
      have := wdb_hd hw
      rw [this]
      exact ⟨h1, h2⟩
    unfold knd
    rw [if_pos c]
    unfold kndE
    by_cases c1 : ltz (g p)
    · rw [if_pos c1]
      have hi : ¬isn g n p := fun q => by have := q.1.2; omega
      rcases kndW_cs (g := g) (p := p) (e := tend g n p) with ⟨i, i8, h1, h2⟩ | ⟨h1, h2⟩
      · exact Or.inl ⟨c, i, by omega, h1, h2, hi⟩
      · refine Or.inr (Or.inr ⟨c, h2, fun i i14 hw => ?_, hi⟩)
        exact h1 i ((nd i i14 hw).2.2 c1) hw
    · rw [if_neg c1]
      by_cases c2 : dgz (g p)
      · rw [if_pos c2]
        have nw : ∀ i, i < 14 → ¬wdp g n p (sWw i) := fun i hi hw => (nd i hi hw).1 c2
        by_cases c3 : tend g n p - p ≤ 3
        · rw [if_pos c3]
          exact Or.inr (Or.inl ⟨c, ⟨⟨c, c2⟩, c3⟩, rfl, nw⟩)
        · rw [if_neg c3]
          exact Or.inr (Or.inr ⟨c, rfl, nw, fun q => c3 q.2⟩)
      · rw [if_neg c2]
        have hi : ¬isn g n p := fun q => c2 q.1.2
        unfold kndS
        by_cases d8 : g p = 59
        · rw [if_pos d8]
          exact Or.inl ⟨c, 8, by decide, wdp_sg c c1 c2 d8, rfl, hi⟩
        rw [if_neg d8]
        by_cases d9 : g p = 40
        · rw [if_pos d9]
          exact Or.inl ⟨c, 9, by decide, wdp_sg c c1 c2 d9, rfl, hi⟩
        rw [if_neg d9]
        by_cases d10 : g p = 41
        · rw [if_pos d10]
          exact Or.inl ⟨c, 10, by decide, wdp_sg c c1 c2 d10, rfl, hi⟩
        rw [if_neg d10]
        by_cases d11 : g p = 60
        · rw [if_pos d11]
          exact Or.inl ⟨c, 11, by decide, wdp_sg c c1 c2 d11, rfl, hi⟩
        rw [if_neg d11]
        by_cases d12 : g p = 61
        · rw [if_pos d12]
          exact Or.inl ⟨c, 12, by decide, wdp_sg c c1 c2 d12, rfl, hi⟩
        rw [if_neg d12]
        by_cases d13 : g p = 62
        · rw [if_pos d13]
          exact Or.inl ⟨c, 13, by decide, wdp_sg c c1 c2 d13, rfl, hi⟩
        rw [if_neg d13]
        refine Or.inr (Or.inr ⟨c, rfl, fun i i14 hw => ?_, hi⟩)
        have i8 : ¬ i < 8 := fun q => c1 ((nd i i14 hw).2.1 q)
        have hi : i = 8 ∨ i = 9 ∨ i = 10 ∨ i = 11 ∨ i = 12 ∨ i = 13 := by omega
        rcases hi with rfl | rfl | rfl | rfl | rfl | rfl
        · exact d8 (wdb_hd hw)
        · exact d9 (wdb_hd hw)
        · exact d10 (wdb_hd hw)
        · exact d11 (wdb_hd hw)
        · exact d12 (wdb_hd hw)
        · exact d13 (wdb_hd hw)
  · refine Or.inl ⟨by omega, ?_, fun i hi hw => ?_, fun q => c q.1.1⟩
    · unfold knd
      rw [if_neg c]
    · obtain ⟨x, L, e, -⟩ := sW_ok ⟨i, hi⟩
      have e : sWw i = x :: L := e
      rw [e] at hw
      exact c (wdp_lt hw (by rw [List.length_cons]; omega) hp)
theorem knd_w {g : Int → Int} {n p : Int} (hp : p ≤ n) (i : Nat) (hi : i < 14) : knd g n p = sWk i ↔ wdp g n p (sWw i) := by
  obtain ⟨x, L, -, -, -, k0, k1, k2⟩ := sW_ok ⟨i, hi⟩
  have k0 : sWk i ≠ 0 := k0
  have k1 : sWk i ≠ 1 := k1
  have k2 : sWk i ≠ 2 := k2
  rcases knd_cs (g := g) hp with ⟨-, h, hw, -⟩ | ⟨-, j, hj, h1, h2, -⟩ | ⟨-, -, h, hw⟩ | ⟨-, h, hw, -⟩
  · exact ⟨fun q => absurd (q.symm.trans h) k0, fun q => absurd q (hw i hi)⟩
  · refine ⟨fun q => ?_, fun q => ?_⟩
    · have := (sW_inj ⟨i, hi⟩ ⟨j, hj⟩).2 (q.symm.trans h2)
      have e : i = j := congrArg Fin.val this
      rw [e]; exact h1
    · have := (sW_inj ⟨i, hi⟩ ⟨j, hj⟩).1 (wdb_inj q h1)
      have e : i = j := congrArg Fin.val this
      rw [e]; exact h2
  · exact ⟨fun q => absurd (q.symm.trans h) k2, fun q => absurd q (hw i hi)⟩
  · exact ⟨fun q => absurd (q.symm.trans h) k1, fun q => absurd q (hw i hi)⟩
theorem knd_2 {g : Int → Int} {n p : Int} (hp : p ≤ n) : knd g n p = 2 ↔ isn g n p := by
  rcases knd_cs (g := g) hp with ⟨-, h, -, hw⟩ | ⟨-, j, hj, h1, h2, h3⟩ | ⟨-, h1, h, hw⟩ | ⟨-, h, -, hw⟩
  · exact ⟨fun q => absurd (h.symm.trans q) (by decide), fun q => absurd q hw⟩
  · refine ⟨fun q => ?_, fun q => absurd q h3⟩
    obtain ⟨x, L, -, -, -, -, -, k2⟩ := sW_ok ⟨j, hj⟩
    exact absurd (h2.symm.trans q) k2
  · exact ⟨fun _ => h1, fun _ => h⟩
  · exact ⟨fun q => absurd (h.symm.trans q) (by decide), fun q => absurd q hw⟩
theorem knd_0 {g : Int → Int} {n p : Int} (hp : p ≤ n) : knd g n p = 0 ↔ p = n := by
  rcases knd_cs (g := g) hp with ⟨e, h, -, hw⟩ | ⟨c, j, hj, h1, h2, h3⟩ | ⟨c, h1, h, hw⟩ | ⟨c, h, -, hw⟩
  · exact ⟨fun _ => e, fun _ => h⟩
  · refine ⟨fun q => ?_, fun q => by omega⟩
    obtain ⟨x, L, -, -, -, k0, -, -⟩ := sW_ok ⟨j, hj⟩
    exact absurd (h2.symm.trans q) k0
  · exact ⟨fun q => absurd (h.symm.trans q) (by decide), fun q => by omega⟩
  · exact ⟨fun q => absurd (h.symm.trans q) (by decide), fun q => by omega⟩
theorem knd_let {g : Int → Int} {n p : Int} (hp : p ≤ n) : knd g n p = 3 ↔ wdp g n p [108, 101, 116] := knd_w hp 0 (by decide)
theorem knd_if {g : Int → Int} {n p : Int} (hp : p ≤ n) : knd g n p = 4 ↔ wdp g n p [105, 102] := knd_w hp 1 (by decide)
theorem knd_or {g : Int → Int} {n p : Int} (hp : p ≤ n) : knd g n p = 5 ↔ wdp g n p [111, 114] := knd_w hp 2 (by decide)
theorem knd_and {g : Int → Int} {n p : Int} (hp : p ≤ n) : knd g n p = 6 ↔ wdp g n p [97, 110, 100] := knd_w hp 3 (by decide)
theorem knd_not {g : Int → Int} {n p : Int} (hp : p ≤ n) : knd g n p = 7 ↔ wdp g n p [110, 111, 116] := knd_w hp 4 (by decide)
theorem knd_wet {g : Int → Int} {n p : Int} (hp : p ≤ n) : knd g n p = 1030 ↔ wdp g n p [119, 101, 116] := knd_w hp 5 (by decide)
theorem knd_comes {g : Int → Int} {n p : Int} (hp : p ≤ n) : knd g n p = 1031 ↔ wdp g n p [99, 111, 109, 101, 115] := knd_w hp 6 (by decide)
theorem knd_flow {g : Int → Int} {n p : Int} (hp : p ≤ n) : knd g n p = 1032 ↔ wdp g n p [102, 108, 111, 119] := knd_w hp 7 (by decide)
theorem knd_semi {g : Int → Int} {n p : Int} (hp : p ≤ n) : knd g n p = 8 ↔ wdp g n p [59] := knd_w hp 8 (by decide)
theorem knd_open {g : Int → Int} {n p : Int} (hp : p ≤ n) : knd g n p = 9 ↔ wdp g n p [40] := knd_w hp 9 (by decide)
theorem knd_close {g : Int → Int} {n p : Int} (hp : p ≤ n) : knd g n p = 10 ↔ wdp g n p [41] := knd_w hp 10 (by decide)
theorem knd_less {g : Int → Int} {n p : Int} (hp : p ≤ n) : knd g n p = 20 ↔ wdp g n p [60] := knd_w hp 11 (by decide)
theorem knd_same {g : Int → Int} {n p : Int} (hp : p ≤ n) : knd g n p = 21 ↔ wdp g n p [61] := knd_w hp 12 (by decide)
theorem knd_more {g : Int → Int} {n p : Int} (hp : p ≤ n) : knd g n p = 22 ↔ wdp g n p [62] := knd_w hp 13 (by decide)
theorem knd_rg {g : Int → Int} {n p : Int} (hp : p ≤ n) : 0 ≤ knd g n p ∧ (knd g n p ≤ 22 ∨ (1030 ≤ knd g n p ∧ knd g n p ≤ 1032)) := by
  have all : ∀ i : Fin 14, 0 ≤ sWk i.val ∧ (sWk i.val ≤ 22 ∨ (1030 ≤ sWk i.val ∧ sWk i.val ≤ 1032)) := by decide
  rcases knd_cs (g := g) hp with ⟨-, h, -⟩ | ⟨-, j, hj, -, h, -⟩ | ⟨-, -, h, -⟩ | ⟨-, h, -⟩
  · omega
  · rw [h]; exact all ⟨j, hj⟩
  · omega
  · omega
/-- the value at p as the class tells it -/
theorem pval_k {g : Int → Int} {n p : Int} (hp : p ≤ n) : (if knd g n p = 2 then nv g n p else if knd g n p ≥ 30 then knd g n p - 30 else -1) = (pval g n p).getD (-1) := by
  have rg := knd_rg (g := g) hp
  unfold pval
  by_cases c1 : wdp g n p [119, 101, 116]
  · rw [if_pos c1, (knd_wet hp).2 c1]
    rfl
  rw [if_neg c1]
  by_cases c2 : wdp g n p [99, 111, 109, 101, 115]
  · rw [if_pos c2, (knd_comes hp).2 c2]
    rfl
  rw [if_neg c2]
  by_cases c3 : wdp g n p [102, 108, 111, 119]
  · rw [if_pos c3, (knd_flow hp).2 c3]
    rfl
  rw [if_neg c3]
  by_cases c4 : isn g n p
  · rw [if_pos c4, if_pos ((knd_2 hp).2 c4)]
    rfl
  · rw [if_neg c4, if_neg (fun q => c4 ((knd_2 hp).1 q))]
    rw [if_neg]
    · rfl
    · intro q
      have k1 : knd g n p ≠ 1030 := fun z => c1 ((knd_wet hp).1 z)
      have k2 : knd g n p ≠ 1031 := fun z => c2 ((knd_comes hp).1 z)
      have k3 : knd g n p ≠ 1032 := fun z => c3 ((knd_flow hp).1 z)
      omega
theorem psg_k {g : Int → Int} {n p : Int} (hp : p ≤ n) : (∀ s, psg g n p = some s → knd g n p - 20 = s ∧ 0 ≤ s ∧ s ≤ 2) ∧ (psg g n p = none → ¬(0 ≤ knd g n p - 20 ∧ knd g n p - 20 ≤ 2)) := by
  unfold psg
  by_cases c1 : wdp g n p [60]
  · rw [if_pos c1, (knd_less hp).2 c1]
    exact ⟨fun s h => by have := Option.some.inj h; omega, fun h => by cases h⟩
  rw [if_neg c1]
  by_cases c2 : wdp g n p [61]
  · rw [if_pos c2, (knd_same hp).2 c2]
    exact ⟨fun s h => by have := Option.some.inj h; omega, fun h => by cases h⟩
  rw [if_neg c2]
  by_cases c3 : wdp g n p [62]
  · rw [if_pos c3, (knd_more hp).2 c3]
    exact ⟨fun s h => by have := Option.some.inj h; omega, fun h => by cases h⟩
  rw [if_neg c3]
  refine ⟨fun s h => (by cases h), fun _ h => ?_⟩
  have k1 : knd g n p ≠ 20 := fun z => c1 ((knd_less hp).1 z)
  have k2 : knd g n p ≠ 21 := fun z => c2 ((knd_same hp).1 z)
  have k3 : knd g n p ≠ 22 := fun z => c3 ((knd_more hp).1 z)
  omega
/-- where the i-th part stands -/
def tkp (g : Int → Int) (n : Int) : Nat → Int
  | 0 => skp g n 0
  | i + 1 => nxp g n (tkp g n i)
theorem tkp_bd {g : Int → Int} {n : Int} (hn : 0 ≤ n) : ∀ i : Nat, 0 ≤ tkp g n i ∧ tkp g n i ≤ n
  | 0 => by
    have := skp_bd (g := g) hn
    exact ⟨this.1, this.2⟩
  | i + 1 => by
    have h := tkp_bd (g := g) hn i
    have := nxp_bd (g := g) h.2
    exact ⟨by show 0 ≤ nxp g n (tkp g n i); omega, this.2.1⟩
theorem tkp_i {g : Int → Int} {n : Int} (hn : 0 ≤ n) : ∀ c : Nat, (∀ i, i < c → tkp g n i < n) → (c : Int) ≤ tkp g n c
  | 0, _ => (tkp_bd hn 0).1
  | c + 1, h => by
    have a := tkp_i (g := g) hn c (fun i hi => h i (by omega))
    have l := h c (by omega)
    have := (nxp_bd (g := g) (n := n) (p := tkp g n c) (by omega)).2.2 l
    show ((c + 1 : Nat) : Int) ≤ nxp g n (tkp g n c)
    omega
