/-! the answers and the changes read of the model's cells alone; the join of both sides -/
def mix (A B : Ints) : Ints := fun c => if c < 111 then A c else B c
theorem mix_ge {A B : Ints} {c : Nat} (h : 111 ≤ c) : mix A B c = B c := if_neg (by omega)
theorem mix_lt {A B : Ints} {c : Nat} (h : c < 111) : mix A B c = A c := if_pos h
theorem mix_eq {I I1 : Ints} (h : ∀ c, 111 ≤ c → I1 c = I c) : I1 = mix I1 I := funext fun c => by
  by_cases q : c < 111
  · rw [mix_lt q]
  · rw [mix_ge (by omega), h c (by omega)]
theorem upI_mix {A B : Ints} {k : Nat} {j x : Int} (h : 111 ≤ k) : upI (mix A B) k j x = mix A (upI B k j x) := funext fun c => by
  by_cases q : c < 111
  · rw [mix_lt q, upI_ne (by omega), mix_lt q]
  · rw [mix_ge (by omega)]
    funext b
    unfold upI
    rw [mix_ge (by omega)]
theorem rowI_mix {A B : Ints} {k : Nat} {g : Int → Int} (h : 111 ≤ k) : rowI (mix A B) k g = mix A (rowI B k g) := funext fun c => by
  by_cases q : c < 111
  · rw [mix_lt q, rowI_ne (by omega), mix_lt q]
  · rw [mix_ge (by omega)]
    unfold rowI
    rw [mix_ge (by omega)]
theorem Fm_villageOf (A B : Ints) (v w : Int) : F_villageOf (mix A B) v w = F_villageOf B v w := rfl
theorem Fm_worth (A B : Ints) (v w : Int) : F_worth (mix A B) v w = F_worth B v w := rfl
theorem Fm_best (A B : Ints) (v : Int) : F_best (mix A B) v = F_best B v := rfl
theorem Fm_use (A B : Ints) (v w : Int) : F_use (mix A B) v w = F_use B v w := rfl
theorem Fm_price (A B : Ints) (v : Int) : F_price (mix A B) v = F_price B v := rfl
theorem Fm_run (A B : Ints) (v w : Int) : F_run (mix A B) v w = F_run B v w := rfl
theorem Fm_most (A B : Ints) (v : Int) : F_most (mix A B) v = F_most B v := rfl
theorem Fm_share (A B : Ints) (v w n : Int) : F_share (mix A B) v w n = F_share B v w n := rfl
theorem Fm_broken (A B : Ints) (v : Int) : F_broken (mix A B) v = F_broken B v := rfl
theorem Fm_village (A B : Ints) (v : Int) : F_village (mix A B) v = F_village B v := rfl
theorem Fm_set (A B : Ints) (v w n : Int) : F_set (mix A B) v w n = F_set B v w n := rfl
theorem Fm_lawful (A B : Ints) (v : Int) : F_lawful (mix A B) v = F_lawful B v := rfl
theorem Fm_year (A B : Ints) (v : Int) : F_year (mix A B) v = F_year B v := rfl
theorem Fm_yearOf (A B : Ints) (v w : Int) : F_yearOf (mix A B) v w = F_yearOf B v w := rfl
theorem Fm_dam (A B : Ints) (v w : Int) : F_dam (mix A B) v w = F_dam B v w := rfl
theorem Fm_cleaning (A B : Ints) (v : Int) : F_cleaning (mix A B) v = F_cleaning B v := rfl
theorem Fm_kept (A B : Ints) (v : Int) : F_kept (mix A B) v = F_kept B v := rfl
theorem Fm_prove (A B : Ints) : F_prove (mix A B) = F_prove B := rfl
theorem Fm_row (A B : Ints) (v w : Int) : F_row (mix A B) v w = F_row B v w := rfl
theorem Fm_put (A B : Ints) (v w : Int) : F_put (mix A B) v w = F_put B v w := rfl
theorem Fm_item (A B : Ints) (v w n : Int) : F_item (mix A B) v w n = F_item B v w n := rfl
theorem Fm_worths (A B : Ints) (v w : Int) : F_worths (mix A B) v w = F_worths B v w := rfl
theorem Fm_shelf (A B : Ints) (v w n : Int) : F_shelf (mix A B) v w n = F_shelf B v w n := rfl
theorem Fm_taken (A B : Ints) (v w : Int) : F_taken (mix A B) v w = F_taken B v w := rfl
theorem Fm_trace (A B : Ints) (v : Int) : F_trace (mix A B) v = F_trace B v := rfl
theorem Fm_many (A B : Ints) (v : Int) : F_many (mix A B) v = F_many B v := rfl
theorem Fm_again (A B : Ints) : F_again (mix A B) = F_again B := rfl
theorem Fm_act (A B : Ints) (v w n : Int) : F_act (mix A B) v w n = F_act B v w n := rfl
theorem Fm_feed (A B : Ints) (n : Int) : F_feed (mix A B) n = F_feed B n := rfl
theorem Fm_read (A B : Ints) : F_read (mix A B) = F_read B := rfl
theorem Fm_treaty (A B : Ints) (T : List Ln) (w v x : Int) : F_treaty (mix A B) T w v x = F_treaty B T w v x := rfl
theorem Fm_lost (A B : Ints) (T : List Ln) : F_lost (mix A B) T = F_lost B T := rfl
theorem Fm_plain (A B : Ints) (T : List Ln) (x : Int) : F_plain (mix A B) T x = F_plain B T x := rfl
theorem Fm_breaks (A B : Ints) (T : List Ln) (w : Int) : F_breaks (mix A B) T w = F_breaks B T w := rfl
theorem Gm_village (A B : Ints) (w : Int) : G_village (mix A B) w = mix A (G_village B w) := by
  unfold G_village
  by_cases c : villP B w
  · rw [if_pos (show villP (mix A B) w from c), if_pos c]
    repeat rw [upI_mix (by decide)]
    try rw [rowI_mix (by decide)]
    try rfl
  · rw [if_neg (show ¬villP (mix A B) w from c), if_neg c]
theorem Gm_set (A B : Ints) (v w n : Int) : G_set (mix A B) v w n = mix A (G_set B v w n) := by
  unfold G_set
  by_cases c : setP B v w n
  · rw [if_pos (show setP (mix A B) v w n from c), if_pos c]
    repeat rw [upI_mix (by decide)]
    try rw [rowI_mix (by decide)]
    try rfl
  · rw [if_neg (show ¬setP (mix A B) v w n from c), if_neg c]
theorem Gm_year (A B : Ints) (w : Int) : G_year (mix A B) w = mix A (G_year B w) := by
  unfold G_year
  by_cases c : yearP B w
  · rw [if_pos (show yearP (mix A B) w from c), if_pos c]
    repeat rw [upI_mix (by decide)]
    try rw [rowI_mix (by decide)]
    try rfl
  · rw [if_neg (show ¬yearP (mix A B) w from c), if_neg c]
theorem Gm_yearOf (A B : Ints) (y w : Int) : G_yearOf (mix A B) y w = mix A (G_yearOf B y w) := by
  unfold G_yearOf
  by_cases c : yofP B y w
  · rw [if_pos (show yofP (mix A B) y w from c), if_pos c]
    repeat rw [upI_mix (by decide)]
    try rw [rowI_mix (by decide)]
    try rfl
  · rw [if_neg (show ¬yofP (mix A B) y w from c), if_neg c]
theorem Gm_dam (A B : Ints) (v h : Int) : G_dam (mix A B) v h = mix A (G_dam B v h) := by
  unfold G_dam
  by_cases c : damP B v h
  · rw [if_pos (show damP (mix A B) v h from c), if_pos c]
    repeat rw [upI_mix (by decide)]
    try rw [rowI_mix (by decide)]
    try rfl
  · rw [if_neg (show ¬damP (mix A B) v h from c), if_neg c]
theorem Gm_alterRow (A B : Ints) (i w v : Int) : G_alterRow (mix A B) i w v = mix A (G_alterRow B i w v) := by
  unfold G_alterRow
  by_cases c : rowP B i w
  · rw [if_pos (show rowP (mix A B) i w from c), if_pos c]
    repeat rw [upI_mix (by decide)]
    try rw [rowI_mix (by decide)]
    try rfl
  · rw [if_neg (show ¬rowP (mix A B) i w from c), if_neg c]
theorem Gm_put (A B : Ints) (s i v : Int) : G_put (mix A B) s i v = mix A (G_put B s i v) := by
  unfold G_put
  by_cases c : putP B s i
  · rw [if_pos (show putP (mix A B) s i from c), if_pos c]
    repeat rw [upI_mix (by decide)]
    try rw [rowI_mix (by decide)]
    try rfl
  · rw [if_neg (show ¬putP (mix A B) s i from c), if_neg c]
theorem Gm_worths (A B : Ints) (v s : Int) : G_worths (mix A B) v s = mix A (G_worths B v s) := by
  unfold G_worths
  by_cases c : wthP B v s
  · rw [if_pos (show wthP (mix A B) v s from c), if_pos c]
    repeat rw [upI_mix (by decide)]
    try rw [rowI_mix (by decide)]
    try rfl
  · rw [if_neg (show ¬wthP (mix A B) v s from c), if_neg c]
theorem Gm_shelf (A B : Ints) (s w n : Int) : G_shelf (mix A B) s w n = mix A (G_shelf B s w n) := by
  unfold G_shelf
  by_cases c : shfP B s w n
  · rw [if_pos (show shfP (mix A B) s w n from c), if_pos c]
    repeat rw [upI_mix (by decide)]
    try rw [rowI_mix (by decide)]
    try rfl
  · rw [if_neg (show ¬shfP (mix A B) s w n from c), if_neg c]
theorem jdg_mix (A B : Ints) : ∀ (m : Nat) (i ab s : Int), jdg (mix A B) m i ab s = jdg B m i ab s
  | 0, _, _, _ => rfl
  | m + 1, i, ab, s => by
    have e1 : jdg (mix A B) (m + 1) i ab s = if jdP (mix A B) i ab then jdg (mix A B) m (i + 1) (B 135 (3 * i + 2)) (s + mde (B 112) i (B 135 (3 * i + 1)) (B 135 (3 * i + 2))) else i + 1 := rfl
    have e2 : jdg B (m + 1) i ab s = if jdP B i ab then jdg B m (i + 1) (B 135 (3 * i + 2)) (s + mde (B 112) i (B 135 (3 * i + 1)) (B 135 (3 * i + 2))) else i + 1 := rfl
    rw [e1, e2]
    by_cases c : jdP B i ab
    · rw [if_pos (show jdP (mix A B) i ab from c), if_pos c]
      exact jdg_mix A B m _ _ _
    · rw [if_neg (show ¬jdP (mix A B) i ab from c), if_neg c]
theorem Fm_judge (A B : Ints) : F_judge (mix A B) = F_judge B := jdg_mix A B _ _ _ _
theorem Gm_sheet (A B : Ints) (s t n : Int) : G_sheet (mix A B) s t n = mix A (G_sheet B s t n) := by
  unfold G_sheet
  by_cases c : ((0 ≤ s ∧ s ≤ 3) ∧ (-1 ≤ t ∧ t ≤ 3) ∧ (0 ≤ t → n ≤ 40)) ∧ ¬(0 ≤ t ∧ n < 0)
  · rw [if_pos c, if_pos c, upI_mix (by decide), upI_mix (by decide), rowI_mix (by decide)]
    rfl
  · rw [if_neg c, if_neg c]
theorem Gm_prove (A B : Ints) : G_prove (mix A B) = mix A (G_prove B) := by
  unfold G_prove
  rw [rowI_mix (by decide), upI_mix (by decide)]
  rfl
theorem Gm_keep (A B : Ints) : G_keep (mix A B) = mix A (G_keep B) := by
  unfold G_keep
  rw [rowI_mix (by decide), upI_mix (by decide)]
  rfl
theorem Gm_again (A B : Ints) : G_again (mix A B) = mix A (G_again B) := by
  unfold G_again
  by_cases c : B 111 2 = 0
  · rw [if_pos (show mix A B 111 2 = 0 from c), if_pos c]
  · rw [if_neg (show ¬mix A B 111 2 = 0 from c), if_neg c, rowI_mix (by decide)]
    rfl
theorem Gm_act (A B : Ints) (s j x : Int) : G_act (mix A B) s j x = mix A (G_act B s j x) := by
  unfold G_act
  rw [rowI_mix (by decide), upI_mix (by decide)]
  rfl
theorem Gm_feed (A B : Ints) (e : Int64) (n : Int) : G_feed (mix A B) e n = mix A (G_feed B e n) := by
  unfold G_feed
  by_cases c : feedP B n
  · rw [if_pos (show feedP (mix A B) n from c), if_pos c, rowI_mix (by decide), upI_mix (by decide)]
    rfl
  · rw [if_neg (show ¬feedP (mix A B) n from c), if_neg c]
theorem flo_mix (A : Ints) (v s i : Int) : ∀ (m : Nat) (k : Int) (B : Ints) (c : Int), flo v s i m k (mix A B) c = ((flo v s i m k B c).1, mix A (flo v s i m k B c).2)
  | 0, _, _, _ => rfl
  | m + 1, k, B, c => by
    show (if i < 0 ∨ B 137 s - 1 - k < i then (-12, mix A B) else if (0 ≤ v + k ∧ v + k < B 112 0) ∧ (0 ≤ itm B s (i + k) ∧ itm B s (i + k) ≤ 12) then flo v s i m (k + 1) (upI (mix A B) 112 (10 + 18 * (v + k) + 0) (itm B s (i + k))) (c + 1) else flo v s i m (k + 1) (mix A B) c) = ((if i < 0 ∨ B 137 s - 1 - k < i then (-12, B) else if (0 ≤ v + k ∧ v + k < B 112 0) ∧ (0 ≤ itm B s (i + k) ∧ itm B s (i + k) ≤ 12) then flo v s i m (k + 1) (upI B 112 (10 + 18 * (v + k) + 0) (itm B s (i + k))) (c + 1) else flo v s i m (k + 1) B c).1, mix A (if i < 0 ∨ B 137 s - 1 - k < i then (-12, B) else if (0 ≤ v + k ∧ v + k < B 112 0) ∧ (0 ≤ itm B s (i + k) ∧ itm B s (i + k) ≤ 12) then flo v s i m (k + 1) (upI B 112 (10 + 18 * (v + k) + 0) (itm B s (i + k))) (c + 1) else flo v s i m (k + 1) B c).2)
    by_cases c1 : i < 0 ∨ B 137 s - 1 - k < i
    · rw [if_pos c1, if_pos c1]
    · rw [if_neg c1, if_neg c1]
      by_cases c2 : (0 ≤ v + k ∧ v + k < B 112 0) ∧ (0 ≤ itm B s (i + k) ∧ itm B s (i + k) ≤ 12)
      · rw [if_pos c2, if_pos c2, upI_mix (by decide)]
        exact flo_mix A v s i m (k + 1) _ _
      · rw [if_neg c2, if_neg c2]
        exact flo_mix A v s i m (k + 1) _ _
theorem Fm_flows (A B : Ints) (v s i n : Int) : F_flows (mix A B) v s i n = F_flows B v s i n := by
  unfold F_flows
  rw [flo_mix]
  rfl
theorem Gm_flows (A B : Ints) (v s i n : Int) : G_flows (mix A B) v s i n = mix A (G_flows B v s i n) := by
  unfold G_flows
  by_cases c : flwP B v s n ∧ notv B s 1 = 0
  · rw [if_pos (show flwP (mix A B) v s n ∧ notv (mix A B) s 1 = 0 from c), if_pos c, flo_mix]
  · rw [if_neg (show ¬(flwP (mix A B) v s n ∧ notv (mix A B) s 1 = 0) from c), if_neg c]
/-- behind both calls the sides agree again -/
theorem RX.join {I1 I2 N : Ints} {T : List Ln} (h : RX I1 N T) (hs : Same (mix I1 N) I2) : RX I2 I2 T := by
  obtain ⟨⟨h1, h2, h3⟩, ⟨h4, h5⟩, h6, h7, h8, h9, h10, h11⟩ := h
  have eA : ∀ c, c < 111 → I2 c = I1 c := fun c hc => by rw [hs.1 c (Or.inl hc), mix_lt hc]
  have eN : ∀ c, (c = 112 ∨ c = 113 ∨ c = 127 ∨ (135 ≤ c ∧ c ≤ 142)) → I2 c = N c := fun c hc => by rw [hs.1 c (Or.inr hc), mix_ge (by omega)]
  have e2 : I2 111 2 = N 111 2 := hs.2.1
  have e17 : I2 111 17 = N 111 17 := hs.2.2.1
  have e31 : I2 111 31 = N 111 31 := hs.2.2.2.1
  have e39 : I2 111 39 = N 111 39 := hs.2.2.2.2
  have e112 := eN 112 (by decide)
  refine ⟨⟨by rw [e112]; exact h1, ?_, by rw [e112]; exact h3⟩, ⟨by rw [e112]; exact LN.same h1 h4 (fun c c1 c2 => eA c (by omega)), h5.same (fun c c1 c2 => eA c (by omega))⟩, h6.same h2 (by rw [eA 0 (by decide)]) (fun c c1 c2 => eA c (by omega)) e31 (eN 135 (by decide)), h7.same (fun c c1 c2 => eA c (by omega)) (fun c c1 c2 => eN c (by omega)), h8.same (eA 99 (by decide)) (eA 100 (by decide)) (fun c c1 c2 => eN c (by omega)), h9.same (by rw [eA 101 (by decide)]) (eA 102 (by decide)) e39 (eN 142 (by decide)), h10.same (by rw [eA 80 (by decide)]) (eA 86 (by decide)) e17 (eN 127 (by decide)), h11.same (by rw [eA 0 (by decide)]) (fun c c1 c2 => eA c (by omega)) e2 (eN 113 (by decide))⟩
  unfold WS
  rw [e31, e17, e39, eN 136 (by decide), eN 137 (by decide), eN 139 (by decide), eN 140 (by decide)]
  exact h2
theorem WS.mix {A B : Ints} (h : WS B) : WS (mix A B) := h
