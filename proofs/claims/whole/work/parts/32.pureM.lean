/-! ===== PURE M: the rows: sheet, drop, item, copy ===== -/
theorem updL_eq {f : Nat → Int64} {k : Nat} {x : Int64} : vp_updL f k x k = x := if_pos rfl
theorem updL_ne {f : Nat → Int64} {k j : Nat} {x : Int64} (h : j ≠ k) : vp_updL f k x j = f j := if_neg h
def RWS (RL RS : Nat → Int32) (RX : Nat → Nat → Int64) (ml ms : Nat → Int32) (mx : Nat → Int64) : Prop :=
  ∀ s, s < 4 → (RL s = -1 ∧ ml s = -1) ∨ ∃ l z, l < 4 ∧ z ≤ 24 ∧ RL s = nI l ∧ ml s = nI l ∧ RS s = nI z ∧ ms s = nI z ∧ ∀ j, j < z → RX s j = mx (24 * s + j)
def hi (z : Nat) (i n : Int32) : Bool := decide (0 ≤ i.toInt ∧ 0 ≤ n.toInt ∧ i.toInt + n.toInt ≤ z)
theorem has_C {z : Nat} (hz : z ≤ 24) (i n : Int32) : m_X4_hasItems (nI z) i n = some (bI (hi z i n)) := by
  have ri := fb_rng i
  have rn := fb_rng n
  have ez : (nI z).toInt = z := nI_toInt (by omega)
  unfold m_X4_hasItems hi
  by_cases h1 : i < 0
  · rw [if_pos h1, decide_eq_false (fun q => by rw [fa_lt, Int32.toInt_zero] at h1; omega)]; rfl
  rw [if_neg h1]
  rw [fa_lt, Int32.toInt_zero] at h1
  by_cases h2 : n < 0
  · rw [if_pos h2, decide_eq_false (fun q => by rw [fa_lt, Int32.toInt_zero] at h2; omega)]; rfl
  rw [if_neg h2]
  rw [fa_lt, Int32.toInt_zero] at h2
  have es : (nI z - n).toInt = z - n.toInt := by rw [fb_subI (by rw [ez]; omega) (by rw [ez]; omega), ez]
  by_cases h3 : nI z - n < i
  · rw [if_pos h3, decide_eq_false (fun q => by rw [fa_lt, es] at h3; omega)]; rfl
  · rw [if_neg h3, decide_eq_true (by rw [fa_lt, es] at h3; omega)]; rfl
theorem idx_M {z : Nat} (hz : z ≤ 24) (i n : Int32) (k1 k2 : Option Int32) : (if i < 0 then k2 else (if n < 0 then k2 else (if (lg_cmp (i.toInt64 + n.toInt64) ((nI z).toInt64)) ≤ 0 then k1 else k2))) = if hi z i n then k1 else k2 := by
  have ri := fb_rng i
  have rn := fb_rng n
  have ez : (nI z).toInt = z := nI_toInt (by omega)
  unfold hi
  by_cases h1 : i < 0
  · rw [if_pos h1, decide_eq_false (fun q => by rw [fa_lt, Int32.toInt_zero] at h1; omega)]; rfl
  rw [if_neg h1]
  rw [fa_lt, Int32.toInt_zero] at h1
  by_cases h2 : n < 0
  · rw [if_pos h2, decide_eq_false (fun q => by rw [fa_lt, Int32.toInt_zero] at h2; omega)]; rfl
  rw [if_neg h2]
  rw [fa_lt, Int32.toInt_zero] at h2
  have es : (i.toInt64 + n.toInt64).toInt = i.toInt + n.toInt := by rw [fb_addL (by rw [Int32.toInt_toInt64, Int32.toInt_toInt64]; omega) (by rw [Int32.toInt_toInt64, Int32.toInt_toInt64]; omega), Int32.toInt_toInt64, Int32.toInt_toInt64]
  have hg : (nI z).toInt64 < i.toInt64 + n.toInt64 ↔ (z : Int) < i.toInt + n.toInt := by rw [fa_lt64, es, Int32.toInt_toInt64, ez]
  by_cases h3 : (lg_cmp (i.toInt64 + n.toInt64) ((nI z).toInt64)) ≤ 0
  · rw [if_pos h3, decide_eq_true]; · rfl
    refine ⟨by omega, by omega, ?_⟩
    have : ¬ (0 : Int32) < lg_cmp (i.toInt64 + n.toInt64) ((nI z).toInt64) := fun q => by rw [fa_lt] at q; rw [fa_le] at h3; omega
    rw [cmp_gt, hg] at this; omega
  · rw [if_neg h3, decide_eq_false]; · rfl
    intro q
    have := fa_of_nle h3
    rw [cmp_gt, hg] at this; omega
theorem hi_of {z : Nat} {i n : Int32} (h : hi z i n = true) : ∃ a b, i = nI a ∧ n = nI b ∧ a + b ≤ z := by
  have h := of_decide_eq_true h
  have ri := fb_rng i
  have rn := fb_rng n
  obtain ⟨a, ha, rfl⟩ := nI_of (x := i) (by rw [fa_lt, Int32.toInt_zero]; omega)
  obtain ⟨b, hb, rfl⟩ := nI_of (x := n) (by rw [fa_lt, Int32.toInt_zero]; omega)
  rw [nI_toInt ha, nI_toInt hb] at h
  exact ⟨a, b, rfl, rfl, by omega⟩
theorem isSheet_C (x : Int32) : m_X8_isSheet x = some (bI (wi x 0 3)) := by unfold m_X8_isSheet; rw [within_C]; simp only [Option.bind_some, zb_bI]
theorem isLane_C (x : Int32) : m_X8_isLane x = some (bI (wi x 0 3)) := by unfold m_X8_isLane; rw [within_C]; simp only [Option.bind_some, zb_bI]
theorem isSheet_M (x : Int32) : m_X9_isSheet x = some (bI (wi x 0 3)) := by unfold m_X9_isSheet; rw [in03]; simp only [Option.bind_some, zb_bI]
theorem isLane_M (x : Int32) : m_X9_isLane x = some (bI (wi x 0 3)) := by unfold m_X9_isLane; rw [in03]; simp only [Option.bind_some, zb_bI]
theorem sh_of {x : Int32} (h : wi x 0 3 = true) : ∃ k, x = nI k ∧ k < 4 := by
  obtain ⟨k, e, -, h2⟩ := wi_nI (a := 0) (b := 3) (by decide) (by decide) h
  exact ⟨k, e, by omega⟩
theorem l4 : ∀ l, l < 4 → ¬ nI l = -1 ∧ (0 : Int32) ≤ nI l ∧ ¬ nI l < 0 := by decide +kernel
theorem ref_both {RL RS : Nat → Int32} {RX : Nat → Nat → Int64} {ml ms : Nat → Int32} {mx : Nat → Int64} (h : RWS RL RS RX ml ms mx) {s : Nat} (hs : s < 4) (a i n : Int32) :
    ∃ v, m_X4_refusal (RL s) (RS s) a i n = some v ∧ m_X9_why ml ms (nI s) a i n = some v ∧ ((v = 0 ∧ ∃ l z c b, l < 4 ∧ z ≤ 24 ∧ RL s = nI l ∧ ml s = nI l ∧ RS s = nI z ∧ ms s = nI z ∧ (∀ j, j < z → RX s j = mx (24 * s + j)) ∧ a = nI l ∧ i = nI c ∧ n = nI b ∧ c + b ≤ z) ∨ (¬ v = 0 ∧ ¬ 0 ≤ v)) := by
  unfold m_X4_refusal m_X9_why m_X4_isMissing
  simp only [chk_nI _ hs (by decide : (4 : Nat) < 2 ^ 31), cl (show s < 2 ^ 31 by omega)]
  rcases h s hs with ⟨h1, h2⟩ | ⟨l, z, hl, hz, h1, h2, h3, h4, h5⟩
  · rw [h1, h2]
    exact ⟨-11, rfl, rfl, Or.inr ⟨by decide, by decide⟩⟩
  · rw [h1, h2, h3, h4, if_neg (l4 l hl).1, if_pos (l4 l hl).2.1]
    simp only [Option.bind_some, if_true]
    by_cases ha : nI l = a
    · subst ha
      rw [if_pos rfl, if_pos rfl, has_C hz, idx_M hz]
      simp only [Option.bind_some, ib0]
      cases hh : hi z i n
      · exact ⟨-13, rfl, rfl, Or.inr ⟨by decide, by decide⟩⟩
      · obtain ⟨c, b, rfl, rfl, hcb⟩ := hi_of hh
        exact ⟨0, rfl, rfl, Or.inl ⟨rfl, l, z, c, b, hl, hz, rfl, rfl, rfl, rfl, h5, rfl, rfl, rfl, hcb⟩⟩
    · rw [if_neg ha, if_neg ha]
      exact ⟨-12, rfl, rfl, Or.inr ⟨by decide, by decide⟩⟩
theorem fill_C {F : Nat} (hF : 64 ≤ F) (f : Nat → Int64) : ∃ g, m_J7_fill_d0a16_24 F f 0 = some g ∧ ∀ k, k < 24 → g k = 0 := by
  unfold m_J7_fill_d0a16_24
  obtain ⟨g, h1, h2⟩ := loopTo (fun n x s => m_J7_fill_d0a16_24_L6 0 (fun w3 => some w3) n x s) (fun g => some g) (fun j g => ∀ k, k < j → g k = 0) 24 (fun n s h => by
      show m_J7_fill_d0a16_24_L6s _ _ _ _ _ = _
      unfold m_J7_fill_d0a16_24_L6s
      rw [if_pos (by decide)]) (fun n j s hj h => by
      refine ⟨vp_updL s j 0, fun k hk => ?_, ?_⟩
      · by_cases e : k = j
        · subst e; exact updL_eq
        · rw [updL_ne e]; exact h k (by omega)
      · show m_J7_fill_d0a16_24_L6s _ _ _ _ _ = _
        unfold m_J7_fill_d0a16_24_L6s
        rw [if_neg (show ¬ (24 : Int32) ≤ nI j from nInle (a := 24) (by decide) (by omega) hj), chk_nI _ hj (by decide), cl (by omega)]
        simp only [bnd, nI_1]) 24 F 0 f (by omega) (by omega) (fun k hk => absurd hk (Nat.not_lt_zero k))
  exact ⟨g, h2, h1⟩
theorem ix24 (s k : Nat) : 24 * nI s + nI k = nI (24 * s + k) := by rw [show (24 : Int32) = nI 24 from rfl, pk_mul, nI_add]
theorem S_sheet {RL RS : Nat → Int32} {RX : Nat → Nat → Int64} {ml ms : Nat → Int32} {mx : Nat → Int64} {F : Nat} (hF : 64 ≤ F) (h : RWS RL RS RX ml ms mx) (a b c : Int32) :
    ∃ v RX2 RL2 RS2 ml2 ms2 mx2, m_X8_sheet F RX RL RS a b c = some (v, RX2, RL2, RS2) ∧ m_X9_sheet F ml ms mx a b c = some (v, ml2, ms2, mx2) ∧ RWS RL2 RS2 RX2 ml2 ms2 mx2 := by
  unfold m_X8_sheet m_X9_sheet
  simp only [isSheet_C, isSheet_M, isLane_C, isLane_M, Option.bind_some, ib0]
  cases h1 : wi a 0 3
  · exact ⟨_, _, _, _, _, _, _, rfl, rfl, h⟩
  cases h2 : wi b 0 3
  · exact ⟨_, _, _, _, _, _, _, rfl, rfl, h⟩
  simp only [if_true]
  by_cases h3 : c ≤ 24
  rotate_left
  · rw [if_neg h3, if_neg h3]; exact ⟨_, _, _, _, _, _, _, rfl, rfl, h⟩
  rw [if_pos h3, if_pos h3]
  by_cases h4 : 0 ≤ c
  rotate_left
  · rw [if_neg h4, if_neg h4]; exact ⟨_, _, _, _, _, _, _, rfl, rfl, h⟩
  rw [if_pos h4, if_pos h4]
  obtain ⟨s, rfl, hs⟩ := sh_of h1
  obtain ⟨l, rfl, hl⟩ := sh_of h2
  obtain ⟨z, rfl, -, hz⟩ := wi_nI (x := c) (a := 0) (b := 24) (by decide) (by decide) (by unfold wi; rw [show nI 0 = 0 from rfl, show nI 24 = 24 from rfl, decide_eq_true h4, decide_eq_true h3]; rfl)
  unfold m_X4_begin
  obtain ⟨g, g1, g2⟩ := fill_C hF (RX s)
  obtain ⟨f, ⟨f1, f2⟩, f3⟩ := loopTo (fun n x t => m_X9_sheet_L46 (nI s) (fun w11 => some (nI z, upd ml s (nI l), upd ms s (nI z), w11)) n x t) (fun w11 => some (nI z, upd ml s (nI l), upd ms s (nI z), w11)) (fun j t => (∀ k, k < j → t (24 * s + k) = 0) ∧ ∀ i, (i < 24 * s ∨ 24 * s + 24 ≤ i) → t i = mx i) 24 (fun n t h => by
      show m_X9_sheet_L46s _ _ _ _ _ = _
      unfold m_X9_sheet_L46s
      rw [if_pos (by decide)]) (fun n j t hj h => by
      refine ⟨vp_updL t (24 * s + j) 0, ⟨fun k hk => ?_, fun i hi => ?_⟩, ?_⟩
      · by_cases e : k = j
        · subst e; exact updL_eq
        · rw [updL_ne (by omega)]; exact h.1 k (by omega)
      · rw [updL_ne (by omega)]; exact h.2 i hi
      · show m_X9_sheet_L46s _ _ _ _ _ = _
        unfold m_X9_sheet_L46s
        rw [if_neg (show ¬ (24 : Int32) ≤ nI j from nInle (a := 24) (by decide) (by omega) hj), ix24, chk_nI _ (by omega) (by decide), cl (by omega)]
        simp only [bnd, nI_1]) 24 F 0 mx (by omega) (by omega) ⟨fun k hk => absurd hk (Nat.not_lt_zero k), fun _ _ => rfl⟩
  simp only [chk_nI _ hs (by decide : (4 : Nat) < 2 ^ 31), cl (show s < 2 ^ 31 by omega)]
  rw [g1]
  simp only [Option.bind_some]
  refine ⟨nI z, va_up RX s g, va_up RL s (nI l), va_up RS s (nI z), _, _, f, rfl, f3, fun t ht => ?_⟩
  by_cases e : t = s
  · subst e
    refine Or.inr ⟨l, z, hl, hz, vu_eq, upd_eq, vu_eq, upd_eq, fun j hj => ?_⟩
    rw [vu_eq, g2 j (by omega), f1 j (by omega)]
  · rcases h t ht with ⟨q1, q2⟩ | ⟨l', z', q1, q2, q3, q4, q5, q6, q7⟩
    · exact Or.inl ⟨by rw [vu_ne e]; exact q1, by rw [upd_ne e]; exact q2⟩
    · refine Or.inr ⟨l', z', q1, q2, by rw [vu_ne e]; exact q3, by rw [upd_ne e]; exact q4, by rw [vu_ne e]; exact q5, by rw [upd_ne e]; exact q6, fun j hj => ?_⟩
      rw [vu_ne e, f2 _ (by omega)]; exact q7 j hj
theorem S_drop {RL RS : Nat → Int32} {RX : Nat → Nat → Int64} {ml ms : Nat → Int32} {mx : Nat → Int64} (h : RWS RL RS RX ml ms mx) (a : Int32) :
    ∃ v RL2 ml2, m_X8_drop RL RS a = some (v, RL2) ∧ m_X9_drop ml ms a = some (v, ml2) ∧ RWS RL2 RS RX ml2 ms mx := by
  unfold m_X8_drop m_X9_drop m_X4_isMissing m_X4_end
  simp only [isSheet_C, isSheet_M, Option.bind_some, ib0]
  cases h1 : wi a 0 3
  · exact ⟨_, _, _, rfl, rfl, h⟩
  simp only [if_true]
  obtain ⟨s, rfl, hs⟩ := sh_of h1
  simp only [chk_nI _ hs (by decide : (4 : Nat) < 2 ^ 31), cl (show s < 2 ^ 31 by omega)]
  rcases h s hs with ⟨q1, q2⟩ | ⟨l, z, q1, q2, q3, q4, q5, q6, q7⟩
  · rw [q1, q2]; exact ⟨_, _, _, rfl, rfl, h⟩
  · rw [q3, q4, if_neg (l4 l q1).1, if_pos (l4 l q1).2.1, q5, q6]
    refine ⟨nI z, va_up RL s (-1), upd ml s (-1), rfl, rfl, fun t ht => ?_⟩
    by_cases e : t = s
    · subst e; exact Or.inl ⟨vu_eq, upd_eq⟩
    · rw [vu_ne e, upd_ne e]; exact h t ht
theorem S_item {RL RS : Nat → Int32} {RX : Nat → Nat → Int64} {ml ms : Nat → Int32} {mx : Nat → Int64} (h : RWS RL RS RX ml ms mx) (a b c : Int32) (d : Int64) :
    ∃ v RX2 mx2, m_X8_item RX RL RS a b c d = some (v, RX2) ∧ m_X9_item ml ms mx a b c d = some (v, mx2) ∧ RWS RL RS RX2 ml ms mx2 := by
  unfold m_X8_item m_X9_item
  simp only [isSheet_C, isSheet_M, isLane_C, isLane_M, Option.bind_some, ib0]
  cases h1 : wi a 0 3
  · exact ⟨_, _, _, rfl, rfl, h⟩
  cases h2 : wi b 0 3
  · exact ⟨_, _, _, rfl, rfl, h⟩
  simp only [if_true]
  obtain ⟨s, rfl, hs⟩ := sh_of h1
  obtain ⟨l0, rfl, hl0⟩ := sh_of h2
  simp only [chk_nI _ hs (by decide : (4 : Nat) < 2 ^ 31), cl (show s < 2 ^ 31 by omega)]
  obtain ⟨v, e1, e2, e3⟩ := ref_both h hs (nI l0) c 1
  rw [e1, e2]
  simp only [Option.bind_some]
  rcases e3 with ⟨rfl, l, z, i, n, hl, hz, q1, q2, q3, q4, q5, q6, rfl, q8, q9⟩ | ⟨n1, n2⟩
  rotate_left
  · rw [if_neg n1, if_neg n2]; exact ⟨_, _, _, rfl, rfl, h⟩
  have hn : n = 1 := ((nI_eq (a := 1) (by decide) (by have := q8; rcases Nat.lt_or_ge n (2 ^ 31) with w | w; exact w; omega)).mp q8).symm
  subst hn
  rw [if_pos rfl, if_pos (by decide)]
  unfold m_X4_write
  rw [q1, q6, ix24]
  simp only [chk_nI _ (show i < 24 by omega) (by decide : (24 : Nat) < 2 ^ 31), chk_nI _ (show 24 * s + i < 96 by omega) (by decide : (96 : Nat) < 2 ^ 31), cl (show i < 2 ^ 31 by omega), cl (show 24 * s + i < 2 ^ 31 by omega)]
  have fin : ∀ x : Int64, RWS RL RS (va_up RX s (vp_updL (RX s) i x)) ml ms (vp_updL mx (24 * s + i) x) := by
    intro x t ht
    by_cases e : t = s
    · subst e
      refine Or.inr ⟨l, z, hl, hz, q1, q2, q3, q4, fun j hj => ?_⟩
      rw [vu_eq]
      by_cases ej : j = i
      · subst ej; rw [updL_eq, updL_eq]
      · rw [updL_ne ej, updL_ne (by omega)]; exact q5 j hj
    · rcases h t ht with w | ⟨l', z', w1, w2, w3, w4, w5, w6, w7⟩
      · exact Or.inl w
      · refine Or.inr ⟨l', z', w1, w2, w3, w4, w5, w6, fun j hj => ?_⟩
        rw [vu_ne e, updL_ne (by omega)]; exact w7 j hj
  by_cases k0 : nI l = 0
  · rw [if_pos k0, if_pos k0]; exact ⟨_, _, _, rfl, rfl, fin _⟩
  rw [if_neg k0, if_neg k0]
  by_cases k1 : nI l = 1
  · rw [if_pos k1, if_pos k1]; exact ⟨_, _, _, rfl, rfl, fin _⟩
  rw [if_neg k1, if_neg k1]
  by_cases k2 : nI l = 2
  · rw [if_pos k2, if_pos k2]; exact ⟨_, _, _, rfl, rfl, fin _⟩
  rw [if_neg k2, if_neg k2]; exact ⟨_, _, _, rfl, rfl, fin _⟩
theorem why_at {ml ms : Nat → Int32} {s l z : Nat} (hs : s < 4) (hl : l < 4) (hz : z ≤ 24) (h1 : ml s = nI l) (h2 : ms s = nI z) (a i n : Int32) : m_X9_why ml ms (nI s) a i n = some (if nI l = a then (if hi z i n then 0 else -13) else -12) := by
  unfold m_X9_why
  simp only [chk_nI _ hs (by decide : (4 : Nat) < 2 ^ 31), cl (show s < 2 ^ 31 by omega)]
  rw [h1, h2, if_pos (l4 l hl).2.1, idx_M hz]
  by_cases ha : nI l = a
  · rw [if_pos ha, if_pos ha]; cases hi z i n <;> rfl
  · rw [if_neg ha, if_neg ha]
theorem copy_M {mx mv : Nat → Int64} {F s i t j n : Nat} {v : Int32} (hs : s < 4) (ht : t < 4) (hF : 64 ≤ F) (h1 : i + n ≤ 24) (h2 : j + n ≤ 24) :
    ∃ f g, m_X9_copy_L91 mx (nI s) (nI i) (nI n) (fun w15 => m_X9_copy_L128 (nI t) (nI j) (nI n) w15 (fun w18 => some (v, w18, w15)) F 0 mx) F 0 mv = some (v, f, g) ∧ (∀ k, k < n → f (24 * t + j + k) = mx (24 * s + i + k)) ∧ (∀ k, (k < 24 * t + j ∨ 24 * t + j + n ≤ k) → f k = mx k) := by
  obtain ⟨g, g1, g2⟩ := loopTo (fun a x w => m_X9_copy_L91 mx (nI s) (nI i) (nI n) (fun w15 => m_X9_copy_L128 (nI t) (nI j) (nI n) w15 (fun w18 => some (v, w18, w15)) F 0 mx) a x w) (fun w15 => m_X9_copy_L128 (nI t) (nI j) (nI n) w15 (fun w18 => some (v, w18, w15)) F 0 mx) (fun c w => ∀ k, k < c → w k = mx (24 * s + i + k)) n (fun a w h => by
      show m_X9_copy_L91s _ _ _ _ _ _ _ _ = _
      unfold m_X9_copy_L91s
      rw [if_pos (nIle (by omega) (by omega) (Nat.le_refl _))]) (fun a c w hc h => by
      refine ⟨vp_updL w c (mx (24 * s + i + c)), fun k hk => ?_, ?_⟩
      · by_cases e : k = c
        · subst e; exact updL_eq
        · rw [updL_ne e]; exact h k (by omega)
      · show m_X9_copy_L91s _ _ _ _ _ _ _ _ = _
        unfold m_X9_copy_L91s
        rw [if_neg (nInle (by omega) (by omega) hc), ix24, nI_add, chk_nI _ (by omega) (by decide), chk_nI _ (by omega) (by decide), cl (by omega), cl (by omega)]
        simp only [bnd, nI_1]) n F 0 mv (by omega) (by omega) (fun k hk => absurd hk (Nat.not_lt_zero k))
  obtain ⟨f, f1, f2⟩ := loopTo (fun a x w => m_X9_copy_L128 (nI t) (nI j) (nI n) g (fun w18 => some (v, w18, g)) a x w) (fun w18 => some (v, w18, g)) (fun c w => (∀ k, k < c → w (24 * t + j + k) = g k) ∧ ∀ k, (k < 24 * t + j ∨ 24 * t + j + n ≤ k) → w k = mx k) n (fun a w h => by
      show m_X9_copy_L128s _ _ _ _ _ _ _ _ = _
      unfold m_X9_copy_L128s
      rw [if_pos (nIle (by omega) (by omega) (Nat.le_refl _))]) (fun a c w hc h => by
      refine ⟨vp_updL w (24 * t + j + c) (g c), ⟨fun k hk => ?_, fun k hk => ?_⟩, ?_⟩
      · by_cases e : k = c
        · subst e; exact updL_eq
        · rw [updL_ne (by omega)]; exact h.1 k (by omega)
      · rw [updL_ne (by omega)]; exact h.2 k hk
      · show m_X9_copy_L128s _ _ _ _ _ _ _ _ = _
        unfold m_X9_copy_L128s
        rw [if_neg (nInle (by omega) (by omega) hc), ix24, nI_add, chk_nI _ (by omega) (by decide), chk_nI _ (by omega) (by decide), cl (by omega), cl (by omega)]
        simp only [bnd, nI_1]) n F 0 mx (by omega) (by omega) ⟨fun k hk => absurd hk (Nat.not_lt_zero k), fun _ _ => rfl⟩
  exact ⟨f, g, Eq.trans g2 f2, fun k hk => by rw [f1.1 k hk, g1 k hk], f1.2⟩
theorem S_copy {RL RS : Nat → Int32} {RX : Nat → Nat → Int64} {ml ms : Nat → Int32} {mx mv : Nat → Int64} {F : Nat} (hF : 64 ≤ F) (h : RWS RL RS RX ml ms mx) (a i b j n : Int32) :
    ∃ v RX2 mx2 mv2, m_X8_copy RX RL RS a i b j n = some (v, RX2) ∧ m_X9_copy F ml ms mx mv a i b j n = some (v, mx2, mv2) ∧ RWS RL RS RX2 ml ms mx2 := by
  unfold m_X8_copy m_X9_copy m_X4_isMissing
  simp only [isSheet_C, isSheet_M, Option.bind_some, ib0]
  cases h1 : wi a 0 3
  · exact ⟨_, _, _, _, rfl, rfl, h⟩
  cases h2 : wi b 0 3
  · exact ⟨_, _, _, _, rfl, rfl, h⟩
  simp only [if_true]
  obtain ⟨s, rfl, hs⟩ := sh_of h1
  obtain ⟨t, rfl, ht⟩ := sh_of h2
  simp only [chk_nI _ hs (by decide : (4 : Nat) < 2 ^ 31), cl (show s < 2 ^ 31 by omega), chk_nI _ ht (by decide : (4 : Nat) < 2 ^ 31), cl (show t < 2 ^ 31 by omega)]
  rcases h s hs with ⟨q1, q2⟩ | ⟨l, z, q1, q2, q3, q4, q5, q6, q7⟩
  · rw [q1, q2]; exact ⟨_, _, _, _, rfl, rfl, h⟩
  rw [q3, q4, if_neg (l4 l q1).1, if_neg (l4 l q1).2.2]
  simp only [Option.bind_some, if_true]
  rcases h t ht with ⟨p1, p2⟩ | ⟨l', z', p1, p2, p3, p4, p5, p6, p7⟩
  · rw [p1, p2]; exact ⟨_, _, _, _, rfl, rfl, h⟩
  rw [p3, p4, if_neg (l4 l' p1).1, if_pos (l4 l' p1).2.1, why_at ht p1 p2 p4 p6, why_at hs q1 q2 q4 q6]
  simp only [Option.bind_some, if_true, jn]
  by_cases hl : l = l'
  rotate_left
  · have hl1 : ¬ nI l = nI l' := fun w => hl ((nI_eq (by omega) (by omega)).mp w)
    rw [if_neg hl1, if_neg (show ¬ nI l' = nI l from fun w => hl1 w.symm)]
    exact ⟨_, _, _, _, rfl, rfl, h⟩
  subst hl
  rw [if_pos rfl, if_pos rfl, q5, p5, has_C q2, has_C p2]
  simp only [Option.bind_some, ib0]
  cases c1 : hi z i n
  · cases c2 : hi z' j n
    · exact ⟨_, _, _, _, rfl, rfl, h⟩
    · exact ⟨_, _, _, _, rfl, rfl, h⟩
  cases c2 : hi z' j n
  · exact ⟨_, _, _, _, rfl, rfl, h⟩
  obtain ⟨i', n', rfl, rfl, hi1⟩ := hi_of c1
  obtain ⟨j', n2, rfl, e, hi2⟩ := hi_of c2
  have e : n' = n2 := (nI_eq (by omega) (by omega)).mp e
  subst e
  obtain ⟨f, g, f1, f2, f3⟩ := copy_M (mx := mx) (mv := mv) (v := nI n') hs ht hF (show i' + n' ≤ 24 by omega) (show j' + n' ≤ 24 by omega)
  refine ⟨nI n', va_up RX t (va_cpy (RX s) (RX t) i' j' n'), f, g, ?_, f1, fun k hk => ?_⟩
  · simp only [if_true]
    unfold cpk
    rw [cl (by omega), cl (by omega), cl (by omega), if_pos ⟨⟨nI_pos (by omega), nI_pos (by omega), nI_pos (by omega)⟩, by omega, by omega⟩]
  · by_cases e : k = t
    · subst e
      refine Or.inr ⟨l, z', p1, p2, p3, p4, p5, p6, fun y hy => ?_⟩
      rw [vu_eq]
      unfold va_cpy
      by_cases w : j' ≤ y ∧ y < j' + n'
      · rw [if_pos w, q7 _ (by omega), show 24 * k + y = 24 * k + j' + (y - j') by omega, f2 _ (by omega)]; congr 1; omega
      · rw [if_neg w, f3 _ (by omega)]; exact p7 y hy
    · rcases h k hk with w | ⟨l2, z2, w1, w2, w3, w4, w5, w6, w7⟩
      · exact Or.inl w
      · refine Or.inr ⟨l2, z2, w1, w2, w3, w4, w5, w6, fun y hy => ?_⟩
        rw [vu_ne e, f3 _ (by omega)]; exact w7 y hy
