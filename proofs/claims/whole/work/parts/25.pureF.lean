/-! ===== PURE F: calls that only look: of, at, wave, held, count ===== -/
theorem man_of {x : Int32} {mn : Nat} (hm : mn ≤ 6) (h : wi x 0 (nI mn - 1) = true) : ∃ m, m < mn ∧ x = nI m := by
  unfold wi at h
  rw [Bool.and_eq_true] at h
  have h1 := of_decide_eq_true h.1
  have h2 := of_decide_eq_true h.2
  rw [fa_le, Int32.toInt_zero] at h1
  rw [fa_le, show (1 : Int32) = nI 1 from rfl, pk_sub_toInt (by omega) (by decide)] at h2
  obtain ⟨k, hk, rfl⟩ := nI_of (x := x) (by rw [fa_lt, Int32.toInt_zero]; omega)
  rw [nI_toInt hk] at h2
  exact ⟨k, by omega, rfl⟩
theorem isMan_C (mn : Int32) (x : Int32) : m_X8_isMan mn x = some (bI (wi x 0 (mn - 1))) := by
  unfold m_X8_isMan
  rw [within_C]
  simp only [Option.bind_some, zb_bI]
theorem isMan_M (w : Nat → Int32) (x : Int32) : m_X9_isMan w x = some (bI (wi x 0 (w 0 - 1))) := by
  unfold m_X9_isMan
  rw [show (0 : Int64) = (0 : Int32).toInt64 from rfl, in_M]
  simp only [Option.bind_some, zb_bI]
theorem isInch_C (x : Int32) : m_X8_isInch x = some (bI (wi x 0 11)) := by
  unfold m_X8_isInch
  rw [within_C]
  simp only [Option.bind_some, zb_bI]
theorem isInch_M (x : Int32) : m_X9_isInch x = some (bI (wi x 0 11)) := by
  unfold m_X9_isInch
  rw [show (0 : Int64) = (0 : Int32).toInt64 from rfl, show (11 : Int64) = (11 : Int32).toInt64 from rfl, in_M]
  simp only [Option.bind_some, zb_bI]
theorem inch_of {x : Int32} (h : wi x 0 11 = true) : ∃ k, x = nI k ∧ k < 12 := by
  obtain ⟨k, e, -, h2⟩ := wi_nI (a := 0) (b := 11) (by decide) (by decide) h
  exact ⟨k, e, by omega⟩
/-- who is at an inch -/
def wa (r : AR) (x : Nat) : Nat → Int32
  | 0 => -4
  | n + 1 => if aI r n = x then nI n else wa r x n
theorem wa_one {r : AR} (hw : WF r) {x j : Nat} (hx : x < 12) (hj : j < aM r) (h : aI r j = x) : ∀ n, j < n → n ≤ aM r → wa r x n = nI j
  | 0, h1, _ => absurd h1 (Nat.not_lt_zero j)
  | n + 1, h1, h2 => by
    unfold wa
    by_cases e : n = j
    · subst e; rw [if_pos h]
    · have : aI r n ≠ x := by
        have := hw.2.2.1 j n hj (by omega) (Ne.symm e) (by omega)
        intro q; exact this (h.trans q.symm)
      rw [if_neg this, wa_one hw hx hj h n (by omega) (by omega)]
theorem wa_none {r : AR} {x : Nat} : ∀ n, (∀ m, m < n → aI r m ≠ x) → wa r x n = -4
  | 0, _ => rfl
  | n + 1, h => by
    unfold wa
    rw [if_neg (h n (by omega)), wa_none n (fun m hm => h m (by omega))]
theorem eC_eq {y x : Nat} (hx : x < 12) : (eC y = nI x) = (y = x) := by
  by_cases h : y < 12
  · rw [eC_t h]; exact propext (nI_eq (by omega) (by omega))
  · rw [eC_f h]
    exact propext ⟨fun q => absurd q.symm (nI_nm1 x hx).1, fun q => absurd (q ▸ hx) h⟩
theorem eM_eq {y x : Nat} (hx : x < 12) : (eM y = nI x) = (y = x) := by
  by_cases h : y < 12
  · rw [eM_t h]; exact propext (nI_eq (by omega) (by omega))
  · rw [eM_f h]
    exact propext ⟨fun q => absurd q.symm (nI_nm1 x hx).2, fun q => absurd (q ▸ hx) h⟩
theorem who_Cd {r : AR} {I : Nat → Int32} {x : Nat} (hw : WF r) (hx : x < 12) : ∀ d n j, j + d = aM r → d < n → (∀ m, m < j → aI r m ≠ x) → m_X3_whoIsAt_L2 (cI r I) (nI (aM r)) (nI x) (some (-4)) n (nI j) = some (wa r x (aM r)) := by
  have hM := hw.1
  intro d
  induction d with
  | zero =>
    intro n j hj hn hno
    obtain ⟨n', rfl⟩ : ∃ n', n = n' + 1 := ⟨n - 1, by omega⟩
    have : j = aM r := by omega
    subst this
    show m_X3_whoIsAt_L2s _ _ _ _ _ _ = _
    unfold m_X3_whoIsAt_L2s
    rw [if_pos (nIle (by omega) (by omega) (Nat.le_refl _)), wa_none _ hno]
  | succ d ih =>
    intro n j hj hn hno
    obtain ⟨n', rfl⟩ : ∃ n', n = n' + 1 := ⟨n - 1, by omega⟩
    show m_X3_whoIsAt_L2s _ _ _ _ _ _ = _
    unfold m_X3_whoIsAt_L2s
    rw [if_neg (nInle (by omega) (by omega) (show j < aM r by omega)), chk_nI _ (by omega) (by decide), cl (by omega), cI_at (by omega)]
    simp only [eC_eq hx, bnd, nI_1]
    by_cases h : aI r j = x
    · rw [if_pos h, wa_one hw hx (by omega) h _ (by omega) (Nat.le_refl _)]
    · rw [if_neg h]
      exact ih n' (j + 1) (by omega) (by omega) (fun m hm => by
        by_cases e : m = j
        · subst e; exact h
        · exact hno m (by omega))
theorem who_C {r : AR} {I : Nat → Int32} {F x : Nat} (hw : WF r) (hF : 64 ≤ F) (hx : x < 12) : m_X3_whoIsAt F (cI r I) (nI (aM r)) (nI x) = some (wa r x (aM r)) := by
  unfold m_X3_whoIsAt
  have hM := hw.1
  exact who_Cd hw hx (aM r) F 0 (by omega) (by omega) (fun m hm => absurd hm (Nat.not_lt_zero m))
theorem who_M {r : AR} {N : Nat → Int32} {F x : Nat} (hM : aM r ≤ 6) (hF : 64 ≤ F) (hx : x < 12) : m_X9_whoAt F (cN r N) (nI x) = some (wa r x (aM r)) := by
  unfold m_X9_whoAt
  refine loopUp (fun n y s => m_X9_whoAt_L5 (cN r N) (nI x) (fun x3 => some x3) n y s) _ (fun j => wa r x j) (aM r) (fun n => ?_) (fun n j hj => ?_) (aM r) F 0 (by omega) (by omega)
  · show m_X9_whoAt_L5s _ _ _ _ _ _ = _
    unfold m_X9_whoAt_L5s
    rw [cN_0, if_pos (nIle (by omega) (by omega) (Nat.le_refl _))]
  · show m_X9_whoAt_L5s _ _ _ _ _ _ = _
    unfold m_X9_whoAt_L5s
    rw [cN_0, if_neg (nInle (by omega) (by omega) hj), inchOf_M (by omega), cN_i hj]
    simp only [Option.bind_some, eM_eq hx, bnd, nI_1]
    by_cases h : aI r j = x
    · rw [if_pos h]; simp only [wa, if_pos h]
    · rw [if_neg h]; simp only [wa, if_neg h]
theorem dist_abs : ∀ a, a < 12 → ∀ b, b < 12 → (if 0 ≤ nI a - nI b then nI a - nI b else 0 - (nI a - nI b)) = nI (dist a b) := by decide +kernel
theorem next_C {r : AR} {I : Nat → Int32} {F m : Nat} (hw : WF r) (hF : 64 ≤ F) (hm : m < aM r) : m_X3_whoIsNextTo F (cI r I) (nI (aM r)) (nI m) = some (nI (sb (fun a => aSt r m && (aSt r a && adj (aI r a) (aI r m))) (aM r))) := by
  have hM := hw.1
  unfold m_X3_whoIsNextTo
  rw [stands_C hM hm]
  simp only [Option.bind_some, ib0]
  by_cases h1 : aI r m < 12
  · have s1 : aSt r m = true := by simp [aSt, h1]
    rw [s1, if_pos rfl]
    refine loopUp (fun n x s => m_X3_whoIsNextTo_L12 (cI r I) (nI (aM r)) (nI m) (fun x5 => some x5) n x s) _ (fun j => nI (sb (fun a => true && (aSt r a && adj (aI r a) (aI r m))) j)) (aM r) (fun n => ?_) (fun n j hj => ?_) (aM r) F 0 (by omega) (by omega)
    · show m_X3_whoIsNextTo_L12s _ _ _ _ _ _ _ = _
      unfold m_X3_whoIsNextTo_L12s
      rw [if_pos (nIle (by omega) (by omega) (Nat.le_refl _))]
    · show m_X3_whoIsNextTo_L12s _ _ _ _ _ _ _ = _
      unfold m_X3_whoIsNextTo_L12s
      rw [if_neg (nInle (by omega) (by omega) hj), stands_C hM hj]
      simp only [Option.bind_some, bnd, nI_1, ib0, chk_nI _ (show j < 6 by omega) (by decide : (6 : Nat) < 2 ^ 31), chk_nI _ (show m < 6 by omega) (by decide : (6 : Nat) < 2 ^ 31), cl (show j < 2 ^ 31 by omega), cl (show m < 2 ^ 31 by omega), cI_at hj, cI_at hm, eC_t h1]
      by_cases h2 : aI r j < 12
      · have s2 : aSt r j = true := by simp [aSt, h2]
        rw [s2, if_pos rfl, eC_t h2, dist_abs _ h2 _ h1]
        have hd := dist_adj _ h2 _ h1
        cases ha : adj (aI r j) (aI r m)
        · rw [ha] at hd
          rw [if_neg (of_decide_eq_false hd)]
          simp only [sb, s2, ha]; rfl
        · rw [ha] at hd
          rw [if_pos (of_decide_eq_true hd), sh1 j (by omega), fa_or]
          simp only [sb, s2, ha]; rfl
      · have s2 : aSt r j = false := by simp [aSt, h2]
        rw [s2]
        simp only [sb, s2]; rfl
  · have s1 : aSt r m = false := by simp [aSt, h1]
    rw [s1]
    have : sb (fun a => false && (aSt r a && adj (aI r a) (aI r m))) (aM r) = 0 := by
      have : ∀ n, sb (fun a => false && (aSt r a && adj (aI r a) (aI r m))) n = 0 := by
        intro n; induction n with
        | zero => rfl
        | succ n ih => unfold sb; rw [ih]; rfl
      exact this _
    rw [this]; rfl
theorem inchOrNone_C {r : AR} {I : Nat → Int32} {m : Nat} (hM : aM r ≤ 6) (hm : m < aM r) : m_X8_inchOrNone (cI r I) (nI m) = some (eM (aI r m)) := by
  unfold m_X8_inchOrNone
  rw [stands_C hM hm]
  simp only [Option.bind_some, ib0]
  by_cases h : aI r m < 12
  · rw [show aSt r m = true by simp [aSt, h], if_pos rfl, chk_nI _ (by omega) (by decide), cl (by omega), cI_at hm, eC_t h, eM_t h]
  · rw [show aSt r m = false by simp [aSt, h], if_neg (by decide), eM_f h]
theorem gripR_C {r : AR} {P I K : Nat → Int32} {m : Nat} (hw : WF r) (hm : m < aM r) (h12 : aI r m < 12) : m_X3_gripOf (cP r P) (cI r I) (nI (aN r)) (cK r K) (nI (aM r)) (nI m) (nI (tk r (aM r))) = some (nI (grp r m)) := by
  obtain ⟨hk, hp, hi⟩ := hw.2.1 m hm
  have hM := hw.1
  exact grip_C (nb := nbs r m) (s := nSt r) (by omega) (cP_at hm) (by rw [cI_at hm, eC_t h12]) (cK_at hm) hp h12 hk (tk_lt r _) hw.2.2.2.2.2.2 hM
    (by have := many_C hw; rw [bc (tk_lt r _)] at this; have q := Option.some.inj this; exact (nI_eq (by have := fb_ct_le (fun b => (tk r (aM r)).testBit b) 12; omega) (by have := nSt_le r; omega)).mp q) (nSt_le r)
    (by rw [tk_ct hw _ _ (Nat.le_refl _)]; exact fb_ct_cong (fun a _ => by
          by_cases ha : aI r a < 12
          · rw [nbm_bit _ h12 _ ha]
          · simp [aSt, ha]))
theorem S_of {r : AR} {P I K N : Nat → Int32} {F : Nat} (hw : WF r) (hF : 64 ≤ F) (a b : Int32) : ∃ v, m_X8_of F (cP r P) (cI r I) (nI (aN r)) (cK r K) (nI (aM r)) a b = some v ∧ m_X9_of F (cN r N) a b = some v := by
  have hM := hw.1
  unfold m_X8_of m_X9_of
  rw [isMan_C, isMan_M, cN_0]
  simp only [Option.bind_some, ib0]
  cases h1 : wi a 0 (nI (aM r) - 1)
  · exact ⟨_, rfl, rfl⟩
  · obtain ⟨m, hm, rfl⟩ := man_of hM h1
    rw [within_C, show (0 : Int64) = (0 : Int32).toInt64 from rfl, show (4 : Int64) = (4 : Int32).toInt64 from rfl, in_M]
    simp only [Option.bind_some, ib0, if_true]
    cases h2 : wi b 0 4
    · exact ⟨_, rfl, rfl⟩
    · obtain ⟨w, rfl, -, hw4⟩ := wi_nI (a := 0) (b := 4) (by decide) (by decide) h2
      simp only [if_true]
      rcases (show w = 0 ∨ w = 1 ∨ w = 2 ∨ w = 3 ∨ w = 4 by omega) with rfl | rfl | rfl | rfl | rfl
      · refine ⟨nI (aK r m), ?_, ?_⟩
        · rw [if_pos (by decide), chk_nI _ (by omega) (by decide), cl (by omega), cK_at hm]
        · rw [if_neg (by decide), told_M (by omega) (by decide), Nat.add_zero, cN_k hm]; rfl
      · refine ⟨nI (aP r m), ?_, ?_⟩
        · rw [if_neg (by decide), if_pos (by decide), chk_nI _ (by omega) (by decide), cl (by omega), cP_at hm]
        · rw [if_neg (by decide), told_M (by omega) (by decide), cN_p hm]; rfl
      · refine ⟨eM (aI r m), ?_, ?_⟩
        · rw [if_neg (by decide), if_neg (by decide), if_pos (by decide), inchOrNone_C hM hm]; rfl
        · rw [if_neg (by decide), told_M (by omega) (by decide), cN_i hm]; rfl
      · refine ⟨if aSt r m then nI (grp r m) else 0, ?_, ?_⟩
        · rw [if_neg (by decide), if_neg (by decide), if_neg (by decide), if_pos (by decide), stands_C hM hm, taken_C hM hF]
          simp only [Option.bind_some, ib0]
          by_cases h12 : aI r m < 12
          · rw [show aSt r m = true by simp [aSt, h12], gripR_C hw hm h12]; rfl
          · rw [show aSt r m = false by simp [aSt, h12]]; rfl
        · rw [if_pos (by decide), if_pos (by decide), grip_M hw hF hm]; rfl
      · refine ⟨nI (sb (fun a => aSt r m && (aSt r a && adj (aI r a) (aI r m))) (aM r)), ?_, ?_⟩
        · rw [if_neg (by decide), if_neg (by decide), if_neg (by decide), if_neg (by decide), next_C hw hF hm]; rfl
        · rw [if_pos (by decide), if_neg (by decide), besides_M hw hF hm]; rfl
theorem S_wave {r : AR} {N : Nat → Int32} (hw : WF r) (a b : Int32) : ∃ v, m_X8_wave (nI (aN r)) (nI (aS r)) (nI (aT r)) (nI (aH r)) a b = some v ∧ m_X9_wave (cN r N) a b = some v := by
  unfold m_X8_wave m_X9_wave
  rw [isInch_C, isInch_M, within_C, show (0 : Int64) = (0 : Int32).toInt64 from rfl, show (60 : Int64) = (60 : Int32).toInt64 from rfl, in_M]
  simp only [Option.bind_some, ib0]
  cases h1 : wi a 0 11
  · exact ⟨_, rfl, rfl⟩
  · obtain ⟨x, rfl, hx⟩ := inch_of h1
    cases h2 : wi b 0 60
    · exact ⟨_, rfl, rfl⟩
    · obtain ⟨d, rfl, -, hd⟩ := wi_nI (a := 0) (b := 60) (by decide) (by decide) h2
      simp only [if_true]
      refine ⟨nI (hgh r x d), ?_, ?_⟩
      · rw [crest_C hw (by omega)]
        simp only [Option.bind_some]
        rw [high_C hw hx]; rfl
      · rw [high_M hw hx (by omega)]; rfl
theorem S_at {r : AR} {I N : Nat → Int32} {F : Nat} (hw : WF r) (hF : 64 ≤ F) (a b : Int32) : ∃ v, m_X8_at F (cI r I) (nI (aN r)) (nI (aM r)) (nI (aS r)) (nI (aT r)) (nI (aH r)) a b = some v ∧ m_X9_at F (cN r N) a b = some v := by
  unfold m_X8_at m_X9_at
  rw [isInch_C, isInch_M, within_C, show (0 : Int64) = (0 : Int32).toInt64 from rfl, show (1 : Int64) = (1 : Int32).toInt64 from rfl, in_M]
  simp only [Option.bind_some, ib0]
  cases h1 : wi a 0 11
  · exact ⟨_, rfl, rfl⟩
  · obtain ⟨x, rfl, hx⟩ := inch_of h1
    cases h2 : wi b 0 1
    · exact ⟨_, rfl, rfl⟩
    · simp only [if_true]
      by_cases h0 : b = 0
      · refine ⟨wa r x (aM r), ?_, ?_⟩
        · rw [if_pos h0, who_C hw hF hx]; rfl
        · rw [if_pos h0, who_M hw.1 hF hx]; rfl
      · refine ⟨nI (hgh r x 0), ?_, ?_⟩
        · rw [if_neg h0, show (0 : Int32) = nI 0 from rfl, crest_C hw (by omega)]
          simp only [Option.bind_some]
          rw [high_C hw hx]; rfl
        · rw [if_neg h0, show (0 : Int32) = nI 0 from rfl, high_M hw hx (by omega)]; rfl
/-- what a set of men holds -/
def mk (R i : Nat) : Nat := sb (fun b => decide (dist b i ≤ R)) 12
def hb (r : AR) (R x : Nat) : Nat → Nat
  | 0 => 0
  | n + 1 => if x.testBit n && aSt r n then hb r R x n ||| mk R (aI r n) else hb r R x n
def cmk (R i : Nat) : Nat := (2 ^ (2 * R + 1) - 1) * 2 ^ i / 2 ^ R
theorem cmk_all : ∀ R, R < 6 → ∀ i, i < 12 → (((((1 : Int32) <<< (((2 * nI R) + 1) &&& 31)) - 1) <<< (nI i &&& 31)) >>> (nI R &&& 31)) = nI (cmk R i) ∧ cmk R i &&& 4095 = mk R i ∧ cmk R i < 2 ^ 24 := by decide +kernel
def hc (r : AR) (R x : Nat) : Nat → Nat
  | 0 => 0
  | n + 1 => if x.testBit n && aSt r n then hc r R x n ||| cmk R (aI r n) else hc r R x n
theorem hc_hb {r : AR} {R x : Nat} (hR : R < 6) : ∀ n, hc r R x n &&& 4095 = hb r R x n
  | 0 => by show 0 &&& 4095 = 0; decide
  | n + 1 => by
    unfold hc hb
    have ih := hc_hb (r := r) (x := x) hR n
    split
    · rename_i h
      rw [Bool.and_eq_true] at h
      have h12 : aI r n < 12 := of_decide_eq_true h.2
      rw [Nat.and_or_distrib_right, ih, (cmk_all R hR _ h12).2.1]
    · exact ih
theorem held_C {r : AR} {I : Nat → Int32} {F R x : Nat} (hM : aM r ≤ 6) (hF : 64 ≤ F) (hR : R < 6) (hx : x < 64) : m_X3_heldBy F (cI r I) (nI (aM r)) (nI x) (nI R) = some (nI (hb r R x (aM r))) := by
  unfold m_X3_heldBy
  have key := loopUp (fun n y s => m_X3_heldBy_L5 (cI r I) (nI (aM r)) (nI x) (nI R) (fun x3 => some (x3 &&& 4095)) n y s) (some (nI (hb r R x (aM r)))) (fun j => nI (hc r R x j)) (aM r) (fun n => ?_) (fun n j hj => ?_) (aM r) F 0 (by omega) (by omega)
  · exact key
  · show m_X3_heldBy_L5s _ _ _ _ _ _ _ _ = _
    unfold m_X3_heldBy_L5s
    rw [if_pos (nIle (by omega) (by omega) (Nat.le_refl _)), show (4095 : Int32) = nI 4095 from rfl]
    show some (nI (hc r R x (aM r)) &&& nI 4095) = _
    rw [fa_and, hc_hb hR]
  · show m_X3_heldBy_L5s _ _ _ _ _ _ _ _ = _
    unfold m_X3_heldBy_L5s
    rw [if_neg (nInle (by omega) (by omega) hj), bit_all x hx j (by omega), stands_C hM hj]
    simp only [Option.bind_some, bnd, nI_1, ib0, chk_nI _ (show j < 6 by omega) (by decide : (6 : Nat) < 2 ^ 31), cl (show j < 2 ^ 31 by omega), cI_at hj]
    cases hb1 : x.testBit j
    · simp only [hc, hb1]; rfl
    · by_cases h12 : aI r j < 12
      · have s1 : aSt r j = true := by simp [aSt, h12]
        rw [s1, eC_t h12, (cmk_all R hR _ h12).1, fa_or]
        simp only [hc, hb1, s1]; rfl
      · have s1 : aSt r j = false := by simp [aSt, h12]
        rw [s1]
        simp only [hc, hb1, s1]; rfl
theorem mk_le : ∀ R, R < 6 → ∀ b, b < 12 → ∀ i, i < 12 → (nI R < nI (dist b i)) = ¬ (dist b i ≤ R) := by
  intro R hR b hb i hi
  have : dist b i ≤ 24 := by unfold dist; omega
  refine propext ⟨fun q => ?_, fun q => ?_⟩
  · have := (nI_ltI (by omega) (by omega)).mp q; omega
  · exact (nI_ltI (by omega) (by omega)).mpr (by omega)
theorem held_M {r : AR} {N : Nat → Int32} {F R x : Nat} (hM : aM r ≤ 6) (hF : 64 ≤ F) (hR : R < 6) (hx : x < 64) : m_X9_heldBy F (cN r N) (nI x) (nI R) = some (nI (hb r R x (aM r))) := by
  have z : ∀ a : Nat, nI a ||| 0 = nI a := fun a => by rw [show (0 : Int32) = nI 0 from rfl, fa_or, Nat.or_zero]
  have inner : ∀ (k : Int32 → Option Int32) (j a : Nat), j < aM r → m_X9_heldBy_L19 (cN r N) (nI x) (nI R) (nI j) k F 0 (nI a) = k (nI (if x.testBit j && aSt r j then a ||| mk R (aI r j) else a)) := by
    intro k j a hj
    have key := loopUp (fun n y s => m_X9_heldBy_L19 (cN r N) (nI x) (nI R) (nI j) k n y s) (k (nI (if x.testBit j && aSt r j then a ||| mk R (aI r j) else a))) (fun i => nI (if x.testBit j && aSt r j then a ||| sb (fun b => decide (dist b (aI r j) ≤ R)) i else a)) 12 (fun n => ?_) (fun n i hi => ?_) 12 F 0 (by omega) (by omega)
    · simp only [sb, Nat.or_zero, ite_self] at key
      exact key
    · show m_X9_heldBy_L19s _ _ _ _ _ _ _ _ = _
      unfold m_X9_heldBy_L19s
      rw [if_pos (by decide)]; rfl
    · show m_X9_heldBy_L19s _ _ _ _ _ _ _ _ = _
      unfold m_X9_heldBy_L19s
      rw [if_neg (show ¬ (12 : Int32) ≤ nI i from nInle (a := 12) (by decide) (by omega) hi), bit_all x hx j (by omega), stands_M hM hj, inchOf_M (by omega), cN_i hj]
      simp only [Option.bind_some, bnd, nI_1, ib0, ib1, z]
      cases hb1 : x.testBit j
      · simp
      · by_cases h12 : aI r j < 12
        · have s1 : aSt r j = true := by simp [aSt, h12]
          rw [s1, eM_t h12, apart_all _ hi _ h12]
          simp only [Option.bind_some, mk_le R hR i hi _ h12, if_true, Bool.and_self]
          by_cases hd : dist i (aI r j) ≤ R
          · rw [if_neg (fun q => q hd), sh1 i (by omega), fa_or]
            simp only [sb, decide_eq_true hd, if_true, Nat.or_assoc]
          · rw [if_pos hd]
            simp only [sb, decide_eq_false hd]; rfl
        · have s1 : aSt r j = false := by simp [aSt, h12]
          rw [s1]; simp
  unfold m_X9_heldBy
  refine loopUp (fun n y s => m_X9_heldBy_L5 (cN r N) (nI x) (nI R) F (fun x3 => some x3) n y s) _ (fun j => nI (hb r R x j)) (aM r) (fun n => ?_) (fun n j hj => ?_) (aM r) F 0 (by omega) (by omega)
  · show m_X9_heldBy_L5s _ _ _ _ _ _ _ _ = _
    unfold m_X9_heldBy_L5s
    rw [cN_0, if_pos (nIle (by omega) (by omega) (Nat.le_refl _))]
  · show m_X9_heldBy_L5s _ _ _ _ _ _ _ _ = _
    unfold m_X9_heldBy_L5s
    rw [cN_0, if_neg (nInle (by omega) (by omega) hj), inner _ j _ hj]
    simp only [bnd, nI_1, hb]
theorem sb64 (c : Nat → Bool) {n : Nat} (h : n ≤ 6) : sb c n < 64 := Nat.lt_of_lt_of_le (sb_lt c n) (Nat.pow_le_pow_right (by decide) h)
theorem bits6 : ∀ x, x < 6 → (63 : Nat).testBit x = true := by decide +kernel
theorem hb_all {r : AR} {R : Nat} (hM : aM r ≤ 6) : ∀ n, n ≤ aM r → hb r R (sb (aSt r) (aM r)) n = hb r R 63 n
  | 0, _ => rfl
  | n + 1, h => by
    unfold hb
    rw [hb_all hM n (by omega), sb_bit, decide_eq_true (show n < aM r by omega), bits6 n (by omega), Bool.true_and, Bool.and_self]
theorem S_held {r : AR} {I N : Nat → Int32} {F : Nat} (hw : WF r) (hF : 64 ≤ F) (a : Int32) : ∃ v, m_X8_held F (cI r I) (nI (aM r)) a = some v ∧ m_X9_held F (cN r N) a = some v := by
  have hM := hw.1
  unfold m_X8_held m_X9_held
  rw [within_C, show (0 : Int64) = (0 : Int32).toInt64 from rfl, show (5 : Int64) = (5 : Int32).toInt64 from rfl, in_M]
  simp only [Option.bind_some, ib0]
  cases h1 : wi a 0 5
  · exact ⟨_, rfl, rfl⟩
  · obtain ⟨R, rfl, -, hR⟩ := wi_nI (a := 0) (b := 5) (by decide) (by decide) h1
    simp only [if_true]
    refine ⟨nI (hb r R 63 (aM r)), ?_, ?_⟩
    · rw [whoStands_C hM hF]
      simp only [Option.bind_some]
      rw [held_C hM hF (by omega) (sb64 _ hM), hb_all hM _ (Nat.le_refl _)]; rfl
    · rw [show (63 : Int32) = nI 63 from rfl, held_M hM hF (by omega) (by decide)]; rfl
/-- paint of all -/
theorem paintT_C {r : AR} {P : Nat → Int32} {F : Nat} (hM : aM r ≤ 6) (hF : 64 ≤ F) : m_X3_paintTogether F (cP r P) (nI (aM r)) = some (nI (fb_sm (aP r) (aM r))) := by
  unfold m_X3_paintTogether
  refine loopUp (fun n y s => m_X3_paintTogether_L4 (cP r P) (nI (aM r)) (fun x3 => some x3) n y s) _ (fun j => nI (fb_sm (aP r) j)) (aM r) (fun n => ?_) (fun n j hj => ?_) (aM r) F 0 (by omega) (by omega)
  · show m_X3_paintTogether_L4s _ _ _ _ _ _ = _
    unfold m_X3_paintTogether_L4s
    rw [if_pos (nIle (by omega) (by omega) (Nat.le_refl _))]
  · show m_X3_paintTogether_L4s _ _ _ _ _ _ = _
    unfold m_X3_paintTogether_L4s
    rw [if_neg (nInle (by omega) (by omega) hj), chk_nI _ (by omega) (by decide), cl (by omega), cP_at hj]
    simp only [bnd, nI_1, nI_add, fb_sm_succ]
theorem paintA_M {r : AR} {N : Nat → Int32} {F x : Nat} (hM : aM r ≤ 6) (hF : 64 ≤ F) (hx : x < 64) : m_X9_paintAll F (cN r N) (nI x) = some (nI (fb_sm (fun m => if x.testBit m then aP r m else 0) (aM r))) := by
  unfold m_X9_paintAll
  refine loopUp (fun n y s => m_X9_paintAll_L4 (cN r N) (nI x) (fun x3 => some x3) n y s) _ (fun j => nI (fb_sm (fun m => if x.testBit m then aP r m else 0) j)) (aM r) (fun n => ?_) (fun n j hj => ?_) (aM r) F 0 (by omega) (by omega)
  · show m_X9_paintAll_L4s _ _ _ _ _ _ = _
    unfold m_X9_paintAll_L4s
    rw [cN_0, if_pos (nIle (by omega) (by omega) (Nat.le_refl _))]
  · show m_X9_paintAll_L4s _ _ _ _ _ _ = _
    unfold m_X9_paintAll_L4s
    rw [cN_0, if_neg (nInle (by omega) (by omega) hj), bit_all x hx j (by omega), paintOf_M (by omega), cN_p hj]
    simp only [Option.bind_some, bnd, nI_1, nI_add, ib1, fb_sm_succ]
    cases x.testBit j
    · simp only [Bool.false_eq_true, if_false]; rw [show (0 : Int32) = nI 0 from rfl, nI_add]
    · rfl
theorem hb0_tk {r : AR} : ∀ n, n ≤ 6 → hb r 0 63 n = tk r n
  | 0, _ => rfl
  | n + 1, h => by
    unfold hb tk
    rw [hb0_tk n (by omega), bits6 n (by omega), Bool.true_and]
    by_cases h12 : aI r n < 12
    · have : ∀ i, i < 12 → mk 0 i = 2 ^ i := by decide +kernel
      rw [if_pos h12, show aSt r n = true by simp [aSt, h12], if_pos rfl, this _ h12]
    · rw [if_neg h12, show aSt r n = false by simp [aSt, h12]]; rfl
theorem S_count {r : AR} {P I N : Nat → Int32} {F : Nat} {u : Int32} (hw : WF r) (hF : 64 ≤ F) (a : Int32) : ∃ v, m_X8_count F (cP r P) (cI r I) (nI (aN r)) (nI (aM r)) (nI (aS r)) (nI (aT r)) (nI (aH r)) u a = some v ∧ m_X9_count F (cN r N) u a = some v := by
  have hM := hw.1
  unfold m_X8_count m_X9_count
  by_cases h0 : a = 0
  · rw [if_pos h0, if_pos h0]; exact ⟨_, rfl, rfl⟩
  rw [if_neg h0, if_neg h0]
  by_cases h1 : a = 1
  · rw [if_pos h1, if_pos h1, howMany_C hw hF, standing_M hM hF]
    simp only [Option.bind_some]
    rw [manySt_M hM hF]; exact ⟨_, rfl, rfl⟩
  rw [if_neg h1, if_neg h1]
  by_cases h2 : a = 2
  · rw [if_pos h2, if_pos h2]; exact ⟨_, rfl, rfl⟩
  rw [if_neg h2, if_neg h2]
  by_cases h3 : a = 3
  · rw [if_pos h3, if_pos h3, whoStands_C hM hF, standing_M hM hF]; exact ⟨_, rfl, rfl⟩
  rw [if_neg h3, if_neg h3]
  by_cases h4 : a = 4
  · rw [if_pos h4, if_pos h4, taken_C hM hF, show (63 : Int32) = nI 63 from rfl, show (0 : Int32) = nI 0 from rfl, held_M hM hF (by decide) (by decide), hb0_tk _ hM]; exact ⟨_, rfl, rfl⟩
  rw [if_neg h4, if_neg h4]
  by_cases h5 : a = 5
  · rw [if_pos h5, if_pos h5, paintT_C hM hF, show (63 : Int32) = nI 63 from rfl, paintA_M hM hF (by decide)]
    refine ⟨_, rfl, ?_⟩
    rw [fb_sm_cong (f := fun m => if (63 : Nat).testBit m then aP r m else 0) (g := aP r) (fun k hk => by rw [bits6 k (by omega)]; rfl)]; rfl
  rw [if_neg h5, if_neg h5]
  by_cases h6 : a = 6
  · subst h6; rw [if_pos rfl, if_pos rfl]; exact ⟨nI (aS r), rfl, rfl⟩
  rw [if_neg h6, if_neg h6]
  by_cases h7 : a = 7
  · subst h7; rw [if_pos rfl, if_pos rfl]; exact ⟨nI (aT r), rfl, rfl⟩
  rw [if_neg h7, if_neg h7]
  by_cases h8 : a = 8
  · subst h8; rw [if_pos rfl, if_pos rfl]; exact ⟨nI (aH r), rfl, rfl⟩
  rw [if_neg h8, if_neg h8]
  by_cases h9 : a = 9
  · first | (rw [if_pos h9, if_pos h9]; exact ⟨_, rfl, rfl⟩) | (rw [if_pos h9]; exact ⟨_, rfl, rfl⟩) | exact ⟨_, rfl, rfl⟩
  first | (rw [if_neg h9, if_neg h9]; exact ⟨_, rfl, rfl⟩) | (rw [if_neg h9]; exact ⟨_, rfl, rfl⟩) | exact ⟨_, rfl, rfl⟩
