/-! ===== PURE K: march, put, paint, nights, drift ===== -/
def AL (q r : AR) : Prop := aM q = aM r ∧ aK q = aK r ∧ aS q = aS r ∧ aT q = aT r ∧ aH q = aH r
theorem AL_refl (r : AR) : AL r r := ⟨rfl, rfl, rfl, rfl, rfl⟩
theorem AL_trans {p q r : AR} (h : AL p q) (h2 : AL q r) : AL p r := ⟨h.1.trans h2.1, h.2.1.trans h2.2.1, h.2.2.1.trans h2.2.2.1, h.2.2.2.1.trans h2.2.2.2.1, h.2.2.2.2.trans h2.2.2.2.2⟩
theorem wa_free {r : AR} {x : Nat} (hM : aM r ≤ 6) (h : wa r x (aM r) = -4) : ∀ k, k < aM r → aI r k ≠ x := by
  rcases wa_cases r x (aM r) with ⟨h1, h2⟩ | ⟨j, h1, h2, h3⟩
  · exact h2
  · rw [h2] at h; exact absurd h (nI6 j (by omega))
theorem S_march {r : AR} {P I N : Nat → Int32} {d : Int32} {u x F : Nat} {RP RI : Nat → Nat → Int32} {RN RD U : Nat → Int32} (hw : WF r) (hN : aN r ≤ 9999) (hd : 0 ≤ d) (h5 : N 5 = d) (hF : 1000 ≤ F) (h : UR r u x RP RI RN RD U) (a b : Int32) :
    ∃ v q RP2 RI2 RN2 RD2 U2 x2 u2, m_X8_march F (cP r P) (cI r I) (nI (aN r)) d (nI (aM r)) RP RI RN RD (nI x) (nI u) a b = some (v, cI q I, RP2, RI2, RN2, RD2, nI x2, nI u2) ∧ m_X9_march F (cN r N) U (nI u) a b = some (v, cN q N, U2, nI u2) ∧ WF q ∧ AL q r ∧ aP q = aP r ∧ aN q = aN r ∧ UR q u2 x2 RP2 RI2 RN2 RD2 U2 := by
  have hM := hw.1
  unfold m_X8_march m_X9_march
  simp only [isMan_C, isMan_M, isInch_C, isInch_M, cN_0, Option.bind_some, ib0]
  cases h1 : wi a 0 (nI (aM r) - 1)
  · exact ⟨_, r, RP, RI, RN, RD, U, x, u, rfl, rfl, hw, AL_refl r, rfl, rfl, h⟩
  cases h2 : wi b 0 11
  · exact ⟨_, r, RP, RI, RN, RD, U, x, u, rfl, rfl, hw, AL_refl r, rfl, rfl, h⟩
  simp only [if_true]
  obtain ⟨m, hm, rfl⟩ := man_of hM h1
  obtain ⟨y, rfl, hy⟩ := inch_of h2
  rw [stands_C hM hm, stands_M hM hm]
  simp only [Option.bind_some, ib0]
  by_cases hs : aI r m < 12
  rotate_left
  · rw [show aSt r m = false by simp [aSt, hs]]
    exact ⟨_, r, RP, RI, RN, RD, U, x, u, rfl, rfl, hw, AL_refl r, rfl, rfl, h⟩
  rw [show aSt r m = true by simp [aSt, hs], who_C hw (by omega) hy, who_M hM (by omega) hy]
  simp only [Option.bind_some, if_true]
  by_cases hf : wa r y (aM r) = -4
  rotate_left
  · rw [if_neg hf, if_neg hf]
    exact ⟨_, r, RP, RI, RN, RD, U, x, u, rfl, rfl, hw, AL_refl r, rfl, rfl, h⟩
  rw [if_pos hf, if_pos hf]
  obtain ⟨RP2, RI2, RN2, RD2, U2, x2, u2, e1, e2, e3⟩ := note_both (P := P) (I := I) hw hN hd h5 hF h
  rw [e1, e2]
  simp only [Option.bind_some, bnd]
  rw [chk_nI _ (by omega) (by decide), chk_nI _ (by omega) (by decide), cl (by omega), inchOf_M (by omega), goesTo_M hM hm (eM_t hy).symm]
  simp only [Option.bind_some]
  rw [cI_at hm, cN_i hm, eC_t hs, eM_t hs, show nI y = eC y from (eC_t hy).symm, cI_up hm]
  exact ⟨_, sI r m y, RP2, RI2, RN2, RD2, U2, x2, u2, rfl, rfl, sI_WF hw (by omega) (fun k hk _ _ => wa_free hM hf k hk), ⟨rfl, rfl, rfl, rfl, rfl⟩, rfl, rfl, UR_rim rfl rfl e3⟩
theorem S_put {r : AR} {P I N : Nat → Int32} {d : Int32} {u x F : Nat} {RP RI : Nat → Nat → Int32} {RN RD U : Nat → Int32} (hw : WF r) (hN : aN r ≤ 9999) (hd : 0 ≤ d) (h5 : N 5 = d) (hF : 1000 ≤ F) (h : UR r u x RP RI RN RD U) (a b : Int32) :
    ∃ v q RP2 RI2 RN2 RD2 U2 x2 u2, m_X8_put F (cP r P) (cI r I) (nI (aN r)) d (nI (aM r)) RP RI RN RD (nI x) (nI u) a b = some (v, cI q I, RP2, RI2, RN2, RD2, nI x2, nI u2) ∧ m_X9_put F (cN r N) U (nI u) a b = some (v, cN q N, U2, nI u2) ∧ WF q ∧ AL q r ∧ aP q = aP r ∧ aN q = aN r ∧ UR q u2 x2 RP2 RI2 RN2 RD2 U2 := by
  have hM := hw.1
  unfold m_X8_put m_X9_put
  simp only [isMan_C, isMan_M, isInch_C, isInch_M, cN_0, Option.bind_some, ib0]
  cases h1 : wi a 0 (nI (aM r) - 1)
  · exact ⟨_, r, RP, RI, RN, RD, U, x, u, rfl, rfl, hw, AL_refl r, rfl, rfl, h⟩
  cases h2 : wi b 0 11
  · exact ⟨_, r, RP, RI, RN, RD, U, x, u, rfl, rfl, hw, AL_refl r, rfl, rfl, h⟩
  simp only [if_true]
  obtain ⟨m, hm, rfl⟩ := man_of hM h1
  obtain ⟨y, rfl, hy⟩ := inch_of h2
  rw [stands_C hM hm, stands_M hM hm]
  simp only [Option.bind_some, ib0]
  cases hs : aSt r m
  rotate_left
  · exact ⟨_, r, RP, RI, RN, RD, U, x, u, rfl, rfl, hw, AL_refl r, rfl, rfl, h⟩
  rw [who_C hw (by omega) hy, who_M hM (by omega) hy]
  simp only [Option.bind_some, Bool.false_eq_true, if_false]
  by_cases hf : wa r y (aM r) = -4
  rotate_left
  · rw [if_neg hf, if_neg hf]
    exact ⟨_, r, RP, RI, RN, RD, U, x, u, rfl, rfl, hw, AL_refl r, rfl, rfl, h⟩
  rw [if_pos hf, if_pos hf]
  obtain ⟨RP2, RI2, RN2, RD2, U2, x2, u2, e1, e2, e3⟩ := note_both (P := P) (I := I) hw hN hd h5 hF h
  have hw2 := sI_WF (m := m) (x := y) hw (by omega) (fun k hk _ _ => wa_free hM hf k hk)
  rw [e1, e2]
  simp only [Option.bind_some]
  rw [chk_nI _ (by omega) (by decide), cl (by omega), goesTo_M hM hm (eM_t hy).symm]
  simp only [Option.bind_some]
  rw [show nI y = eC y from (eC_t hy).symm, cI_up hm]
  have e4 := howMany_C (I := I) (F := F) hw2 (by omega)
  change m_X3_howManyStand F (cI (sI r m y) I) (nI (aM r)) = _ at e4
  rw [e4]
  change ∃ v q RP2_1 RI2_1 RN2_1 RD2_1 U2_1 x2_1 u2_1, _ ∧ ((m_X9_standing F (cN (sI r m y) N)).bind _ = _) ∧ _
  rw [standing_M (r := sI r m y) hM (by omega)]
  simp only [Option.bind_some]
  rw [manySt_M (r := sI r m y) hM (by omega)]
  exact ⟨_, sI r m y, RP2, RI2, RN2, RD2, U2, x2, u2, rfl, rfl, hw2, ⟨rfl, rfl, rfl, rfl, rfl⟩, rfl, rfl, UR_rim rfl rfl e3⟩
def sP (r : AR) (m v : Nat) : AR := (aM r, aK r, fun k => if k = m then v else aP r k, aI r, aS r, aT r, aH r, aN r)
theorem sP_WF {r : AR} {m v : Nat} (hw : WF r) (hv : v ≤ 9) : WF (sP r m v) := by
  refine ⟨hw.1, fun k hk => ⟨(hw.2.1 k hk).1, ?_, (hw.2.1 k hk).2.2⟩, hw.2.2.1, hw.2.2.2.1, hw.2.2.2.2.1, hw.2.2.2.2.2.1, hw.2.2.2.2.2.2⟩
  show (if k = m then v else aP r k) ≤ 9
  split
  · exact hv
  · exact (hw.2.1 k hk).2.1
theorem cP_up {r : AR} {P : Nat → Int32} {m v : Nat} (hm : m < aM r) : upd (cP r P) m (nI v) = cP (sP r m v) P := by
  funext k
  by_cases e : k = m
  · subst e
    rw [upd_eq, cP_at (r := sP r k v) hm]
    show nI v = nI (if k = k then v else aP r k)
    rw [if_pos rfl]
  · rw [upd_ne e]
    show (if k < aM r then nI (aP r k) else P k) = (if k < aM r then nI (if k = m then v else aP r k) else P k)
    rw [if_neg e]
def pm (p n : Nat) : Nat := if p + n < 9 then p + n else 9
theorem pm_le (p n : Nat) : pm p n ≤ 9 := by unfold pm; split <;> omega
theorem pm_C : ∀ p, p ≤ 9 → ∀ n, n ≤ 9 → (if nI p + nI n < 9 then nI p + nI n else 9) = nI (pm p n) := by decide +kernel
theorem pm_M : ∀ p, p ≤ 9 → ∀ n, n ≤ 9 → (if 0 ≤ nI p + nI n then (if nI p + nI n ≤ 9 then nI p + nI n else 9) else 0) = nI (pm p n) := by decide +kernel
theorem lt9 : ∀ p, p ≤ 9 → (decide (nI p < 9) = !decide (nI p = 9)) := by decide +kernel
theorem addPaint_C {r : AR} {P : Nat → Int32} {m n : Nat} (hw : WF r) (hm : m < aM r) (hn : n ≤ 9) : m_X3_addPaint (cP r P) (nI m) (nI n) = some (cP (sP r m (pm (aP r m) n)) P) := by
  have hM := hw.1
  unfold m_X3_addPaint
  rw [chk_nI _ (by omega) (by decide), chk_nI _ (by omega) (by decide), cl (by omega), cP_at hm, pm_C _ (hw.2.1 m hm).2.1 n hn, cP_up hm]
theorem S_paint {r : AR} {P I N : Nat → Int32} {d : Int32} {u x F : Nat} {RP RI : Nat → Nat → Int32} {RN RD U : Nat → Int32} (hw : WF r) (hN : aN r ≤ 9999) (hd : 0 ≤ d) (h5 : N 5 = d) (hF : 1000 ≤ F) (h : UR r u x RP RI RN RD U) (a b : Int32) :
    ∃ v q RP2 RI2 RN2 RD2 U2 x2 u2, m_X8_paint (cP r P) (cI r I) (nI (aN r)) d (nI (aM r)) RP RI RN RD (nI x) (nI u) a b = some (v, cP q P, RP2, RI2, RN2, RD2, nI x2, nI u2) ∧ m_X9_paint F (cN r N) U (nI u) a b = some (v, cN q N, U2, nI u2) ∧ WF q ∧ AL q r ∧ aI q = aI r ∧ aN q = aN r ∧ UR q u2 x2 RP2 RI2 RN2 RD2 U2 := by
  have hM := hw.1
  unfold m_X8_paint m_X9_paint
  simp only [isMan_C, isMan_M, within_C, in19, cN_0, Option.bind_some, ib0]
  cases h1 : wi a 0 (nI (aM r) - 1)
  · exact ⟨_, r, RP, RI, RN, RD, U, x, u, rfl, rfl, hw, AL_refl r, rfl, rfl, h⟩
  cases h2 : wi b 1 9
  · exact ⟨_, r, RP, RI, RN, RD, U, x, u, rfl, rfl, hw, AL_refl r, rfl, rfl, h⟩
  simp only [if_true]
  obtain ⟨m, hm, rfl⟩ := man_of hM h1
  obtain ⟨n, rfl, -, hn⟩ := wi_nI (a := 1) (b := 9) (by decide) (by decide) h2
  have hp := (hw.2.1 m hm).2.1
  have hl := lt9 _ hp
  rw [chk_nI _ (by omega) (by decide), cl (by omega), cP_at hm, paintOf_M (by omega), cN_p hm]
  simp only [Option.bind_some]
  by_cases h9 : nI (aP r m) = 9
  · rw [decide_eq_true h9] at hl
    rw [if_pos h9, if_neg (of_decide_eq_false hl)]
    exact ⟨_, r, RP, RI, RN, RD, U, x, u, rfl, rfl, hw, AL_refl r, rfl, rfl, h⟩
  rw [decide_eq_false h9] at hl
  rw [if_neg h9, if_pos (of_decide_eq_true hl)]
  obtain ⟨RP2, RI2, RN2, RD2, U2, x2, u2, e1, e2, e3⟩ := note_both (P := P) (I := I) hw hN hd h5 hF h
  rw [e1, e2, addPaint_C hw hm hn]
  simp only [Option.bind_some]
  rw [chk_nI _ (by omega) (by decide), paints_M hM hm (pm_M _ hp n hn)]
  simp only [Option.bind_some]
  change ∃ v q RP2_1 RI2_1 RN2_1 RD2_1 U2_1 x2_1 u2_1, _ ∧ ((m_X9_paintOf (cN (sP r m (pm (aP r m) n)) N) (nI m)).bind _ = _) ∧ _
  rw [paintOf_M (by omega), cN_p (r := sP r m (pm (aP r m) n)) hm, cP_at (r := sP r m (pm (aP r m) n)) hm]
  exact ⟨_, sP r m (pm (aP r m) n), RP2, RI2, RN2, RD2, U2, x2, u2, rfl, rfl, sP_WF hw (pm_le _ _), ⟨rfl, rfl, rfl, rfl, rfl⟩, rfl, rfl, UR_rim rfl rfl e3⟩
/-- two loops side by side -/
theorem loop2 {α β σ τ : Type} (L : Nat → Int32 → σ → Option α) (M : Nat → Int32 → τ → Option β) (Iv : Nat → σ → τ → Prop) (e : Nat)
    (hstep : ∀ n n' j s t, j < e → Iv j s t → ∃ s' t', Iv (j + 1) s' t' ∧ L (n + 1) (nI j) s = L n (nI (j + 1)) s' ∧ M (n' + 1) (nI j) t = M n' (nI (j + 1)) t') :
    ∀ d n n' j s t, j + d = e → d < n → d < n' → Iv j s t → ∃ s' t' k k', Iv e s' t' ∧ L n (nI j) s = L (k + 1) (nI e) s' ∧ M n' (nI j) t = M (k' + 1) (nI e) t'
  | 0, n, n', j, s, t, hj, hn, hn', hi => by
    have : j = e := by omega
    subst this
    exact ⟨s, t, n - 1, n' - 1, hi, by rw [show n - 1 + 1 = n by omega], by rw [show n' - 1 + 1 = n' by omega]⟩
  | d + 1, n, n', j, s, t, hj, hn, hn', hi => by
    obtain ⟨a, rfl⟩ : ∃ a, n = a + 1 := ⟨n - 1, by omega⟩
    obtain ⟨b, rfl⟩ : ∃ b, n' = b + 1 := ⟨n' - 1, by omega⟩
    obtain ⟨s', t', h1, h2, h3⟩ := hstep a b j s t (by omega) hi
    rw [h2, h3]
    exact loop2 L M Iv e hstep d a b (j + 1) s' t' (by omega) (by omega) (by omega) h1
theorem passNightA_C {q r : AR} {P I K : Nat → Int32} {F : Nat} (hw : WF q) (hF : 64 ≤ F) (ha : AL q r) :
    m_X3_passNight F (cP q P) (cI q I) (nI (aN q)) (cK r K) (nI (aM r)) (nI (aS r)) (nI (aT r)) (nI (aH r)) = some (cP (nt q) P, cI (nt q) I, nI (aN (nt q))) := by
  have := passNight_C (P := P) (I := I) (K := K) hw hF
  rw [cK_cong ha.1 ha.2.1, ha.1, ha.2.2.1, ha.2.2.2.1, ha.2.2.2.2] at this
  exact this
theorem nI_all (x : Int32) : ∃ n, n < 2 ^ 32 ∧ x = nI n := ⟨x.toBitVec.toNat, x.toBitVec.isLt, by
  apply Int32.toBitVec_inj.1
  show x.toBitVec = BitVec.ofNat 32 x.toBitVec.toNat
  rw [BitVec.ofNat_toNat, BitVec.setWidth_eq]⟩
theorem draw_both (d : Int32) : ∃ D, D < 2 ^ 31 ∧ ((d * 1103515245) + 12345) &&& 2147483647 = nI D ∧ (((d.toInt64 * 1103515245) + 12345) &&& 2147483647).toInt32 = nI D := by
  have e : (((d.toInt64 * 1103515245) + 12345) &&& 2147483647).toInt32 = ((d * 1103515245) + 12345) &&& 2147483647 := by
    rw [Int64.toInt32_and, Int64.toInt32_add, Int64.toInt32_mul, Int32.toInt32_toInt64]; rfl
  obtain ⟨n, -, hn⟩ := nI_all ((d * 1103515245) + 12345)
  refine ⟨n % 2 ^ 31, Nat.mod_lt _ (by decide), ?_, ?_⟩
  · rw [hn]; exact fa_mask n 31
  · rw [e, hn]; exact fa_mask n 31
/-- a man marches by the draw -/
def dq (q : AR) (D : Nat) : AR := if 0 < aM q ∧ aSt q (D / 65536 % aM q) = true ∧ wa q (D / 128 % 12) (aM q) = -4 then sI q (D / 65536 % aM q) (D / 128 % 12) else q
theorem dq_AL (q : AR) (D : Nat) : AL (dq q D) q := by unfold dq; split <;> exact ⟨rfl, rfl, rfl, rfl, rfl⟩
theorem dq_P (q : AR) (D : Nat) : aP (dq q D) = aP q := by unfold dq; split <;> rfl
theorem dq_N (q : AR) (D : Nat) : aN (dq q D) = aN q := by unfold dq; split <;> rfl
theorem dq_WF {q : AR} {D : Nat} (hw : WF q) : WF (dq q D) := by
  unfold dq
  split
  · rename_i h
    have : D / 128 % 12 < 12 := Nat.mod_lt _ (by decide)
    exact sI_WF hw (by omega) (fun k hk _ _ => wa_free hw.1 h.2.2 k hk)
  · exact hw
theorem man_D {D M : Nat} (hD : D < 2 ^ 31) (h0 : 0 < M) (hM : M ≤ 6) : (nI D / 65536) - (nI D / 65536) / nI M * nI M = nI (D / 65536 % M) := by
  rw [show (65536 : Int32) = nI 65536 from rfl, pk_div hD (by decide) (by decide), pk_rem (by omega) h0 (by omega)]
theorem inch_D {D : Nat} (hD : D < 2 ^ 31) : (nI D / 128) - (nI D / 128) / 12 * 12 = nI (D / 128 % 12) := by
  rw [show (128 : Int32) = nI 128 from rfl, show (12 : Int32) = nI 12 from rfl, pk_div hD (by decide) (by decide), pk_rem (by omega) (by decide) (by decide)]
theorem march_C {q : AR} {I : Nat → Int32} {d : Int32} {F D : Nat} (hw : WF q) (hF : 64 ≤ F) (hD : D < 2 ^ 31) (e : ((d * 1103515245) + 12345) &&& 2147483647 = nI D) : m_X3_marchByDraw F (cI q I) d (nI (aM q)) = some (cI (dq q D) I, nI D) := by
  have hM := hw.1
  unfold m_X3_marchByDraw
  rw [e]
  by_cases h0 : aM q = 0
  · rw [if_pos (show nI (aM q) ≤ 0 by rw [h0]; decide)]
    unfold dq
    rw [if_neg (fun z => by omega)]
  · rw [if_neg (show ¬ nI (aM q) ≤ 0 from nInle (b := 0) (by omega) (by decide) (by omega)), nzI, if_neg (show ¬ nI (aM q) = 0 from fun z => h0 ((nI_eq (b := 0) (by omega) (by decide)).mp z)), man_D hD (by omega) hM, inch_D hD]
    have hm : D / 65536 % aM q < aM q := Nat.mod_lt _ (by omega)
    have hy : D / 128 % 12 < 12 := Nat.mod_lt _ (by decide)
    simp only [bnd]
    rw [stands_C hM hm]
    simp only [Option.bind_some, ib0]
    cases hs : aSt q (D / 65536 % aM q)
    · unfold dq
      rw [if_neg (show ¬ (0 < aM q ∧ aSt q (D / 65536 % aM q) = true ∧ wa q (D / 128 % 12) (aM q) = -4) from fun z => by rw [hs] at z; exact absurd z.2.1 (by decide))]; rfl
    · rw [who_C hw hF hy]
      simp only [Option.bind_some, if_true]
      by_cases hf : wa q (D / 128 % 12) (aM q) = -4
      · unfold dq
        rw [if_pos hf, chk_nI _ (by omega) (by decide), cl (by omega), if_pos ⟨by omega, hs, hf⟩, show nI (D / 128 % 12) = eC (D / 128 % 12) from (eC_t hy).symm, cI_up hm]
      · unfold dq
        rw [if_neg hf, if_neg (fun z => hf z.2.2)]
abbrev NS : Type := (Nat → Int32) × (Nat → Int32) × Int32 × Int32 × RG
def NI (r : AR) (P I : Nat → Int32) (j : Nat) (s : NS) (t : (Nat → Int32) × (Nat → Int32) × Int32) : Prop :=
  ∃ (q : AR) (d : Int32) (N : Nat → Int32) (RP RI : Nat → Nat → Int32) (RN RD U : Nat → Int32) (x u : Nat), s = (cP q P, cI q I, nI (aN q), d, RP, RI, RN, RD, nI x, nI u) ∧ t = (cN q N, U, nI u) ∧ WF q ∧ AL q r ∧ aN q = aN r + j ∧ 0 ≤ d ∧ N 5 = d ∧ UR q u x RP RI RN RD U
theorem nI_nn {D : Nat} (h : D < 2 ^ 31) : (0 : Int32) ≤ nI D := nIle (a := 0) (by decide) h (Nat.zero_le _)
theorem S_nights {r : AR} {P I K N : Nat → Int32} {d : Int32} {u x F : Nat} {RP RI : Nat → Nat → Int32} {RN RD U : Nat → Int32} (hw : WF r) (hN : aN r ≤ 9999) (hd : 0 ≤ d) (h5 : N 5 = d) (hF : 100000 ≤ F) (h : UR r u x RP RI RN RD U) (a : Int32) :
    ∃ v s t n, m_X8_nights F (cP r P) (cI r I) (nI (aN r)) d (cK r K) (nI (aM r)) (nI (aS r)) (nI (aT r)) (nI (aH r)) RP RI RN RD (nI x) (nI u) a = some (v, s) ∧ m_X9_nights F (cN r N) U (nI u) a = some (v, t) ∧ aN r + n ≤ 9999 ∧ NI r P I n s t := by
  have hM := hw.1
  unfold m_X8_nights m_X8_passNights m_X9_nights
  simp only [within_C, in140, Option.bind_some, ib0]
  cases h1 : wi a 1 40
  · exact ⟨_, _, _, 0, rfl, rfl, hN, r, d, N, RP, RI, RN, RD, U, x, u, rfl, rfl, hw, AL_refl r, rfl, hd, h5, h⟩
  simp only [if_true]
  obtain ⟨n, rfl, -, hn⟩ := wi_nI (a := 1) (b := 40) (by decide) (by decide) h1
  by_cases h2 : aN r + n ≤ 9999
  rotate_left
  · have hp : ¬ nI (aN r) + nI n ≤ 9999 := by rw [nI_add]; exact nInle (b := 9999) (by omega) (by decide) (by omega)
    rw [if_neg hp, if_neg (show ¬ cN r N 1 + nI n ≤ 9999 from hp)]
    exact ⟨_, _, _, 0, rfl, rfl, hN, r, d, N, RP, RI, RN, RD, U, x, u, rfl, rfl, hw, AL_refl r, rfl, hd, h5, h⟩
  have hp : nI (aN r) + nI n ≤ 9999 := by rw [nI_add]; exact nIle (b := 9999) (by omega) (by decide) h2
  rw [if_pos hp, if_pos (show cN r N 1 + nI n ≤ 9999 from hp)]
  obtain ⟨s, t, k, k', ⟨q, d2, N2, RP2, RI2, RN2, RD2, U2, x2, u2, rfl, rfl, g1, g2, g3, g4, g5, g6⟩, e1, e2⟩ := loop2
    (fun a y (s : NS) => m_X8_passNights_L32 (cK r K) (nI (aM r)) (nI (aS r)) (nI (aT r)) (nI (aH r)) (nI n) 0 F (fun w15 w16 w17 w18 w19 w20 w21 w22 w23 w24 => (m_X3_whoStands F w16 (nI (aM r))).bind (fun v25 => some (v25, w15, w16, w17, w18, w19, w20, w21, w22, w23, w24))) a y s.1 s.2.1 s.2.2.1 s.2.2.2.1 s.2.2.2.2.1 s.2.2.2.2.2.1 s.2.2.2.2.2.2.1 s.2.2.2.2.2.2.2.1 s.2.2.2.2.2.2.2.2.1 s.2.2.2.2.2.2.2.2.2)
    (fun a y (t : (Nat → Int32) × (Nat → Int32) × Int32) => m_X9_nights_L33 (nI n) F (fun w8 w9 w10 => (m_X9_standing F w8).bind (fun v11 => some (v11, w8, w9, w10))) a y t.1 t.2.1 t.2.2)
    (fun j s t => NI r P I j s t) n (fun a b j s t hj hi => by
      obtain ⟨q, d2, N2, RP2, RI2, RN2, RD2, U2, x2, u2, rfl, rfl, g1, g2, g3, g4, g5, g6⟩ := hi
      obtain ⟨RP3, RI3, RN3, RD3, U3, x3, u3, f1, f2, f3⟩ := note_both (P := P) (I := I) g1 (by omega) g4 g5 (show 1000 ≤ F by omega) g6
      refine ⟨(cP (nt q) P, cI (nt q) I, nI (aN (nt q)), d2, RP3, RI3, RN3, RD3, nI x3, nI u3), (cN (nt q) N2, U3, nI u3), ⟨nt q, d2, N2, RP3, RI3, RN3, RD3, U3, x3, u3, rfl, rfl, nt_WF g1 (by omega), AL_trans (p := nt q) (q := q) ⟨rfl, rfl, rfl, rfl, rfl⟩ g2, by show aN q + 1 = _; omega, g4, g5, UR_rim rfl rfl f3⟩, ?_, ?_⟩
      · show m_X8_passNights_L32s _ _ _ _ _ _ _ _ _ _ _ _ _ _ _ _ _ _ _ _ _ = _
        unfold m_X8_passNights_L32s
        rw [if_neg (nInle (by omega) (by omega) hj), f1]
        simp only [Option.bind_some]
        rw [if_pos trivial, passNightA_C g1 (by omega) g2]
        simp only [Option.bind_some, bnd, nI_1]
      · show m_X9_nights_L33s _ _ _ _ _ _ _ _ = _
        unfold m_X9_nights_L33s
        rw [if_neg (nInle (by omega) (by omega) hj), f2]
        simp only [Option.bind_some]
        rw [night_M g1 (by omega)]
        simp only [Option.bind_some, bnd, nI_1])
    n F F 0 (cP r P, cI r I, nI (aN r), d, RP, RI, RN, RD, nI x, nI u) (cN r N, U, nI u) (by omega) (by omega) (by omega) ⟨r, d, N, RP, RI, RN, RD, U, x, u, rfl, rfl, hw, AL_refl r, rfl, hd, h5, h⟩
  refine ⟨nI (sb (aSt q) (aM q)), _, _, n, ?_, ?_, h2, q, d2, N2, RP2, RI2, RN2, RD2, U2, x2, u2, rfl, rfl, g1, g2, g3, g4, g5, g6⟩
  · change ((m_X8_passNights_L32 _ _ _ _ _ _ _ _ _ _ _ _ _ _ _ _ _ _ _ _ _).bind _) = _
    simp only at e1
    refine Eq.trans (congrArg (fun z => Option.bind z _) e1) ?_
    show ((m_X8_passNights_L32s _ _ _ _ _ _ _ _ _ _ _ _ _ _ _ _ _ _ _ _ _).bind _) = _
    unfold m_X8_passNights_L32s
    rw [if_pos (nIle (by omega) (by omega) (Nat.le_refl _)), ← g2.1]
    simp only
    rw [whoStands_C g1.1 (by omega)]
    rfl
  · refine Eq.trans e2 ?_
    show m_X9_nights_L33s _ _ _ _ _ _ _ _ = _
    unfold m_X9_nights_L33s
    rw [if_pos (nIle (by omega) (by omega) (Nat.le_refl _))]
    simp only
    rw [standing_M g1.1 (by omega)]
    rfl
theorem S_drift {r : AR} {P I K N : Nat → Int32} {d : Int32} {u x F : Nat} {RP RI : Nat → Nat → Int32} {RN RD U : Nat → Int32} (hw : WF r) (hN : aN r ≤ 9999) (hd : 0 ≤ d) (h5 : N 5 = d) (hF : 100000 ≤ F) (h : UR r u x RP RI RN RD U) (a : Int32) :
    ∃ v s t n, m_X8_drift F (cP r P) (cI r I) (nI (aN r)) d (cK r K) (nI (aM r)) (nI (aS r)) (nI (aT r)) (nI (aH r)) RP RI RN RD (nI x) (nI u) a = some (v, s) ∧ m_X9_drift F (cN r N) U (nI u) a = some (v, t) ∧ aN r + n ≤ 9999 ∧ NI r P I n s t := by
  have hM := hw.1
  unfold m_X8_drift m_X8_passNights m_X9_drift
  simp only [within_C, in140, Option.bind_some, ib0]
  cases h1 : wi a 1 40
  · exact ⟨_, _, _, 0, rfl, rfl, hN, r, d, N, RP, RI, RN, RD, U, x, u, rfl, rfl, hw, AL_refl r, rfl, hd, h5, h⟩
  simp only [if_true]
  obtain ⟨n, rfl, -, hn⟩ := wi_nI (a := 1) (b := 40) (by decide) (by decide) h1
  by_cases h2 : aN r + n ≤ 9999
  rotate_left
  · have hp : ¬ nI (aN r) + nI n ≤ 9999 := by rw [nI_add]; exact nInle (b := 9999) (by omega) (by decide) (by omega)
    rw [if_neg hp, if_neg (show ¬ cN r N 1 + nI n ≤ 9999 from hp)]
    exact ⟨_, _, _, 0, rfl, rfl, hN, r, d, N, RP, RI, RN, RD, U, x, u, rfl, rfl, hw, AL_refl r, rfl, hd, h5, h⟩
  have hp : nI (aN r) + nI n ≤ 9999 := by rw [nI_add]; exact nIle (b := 9999) (by omega) (by decide) h2
  rw [if_pos hp, if_pos (show cN r N 1 + nI n ≤ 9999 from hp)]
  obtain ⟨s, t, k, k', ⟨q, d2, N2, RP2, RI2, RN2, RD2, U2, x2, u2, rfl, rfl, g1, g2, g3, g4, g5, g6⟩, e1, e2⟩ := loop2
    (fun a y (s : NS) => m_X8_passNights_L32 (cK r K) (nI (aM r)) (nI (aS r)) (nI (aT r)) (nI (aH r)) (nI n) 1 F (fun w15 w16 w17 w18 w19 w20 w21 w22 w23 w24 => (m_X3_whoStands F w16 (nI (aM r))).bind (fun v25 => some (v25, w15, w16, w17, w18, w19, w20, w21, w22, w23, w24))) a y s.1 s.2.1 s.2.2.1 s.2.2.2.1 s.2.2.2.2.1 s.2.2.2.2.2.1 s.2.2.2.2.2.2.1 s.2.2.2.2.2.2.2.1 s.2.2.2.2.2.2.2.2.1 s.2.2.2.2.2.2.2.2.2)
    (fun a y (t : (Nat → Int32) × (Nat → Int32) × Int32) => m_X9_drift_L33 (nI n) F (fun w8 w9 w10 => (m_X9_standing F w8).bind (fun v11 => some (v11, w8, w9, w10))) a y t.1 t.2.1 t.2.2)
    (fun j s t => NI r P I j s t) n (fun a b j s t hj hi => by
      obtain ⟨q, d2, N2, RP2, RI2, RN2, RD2, U2, x2, u2, rfl, rfl, g1, g2, g3, g4, g5, g6⟩ := hi
      obtain ⟨RP3, RI3, RN3, RD3, U3, x3, u3, f1, f2, f3⟩ := note_both (P := P) (I := I) g1 (by omega) g4 g5 (show 1000 ≤ F by omega) g6
      obtain ⟨D, hD, D1, D2⟩ := draw_both d2
      have gw := dq_WF (D := D) g1
      have gA := dq_AL q D
      have gN := dq_N q D
      have hMq := g1.1
      refine ⟨(cP (nt (dq q D)) P, cI (nt (dq q D)) I, nI (aN (nt (dq q D))), nI D, RP3, RI3, RN3, RD3, nI x3, nI u3), (cN (nt (dq q D)) (upd N2 5 (nI D)), U3, nI u3), ⟨nt (dq q D), nI D, upd N2 5 (nI D), RP3, RI3, RN3, RD3, U3, x3, u3, rfl, rfl, nt_WF gw (by omega), AL_trans (p := nt (dq q D)) (q := dq q D) ⟨rfl, rfl, rfl, rfl, rfl⟩ (AL_trans gA g2), by show aN (dq q D) + 1 = _; omega, nI_nn hD, upd_eq, UR_rim gA.1 gA.2.1 f3⟩, ?_, ?_⟩
      · show m_X8_passNights_L32s _ _ _ _ _ _ _ _ _ _ _ _ _ _ _ _ _ _ _ _ _ = _
        unfold m_X8_passNights_L32s
        rw [if_neg (nInle (by omega) (by omega) hj), f1]
        simp only [Option.bind_some]
        rw [if_neg (show ¬ (1 : Int32) = 0 by decide), ← g2.1, march_C g1 (by omega) hD D1]
        simp only [Option.bind_some]
        have hpn := passNightA_C (P := P) (I := I) (K := K) gw (show 64 ≤ F by omega) (AL_trans gA g2)
        rw [g2.1, show cP q P = cP (dq q D) P by unfold cP; rw [dq_P, gA.1], ← gN, hpn]
        simp only [Option.bind_some, bnd, nI_1]
      · show m_X9_drift_L33s _ _ _ _ _ (cN q N2) U2 (nI u2) = _
        unfold m_X9_drift_L33s
        rw [if_neg (nInle (by omega) (by omega) hj), f2]
        have D3 : (((((cN q N2 5).toInt64) * 1103515245) + 12345) &&& 2147483647).toInt32 = nI D := by rw [cN_5, g5]; exact D2
        simp only [Option.bind_some, D3, cN_up5]
        by_cases h0 : aM q = 0
        · have hq : dq q D = q := by unfold dq; rw [if_neg (fun z => by omega)]
          rw [if_pos (show cN q (upd N2 5 (nI D)) 0 ≤ 0 by rw [cN_0, h0]; decide), night_M g1 (by omega), hq]
          simp only [Option.bind_some, bnd, nI_1]
        · have hm : D / 65536 % aM q < aM q := Nat.mod_lt _ (by omega)
          have hy : D / 128 % 12 < 12 := Nat.mod_lt _ (by decide)
          rw [if_neg (show ¬ cN q (upd N2 5 (nI D)) 0 ≤ 0 from nInle (b := 0) (by omega) (by decide) (by omega)), nzI, if_neg (show ¬ cN q (upd N2 5 (nI D)) 0 = 0 from fun z => h0 ((nI_eq (b := 0) (by omega) (by decide)).mp z)), cN_0, cN_5, upd_eq, man_D hD (by omega) hMq, inch_D hD]
          simp only [bnd]
          rw [stands_M hMq hm]
          simp only [Option.bind_some, ib0]
          cases hs : aSt q (D / 65536 % aM q)
          · have hq : dq q D = q := by
              unfold dq
              rw [if_neg (show ¬ (0 < aM q ∧ aSt q (D / 65536 % aM q) = true ∧ wa q (D / 128 % 12) (aM q) = -4) from fun z => by rw [hs] at z; exact absurd z.2.1 (by decide))]
            simp only [Bool.false_eq_true, if_false]
            rw [night_M g1 (by omega), hq]
            simp only [Option.bind_some, nI_1]
          · rw [who_M hMq (by omega) hy]
            simp only [Option.bind_some, if_true]
            by_cases hf : wa q (D / 128 % 12) (aM q) = -4
            · have hq : dq q D = sI q (D / 65536 % aM q) (D / 128 % 12) := by
                unfold dq
                rw [if_pos ⟨by omega, hs, hf⟩]
              rw [if_pos hf, goesTo_M hMq hm (eM_t hy).symm]
              simp only [Option.bind_some]
              change ((m_X9_goesBy F (cN (sI q (D / 65536 % aM q) (D / 128 % 12)) (upd N2 5 (nI D))) 0).bind _) = _
              rw [← hq, night_M gw (by omega)]
              simp only [Option.bind_some, nI_1]
            · have hq : dq q D = q := by
                unfold dq
                rw [if_neg (fun z => hf z.2.2)]
              rw [if_neg hf, night_M g1 (by omega), hq]
              simp only [Option.bind_some, nI_1])
    n F F 0 (cP r P, cI r I, nI (aN r), d, RP, RI, RN, RD, nI x, nI u) (cN r N, U, nI u) (by omega) (by omega) (by omega) ⟨r, d, N, RP, RI, RN, RD, U, x, u, rfl, rfl, hw, AL_refl r, rfl, hd, h5, h⟩
  refine ⟨nI (sb (aSt q) (aM q)), _, _, n, ?_, ?_, h2, q, d2, N2, RP2, RI2, RN2, RD2, U2, x2, u2, rfl, rfl, g1, g2, g3, g4, g5, g6⟩
  · change ((m_X8_passNights_L32 _ _ _ _ _ _ _ _ _ _ _ _ _ _ _ _ _ _ _ _ _).bind _) = _
    simp only at e1
    refine Eq.trans (congrArg (fun z => Option.bind z _) e1) ?_
    show ((m_X8_passNights_L32s _ _ _ _ _ _ _ _ _ _ _ _ _ _ _ _ _ _ _ _ _).bind _) = _
    unfold m_X8_passNights_L32s
    rw [if_pos (nIle (by omega) (by omega) (Nat.le_refl _)), ← g2.1]
    simp only
    rw [whoStands_C g1.1 (by omega)]
    rfl
  · refine Eq.trans e2 ?_
    show m_X9_drift_L33s _ _ _ _ _ _ _ _ = _
    unfold m_X9_drift_L33s
    rw [if_pos (nIle (by omega) (by omega) (Nat.le_refl _))]
    simp only
    rw [standing_M g1.1 (by omega)]
    rfl
