/-! ===== PURE I: change, calm, guard ===== -/
def sg (i j k : Nat) : Nat := if k = j then i else if k = i then j else k
def sw (r : AR) (i j : Nat) : AR := sI (sI r i (aI r j)) j (aI r i)
theorem sw_I {r : AR} {i j : Nat} (k : Nat) : aI (sw r i j) k = aI r (sg i j k) := by
  show (if k = j then aI r i else if k = i then aI r j else aI r k) = aI r (if k = j then i else if k = i then j else k)
  by_cases h : k = j
  · rw [if_pos h, if_pos h]
  · rw [if_neg h, if_neg h]
    by_cases h2 : k = i
    · rw [if_pos h2, if_pos h2]
    · rw [if_neg h2, if_neg h2]
theorem sg_lt {i j k M : Nat} (hi : i < M) (hj : j < M) (hk : k < M) : sg i j k < M := by
  unfold sg; split
  · exact hi
  · split
    · exact hj
    · exact hk
theorem sg_ne {i j a b : Nat} (hij : i ≠ j) (h : a ≠ b) : sg i j a ≠ sg i j b := by
  unfold sg
  split <;> split <;> (try split) <;> (try split) <;> omega
theorem sw_WF {r : AR} {i j : Nat} (hw : WF r) (hi : i < aM r) (hj : j < aM r) (hij : i ≠ j) : WF (sw r i j) := by
  refine ⟨hw.1, fun k hk => ⟨(hw.2.1 k hk).1, (hw.2.1 k hk).2.1, ?_⟩, fun a b ha hb hab h12 => ?_, hw.2.2.2.1, hw.2.2.2.2.1, hw.2.2.2.2.2.1, hw.2.2.2.2.2.2⟩
  · rw [sw_I]; exact (hw.2.1 _ (sg_lt hi hj hk)).2.2
  · rw [sw_I] at h12 ⊢
    rw [sw_I]
    exact hw.2.2.1 _ _ (sg_lt hi hj ha) (sg_lt hi hj hb) (sg_ne hij hab) h12
def ci (r : AR) (n i : Nat) (q : Option (Nat × Nat)) : Nat → Option (Nat × Nat)
  | 0 => q
  | j + 1 => if (decide (i < j) && (aSt r i && aSt r j)) = true then bs (ci r n i q j) (10 * i + j) (nSt (ntn (sw r i j) n)) else ci r n i q j
theorem ci_low {r : AR} {n i : Nat} {q : Option (Nat × Nat)} : ∀ j, j ≤ i + 1 → ci r n i q j = q
  | 0, _ => rfl
  | j + 1, h => by
    unfold ci
    rw [decide_eq_false (show ¬ i < j by omega), ci_low j (by omega)]; rfl
theorem ci_b {r : AR} (hM : aM r ≤ 6) {n i : Nat} {q : Option (Nat × Nat)} (h : bsb q) : ∀ j, bsb (ci r n i q j)
  | 0 => h
  | j + 1 => by
    unfold ci
    split
    · exact bs_b (ci_b hM h j) (nSt6 (r := sw r i j) hM n)
    · exact ci_b hM h j
def cf (r : AR) (n : Nat) : Nat → Option (Nat × Nat)
  | 0 => none
  | i + 1 => ci r n i (cf r n i) (aM r)
theorem cf_b {r : AR} (hM : aM r ≤ 6) (n : Nat) : ∀ i, bsb (cf r n i)
  | 0 => fun z hz => absurd hz (by simp [cf])
  | i + 1 => ci_b hM (cf_b hM n i) _
def bl (q : Option (Nat × Nat)) : Prop := ∀ z, q = some z → z.1 < 100
theorem bs_l {q : Option (Nat × Nat)} {l c : Nat} (h : bl q) (hl : l < 100) : bl (bs q l c) := by
  intro z hz
  cases q with
  | none => simp only [bs, Option.some.injEq] at hz; rw [← hz]; exact hl
  | some y =>
    simp only [bs] at hz
    split at hz
    · rw [Option.some.injEq] at hz; rw [← hz]; exact hl
    · exact h z hz
theorem ci_l {r : AR} {n i : Nat} (hi : i < 6) {q : Option (Nat × Nat)} (h : bl q) : ∀ j, j ≤ 6 → bl (ci r n i q j)
  | 0, _ => h
  | j + 1, hj => by
    unfold ci
    split
    · exact bs_l (ci_l hi h j (by omega)) (by omega)
    · exact ci_l hi h j (by omega)
theorem cf_l {r : AR} (hM : aM r ≤ 6) (n : Nat) : ∀ i, i ≤ 6 → bl (cf r n i)
  | 0, _ => fun z hz => absurd hz (by simp [cf])
  | i + 1, hi => ci_l (by omega) (cf_l hM n i (by omega)) _ hM
theorem nI100 : ∀ x, x < 100 → ¬ nI x = -4 := by decide +kernel
theorem lbl (i j : Nat) : (10 * nI i) + nI j = nI (10 * i + j) := by rw [show (10 : Int32) = nI 10 from rfl, pk_mul, nI_add]
theorem chIn_C {r : AR} {d : Int32} {P I K : Nat → Int32} {F n i : Nat} (hw : WF r) (hN : aN r ≤ 9999) (hn : n ≤ 60) (hF : 100000 ≤ F) (hi : i < aM r) (k : (Nat → Int32) → (Nat → Int32) → Int32 → Int32 → (Nat → Int32) → Int32 → Int32 → Int32 → Int32 → Int32 → Int32 → Option RT11) (q : Option (Nat × Nat)) (hq : bsb q) (s : RT11) (h1 : s.2.2.2.2.2.2.2.2.2.1 = ech q) (h2 : s.2.2.2.2.2.2.2.2.2.2 = emc q) :
    ∃ s' : RT11, (s'.2.2.2.2.2.2.2.2.2.1 = ech (ci r n i q (aM r)) ∧ s'.2.2.2.2.2.2.2.2.2.2 = emc (ci r n i q (aM r))) ∧ m_X1_chooseChange_L19 (cP r P) (cI r I) (nI (aN r)) d (cK r K) (nI (aM r)) (nI (aS r)) (nI (aT r)) (nI (aH r)) (nI n) F (nI i) k F (nI (i + 1)) s.1 s.2.1 s.2.2.1 s.2.2.2.1 s.2.2.2.2.1 s.2.2.2.2.2.1 s.2.2.2.2.2.2.1 s.2.2.2.2.2.2.2.1 s.2.2.2.2.2.2.2.2.1 s.2.2.2.2.2.2.2.2.2.1 s.2.2.2.2.2.2.2.2.2.2 = k s'.1 s'.2.1 s'.2.2.1 s'.2.2.2.1 s'.2.2.2.2.1 s'.2.2.2.2.2.1 s'.2.2.2.2.2.2.1 s'.2.2.2.2.2.2.2.1 s'.2.2.2.2.2.2.2.2.1 s'.2.2.2.2.2.2.2.2.2.1 s'.2.2.2.2.2.2.2.2.2.2 := by
  have hM := hw.1
  refine loopTo (fun a x (s : RT11) => m_X1_chooseChange_L19 (cP r P) (cI r I) (nI (aN r)) d (cK r K) (nI (aM r)) (nI (aS r)) (nI (aT r)) (nI (aH r)) (nI n) F (nI i) k a x s.1 s.2.1 s.2.2.1 s.2.2.2.1 s.2.2.2.2.1 s.2.2.2.2.2.1 s.2.2.2.2.2.2.1 s.2.2.2.2.2.2.2.1 s.2.2.2.2.2.2.2.2.1 s.2.2.2.2.2.2.2.2.2.1 s.2.2.2.2.2.2.2.2.2.2)
    (fun s' => k s'.1 s'.2.1 s'.2.2.1 s'.2.2.2.1 s'.2.2.2.2.1 s'.2.2.2.2.2.1 s'.2.2.2.2.2.2.1 s'.2.2.2.2.2.2.2.1 s'.2.2.2.2.2.2.2.2.1 s'.2.2.2.2.2.2.2.2.2.1 s'.2.2.2.2.2.2.2.2.2.2)
    (fun j s => i < j ∧ s.2.2.2.2.2.2.2.2.2.1 = ech (ci r n i q j) ∧ s.2.2.2.2.2.2.2.2.2.2 = emc (ci r n i q j)) (aM r) (fun a s h => ?_) (fun a j s hj h => ?_) (aM r - (i + 1)) F (i + 1) s (by omega) (by omega) ⟨by omega, by rw [ci_low _ (Nat.le_refl _)]; exact h1, by rw [ci_low _ (Nat.le_refl _)]; exact h2⟩ |>.imp fun s' h => ⟨h.1.2, h.2⟩
  · show m_X1_chooseChange_L19s _ _ _ _ _ _ _ _ _ _ _ _ _ _ _ _ _ _ _ _ _ _ _ _ _ _ = _
    unfold m_X1_chooseChange_L19s
    rw [if_pos (nIle (by omega) (by omega) (Nat.le_refl _))]
  · obtain ⟨a1, a2, a3, a4, a5, a6, a7, a8, a9, ac, am⟩ := s
    obtain ⟨hij, h1, h2⟩ := h
    have h1 : ac = ech (ci r n i q j) := h1
    have h2 : am = emc (ci r n i q j) := h2
    subst h1 h2
    by_cases hc : (aSt r i && aSt r j) = true
    · rw [Bool.and_eq_true] at hc
      have hwj := sw_WF hw hi hj (Nat.ne_of_lt hij)
      obtain ⟨P2, I2, K2, e1⟩ := takeAll_C (d := d) (P := P) (I := I) (K := K) hM a1 a2 a3 a4 a5 a6 a7 a8 a9
      have e2 : ci r n i q (j + 1) = bs (ci r n i q j) (10 * i + j) (nSt (ntn (sw r i j) n)) := by
        rw [ci, decide_eq_true hij, hc.1, hc.2]; rfl
      refine ⟨(cP (ntn (sw r i j) n) P2, cI (ntn (sw r i j) n) I2, nI (aN r + n), d, cK r K2, nI (aM r), nI (aS r), nI (aT r), nI (aH r), ech (ci r n i q (j + 1)), emc (ci r n i q (j + 1))), ⟨by omega, rfl, rfl⟩, ?_⟩
      show m_X1_chooseChange_L19s _ _ _ _ _ _ _ _ _ _ _ _ _ _ _ _ _ _ _ _ _ _ _ _ _ _ = _
      unfold m_X1_chooseChange_L19s
      rw [if_neg (nInle (by omega) (by omega) hj), stands_C hM hi, stands_C hM hj, hc.1, hc.2]
      simp only [Option.bind_some, ib0, if_true]
      rw [e1]
      simp only [Option.bind_some, cR]
      rw [chk_nI _ (by omega) (by decide), chk_nI _ (by omega) (by decide), chk_nI _ (by omega) (by decide), chk_nI _ (by omega) (by decide), cl (show i < 2 ^ 31 by omega), cl (show j < 2 ^ 31 by omega), cI_at hi, cI_at hj, cI_up hi, cI_up (r := sI r i (aI r j)) hj]
      have h := passSome_C (P := P2) (I := I2) (K := K2) (n := n) hwj (by show aN r + n < 100000; omega) hF
      change m_X3_passSome F (cP r P2) (cI (sw r i j) I2) (nI (aN r)) (cK r K2) (nI (aM r)) (nI (aS r)) (nI (aT r)) (nI (aH r)) (nI n) = _ at h
      change (m_X3_passSome F (cP r P2) (cI (sw r i j) I2) (nI (aN r)) (cK r K2) (nI (aM r)) (nI (aS r)) (nI (aT r)) (nI (aH r)) (nI n)).bind _ = _
      rw [h]
      simp only [Option.bind_some]
      have h3 := howMany_C (I := I2) (ntn_WF hwj n (by show aN r + n < 100000; omega)) (show 64 ≤ F by omega)
      rw [ntn_M] at h3
      change m_X3_howManyStand F (cI (ntn (sw r i j) n) I2) (nI (aM r)) = _ at h3
      rw [h3]
      simp only [Option.bind_some]
      rw [lbl, offer_C (ci_b hM hq j) (nSt6 (r := sw r i j) hM n), e2]
      simp only [Option.bind_some, bnd, nI_1]
      rfl
    · have e2 : ci r n i q (j + 1) = ci r n i q j := by
        rw [ci, if_neg]
        rw [Bool.and_eq_true]; exact fun z => hc z.2
      refine ⟨(a1, a2, a3, a4, a5, a6, a7, a8, a9, ech (ci r n i q j), emc (ci r n i q j)), ⟨by omega, by rw [e2], by rw [e2]⟩, ?_⟩
      show m_X1_chooseChange_L19s _ _ _ _ _ _ _ _ _ _ _ _ _ _ _ _ _ _ _ _ _ _ _ _ _ _ = _
      unfold m_X1_chooseChange_L19s
      rw [if_neg (nInle (by omega) (by omega) hj), stands_C hM hi, stands_C hM hj]
      simp only [Option.bind_some, ib0, bnd, nI_1]
      cases ha : aSt r i
      · rfl
      · cases hb : aSt r j
        · rfl
        · rw [ha, hb] at hc; exact absurd rfl hc
theorem change_C {r : AR} {d : Int32} {P I K : Nat → Int32} {F n : Nat} (hw : WF r) (hN : aN r ≤ 9999) (hn : n ≤ 60) (hF : 100000 ≤ F) (t1 t2 : Nat → Int32) (t3 t4 : Int32) (t5 : Nat → Int32) (t6 t7 t8 t9 c1 c2 : Int32) :
    ∃ s : RT11, (s.2.2.2.2.2.2.2.2.2.1 = ech (cf r n (aM r)) ∧ s.2.2.2.2.2.2.2.2.2.2 = emc (cf r n (aM r))) ∧ m_X1_chooseChange F t1 t2 t3 t4 t5 t6 t7 t8 t9 c1 c2 (cP r P) (cI r I) (nI (aN r)) d (cK r K) (nI (aM r)) (nI (aS r)) (nI (aT r)) (nI (aH r)) (nI n) = some s := by
  have hM := hw.1
  unfold m_X1_chooseChange m_X1_beginChoice
  simp only [Option.bind_some]
  refine loopTo (fun k x (s : RT11) => m_X1_chooseChange_L6 (cP r P) (cI r I) (nI (aN r)) d (cK r K) (nI (aM r)) (nI (aS r)) (nI (aT r)) (nI (aH r)) (nI n) F (fun w14 w15 w16 w17 w18 w19 w20 w21 w22 w23 w24 => some (w14, w15, w16, w17, w18, w19, w20, w21, w22, w23, w24)) k x s.1 s.2.1 s.2.2.1 s.2.2.2.1 s.2.2.2.2.1 s.2.2.2.2.2.1 s.2.2.2.2.2.2.1 s.2.2.2.2.2.2.2.1 s.2.2.2.2.2.2.2.2.1 s.2.2.2.2.2.2.2.2.2.1 s.2.2.2.2.2.2.2.2.2.2)
    (fun s => some s) (fun j s => s.2.2.2.2.2.2.2.2.2.1 = ech (cf r n j) ∧ s.2.2.2.2.2.2.2.2.2.2 = emc (cf r n j)) (aM r) (fun k s hi => ?_) (fun k i s hi h => ?_) (aM r) F 0 (t1, t2, t3, t4, t5, t6, t7, t8, t9, -4, -4) (by omega) (by omega) ⟨rfl, rfl⟩
  · show m_X1_chooseChange_L6s _ _ _ _ _ _ _ _ _ _ _ _ _ _ _ _ _ _ _ _ _ _ _ _ _ = _
    unfold m_X1_chooseChange_L6s
    rw [if_pos (nIle (by omega) (by omega) (Nat.le_refl _))]
  · obtain ⟨s', h3, h4⟩ := chIn_C (d := d) (P := P) (I := I) (K := K) (F := F) (n := n) hw hN hn hF hi (fun w42 w43 w44 w45 w46 w47 w48 w49 w50 w51 w52 => bnd (nI i + 1) (fun x53 => m_X1_chooseChange_L6 (cP r P) (cI r I) (nI (aN r)) d (cK r K) (nI (aM r)) (nI (aS r)) (nI (aT r)) (nI (aH r)) (nI n) F (fun w14 w15 w16 w17 w18 w19 w20 w21 w22 w23 w24 => some (w14, w15, w16, w17, w18, w19, w20, w21, w22, w23, w24)) k x53 w42 w43 w44 w45 w46 w47 w48 w49 w50 w51 w52)) (cf r n i) (cf_b hM n i) s h.1 h.2
    refine ⟨s', h3, ?_⟩
    show m_X1_chooseChange_L6s _ _ _ _ _ _ _ _ _ _ _ _ _ _ _ _ _ _ _ _ _ _ _ _ _ = _
    unfold m_X1_chooseChange_L6s
    rw [if_neg (nInle (by omega) (by omega) hi)]
    simp only [bnd, nI_1] at h4 ⊢
    exact h4
theorem chIn_M {r : AR} {N A : Nat → Int32} {F n i : Nat} (hw : WF r) (hN : aN r ≤ 9999) (hn : n ≤ 60) (hF : 100000 ≤ F) (hi : i < aM r) (hA : ∀ j, j < 24 → A j = cN r N j) (k : Int32 → Int32 → (Nat → Int32) → Option (Int32 × (Nat → Int32) × (Nat → Int32))) (q : Option (Nat × Nat)) (hq : bsb q) :
    m_X9_change_L54 (nI n) F A (nI i) k F (nI (i + 1)) (emm q) (ech q) (cN r N) = k (emm (ci r n i q (aM r))) (ech (ci r n i q (aM r))) (cN r N) := by
  have hM := hw.1
  have key := loopTo (fun a x (s : Int32 × Int32 × (Nat → Int32)) => m_X9_change_L54 (nI n) F A (nI i) k a x s.1 s.2.1 s.2.2) (fun s => k s.1 s.2.1 s.2.2) (fun j s => i < j ∧ s = (emm (ci r n i q j), ech (ci r n i q j), cN r N)) (aM r) (fun a s h => ?_) (fun a j s hj h => ?_) (aM r - (i + 1)) F (i + 1) (emm q, ech q, cN r N) (by omega) (by omega) ⟨by omega, by rw [ci_low _ (Nat.le_refl _)]⟩
  · obtain ⟨s', ⟨-, rfl⟩, h2⟩ := key
    exact h2
  · obtain ⟨-, rfl⟩ := h
    show m_X9_change_L54s _ _ _ _ _ _ _ (emm (ci r n i q (aM r))) (ech (ci r n i q (aM r))) (cN r N) = k (emm (ci r n i q (aM r))) (ech (ci r n i q (aM r))) (cN r N)
    unfold m_X9_change_L54s
    rw [cN_0, if_pos (nIle (by omega) (by omega) (Nat.le_refl _))]
  · obtain ⟨hij, rfl⟩ := h
    refine ⟨_, ⟨by omega, rfl⟩, ?_⟩
    show m_X9_change_L54s _ _ _ _ _ _ _ (emm (ci r n i q j)) (ech (ci r n i q j)) (cN r N) = m_X9_change_L54 (nI n) F A (nI i) k a (nI (j + 1)) (emm (ci r n i q (j + 1))) (ech (ci r n i q (j + 1))) (cN r N)
    unfold m_X9_change_L54s
    rw [cN_0, if_neg (nInle (by omega) (by omega) hj), stands_M hM hi, stands_M hM hj]
    simp only [Option.bind_some, ib0]
    by_cases hc : (aSt r i && aSt r j) = true
    · rw [Bool.and_eq_true] at hc
      have hwj := sw_WF hw hi hj (Nat.ne_of_lt hij)
      have hMj : aM (ntn (sw r i j) n) ≤ 6 := by rw [ntn_M]; exact hM
      have e2 : ci r n i q (j + 1) = bs (ci r n i q j) (10 * i + j) (nSt (ntn (sw r i j) n)) := by
        rw [ci, decide_eq_true hij, hc.1, hc.2]; rfl
      have ix : ∀ m, m < 6 → (6 + 3 * nI m) + 2 = nI (6 + 3 * m + 2) := fun m _ => ix3 m 2
      rw [hc.1, hc.2, ix i (by omega), ix j (by omega)]
      simp only [if_true]
      simp only [chk_nI _ (show 6 + 3 * i + 2 < 24 by omega) (by decide : (24 : Nat) < 2 ^ 31), chk_nI _ (show 6 + 3 * j + 2 < 24 by omega) (by decide : (24 : Nat) < 2 ^ 31), cl (show 6 + 3 * i + 2 < 2 ^ 31 by omega), cl (show 6 + 3 * j + 2 < 2 ^ 31 by omega)]
      rw [hA (6 + 3 * i + 2) (by omega), hA (6 + 3 * j + 2) (by omega), cN_i hi, cN_i hj, goesTo_M hM hi rfl]
      simp only [Option.bind_some]
      change ((m_X9_goesTo (cN (sI r i (aI r j)) N) (nI j) (eM (aI r i))).bind _) = _
      rw [goesTo_M (r := sI r i (aI r j)) hM hj rfl]
      simp only [Option.bind_some]
      change (m_X9_goesOn F (cN (sw r i j) N) (nI n)).bind _ = _
      rw [goesOn_M hwj (by show aN r + n < 100000; omega) hF]
      simp only [Option.bind_some]
      rw [standing_M hMj (by omega)]
      simp only [Option.bind_some]
      rw [manySt_M hMj (by omega)]
      simp only [Option.bind_some]
      rw [backs_M (r := r) (by omega) hM hMj hA]
      simp only [Option.bind_some, jn, bnd, nI_1, lbl]
      rw [e2]
      exact offer_M (ci_b hM hq j) (nSt6 (r := sw r i j) hM n) (fun u v => m_X9_change_L54 (nI n) F A (nI i) k a (nI (j + 1)) u v (cN r N))
    · have e2 : ci r n i q (j + 1) = ci r n i q j := by
        rw [ci, if_neg]
        rw [Bool.and_eq_true]; exact fun z => hc z.2
      rw [e2]
      cases ha : aSt r i
      · simp only [bnd, nI_1]; rfl
      · cases hb : aSt r j
        · simp only [bnd, nI_1]; rfl
        · rw [ha, hb] at hc; exact absurd rfl hc
theorem change_M {r : AR} {N A : Nat → Int32} {F n : Nat} (hw : WF r) (hN : aN r ≤ 9999) (hn : n ≤ 60) (hF : 100000 ≤ F) (hA : ∀ j, j < 24 → A j = cN r N j) (k : Int32 → Int32 → (Nat → Int32) → Option (Int32 × (Nat → Int32) × (Nat → Int32))) :
    m_X9_change_L37 (nI n) F A k F 0 (-1) (-4) (cN r N) = k (emm (cf r n (aM r))) (ech (cf r n (aM r))) (cN r N) := by
  have hM := hw.1
  refine loopUp (fun a x (s : Int32 × Int32 × (Nat → Int32)) => m_X9_change_L37 (nI n) F A k a x s.1 s.2.1 s.2.2) _ (fun j => (emm (cf r n j), ech (cf r n j), cN r N)) (aM r) (fun a => ?_) (fun a i hi => ?_) (aM r) F 0 (by omega) (by omega)
  · show m_X9_change_L37s _ _ _ _ _ _ _ _ (cN r N) = _
    unfold m_X9_change_L37s
    rw [cN_0, if_pos (nIle (by omega) (by omega) (Nat.le_refl _))]
  · show m_X9_change_L37s _ _ _ _ _ _ (emm (cf r n i)) (ech (cf r n i)) (cN r N) = _
    unfold m_X9_change_L37s
    rw [cN_0, if_neg (nInle (by omega) (by omega) hi)]
    simp only [bnd, nI_1]
    rw [chIn_M hw hN hn hF hi hA _ _ (cf_b hM n i)]
    rfl
theorem S_change {r : AR} {d : Int32} {P I K N A : Nat → Int32} {F : Nat} (hw : WF r) (hN : aN r ≤ 9999) (hF : 100000 ≤ F) (a b : Int32) (t1 t2 : Nat → Int32) (t3 t4 : Int32) (t5 : Nat → Int32) (t6 t7 t8 t9 c1 c2 : Int32) :
    ∃ v, ∃ T : RT11, ∃ A2, m_X8_change F (cP r P) (cI r I) (nI (aN r)) d (cK r K) (nI (aM r)) (nI (aS r)) (nI (aT r)) (nI (aH r)) t1 t2 t3 t4 t5 t6 t7 t8 t9 c1 c2 a b = some (v, T) ∧ m_X9_change F (cN r N) A a b = some (v, cN r N, A2) := by
  have hM := hw.1
  unfold m_X8_change m_X9_change
  simp only [within_C, in140, in01, Option.bind_some, ib0]
  cases h2 : wi a 1 40
  · exact ⟨_, _, _, rfl, rfl⟩
  cases h3 : wi b 0 1
  · exact ⟨_, _, _, rfl, rfl⟩
  simp only [if_true]
  obtain ⟨n, rfl, -, hn⟩ := wi_nI (a := 1) (b := 40) (by decide) (by decide) h2
  obtain ⟨s, ⟨e1, e2⟩, e3⟩ := change_C (d := d) (P := P) (I := I) (K := K) (F := F) (n := n) hw hN (by omega) hF t1 t2 t3 t4 t5 t6 t7 t8 t9 c1 c2
  rw [e3, asides_M (by omega)]
  simp only [Option.bind_some]
  rw [change_M hw hN (by omega) hF (aside_ok _ _), e1, e2]
  by_cases h0 : b = 0
  · rw [if_pos h0, if_pos h0]; exact ⟨_, _, _, rfl, rfl⟩
  · rw [if_neg h0, if_neg h0]
    cases hz : cf r n (aM r) with
    | none => rw [if_pos (show ech none = -4 from rfl)]; exact ⟨_, _, _, rfl, rfl⟩
    | some z =>
      by_cases h4 : ech (some z) = -4
      · exact absurd h4 (nI100 z.1 (cf_l hM n (aM r) hM z hz))
      · rw [if_neg h4]; exact ⟨_, _, _, rfl, rfl⟩
/-- calm -/
def cp (r : AR) (n v : Nat) : Bool := decide (sb (aSt (ntn (sH r v) n)) (aM r) = sb (aSt r) (aM r))
def cm (r : AR) (n : Nat) : Nat → Nat
  | 0 => 0
  | v + 1 => if cp r n v then v else cm r n v
theorem sb_eqI {c e : Nat → Bool} {n : Nat} (h : n ≤ 6) : (nI (sb c n) = nI (sb e n)) = (sb c n = sb e n) := by
  have h1 := sb64 c h
  have h2 := sb64 e h
  exact propext (nI_eq (by omega) (by omega))
theorem calm_C {r : AR} {d : Int32} {P I K : Nat → Int32} {F n : Nat} (hw : WF r) (hN : aN r ≤ 9999) (hn : n ≤ 60) (hF : 100000 ≤ F) : ∀ h a, h ≤ 12 → h < a → ∀ s : RT,
    ∃ T : RT10, T.1 = nI (cm r n (h + 1)) ∧ m_X1_greatestCalm_L9 (cP r P) (cI r I) (nI (aN r)) d (cK r K) (nI (aM r)) (nI (aS r)) (nI (aT r)) (nI (aH r)) (nI n) F (nI (sb (aSt r) (aM r))) (fun w12 w13 w14 w15 w16 w17 w18 w19 w20 => some (0, w12, w13, w14, w15, w16, w17, w18, w19, w20)) a (nI h) s.1 s.2.1 s.2.2.1 s.2.2.2.1 s.2.2.2.2.1 s.2.2.2.2.2.1 s.2.2.2.2.2.2.1 s.2.2.2.2.2.2.2.1 s.2.2.2.2.2.2.2.2 = some T
  | 0, a, _, ha, s => by
    obtain ⟨a, rfl⟩ : ∃ a', a = a' + 1 := ⟨a - 1, by omega⟩
    refine ⟨(0, s), ?_, ?_⟩
    · show (0 : Int32) = nI (if cp r n 0 then 0 else 0)
      rw [ite_self]; rfl
    · show m_X1_greatestCalm_L9s _ _ _ _ _ _ _ _ _ _ _ _ _ _ _ _ _ _ _ _ _ _ _ _ = _
      unfold m_X1_greatestCalm_L9s
      rw [if_pos (by decide)]
  | h + 1, a, hh, ha, s => by
    obtain ⟨a, rfl⟩ : ∃ a', a = a' + 1 := ⟨a - 1, by omega⟩
    have hM := hw.1
    obtain ⟨t1, t2, t3, t4, t5, t6, t7, t8, t9⟩ := s
    obtain ⟨P2, I2, K2, e1⟩ := takeAll_C (d := d) (P := P) (I := I) (K := K) hM t1 t2 t3 t4 t5 t6 t7 t8 t9
    have hw2 := sH_WF (v := h + 1) hw hh
    have h3 := passSome_C (P := P2) (I := I2) (K := K2) (n := n) hw2 (by show aN r + n < 100000; omega) hF
    change m_X3_passSome F (cP r P2) (cI r I2) (nI (aN r)) (cK r K2) (nI (aM r)) (nI (aS r)) (nI (aT r)) (nI (h + 1)) (nI n) = _ at h3
    have h4 := whoStands_C (r := ntn (sH r (h + 1)) n) (I := I2) (F := F) (by rw [ntn_M]; exact hM) (by omega)
    rw [ntn_M] at h4
    change m_X3_whoStands F (cI (ntn (sH r (h + 1)) n) I2) (nI (aM r)) = some (nI (sb (aSt (ntn (sH r (h + 1)) n)) (aM r))) at h4
    have e0 : ∀ z : Option RT10, (m_X1_greatestCalm_L9s (cP r P) (cI r I) (nI (aN r)) d (cK r K) (nI (aM r)) (nI (aS r)) (nI (aT r)) (nI (aH r)) (nI n) F (nI (sb (aSt r) (aM r))) (fun w12 w13 w14 w15 w16 w17 w18 w19 w20 => some (0, w12, w13, w14, w15, w16, w17, w18, w19, w20)) (m_X1_greatestCalm_L9 (cP r P) (cI r I) (nI (aN r)) d (cK r K) (nI (aM r)) (nI (aS r)) (nI (aT r)) (nI (aH r)) (nI n) F (nI (sb (aSt r) (aM r))) (fun w12 w13 w14 w15 w16 w17 w18 w19 w20 => some (0, w12, w13, w14, w15, w16, w17, w18, w19, w20)) a) (nI (h + 1)) t1 t2 t3 t4 t5 t6 t7 t8 t9 = z) =
        ((if cp r n (h + 1) then some (nI (h + 1), cP (ntn (sH r (h + 1)) n) P2, cI (ntn (sH r (h + 1)) n) I2, nI (aN r + n), d, cK r K2, nI (aM r), nI (aS r), nI (aT r), nI (h + 1)) else
          m_X1_greatestCalm_L9 (cP r P) (cI r I) (nI (aN r)) d (cK r K) (nI (aM r)) (nI (aS r)) (nI (aT r)) (nI (aH r)) (nI n) F (nI (sb (aSt r) (aM r))) (fun w12 w13 w14 w15 w16 w17 w18 w19 w20 => some (0, w12, w13, w14, w15, w16, w17, w18, w19, w20)) a (nI h) (cP (ntn (sH r (h + 1)) n) P2) (cI (ntn (sH r (h + 1)) n) I2) (nI (aN r + n)) d (cK r K2) (nI (aM r)) (nI (aS r)) (nI (aT r)) (nI (h + 1))) = z) := by
      intro z
      unfold m_X1_greatestCalm_L9s
      rw [if_neg (show ¬ nI (h + 1) ≤ 0 from nInle (b := 0) (by omega) (by decide) (by omega)), e1]
      simp only [Option.bind_some, cR]
      rw [h3]
      simp only [Option.bind_some]
      rw [h4]
      simp only [Option.bind_some, sb_eqI hM, bnd]
      rw [show nI (h + 1) + -1 = nI h by rw [← nI_1]; exact (by have : ∀ x : Int32, x + 1 + -1 = x := fun x => by rw [Int32.add_assoc]; exact Int32.add_zero x
                                                                exact this _)]
      unfold cp
      by_cases q : sb (aSt (ntn (sH r (h + 1)) n)) (aM r) = sb (aSt r) (aM r)
      · rw [if_pos q, decide_eq_true q]; rfl
      · rw [if_neg q, decide_eq_false q]; rfl
    show ∃ T : RT10, T.1 = nI (cm r n (h + 1 + 1)) ∧ m_X1_greatestCalm_L9s _ _ _ _ _ _ _ _ _ _ _ _ _ _ _ _ _ _ _ _ _ _ _ _ = some T
    simp only [e0]
    cases hc : cp r n (h + 1)
    · obtain ⟨T, f1, f2⟩ := calm_C (d := d) (P := P) (I := I) (K := K) hw hN hn hF h a (by omega) (by omega) (cP (ntn (sH r (h + 1)) n) P2, cI (ntn (sH r (h + 1)) n) I2, nI (aN r + n), d, cK r K2, nI (aM r), nI (aS r), nI (aT r), nI (h + 1))
      refine ⟨T, ?_, f2⟩
      rw [f1, show cm r n (h + 1 + 1) = cm r n (h + 1) by rw [cm, hc]; rfl]
    · refine ⟨_, ?_, rfl⟩
      rw [show cm r n (h + 1 + 1) = h + 1 by rw [cm, hc]; rfl]
theorem calm_M {r : AR} {N A : Nat → Int32} {F n : Nat} (hw : WF r) (hN : aN r ≤ 9999) (hn : n ≤ 60) (hF : 100000 ≤ F) (hA : ∀ j, j < 24 → A j = cN r N j) (k : Int32 → (Nat → Int32) → Option (Int32 × (Nat → Int32) × (Nat → Int32))) :
    m_X9_calm_L28 (nI n) F (nI (sb (aSt r) (aM r))) A k F 0 0 (cN r N) = k (nI (cm r n 13)) (cN r N) := by
  have hM := hw.1
  refine loopUp (fun a x (s : Int32 × (Nat → Int32)) => m_X9_calm_L28 (nI n) F (nI (sb (aSt r) (aM r))) A k a x s.1 s.2) _ (fun j => (nI (cm r n j), cN r N)) 13 (fun a => ?_) (fun a v hv => ?_) 13 F 0 (by omega) (by omega)
  · show m_X9_calm_L28s _ _ _ _ _ _ _ _ _ = _
    unfold m_X9_calm_L28s
    rw [if_pos (by decide)]
  · show m_X9_calm_L28s _ _ _ _ _ _ _ _ _ = _
    unfold m_X9_calm_L28s
    have hw2 := sH_WF (v := v) hw (by omega)
    have hM2 : aM (ntn (sH r v) n) ≤ 6 := by rw [ntn_M]; exact hM
    rw [if_neg (show ¬ (13 : Int32) ≤ nI v from nInle (a := 13) (by decide) (by omega) hv)]
    simp only
    rw [cN_law (r := r) (N := N) (q := sH r v) (k := 4) (x := nI v) (by omega) rfl rfl rfl rfl rfl rfl rfl rfl, goesOn_M hw2 (by show aN r + n < 100000; omega) hF]
    simp only [Option.bind_some]
    rw [standing_M hM2 (by omega), backs_M (r := r) (by omega) hM hM2 hA]
    simp only [Option.bind_some, bnd, nI_1]
    rw [ntn_M]
    change (if nI (sb (aSt (ntn (sH r v) n)) (aM r)) = nI (sb (aSt r) (aM r)) then _ else _) = _
    simp only [sb_eqI hM]
    by_cases q : sb (aSt (ntn (sH r v) n)) (aM r) = sb (aSt r) (aM r)
    · rw [if_pos q, show cm r n (v + 1) = v by rw [cm, show cp r n v = true from decide_eq_true q]; rfl]
    · rw [if_neg q, show cm r n (v + 1) = cm r n v by rw [cm, show cp r n v = false from decide_eq_false q]; rfl]
theorem S_calm {r : AR} {d : Int32} {P I K N A : Nat → Int32} {F : Nat} (hw : WF r) (hN : aN r ≤ 9999) (hF : 100000 ≤ F) (a : Int32) (t1 t2 : Nat → Int32) (t3 t4 : Int32) (t5 : Nat → Int32) (t6 t7 t8 t9 : Int32) :
    ∃ v, ∃ T : RT, ∃ A2, m_X8_calm F (cP r P) (cI r I) (nI (aN r)) d (cK r K) (nI (aM r)) (nI (aS r)) (nI (aT r)) (nI (aH r)) t1 t2 t3 t4 t5 t6 t7 t8 t9 a = some (v, T) ∧ m_X9_calm F (cN r N) A a = some (v, cN r N, A2) := by
  have hM := hw.1
  unfold m_X8_calm m_X9_calm m_X1_greatestCalm
  simp only [within_C, in140, Option.bind_some, ib0]
  cases h2 : wi a 1 40
  · exact ⟨_, _, _, rfl, rfl⟩
  simp only [if_true]
  obtain ⟨n, rfl, -, hn⟩ := wi_nI (a := 1) (b := 40) (by decide) (by decide) h2
  obtain ⟨T, e1, e2⟩ := calm_C (d := d) (P := P) (I := I) (K := K) (F := F) (n := n) hw hN (by omega) hF 12 F (by omega) (by omega) (t1, t2, t3, t4, t5, t6, t7, t8, t9)
  rw [whoStands_C hM (by omega), standing_M hM (by omega)]
  simp only [Option.bind_some]
  rw [asides_M (by omega)]
  simp only [Option.bind_some]
  rw [calm_M hw hN (by omega) hF (aside_ok _ _)]
  change ∃ v, ∃ T : RT, ∃ A2, (m_X1_greatestCalm_L9 (cP r P) (cI r I) (nI (aN r)) d (cK r K) (nI (aM r)) (nI (aS r)) (nI (aT r)) (nI (aH r)) (nI n) F (nI (sb (aSt r) (aM r))) (fun w12 w13 w14 w15 w16 w17 w18 w19 w20 => some (0, w12, w13, w14, w15, w16, w17, w18, w19, w20)) F (nI 12) t1 t2 t3 t4 t5 t6 t7 t8 t9).bind _ = some (v, T) ∧ _
  simp only at e2
  rw [e2]
  simp only [Option.bind_some]
  rw [e1]
  exact ⟨_, _, _, rfl, rfl⟩
/-- guard -/
theorem sub_all : ∀ s, s < 64 → ∀ w, w < 64 → decide ((nI s &&& (nI w ^^^ (-1))) = 0) = decide (s &&& w = s) := by decide +kernel
def ct6 (x : Nat) : Nat := fb_ct (fun b => x.testBit b) 6
theorem ct12 : ∀ x, x < 64 → fb_ct (fun b => x.testBit b) 12 = fb_ct (fun b => x.testBit b) 6 := by decide +kernel
theorem bc6 {x : Nat} (h : x < 64) : m_J6_bitCount_0f7a4 (nI x) = some (nI (ct6 x)) := by rw [bc (by omega), ct12 x h]; rfl
def gok (r : AR) (R w s b : Nat) : Bool := decide (s &&& w = s) && (decide (ct6 s < ct6 b) && decide (hb r R s (aM r) = hb r R 63 (aM r)))
def gf (r : AR) (R w : Nat) : Nat → Nat
  | 0 => w
  | s + 1 => if gok r R w s (gf r R w s) then s else gf r R w s
theorem gf_lt {r : AR} {R w : Nat} (h : w < 64) : ∀ s, s ≤ 64 → gf r R w s < 64
  | 0, _ => h
  | s + 1, hs => by
    unfold gf
    split
    · omega
    · exact gf_lt h s (by omega)
theorem gf_high {r : AR} {R w : Nat} : ∀ d, gf r R w (w + 1 + d) = gf r R w (w + 1)
  | 0 => rfl
  | d + 1 => by
    show gf r R w ((w + 1 + d) + 1) = _
    rw [gf, if_neg, gf_high d]
    unfold gok
    rw [decide_eq_false]
    · exact Bool.false_ne_true
    · intro q
      have := Nat.and_le_right (n := w + 1 + d) (m := w)
      omega
theorem many6 {F x : Nat} (hF : 64 ≤ F) (hx : x < 64) : m_X9_many F (nI x) = some (nI (ct6 x)) := many_spec hF hx
theorem ct6_le (x : Nat) : ct6 x ≤ 6 := fb_ct_le _ _
theorem hb_lt {r : AR} {R x : Nat} : ∀ n, hb r R x n < 4096
  | 0 => by show 0 < 4096; decide
  | n + 1 => by
    unfold hb
    split
    · exact Nat.or_lt_two_pow (n := 12) (hb_lt n) (sb_lt _ 12)
    · exact hb_lt n
theorem guard_C {r : AR} {I : Nat → Int32} {F R : Nat} (hw : WF r) (hF : 100000 ≤ F) (hR : R < 6) : m_X1_fewestGuards F (cI r I) (nI (aM r)) (nI R) = some (nI (gf r R (sb (aSt r) (aM r)) 64)) := by
  have hM := hw.1
  have hwl := sb64 (aSt r) hM
  unfold m_X1_fewestGuards
  rw [whoStands_C hM (by omega)]
  simp only [Option.bind_some]
  rw [held_C hM (by omega) hR hwl, hb_all hM _ (Nat.le_refl _)]
  simp only [Option.bind_some]
  have e64 : gf r R (sb (aSt r) (aM r)) 64 = gf r R (sb (aSt r) (aM r)) (sb (aSt r) (aM r) + 1) := by
    rw [← gf_high (64 - (sb (aSt r) (aM r) + 1)), show sb (aSt r) (aM r) + 1 + (64 - (sb (aSt r) (aM r) + 1)) = 64 by omega]
  rw [e64]
  refine loopUp (fun n y s => m_X1_fewestGuards_L19 (cI r I) (nI (aM r)) (nI R) F (nI (sb (aSt r) (aM r))) (nI (hb r R 63 (aM r))) (fun x5 => some x5) n y s) _ (fun j => nI (gf r R (sb (aSt r) (aM r)) j)) (sb (aSt r) (aM r) + 1) (fun n => ?_) (fun n s hs => ?_) (sb (aSt r) (aM r) + 1) F 0 (by omega) (by omega)
  · show m_X1_fewestGuards_L19s _ _ _ _ _ _ _ _ _ _ = _
    unfold m_X1_fewestGuards_L19s
    rw [if_pos ((nI_ltI (by omega) (by omega)).mpr (by omega))]
  · show m_X1_fewestGuards_L19s _ _ _ _ _ _ _ _ _ _ = _
    unfold m_X1_fewestGuards_L19s
    have hg := gf_lt (r := r) (R := R) hwl s (by omega)
    have c1 := ct6_le s
    have c2 := ct6_le (gf r R (sb (aSt r) (aM r)) s)
    have hh1 := hb_lt (r := r) (R := R) (x := s) (aM r)
    have hh2 := hb_lt (r := r) (R := R) (x := 63) (aM r)
    rw [if_neg (fun q => by have := (nI_ltI (by omega) (by omega)).mp q; omega), bc6 (by omega), bc6 hg, held_C hM (by omega) hR (by omega)]
    simp only [jn, Option.bind_some, bnd, nI_1]
    have hsub := sub_all s (by omega) _ hwl
    rw [show gf r R (sb (aSt r) (aM r)) (s + 1) = if gok r R (sb (aSt r) (aM r)) s (gf r R (sb (aSt r) (aM r)) s) then s else gf r R (sb (aSt r) (aM r)) s from rfl]
    unfold gok
    by_cases q1 : s &&& sb (aSt r) (aM r) = s
    · rw [decide_eq_true q1] at hsub ⊢
      rw [if_pos (of_decide_eq_true hsub), Bool.true_and]
      by_cases q2 : ct6 s < ct6 (gf r R (sb (aSt r) (aM r)) s)
      · rw [if_neg (nInle (by omega) (by omega) q2), if_neg (show ¬ (1 : Int32) = 0 by decide), if_neg (show ¬ (1 : Int32) = 0 by decide), decide_eq_true q2, Bool.true_and]
        by_cases q3 : hb r R s (aM r) = hb r R 63 (aM r)
        · rw [if_pos (by rw [q3]), decide_eq_true q3]; rfl
        · rw [if_neg (fun z => q3 ((nI_eq (by omega) (by omega)).mp z)), decide_eq_false q3]; rfl
      · rw [if_pos (nIle (by omega) (by omega) (by omega)), if_neg (show ¬ (1 : Int32) = 0 by decide), if_pos trivial, decide_eq_false q2]; rfl
    · rw [decide_eq_false q1] at hsub ⊢
      rw [if_neg (of_decide_eq_false hsub)]
      by_cases q2 : ct6 s < ct6 (gf r R (sb (aSt r) (aM r)) s)
      · rw [if_neg (nInle (by omega) (by omega) q2), if_pos trivial]; rfl
      · rw [if_pos (nIle (by omega) (by omega) (by omega)), if_pos trivial]; rfl
theorem guard_M {r : AR} {N : Nat → Int32} {F R : Nat} (hw : WF r) (hF : 100000 ≤ F) (hR : R < 6) (k : Int32 → Option Int32) : m_X9_guard_L35 (cN r N) (nI R) F (nI (sb (aSt r) (aM r))) k F 0 (nI (sb (aSt r) (aM r))) = k (nI (gf r R (sb (aSt r) (aM r)) 64)) := by
  have hM := hw.1
  have hwl := sb64 (aSt r) hM
  refine loopUp (fun n y s => m_X9_guard_L35 (cN r N) (nI R) F (nI (sb (aSt r) (aM r))) k n y s) _ (fun j => nI (gf r R (sb (aSt r) (aM r)) j)) 64 (fun n => ?_) (fun n s hs => ?_) 64 F 0 (by omega) (by omega)
  · show m_X9_guard_L35s _ _ _ _ _ _ _ _ = _
    unfold m_X9_guard_L35s
    rw [if_pos (by decide)]
  · show m_X9_guard_L35s _ _ _ _ _ _ _ _ = _
    unfold m_X9_guard_L35s
    have hg := gf_lt (r := r) (R := R) hwl s (by omega)
    have c1 := ct6_le s
    have c2 := ct6_le (gf r R (sb (aSt r) (aM r)) s)
    have hh1 := hb_lt (r := r) (R := R) (x := s) (aM r)
    have hh2 := hb_lt (r := r) (R := R) (x := 63) (aM r)
    rw [if_neg (show ¬ (64 : Int32) ≤ nI s from nInle (a := 64) (by decide) (by omega) hs), many6 (by omega) hs, many6 (by omega) hg, held_M hM (by omega) hR hs, show (63 : Int32) = nI 63 from rfl, held_M hM (by omega) hR (by decide)]
    simp only [jn, Option.bind_some, bnd, nI_1]
    have hsub := sub_all s (by omega) _ hwl
    rw [show gf r R (sb (aSt r) (aM r)) (s + 1) = if gok r R (sb (aSt r) (aM r)) s (gf r R (sb (aSt r) (aM r)) s) then s else gf r R (sb (aSt r) (aM r)) s from rfl]
    unfold gok
    by_cases q1 : s &&& sb (aSt r) (aM r) = s
    · rw [decide_eq_true q1] at hsub ⊢
      rw [if_pos (of_decide_eq_true hsub), Bool.true_and]
      by_cases q2 : ct6 s < ct6 (gf r R (sb (aSt r) (aM r)) s)
      · rw [if_neg (show ¬ nI (ct6 (gf r R (sb (aSt r) (aM r)) s)) ≤ nI (ct6 s) from nInle (by omega) (by omega) q2), decide_eq_true q2, Bool.true_and]
        by_cases q3 : hb r R s (aM r) = hb r R 63 (aM r)
        · rw [if_pos (by rw [q3]), decide_eq_true q3]; rfl
        · rw [if_neg (fun z => q3 ((nI_eq (by omega) (by omega)).mp z)), decide_eq_false q3]; rfl
      · rw [if_pos (show nI (ct6 (gf r R (sb (aSt r) (aM r)) s)) ≤ nI (ct6 s) from nIle (by omega) (by omega) (by omega)), decide_eq_false q2]; rfl
    · rw [decide_eq_false q1] at hsub ⊢
      rw [if_neg (of_decide_eq_false hsub)]
      rfl
theorem S_guard {r : AR} {I N : Nat → Int32} {F : Nat} (hw : WF r) (hF : 100000 ≤ F) (a b : Int32) : ∃ v, m_X8_guard F (cI r I) (nI (aM r)) a b = some v ∧ m_X9_guard F (cN r N) a b = some v := by
  have hM := hw.1
  have hwl := sb64 (aSt r) hM
  unfold m_X8_guard m_X9_guard
  simp only [within_C, in05, in01, Option.bind_some, ib0]
  cases h2 : wi a 0 5
  · exact ⟨_, rfl, rfl⟩
  cases h3 : wi b 0 1
  · exact ⟨_, rfl, rfl⟩
  simp only [if_true]
  obtain ⟨R, rfl, -, hR⟩ := wi_nI (a := 0) (b := 5) (by decide) (by decide) h2
  rw [guard_C hw hF (by omega), standing_M hM (by omega)]
  simp only [Option.bind_some]
  rw [guard_M hw hF (by omega)]
  have hg := gf_lt (r := r) (R := R) hwl 64 (Nat.le_refl _)
  by_cases h0 : b = 0
  · rw [if_pos h0, if_pos h0, bc6 hg, many6 (by omega) hg]; exact ⟨_, rfl, rfl⟩
  · rw [if_neg h0, if_neg h0]; exact ⟨_, rfl, rfl⟩
