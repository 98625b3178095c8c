/-! ===== PURE H: post, safe, change, calm, guard ===== -/
theorem loopTo {α σ : Type} (L : Nat → Int32 → σ → Option α) (K : σ → Option α) (Iv : Nat → σ → Prop) (e : Nat)
    (hend : ∀ n s, Iv e s → L (n + 1) (nI e) s = K s)
    (hstep : ∀ n j s, j < e → Iv j s → ∃ s', Iv (j + 1) s' ∧ L (n + 1) (nI j) s = L n (nI (j + 1)) s') :
    ∀ d n j s, j + d = e → d < n → Iv j s → ∃ s', Iv e s' ∧ L n (nI j) s = K s'
  | 0, n, j, s, hj, hn, hi => by
    obtain ⟨n', rfl⟩ : ∃ n', n = n' + 1 := ⟨n - 1, by omega⟩
    have : j = e := by omega
    subst this; exact ⟨s, hi, hend n' s hi⟩
  | d + 1, n, j, s, hj, hn, hi => by
    obtain ⟨n', rfl⟩ : ∃ n', n = n' + 1 := ⟨n - 1, by omega⟩
    obtain ⟨s', h1, h2⟩ := hstep n' j s (by omega) hi
    rw [h2]
    exact loopTo L K Iv e hend hstep d n' (j + 1) s' (by omega) (by omega) h1
/-- a man at another inch -/
def sI (r : AR) (m x : Nat) : AR := (aM r, aK r, aP r, fun k => if k = m then x else aI r k, aS r, aT r, aH r, aN r)
theorem sI_WF {r : AR} {m x : Nat} (hw : WF r) (hx : x ≤ 12) (h : ∀ k, k < aM r → k ≠ m → x < 12 → aI r k ≠ x) : WF (sI r m x) := by
  refine ⟨hw.1, fun k hk => ⟨(hw.2.1 k hk).1, (hw.2.1 k hk).2.1, ?_⟩, fun a b ha hb hab h12 => ?_, hw.2.2.2.1, hw.2.2.2.2.1, hw.2.2.2.2.2.1, hw.2.2.2.2.2.2⟩
  · show (if k = m then x else aI r k) ≤ 12
    split
    · exact hx
    · exact (hw.2.1 k hk).2.2
  · have h12' : (if a = m then x else aI r a) < 12 := h12
    show (if a = m then x else aI r a) ≠ (if b = m then x else aI r b)
    by_cases e : a = m
    · rw [if_pos e] at h12' ⊢
      rw [if_neg (fun q => hab (e.trans q.symm))]
      exact fun q => h b hb (fun q => hab (e.trans q.symm)) h12' q.symm
    · rw [if_neg e] at h12' ⊢
      by_cases e2 : b = m
      · rw [if_pos e2]
        intro q
        exact h a ha e (q ▸ h12') q
      · rw [if_neg e2]; exact hw.2.2.1 a b ha hb hab h12'
theorem cI_up {r : AR} {I : Nat → Int32} {m x : Nat} (hm : m < aM r) : upd (cI r I) m (eC x) = cI (sI r m x) I := by
  funext k
  by_cases e : k = m
  · subst e
    rw [upd_eq, cI_at (r := sI r k x) hm]
    show eC x = eC (if k = k then x else aI r k)
    rw [if_pos rfl]
  · rw [upd_ne e]
    show (if k < aM r then eC (aI r k) else I k) = (if k < aM r then eC (if k = m then x else aI r k) else I k)
    rw [if_neg e]
theorem tryPost_C {r : AR} {d : Int32} {P I K : Nat → Int32} {F m x n : Nat} (hw : WF (sI r m x)) (hn : aN r + n < 100000) (hF : 100000 ≤ F) (hm : m < aM r) (hx : x < 12) (t1 t2 : Nat → Int32) (t3 t4 : Int32) (t5 : Nat → Int32) (t6 t7 t8 t9 : Int32) :
    ∃ P2 I2 K2, m_X1_tryPost F t1 t2 t3 t4 t5 t6 t7 t8 t9 (cP r P) (cI r I) (nI (aN r)) d (cK r K) (nI (aM r)) (nI (aS r)) (nI (aT r)) (nI (aH r)) (nI m) (nI x) (nI n) = some (cR (ntn (sI r m x) n) d P2 I2 K2) := by
  have hM : aM r ≤ 6 := hw.1
  obtain ⟨P2, I2, K2, e1⟩ := takeAll_C (d := d) (P := P) (I := I) (K := K) hM t1 t2 t3 t4 t5 t6 t7 t8 t9
  refine ⟨P2, I2, K2, ?_⟩
  unfold m_X1_tryPost
  rw [e1]
  simp only [Option.bind_some, cR]
  rw [chk_nI _ (by omega) (by decide), cl (by omega), show nI x = eC x from (eC_t hx).symm, cI_up hm]
  have h := passSome_C (P := P2) (I := I2) (K := K2) (n := n) hw hn hF
  change m_X3_passSome F (cP r P2) (cI (sI r m x) I2) (nI (aN r)) (cK r K2) (nI (aM r)) (nI (aS r)) (nI (aT r)) (nI (aH r)) (nI n) = _ at h
  rw [h]
  simp only [Option.bind_some]
  rw [cK_ntn, ntn_M, ntn_S, ntn_T, ntn_H, ntn_N]
  rfl
theorem wa_cases (r : AR) (x : Nat) : ∀ n, (wa r x n = -4 ∧ ∀ m, m < n → aI r m ≠ x) ∨ ∃ j, j < n ∧ wa r x n = nI j ∧ aI r j = x
  | 0 => Or.inl ⟨rfl, fun m h => absurd h (Nat.not_lt_zero m)⟩
  | n + 1 => by
    unfold wa
    by_cases e : aI r n = x
    · rw [if_pos e]; exact Or.inr ⟨n, by omega, rfl, e⟩
    · rw [if_neg e]
      rcases wa_cases r x n with ⟨h1, h2⟩ | ⟨j, h1, h2, h3⟩
      · refine Or.inl ⟨h1, fun m hm => ?_⟩
        by_cases q : m = n
        · subst q; exact e
        · exact h2 m (by omega)
      · exact Or.inr ⟨j, by omega, h2, h3⟩
theorem nI6 : ∀ x, x < 6 → ¬ nI x = -4 := by decide +kernel
def mb (r : AR) (m x : Nat) : Bool := decide (wa r x (aM r) = -4) || decide (wa r x (aM r) = nI m)
theorem mb_free {r : AR} {m x : Nat} (hw : WF r) (hx : x < 12) (hm : m < aM r) (h : mb r m x = true) : ∀ k, k < aM r → k ≠ m → aI r k ≠ x := by
  have hM := hw.1
  intro k hk hkm
  unfold mb at h
  rcases wa_cases r x (aM r) with ⟨h1, h2⟩ | ⟨j, h1, h2, h3⟩
  · exact h2 k hk
  · rw [h2, decide_eq_false (nI6 j (by omega)), Bool.false_or] at h
    have := (nI_eq (by omega) (by omega)).mp (of_decide_eq_true h)
    subst this
    have := hw.2.2.1 j k h1 hk (Ne.symm hkm) (by omega)
    rw [h3] at this; exact Ne.symm this
theorem mayBe_C {r : AR} {I : Nat → Int32} {F m x : Nat} (hw : WF r) (hF : 64 ≤ F) (hx : x < 12) : m_X1_mayBeAt F (cI r I) (nI (aM r)) (nI m) (nI x) = some (bI (mb r m x)) := by
  unfold m_X1_mayBeAt
  rw [who_C hw hF hx]
  simp only [Option.bind_some, mb]
  by_cases h : wa r x (aM r) = -4
  · rw [if_pos h, decide_eq_true h]; rfl
  · rw [if_neg h, decide_eq_false h, Bool.false_or]
    by_cases h2 : wa r x (aM r) = nI m
    · rw [if_pos h2, decide_eq_true h2]; rfl
    · rw [if_neg h2, decide_eq_false h2]; rfl
theorem mayBe_M {r : AR} {N : Nat → Int32} {F m x : Nat} (hw : WF r) (hF : 64 ≤ F) (hx : x < 12) (hm : m < aM r) : m_X9_mayBe F (cN r N) (nI m) (nI x) = some (bI (mb r m x)) := by
  have hM := hw.1
  unfold m_X9_mayBe
  rw [inchOf_M (by omega), cN_i hm, who_M hM hF hx]
  simp only [Option.bind_some, eM_eq hx]
  by_cases h : aI r m = x
  · rw [if_pos h]
    unfold mb
    rw [wa_one hw hx hm h _ hm (Nat.le_refl _), decide_eq_true (p := nI m = nI m) rfl, Bool.or_true]; rfl
  · rw [if_neg h]
    unfold mb
    have : ¬ wa r x (aM r) = nI m := by
      intro q
      rcases wa_cases r x (aM r) with ⟨h1, h2⟩ | ⟨j, h1, h2, h3⟩
      · rw [h1] at q; exact nI6 m (by omega) q.symm
      · rw [h2] at q
        have := (nI_eq (by omega) (by omega)).mp q
        subst this; exact h h3
    rw [decide_eq_false this, Bool.or_false]
    by_cases h2 : wa r x (aM r) = -4
    · rw [if_pos h2, decide_eq_true h2]; rfl
    · rw [if_neg h2, decide_eq_false h2]; rfl
/-- the best so far: a label and its count -/
def bs (q : Option (Nat × Nat)) (l c : Nat) : Option (Nat × Nat) := match q with
  | none => some (l, c)
  | some z => if z.2 < c then some (l, c) else some z
def ech : Option (Nat × Nat) → Int32
  | none => -4
  | some z => nI z.1
def emc : Option (Nat × Nat) → Int32
  | none => -4
  | some z => nI z.2
def emm : Option (Nat × Nat) → Int32
  | none => -1
  | some z => nI z.2
def bsb (q : Option (Nat × Nat)) : Prop := ∀ z, q = some z → z.2 ≤ 6
theorem bs_b {q : Option (Nat × Nat)} {l c : Nat} (h : bsb q) (hc : c ≤ 6) : bsb (bs q l c) := by
  intro z hz
  cases q with
  | none => simp only [bs, Option.some.injEq] at hz; rw [← hz]; exact hc
  | some y =>
    simp only [bs] at hz
    split at hz
    · rw [Option.some.injEq] at hz; rw [← hz]; exact hc
    · exact h z hz
theorem neg4 : ∀ c, c ≤ 6 → ¬ nI c ≤ -4 ∧ ¬ nI c ≤ -1 := by decide +kernel
theorem le6 : ∀ c, c ≤ 6 → ∀ z, z ≤ 6 → decide (nI c ≤ nI z) = !decide (z < c) := by decide +kernel
theorem offer_C {q : Option (Nat × Nat)} {l c : Nat} (h : bsb q) (hc : c ≤ 6) : m_X1_offer (ech q) (emc q) (nI l) (nI c) = some (ech (bs q l c), emc (bs q l c)) := by
  unfold m_X1_offer
  cases q with
  | none => rw [if_neg (show ¬ nI c ≤ emc none from (neg4 c hc).1)]; rfl
  | some z =>
    have := le6 c hc z.2 (h z rfl)
    rw [show bs (some z) l c = if z.2 < c then some (l, c) else some z from rfl]
    by_cases e : z.2 < c
    · rw [decide_eq_true e] at this
      rw [if_pos e, if_neg (show ¬ nI c ≤ emc (some z) from of_decide_eq_false this)]; rfl
    · rw [decide_eq_false e] at this
      rw [if_neg e, if_pos (show nI c ≤ emc (some z) from of_decide_eq_true this)]
theorem offer_M {α : Type} {q : Option (Nat × Nat)} {l c : Nat} (h : bsb q) (hc : c ≤ 6) (k : Int32 → Int32 → α) :
    (if nI c ≤ emm q then (if nI c ≤ emm q then k (emm q) (ech q) else k (nI c) (ech q)) else (if nI c ≤ emm q then k (emm q) (nI l) else k (nI c) (nI l))) = k (emm (bs q l c)) (ech (bs q l c)) := by
  cases q with
  | none => rw [if_neg (show ¬ nI c ≤ emm none from (neg4 c hc).2), if_neg (show ¬ nI c ≤ emm none from (neg4 c hc).2)]; rfl
  | some z =>
    have := le6 c hc z.2 (h z rfl)
    rw [show bs (some z) l c = if z.2 < c then some (l, c) else some z from rfl]
    by_cases e : z.2 < c
    · rw [decide_eq_true e] at this
      rw [if_pos e, if_neg (show ¬ nI c ≤ emm (some z) from of_decide_eq_false this), if_neg (show ¬ nI c ≤ emm (some z) from of_decide_eq_false this)]; rfl
    · rw [decide_eq_false e] at this
      rw [if_neg e, if_pos (show nI c ≤ emm (some z) from of_decide_eq_true this), if_pos (show nI c ≤ emm (some z) from of_decide_eq_true this)]
def pf (r : AR) (m n : Nat) : Nat → Option (Nat × Nat)
  | 0 => none
  | j + 1 => if mb r m j then bs (pf r m n j) j (nSt (ntn (sI r m j) n)) else pf r m n j
theorem nSt6 {r : AR} (hM : aM r ≤ 6) (n : Nat) : nSt (ntn r n) ≤ 6 := by
  have := nSt_le (ntn r n); rw [ntn_M] at this; omega
theorem pf_b {r : AR} (hM : aM r ≤ 6) (m n : Nat) : ∀ j, bsb (pf r m n j)
  | 0 => fun z hz => absurd hz (by simp [pf])
  | j + 1 => by
    unfold pf
    split
    · exact bs_b (pf_b hM m n j) (nSt6 (r := sI r m j) hM n)
    · exact pf_b hM m n j
theorem bs_some (q : Option (Nat × Nat)) (l c : Nat) : ∃ z, bs q l c = some z := by
  cases q with
  | none => exact ⟨_, rfl⟩
  | some z => simp only [bs]; split <;> exact ⟨_, rfl⟩
theorem pf_some {r : AR} {m n x : Nat} (h : mb r m x = true) : ∀ j, x < j → ∃ z, pf r m n j = some z
  | 0, hj => absurd hj (Nat.not_lt_zero x)
  | j + 1, hj => by
    unfold pf
    by_cases e : x = j
    · subst e; rw [if_pos h]; exact bs_some _ _ _
    · split
      · exact bs_some _ _ _
      · exact pf_some h j (by omega)
theorem some_free {r : AR} (hw : WF r) {m : Nat} (hm : m < aM r) : ∃ x, x < 12 ∧ mb r m x = true := by
  by_cases hc : ∃ x, x < 12 ∧ mb r m x = true
  · exact hc
  · exfalso
    have hM := hw.1
    have hall : ∀ x, x < 12 → ∃ j, j < aM r ∧ aI r j = x := by
      intro x hx
      rcases wa_cases r x (aM r) with ⟨h1, h2⟩ | ⟨j, h1, h2, h3⟩
      · exact absurd ⟨x, hx, by unfold mb; rw [h1]; rfl⟩ hc
      · exact ⟨j, h1, h3⟩
    have hall2 : ∀ x, ∃ j, x < 12 → j < aM r ∧ aI r j = x := fun x => by
      by_cases hx : x < 12
      · obtain ⟨j, hj⟩ := hall x hx; exact ⟨j, fun _ => hj⟩
      · exact ⟨0, fun q => absurd q hx⟩
    let f : Nat → Nat := fun x => Classical.choose (hall2 x)
    have hf : ∀ x, x < 12 → f x < aM r ∧ aI r (f x) = x := fun x hx => Classical.choose_spec (hall2 x) hx
    have := fb_holes (aM r) 12 f (fun i hi => (hf i hi).1) (fun i j hij hj q => by
      have h1 := (hf i (by omega)).2
      have h2 := (hf j hj).2
      rw [q] at h1; omega)
    omega
abbrev RT11 : Type := (Nat → Int32) × (Nat → Int32) × Int32 × Int32 × (Nat → Int32) × Int32 × Int32 × Int32 × Int32 × Int32 × Int32
theorem post_C {r : AR} {d : Int32} {P I K : Nat → Int32} {F m n : Nat} (hw : WF r) (hN : aN r ≤ 9999) (hn : n ≤ 60) (hF : 100000 ≤ F) (hm : m < aM r) (t1 t2 : Nat → Int32) (t3 t4 : Int32) (t5 : Nat → Int32) (t6 t7 t8 t9 c1 c2 : Int32) :
    ∃ s : RT11, (s.2.2.2.2.2.2.2.2.2.1 = ech (pf r m n 12) ∧ s.2.2.2.2.2.2.2.2.2.2 = emc (pf r m n 12)) ∧ m_X1_choosePost F t1 t2 t3 t4 t5 t6 t7 t8 t9 c1 c2 (cP r P) (cI r I) (nI (aN r)) d (cK r K) (nI (aM r)) (nI (aS r)) (nI (aT r)) (nI (aH r)) (nI m) (nI n) = some s := by
  have hM := hw.1
  unfold m_X1_choosePost m_X1_beginChoice
  simp only [Option.bind_some]
  refine loopTo (fun k x (s : RT11) => m_X1_choosePost_L7 (cP r P) (cI r I) (nI (aN r)) d (cK r K) (nI (aM r)) (nI (aS r)) (nI (aT r)) (nI (aH r)) (nI m) (nI n) F (fun w14 w15 w16 w17 w18 w19 w20 w21 w22 w23 w24 => some (w14, w15, w16, w17, w18, w19, w20, w21, w22, w23, w24)) k x s.1 s.2.1 s.2.2.1 s.2.2.2.1 s.2.2.2.2.1 s.2.2.2.2.2.1 s.2.2.2.2.2.2.1 s.2.2.2.2.2.2.2.1 s.2.2.2.2.2.2.2.2.1 s.2.2.2.2.2.2.2.2.2.1 s.2.2.2.2.2.2.2.2.2.2)
    (fun s => some s) (fun j s => s.2.2.2.2.2.2.2.2.2.1 = ech (pf r m n j) ∧ s.2.2.2.2.2.2.2.2.2.2 = emc (pf r m n j)) 12 (fun k s hi => ?_) (fun k x s hx hi => ?_) 12 F 0 (t1, t2, t3, t4, t5, t6, t7, t8, t9, -4, -4) (by omega) (by omega) ⟨rfl, rfl⟩
  · show m_X1_choosePost_L7s _ _ _ _ _ _ _ _ _ _ _ _ _ _ _ _ _ _ _ _ _ _ _ _ _ _ = _
    unfold m_X1_choosePost_L7s
    rw [if_pos (by decide)]
  · obtain ⟨a1, a2, a3, a4, a5, a6, a7, a8, a9, ac, am⟩ := s
    obtain ⟨h1, h2⟩ := hi
    have h1 : ac = ech (pf r m n x) := h1
    have h2 : am = emc (pf r m n x) := h2
    subst h1 h2
    cases hc : mb r m x
    · refine ⟨(a1, a2, a3, a4, a5, a6, a7, a8, a9, ech (pf r m n x), emc (pf r m n x)), ?_, ?_⟩
      · have e : pf r m n (x + 1) = pf r m n x := by rw [pf, hc]; rfl
        rw [e]; exact ⟨rfl, rfl⟩
      · show m_X1_choosePost_L7s _ _ _ _ _ _ _ _ _ _ _ _ _ _ _ _ _ _ _ _ _ _ _ _ _ _ = _
        unfold m_X1_choosePost_L7s
        rw [if_neg (show ¬ (12 : Int32) ≤ nI x from nInle (a := 12) (by decide) (by omega) hx), mayBe_C hw (by omega) hx, hc]
        simp only [Option.bind_some, ib0, bnd, nI_1, Bool.false_eq_true, if_false]
    · have hw2 := sI_WF (m := m) (x := x) hw (by omega) (fun k hk hkm _ => mb_free hw hx hm hc k hk hkm)
      obtain ⟨P2, I2, K2, e1⟩ := tryPost_C (d := d) (P := P) (I := I) (K := K) (n := n) hw2 (by omega) hF hm hx a1 a2 a3 a4 a5 a6 a7 a8 a9
      refine ⟨(cP (ntn (sI r m x) n) P2, cI (ntn (sI r m x) n) I2, nI (aN (ntn (sI r m x) n)), d, cK (ntn (sI r m x) n) K2, nI (aM (ntn (sI r m x) n)), nI (aS (ntn (sI r m x) n)), nI (aT (ntn (sI r m x) n)), nI (aH (ntn (sI r m x) n)), ech (pf r m n (x + 1)), emc (pf r m n (x + 1))), ⟨rfl, rfl⟩, ?_⟩
      show m_X1_choosePost_L7s _ _ _ _ _ _ _ _ _ _ _ _ _ _ _ _ _ _ _ _ _ _ _ _ _ _ = _
      unfold m_X1_choosePost_L7s
      rw [if_neg (show ¬ (12 : Int32) ≤ nI x from nInle (a := 12) (by decide) (by omega) hx), mayBe_C hw (by omega) hx, hc]
      simp only [Option.bind_some, ib0, if_true]
      rw [e1]
      simp only [Option.bind_some, cR]
      rw [howMany_C (ntn_WF hw2 n (by show aN r + n < 100000; omega)) (by omega)]
      simp only [Option.bind_some]
      rw [offer_C (pf_b hM m n x) (nSt6 (r := sI r m x) hM n)]
      simp only [Option.bind_some, bnd, nI_1]
      rw [show pf r m n (x + 1) = bs (pf r m n x) x (nSt (ntn (sI r m x) n)) from by rw [pf, hc]; rfl]
theorem post_M {r : AR} {N A : Nat → Int32} {F m n : Nat} (hw : WF r) (hN : aN r ≤ 9999) (hn : n ≤ 60) (hF : 100000 ≤ F) (hm : m < aM r) (hA : ∀ j, j < 24 → A j = cN r N j) (k : Int32 → Int32 → (Nat → Int32) → Option (Int32 × (Nat → Int32) × (Nat → Int32))) :
    m_X9_post_L46 (nI m) (nI n) F A k F 0 (-1) (-4) (cN r N) = k (emm (pf r m n 12)) (ech (pf r m n 12)) (cN r N) := by
  have hM := hw.1
  refine loopUp (fun a x (s : Int32 × Int32 × (Nat → Int32)) => m_X9_post_L46 (nI m) (nI n) F A k a x s.1 s.2.1 s.2.2) _ (fun j => (emm (pf r m n j), ech (pf r m n j), cN r N)) 12 (fun a => ?_) (fun a x hx => ?_) 12 F 0 (by omega) (by omega)
  · show m_X9_post_L46s _ _ _ _ _ _ _ _ _ _ = _
    unfold m_X9_post_L46s
    rw [if_pos (by decide)]
  · show m_X9_post_L46s _ _ _ _ _ _ _ _ _ _ = _
    unfold m_X9_post_L46s
    rw [if_neg (show ¬ (12 : Int32) ≤ nI x from nInle (a := 12) (by decide) (by omega) hx), mayBe_M hw (by omega) hx hm]
    simp only [Option.bind_some, ib0]
    cases hc : mb r m x
    · simp only [bnd, nI_1, Bool.false_eq_true, if_false]
      rw [show pf r m n (x + 1) = pf r m n x from by rw [pf, hc]; rfl]
    · have hw2 := sI_WF (m := m) (x := x) hw (by omega) (fun k hk hkm _ => mb_free hw hx hm hc k hk hkm)
      have hM2 : aM (ntn (sI r m x) n) ≤ 6 := by rw [ntn_M]; exact hM
      rw [if_pos rfl, goesTo_M hM hm (eM_t hx).symm]
      simp only [Option.bind_some]
      change (m_X9_goesOn F (cN (sI r m x) N) (nI n)).bind _ = _
      rw [goesOn_M hw2 (by show aN r + n < 100000; omega) hF]
      simp only [Option.bind_some]
      rw [standing_M hM2 (by omega)]
      simp only [Option.bind_some]
      rw [manySt_M hM2 (by omega)]
      simp only [Option.bind_some]
      rw [backs_M (r := r) (by omega) hM hM2 hA]
      simp only [Option.bind_some, jn, bnd, nI_1]
      rw [show pf r m n (x + 1) = bs (pf r m n x) x (nSt (ntn (sI r m x) n)) from by rw [pf, hc]; rfl]
      exact offer_M (pf_b hM m n x) (nSt6 (r := sI r m x) hM n) (fun u v => m_X9_post_L46 (nI m) (nI n) F A k a (nI (x + 1)) u v (cN r N))
theorem S_post {r : AR} {d : Int32} {P I K N A : Nat → Int32} {F : Nat} (hw : WF r) (hN : aN r ≤ 9999) (hF : 100000 ≤ F) (a b c : Int32) (t1 t2 : Nat → Int32) (t3 t4 : Int32) (t5 : Nat → Int32) (t6 t7 t8 t9 c1 c2 : Int32) :
    ∃ v, ∃ T : RT11, ∃ A2, m_X8_post F (cP r P) (cI r I) (nI (aN r)) d (cK r K) (nI (aM r)) (nI (aS r)) (nI (aT r)) (nI (aH r)) t1 t2 t3 t4 t5 t6 t7 t8 t9 c1 c2 a b c = some (v, T) ∧ m_X9_post F (cN r N) A a b c = some (v, cN r N, A2) := by
  have hM := hw.1
  unfold m_X8_post m_X9_post
  simp only [isMan_C, isMan_M, cN_0, within_C, in140, in01, Option.bind_some, ib0]
  cases h1 : wi a 0 (nI (aM r) - 1)
  · exact ⟨_, _, _, rfl, rfl⟩
  cases h2 : wi b 1 40
  · exact ⟨_, _, _, rfl, rfl⟩
  cases h3 : wi c 0 1
  · exact ⟨_, _, _, rfl, rfl⟩
  simp only [if_true]
  obtain ⟨m, hm, rfl⟩ := man_of hM h1
  obtain ⟨n, rfl, -, hn⟩ := wi_nI (a := 1) (b := 40) (by decide) (by decide) h2
  obtain ⟨s, ⟨e1, e2⟩, e3⟩ := post_C (d := d) (P := P) (I := I) (K := K) (F := F) (n := n) hw hN (by omega) hF hm t1 t2 t3 t4 t5 t6 t7 t8 t9 c1 c2
  rw [e3, asides_M (by omega)]
  simp only [Option.bind_some]
  rw [post_M hw hN (by omega) hF hm (aside_ok _ _), e1, e2]
  obtain ⟨x, hx, hmb⟩ := some_free hw hm
  obtain ⟨z, hz⟩ := pf_some (n := n) hmb 12 hx
  rw [hz]
  by_cases h0 : c = 0
  · rw [if_pos h0, if_pos h0]; exact ⟨_, _, _, rfl, rfl⟩
  · rw [if_neg h0, if_neg h0]; exact ⟨_, _, _, rfl, rfl⟩
def sf (r : AR) (m n x : Nat) : Bool := mb r m x && aSt (ntn (sI r m x) n) m
abbrev RT10 : Type := Int32 × RT
theorem safe_C {r : AR} {d : Int32} {P I K : Nat → Int32} {F m n : Nat} (hw : WF r) (hN : aN r ≤ 9999) (hn : n ≤ 60) (hF : 100000 ≤ F) (hm : m < aM r) (t1 t2 : Nat → Int32) (t3 t4 : Int32) (t5 : Nat → Int32) (t6 t7 t8 t9 : Int32) :
    ∃ s : RT10, s.1 = nI (sb (sf r m n) 12) ∧ m_X1_safeInches F t1 t2 t3 t4 t5 t6 t7 t8 t9 (cP r P) (cI r I) (nI (aN r)) d (cK r K) (nI (aM r)) (nI (aS r)) (nI (aT r)) (nI (aH r)) (nI m) (nI n) = some s := by
  have hM := hw.1
  unfold m_X1_safeInches
  refine loopTo (fun k x (s : RT10) => m_X1_safeInches_L6 (cP r P) (cI r I) (nI (aN r)) d (cK r K) (nI (aM r)) (nI (aS r)) (nI (aT r)) (nI (aH r)) (nI m) (nI n) F (fun w14 w15 w16 w17 w18 w19 w20 w21 w22 w23 => some (w14, w15, w16, w17, w18, w19, w20, w21, w22, w23)) k x s.1 s.2.1 s.2.2.1 s.2.2.2.1 s.2.2.2.2.1 s.2.2.2.2.2.1 s.2.2.2.2.2.2.1 s.2.2.2.2.2.2.2.1 s.2.2.2.2.2.2.2.2.1 s.2.2.2.2.2.2.2.2.2)
    (fun s => some s) (fun j s => s.1 = nI (sb (sf r m n) j)) 12 (fun k s hi => ?_) (fun k x s hx hi => ?_) 12 F 0 (0, t1, t2, t3, t4, t5, t6, t7, t8, t9) (by omega) (by omega) rfl
  · show m_X1_safeInches_L6s _ _ _ _ _ _ _ _ _ _ _ _ _ _ _ _ _ _ _ _ _ _ _ _ _ = _
    unfold m_X1_safeInches_L6s
    rw [if_pos (by decide)]
  · obtain ⟨am, a1, a2, a3, a4, a5, a6, a7, a8, a9⟩ := s
    have h1 : am = nI (sb (sf r m n) x) := hi
    subst h1
    cases hc : mb r m x
    · refine ⟨(nI (sb (sf r m n) x), a1, a2, a3, a4, a5, a6, a7, a8, a9), ?_, ?_⟩
      · simp only [sb, sf, hc]; rfl
      · show m_X1_safeInches_L6s _ _ _ _ _ _ _ _ _ _ _ _ _ _ _ _ _ _ _ _ _ _ _ _ _ = _
        unfold m_X1_safeInches_L6s
        rw [if_neg (show ¬ (12 : Int32) ≤ nI x from nInle (a := 12) (by decide) (by omega) hx), mayBe_C hw (by omega) hx, hc]
        simp only [Option.bind_some, ib0, bnd, nI_1, Bool.false_eq_true, if_false]
    · have hw2 := sI_WF (m := m) (x := x) hw (by omega) (fun k hk hkm _ => mb_free hw hx hm hc k hk hkm)
      obtain ⟨P2, I2, K2, e1⟩ := tryPost_C (d := d) (P := P) (I := I) (K := K) (n := n) hw2 (by omega) hF hm hx a1 a2 a3 a4 a5 a6 a7 a8 a9
      refine ⟨(nI (sb (sf r m n) (x + 1)), cP (ntn (sI r m x) n) P2, cI (ntn (sI r m x) n) I2, nI (aN (ntn (sI r m x) n)), d, cK (ntn (sI r m x) n) K2, nI (aM (ntn (sI r m x) n)), nI (aS (ntn (sI r m x) n)), nI (aT (ntn (sI r m x) n)), nI (aH (ntn (sI r m x) n))), rfl, ?_⟩
      show m_X1_safeInches_L6s _ _ _ _ _ _ _ _ _ _ _ _ _ _ _ _ _ _ _ _ _ _ _ _ _ = _
      unfold m_X1_safeInches_L6s
      have hM2 : aM (ntn (sI r m x) n) ≤ 6 := by rw [ntn_M]; exact hM
      have hm2 : m < aM (ntn (sI r m x) n) := by rw [ntn_M]; exact hm
      rw [if_neg (show ¬ (12 : Int32) ≤ nI x from nInle (a := 12) (by decide) (by omega) hx), mayBe_C hw (by omega) hx, hc]
      simp only [Option.bind_some, ib0, if_true]
      rw [e1]
      simp only [Option.bind_some, cR]
      rw [stands_C hM2 hm2]
      simp only [Option.bind_some, ib0, bnd, nI_1]
      rw [sh1 x (by omega), fa_or]
      cases hs : aSt (ntn (sI r m x) n) m
      · simp only [sb, sf, hc, hs]; rfl
      · simp only [sb, sf, hc, hs]; rfl
theorem safe_M {r : AR} {N A : Nat → Int32} {F m n : Nat} (hw : WF r) (hN : aN r ≤ 9999) (hn : n ≤ 60) (hF : 100000 ≤ F) (hm : m < aM r) (hA : ∀ j, j < 24 → A j = cN r N j) (k : Int32 → (Nat → Int32) → Option (Int32 × (Nat → Int32) × (Nat → Int32))) :
    m_X9_safe_L31 (nI m) (nI n) F A k F 0 0 (cN r N) = k (nI (sb (sf r m n) 12)) (cN r N) := by
  have hM := hw.1
  refine loopUp (fun a x (s : Int32 × (Nat → Int32)) => m_X9_safe_L31 (nI m) (nI n) F A k a x s.1 s.2) _ (fun j => (nI (sb (sf r m n) j), cN r N)) 12 (fun a => ?_) (fun a x hx => ?_) 12 F 0 (by omega) (by omega)
  · show m_X9_safe_L31s _ _ _ _ _ _ _ _ _ = _
    unfold m_X9_safe_L31s
    rw [if_pos (by decide)]
  · show m_X9_safe_L31s _ _ _ _ _ _ _ _ _ = _
    unfold m_X9_safe_L31s
    rw [if_neg (show ¬ (12 : Int32) ≤ nI x from nInle (a := 12) (by decide) (by omega) hx), mayBe_M hw (by omega) hx hm]
    simp only [Option.bind_some, ib0]
    cases hc : mb r m x
    · simp only [bnd, nI_1, Bool.false_eq_true, if_false]
      rw [show sb (sf r m n) (x + 1) = sb (sf r m n) x from by simp only [sb, sf, hc]; rfl]
    · have hw2 := sI_WF (m := m) (x := x) hw (by omega) (fun k hk hkm _ => mb_free hw hx hm hc k hk hkm)
      have hM2 : aM (ntn (sI r m x) n) ≤ 6 := by rw [ntn_M]; exact hM
      have hm2 : m < aM (ntn (sI r m x) n) := by rw [ntn_M]; exact hm
      rw [if_pos rfl, goesTo_M hM hm (eM_t hx).symm]
      simp only [Option.bind_some]
      change (m_X9_goesOn F (cN (sI r m x) N) (nI n)).bind _ = _
      rw [goesOn_M hw2 (by show aN r + n < 100000; omega) hF]
      simp only [Option.bind_some]
      rw [stands_M hM2 hm2]
      simp only [Option.bind_some, ib0, bnd]
      rw [backs_M (r := r) (by omega) hM hM2 hA]
      simp only [Option.bind_some, nI_1]
      rw [sh1 x (by omega), fa_or, show (0 : Int32) = nI 0 from rfl, fa_or, Nat.or_zero]
      cases hs : aSt (ntn (sI r m x) n) m
      · rw [show sb (sf r m n) (x + 1) = sb (sf r m n) x from by simp only [sb, sf, hc, hs]; rfl]; rfl
      · rw [show sb (sf r m n) (x + 1) = sb (sf r m n) x ||| 2 ^ x from by simp only [sb, sf, hc, hs]; rfl]; rfl
theorem S_safe {r : AR} {d : Int32} {P I K N A : Nat → Int32} {F : Nat} (hw : WF r) (hN : aN r ≤ 9999) (hF : 100000 ≤ F) (a b : Int32) (t1 t2 : Nat → Int32) (t3 t4 : Int32) (t5 : Nat → Int32) (t6 t7 t8 t9 : Int32) :
    ∃ v, ∃ T : RT, ∃ A2, m_X8_safe F (cP r P) (cI r I) (nI (aN r)) d (cK r K) (nI (aM r)) (nI (aS r)) (nI (aT r)) (nI (aH r)) t1 t2 t3 t4 t5 t6 t7 t8 t9 a b = some (v, T) ∧ m_X9_safe F (cN r N) A a b = some (v, cN r N, A2) := by
  have hM := hw.1
  unfold m_X8_safe m_X9_safe
  simp only [isMan_C, isMan_M, cN_0, within_C, in140, Option.bind_some, ib0]
  cases h1 : wi a 0 (nI (aM r) - 1)
  · exact ⟨_, _, _, rfl, rfl⟩
  cases h2 : wi b 1 40
  · exact ⟨_, _, _, rfl, rfl⟩
  simp only [if_true]
  obtain ⟨m, hm, rfl⟩ := man_of hM h1
  obtain ⟨n, rfl, -, hn⟩ := wi_nI (a := 1) (b := 40) (by decide) (by decide) h2
  obtain ⟨s, e1, e3⟩ := safe_C (d := d) (P := P) (I := I) (K := K) (F := F) (n := n) hw hN (by omega) hF hm t1 t2 t3 t4 t5 t6 t7 t8 t9
  rw [e3, asides_M (by omega)]
  simp only [Option.bind_some]
  rw [safe_M hw hN (by omega) hF hm (aside_ok _ _), e1]
  exact ⟨_, _, _, rfl, rfl⟩
