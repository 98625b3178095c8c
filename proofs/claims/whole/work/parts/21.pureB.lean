/-! ===== PURE B: abstract rims (men, kind, paint, inch (12: fallen), source, stride, height, night) and the class's rim ===== -/
abbrev AR : Type := Nat × (Nat → Nat) × (Nat → Nat) × (Nat → Nat) × Nat × Nat × Nat × Nat
def aM (r : AR) : Nat := r.1
def aK (r : AR) : Nat → Nat := r.2.1
def aP (r : AR) : Nat → Nat := r.2.2.1
def aI (r : AR) : Nat → Nat := r.2.2.2.1
def aS (r : AR) : Nat := r.2.2.2.2.1
def aT (r : AR) : Nat := r.2.2.2.2.2.1
def aH (r : AR) : Nat := r.2.2.2.2.2.2.1
def aN (r : AR) : Nat := r.2.2.2.2.2.2.2
def aSt (r : AR) (m : Nat) : Bool := decide (aI r m < 12)
def WF (r : AR) : Prop := aM r ≤ 6 ∧ (∀ m, m < aM r → aK r m ≤ 4 ∧ aP r m ≤ 9 ∧ aI r m ≤ 12) ∧ (∀ a b, a < aM r → b < aM r → a ≠ b → aI r a < 12 → aI r a ≠ aI r b) ∧ aS r < 12 ∧ aT r < 12 ∧ aH r ≤ 12 ∧ aN r < 100000
def eC (x : Nat) : Int32 := if x < 12 then nI x else -1
def eM (x : Nat) : Int32 := if x < 12 then nI x else -4
theorem eC_t {x : Nat} (h : x < 12) : eC x = nI x := if_pos h
theorem eC_f {x : Nat} (h : ¬ x < 12) : eC x = -1 := if_neg h
theorem eM_t {x : Nat} (h : x < 12) : eM x = nI x := if_pos h
theorem eM_f {x : Nat} (h : ¬ x < 12) : eM x = -4 := if_neg h
theorem nI_nm1 : ∀ x, x < 12 → ¬ nI x = -1 ∧ ¬ nI x = -4 := by decide +kernel
def cP (r : AR) (P : Nat → Int32) : Nat → Int32 := fun m => if m < aM r then nI (aP r m) else P m
def cI (r : AR) (I : Nat → Int32) : Nat → Int32 := fun m => if m < aM r then eC (aI r m) else I m
def cK (r : AR) (K : Nat → Int32) : Nat → Int32 := fun m => if m < aM r then nI (aK r m) else K m
theorem cP_at {r : AR} {P : Nat → Int32} {m : Nat} (h : m < aM r) : cP r P m = nI (aP r m) := if_pos h
theorem cI_at {r : AR} {I : Nat → Int32} {m : Nat} (h : m < aM r) : cI r I m = eC (aI r m) := if_pos h
theorem cK_at {r : AR} {K : Nat → Int32} {m : Nat} (h : m < aM r) : cK r K m = nI (aK r m) := if_pos h
def bI (b : Bool) : Int32 := if b then 1 else 0
theorem ib0 {α : Type} (b : Bool) (x y : α) : (if bI b = 0 then x else y) = (if b then y else x) := by cases b <;> rfl
theorem ib1 {α : Type} (b : Bool) (x y : α) : (if bI b = 1 then x else y) = (if b then x else y) := by cases b <;> rfl
theorem stands_C {r : AR} {I : Nat → Int32} {m : Nat} (hM : aM r ≤ 6) (hm : m < aM r) : m_X3_stands (cI r I) (nI m) = some (bI (aSt r m)) := by
  unfold m_X3_stands
  rw [chk_nI _ (by omega) (by decide), cl (by omega), cI_at hm]
  by_cases h : aI r m < 12
  · rw [eC_t h, if_neg (nI_nm1 _ h).1, show aSt r m = true by simp [aSt, h]]; rfl
  · rw [eC_f h, if_pos rfl, show aSt r m = false by simp [aSt, h]]; rfl
theorem whoStands_C {r : AR} {I : Nat → Int32} {F : Nat} (hM : aM r ≤ 6) (hF : 64 ≤ F) : m_X3_whoStands F (cI r I) (nI (aM r)) = some (nI (sb (aSt r) (aM r))) := by
  unfold m_X3_whoStands
  refine loopUp (fun n x s => m_X3_whoStands_L4 (cI r I) (nI (aM r)) (fun x3 => some x3) n x s) _ (fun j => nI (sb (aSt r) j)) (aM r) (fun n => ?_) (fun n j hj => ?_) (aM r) F 0 (by omega) (by omega)
  · show m_X3_whoStands_L4s _ _ _ _ _ _ = _
    unfold m_X3_whoStands_L4s
    rw [if_pos (nIle (by omega) (by omega) (Nat.le_refl _))]
  · show m_X3_whoStands_L4s _ _ _ _ _ _ = _
    unfold m_X3_whoStands_L4s
    rw [if_neg (nInle (by omega) (by omega) hj), stands_C hM hj]
    simp only [Option.bind_some, bnd, nI_1, ib0]
    cases hc : aSt r j
    · simp only [sb, hc]; rfl
    · rw [if_pos rfl, sh1 j (by omega), fa_or]
      simp only [sb, hc]; rfl
def tk (r : AR) : Nat → Nat
  | 0 => 0
  | n + 1 => if aI r n < 12 then tk r n ||| 2 ^ (aI r n) else tk r n
theorem tk_lt (r : AR) : ∀ n, tk r n < 4096
  | 0 => by show 0 < 4096; decide
  | n + 1 => by
    have ih := tk_lt r n
    unfold tk
    split
    · rename_i h
      have : 2 ^ aI r n < 2 ^ 12 := Nat.pow_lt_pow_right (by decide) h
      exact Nat.or_lt_two_pow (n := 12) ih this
    · exact ih
theorem tk_bit (r : AR) : ∀ n b, (tk r n).testBit b = true ↔ ∃ m, m < n ∧ aI r m < 12 ∧ aI r m = b
  | 0, b => by simp [tk]
  | n + 1, b => by
    have ih := tk_bit r n b
    unfold tk
    constructor
    · intro h
      by_cases h12 : aI r n < 12
      · rw [if_pos h12, Nat.testBit_or, Nat.testBit_two_pow, Bool.or_eq_true] at h
        rcases h with h | h
        · obtain ⟨m, a, b, c⟩ := ih.mp h
          exact ⟨m, by omega, b, c⟩
        · exact ⟨n, by omega, h12, of_decide_eq_true h⟩
      · rw [if_neg h12] at h
        obtain ⟨m, a, b, c⟩ := ih.mp h
        exact ⟨m, by omega, b, c⟩
    · rintro ⟨m, hm, h12, rfl⟩
      by_cases e : m = n
      · subst e
        rw [if_pos h12, Nat.testBit_or, Nat.testBit_two_pow]; simp
      · have := ih.mpr ⟨m, by omega, h12, rfl⟩
        split
        · rw [Nat.testBit_or, this]; rfl
        · exact this
theorem taken_C {r : AR} {I : Nat → Int32} {F : Nat} (hM : aM r ≤ 6) (hF : 64 ≤ F) : m_X3_inchesTaken F (cI r I) (nI (aM r)) = some (nI (tk r (aM r))) := by
  unfold m_X3_inchesTaken
  refine loopUp (fun n x s => m_X3_inchesTaken_L4 (cI r I) (nI (aM r)) (fun x3 => some x3) n x s) _ (fun j => nI (tk r j)) (aM r) (fun n => ?_) (fun n j hj => ?_) (aM r) F 0 (by omega) (by omega)
  · show m_X3_inchesTaken_L4s _ _ _ _ _ _ = _
    unfold m_X3_inchesTaken_L4s
    rw [if_pos (nIle (by omega) (by omega) (Nat.le_refl _))]
  · show m_X3_inchesTaken_L4s _ _ _ _ _ _ = _
    unfold m_X3_inchesTaken_L4s
    rw [if_neg (nInle (by omega) (by omega) hj), stands_C hM hj]
    simp only [Option.bind_some, bnd, nI_1, ib0]
    by_cases h : aI r j < 12
    · have hs : aSt r j = true := by simp [aSt, h]
      rw [hs, if_pos rfl, chk_nI _ (by omega) (by decide), cl (by omega), cI_at hj, eC_t h, sh1 _ (by omega), fa_or]
      simp only [tk, if_pos h]
    · have hs : aSt r j = false := by simp [aSt, h]
      rw [hs, if_neg (by decide)]
      simp only [tk, if_neg h]
/-- who stands, counted by the inches taken, under a mask -/
theorem tk_ct {r : AR} (hw : WF r) (M : Nat) : ∀ n, n ≤ aM r → fb_ct (fun b => (tk r n &&& M).testBit b) 12 = fb_ct (fun a => aSt r a && M.testBit (aI r a)) n
  | 0, _ => by
    rw [fb_ct_zero.mpr (fun k _ => by simp [tk])]; rfl
  | n + 1, hn => by
    have ih := tk_ct hw M n (by omega)
    rw [fb_ct_succ (fun a => aSt r a && M.testBit (aI r a)) n, ← ih]
    by_cases h : aI r n < 12
    · have hs : aSt r n = true := by simp [aSt, h]
      have h0 : (tk r n).testBit (aI r n) = false := by
        cases hb : (tk r n).testBit (aI r n) with
        | false => rfl
        | true =>
          obtain ⟨m, h1, h2, h3⟩ := (tk_bit r n _).mp hb
          exact absurd h3 (hw.2.2.1 m n (by omega) (by omega) (by omega) h2)
      have e : ∀ b, b < 12 → ((tk r (n + 1) &&& M).testBit b) = (if b = aI r n then M.testBit (aI r n) else (tk r n &&& M).testBit b) := by
        intro b _
        simp only [tk, if_pos h, Nat.testBit_and, Nat.testBit_or, Nat.testBit_two_pow]
        by_cases hb : b = aI r n
        · subst hb; simp
        · have : decide (aI r n = b) = false := decide_eq_false (fun q => hb q.symm)
          rw [this, if_neg hb]; simp
      rw [fb_ct_cong e]
      have := fb_ct_upd (fun b => (tk r n &&& M).testBit b) (M.testBit (aI r n)) (i := aI r n) (n := 12) h
      rw [Nat.testBit_and, h0] at this
      rw [hs, Bool.true_and]
      simpa using this
    · have hs : aSt r n = false := by simp [aSt, h]
      simp only [tk, if_neg h, hs]
      simp
/-- how many stand -/
def nSt (r : AR) : Nat := fb_ct (aSt r) (aM r)
theorem bits12 : ∀ x, x < 12 → (4095 : Nat).testBit x = true := by decide +kernel
theorem many_C {r : AR} (hw : WF r) : m_J6_bitCount_0f7a4 (nI (tk r (aM r))) = some (nI (nSt r)) := by
  rw [bc (tk_lt r _)]
  have h := tk_ct hw 4095 (aM r) (Nat.le_refl _)
  have e1 : ∀ b, b < 12 → (tk r (aM r) &&& 4095).testBit b = (tk r (aM r)).testBit b := fun b hb => by rw [Nat.testBit_and, bits12 b hb, Bool.and_true]
  rw [fb_ct_cong e1] at h
  rw [h]
  have e2 : ∀ a, a < aM r → (aSt r a && (4095 : Nat).testBit (aI r a)) = aSt r a := fun a _ => by
    by_cases h : aI r a < 12
    · rw [bits12 _ h, Bool.and_true]
    · simp [aSt, h]
  rw [fb_ct_cong e2]; rfl
theorem howMany_C {r : AR} {I : Nat → Int32} {F : Nat} (hw : WF r) (hF : 64 ≤ F) : m_X3_howManyStand F (cI r I) (nI (aM r)) = some (nI (nSt r)) := by
  unfold m_X3_howManyStand
  rw [taken_C hw.1 hF]
  simp only [Option.bind_some]
  rw [many_C hw]; rfl
