/-! ===== PURE ZC: what is read is a rim ===== -/
theorem kx_le (x : Nat) (h : kx x < 5) : kx x ≤ 4 := by omega
theorem mnQ_WF {L : Nat} {c : Nat → Nat} {q : AR} {p : Nat} {f : Bool} (hw : WF q) (h6 : aM q < 6) : WF (mnQ L c q p f) := by
  unfold mnQ
  cases hf : mnF L c (tk q (aM q)) p f
  · rw [if_neg Bool.false_ne_true]
    obtain ⟨o1, o2, o3⟩ := mn_ok hf
    have hk : mnK L c p f ≤ 4 := by
      have := (kok_lt o1).2.2
      unfold mnK; rw [o1, if_pos rfl]; omega
    have hd : mnD L c p f ≤ 9 := by
      have o4 := o2
      unfold dok at o4
      rw [Bool.and_eq_true] at o4
      have := isd_of o4.2
      unfold mnD; rw [o2, if_pos rfl]; omega
    have hi : mnI L c p f ≤ 12 ∧ (mnI L c p f < 12 → (tk q (aM q)).testBit (mnI L c p f) = false) := by
      unfold mnI
      cases ha : atx L c p f
      · rw [if_neg Bool.false_ne_true]; exact ⟨by omega, fun z => by omega⟩
      · rw [if_pos rfl]
        have := nm_in (o3 ha)
        exact ⟨by omega, fun _ => this.2⟩
    have hfree : mnI L c p f < 12 → ∀ m, m < aM q → aI q m ≠ mnI L c p f := fun h12 m hm e => by
      have h1 := hi.2 h12
      have h2 : (tk q (aM q)).testBit (mnI L c p f) = true := (tk_bit q (aM q) (mnI L c p f)).mpr ⟨m, hm, by omega, e⟩
      rw [h1] at h2; exact absurd h2 (by decide)
    refine ⟨by show aM q + 1 ≤ 6; omega, fun m hm => ?_, fun i j hi' hj hij h12 => ?_, hw.2.2.2.1, hw.2.2.2.2.1, hw.2.2.2.2.2.1, hw.2.2.2.2.2.2⟩
    · have hm : m < aM q + 1 := hm
      show (if m = aM q then mnK L c p f else aK q m) ≤ 4 ∧ (if m = aM q then mnD L c p f else aP q m) ≤ 9 ∧ (if m = aM q then mnI L c p f else aI q m) ≤ 12
      by_cases e : m = aM q
      · rw [if_pos e, if_pos e, if_pos e]; exact ⟨hk, hd, hi.1⟩
      · rw [if_neg e, if_neg e, if_neg e]; exact hw.2.1 m (by omega)
    · have hi' : i < aM q + 1 := hi'
      have hj : j < aM q + 1 := hj
      have h12 : (if i = aM q then mnI L c p f else aI q i) < 12 := h12
      show (if i = aM q then mnI L c p f else aI q i) ≠ (if j = aM q then mnI L c p f else aI q j)
      by_cases ea : i = aM q
      · rw [if_pos ea] at h12 ⊢
        rw [if_neg (show ¬ j = aM q by omega)]
        exact Ne.symm (hfree h12 j (by omega))
      · rw [if_neg ea] at h12 ⊢
        by_cases eb : j = aM q
        · rw [if_pos eb]
          intro e
          exact hfree (by omega) i (by omega) e
        · rw [if_neg eb]; exact hw.2.2.1 i j (by omega) (by omega) hij h12
  · rw [if_pos rfl]; exact hw
theorem fin_WF {L : Nat} {c : Nat → Nat} : ∀ d x q p f, x + d = 6 → aM q ≤ x → WF q → WF (finm L c d q p f).1 ∧ aS (finm L c d q p f).1 = aS q ∧ aT (finm L c d q p f).1 = aT q ∧ aH (finm L c d q p f).1 = aH q ∧ aN (finm L c d q p f).1 = aN q
  | 0, x, q, p, f, _, _, hw => ⟨hw, rfl, rfl, rfl, rfl⟩
  | d + 1, x, q, p, f, hx, hq, hw => by
    unfold finm
    split
    · exact ⟨hw, rfl, rfl, rfl, rfl⟩
    · split
      · have h1 := mnQ_WF (L := L) (c := c) (p := sp L c p f + 1) (f := false) hw (by omega)
        have h2 : aM (mnQ L c q (sp L c p f + 1) false) ≤ x + 1 := by rw [mnQ_M]; split <;> omega
        have h3 : aS (mnQ L c q (sp L c p f + 1) false) = aS q ∧ aT (mnQ L c q (sp L c p f + 1) false) = aT q ∧ aH (mnQ L c q (sp L c p f + 1) false) = aH q ∧ aN (mnQ L c q (sp L c p f + 1) false) = aN q := by
          unfold mnQ
          cases mnF L c (tk q (aM q)) (sp L c p f + 1) false
          · exact ⟨rfl, rfl, rfl, rfl⟩
          · exact ⟨rfl, rfl, rfl, rfl⟩
        obtain ⟨r1, r2, r3, r4, r5⟩ := fin_WF (L := L) (c := c) d (x + 1) (mnQ L c q (sp L c p f + 1) false) (mnP L c (tk q (aM q)) (sp L c p f + 1) false) (mnF L c (tk q (aM q)) (sp L c p f + 1) false) (by omega) h2 h1
        exact ⟨r1, r2.trans h3.1, r3.trans h3.2.1, r4.trans h3.2.2.1, r5.trans h3.2.2.2⟩
      · exact ⟨hw, rfl, rfl, rfl, rfl⟩
/-- the law of the rim that is read: three numbers and two signs; place and fault behind each -/
def r1P (L : Nat) (c : Nat → Nat) : Nat := nmP L c 0 false 11 0
def r1F (L : Nat) (c : Nat → Nat) : Bool := nmF L c 0 false 11 0
def r2P (L : Nat) (c : Nat → Nat) : Nat := sgP L c (r1P L c) (r1F L c) 43
def r2F (L : Nat) (c : Nat → Nat) : Bool := !sgn L c (r1P L c) (r1F L c) 43
def r3P (L : Nat) (c : Nat → Nat) : Nat := nmP L c (r2P L c) (r2F L c) 11 0
def r3F (L : Nat) (c : Nat → Nat) : Bool := nmF L c (r2P L c) (r2F L c) 11 0
def r4P (L : Nat) (c : Nat → Nat) : Nat := sgP L c (r3P L c) (r3F L c) 94
def r4F (L : Nat) (c : Nat → Nat) : Bool := !sgn L c (r3P L c) (r3F L c) 94
def r5P (L : Nat) (c : Nat → Nat) : Nat := nmP L c (r4P L c) (r4F L c) 12 0
def r5F (L : Nat) (c : Nat → Nat) : Bool := nmF L c (r4P L c) (r4F L c) 12 0
def q0 : AR := (0, fun _ => 0, fun _ => 0, fun _ => 0, 0, 0, 0, 0)
theorem q0_WF : WF q0 := ⟨by decide, fun m hm => absurd hm (Nat.not_lt_zero m), fun a b ha => absurd ha (Nat.not_lt_zero a), by decide, by decide, by decide, by decide⟩
theorem r_le (L : Nat) (c : Nat → Nat) : r1P L c ≤ L ∧ r2P L c ≤ L ∧ r3P L c ≤ L ∧ r4P L c ≤ L ∧ r5P L c ≤ L := by
  have a1 : r1P L c ≤ L := nmP_le (Nat.zero_le L)
  have a2 : r2P L c ≤ L := sgP_le a1 (by decide)
  have a3 : r3P L c ≤ L := nmP_le a2
  have a4 : r4P L c ≤ L := sgP_le a3 (by decide)
  exact ⟨a1, a2, a3, a4, nmP_le a4⟩
