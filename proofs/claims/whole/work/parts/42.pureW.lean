/-! ===== PURE W: digits, numbers, kinds ===== -/
def isd (x : Nat) : Bool := decide (48 ≤ x) && decide (x ≤ 57)
theorem isd_of {x : Nat} (h : isd x = true) : 48 ≤ x ∧ x ≤ 57 := by
  unfold isd at h; rw [Bool.and_eq_true] at h; exact ⟨of_decide_eq_true h.1, of_decide_eq_true h.2⟩
theorem isd_lt {L : Nat} {c : Nat → Nat} {p : Nat} (h : isd (ch L c p) = true) : p < L := by
  have := isd_of h
  unfold ch at this
  split at this
  · rename_i q; exact q
  · omega
theorem isd_C : ∀ x, x < 127 → (decide (nI x < 48) = !decide (48 ≤ x)) ∧ (decide (57 < nI x) = !decide (x ≤ 57)) ∧ wi (nI x) 48 57 = isd x := by decide +kernel
theorem sub48 : ∀ x, x < 127 → 48 ≤ x → nI x - 48 = nI (x - 48) := by decide +kernel
theorem digit_C {L : Nat} {c : Nat → Nat} {a : Nat → Int32} {p : Nat} {f : Bool} (h : LT L c a) (hp : p ≤ L) : m_X6_isDigitThere a (nI L) (nI p) (bI f) = some (bI (!f && isd (ch L c p))) := by
  have hL := h.1
  unfold m_X6_isDigitThere
  rw [ib0]
  cases f
  · unfold ch
    by_cases q : p < L
    · obtain ⟨c1, c2, c3⟩ := h.2 p q
      obtain ⟨d1, d2, -⟩ := isd_C (c p) (by omega)
      rw [if_neg (by decide), if_neg (nInle (by omega) (by omega) q), chk_nI _ (by omega) (by decide), chk_nI _ (by omega) (by decide), cl (by omega), c3, if_pos q]
      unfold isd
      by_cases w1 : 48 ≤ c p
      · rw [decide_eq_true w1] at d1
        rw [if_neg (of_decide_eq_false d1), decide_eq_true w1]
        by_cases w2 : c p ≤ 57
        · rw [decide_eq_true w2] at d2
          rw [if_neg (of_decide_eq_false d2), decide_eq_true w2]; rfl
        · rw [decide_eq_false w2] at d2
          rw [if_pos (of_decide_eq_true d2), decide_eq_false w2]; rfl
      · rw [decide_eq_false w1] at d1
        rw [if_pos (of_decide_eq_true d1), decide_eq_false w1]; rfl
    · rw [if_neg (by decide), if_pos (nIle (by omega) (by omega) (by omega)), if_neg q]; rfl
  · rfl
def dok (L : Nat) (c : Nat → Nat) (p : Nat) (f : Bool) : Bool := !f && isd (ch L c (sp L c p f))
theorem rdigit_C {L : Nat} {c : Nat → Nat} {a : Nat → Int32} {F p : Nat} {f : Bool} (h : LT L c a) (hp : p ≤ L) (hF : 100 ≤ F) : m_X6_readDigit F a (nI L) (nI p) (bI f) = some (nI (if dok L c p f then ch L c (sp L c p f) - 48 else 0), nI (if dok L c p f then sp L c p f + 1 else sp L c p f), bI (!dok L c p f)) := by
  have hL := h.1
  have hsp := sp_le (c := c) (f := f) hp
  unfold m_X6_readDigit
  rw [skip_C h hp hF, Option.bind_some, digit_C h hsp, Option.bind_some, ib0]
  unfold dok
  cases hk : (!f && isd (ch L c (sp L c p f)))
  · rfl
  · rw [Bool.and_eq_true] at hk
    have hf : f = false := by cases f <;> simp_all
    subst hf
    have hlt := isd_lt hk.2
    have hd := isd_of hk.2
    have e : ch L c (sp L c p false) = c (sp L c p false) := by unfold ch; rw [if_pos hlt]
    rw [e] at hd ⊢
    rw [if_pos rfl, if_pos rfl, if_pos rfl, chk_nI _ (by omega) (by decide), cl (by omega), (h.2 _ hlt).2.2, sub48 _ (by omega) hd.1]
    simp only [bnd, nI_1]
    rfl
/-- a number of one or two digits -/
def nv2 (L : Nat) (c : Nat → Nat) (S : Nat) : Nat := if isd (ch L c (S + 1)) then 10 * (ch L c S - 48) + (ch L c (S + 1) - 48) else ch L c S - 48
def np2 (L : Nat) (c : Nat → Nat) (S : Nat) : Nat := if isd (ch L c (S + 1)) then S + 2 else S + 1
def nbd (v most barred : Nat) : Bool := decide (most < v) || barred.testBit v
def nmV (L : Nat) (c : Nat → Nat) (p : Nat) (f : Bool) : Nat := if dok L c p f then nv2 L c (sp L c p f) else 0
def nmF (L : Nat) (c : Nat → Nat) (p : Nat) (f : Bool) (most barred : Nat) : Bool := !(dok L c p f && !nbd (nv2 L c (sp L c p f)) most barred)
def nmP (L : Nat) (c : Nat → Nat) (p : Nat) (f : Bool) (most barred : Nat) : Nat := if nmF L c p f most barred then sp L c p f else np2 L c (sp L c p f)
theorem nv2_le {L : Nat} {c : Nat → Nat} {a : Nat → Int32} (h : LT L c a) {S : Nat} (h1 : isd (ch L c S) = true) : nv2 L c S ≤ 99 := by
  have := isd_of h1
  unfold nv2
  split
  · rename_i q; have := isd_of q; omega
  · omega
theorem number_C {L : Nat} {c : Nat → Nat} {a : Nat → Int32} {F p most barred : Nat} {f : Bool} (h : LT L c a) (hp : p ≤ L) (hF : 100 ≤ F) (hm : most ≤ 12) (hb : barred < 4096) : m_X6_readNumber F a (nI L) (nI p) (bI f) (nI most) (nI barred) = some (nI (nmV L c p f), nI (nmP L c p f most barred), bI (nmF L c p f most barred)) := by
  have hL := h.1
  have hsp := sp_le (c := c) (f := f) hp
  have es : sp L c (sp L c p f) f = sp L c p f := sp_sp
  have ed : dok L c (sp L c p f) f = dok L c p f := by unfold dok; rw [es]
  unfold m_X6_readNumber
  rw [skip_C h hp hF, Option.bind_some, rdigit_C h hsp hF, Option.bind_some, es, ed]
  unfold nmP nmF nmV
  cases hk : dok L c p f
  · simp only [Bool.false_eq_true, if_false, Bool.not_false, Bool.false_and]
    rw [digit_C h hsp, Option.bind_some]
    simp only [jn, Bool.not_true, Bool.false_and]
    rfl
  · have hk2 := hk
    unfold dok at hk2
    rw [Bool.and_eq_true] at hk2
    have hf : f = false := by cases f <;> simp_all
    subst hf
    have hlt := isd_lt hk2.2
    have hd := isd_of hk2.2
    have hv := nv2_le h hk2.2
    simp only [if_true, Bool.not_true, Bool.true_and]
    rw [digit_C h (show sp L c p false + 1 ≤ L by omega), Option.bind_some]
    simp only [jn, Bool.not_false, Bool.true_and, ib0]
    have fin : ∀ (q : Nat), (if bI false = 0 then (if nI most < nI (nv2 L c (sp L c p false)) then some (nI (nv2 L c (sp L c p false)), nI (sp L c p false), (1 : Int32)) else (if ((nI barred >>> (nI (nv2 L c (sp L c p false)) &&& 31)) &&& 1) = 0 then some (nI (nv2 L c (sp L c p false)), nI q, bI false) else some (nI (nv2 L c (sp L c p false)), nI (sp L c p false), 1))) else some (nI (nv2 L c (sp L c p false)), nI q, bI false)) = some (nI (nv2 L c (sp L c p false)), nI (if nbd (nv2 L c (sp L c p false)) most barred then sp L c p false else q), bI (nbd (nv2 L c (sp L c p false)) most barred)) := by
      intro q
      rw [ib0, if_neg (by decide)]
      unfold nbd
      by_cases w : most < nv2 L c (sp L c p false)
      · rw [if_pos ((nI_ltI (by omega) (by omega)).mpr w), decide_eq_true w]; rfl
      · rw [if_neg (fun z => w ((nI_ltI (by omega) (by omega)).mp z)), decide_eq_false w, bitb hb (by omega), ib0, Bool.false_or]
        cases barred.testBit (nv2 L c (sp L c p false)) <;> rfl
    cases h2 : isd (ch L c (sp L c p false + 1))
    · have e1 : nv2 L c (sp L c p false) = ch L c (sp L c p false) - 48 := by unfold nv2; rw [h2]; rfl
      have e2 : np2 L c (sp L c p false) = sp L c p false + 1 := by unfold np2; rw [h2]; rfl
      rw [if_neg (by decide), ← e1, e2, Bool.not_not]
      exact fin _
    · have e1 : nv2 L c (sp L c p false) = 10 * (ch L c (sp L c p false) - 48) + (ch L c (sp L c p false + 1) - 48) := by unfold nv2; rw [h2]; rfl
      have e2 : np2 L c (sp L c p false) = sp L c p false + 1 + 1 := by unfold np2; rw [h2]; rfl
      have hlt2 := isd_lt h2
      have hd2 := isd_of h2
      have e3 : sp L c (sp L c p false + 1) false = sp L c p false + 1 := by
        show sk L c (sp L c p false + 1) = _
        refine sk_stop (fun z => ?_)
        have : ch L c (sp L c p false + 1) = c (sp L c p false + 1) := by unfold ch; rw [if_pos hlt2]
        omega
      have e4 : dok L c (sp L c p false + 1) false = true := by unfold dok; rw [e3, h2]; rfl
      have hrd := rdigit_C (f := false) (F := F) h (show sp L c p false + 1 ≤ L by omega) hF
      rw [e4, e3] at hrd
      simp only [if_true] at hrd
      rw [if_pos rfl, hrd, Option.bind_some]
      simp only [bnd]
      rw [lbl, ← e1, e2, Bool.not_not]
      exact fin _
