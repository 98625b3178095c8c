/-! ===== PURE X: numbers and kinds, the reference ===== -/
theorem numStep {L : Nat} {c : Nat → Nat} {b : Nat → Int32} {S q v n : Nat} (h : LT L c b) (hS : S ≤ q) (hq : q ≤ L) (K : Int32 → Int32 → Option (Int32 × Int32 × Int32)) :
    m_X9_number_L55 b (nI L) (nI S) 0 K (n + 1) (nI v) (nI q) = if q < S + 2 ∧ isd (ch L c q) = true then m_X9_number_L55 b (nI L) (nI S) 0 K n (nI (10 * v + (ch L c q - 48))) (nI (q + 1)) else K (nI v) (nI q) := by
  have hL := h.1
  show m_X9_number_L55s _ _ _ _ _ _ _ _ = _
  unfold m_X9_number_L55s
  rw [if_pos rfl]
  by_cases w : q < L
  rotate_left
  · rw [if_pos (nIle (by omega) (by omega) (by omega)), if_neg (fun z => w (isd_lt z.2))]
  rw [if_neg (nInle (by omega) (by omega) w), show nI q - nI S = nI (q - S) from pk_sub hS]
  by_cases w2 : q < S + 2
  rotate_left
  · rw [if_pos (show (2 : Int32) ≤ nI (q - S) from nIle (a := 2) (by decide) (by omega) (by omega)), if_neg (fun z => w2 z.1)]
  obtain ⟨c1, c2, c3⟩ := h.2 q w
  have e : ch L c q = c q := by unfold ch; rw [if_pos w]
  rw [if_neg (show ¬ (2 : Int32) ≤ nI (q - S) from nInle (a := 2) (by decide) (by omega) (by omega)), chk_nI _ (by omega) (by decide), cl (by omega), c3, in48, Option.bind_some, ib0, (isd_C (c q) (by omega)).2.2, e]
  cases hd : isd (c q)
  · rw [if_neg (by decide), if_neg (fun z => absurd z.2 (by decide))]
  · have hd2 := isd_of hd
    rw [if_pos rfl, if_pos ⟨w2, rfl⟩, chk_nI _ (by omega) (by decide)]
    simp only [bnd, nI_1]
    rw [lbl, show nI (10 * v + c q) - 48 = nI (10 * v + c q - 48) from pk_sub (b := 48) (by omega), show 10 * v + c q - 48 = 10 * v + (c q - 48) by omega]
theorem numOff {L S v q n : Nat} {b : Nat → Int32} (K : Int32 → Int32 → Option (Int32 × Int32 × Int32)) : m_X9_number_L55 b (nI L) (nI S) 1 K (n + 1) (nI v) (nI q) = K (nI v) (nI q) := by
  show m_X9_number_L55s _ _ _ _ _ _ _ _ = _
  unfold m_X9_number_L55s
  rw [if_neg (by decide)]
theorem number_M {L : Nat} {c : Nat → Nat} {b : Nat → Int32} {F p most barred : Nat} {f : Bool} (h : LT L c b) (hp : p ≤ L) (hF : 100 ≤ F) (hm : most ≤ 12) (hb : barred < 4096) : m_X9_number F b (nI L) (nI p) (bI f) (nI most) (nI barred) = some (nI (nmV L c p f), nI (nmP L c p f most barred), bI (nmF L c p f most barred)) := by
  have hL := h.1
  have hsp := sp_le (c := c) (f := f) hp
  obtain ⟨F, rfl⟩ : ∃ F', F = F' + 3 := ⟨F - 3, by omega⟩
  have off : ∀ S : Nat, zb (1 : Int32) (m_X9_number_L55 b (nI L) (nI S) 1 (fun x7 w8 => (if (1 : Int32) = 0 then (if nI most < x7 then some (x7, nI S, (1 : Int32)) else (if ((nI barred >>> (x7 &&& 31)) &&& 1) = 1 then some (x7, nI S, 1) else some (x7, w8, 1))) else some (x7, w8, 1))) (F + 3) 0 (nI S)) = some (nI 0, nI S, bI true) := by
    intro S
    show (if _ then _ else _) = _
    rw [if_pos (Or.inr rfl)]
    refine Eq.trans (numOff (v := 0) _) ?_
    rw [if_neg (by decide)]; rfl
  unfold m_X9_number
  simp only [jn]
  cases f
  · rw [if_pos (show bI false = 0 from rfl), here_M h hp hF, Option.bind_some]
    simp only
    rw [if_pos (show bI false = 0 from rfl), in48, Option.bind_some, ib0, (isd_C _ (by have := ch_le h (sk L c p); omega)).2.2]
    have hS : sp L c p false = sk L c p := rfl
    have hk : dok L c p false = isd (ch L c (sk L c p)) := rfl
    unfold nmP nmF nmV
    rw [hk, hS]
    cases hd : isd (ch L c (sk L c p))
    · rw [if_neg (by decide)]
      exact off _
    · have hlt := isd_lt hd
      have hv := nv2_le h hd
      rw [if_pos rfl]
      show (if _ then _ else _) = _
      rw [if_pos (Or.inl rfl)]
      have fin : ∀ q : Nat, (if (0 : Int32) = 0 then (if nI most < nI (nv2 L c (sk L c p)) then some (nI (nv2 L c (sk L c p)), nI (sk L c p), (1 : Int32)) else (if ((nI barred >>> (nI (nv2 L c (sk L c p)) &&& 31)) &&& 1) = 1 then some (nI (nv2 L c (sk L c p)), nI (sk L c p), 1) else some (nI (nv2 L c (sk L c p)), nI q, 0))) else some (nI (nv2 L c (sk L c p)), nI q, 0)) = some (nI (nv2 L c (sk L c p)), nI (if nbd (nv2 L c (sk L c p)) most barred then sk L c p else q), bI (nbd (nv2 L c (sk L c p)) most barred)) := by
        intro q
        rw [if_pos rfl]
        unfold nbd
        by_cases w : most < nv2 L c (sk L c p)
        · rw [if_pos ((nI_ltI (by omega) (by omega)).mpr w), decide_eq_true w]; rfl
        · rw [if_neg (fun z => w ((nI_ltI (by omega) (by omega)).mp z)), decide_eq_false w, bitb hb (by omega), ib1, Bool.false_or]
          cases barred.testBit (nv2 L c (sk L c p)) <;> rfl
      refine Eq.trans (numStep (v := 0) (c := c) h (Nat.le_refl _) (by omega) _) ?_
      rw [if_pos ⟨by omega, hd⟩, numStep (c := c) h (by omega) (by omega)]
      simp only [Nat.mul_zero, Nat.zero_add, Bool.true_and, Bool.not_not, if_true]
      cases h2 : isd (ch L c (sk L c p + 1))
      · have e1 : nv2 L c (sk L c p) = ch L c (sk L c p) - 48 := by unfold nv2; rw [h2]; rfl
        have e2 : np2 L c (sk L c p) = sk L c p + 1 := by unfold np2; rw [h2]; rfl
        rw [if_neg (fun z => absurd z.2 (by decide)), ← e1, e2]
        exact fin _
      · have e1 : nv2 L c (sk L c p) = 10 * (ch L c (sk L c p) - 48) + (ch L c (sk L c p + 1) - 48) := by unfold nv2; rw [h2]; rfl
        have e2 : np2 L c (sk L c p) = sk L c p + 1 + 1 := by unfold np2; rw [h2]; rfl
        have hlt2 := isd_lt h2
        rw [if_pos ⟨by omega, rfl⟩, numStep (c := c) h (by omega) (by omega), if_neg (fun z => by omega), ← e1, e2]
        exact fin _
  · rw [if_neg (show ¬ bI true = 0 by decide), if_neg (show ¬ bI true = 0 by decide)]
    exact off p
/-- kinds -/
def kx (x : Nat) : Nat := if x = 112 then 0 else if x = 108 then 1 else if x = 103 then 2 else if x = 100 then 3 else if x = 118 then 4 else 5
def kI (x : Nat) : Int32 := if kx x < 5 then nI (kx x) else -1
theorem kind_all : ∀ x, x < 127 → m_J0_indexOf_0f7a4 (nI x) = some (kI x) := by decide +kernel
theorem kindM_all : ∀ x, x < 127 → (if nI x = 112 then (0 : Int32) else (if nI x = 108 then 1 else (if nI x = 103 then 2 else (if nI x = 100 then 3 else (if nI x = 118 then 4 else -1))))) = kI x := by decide +kernel
theorem kI_neg : ∀ x, x < 127 → (decide (0 ≤ kI x) = decide (kx x < 5)) ∧ (decide (kI x < 0) = !decide (kx x < 5)) := by decide +kernel
def kok (L : Nat) (c : Nat → Nat) (p : Nat) (f : Bool) : Bool := !f && decide (kx (ch L c (sp L c p f)) < 5)
theorem kx0 : ¬ kx 0 < 5 := by decide
theorem kok_lt {L : Nat} {c : Nat → Nat} {p : Nat} {f : Bool} (h : kok L c p f = true) : f = false ∧ sp L c p f < L ∧ kx (ch L c (sp L c p f)) < 5 := by
  unfold kok at h
  rw [Bool.and_eq_true] at h
  have h2 := of_decide_eq_true h.2
  refine ⟨by cases f <;> simp_all, ?_, h2⟩
  unfold ch at h2
  split at h2
  · rename_i q; exact q
  · exact absurd h2 kx0
theorem kind_C {L : Nat} {c : Nat → Nat} {a : Nat → Int32} {F p : Nat} {f : Bool} (h : LT L c a) (hp : p ≤ L) (hF : 100 ≤ F) : m_X6_readKind F a (nI L) (nI p) (bI f) = some (nI (if kok L c p f then kx (ch L c (sp L c p f)) else 0), nI (if kok L c p f then sp L c p f + 1 else sp L c p f), bI (!kok L c p f)) := by
  have hL := h.1
  have hsp := sp_le (c := c) (f := f) hp
  unfold m_X6_readKind
  rw [skip_C h hp hF, Option.bind_some, there_C (by omega) (by omega), Option.bind_some]
  simp only [jn, ib0]
  cases hk : kok L c p f
  · cases f
    · by_cases q : sp L c p false < L
      · obtain ⟨c1, c2, c3⟩ := h.2 _ q
        have e : ch L c (sp L c p false) = c (sp L c p false) := by unfold ch; rw [if_pos q]
        unfold kok at hk
        rw [e] at hk
        have hn : ¬ kx (c (sp L c p false)) < 5 := of_decide_eq_false hk
        have hz := (kI_neg (c (sp L c p false)) (by omega)).1
        rw [decide_eq_false hn] at hz
        rw [decide_eq_true q, if_pos (show (!false && true) = true from rfl), chk_nI _ (by omega) (by decide), cl (by omega), c3, kind_all _ (by omega), Option.bind_some, if_neg (of_decide_eq_false hz)]
        rfl
      · rw [decide_eq_false q, if_neg (by decide), if_neg (by decide)]; rfl
    · rfl
  · obtain ⟨rfl, q, hn⟩ := kok_lt hk
    obtain ⟨c1, c2, c3⟩ := h.2 _ q
    have e : ch L c (sp L c p false) = c (sp L c p false) := by unfold ch; rw [if_pos q]
    rw [e] at hn ⊢
    have hz := (kI_neg (c (sp L c p false)) (by omega)).1
    rw [decide_eq_true hn] at hz
    rw [decide_eq_true q, if_pos (show (!false && true) = true from rfl), chk_nI _ (by omega) (by decide), cl (by omega), c3, kind_all _ (by omega), Option.bind_some, if_pos (of_decide_eq_true hz), if_pos rfl, if_pos rfl, nI_1]
    unfold kI
    rw [if_pos hn]; rfl
