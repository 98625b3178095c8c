/-! ===== PURE V: reading letters ===== -/
def LT (L : Nat) (c : Nat → Nat) (a : Nat → Int32) : Prop := L ≤ 60 ∧ ∀ j, j < L → 32 ≤ c j ∧ c j ≤ 126 ∧ a j = nI (c j)
def skf (L : Nat) (c : Nat → Nat) : Nat → Nat → Nat
  | 0, p => p
  | d + 1, p => if p < L ∧ c p = 32 then skf L c d (p + 1) else p
def sk (L : Nat) (c : Nat → Nat) (p : Nat) : Nat := skf L c (L - p) p
theorem skf_ge (L : Nat) (c : Nat → Nat) : ∀ d p, p ≤ skf L c d p
  | 0, p => Nat.le_refl p
  | d + 1, p => by
    unfold skf
    split
    · have := skf_ge L c d (p + 1); omega
    · exact Nat.le_refl p
theorem skf_le (L : Nat) (c : Nat → Nat) : ∀ d p, p ≤ L → skf L c d p ≤ L
  | 0, p, h => h
  | d + 1, p, h => by
    unfold skf
    split
    · rename_i q; exact skf_le L c d (p + 1) (by omega)
    · exact h
theorem sk_le {L : Nat} {c : Nat → Nat} {p : Nat} (h : p ≤ L) : sk L c p ≤ L := skf_le L c _ p h
theorem sk_ge {L : Nat} {c : Nat → Nat} {p : Nat} : p ≤ sk L c p := skf_ge L c _ p
theorem sk_stop {L : Nat} {c : Nat → Nat} {p : Nat} (h : ¬ (p < L ∧ c p = 32)) : sk L c p = p := by
  unfold sk
  cases hd : L - p with
  | zero => rfl
  | succ d => rw [skf, if_neg h]
theorem sk_go {L : Nat} {c : Nat → Nat} {p : Nat} (h : p < L ∧ c p = 32) : sk L c p = sk L c (p + 1) := by
  unfold sk
  rw [show L - p = (L - (p + 1)) + 1 by omega, skf, if_pos h]
theorem sk_end {L : Nat} {c : Nat → Nat} : ∀ d p, L - p = d → ¬ (sk L c p < L ∧ c (sk L c p) = 32)
  | 0, p, h => by
    rw [sk_stop (by omega)]; omega
  | d + 1, p, h => by
    by_cases q : p < L ∧ c p = 32
    · rw [sk_go q]; exact sk_end d (p + 1) (by omega)
    · rw [sk_stop q]; exact q
theorem sk_sk {L : Nat} {c : Nat → Nat} {p : Nat} : sk L c (sk L c p) = sk L c p := sk_stop (sk_end _ p rfl)
/-- the place to look at, and what is there -/
def sp (L : Nat) (c : Nat → Nat) (p : Nat) (f : Bool) : Nat := if f then p else sk L c p
theorem sp_le {L : Nat} {c : Nat → Nat} {p : Nat} {f : Bool} (h : p ≤ L) : sp L c p f ≤ L := by
  unfold sp; cases f
  · exact sk_le h
  · exact h
theorem sp_sp {L : Nat} {c : Nat → Nat} {p : Nat} {f : Bool} : sp L c (sp L c p f) f = sp L c p f := by
  unfold sp; cases f
  · exact sk_sk
  · rfl
theorem skL_C {L : Nat} {c : Nat → Nat} {a : Nat → Int32} (h : LT L c a) (K : Int32 → Option Int32) : ∀ d n p, L - p = d → d < n → p ≤ L → m_X6_skipBlanks_L7 a (nI L) K n (nI p) = K (nI (sk L c p))
  | 0, n, p, hd, hn, hp => by
    obtain ⟨n, rfl⟩ : ∃ n', n = n' + 1 := ⟨n - 1, by omega⟩
    have hL := h.1
    show m_X6_skipBlanks_L7s _ _ _ _ _ = _
    unfold m_X6_skipBlanks_L7s
    rw [if_pos (nIle (by omega) (by omega) (by omega)), sk_stop (by omega)]
  | d + 1, n, p, hd, hn, hp => by
    obtain ⟨n, rfl⟩ : ∃ n', n = n' + 1 := ⟨n - 1, by omega⟩
    have hL := h.1
    obtain ⟨c1, c2, c3⟩ := h.2 p (by omega)
    show m_X6_skipBlanks_L7s _ _ _ _ _ = _
    unfold m_X6_skipBlanks_L7s
    rw [if_neg (nInle (by omega) (by omega) (by omega)), chk_nI _ (by omega) (by decide), cl (by omega), c3]
    by_cases q : c p = 32
    · rw [if_pos (show nI (c p) = 32 by rw [q]; rfl), nI_1, skL_C h K d n (p + 1) (by omega) (by omega) (by omega), sk_go ⟨by omega, q⟩]
    · rw [if_neg (show ¬ nI (c p) = 32 from fun z => q ((nI_eq (b := 32) (by omega) (by decide)).mp z)), sk_stop (by omega)]
theorem skip_C {L : Nat} {c : Nat → Nat} {a : Nat → Int32} {F p : Nat} {f : Bool} (h : LT L c a) (hp : p ≤ L) (hF : 100 ≤ F) : m_X6_skipBlanks F a (nI L) (nI p) (bI f) = some (nI (sp L c p f)) := by
  have hL := h.1
  unfold m_X6_skipBlanks
  rw [ib0]
  cases f
  · exact skL_C h _ _ F p rfl (by omega) hp
  · rfl
theorem here_ML {L : Nat} {c : Nat → Nat} {b : Nat → Int32} (h : LT L c b) (K : Int32 → Option (Int32 × Int32)) : ∀ d n p, L - p = d → d < n → p ≤ L → m_X9_here_L0 b (nI L) K n (nI p) = K (nI (sk L c p))
  | 0, n, p, hd, hn, hp => by
    obtain ⟨n, rfl⟩ : ∃ n', n = n' + 1 := ⟨n - 1, by omega⟩
    have hL := h.1
    show m_X9_here_L0s _ _ _ _ _ = _
    unfold m_X9_here_L0s
    rw [if_pos (nIle (by omega) (by omega) (by omega)), sk_stop (by omega)]
  | d + 1, n, p, hd, hn, hp => by
    obtain ⟨n, rfl⟩ : ∃ n', n = n' + 1 := ⟨n - 1, by omega⟩
    have hL := h.1
    obtain ⟨c1, c2, c3⟩ := h.2 p (by omega)
    show m_X9_here_L0s _ _ _ _ _ = _
    unfold m_X9_here_L0s
    rw [if_neg (nInle (by omega) (by omega) (by omega)), chk_nI _ (by omega) (by decide), cl (by omega), c3]
    by_cases q : c p = 32
    · rw [if_pos (show nI (c p) = 32 by rw [q]; rfl), nI_1, here_ML h K d n (p + 1) (by omega) (by omega) (by omega), sk_go ⟨by omega, q⟩]
    · rw [if_neg (show ¬ nI (c p) = 32 from fun z => q ((nI_eq (b := 32) (by omega) (by decide)).mp z)), sk_stop (by omega)]
/-- the letter at a place, 0 at the end -/
def ch (L : Nat) (c : Nat → Nat) (p : Nat) : Nat := if p < L then c p else 0
theorem ch_le {L : Nat} {c : Nat → Nat} {a : Nat → Int32} (h : LT L c a) (p : Nat) : ch L c p ≤ 126 := by
  unfold ch; split
  · rename_i q; exact (h.2 p q).2.1
  · omega
theorem here_M {L : Nat} {c : Nat → Nat} {b : Nat → Int32} {F p : Nat} (h : LT L c b) (hp : p ≤ L) (hF : 100 ≤ F) : m_X9_here F b (nI L) (nI p) = some (nI (ch L c (sk L c p)), nI (sk L c p)) := by
  have hL := h.1
  have hs := sk_le (c := c) hp
  unfold m_X9_here
  rw [here_ML h _ _ F p rfl (by omega) hp]
  unfold ch
  by_cases q : sk L c p < L
  · rw [if_neg (nInle (by omega) (by omega) q), if_pos q, chk_nI _ (by omega) (by decide), cl (by omega), (h.2 _ q).2.2]
  · rw [if_pos (nIle (by omega) (by omega) (by omega)), if_neg q]; rfl
theorem there_C {L p : Nat} {f : Bool} (hp : p < 2 ^ 31) (hL : L < 2 ^ 31) : m_X6_isThere (nI L) (nI p) (bI f) = some (bI (!f && decide (p < L))) := by
  unfold m_X6_isThere
  rw [ib0]
  cases f
  · by_cases q : p < L
    · rw [if_neg (by decide), if_neg (nInle hL hp q), decide_eq_true q]; rfl
    · rw [if_neg (by decide), if_pos (nIle hL hp (by omega)), decide_eq_false q]; rfl
  · rfl
/-- a sign -/
def sgn (L : Nat) (c : Nat → Nat) (p : Nat) (f : Bool) (s : Nat) : Bool := !f && decide (ch L c (sp L c p f) = s)
theorem next_T {L : Nat} {c : Nat → Nat} {a : Nat → Int32} {F p s : Nat} {f : Bool} (h : LT L c a) (hp : p ≤ L) (hs0 : s ≠ 0) (hs : s < 200) (hF : 100 ≤ F) : m_X6_isNext F a (nI L) (nI p) (bI f) (nI s) = some (bI (sgn L c p f s), nI (sp L c p f)) := by
  have hL := h.1
  have hsp := sp_le (c := c) (f := f) hp
  unfold m_X6_isNext
  rw [skip_C h hp hF, Option.bind_some, there_C (by omega) (by omega), Option.bind_some, ib0]
  unfold sgn ch
  cases f
  · by_cases q : sp L c p false < L
    · obtain ⟨c1, c2, c3⟩ := h.2 _ q
      rw [decide_eq_true q, if_pos q, chk_nI _ (by omega) (by decide), cl (by omega), c3]
      by_cases w : c (sp L c p false) = s
      · rw [decide_eq_true w, if_pos (show nI (c (sp L c p false)) = nI s by rw [w])]; rfl
      · rw [decide_eq_false w, if_neg (show ¬ nI (c (sp L c p false)) = nI s from fun z => w ((nI_eq (by omega) (by omega)).mp z))]; rfl
    · rw [decide_eq_false q, if_neg q, decide_eq_false (fun z => hs0 z.symm)]; rfl
  · rfl
def sgP (L : Nat) (c : Nat → Nat) (p : Nat) (f : Bool) (s : Nat) : Nat := if sgn L c p f s then sp L c p f + 1 else sp L c p f
theorem sign_C {L : Nat} {c : Nat → Nat} {a : Nat → Int32} {F p s : Nat} {f : Bool} (h : LT L c a) (hp : p ≤ L) (hs0 : s ≠ 0) (hs : s < 200) (hF : 100 ≤ F) : m_X6_readSign F a (nI L) (nI p) (bI f) (nI s) = some (nI (sgP L c p f s), bI (!sgn L c p f s)) := by
  unfold m_X6_readSign
  rw [next_T h hp hs0 hs hF, Option.bind_some, ib0]
  unfold sgP
  cases hg : sgn L c p f s
  · rfl
  · have : f = false := by unfold sgn at hg; cases f <;> simp_all
    subst this
    rw [if_pos rfl, if_pos rfl, nI_1]; rfl
theorem must_M {p : Nat} {f x : Bool} : m_X9_must (nI p) (bI f) (bI x) = some (nI (if !f && x then p + 1 else p), bI (f || !x)) := by
  have z : nI p + 0 = nI p := by rw [show (0 : Int32) = nI 0 from rfl, nI_add, Nat.add_zero]
  unfold m_X9_must
  simp only [jn, ib0]
  cases f <;> cases x <;> simp [zb, bI, z, nI_1]
theorem sgP_le {L : Nat} {c : Nat → Nat} {p s : Nat} {f : Bool} (hp : p ≤ L) (hs0 : s ≠ 0) : sgP L c p f s ≤ L := by
  have := sp_le (c := c) (f := f) hp
  unfold sgP
  cases hg : sgn L c p f s
  · exact this
  · have q : sp L c p f < L := by
      unfold sgn ch at hg
      rw [Bool.and_eq_true] at hg
      have := of_decide_eq_true hg.2
      split at this
      · rename_i w; exact w
      · exact absurd this.symm hs0
    rw [if_pos rfl]; omega
