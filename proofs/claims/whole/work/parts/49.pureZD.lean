/-! ===== PURE ZD: the class reads its tape ===== -/
def r6S (L : Nat) (c : Nat → Nat) : Nat := sp L c (r5P L c) (r5F L c)
def r6E (L : Nat) (c : Nat → Nat) : Bool := r5F L c || !decide (r6S L c < L)
def r6P (L : Nat) (c : Nat → Nat) : Nat := sgP L c (r6S L c) (r5F L c) 59
def r6F (L : Nat) (c : Nat → Nat) : Bool := !sgn L c (r6S L c) (r5F L c) 59
def rO (L : Nat) (c : Nat → Nat) : AR × Nat × Bool := if r6E L c then (q0, r6S L c, r5F L c) else finm L c 5 (mnQ L c q0 (r6P L c) (r6F L c)) (mnP L c (tk q0 (aM q0)) (r6P L c) (r6F L c)) (mnF L c (tk q0 (aM q0)) (r6P L c) (r6F L c))
def rV1 (L : Nat) (c : Nat → Nat) : Nat := nmV L c 0 false
def rV2 (L : Nat) (c : Nat → Nat) : Nat := nmV L c (r2P L c) (r2F L c)
def rV3 (L : Nat) (c : Nat → Nat) : Nat := nmV L c (r4P L c) (r4F L c)
theorem cP_q0 (P : Nat → Int32) : cP q0 P = P := by funext m; show (if m < 0 then _ else P m) = P m; rw [if_neg (by omega)]
theorem cI_q0 (P : Nat → Int32) : cI q0 P = P := by funext m; show (if m < 0 then _ else P m) = P m; rw [if_neg (by omega)]
theorem cK_q0 (P : Nat → Int32) : cK q0 P = P := by funext m; show (if m < 0 then _ else P m) = P m; rw [if_neg (by omega)]
theorem read_C {L : Nat} {c : Nat → Nat} {a P I K : Nat → Int32} {F : Nat} (h : LT L c a) (hF : 100 ≤ F) (m s t hh pl fl : Int32) :
    m_X6_read F a P I K m s t hh (nI L) pl fl = some (if (rO L c).2.2 then (-20) - nI (rO L c).2.1 else 0, cP (rO L c).1 P, cI (rO L c).1 I, cK (rO L c).1 K, nI (aM (rO L c).1), nI (rV1 L c), nI (rV2 L c), nI (rV3 L c), 0, nI (rO L c).2.1, bI (rO L c).2.2) := by
  have hL := h.1
  obtain ⟨l1, l2, l3, l4, l5⟩ := r_le L c
  have l6 : r6S L c ≤ L := sp_le l5
  have l7 : r6P L c ≤ L := sgP_le l6 (by decide)
  unfold m_X6_read
  refine Eq.trans (congrArg (fun z => Option.bind z _) (number_C (p := 0) (f := false) (most := 11) (barred := 0) (F := F) h (Nat.zero_le L) hF (by omega) (by decide))) ?_
  rw [Option.bind_some]
  refine Eq.trans (congrArg (fun z => Option.bind z _) (sign_C (p := r1P L c) (f := r1F L c) (s := 43) (F := F) h l1 (by decide) (by decide) hF)) ?_
  rw [Option.bind_some]
  refine Eq.trans (congrArg (fun z => Option.bind z _) (number_C (p := r2P L c) (f := r2F L c) (most := 11) (barred := 0) (F := F) h l2 hF (by omega) (by decide))) ?_
  rw [Option.bind_some]
  refine Eq.trans (congrArg (fun z => Option.bind z _) (sign_C (p := r3P L c) (f := r3F L c) (s := 94) (F := F) h l3 (by decide) (by decide) hF)) ?_
  rw [Option.bind_some]
  refine Eq.trans (congrArg (fun z => Option.bind z _) (number_C (p := r4P L c) (f := r4F L c) (most := 12) (barred := 0) (F := F) h l4 hF (by omega) (by decide))) ?_
  rw [Option.bind_some]
  refine Eq.trans (congrArg (fun z => Option.bind z _) (atEnd_C (p := r5P L c) (f := r5F L c) (F := F) h l5 hF)) ?_
  rw [Option.bind_some]
  have fin : ∀ o : AR × Nat × Bool, (if bI o.2.2 = 0 then some ((0 : Int32), cP o.1 P, cI o.1 I, cK o.1 K, nI (aM o.1), nI (rV1 L c), nI (rV2 L c), nI (rV3 L c), (0 : Int32), nI o.2.1, bI o.2.2) else some ((-20) - nI o.2.1, cP o.1 P, cI o.1 I, cK o.1 K, nI (aM o.1), nI (rV1 L c), nI (rV2 L c), nI (rV3 L c), (0 : Int32), nI o.2.1, bI o.2.2)) = some (if o.2.2 then (-20) - nI o.2.1 else 0, cP o.1 P, cI o.1 I, cK o.1 K, nI (aM o.1), nI (rV1 L c), nI (rV2 L c), nI (rV3 L c), 0, nI o.2.1, bI o.2.2) := by
    intro o
    rw [ib0]
    cases o.2.2 <;> rfl
  unfold rO
  cases he : r6E L c
  · have hr5 : r5F L c = false := by
      unfold r6E at he
      rw [Bool.or_eq_false_iff] at he; exact he.1
    refine Eq.trans (show _ = (if bI (r6E L c) = 0 then _ else _) from rfl) ?_
    rw [he, if_pos (show bI false = 0 from rfl)]
    refine Eq.trans (congrArg (fun z => Option.bind z _) (sign_C (p := r6S L c) (f := r5F L c) (s := 59) (F := F) h l6 (by decide) (by decide) hF)) ?_
    rw [Option.bind_some]
    have hmen : m_X6_readMen F a P I K 0 (nI L) (nI (r6P L c)) (bI (r6F L c)) = some (cP (finm L c 5 (mnQ L c q0 (r6P L c) (r6F L c)) (mnP L c (tk q0 (aM q0)) (r6P L c) (r6F L c)) (mnF L c (tk q0 (aM q0)) (r6P L c) (r6F L c))).1 P, cI (finm L c 5 (mnQ L c q0 (r6P L c) (r6F L c)) (mnP L c (tk q0 (aM q0)) (r6P L c) (r6F L c)) (mnF L c (tk q0 (aM q0)) (r6P L c) (r6F L c))).1 I, cK (finm L c 5 (mnQ L c q0 (r6P L c) (r6F L c)) (mnP L c (tk q0 (aM q0)) (r6P L c) (r6F L c)) (mnF L c (tk q0 (aM q0)) (r6P L c) (r6F L c))).1 K, nI (aM (finm L c 5 (mnQ L c q0 (r6P L c) (r6F L c)) (mnP L c (tk q0 (aM q0)) (r6P L c) (r6F L c)) (mnF L c (tk q0 (aM q0)) (r6P L c) (r6F L c))).1), nI (finm L c 5 (mnQ L c q0 (r6P L c) (r6F L c)) (mnP L c (tk q0 (aM q0)) (r6P L c) (r6F L c)) (mnF L c (tk q0 (aM q0)) (r6P L c) (r6F L c))).2.1, bI (finm L c 5 (mnQ L c q0 (r6P L c) (r6F L c)) (mnP L c (tk q0 (aM q0)) (r6P L c) (r6F L c)) (mnF L c (tk q0 (aM q0)) (r6P L c) (r6F L c))).2.2) := by
      unfold m_X6_readMen
      have hman := man_C (P := P) (I := I) (K := K) (p := r6P L c) (f := r6F L c) (q := q0) (F := F) h l7 hF (by decide) (fun _ => by decide)
      rw [cP_q0, cI_q0, cK_q0] at hman
      refine Eq.trans (congrArg (fun z => Option.bind z _) hman) ?_
      rw [Option.bind_some]
      exact men_C h hF 5 F 1 _ _ _ (by omega) (by omega) (by rw [mnQ_M]; split <;> decide) (mnP_le l7)
    refine Eq.trans (congrArg (fun z => Option.bind z _) hmen) ?_
    rw [Option.bind_some]
    exact fin _
  · refine Eq.trans (show _ = (if bI (r6E L c) = 0 then _ else _) from rfl) ?_
    rw [he, if_neg (show ¬ bI true = 0 by decide)]
    have := fin (q0, r6S L c, r5F L c)
    simp only [cP_q0, cI_q0, cK_q0] at this
    rw [if_pos rfl]
    simp only [cP_q0, cI_q0, cK_q0]
    exact this
