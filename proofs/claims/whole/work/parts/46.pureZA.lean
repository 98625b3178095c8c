/-! ===== PURE ZA: all men, read by both ===== -/
theorem atEnd_C {L : Nat} {c : Nat → Nat} {a : Nat → Int32} {F p : Nat} {f : Bool} (h : LT L c a) (hp : p ≤ L) (hF : 100 ≤ F) : m_X6_isAtEnd F a (nI L) (nI p) (bI f) = some (bI (f || !decide (sp L c p f < L)), nI (sp L c p f)) := by
  have hL := h.1
  have hsp := sp_le (c := c) (f := f) hp
  unfold m_X6_isAtEnd
  rw [skip_C h hp hF, Option.bind_some, ib0]
  cases f
  · rw [if_neg Bool.false_ne_true]
    by_cases q : sp L c p false < L
    · rw [if_pos ((nI_ltI (by omega) (by omega)).mpr q), decide_eq_true q]; rfl
    · rw [if_neg (fun z => q ((nI_ltI (by omega) (by omega)).mp z)), decide_eq_false q]; rfl
  · rfl
theorem man_true {L : Nat} {c : Nat → Nat} {T p : Nat} {q : AR} : mnF L c T p true = true ∧ mnP L c T p true = p ∧ mnQ L c q p true = q := by
  have e1 : mnF L c T p true = true := rfl
  have e2 : mnP L c T p true = p := rfl
  refine ⟨e1, e2, ?_⟩
  unfold mnQ
  rw [show mnF L c (tk q (aM q)) p true = true from rfl]; rfl
def finm (L : Nat) (c : Nat → Nat) : Nat → AR → Nat → Bool → AR × Nat × Bool
  | 0, q, p, f => (q, sp L c p f, f || decide (sp L c p f < L))
  | d + 1, q, p, f => if f = true ∨ L ≤ sp L c p f then (q, sp L c p f, f) else if ch L c (sp L c p f) = 44 then finm L c d (mnQ L c q (sp L c p f + 1) false) (mnP L c (tk q (aM q)) (sp L c p f + 1) false) (mnF L c (tk q (aM q)) (sp L c p f + 1) false) else (q, sp L c p f, true)
theorem fin_true {L : Nat} {c : Nat → Nat} {q : AR} {p : Nat} : ∀ d, finm L c d q p true = (q, p, true)
  | 0 => rfl
  | d + 1 => by unfold finm; rw [if_pos (Or.inl rfl)]; rfl
theorem mnP_le {L : Nat} {c : Nat → Nat} {T p : Nat} {f : Bool} (hp : p ≤ L) : mnP L c T p f ≤ L := by
  have l1 : g1 L c p f ≤ L := y1_le hp
  have l2 : g2 L c p f ≤ L := y2_le l1
  have l3 : g3 L c p f ≤ L := sp_le l2
  unfold mnP
  cases ha : atx L c p f
  · exact l3
  · rw [if_pos rfl]
    refine nmP_le ?_
    unfold atx sgn ch at ha
    rw [Bool.and_eq_true] at ha
    have w := of_decide_eq_true ha.2
    split at w
    · rename_i z; exact z
    · exact absurd w (by decide)
theorem mnQ_M {L : Nat} {c : Nat → Nat} {q : AR} {p : Nat} {f : Bool} : aM (mnQ L c q p f) = if mnF L c (tk q (aM q)) p f then aM q else aM q + 1 := by
  unfold mnQ
  cases mnF L c (tk q (aM q)) p f <;> rfl
theorem men_C {L : Nat} {c : Nat → Nat} {a P I K : Nat → Int32} {F : Nat} (h : LT L c a) (hF : 100 ≤ F) : ∀ d n x q p f, x + d = 6 → d < n → aM q ≤ x → p ≤ L →
    m_X6_readMen_L6 a (nI L) F (fun w9 w10 w11 w12 w13 w14 => (m_X6_isAtEnd F a (nI L) w13 w14).bind (fun v15 => (if v15.1 = 0 then some (w9, w10, w11, w12, v15.2, 1) else some (w9, w10, w11, w12, v15.2, w14)))) n (nI x) (cP q P) (cI q I) (cK q K) (nI (aM q)) (nI p) (bI f) = some (cP (finm L c d q p f).1 P, cI (finm L c d q p f).1 I, cK (finm L c d q p f).1 K, nI (aM (finm L c d q p f).1), nI (finm L c d q p f).2.1, bI (finm L c d q p f).2.2)
  | 0, n, x, q, p, f, hx, hn, hq, hp => by
    obtain ⟨n, rfl⟩ : ∃ n', n = n' + 1 := ⟨n - 1, by omega⟩
    have hx : x = 6 := by omega
    subst hx
    show m_X6_readMen_L6s _ _ _ _ _ _ _ _ _ _ _ _ = _
    unfold m_X6_readMen_L6s
    rw [if_pos (by decide)]
    refine Eq.trans (congrArg (fun z => Option.bind z _) (atEnd_C (c := c) (p := p) (f := f) h hp hF)) ?_
    rw [Option.bind_some]
    simp only [ib0]
    show (if (f || !decide (sp L c p f < L)) = true then _ else _) = some (cP q P, cI q I, cK q K, nI (aM q), nI (sp L c p f), bI (f || decide (sp L c p f < L)))
    cases f
    · by_cases w : sp L c p false < L
      · rw [decide_eq_true w]; rfl
      · rw [decide_eq_false w]; rfl
    · rfl
  | d + 1, n, x, q, p, f, hx, hn, hq, hp => by
    obtain ⟨n, rfl⟩ : ∃ n', n = n' + 1 := ⟨n - 1, by omega⟩
    have hsp := sp_le (c := c) (f := f) hp
    show m_X6_readMen_L6s _ _ _ _ _ _ _ _ _ _ _ _ = _
    unfold m_X6_readMen_L6s
    rw [if_neg (show ¬ (6 : Int32) ≤ nI x from nInle (a := 6) (by decide) (by omega) (by omega)), atEnd_C h hp hF, Option.bind_some]
    simp only [ib0]
    by_cases w : f = true ∨ L ≤ sp L c p f
    · have e0 : (f || !decide (sp L c p f < L)) = true := by
        rcases w with w | w
        · rw [w]; rfl
        · rw [decide_eq_false (by omega)]; cases f <;> rfl
      have e1 : finm L c (d + 1) q p f = (q, sp L c p f, f) := by rw [finm, if_pos w]
      rw [e0, if_pos rfl, e1]
      refine Eq.trans (congrArg (fun z => Option.bind z _) (atEnd_C (c := c) (p := sp L c p f) (f := f) h hsp hF)) ?_
      rw [Option.bind_some, sp_sp, e0]
      rfl
    · have hf : f = false := by cases f <;> simp_all
      have hlt : sp L c p f < L := by omega
      subst hf
      rw [decide_eq_true hlt, if_neg (show ¬ (false || !true) = true by decide)]
      have hsg : sgn L c (sp L c p false) false 44 = decide (ch L c (sp L c p false) = 44) := by unfold sgn; rw [sp_sp]; rfl
      have es := sign_C (p := sp L c p false) (f := false) (s := 44) (F := F) h hsp (by decide) (by decide) hF
      refine Eq.trans (congrArg (fun z => Option.bind z _) es) ?_
      rw [Option.bind_some, hsg]
      by_cases w2 : ch L c (sp L c p false) = 44
      · have e2 : sgP L c (sp L c p false) false 44 = sp L c p false + 1 := by unfold sgP; rw [hsg, decide_eq_true w2, if_pos rfl, sp_sp]
        have e1 : finm L c (d + 1) q p false = finm L c d (mnQ L c q (sp L c p false + 1) false) (mnP L c (tk q (aM q)) (sp L c p false + 1) false) (mnF L c (tk q (aM q)) (sp L c p false + 1) false) := by rw [finm, if_neg w, if_pos w2]
        rw [decide_eq_true w2, e2, e1]
        refine Eq.trans (congrArg (fun z => Option.bind z _) (man_C (P := P) (I := I) (K := K) (p := sp L c p false + 1) (f := false) (q := q) (F := F) h (by omega) hF (by omega) (fun _ => by omega))) ?_
        rw [Option.bind_some]
        simp only [bnd, nI_1]
        exact men_C h hF d n (x + 1) _ _ _ (by omega) (by omega) (by rw [mnQ_M]; split <;> omega) (mnP_le (by omega))
      · have e2 : sgP L c (sp L c p false) false 44 = sp L c p false := by unfold sgP; rw [hsg, decide_eq_false w2, if_neg Bool.false_ne_true, sp_sp]
        have e1 : finm L c (d + 1) q p false = (q, sp L c p false, true) := by rw [finm, if_neg w, if_neg w2]
        rw [decide_eq_false w2, e2, e1]
        obtain ⟨t1, t2, t3⟩ := man_true (L := L) (c := c) (T := tk q (aM q)) (p := sp L c p false) (q := q)
        refine Eq.trans (congrArg (fun z => Option.bind z _) (man_C (P := P) (I := I) (K := K) (p := sp L c p false) (f := true) (q := q) (F := F) h hsp hF (by omega) (fun _ => by omega))) ?_
        rw [Option.bind_some, t1, t2, t3]
        simp only [bnd, nI_1]
        have := men_C (P := P) (I := I) (K := K) h hF d n (x + 1) q (sp L c p false) true (by omega) (by omega) (by omega) hsp
        rw [fin_true] at this
        exact this
