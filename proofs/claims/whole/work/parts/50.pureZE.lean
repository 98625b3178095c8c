/-! ===== PURE ZE: the reference reads its tape ===== -/
theorem sign_jn {α : Type} {L : Nat} {c : Nat → Nat} {b : Nat → Int32} {F p s : Nat} {f : Bool} (h : LT L c b) (hp : p ≤ L) (hF : 100 ≤ F) (hs : s < 200) (K : Int32 → Int32 → Option α) : jn K (fun k59 => jn (fun (w60 : Int32) => k59 w60 0) (fun k61 => (if bI f = 0 then (m_X9_here F b (nI L) (nI p)).bind (fun v63 => (if v63.1 = nI s then k59 v63.2 1 else k61 v63.2)) else k61 (nI p)))) = K (nI (sp L c p f)) (bI (sgn L c p f s)) := by
  simp only [jn]
  cases f
  · have hcl := ch_le h (sk L c p)
    rw [if_pos (show bI false = 0 from rfl), here_M h hp hF, Option.bind_some]
    have hsg : sgn L c p false s = decide (ch L c (sk L c p) = s) := rfl
    rw [hsg]
    by_cases q : ch L c (sk L c p) = s
    · rw [decide_eq_true q]
      exact if_pos (show nI (ch L c (sk L c p)) = nI s by rw [q])
    · rw [decide_eq_false q]
      exact if_neg (show ¬ nI (ch L c (sk L c p)) = nI s from fun z => q ((nI_eq (by omega) (by omega)).mp z))
  · rfl
theorem must_sgn {L : Nat} {c : Nat → Nat} {p s : Nat} {f : Bool} : m_X9_must (nI (sp L c p f)) (bI f) (bI (sgn L c p f s)) = some (nI (sgP L c p f s), bI (!sgn L c p f s)) := by
  rw [must_M]
  unfold sgP
  cases f
  · simp only [Bool.not_false, Bool.true_and, Bool.false_or]
  · rfl
theorem men_jn {α : Type} {L : Nat} {c : Nat → Nat} {b rd : Nat → Int32} {F : Nat} (h : LT L c b) (hF : 100 ≤ F) (K : Int32 → Int32 → Int32 → (Nat → Int32) → Option α) :
    ∃ n' p' f' w', jn K (fun k48 => (if bI (r5F L c) = 0 then (m_X9_here F b (nI L) (nI (r5P L c))).bind (fun v50 => (if v50.1 = 59 then (m_X9_menRead F b (nI L) (v50.2 + 1) (bI (r5F L c)) rd).bind (fun v52 => k48 v52.1 v52.2.1 v52.2.2.1 v52.2.2.2) else k48 0 v50.2 (bI (r5F L c)) rd)) else k48 0 (nI (r5P L c)) (bI (r5F L c)) rd)) = K (nI n') (nI p') (bI f') w' ∧ OUT L c (rO L c) n' p' f' w' := by
  have hL := h.1
  obtain ⟨l1, l2, l3, l4, l5⟩ := r_le L c
  simp only [jn]
  cases h5 : r5F L c
  · have hS : r6S L c = sk L c (r5P L c) := by unfold r6S; rw [h5]; rfl
    have hsl : sk L c (r5P L c) ≤ L := sk_le l5
    have hcl := ch_le h (sk L c (r5P L c))
    have hE : r6E L c = !decide (sk L c (r5P L c) < L) := by unfold r6E; rw [h5, hS]; rfl
    have hsg : sgn L c (r6S L c) (r5F L c) 59 = decide (ch L c (sk L c (r5P L c)) = 59) := by
      rw [h5, hS]; unfold sgn
      show (!false && decide (ch L c (sk L c (sk L c (r5P L c))) = 59)) = _
      rw [sk_sk]; rfl
    rw [if_pos (show bI false = 0 from rfl), here_M h l5 hF, Option.bind_some]
    by_cases q : ch L c (sk L c (r5P L c)) = 59
    · have hlt : sk L c (r5P L c) < L := by
        unfold ch at q
        split at q
        · rename_i z; exact z
        · exact absurd q (by decide)
      have h6P : r6P L c = sk L c (r5P L c) + 1 := by
        unfold r6P sgP; rw [hsg, decide_eq_true q, if_pos rfl, h5, hS]
        show sk L c (sk L c (r5P L c)) + 1 = _
        rw [sk_sk]
      have h6F : r6F L c = false := by unfold r6F; rw [hsg, decide_eq_true q]; rfl
      have hO : rO L c = finm L c 5 (mnQ L c q0 (sk L c (r5P L c) + 1) false) (mnP L c (tk q0 (aM q0)) (sk L c (r5P L c) + 1) false) (mnF L c (tk q0 (aM q0)) (sk L c (r5P L c) + 1) false) := by
        unfold rO; rw [hE, decide_eq_true hlt, if_neg (show ¬ (!true) = true by decide), h6P, h6F]
      obtain ⟨F', hF'⟩ : ∃ F', F = F' + 1 := ⟨F - 1, by omega⟩
      obtain ⟨t', m1, m2⟩ := mtl_M (w5 := rd) (p := sk L c (r5P L c) + 1) (f := false) (q := q0) (F := F) h (by omega) hF (by decide) (fun _ => by decide) (m_X9_menRead_L4 b (nI L) F (fun x6 w7 w8 w9 => some (x6, w7, w8, w9)) F')
      obtain ⟨n', p', f', w', o1, o2⟩ := men_M h hF (fun x6 w7 w8 w9 => some (x6, w7, w8, w9)) 5 F' 1 (mnQ L c q0 (sk L c (r5P L c) + 1) false) (mnP L c (tk q0 (aM q0)) (sk L c (r5P L c) + 1) false) (mnF L c (tk q0 (aM q0)) (sk L c (r5P L c) + 1) false) (if mnF L c (tk q0 (aM q0)) (sk L c (r5P L c) + 1) false then rd else rdw rd (aM q0) (mnK L c (sk L c (r5P L c) + 1) false) (mnD L c (sk L c (r5P L c) + 1) false) (mnI L c (sk L c (r5P L c) + 1) false)) t' (by omega) (by omega) (by omega) (mnP_le (by omega)) (by rw [mnQ_M]; split <;> decide) (fun hf => by
        have hq : mnQ L c q0 (sk L c (r5P L c) + 1) false = xt q0 (mnK L c (sk L c (r5P L c) + 1) false) (mnD L c (sk L c (r5P L c) + 1) false) (mnI L c (sk L c (r5P L c) + 1) false) := by unfold mnQ; rw [hf]; rfl
        have hq2 : aM (mnQ L c q0 (sk L c (r5P L c) + 1) false) = aM q0 + 1 := by rw [hq]; rfl
        refine ⟨by rw [hq2]; rfl, by rw [m2 hf, hq2], ?_⟩
        rw [hf, if_neg Bool.false_ne_true, hq]
        exact RDm_xt (fun m hm => absurd hm (Nat.not_lt_zero m)))
      refine ⟨n', p', f', w', ?_, by rw [hO]; exact o2⟩
      refine Eq.trans (if_pos (show nI (ch L c (sk L c (r5P L c))) = 59 by rw [q]; rfl)) ?_
      have hmr : m_X9_menRead F b (nI L) (nI (sk L c (r5P L c)) + 1) (bI false) rd = some (nI n', nI p', bI f', w') := by
        unfold m_X9_menRead
        rw [nI_1]
        refine Eq.trans ?_ o1
        refine Eq.trans ?_ m1
        rw [show m_X9_menRead_L4 b (nI L) F (fun x6 w7 w8 w9 => some (x6, w7, w8, w9)) F 0 0 (nI (sk L c (r5P L c) + 1)) (bI false) rd = m_X9_menRead_L4 b (nI L) F (fun x6 w7 w8 w9 => some (x6, w7, w8, w9)) (F' + 1) 0 0 (nI (sk L c (r5P L c) + 1)) (bI false) rd by rw [← hF']]
        show m_X9_menRead_L4s _ _ _ _ _ _ _ _ _ _ = _
        unfold m_X9_menRead_L4s
        rw [if_pos (show bI false = 0 from rfl)]
        rfl
      refine Eq.trans (congrArg (fun z => Option.bind z _) hmr) ?_
      rw [Option.bind_some]
    · refine ⟨0, sk L c (r5P L c), false, rd, ?_, hsl, fun z => absurd z (by decide), fun _ => ?_⟩
      · exact if_neg (show ¬ nI (ch L c (sk L c (r5P L c))) = 59 from fun z => q ((nI_eq (b := 59) (by omega) (by decide)).mp z))
      · rw [sk_sk]
        by_cases hlt : sk L c (r5P L c) < L
        · have h6P : r6P L c = sk L c (r5P L c) := by
            unfold r6P sgP; rw [hsg, decide_eq_false q, if_neg Bool.false_ne_true, h5, hS]
            show sk L c (sk L c (r5P L c)) = _
            rw [sk_sk]
          have h6F : r6F L c = true := by unfold r6F; rw [hsg, decide_eq_false q]; rfl
          obtain ⟨t1, t2, t3⟩ := man_true (L := L) (c := c) (T := tk q0 (aM q0)) (p := sk L c (r5P L c)) (q := q0)
          have hO : rO L c = (q0, sk L c (r5P L c), true) := by
            unfold rO
            rw [hE, decide_eq_true hlt, if_neg (show ¬ (!true) = true by decide), h6P, h6F, t1, t2, t3, fin_true]
          rw [hO, decide_eq_true hlt]
          exact ⟨rfl, rfl, fun z => absurd z (show ¬ true = false by decide)⟩
        · have hO : rO L c = (q0, sk L c (r5P L c), false) := by
            unfold rO
            rw [hE, decide_eq_false hlt, if_pos (show (!false) = true from rfl), hS, h5]
          rw [hO, decide_eq_false hlt]
          exact ⟨rfl, rfl, fun _ => ⟨rfl, fun m hm => absurd hm (Nat.not_lt_zero m)⟩⟩
  · have hO : rO L c = (q0, r5P L c, true) := by
      have hS : r6S L c = r5P L c := by unfold r6S; rw [h5]; rfl
      unfold rO r6E
      rw [h5, hS]; rfl
    rw [if_neg (show ¬ bI true = 0 by decide)]
    refine ⟨0, r5P L c, true, rd, rfl, l5, fun _ => ?_, fun z => absurd z (by decide)⟩
    rw [hO]; exact ⟨rfl, rfl⟩
theorem end_jn {α : Type} {L : Nat} {c : Nat → Nat} {b w : Nat → Int32} {F n p : Nat} {f : Bool} {o : AR × Nat × Bool} (h : LT L c b) (hF : 100 ≤ F) (ho : OUT L c o n p f w) (K : Int32 → Int32 → Option α) : jn K (fun k42 => jn (fun (w43 : Int32) => k42 w43 1) (fun k44 => (if bI f = 0 then (m_X9_here F b (nI L) (nI p)).bind (fun v46 => (if v46.1 = 0 then k42 v46.2 0 else k44 v46.2)) else k44 (nI p)))) = K (nI o.2.1) (bI o.2.2) := by
  obtain ⟨hp, o1, o2⟩ := ho
  simp only [jn]
  cases f
  · obtain ⟨a1, a2, -⟩ := o2 rfl
    have hcl := ch_le h (sk L c p)
    rw [if_pos (show bI false = 0 from rfl), here_M h hp hF, Option.bind_some, a1, a2]
    by_cases q : sk L c p < L
    · obtain ⟨c1, c2, c3⟩ := h.2 _ q
      have e : ch L c (sk L c p) = c (sk L c p) := by unfold ch; rw [if_pos q]
      rw [decide_eq_true q]
      exact if_neg (show ¬ nI (ch L c (sk L c p)) = 0 from fun z => by
        have := (nI_eq (b := 0) (by omega) (by decide)).mp z; omega)
    · have e : ch L c (sk L c p) = 0 := by unfold ch; rw [if_neg q]
      rw [decide_eq_false q]
      exact if_pos (show nI (ch L c (sk L c p)) = 0 by rw [e]; rfl)
  · obtain ⟨a1, a2⟩ := o1 rfl
    rw [if_neg (show ¬ bI true = 0 by decide), a1, a2]; rfl
