/-! ===== PURE ZB: all men, the reference ===== -/
def RDm (q : AR) (w : Nat → Int32) : Prop := ∀ m, m < aM q → w (3 * m) = nI (aK q m) ∧ w (3 * m + 1) = nI (aP q m) ∧ w (3 * m + 2) = eM (aI q m)
theorem RDm_xt {q : AR} {w : Nat → Int32} {kd pt i : Nat} (h : RDm q w) : RDm (xt q kd pt i) (rdw w (aM q) kd pt i) := by
  intro m hm
  have hm : m < aM q + 1 := hm
  unfold rdw
  show _ = nI (if m = aM q then kd else aK q m) ∧ _ = nI (if m = aM q then pt else aP q m) ∧ _ = eM (if m = aM q then i else aI q m)
  by_cases e : m = aM q
  · subst e
    rw [if_pos rfl, if_pos rfl, if_pos rfl]
    exact ⟨by rw [upd_ne (by omega), upd_ne (by omega), upd_eq], by rw [upd_ne (by omega), upd_eq], upd_eq⟩
  · rw [if_neg e, if_neg e, if_neg e]
    obtain ⟨a1, a2, a3⟩ := h m (by omega)
    exact ⟨by rw [upd_ne (by omega), upd_ne (by omega), upd_ne (by omega)]; exact a1, by rw [upd_ne (by omega), upd_ne (by omega), upd_ne (by omega)]; exact a2, by rw [upd_ne (by omega), upd_ne (by omega), upd_ne (by omega)]; exact a3⟩
/-- what the reference's loop ends with, against what the class ends with -/
def OUT (L : Nat) (c : Nat → Nat) (o : AR × Nat × Bool) (n p : Nat) (f : Bool) (w : Nat → Int32) : Prop :=
  p ≤ L ∧ (f = true → o.2.2 = true ∧ o.2.1 = p) ∧ (f = false → o.2.1 = sk L c p ∧ o.2.2 = decide (sk L c p < L) ∧ (o.2.2 = false → n = aM o.1 ∧ RDm o.1 w))
theorem men_off {L n x p : Nat} {b w : Nat → Int32} {F : Nat} {t : Int32} (K : Int32 → Int32 → Int32 → (Nat → Int32) → Option (Int32 × Int32 × Int32 × (Nat → Int32))) : m_X9_menRead_L4 b (nI L) F K (n + 1) t (nI x) (nI p) (bI true) w = K (nI x) (nI p) (bI true) w := by
  show m_X9_menRead_L4s _ _ _ _ _ _ _ _ _ _ = _
  unfold m_X9_menRead_L4s
  rw [if_neg (show ¬ bI true = 0 by decide)]
theorem men_M {L : Nat} {c : Nat → Nat} {b : Nat → Int32} {F : Nat} (h : LT L c b) (hF : 100 ≤ F) (K : Int32 → Int32 → Int32 → (Nat → Int32) → Option (Int32 × Int32 × Int32 × (Nat → Int32))) : ∀ d n x q p f w t, x + d = 6 → d + 1 < n → 1 ≤ x → p ≤ L → aM q ≤ 6 → (f = false → aM q = x ∧ t = nI (tk q (aM q)) ∧ RDm q w) →
    ∃ n' p' f' w', m_X9_menRead_L4 b (nI L) F K n t (nI x) (nI p) (bI f) w = K (nI n') (nI p') (bI f') w' ∧ OUT L c (finm L c d q p f) n' p' f' w'
  | d, n, x, q, p, true, w, t, hx, hn, h1, hp, hM, _ => by
    obtain ⟨n, rfl⟩ : ∃ n', n = n' + 1 := ⟨n - 1, by omega⟩
    refine ⟨x, p, true, w, men_off K, hp, fun _ => ?_, fun z => absurd z (by decide)⟩
    rw [fin_true]; exact ⟨rfl, rfl⟩
  | d, n, x, q, p, false, w, t, hx, hn, h1, hp, hM, hs => by
    obtain ⟨n, rfl⟩ : ∃ n', n = n' + 1 := ⟨n - 1, by omega⟩
    obtain ⟨s1, rfl, s3⟩ := hs rfl
    have hL := h.1
    have hsp : sk L c p ≤ L := sk_le hp
    have hcl := ch_le h (sk L c p)
    have hS : sp L c p false = sk L c p := rfl
    have e0 : m_X9_menRead_L4 b (nI L) F K (n + 1) (nI (tk q (aM q))) (nI x) (nI p) (bI false) w = (if nI (ch L c (sk L c p)) = 44 then (m_X9_must (nI (sk L c p)) (bI false) (bI (decide (x < 6)))).bind (fun v63 => mtl b (nI L) F (m_X9_menRead_L4 b (nI L) F K n) (nI (tk q (aM q))) (nI x) w v63.1 v63.2) else K (nI x) (nI (sk L c p)) (bI false) w) := by
      show m_X9_menRead_L4s _ _ _ _ _ _ _ _ _ _ = _
      unfold m_X9_menRead_L4s
      rw [if_pos (show bI false = 0 from rfl)]
      refine Eq.trans (show _ = (if nI x = 0 then _ else (m_X9_here F b (nI L) (nI p)).bind _) from rfl) ?_
      rw [if_neg (show ¬ nI x = 0 from fun z => by have := (nI_eq (b := 0) (by omega) (by decide)).mp z; omega), here_M h hp hF, Option.bind_some]
      by_cases w2 : nI (ch L c (sk L c p)) = 44
      · refine Eq.trans ?_ (if_pos w2).symm
        refine Eq.trans (if_pos w2) ?_
        refine Eq.trans (if_neg (show ¬ nI x ≤ 0 from nInle (b := 0) (by omega) (by decide) (by omega))) ?_
        by_cases w3 : x < 6
        · rw [decide_eq_true w3]
          exact if_neg (show ¬ (6 : Int32) ≤ nI x from nInle (a := 6) (by decide) (by omega) w3)
        · rw [decide_eq_false w3]
          exact if_pos (show (6 : Int32) ≤ nI x from nIle (a := 6) (by decide) (by omega) (by omega))
      · refine Eq.trans ?_ (if_neg w2).symm
        exact if_neg w2
    by_cases w2 : ch L c (sk L c p) = 44
    rotate_left
    · refine ⟨x, sk L c p, false, w, ?_, hsp, fun z => absurd z (by decide), fun _ => ?_⟩
      · rw [e0, if_neg (show ¬ nI (ch L c (sk L c p)) = 44 from fun z => w2 ((nI_eq (b := 44) (by omega) (by decide)).mp z))]
      · rw [sk_sk]
        cases d with
        | zero =>
          refine ⟨rfl, ?_, fun _ => ⟨s1.symm, s3⟩⟩
          show (false || decide (sp L c p false < L)) = _
          rw [hS]; rfl
        | succ d =>
          unfold finm
          rw [hS]
          by_cases w4 : L ≤ sk L c p
          · rw [if_pos (Or.inr w4)]
            exact ⟨rfl, (decide_eq_false (by omega)).symm, fun _ => ⟨s1.symm, s3⟩⟩
          · rw [if_neg (fun z => by rcases z with z | z; exact absurd z (by decide); omega), if_neg w2]
            exact ⟨rfl, (decide_eq_true (by omega)).symm, fun z => absurd z (show ¬ true = false by decide)⟩
    have hlt : sk L c p < L := by
      unfold ch at w2
      split at w2
      · rename_i z; exact z
      · exact absurd w2 (by decide)
    rw [e0, if_pos (show nI (ch L c (sk L c p)) = 44 by rw [w2]; rfl), must_M, Option.bind_some]
    cases d with
    | zero =>
      have hx6 : x = 6 := by omega
      subst hx6
      obtain ⟨t', m1, -⟩ := mtl_M (w5 := w) (p := sk L c p) (f := true) (q := q) (F := F) h hsp hF hM (fun z => absurd z (by rw [(man_true (L := L) (c := c) (T := tk q (aM q)) (p := sk L c p) (q := q)).1]; decide)) (m_X9_menRead_L4 b (nI L) F K n)
      obtain ⟨t1, t2, t3⟩ := man_true (L := L) (c := c) (T := tk q (aM q)) (p := sk L c p) (q := q)
      rw [t1, t2, if_pos rfl, s1] at m1
      obtain ⟨n, rfl⟩ : ∃ n', n = n' + 1 := ⟨n - 1, by omega⟩
      refine ⟨7, sk L c p, true, w, ?_, hsp, fun _ => ?_, fun z => absurd z (by decide)⟩
      · rw [s1]
        refine Eq.trans m1 ?_
        exact men_off K
      · show (false || decide (sp L c p false < L)) = true ∧ sp L c p false = sk L c p
        rw [hS, decide_eq_true hlt]; exact ⟨rfl, rfl⟩
    | succ d =>
      have hx6 : x < 6 := by omega
      obtain ⟨t', m1, m2⟩ := mtl_M (w5 := w) (p := sk L c p + 1) (f := false) (q := q) (F := F) h (by omega) hF hM (fun _ => by omega) (m_X9_menRead_L4 b (nI L) F K n)
      rw [decide_eq_true hx6]
      have e1 : finm L c (d + 1) q p false = finm L c d (mnQ L c q (sk L c p + 1) false) (mnP L c (tk q (aM q)) (sk L c p + 1) false) (mnF L c (tk q (aM q)) (sk L c p + 1) false) := by
        rw [finm, hS, if_neg (fun z => by rcases z with z | z; exact absurd z (by decide); omega), if_pos w2]
      have hMq : aM (mnQ L c q (sk L c p + 1) false) ≤ 6 := by rw [mnQ_M]; split <;> omega
      obtain ⟨n', p', f', w', o1, o2⟩ := men_M h hF K d n (x + 1) (mnQ L c q (sk L c p + 1) false) (mnP L c (tk q (aM q)) (sk L c p + 1) false) (mnF L c (tk q (aM q)) (sk L c p + 1) false) (if mnF L c (tk q (aM q)) (sk L c p + 1) false then w else rdw w (aM q) (mnK L c (sk L c p + 1) false) (mnD L c (sk L c p + 1) false) (mnI L c (sk L c p + 1) false)) t' (by omega) (by omega) (by omega) (mnP_le (by omega)) hMq (fun hf => by
        have hq : mnQ L c q (sk L c p + 1) false = xt q (mnK L c (sk L c p + 1) false) (mnD L c (sk L c p + 1) false) (mnI L c (sk L c p + 1) false) := by unfold mnQ; rw [hf]; rfl
        have hq2 : aM (mnQ L c q (sk L c p + 1) false) = aM q + 1 := by rw [hq]; rfl
        refine ⟨by rw [hq2, s1], by rw [m2 hf, hq2], ?_⟩
        rw [hf, if_neg Bool.false_ne_true, hq]
        exact RDm_xt s3)
      refine ⟨n', p', f', w', ?_, by rw [e1]; exact o2⟩
      rw [← o1, ← s1]
      exact m1
