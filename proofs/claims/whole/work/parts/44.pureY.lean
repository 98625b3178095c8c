/-! ===== PURE Y: one man, read by both ===== -/
/-- places and faults of a man's parts -/
def y1 (L : Nat) (c : Nat → Nat) (p : Nat) (f : Bool) : Nat := if kok L c p f then sp L c p f + 1 else sp L c p f
def y2 (L : Nat) (c : Nat → Nat) (p : Nat) (f : Bool) : Nat := if dok L c p f then sp L c p f + 1 else sp L c p f
theorem y1_le {L : Nat} {c : Nat → Nat} {p : Nat} {f : Bool} (h : p ≤ L) : y1 L c p f ≤ L := by
  have := sp_le (c := c) (f := f) h
  unfold y1
  cases hk : kok L c p f
  · exact this
  · have := (kok_lt hk).2.1; rw [if_pos rfl]; omega
theorem y2_le {L : Nat} {c : Nat → Nat} {p : Nat} {f : Bool} (h : p ≤ L) : y2 L c p f ≤ L := by
  have := sp_le (c := c) (f := f) h
  unfold y2
  cases hk : dok L c p f
  · exact this
  · unfold dok at hk
    rw [Bool.and_eq_true] at hk
    have := isd_lt hk.2; rw [if_pos rfl]; omega
theorem nmP_le {L : Nat} {c : Nat → Nat} {p most barred : Nat} {f : Bool} (h : p ≤ L) : nmP L c p f most barred ≤ L := by
  have := sp_le (c := c) (f := f) h
  unfold nmP
  cases hk : nmF L c p f most barred
  · rw [if_neg (by decide)]
    unfold nmF at hk
    have hd : dok L c p f = true := by
      cases hd : dok L c p f
      · rw [hd, Bool.false_and] at hk; exact absurd hk (by decide)
      · rfl
    unfold dok at hd
    rw [Bool.and_eq_true] at hd
    have h1 := isd_lt hd.2
    unfold np2
    split
    · rename_i q; have := isd_lt q; omega
    · omega
  · rw [if_pos rfl]; exact this
/-- the parts: place and fault behind kind, behind paint; whether an inch comes; its place and fault -/
def g1 (L : Nat) (c : Nat → Nat) (p : Nat) (f : Bool) : Nat := y1 L c p f
def h1 (L : Nat) (c : Nat → Nat) (p : Nat) (f : Bool) : Bool := !kok L c p f
def g2 (L : Nat) (c : Nat → Nat) (p : Nat) (f : Bool) : Nat := y2 L c (g1 L c p f) (h1 L c p f)
def h2 (L : Nat) (c : Nat → Nat) (p : Nat) (f : Bool) : Bool := !dok L c (g1 L c p f) (h1 L c p f)
def atx (L : Nat) (c : Nat → Nat) (p : Nat) (f : Bool) : Bool := sgn L c (g2 L c p f) (h2 L c p f) 64
def g3 (L : Nat) (c : Nat → Nat) (p : Nat) (f : Bool) : Nat := sp L c (g2 L c p f) (h2 L c p f)
def mnF (L : Nat) (c : Nat → Nat) (T p : Nat) (f : Bool) : Bool := if atx L c p f then nmF L c (g3 L c p f + 1) false 11 T else h2 L c p f
def mnP (L : Nat) (c : Nat → Nat) (T p : Nat) (f : Bool) : Nat := if atx L c p f then nmP L c (g3 L c p f + 1) false 11 T else g3 L c p f
def mnI (L : Nat) (c : Nat → Nat) (p : Nat) (f : Bool) : Nat := if atx L c p f then nmV L c (g3 L c p f + 1) false else 12
def mnK (L : Nat) (c : Nat → Nat) (p : Nat) (f : Bool) : Nat := if kok L c p f then kx (ch L c (sp L c p f)) else 0
def mnD (L : Nat) (c : Nat → Nat) (p : Nat) (f : Bool) : Nat := if dok L c (g1 L c p f) (h1 L c p f) then ch L c (sp L c (g1 L c p f) (h1 L c p f)) - 48 else 0
/-- one man more -/
def xt (q : AR) (kd pt i : Nat) : AR := (aM q + 1, fun k => if k = aM q then kd else aK q k, fun k => if k = aM q then pt else aP q k, fun k => if k = aM q then i else aI q k, aS q, aT q, aH q, aN q)
theorem xt_P {q : AR} {kd pt i : Nat} {P : Nat → Int32} : upd (cP q P) (aM q) (nI pt) = cP (xt q kd pt i) P := by
  funext k
  show _ = if k < aM q + 1 then nI (if k = aM q then pt else aP q k) else P k
  by_cases e : k = aM q
  · subst e; rw [upd_eq, if_pos (by omega), if_pos rfl]
  · rw [upd_ne e, if_neg e]
    show (if k < aM q then nI (aP q k) else P k) = _
    by_cases e2 : k < aM q
    · rw [if_pos e2, if_pos (by omega)]
    · rw [if_neg e2, if_neg (by omega)]
theorem xt_I {q : AR} {kd pt i : Nat} {I : Nat → Int32} : upd (cI q I) (aM q) (eC i) = cI (xt q kd pt i) I := by
  funext k
  show _ = if k < aM q + 1 then eC (if k = aM q then i else aI q k) else I k
  by_cases e : k = aM q
  · subst e; rw [upd_eq, if_pos (by omega), if_pos rfl]
  · rw [upd_ne e, if_neg e]
    show (if k < aM q then eC (aI q k) else I k) = _
    by_cases e2 : k < aM q
    · rw [if_pos e2, if_pos (by omega)]
    · rw [if_neg e2, if_neg (by omega)]
theorem xt_K {q : AR} {kd pt i : Nat} {K : Nat → Int32} : upd (cK q K) (aM q) (nI kd) = cK (xt q kd pt i) K := by
  funext k
  show _ = if k < aM q + 1 then nI (if k = aM q then kd else aK q k) else K k
  by_cases e : k = aM q
  · subst e; rw [upd_eq, if_pos (by omega), if_pos rfl]
  · rw [upd_ne e, if_neg e]
    show (if k < aM q then nI (aK q k) else K k) = _
    by_cases e2 : k < aM q
    · rw [if_pos e2, if_pos (by omega)]
    · rw [if_neg e2, if_neg (by omega)]
theorem nm_in {L : Nat} {c : Nat → Nat} {p T : Nat} (h : nmF L c p false 11 T = false) : nmV L c p false < 12 ∧ T.testBit (nmV L c p false) = false := by
  unfold nmF at h
  unfold nmV
  cases hd : dok L c p false
  · rw [hd, Bool.false_and] at h; exact absurd h (by decide)
  · rw [hd, Bool.true_and, Bool.not_not] at h
    unfold nbd at h
    rw [Bool.or_eq_false_iff] at h
    rw [if_pos rfl]
    exact ⟨by have := of_decide_eq_false h.1; omega, h.2⟩
/-- the rim behind a man -/
def mnQ (L : Nat) (c : Nat → Nat) (q : AR) (p : Nat) (f : Bool) : AR := if mnF L c (tk q (aM q)) p f then q else xt q (mnK L c p f) (mnD L c p f) (mnI L c p f)
theorem man_C {L : Nat} {c : Nat → Nat} {a P I K : Nat → Int32} {F p : Nat} {f : Bool} {q : AR} (h : LT L c a) (hp : p ≤ L) (hF : 100 ≤ F) (hM : aM q ≤ 6) (h6 : mnF L c (tk q (aM q)) p f = false → aM q < 6) :
    m_X6_readMan F a (cP q P) (cI q I) (cK q K) (nI (aM q)) (nI L) (nI p) (bI f) = some (cP (mnQ L c q p f) P, cI (mnQ L c q p f) I, cK (mnQ L c q p f) K, nI (aM (mnQ L c q p f)), nI (mnP L c (tk q (aM q)) p f), bI (mnF L c (tk q (aM q)) p f)) := by
  have hL := h.1
  have l1 := y1_le (c := c) (f := f) hp
  have l2 : g2 L c p f ≤ L := y2_le l1
  have l3 : g3 L c p f ≤ L := sp_le l2
  have hT := tk_lt q (aM q)
  unfold m_X6_readMan
  rw [kind_C h hp hF, Option.bind_some]
  refine Eq.trans (congrArg (fun z => Option.bind z _) (rdigit_C (p := g1 L c p f) (f := h1 L c p f) h l1 hF)) ?_
  rw [Option.bind_some]
  refine Eq.trans (congrArg (fun z => Option.bind z _) (next_T (p := g2 L c p f) (f := h2 L c p f) (s := 64) h l2 (by decide) (by decide) hF)) ?_
  rw [Option.bind_some]
  simp only [jn]
  have fin : ∀ (i : Nat) (y : Int32) (pp : Nat) (ff : Bool), y = eC i → (ff = false → aM q < 6) → (if bI ff = 0 then (m_X3_enlist (cP q P) (cI q I) (cK q K) (nI (aM q)) (nI (mnK L c p f)) (nI (mnD L c p f)) y).bind (fun v8 => some (v8.1, v8.2.1, v8.2.2.1, v8.2.2.2, nI pp, bI ff)) else some (cP q P, cI q I, cK q K, nI (aM q), nI pp, bI ff)) = some (cP (if ff then q else xt q (mnK L c p f) (mnD L c p f) i) P, cI (if ff then q else xt q (mnK L c p f) (mnD L c p f) i) I, cK (if ff then q else xt q (mnK L c p f) (mnD L c p f) i) K, nI (aM (if ff then q else xt q (mnK L c p f) (mnD L c p f) i)), nI pp, bI ff) := by
    intro i y pp ff hy h6
    subst hy
    rw [ib0]
    cases ff
    · have := h6 rfl
      unfold m_X3_enlist
      rw [if_neg (by decide), chk_nI _ this (by decide), chk_nI _ this (by decide), chk_nI _ this (by decide), cl (by omega), nI_1, xt_P (kd := mnK L c p f) (i := i), xt_I (kd := mnK L c p f) (pt := mnD L c p f), xt_K (pt := mnD L c p f) (i := i)]
      rfl
    · rfl
  unfold mnQ
  cases ha : atx L c p f
  · have e1 : mnF L c (tk q (aM q)) p f = h2 L c p f := by unfold mnF; rw [ha]; rfl
    have e2 : mnP L c (tk q (aM q)) p f = g3 L c p f := by unfold mnP; rw [ha]; rfl
    have e3 : mnI L c p f = 12 := by unfold mnI; rw [ha]; rfl
    rw [e1] at h6
    rw [e1, e2, e3]
    refine Eq.trans (show _ = (if bI (atx L c p f) = 0 then _ else _) from rfl) ?_
    rw [ha, if_pos (show bI false = 0 from rfl)]
    exact fin 12 (-1) (g3 L c p f) (h2 L c p f) rfl h6
  · have hf2 : h2 L c p f = false := by
      have ha2 := ha
      unfold atx sgn at ha2
      rw [Bool.and_eq_true] at ha2
      cases hh : h2 L c p f
      · rfl
      · rw [hh] at ha2; exact absurd ha2.1 (by decide)
    have hlt : g3 L c p f < L := by
      have ha2 := ha
      unfold atx sgn ch at ha2
      rw [Bool.and_eq_true] at ha2
      have w := of_decide_eq_true ha2.2
      split at w
      · rename_i z; exact z
      · exact absurd w (by decide)
    have e0 : sgn L c (g3 L c p f) (h2 L c p f) 64 = true := by
      have ha2 := ha
      unfold atx sgn at ha2
      unfold sgn g3
      rw [sp_sp]; exact ha2
    have e1 : mnF L c (tk q (aM q)) p f = nmF L c (g3 L c p f + 1) false 11 (tk q (aM q)) := by unfold mnF; rw [ha]; rfl
    have e2 : mnP L c (tk q (aM q)) p f = nmP L c (g3 L c p f + 1) false 11 (tk q (aM q)) := by unfold mnP; rw [ha]; rfl
    have e3 : mnI L c p f = nmV L c (g3 L c p f + 1) false := by unfold mnI; rw [ha]; rfl
    have e4 : sgP L c (g3 L c p f) (h2 L c p f) 64 = g3 L c p f + 1 := by
      unfold sgP; rw [e0, if_pos rfl]; unfold g3; rw [sp_sp]
    have es := sign_C (p := g3 L c p f) (f := h2 L c p f) (s := 64) (F := F) h l3 (by decide) (by decide) hF
    rw [e4, e0] at es
    rw [e1] at h6
    rw [e1, e2, e3]
    refine Eq.trans (show _ = (if bI (atx L c p f) = 0 then _ else _) from rfl) ?_
    rw [ha, if_neg (show ¬ bI true = 0 by decide)]
    refine Eq.trans (congrArg (fun z => Option.bind z _) es) ?_
    rw [Option.bind_some, taken_C hM (by omega), Option.bind_some]
    refine Eq.trans (congrArg (fun z => Option.bind z _) (number_C (p := g3 L c p f + 1) (f := false) (most := 11) (F := F) h (by omega) hF (by omega) hT)) ?_
    rw [Option.bind_some]
    by_cases hn : nmF L c (g3 L c p f + 1) false 11 (tk q (aM q)) = false
    · exact fin (nmV L c (g3 L c p f + 1) false) _ _ _ (eC_t (nm_in hn).1).symm h6
    · have hn : nmF L c (g3 L c p f + 1) false 11 (tk q (aM q)) = true := by cases hz : nmF L c (g3 L c p f + 1) false 11 (tk q (aM q)) <;> simp_all
      rw [hn]; rfl
/-- the reference's turn for a man -/
def mtl (t_tape : Nat → Int32) (t_typed : Int32) (F : Nat) (r12 : Int32 → Int32 → Int32 → Int32 → (Nat → Int32) → Option (Int32 × Int32 × Int32 × (Nat → Int32))) (x1 : Int32) (x2 : Int32) (w5 : Nat → Int32) (w15 : Int32) (w16 : Int32) : Option (Int32 × Int32 × Int32 × (Nat → Int32)) := jn (fun (w17 : Int32) (x18 : Int32) => jn (fun (x19 : Int32) => jn (fun (x20 : Int32) => (m_X9_must w17 w16 x20).bind (fun v21 => jn (fun (w22 : Int32) (x23 : Int32) => (m_X9_in (x23.toInt64) (0 : Int64) (9 : Int64)).bind (fun v24 => (m_X9_must w22 v21.2 v24).bind (fun v25 => jn (fun (x26 : Int32) (x27 : Int32) (w28 : Int32) (w29 : Int32) => (if w29 = 0 then chk (3 * x2) 18 (chk ((3 * x2) + 1) 18 (chk ((3 * x2) + 2) 18 (bnd (x2 + 1) (fun x35 => r12 x27 x35 w28 w29 (upd (upd (upd w5 (3 * x2).toNatClampNeg x19) ((3 * x2) + 1).toNatClampNeg x23) ((3 * x2) + 2).toNatClampNeg x26))))) else bnd (x2 + 1) (fun x31 => r12 x27 x31 w28 w29 w5))) (fun k36 => (if v25.2 = 0 then (m_X9_here F t_tape t_typed v25.1).bind (fun v38 => (if v38.1 = 64 then (m_X9_number F t_tape t_typed (v38.2 + 1) v25.2 11 x1).bind (fun v40 => jn (fun (x41 : Int32) (x42 : Int32) => bnd (x41 ||| x42) (fun x43 => k36 v40.1 x43 v40.2.1 v40.2.2)) (fun k44 => (if v40.2.2 = 0 then k44 x1 (1 <<< (v40.1 &&& 31)) else k44 x1 0))) else k36 (-4) x1 v38.2 v25.2)) else k36 (-4) x1 v25.1 v25.2))))) (fun k46 => (if v21.2 = 0 then (m_X9_here F t_tape t_typed v21.1).bind (fun v48 => k46 v48.2 (v48.1 - 48)) else k46 v21.1 (-1))))) (fun k49 => (if x19 < 0 then k49 0 else k49 1))) (fun k51 => (if x18 = 112 then k51 0 else (if x18 = 108 then k51 1 else (if x18 = 103 then k51 2 else (if x18 = 100 then k51 3 else (if x18 = 118 then k51 4 else k51 (-1)))))))) (fun k57 => (if w16 = 0 then (m_X9_here F t_tape t_typed w15).bind (fun v59 => k57 v59.2 v59.1) else k57 w15 0))
