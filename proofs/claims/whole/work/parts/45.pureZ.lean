/-! ===== PURE Z: the reference's turn for a man ===== -/
theorem here_jn {α : Type} {L : Nat} {c : Nat → Nat} {b : Nat → Int32} {F p : Nat} {f : Bool} (h : LT L c b) (hp : p ≤ L) (hF : 100 ≤ F) (K : Int32 → Int32 → Option α) : jn K (fun k => (if bI f = 0 then (m_X9_here F b (nI L) (nI p)).bind (fun v => k v.2 v.1) else k (nI p) 0)) = K (nI (sp L c p f)) (nI (if f then 0 else ch L c (sp L c p f))) := by
  simp only [jn]
  cases f
  · rw [if_pos (show bI false = 0 from rfl), here_M h hp hF]; rfl
  · rfl
theorem kind_jn {α : Type} {x : Nat} (hx : x < 127) (K : Int32 → Option α) : jn K (fun k => (if nI x = 112 then k 0 else (if nI x = 108 then k 1 else (if nI x = 103 then k 2 else (if nI x = 100 then k 3 else (if nI x = 118 then k 4 else k (-1))))))) = K (kI x) := by
  rw [← kindM_all x hx]
  simp only [jn]
  by_cases q1 : nI x = 112
  · rw [if_pos q1, if_pos q1]
  rw [if_neg q1, if_neg q1]
  by_cases q2 : nI x = 108
  · rw [if_pos q2, if_pos q2]
  rw [if_neg q2, if_neg q2]
  by_cases q3 : nI x = 103
  · rw [if_pos q3, if_pos q3]
  rw [if_neg q3, if_neg q3]
  by_cases q4 : nI x = 100
  · rw [if_pos q4, if_pos q4]
  rw [if_neg q4, if_neg q4]
  by_cases q5 : nI x = 118
  · rw [if_pos q5, if_pos q5]
  rw [if_neg q5, if_neg q5]
theorem ksgn_jn {α : Type} {x : Nat} (hx : x < 127) (K : Int32 → Option α) : jn K (fun k => (if kI x < 0 then k 0 else k 1)) = K (bI (decide (kx x < 5))) := by
  have := (kI_neg x hx).2
  simp only [jn]
  by_cases q : kx x < 5
  · rw [decide_eq_true q] at this ⊢
    rw [if_neg (of_decide_eq_false this)]; rfl
  · rw [decide_eq_false q] at this ⊢
    rw [if_pos (of_decide_eq_true this)]; rfl
theorem paint_jn {α : Type} {L : Nat} {c : Nat → Nat} {b : Nat → Int32} {F p : Nat} {f : Bool} (h : LT L c b) (hp : p ≤ L) (hF : 100 ≤ F) (K : Int32 → Int32 → Option α) : jn K (fun k => (if bI f = 0 then (m_X9_here F b (nI L) (nI p)).bind (fun v => k v.2 (v.1 - 48)) else k (nI p) (-1))) = K (nI (sp L c p f)) (if f then -1 else nI (ch L c (sp L c p f)) - 48) := by
  simp only [jn]
  cases f
  · rw [if_pos (show bI false = 0 from rfl), here_M h hp hF]; rfl
  · rfl
theorem wi_m1 : wi (-1) 0 9 = false := by decide
theorem wi_isd : ∀ x, x < 127 → wi (nI x - 48) 0 9 = isd x := by decide +kernel
theorem inch_jn {α : Type} {L : Nat} {c : Nat → Nat} {b : Nat → Int32} {F p T : Nat} {f : Bool} (h : LT L c b) (hp : p ≤ L) (hF : 100 ≤ F) (hT : T < 4096) (K : Int32 → Int32 → Int32 → Int32 → Option α) :
    ∃ t, jn K (fun k36 => (if bI f = 0 then (m_X9_here F b (nI L) (nI p)).bind (fun v38 => (if v38.1 = 64 then (m_X9_number F b (nI L) (v38.2 + 1) (bI f) 11 (nI T)).bind (fun v40 => jn (fun (x41 : Int32) (x42 : Int32) => bnd (x41 ||| x42) (fun x43 => k36 v40.1 x43 v40.2.1 v40.2.2)) (fun k44 => (if v40.2.2 = 0 then k44 (nI T) (1 <<< (v40.1 &&& 31)) else k44 (nI T) 0))) else k36 (-4) (nI T) v38.2 (bI f))) else k36 (-4) (nI T) (nI p) (bI f)))
      = K (if sgn L c p f 64 then nI (nmV L c (sp L c p f + 1) false) else -4) t (nI (if sgn L c p f 64 then nmP L c (sp L c p f + 1) false 11 T else sp L c p f)) (bI (if sgn L c p f 64 then nmF L c (sp L c p f + 1) false 11 T else f)) ∧ t = nI (if sgn L c p f 64 && !nmF L c (sp L c p f + 1) false 11 T then T ||| 2 ^ nmV L c (sp L c p f + 1) false else T) := by
  have hL := h.1
  have hsp := sp_le (c := c) (f := f) hp
  simp only [jn]
  cases f
  · rw [if_pos (show bI false = 0 from rfl), here_M h hp hF, Option.bind_some]
    have hs : sgn L c p false 64 = decide (ch L c (sk L c p) = 64) := rfl
    have hcl := ch_le h (sk L c p)
    simp only
    by_cases q : ch L c (sk L c p) = 64
    · have hlt : sk L c p < L := by
        unfold ch at q
        split at q
        · rename_i z; exact z
        · exact absurd q (by decide)
      rw [hs, decide_eq_true q, if_pos (show nI (ch L c (sk L c p)) = 64 by rw [q]; rfl), nI_1]
      have hnum : m_X9_number F b (nI L) (nI (sk L c p + 1)) (bI false) 11 (nI T) = some (nI (nmV L c (sk L c p + 1) false), nI (nmP L c (sk L c p + 1) false 11 T), bI (nmF L c (sk L c p + 1) false 11 T)) := number_M (p := sk L c p + 1) (f := false) (most := 11) (barred := T) (F := F) h (by omega) hF (by omega) hT
      rw [hnum, Option.bind_some]
      simp only [bnd, ib0]
      have hS : sp L c p false = sk L c p := rfl
      rw [hS]
      cases hn : nmF L c (sk L c p + 1) false 11 T
      · have hv := (nm_in hn).1
        refine ⟨_, rfl, ?_⟩
        rw [sh1 _ (by omega), fa_or]; rfl
      · refine ⟨_, rfl, ?_⟩
        rw [or0]; rfl
    · rw [hs, decide_eq_false q, if_neg (show ¬ nI (ch L c (sk L c p)) = 64 from fun z => q ((nI_eq (b := 64) (by omega) (by decide)).mp z))]
      exact ⟨_, rfl, rfl⟩
  · rw [if_neg (show ¬ bI true = 0 by decide)]
    exact ⟨_, rfl, rfl⟩
def rdw (w5 : Nat → Int32) (n kd pt i : Nat) : Nat → Int32 := upd (upd (upd w5 (3 * n) (nI kd)) (3 * n + 1) (nI pt)) (3 * n + 2) (eM i)
theorem mn_ok {L : Nat} {c : Nat → Nat} {T p : Nat} {f : Bool} (h : mnF L c T p f = false) : kok L c p f = true ∧ dok L c (g1 L c p f) (h1 L c p f) = true ∧ (atx L c p f = true → nmF L c (g3 L c p f + 1) false 11 T = false) := by
  have hd : h2 L c p f = false ∧ (atx L c p f = true → nmF L c (g3 L c p f + 1) false 11 T = false) := by
    unfold mnF at h
    cases ha : atx L c p f
    · rw [ha] at h; exact ⟨h, fun q => absurd q (by decide)⟩
    · rw [ha] at h
      refine ⟨?_, fun _ => h⟩
      unfold atx sgn at ha
      rw [Bool.and_eq_true] at ha
      cases hh : h2 L c p f
      · rfl
      · rw [hh] at ha; exact absurd ha.1 (by decide)
  have hd2 : dok L c (g1 L c p f) (h1 L c p f) = true := by
    have := hd.1
    unfold h2 at this
    cases hh : dok L c (g1 L c p f) (h1 L c p f)
    · rw [hh] at this; exact absurd this (by decide)
    · rfl
  refine ⟨?_, hd2, hd.2⟩
  unfold dok at hd2
  rw [Bool.and_eq_true] at hd2
  have := hd2.1
  unfold h1 at this
  rw [Bool.not_not] at this; exact this
theorem mtl_M {L : Nat} {c : Nat → Nat} {b w5 : Nat → Int32} {F p : Nat} {f : Bool} {q : AR} (h : LT L c b) (hp : p ≤ L) (hF : 100 ≤ F) (hM : aM q ≤ 6) (h6 : mnF L c (tk q (aM q)) p f = false → aM q < 6) (R : Int32 → Int32 → Int32 → Int32 → (Nat → Int32) → Option (Int32 × Int32 × Int32 × (Nat → Int32))) :
    ∃ t, mtl b (nI L) F R (nI (tk q (aM q))) (nI (aM q)) w5 (nI p) (bI f) = R t (nI (aM q + 1)) (nI (mnP L c (tk q (aM q)) p f)) (bI (mnF L c (tk q (aM q)) p f)) (if mnF L c (tk q (aM q)) p f then w5 else rdw w5 (aM q) (mnK L c p f) (mnD L c p f) (mnI L c p f)) ∧ (mnF L c (tk q (aM q)) p f = false → t = nI (tk (mnQ L c q p f) (aM q + 1))) := by
  have hL := h.1
  have hsp := sp_le (c := c) (f := f) hp
  have l1 : g1 L c p f ≤ L := y1_le hp
  have l2 : g2 L c p f ≤ L := y2_le l1
  have hT := tk_lt q (aM q)
  have hcz : (if f then 0 else ch L c (sp L c p f)) < 127 := by
    have := ch_le h (sp L c p f)
    cases f
    · show ch L c _ < 127; omega
    · show 0 < 127; decide
  have k1 : (!f && decide (kx (if f then 0 else ch L c (sp L c p f)) < 5)) = kok L c p f := by
    cases f <;> rfl
  have k2 : (f || !decide (kx (if f then 0 else ch L c (sp L c p f)) < 5)) = h1 L c p f := by
    unfold h1 kok
    cases f
    · simp
    · rfl
  obtain ⟨t, e1, e2⟩ := inch_jn (p := g2 L c p f) (f := h2 L c p f) (F := F) h l2 hF hT (fun x26 x27 w28 w29 => (if w29 = 0 then chk (3 * nI (aM q)) 18 (chk ((3 * nI (aM q)) + 1) 18 (chk ((3 * nI (aM q)) + 2) 18 (bnd (nI (aM q) + 1) (fun x35 => R x27 x35 w28 w29 (upd (upd (upd w5 (3 * nI (aM q)).toNatClampNeg (kI (if f then 0 else ch L c (sp L c p f)))) ((3 * nI (aM q)) + 1).toNatClampNeg (if h1 L c p f then -1 else nI (ch L c (sp L c (g1 L c p f) (h1 L c p f))) - 48)) ((3 * nI (aM q)) + 2).toNatClampNeg x26))))) else bnd (nI (aM q) + 1) (fun x31 => R x27 x31 w28 w29 w5)))
  refine ⟨t, ?_, fun hf => ?_⟩
  · unfold mtl
    refine Eq.trans (here_jn (c := c) h hp hF _) ?_
    refine Eq.trans (kind_jn hcz _) ?_
    refine Eq.trans (ksgn_jn hcz _) ?_
    refine Eq.trans (congrArg (fun z => Option.bind z _) (must_M (p := sp L c p f) (f := f) (x := decide (kx (if f then 0 else ch L c (sp L c p f)) < 5)))) ?_
    rw [Option.bind_some, k1, k2]
    refine Eq.trans (paint_jn (c := c) (p := g1 L c p f) (f := h1 L c p f) h l1 hF _) ?_
    have k3 : wi (if h1 L c p f then -1 else nI (ch L c (sp L c (g1 L c p f) (h1 L c p f))) - 48) 0 9 = dok L c (g1 L c p f) (h1 L c p f) := by
      have := ch_le h (sp L c (g1 L c p f) (h1 L c p f))
      unfold dok
      cases h1 L c p f
      · exact wi_isd _ (by have := ch_le h (sp L c (g1 L c p f) false); omega)
      · exact wi_m1
    have k4 : (!h1 L c p f && dok L c (g1 L c p f) (h1 L c p f)) = dok L c (g1 L c p f) (h1 L c p f) := by
      unfold dok; cases h1 L c p f <;> rfl
    have k5 : (h1 L c p f || !dok L c (g1 L c p f) (h1 L c p f)) = h2 L c p f := by
      unfold h2 dok; cases h1 L c p f
      · simp
      · rfl
    refine Eq.trans (congrArg (fun z => Option.bind z _) (in09 _)) ?_
    rw [Option.bind_some, k3]
    refine Eq.trans (congrArg (fun z => Option.bind z _) (must_M (p := sp L c (g1 L c p f) (h1 L c p f)) (f := h1 L c p f) (x := dok L c (g1 L c p f) (h1 L c p f)))) ?_
    rw [Option.bind_some, k4, k5]
    refine Eq.trans e1 ?_
    have f1 : (if sgn L c (g2 L c p f) (h2 L c p f) 64 then nmF L c (sp L c (g2 L c p f) (h2 L c p f) + 1) false 11 (tk q (aM q)) else h2 L c p f) = mnF L c (tk q (aM q)) p f := rfl
    have f2 : (if sgn L c (g2 L c p f) (h2 L c p f) 64 then nmP L c (sp L c (g2 L c p f) (h2 L c p f) + 1) false 11 (tk q (aM q)) else sp L c (g2 L c p f) (h2 L c p f)) = mnP L c (tk q (aM q)) p f := rfl
    rw [f1, f2, ib0]
    simp only [bnd, nI_1]
    cases hf : mnF L c (tk q (aM q)) p f
    · have hn := h6 hf
      obtain ⟨o1, o2, o3⟩ := mn_ok hf
      have i0 : 3 * nI (aM q) = nI (3 * aM q) := by rw [show (3 : Int32) = nI 3 from rfl, pk_mul]
      have i2 : nI (3 * aM q) + 2 = nI (3 * aM q + 2) := nI_add _ 2
      rw [if_neg Bool.false_ne_true, if_neg Bool.false_ne_true, i0, nI_1, i2, chk_nI _ (by omega) (by decide), chk_nI _ (by omega) (by decide), chk_nI _ (by omega) (by decide), cl (by omega), cl (by omega), cl (by omega)]
      have hf0 : f = false := (kok_lt o1).1
      have hh1 : h1 L c p f = false := by unfold h1; rw [o1]; rfl
      have a1 : kI (if f then 0 else ch L c (sp L c p f)) = nI (mnK L c p f) := by
        have := (kok_lt o1).2.2
        unfold mnK kI
        rw [o1, if_pos rfl, hf0]
        rw [hf0] at this
        exact if_pos this
      have a2 : (if h1 L c p f then -1 else nI (ch L c (sp L c (g1 L c p f) (h1 L c p f))) - 48) = nI (mnD L c p f) := by
        have o4 := o2
        unfold dok at o4
        rw [Bool.and_eq_true] at o4
        have := isd_of o4.2
        unfold mnD
        rw [o2, if_pos rfl, hh1, if_neg (by decide)]
        rw [hh1] at this
        exact sub48 _ (by omega) this.1
      have a3 : (if sgn L c (g2 L c p f) (h2 L c p f) 64 then nI (nmV L c (sp L c (g2 L c p f) (h2 L c p f) + 1) false) else -4) = eM (mnI L c p f) := by
        show (if atx L c p f then nI (nmV L c (g3 L c p f + 1) false) else -4) = eM (mnI L c p f)
        unfold mnI
        cases ha : atx L c p f
        · rfl
        · rw [if_pos rfl, if_pos rfl, eM_t (nm_in (o3 ha)).1]
      rw [a1, a2, a3]; rfl
    · rfl
  · obtain ⟨o1, o2, o3⟩ := mn_ok hf
    rw [e2]
    unfold mnQ
    rw [hf, if_neg Bool.false_ne_true]
    have hx : tk (xt q (mnK L c p f) (mnD L c p f) (mnI L c p f)) (aM q) = tk q (aM q) := tk_cong (fun m hm => by
      show (if m = aM q then _ else aI q m) = aI q m
      rw [if_neg (by omega)])
    have hi : aI (xt q (mnK L c p f) (mnD L c p f) (mnI L c p f)) (aM q) = mnI L c p f := by
      show (if aM q = aM q then _ else _) = _
      rw [if_pos rfl]
    show nI (if atx L c p f && !nmF L c (g3 L c p f + 1) false 11 (tk q (aM q)) then tk q (aM q) ||| 2 ^ nmV L c (g3 L c p f + 1) false else tk q (aM q)) = nI (if aI (xt q (mnK L c p f) (mnD L c p f) (mnI L c p f)) (aM q) < 12 then tk (xt q (mnK L c p f) (mnD L c p f) (mnI L c p f)) (aM q) ||| 2 ^ aI (xt q (mnK L c p f) (mnD L c p f) (mnI L c p f)) (aM q) else tk (xt q (mnK L c p f) (mnD L c p f) (mnI L c p f)) (aM q))
    rw [hx, hi]
    unfold mnI
    cases ha : atx L c p f
    · rfl
    · have hz := nm_in (o3 ha)
      rw [o3 ha, if_pos rfl, if_pos hz.1]; rfl
