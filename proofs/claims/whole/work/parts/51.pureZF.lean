/-! ===== PURE ZF: rim, the reference ===== -/
theorem comes_M {r : AR} {N : Nat → Int32} {u : Int32} {kd pt i : Nat} (h6 : aM r < 6) : m_X9_manComes (cN r N) u (nI kd) (nI pt) (eM i) = some (cN (xt r kd pt i) N, 0) := by
  unfold m_X9_manComes
  have i0 : 6 + 3 * nI (aM r) = nI (6 + 3 * aM r) := by rw [show (6 : Int32) = nI 6 from rfl, show (3 : Int32) = nI 3 from rfl, pk_mul, nI_add]
  rw [cN_0, i0]
  simp only [bnd]
  rw [show nI (6 + 3 * aM r) + 1 = nI (6 + 3 * aM r + 1) from nI_1 _, show nI (6 + 3 * aM r) + 2 = nI (6 + 3 * aM r + 2) from nI_add _ 2, chk_nI _ (by omega) (by decide), chk_nI _ (by omega) (by decide), chk_nI _ (by omega) (by decide), cl (by omega), cl (by omega), cl (by omega)]
  have z0 : upd (upd (upd (cN r N) (6 + 3 * aM r) (nI kd)) (6 + 3 * aM r + 1) (nI pt)) (6 + 3 * aM r + 2) (eM i) 0 + 1 = nI (aM r + 1) := by
    rw [upd_ne (by omega), upd_ne (by omega), upd_ne (by omega), cN_0, nI_1]
  rw [z0]
  have hc : upd (upd (upd (upd (cN r N) (6 + 3 * aM r) (nI kd)) (6 + 3 * aM r + 1) (nI pt)) (6 + 3 * aM r + 2) (eM i)) 0 (nI (aM r + 1)) = cN (xt r kd pt i) N := by
    refine cN_ext ?_ ?_ ?_ ?_ ?_ (fun m hm => ?_) (fun m hm => ?_) (fun m hm => ?_) (fun j hj => ?_)
    · exact upd_eq
    · rw [upd_ne (by omega), upd_ne (by omega), upd_ne (by omega), upd_ne (by omega)]; rfl
    · rw [upd_ne (by omega), upd_ne (by omega), upd_ne (by omega), upd_ne (by omega)]; rfl
    · rw [upd_ne (by omega), upd_ne (by omega), upd_ne (by omega), upd_ne (by omega)]; rfl
    · rw [upd_ne (by omega), upd_ne (by omega), upd_ne (by omega), upd_ne (by omega)]; rfl
    · have hm : m < aM r + 1 := hm
      rw [upd_ne (by omega), upd_ne (by omega), upd_ne (by omega)]
      show _ = nI (if m = aM r then kd else aK r m)
      by_cases e : m = aM r
      · subst e; rw [upd_eq, if_pos rfl]
      · rw [upd_ne (by omega), if_neg e, cN_k (by omega)]
    · have hm : m < aM r + 1 := hm
      rw [upd_ne (by omega), upd_ne (by omega)]
      show _ = nI (if m = aM r then pt else aP r m)
      by_cases e : m = aM r
      · subst e; rw [upd_eq, if_pos rfl]
      · rw [upd_ne (by omega), upd_ne (by omega), if_neg e, cN_p (by omega)]
    · have hm : m < aM r + 1 := hm
      rw [upd_ne (by omega)]
      show _ = eM (if m = aM r then i else aI r m)
      by_cases e : m = aM r
      · subst e; rw [upd_eq, if_pos rfl]
      · rw [upd_ne (by omega), upd_ne (by omega), upd_ne (by omega), if_neg e, cN_i (by omega)]
    · have hj : j = 5 ∨ 6 + 3 * (aM r + 1) ≤ j := hj
      rw [upd_ne (by omega), upd_ne (by omega), upd_ne (by omega), upd_ne (by omega)]
      unfold cN
      rw [if_neg (by omega), if_neg (by omega), if_neg (by omega), if_neg (by omega), if_neg (by omega), if_neg (by omega)]
  rw [hc]
/-- the rim read, with its first j men -/
def pr (q : AR) (a b c j : Nat) : AR := (j, aK q, aP q, aI q, a, b, c, 0)
theorem pr_step {q : AR} {a b c j : Nat} : xt (pr q a b c j) (aK q j) (aP q j) (aI q j) = pr q a b c (j + 1) := by
  have e : ∀ g : Nat → Nat, (fun k => if k = j then g j else g k) = g := fun g => by
    funext k
    by_cases h : k = j
    · rw [if_pos h, h]
    · rw [if_neg h]
  refine AR_ext rfl ?_ ?_ ?_ rfl rfl rfl rfl
  · exact e (aK q)
  · exact e (aP q)
  · exact e (aI q)
theorem law_M {rl w : Nat → Int32} {F : Nat} {a b c : Nat} {v1 v5 v9 : Int32 × Int32 × Int32} (hF : 100 ≤ F) (h1 : v1.1 = nI a) (h5 : v5.1 = nI b) (h9 : v9.1 = nI c) (K : (Nat → Int32) → Option (Int32 × (Nat → Int32) × Int32 × Int32 × Int32 × (Nat → Int32) × (Nat → Int32) × Int32)) (q : AR) :
    ∃ N, m_X9_rim_L196 rl v1 v5 v9 K F 0 (upd (upd w 0 0) 1 0) = K (cN (pr q a b c 0) N) ∧ N 5 = w 5 := by
  obtain ⟨f, ⟨f1, f2⟩, f3⟩ := loopTo (fun n x s => m_X9_rim_L196 rl v1 v5 v9 K n x s) (fun s => K s) (fun j s => (∀ k, k < j → s (2 + k) = upd (upd (upd rl 0 v1.1) 1 v5.1) 2 v9.1 k) ∧ ∀ i, (i < 2 ∨ 5 ≤ i) → s i = upd (upd w 0 0) 1 0 i) 3 (fun n s h => by
      show m_X9_rim_L196s _ _ _ _ _ _ _ _ = _
      unfold m_X9_rim_L196s
      rw [if_pos (by decide)]) (fun n j s hj h => by
      refine ⟨upd s (2 + j) (upd (upd (upd rl 0 v1.1) 1 v5.1) 2 v9.1 j), ⟨fun k hk => ?_, fun i hi => ?_⟩, ?_⟩
      · by_cases e : k = j
        · subst e; exact upd_eq
        · rw [upd_ne (by omega)]; exact h.1 k (by omega)
      · rw [upd_ne (by omega)]; exact h.2 i hi
      · show m_X9_rim_L196s _ _ _ _ _ _ _ _ = _
        unfold m_X9_rim_L196s
        rw [if_neg (show ¬ (3 : Int32) ≤ nI j from nInle (a := 3) (by decide) (by omega) hj), show (2 : Int32) + nI j = nI (2 + j) from nI_add 2 j, chk_nI _ hj (by decide), chk_nI _ (show 2 + j < 24 by omega) (by decide), cl (by omega), cl (by omega)]
        simp only [bnd, nI_1]) 3 F 0 (upd (upd w 0 0) 1 0) (by omega) (by omega) ⟨fun k hk => absurd hk (Nat.not_lt_zero k), fun _ _ => rfl⟩
  have hf : f = cN (pr q a b c 0) f := by
    refine cN_ext ?_ ?_ ?_ ?_ ?_ (fun m hm => absurd hm (Nat.not_lt_zero m)) (fun m hm => absurd hm (Nat.not_lt_zero m)) (fun m hm => absurd hm (Nat.not_lt_zero m)) (fun _ _ => rfl)
    · rw [f2 0 (by omega), upd_ne (by omega), upd_eq]; rfl
    · rw [f2 1 (by omega), upd_eq]; rfl
    · rw [show 2 = 2 + 0 from rfl, f1 0 (by omega), upd_ne (by omega), upd_ne (by omega), upd_eq, h1]; rfl
    · rw [show 3 = 2 + 1 from rfl, f1 1 (by omega), upd_ne (by omega), upd_eq, h5]; rfl
    · rw [show 4 = 2 + 2 from rfl, f1 2 (by omega), upd_eq, h9]; rfl
  refine ⟨f, ?_, ?_⟩
  · rw [← hf]; exact f3
  · rw [f2 5 (by omega), upd_ne (by omega), upd_ne (by omega)]
theorem come_M {q : AR} {N rd : Nat → Int32} {F a b c : Nat} (hM : aM q ≤ 6) (hF : 100 ≤ F) (hr : RDm q rd) (K : (Nat → Int32) → Int32 → Option (Int32 × (Nat → Int32) × Int32 × Int32 × Int32 × (Nat → Int32) × (Nat → Int32) × Int32)) :
    m_X9_rim_L223 (nI (aM q)) rd K F 0 (cN (pr q a b c 0) N) 0 = K (cN (pr q a b c (aM q)) N) 0 := by
  refine loopUp (fun n x (s : (Nat → Int32) × Int32) => m_X9_rim_L223 (nI (aM q)) rd K n x s.1 s.2) _ (fun j => (cN (pr q a b c j) N, 0)) (aM q) (fun n => ?_) (fun n j hj => ?_) (aM q) F 0 (by omega) (by omega)
  · show m_X9_rim_L223s _ _ _ _ _ _ _ = _
    unfold m_X9_rim_L223s
    rw [if_pos (nIle (by omega) (by omega) (Nat.le_refl _))]
  · show m_X9_rim_L223s _ _ _ _ _ (cN (pr q a b c j) N) 0 = _
    unfold m_X9_rim_L223s
    have i0 : 3 * nI j = nI (3 * j) := by rw [show (3 : Int32) = nI 3 from rfl, pk_mul]
    have i2 : nI (3 * j) + 2 = nI (3 * j + 2) := nI_add _ 2
    obtain ⟨r1, r2, r3⟩ := hr j hj
    rw [if_neg (nInle (by omega) (by omega) hj), i0, i2, nI_1, chk_nI _ (by omega) (by decide), chk_nI _ (by omega) (by decide), chk_nI _ (by omega) (by decide), cl (by omega), cl (by omega), cl (by omega), r1, r2, r3, comes_M (r := pr q a b c j) (show j < 6 by omega), pr_step]
    simp only [Option.bind_some, bnd, nI_1]
