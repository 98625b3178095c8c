/-! ===== PURE P: steam, both sides ===== -/
def eR (r : AR) (k : Nat) : Bool := decide (k < aM r) && aSt r k
def sR (r : AR) (k : Nat) : Bool := decide (hgh r (aI r k) 0 = 0)
def gR (r : AR) (k : Nat) : Bool := decide (hgh r (aI r k) 0 ≤ grp r k)
theorem ctM (r : AR) (b : Nat → Bool) (hM : aM r ≤ 6) : fb_ct (fun k => eR r k && b k) 6 = fb_ct (fun k => aSt r k && b k) (aM r) := by
  have := ct_lt (fun k => aSt r k && b k) (aM r) (6 - aM r)
  rw [show aM r + (6 - aM r) = 6 by omega] at this
  rw [← this]
  exact fb_ct_cong (fun k _ => by unfold eR; rw [Bool.and_assoc])
theorem hgh_le {r : AR} (hw : WF r) (x d : Nat) : hgh r x d ≤ 12 := by
  have := hw.2.2.2.2.2.1
  unfold hgh; omega
theorem grp_le {r : AR} (hw : WF r) {m : Nat} (hm : m < aM r) : grp r m ≤ 100 := by
  have h1 := (hw.2.1 m hm).2.1
  have h2 : nbs r m ≤ aM r := fb_ct_le _ _
  have h3 := hw.1
  have h4 : aN r % 2 < 2 := Nat.mod_lt _ (by decide)
  unfold grp grpK
  split
  · omega
  · split
    · omega
    · split
      · omega
      · split
        · omega
        · omega
theorem sort_step {r : AR} {P I K : Nat → Int32} (hw : WF r) (k : Int32 → Int32 → Option (Int32 × Int32)) (n j : Nat) (hj : j < aM r) (a b : Nat) :
    m_X5_sortMen_L24s (cP r P) (cI r I) (nI (aN r)) (cK r K) (nI (aM r)) (nI (aH r)) (nI (tk r (aM r))) (nI (crest r 0)) k (m_X5_sortMen_L24 (cP r P) (cI r I) (nI (aN r)) (cK r K) (nI (aM r)) (nI (aH r)) (nI (tk r (aM r))) (nI (crest r 0)) k n) (nI j) (nI a) (nI b) = m_X5_sortMen_L24 (cP r P) (cI r I) (nI (aN r)) (cK r K) (nI (aM r)) (nI (aH r)) (nI (tk r (aM r))) (nI (crest r 0)) k n (nI (j + 1)) (nI (a + if (aSt r j && sR r j) = true then 1 else 0)) (nI (b + if (aSt r j && (!sR r j && gR r j)) = true then 1 else 0)) := by
  have hM := hw.1
  unfold m_X5_sortMen_L24s
  rw [if_neg (nInle (by omega) (by omega) hj), stands_C hM hj]
  simp only [Option.bind_some, ib0, bnd, nI_1]
  by_cases h12 : aI r j < 12
  rotate_left
  · rw [show aSt r j = false by simp [aSt, h12]]; simp only [if_true, Bool.not_true, Bool.false_and, Bool.and_false, Bool.false_eq_true, if_false, Nat.add_zero]
  rw [show aSt r j = true by simp [aSt, h12], chk_nI _ (by omega) (by decide), cl (by omega), cI_at hj, eC_t h12, high_C hw h12]
  simp only [Option.bind_some, if_true, Bool.true_and]
  have h1 := hgh_le hw (aI r j) 0
  have h2 := grp_le hw hj
  have hz : ¬ hgh r (aI r j) 0 = 0 → ¬ nI (hgh r (aI r j) 0) = 0 := fun q z => q ((nI_eq (b := 0) (by omega) (by decide)).mp z)
  by_cases q : hgh r (aI r j) 0 = 0
  · have hs : sR r j = true := decide_eq_true q
    have hq : nI (hgh r (aI r j) 0) = 0 := by rw [q]; rfl
    rw [if_pos hq, hs]
    simp only [if_true, Bool.not_true, Bool.false_and, Bool.false_eq_true, if_false, Nat.add_zero]
  · have hs : sR r j = false := decide_eq_false q
    rw [if_neg (hz q), hs, gripR_C hw hj h12]
    simp only [Option.bind_some, Bool.not_false, Bool.true_and, Bool.false_eq_true, if_false, Nat.add_zero]
    by_cases q2 : hgh r (aI r j) 0 ≤ grp r j
    · have hg : gR r j = true := decide_eq_true q2
      have hlt : ¬ nI (grp r j) < nI (hgh r (aI r j) 0) := fun z => by
        have := (nI_ltI (by omega) (by omega)).mp z; omega
      rw [if_neg hlt, hg]
      simp only [if_true]
    · have hg : gR r j = false := decide_eq_false q2
      have hlt : nI (grp r j) < nI (hgh r (aI r j) 0) := (nI_ltI (by omega) (by omega)).mpr (by omega)
      rw [if_pos hlt, hg]
      simp only [Bool.false_eq_true, if_false, Nat.add_zero]
theorem ct_cS (r : AR) (hM : aM r ≤ 6) : cS (eR r) (sR r) (gR r) 6 = fb_ct (fun k => aSt r k && sR r k) (aM r) := by unfold cS; exact ctM r (sR r) hM
theorem ct_cG (r : AR) (hM : aM r ≤ 6) : cG (eR r) (sR r) (gR r) 6 = fb_ct (fun k => aSt r k && (!sR r k && gR r k)) (aM r) := by unfold cG; exact ctM r (fun k => !sR r k && gR r k) hM
theorem sort_loop {r : AR} {P I K : Nat → Int32} {F : Nat} (hw : WF r) (hF : 64 ≤ F) : m_X5_sortMen_L24 (cP r P) (cI r I) (nI (aN r)) (cK r K) (nI (aM r)) (nI (aH r)) (nI (tk r (aM r))) (nI (crest r 0)) (fun w6 w7 => some (w6, w7)) F (nI 0) (nI 0) (nI 0) = some (nI (fb_ct (fun k => aSt r k && sR r k) (aM r)), nI (fb_ct (fun k => aSt r k && (!sR r k && gR r k)) (aM r))) := by
  have hM := hw.1
  refine loopUp (fun n x (s : Int32 × Int32) => m_X5_sortMen_L24 (cP r P) (cI r I) (nI (aN r)) (cK r K) (nI (aM r)) (nI (aH r)) (nI (tk r (aM r))) (nI (crest r 0)) (fun w6 w7 => some (w6, w7)) n x s.1 s.2) _ (fun j => (nI (fb_ct (fun k => aSt r k && sR r k) j), nI (fb_ct (fun k => aSt r k && (!sR r k && gR r k)) j))) (aM r) (fun n => ?_) (fun n j hj => ?_) (aM r) F 0 (by omega) (by omega)
  · show m_X5_sortMen_L24s _ _ _ _ _ _ _ _ _ _ _ _ _ = _
    unfold m_X5_sortMen_L24s
    rw [if_pos (nIle (by omega) (by omega) (Nat.le_refl _))]
  · have e1 : fb_ct (fun k => aSt r k && sR r k) (j + 1) = fb_ct (fun k => aSt r k && sR r k) j + (if (aSt r j && sR r j) = true then 1 else 0) := fb_ct_succ _ j
    have e2 : fb_ct (fun k => aSt r k && (!sR r k && gR r k)) (j + 1) = fb_ct (fun k => aSt r k && (!sR r k && gR r k)) j + (if (aSt r j && (!sR r j && gR r j)) = true then 1 else 0) := fb_ct_succ _ j
    show _ = m_X5_sortMen_L24 (cP r P) (cI r I) (nI (aN r)) (cK r K) (nI (aM r)) (nI (aH r)) (nI (tk r (aM r))) (nI (crest r 0)) (fun w6 w7 => some (w6, w7)) n (nI (j + 1)) (nI (fb_ct (fun k => aSt r k && sR r k) (j + 1))) (nI (fb_ct (fun k => aSt r k && (!sR r k && gR r k)) (j + 1)))
    rw [e1, e2]
    exact sort_step hw _ n j hj _ _
theorem sort_C {r : AR} {P I K : Nat → Int32} {F : Nat} (hw : WF r) (hF : 64 ≤ F) (a b : Int32) : m_X5_sortMen F a b (cP r P) (cI r I) (nI (aN r)) (cK r K) (nI (aM r)) (nI (aS r)) (nI (aT r)) (nI (aH r)) = some (nI (cS (eR r) (sR r) (gR r) 6), nI (cG (eR r) (sR r) (gR r) 6)) := by
  have hM := hw.1
  rw [ct_cS r hM, ct_cG r hM]
  unfold m_X5_sortMen
  rw [taken_C hM hF, Option.bind_some]
  have hcr : m_X3_crestBehind (nI (aN r)) (nI (aS r)) (nI (aT r)) 0 = some (nI (crest r 0)) := by
    rw [show (0 : Int32) = nI 0 from rfl]
    exact crest_C hw (by omega)
  rw [hcr, Option.bind_some]
  exact sort_loop hw hF
theorem fill7_C {F : Nat} (hF : 64 ≤ F) (f : Nat → Int32) : ∃ g, m_J7_fill_53178_7 F f 0 = some g ∧ ∀ k, k < 7 → g k = 0 := by
  unfold m_J7_fill_53178_7
  obtain ⟨g, h1, h2⟩ := loopTo (fun n x s => m_J7_fill_53178_7_L5 0 (fun w3 => some w3) n x s) (fun g => some g) (fun j g => ∀ k, k < j → g k = 0) 7 (fun n s h => by
      show m_J7_fill_53178_7_L5s _ _ _ _ _ = _
      unfold m_J7_fill_53178_7_L5s
      rw [if_pos (by decide)]) (fun n j s hj h => by
      refine ⟨upd s j 0, fun k hk => ?_, ?_⟩
      · by_cases e : k = j
        · subst e; exact upd_eq
        · rw [upd_ne e]; exact h k (by omega)
      · show m_J7_fill_53178_7_L5s _ _ _ _ _ = _
        unfold m_J7_fill_53178_7_L5s
        rw [if_neg (show ¬ (7 : Int32) ≤ nI j from nInle (a := 7) (by decide) (by omega) hj), chk_nI _ hj (by decide), cl (by omega)]
        simp only [bnd, nI_1]) 7 F 0 f (by omega) (by omega) (fun k hk => absurd hk (Nat.not_lt_zero k))
  exact ⟨g, h2, h1⟩
theorem nI_dn : ∀ x, x < 7 → nI (x + 1) + -1 = nI x ∧ nI (x + 1) - 1 = nI x := by decide +kernel
theorem ten_c : ∀ c, c ≤ 10 → (10 : Int32) - nI c = nI (10 - c) := by decide +kernel
theorem shIn_C {c s : Nat} (hc : c ≤ 10) (k : (Nat → Int32) → Option ((Nat → Int32) × Int32)) : ∀ x n w, x ≤ 6 → x < n → (∀ k, k < 7 → w k = nI (if x < k then wgt c (s + 1) k else wgt c s k)) →
    ∃ w', m_X5_weighShaky_L32 (nI c) k n (nI x) w = k w' ∧ ∀ k, k < 7 → w' k = nI (if 0 < k then wgt c (s + 1) k else wgt c s k)
  | 0, n, w, _, hn, h => by
    obtain ⟨n, rfl⟩ : ∃ n', n = n' + 1 := ⟨n - 1, by omega⟩
    refine ⟨w, ?_, h⟩
    show m_X5_weighShaky_L32s _ _ _ _ _ = _
    unfold m_X5_weighShaky_L32s
    rw [if_pos (by decide)]
  | x + 1, n, w, hx, hn, h => by
    obtain ⟨n, rfl⟩ : ∃ n', n = n' + 1 := ⟨n - 1, by omega⟩
    obtain ⟨w', e1, e2⟩ := shIn_C hc k x n (upd w (x + 1) (nI (wgt c (s + 1) (x + 1)))) (by omega) (by omega) (fun j hj => by
      by_cases e : j = x + 1
      · subst e; rw [upd_eq, if_pos (by omega)]
      · rw [upd_ne e, h j hj]
        by_cases q : x + 1 < j
        · rw [if_pos q, if_pos (by omega)]
        · rw [if_neg q, if_neg (by omega)])
    refine ⟨w', ?_, e2⟩
    rw [← e1]
    show m_X5_weighShaky_L32s _ _ _ _ _ = _
    unfold m_X5_weighShaky_L32s
    rw [if_neg (show ¬ nI (x + 1) ≤ 0 from nInle (b := 0) (by omega) (by decide) (by omega)), (nI_dn x (by omega)).1, (nI_dn x (by omega)).2, chk_nI _ (by omega) (by decide), chk_nI _ (by omega) (by decide), chk_nI _ (by omega) (by decide), cl (by omega), cl (by omega), h (x + 1) (by omega), h x (by omega), if_neg (by omega), if_neg (by omega), ten_c c hc, pk_mul, pk_mul, nI_add]
    rfl
theorem shaky_C {F S c : Nat} (hS : S ≤ 6) (hc : c ≤ 10) (hF : 64 ≤ F) (w : Nat → Int32) (b : Int32) : ∃ g, m_X5_weighShaky F w (nI S) b (nI c) = some (g, nI (10 ^ S)) ∧ ∀ k, k < 7 → g k = nI (wgt c S k) := by
  unfold m_X5_weighShaky
  obtain ⟨g0, e1, e2⟩ := fill7_C hF w
  rw [e1]
  simp only [Option.bind_some]
  obtain ⟨⟨g, b2⟩, ⟨-, h2, h3⟩, h4⟩ := loopTo (fun n x (s : (Nat → Int32) × Int32) => m_X5_weighShaky_L22 (nI S) (nI c) F (fun w5 w6 => some (w5, w6)) n x s.1 s.2) (fun s => some (s.1, s.2)) (fun j s => 1 ≤ j ∧ s.2 = nI (10 ^ (j - 1)) ∧ ∀ k, k < 7 → s.1 k = nI (wgt c (j - 1) k)) (S + 1) (fun n s h => by
      show m_X5_weighShaky_L22s _ _ _ _ _ _ _ _ = _
      unfold m_X5_weighShaky_L22s
      rw [if_pos ((nI_ltI (by omega) (by omega)).mpr (by omega))]) (fun n j s hj h => by
      obtain ⟨w1, b1⟩ := s
      obtain ⟨j1, h1, h2⟩ := h
      have h1 : b1 = nI (10 ^ (j - 1)) := h1
      subst h1
      have h2 : ∀ k, k < 7 → w1 k = nI (wgt c (j - 1) k) := h2
      obtain ⟨t, rfl⟩ : ∃ t, j = t + 1 := ⟨j - 1, by omega⟩
      rw [Nat.add_sub_cancel] at h2 ⊢
      obtain ⟨w', f1, f2⟩ := shIn_C (s := t) hc (fun w13 => bnd (nI (t + 1) + 1) (fun x14 => m_X5_weighShaky_L22 (nI S) (nI c) F (fun w5 w6 => some (w5, w6)) n x14 (upd w13 0 ((w13 0) * nI c)) (nI (10 ^ t) * 10))) (t + 1) F w1 (by omega) (by omega) (fun k hk => by
        rw [h2 k hk]
        by_cases q : t + 1 < k
        · rw [if_pos q, wgt_out c t k (by omega), wgt_out c (t + 1) k q]
        · rw [if_neg q])
      refine ⟨(upd w' 0 ((w' 0) * nI c), nI (10 ^ t) * 10), ⟨by omega, ?_, fun k hk => ?_⟩, ?_⟩
      · show nI (10 ^ t) * 10 = nI (10 ^ (t + 1 + 1 - 1))
        rw [show (10 : Int32) = nI 10 from rfl, pk_mul, Nat.add_sub_cancel, Nat.pow_succ]
      · show upd w' 0 _ k = nI (wgt c (t + 1 + 1 - 1) k)
        rw [Nat.add_sub_cancel]
        by_cases e : k = 0
        · subst e; rw [upd_eq, f2 0 (by omega), if_neg (by omega), pk_mul]; rfl
        · rw [upd_ne e, f2 k hk, if_pos (by omega)]
      · show m_X5_weighShaky_L22s _ _ _ _ _ _ _ _ = _
        unfold m_X5_weighShaky_L22s
        rw [if_neg (fun q => by have := (nI_ltI (by omega) (by omega)).mp q; omega)]
        refine Eq.trans f1 ?_
        simp only [bnd, nI_1]) S F 1 (upd g0 0 1, 1) (by omega) (by omega) ⟨by omega, rfl, fun k hk => by
        show upd g0 0 1 k = nI (wgt c 0 k)
        by_cases e : k = 0
        · subst e; rw [upd_eq]; rfl
        · obtain ⟨k', rfl⟩ : ∃ k', k = k' + 1 := ⟨k - 1, by omega⟩
          rw [upd_ne e, e2 _ hk]; rfl⟩
  have h2 : b2 = nI (10 ^ (S + 1 - 1)) := h2
  rw [Nat.add_sub_cancel] at h2 h3
  subst h2
  exact ⟨g, h4, h3⟩
/-- Euclid -/
theorem gcd_step {a b : Nat} : Nat.gcd a b = Nat.gcd b (a % b) := by rw [Nat.gcd_comm b, ← Nat.gcd_rec, Nat.gcd_comm]
theorem half {b r : Nat} (hr : 0 < r) (h : r < b) : 2 * (b % r) < b := by
  have h1 := Nat.mod_lt b hr
  have h2 := Nat.div_add_mod b r
  have h3 : 1 ≤ b / r := (Nat.le_div_iff_mul_le hr).mpr (by omega)
  have h4 : r * 1 ≤ r * (b / r) := Nat.mul_le_mul_left r h3
  omega
theorem euc_C (k : Int32 → Option (Int32 × Int32)) : ∀ j x n a b, b < 2 ^ j → a < 2 ^ 31 → b < 2 ^ 31 → x + 2 * j ≤ 60 → 2 * j + 1 ≤ n → m_X5_reduce_L12 k n (nI x) (nI b) (nI a) = k (nI (Nat.gcd a b))
  | 0, x, n, a, b, hb, ha, _, hx, hn => by
    obtain ⟨n, rfl⟩ : ∃ n', n = n' + 1 := ⟨n - 1, by omega⟩
    have : b = 0 := by omega
    subst this
    show m_X5_reduce_L12s _ _ _ _ _ = _
    unfold m_X5_reduce_L12s
    rw [if_neg (show ¬ (64 : Int32) ≤ nI x from nInle (a := 64) (by decide) (by omega) (by omega)), if_pos (show nI 0 = 0 from rfl), Nat.gcd_zero_right]
  | j + 1, x, n, a, b, hb, ha, hb31, hx, hn => by
    obtain ⟨n, rfl⟩ : ∃ n', n = n' + 1 + 1 := ⟨n - 2, by omega⟩
    show m_X5_reduce_L12s _ _ _ _ _ = _
    unfold m_X5_reduce_L12s
    rw [if_neg (show ¬ (64 : Int32) ≤ nI x from nInle (a := 64) (by decide) (by omega) (by omega))]
    by_cases h0 : b = 0
    · subst h0
      rw [if_pos (show nI 0 = 0 from rfl), Nat.gcd_zero_right]
    have hne : ¬ nI b = 0 := fun q => h0 ((nI_eq (b := 0) hb31 (by decide)).mp q)
    rw [if_neg hne, nzI, if_neg hne, pk_rem ha (by omega) hb31]
    simp only [bnd, nI_1]
    have hr := Nat.mod_lt a (show 0 < b by omega)
    show m_X5_reduce_L12s _ _ _ _ _ = _
    unfold m_X5_reduce_L12s
    rw [if_neg (show ¬ (64 : Int32) ≤ nI (x + 1) from nInle (a := 64) (by decide) (by omega) (by omega))]
    by_cases h1 : a % b = 0
    · rw [h1, if_pos (show nI 0 = 0 from rfl), gcd_step, h1, Nat.gcd_zero_right]
    have hne2 : ¬ nI (a % b) = 0 := fun q => h1 ((nI_eq (b := 0) (by omega) (by decide)).mp q)
    rw [if_neg hne2, nzI, if_neg hne2, pk_rem hb31 (by omega) (by omega)]
    simp only [bnd, nI_1]
    have hh := half (show 0 < a % b by omega) hr
    rw [euc_C k j (x + 1 + 1) n (a % b) (b % (a % b)) (by rw [Nat.pow_succ] at hb; omega) (by omega) (by omega) (by omega) (by omega), ← gcd_step, ← gcd_step]
theorem euc_M (k : Int32 → Option (Int32 × (Nat → Int32) × (Nat → Int32))) : ∀ j n a b, b < 2 ^ j → a < 2 ^ 31 → b < 2 ^ 31 → 2 * j + 1 ≤ n → m_X9_steam_L186 k n (nI b) (nI a) = k (nI (Nat.gcd a b))
  | 0, n, a, b, hb, ha, _, hn => by
    obtain ⟨n, rfl⟩ : ∃ n', n = n' + 1 := ⟨n - 1, by omega⟩
    have : b = 0 := by omega
    subst this
    show m_X9_steam_L186s _ _ _ _ = _
    unfold m_X9_steam_L186s
    rw [if_pos (show nI 0 = 0 from rfl), Nat.gcd_zero_right]
  | j + 1, n, a, b, hb, ha, hb31, hn => by
    obtain ⟨n, rfl⟩ : ∃ n', n = n' + 1 + 1 := ⟨n - 2, by omega⟩
    show m_X9_steam_L186s _ _ _ _ = _
    unfold m_X9_steam_L186s
    by_cases h0 : b = 0
    · subst h0
      rw [if_pos (show nI 0 = 0 from rfl), Nat.gcd_zero_right]
    have hne : ¬ nI b = 0 := fun q => h0 ((nI_eq (b := 0) hb31 (by decide)).mp q)
    rw [if_neg hne, nzI, if_neg hne, pk_rem ha (by omega) hb31]
    simp only [bnd]
    have hr := Nat.mod_lt a (show 0 < b by omega)
    show m_X9_steam_L186s _ _ _ _ = _
    unfold m_X9_steam_L186s
    by_cases h1 : a % b = 0
    · rw [h1, if_pos (show nI 0 = 0 from rfl), gcd_step, h1, Nat.gcd_zero_right]
    have hne2 : ¬ nI (a % b) = 0 := fun q => h1 ((nI_eq (b := 0) (by omega) (by decide)).mp q)
    rw [if_neg hne2, nzI, if_neg hne2, pk_rem hb31 (by omega) (by omega)]
    simp only [bnd]
    have hh := half (show 0 < a % b by omega) hr
    rw [euc_M k j n (a % b) (b % (a % b)) (by rw [Nat.pow_succ] at hb; omega) (by omega) (by omega) (by omega), ← gcd_step, ← gcd_step]
theorem red_C {F a b : Nat} (hb0 : 0 < b) (ha : a < 2 ^ 20) (hb : b < 2 ^ 31) (hF : 64 ≤ F) : m_X5_reduce F (nI a) (nI b) = some (nI (a / Nat.gcd a b), nI (b / Nat.gcd a b)) := by
  unfold m_X5_reduce
  rw [show (0 : Int32) = nI 0 from rfl, euc_C _ 20 0 F b a ha hb (by omega) (by omega) (by omega), Nat.gcd_comm]
  have hg : 0 < Nat.gcd a b := Nat.gcd_pos_of_pos_right a hb0
  have hgl : Nat.gcd a b ≤ b := Nat.le_of_dvd hb0 (Nat.gcd_dvd_right a b)
  by_cases h1 : Nat.gcd a b = 1
  · rw [h1, if_pos (by decide), Nat.div_one, Nat.div_one]
  · rw [if_neg (show ¬ nI (Nat.gcd a b) ≤ 1 from nInle (b := 1) (by omega) (by decide) (by omega)), nzI, nzI, if_neg (show ¬ nI (Nat.gcd a b) = 0 from fun q => by have := (nI_eq (b := 0) (by omega) (by decide)).mp q; omega), if_neg (show ¬ nI (Nat.gcd a b) = 0 from fun q => by have := (nI_eq (b := 0) (by omega) (by decide)).mp q; omega), pk_div (by omega) hg (by omega), pk_div hb hg (by omega)]
theorem weigh_C {F S sn c m : Nat} {g : Nat → Int32} (hS : S ≤ 6) (hsn : sn ≤ 6) (hm : m ≤ 6) (hg : ∀ k, k < 7 → g k = nI (wgt c S k)) (hF : 64 ≤ F) (k : Int32 → Option ((Nat → Int32) × Int32 × Int32 × Int32 × Int32)) : m_X5_weigh_L18 (nI m) (nI sn, nI S) (g, nI (10 ^ S)) k F 0 0 = k (nI (Af c S (m - sn))) := by
  rw [← Af_sm c S (m - sn) (S + 1) (by omega)]
  refine loopUp (fun n x s => m_X5_weigh_L18 (nI m) (nI sn, nI S) (g, nI (10 ^ S)) k n x s) _ (fun j => nI (fb_sm (fun k => if m - sn ≤ k then wgt c S k else 0) j)) (S + 1) (fun n => ?_) (fun n j hj => ?_) (S + 1) F 0 (by omega) (by omega)
  · show m_X5_weigh_L18s _ _ _ _ _ _ _ = _
    unfold m_X5_weigh_L18s
    rw [if_pos ((nI_ltI (by omega) (by omega)).mpr (by omega))]
  · show m_X5_weigh_L18s _ _ _ _ _ _ _ = _
    unfold m_X5_weigh_L18s
    rw [if_neg (show ¬ nI S < nI j from fun q => by have := (nI_ltI (by omega) (by omega)).mp q; omega)]
    simp only [nI_add, bnd, nI_1, fb_sm_succ]
    by_cases q : sn + j < m
    · rw [if_pos ((nI_ltI (by omega) (by omega)).mpr q), if_neg (show ¬ m - sn ≤ j by omega)]; simp only [Nat.add_zero]
    · rw [if_neg (fun z => by have := (nI_ltI (by omega) (by omega)).mp z; omega), if_pos (show m - sn ≤ j by omega), chk_nI _ (by omega) (by decide), cl (by omega), hg j (by omega), nI_add]
theorem pw6 : ∀ S, S ≤ 6 → 10 ^ S ≤ 1000000 ∧ 0 < 10 ^ S := by decide +kernel
def aboveC (r : AR) (c m : Nat) : Nat := Af c (cG (eR r) (sR r) (gR r) 6) (m - cS (eR r) (sR r) (gR r) 6)
def belowC (r : AR) : Nat := 10 ^ cG (eR r) (sR r) (gR r) 6
theorem odds_C {r : AR} {P I K w : Nat → Int32} {F c m : Nat} (hw : WF r) (hc : c ≤ 10) (hm : m ≤ 6) (hF : 100000 ≤ F) (a b d e : Int32) :
    ∃ g s1 s2, m_X5_weigh F w a b d e (cP r P) (cI r I) (nI (aN r)) (cK r K) (nI (aM r)) (nI (aS r)) (nI (aT r)) (nI (aH r)) (nI m) (nI c) = some (g, s1, s2, nI (aboveC r c m / Nat.gcd (aboveC r c m) (belowC r)), nI (belowC r / Nat.gcd (aboveC r c m) (belowC r))) := by
  have hG : cG (eR r) (sR r) (gR r) 6 ≤ 6 := fb_ct_le _ _
  have hS : cS (eR r) (sR r) (gR r) 6 ≤ 6 := fb_ct_le _ _
  unfold m_X5_weigh
  rw [sort_C hw (by omega)]
  simp only [Option.bind_some]
  obtain ⟨g, e1, e2⟩ := shaky_C (F := F) hG hc (by omega) w e
  rw [e1]
  simp only [Option.bind_some]
  rw [weigh_C hG hS hm e2 (by omega)]
  have hp := pw6 _ hG
  have ha := Af_le c hc (cG (eR r) (sR r) (gR r) 6) (m - cS (eR r) (sR r) (gR r) 6)
  rw [red_C hp.2 (by omega) (by omega) (by omega)]
  exact ⟨_, _, _, rfl⟩
theorem okb_true {e : Nat → Bool} {x : Nat} : ∀ n, okb e x n = true ↔ ∀ k, k < n → x.testBit k = true → e k = true
  | 0 => ⟨fun _ k hk => absurd hk (Nat.not_lt_zero k), fun _ => rfl⟩
  | n + 1 => by
    rw [okb, Bool.and_eq_true, okb_true n]
    constructor
    · intro h k hk hb
      by_cases q : k = n
      · subst q
        have := h.2
        rw [hb] at this
        simpa using this
      · exact h.1 k (by omega) hb
    · intro h
      refine ⟨fun k hk hb => h k (by omega) hb, ?_⟩
      cases hb : x.testBit n
      · rfl
      · rw [h n (by omega) hb]; rfl
theorem sub_ok {r : AR} {x : Nat} (hM : aM r ≤ 6) (hx : x < 64) : decide (x &&& sb (aSt r) (aM r) = x) = okb (eR r) x 6 := by
  have h1 : (x &&& sb (aSt r) (aM r) = x) ↔ okb (eR r) x 6 = true := by
    rw [okb_true]
    constructor
    · intro h k hk hb
      have : (x &&& sb (aSt r) (aM r)).testBit k = true := by rw [h]; exact hb
      rw [Nat.testBit_and, hb, Bool.true_and, sb_bit] at this
      exact this
    · intro h
      apply Nat.eq_of_testBit_eq
      intro k
      rw [Nat.testBit_and, sb_bit]
      cases hb : x.testBit k
      · rfl
      · have hk : k < 6 := by
          rcases Nat.lt_or_ge k 6 with q | q
          · exact q
          · have : x < 2 ^ k := Nat.lt_of_lt_of_le hx (show 2 ^ 6 ≤ 2 ^ k from Nat.pow_le_pow_right (by decide) q)
            rw [Nat.testBit_lt_two_pow this] at hb; exact absurd hb (by decide)
        have := h k hk hb
        unfold eR at this
        rw [this]; rfl
  cases hc : okb (eR r) x 6
  · exact decide_eq_false (fun q => by rw [h1.mp q] at hc; exact absurd hc (by decide))
  · exact decide_eq_true (h1.mpr hc)
theorem ptx_out {c : Nat} {e : Nat → Bool} {x M : Nat} (h : ∀ k, M ≤ k → e k = false) : ∀ d, ptx c e x (M + d) = ptx c e x M
  | 0 => rfl
  | d + 1 => by
    show ptx c e x (M + d) * (if e (M + d) then (if x.testBit (M + d) then c else 10 - c) else 1) = _
    rw [h (M + d) (by omega), ptx_out h d]
    simp
theorem part_M {r : AR} {N : Nat → Int32} {F c x : Nat} (hM : aM r ≤ 6) (hF : 64 ≤ F) (hc : c ≤ 10) (hx : x < 64) (k : Int32 → Option (Int32 × (Nat → Int32) × (Nat → Int32))) : m_X9_steam_L78 (nI c) (nI (sb (aSt r) (aM r))) (nI x) (cN r N) k F 0 1 = k (nI (ptx c (eR r) x 6)) := by
  have hp := ptx_out (c := c) (e := eR r) (x := x) (M := aM r) (fun k hk => by unfold eR; rw [decide_eq_false (by omega)]; rfl) (6 - aM r)
  rw [show aM r + (6 - aM r) = 6 by omega] at hp
  rw [hp]
  refine loopUp (fun n y s => m_X9_steam_L78 (nI c) (nI (sb (aSt r) (aM r))) (nI x) (cN r N) k n y s) _ (fun j => nI (ptx c (eR r) x j)) (aM r) (fun n => ?_) (fun n j hj => ?_) (aM r) F 0 (by omega) (by omega)
  · show m_X9_steam_L78s _ _ _ _ _ _ _ _ = _
    unfold m_X9_steam_L78s
    rw [cN_0, if_pos (nIle (by omega) (by omega) (Nat.le_refl _))]
  · show m_X9_steam_L78s _ _ _ _ _ _ _ _ = _
    unfold m_X9_steam_L78s
    rw [cN_0, if_neg (nInle (by omega) (by omega) hj), bit_all _ (sb64 _ hM) j (by omega), bit_all x hx j (by omega), sb_bit, decide_eq_true hj, Bool.true_and, ten_c c hc]
    simp only [bnd, nI_1, ib0, ib1, ptx, pk_mul]
    have he : eR r j = aSt r j := by unfold eR; rw [decide_eq_true hj, Bool.true_and]
    rw [he, show nI (ptx c (eR r) x j) * 1 = nI (ptx c (eR r) x j * 1) from pk_mul _ 1]
    cases aSt r j <;> cases x.testBit j <;> simp
theorem st_ntS {r : AR} {x k : Nat} : aSt (ntS r x) k = (aSt r k && (sR r k || (gR r k && !x.testBit k))) := by
  show decide (nIS r x k < 12) = _
  unfold nIS falS sR gR
  by_cases h12 : aI r k < 12
  · rw [show aSt r k = true by simp [aSt, h12]]
    simp only [Bool.true_and]
    cases hb : x.testBit k
    · simp only [Bool.false_eq_true, if_false, Bool.not_false, Bool.and_true]
      by_cases q : grp r k < hgh r (aI r k) 0
      · rw [decide_eq_true q, if_pos rfl, decide_eq_false (show ¬ 12 < 12 by omega), decide_eq_false (show ¬ hgh r (aI r k) 0 = 0 by omega), decide_eq_false (show ¬ hgh r (aI r k) 0 ≤ grp r k by omega)]; rfl
      · rw [decide_eq_false q, if_neg (by decide), decide_eq_true h12, decide_eq_true (show hgh r (aI r k) 0 ≤ grp r k by omega), Bool.or_true]
    · simp only [if_true, Bool.not_true, Bool.and_false, Bool.or_false]
      by_cases q : 0 < hgh r (aI r k) 0
      · rw [decide_eq_true q, if_pos rfl, decide_eq_false (show ¬ 12 < 12 by omega), decide_eq_false (show ¬ hgh r (aI r k) 0 = 0 by omega)]
      · rw [decide_eq_false q, if_neg (by decide), decide_eq_true h12, decide_eq_true (show hgh r (aI r k) 0 = 0 by omega)]
  · rw [show aSt r k = false by simp [aSt, h12]]
    simp only [Bool.false_and, Bool.false_eq_true, if_false]
    exact decide_eq_false h12
theorem nSt_sxx {r : AR} {x : Nat} (hM : aM r ≤ 6) : nSt (ntS r x) = sxx (eR r) (sR r) (gR r) x 6 := by
  unfold sxx
  rw [ctM r (fun k => sR r k || (gR r k && !x.testBit k)) hM]
  show fb_ct (aSt (ntS r x)) (aM r) = _
  exact fb_ct_cong (fun k _ => st_ntS)
theorem sums_M {r : AR} {N A : Nat → Int32} {F c m : Nat} (hw : WF r) (hN : aN r ≤ 9999) (hc : c ≤ 10) (hm : m ≤ 6) (hF : 100000 ≤ F) (hA : ∀ j, j < 24 → A j = cN r N j) (k : Int32 → Int32 → (Nat → Int32) → Option (Int32 × (Nat → Int32) × (Nat → Int32))) :
    m_X9_steam_L55 (nI m) (nI c) F (nI (sb (aSt r) (aM r))) A k F 0 0 0 (cN r N) = k (nI (Tx c (eR r) (sR r) (gR r) 6 0)) (nI (Tx c (eR r) (sR r) (gR r) 6 m)) (cN r N) := by
  have hM := hw.1
  refine loopUp (fun n x (s : Int32 × Int32 × (Nat → Int32)) => m_X9_steam_L55 (nI m) (nI c) F (nI (sb (aSt r) (aM r))) A k n x s.1 s.2.1 s.2.2) _ (fun j => (nI (fb_sm (hx c (eR r) (sR r) (gR r) 0 6) j), nI (fb_sm (hx c (eR r) (sR r) (gR r) m 6) j), cN r N)) 64 (fun n => ?_) (fun n x hx64 => ?_) 64 F 0 (by omega) (by omega)
  · show m_X9_steam_L55s _ _ _ _ _ _ _ _ _ _ _ = _
    unfold m_X9_steam_L55s
    rw [if_pos (by decide)]
    rfl
  · show m_X9_steam_L55s _ _ _ _ _ _ _ _ _ _ _ = _
    unfold m_X9_steam_L55s
    rw [if_neg (show ¬ (64 : Int32) ≤ nI x from nInle (a := 64) (by decide) (by omega) hx64)]
    simp only
    have hsub := sub_all x hx64 _ (sb64 (aSt r) hM)
    rw [sub_ok hM hx64] at hsub
    rw [part_M hM (by omega) hc hx64, nightS_M hw (by omega) hx64]
    have hM2 : aM (ntS r x) ≤ 6 := hM
    simp only [Option.bind_some, bnd, nI_1, nI_add]
    rw [standing_M hM2 (by omega), backs_M (r := r) (by omega) hM hM2 hA]
    simp only [Option.bind_some]
    rw [manySt_M hM2 (by omega), nSt_sxx hM]
    simp only [Option.bind_some, fb_sm_succ]
    have hle : sxx (eR r) (sR r) (gR r) x 6 ≤ 6 := fb_ct_le _ _
    cases ho : okb (eR r) x 6
    · rw [ho] at hsub
      rw [if_neg (of_decide_eq_false hsub), show hx c (eR r) (sR r) (gR r) 0 6 x = 0 from by unfold hx; rw [ho]; rfl, show hx c (eR r) (sR r) (gR r) m 6 x = 0 from by unfold hx; rw [ho]; rfl]; rfl
    · rw [ho] at hsub
      rw [if_pos (of_decide_eq_true hsub), show hx c (eR r) (sR r) (gR r) 0 6 x = ptx c (eR r) x 6 from by unfold hx; rw [ho, if_pos rfl, if_pos (Nat.zero_le _), Nat.mul_one]]
      by_cases q : m ≤ sxx (eR r) (sR r) (gR r) x 6
      · rw [if_neg (fun z => by have := (nI_ltI (by omega) (by omega)).mp z; omega), show hx c (eR r) (sR r) (gR r) m 6 x = ptx c (eR r) x 6 from by unfold hx; rw [ho, if_pos rfl, if_pos q, Nat.mul_one]]
      · rw [if_pos ((nI_ltI (by omega) (by omega)).mpr (by omega)), show hx c (eR r) (sR r) (gR r) m 6 x = 0 from by unfold hx; rw [ho, if_pos rfl, if_neg q, Nat.mul_zero], show nI (fb_sm (hx c (eR r) (sR r) (gR r) m 6) x) + 0 = nI (fb_sm (hx c (eR r) (sR r) (gR r) m 6) x + 0) from nI_add _ 0]
theorem Af0 {c : Nat} (hc : c ≤ 10) : ∀ S, Af c S 0 = 10 ^ S
  | 0 => rfl
  | S + 1 => by
    show c * Af c S 0 + (10 - c) * Af c S (0 - 1) = _
    rw [Nat.zero_sub, Af0 hc S, ← Nat.add_mul, Nat.pow_succ, Nat.mul_comm]; congr 1; omega
theorem S_steam {r : AR} {P I K N A w : Nat → Int32} {F : Nat} (hw : WF r) (hN : aN r ≤ 9999) (hF : 100000 ≤ F) (a b c : Int32) (o1 o2 o3 o4 : Int32) :
    ∃ v w2 p1 p2 p3 p4 A2, m_X8_steam F (cP r P) (cI r I) (nI (aN r)) (cK r K) (nI (aM r)) (nI (aS r)) (nI (aT r)) (nI (aH r)) w o1 o2 o3 o4 a b c = some (v, w2, p1, p2, p3, p4) ∧ m_X9_steam F (cN r N) A a b c = some (v, cN r N, A2) := by
  have hM := hw.1
  unfold m_X8_steam m_X9_steam
  simp only [within_C, in06, in010, in01, Option.bind_some, ib0]
  cases h1 : wi a 0 6
  · exact ⟨_, _, _, _, _, _, _, rfl, rfl⟩
  cases h2 : wi b 0 10
  · exact ⟨_, _, _, _, _, _, _, rfl, rfl⟩
  cases h3 : wi c 0 1
  · exact ⟨_, _, _, _, _, _, _, rfl, rfl⟩
  simp only [if_true]
  obtain ⟨m, rfl, -, hm⟩ := wi_nI (a := 0) (b := 6) (by decide) (by decide) h1
  obtain ⟨p, rfl, -, hp⟩ := wi_nI (a := 0) (b := 10) (by decide) (by decide) h2
  obtain ⟨g, s1, s2, e1⟩ := odds_C (P := P) (I := I) (K := K) (w := w) hw hp hm hF o1 o2 o3 o4
  rw [e1, standing_M hM (by omega)]
  simp only [Option.bind_some]
  rw [asides_M (by omega)]
  simp only [Option.bind_some]
  rw [sums_M hw hN hp hm hF (aside_ok _ _)]
  have hG : cG (eR r) (sR r) (gR r) 6 ≤ 6 := fb_ct_le _ _
  have hEG := cEG (eR r) (sR r) (gR r) 6
  have t0 : Tx p (eR r) (sR r) (gR r) 6 0 = 10 ^ cE (eR r) (sR r) (gR r) 6 * belowC r := by rw [Tx_Af hp, Nat.zero_sub, Af0 hp]; rfl
  have tm : Tx p (eR r) (sR r) (gR r) 6 m = 10 ^ cE (eR r) (sR r) (gR r) 6 * aboveC r p m := by rw [Tx_Af hp]; rfl
  have hle : aboveC r p m ≤ belowC r := Af_le p hp _ _
  have hE0 : 0 < 10 ^ cE (eR r) (sR r) (gR r) 6 := Nat.pow_pos (by decide)
  have hb0 : 0 < belowC r := Nat.pow_pos (by decide)
  have hb1 : 10 ^ cE (eR r) (sR r) (gR r) 6 * belowC r ≤ 1000000 := by
    unfold belowC
    rw [← Nat.pow_add]
    exact (pw6 _ hEG).1
  have ha1 : 10 ^ cE (eR r) (sR r) (gR r) 6 * aboveC r p m ≤ 1000000 := Nat.le_trans (Nat.mul_le_mul_left _ hle) hb1
  have hpb : 0 < 10 ^ cE (eR r) (sR r) (gR r) 6 * belowC r := Nat.mul_pos hE0 hb0
  rw [t0, tm, euc_M _ 20 F _ _ (by omega) (by omega) (by omega) (by omega), Nat.gcd_mul_left]
  have hg : 0 < Nat.gcd (aboveC r p m) (belowC r) := Nat.gcd_pos_of_pos_right _ hb0
  have hgl : Nat.gcd (aboveC r p m) (belowC r) ≤ belowC r := Nat.le_of_dvd hb0 (Nat.gcd_dvd_right _ _)
  have hgE : 0 < 10 ^ cE (eR r) (sR r) (gR r) 6 * Nat.gcd (aboveC r p m) (belowC r) := Nat.mul_pos hE0 hg
  have hgE1 : 10 ^ cE (eR r) (sR r) (gR r) 6 * Nat.gcd (aboveC r p m) (belowC r) ≤ 1000000 := Nat.le_trans (Nat.mul_le_mul_left _ hgl) hb1
  have hne : ¬ nI (10 ^ cE (eR r) (sR r) (gR r) 6 * Nat.gcd (aboveC r p m) (belowC r)) = 0 := fun q => by
    have := (nI_eq (b := 0) (by omega) (by decide)).mp q; omega
  rw [pk_div (by omega) hgE (by omega), pk_div (by omega) hgE (by omega), Nat.mul_div_mul_left _ _ hE0, Nat.mul_div_mul_left _ _ hE0]
  unfold nzI
  rw [if_neg hne, if_neg hne]
  by_cases h0 : c = 0
  · rw [if_pos h0, if_pos h0]; exact ⟨_, _, _, _, _, _, _, rfl, rfl⟩
  · rw [if_neg h0, if_neg h0]; exact ⟨_, _, _, _, _, _, _, rfl, rfl⟩
