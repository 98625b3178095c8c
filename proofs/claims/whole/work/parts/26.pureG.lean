/-! ===== PURE G: rule, seed, type, ahead, then, falls, alone ===== -/
theorem upd_ne {f : Nat → Int32} {k j : Nat} {x : Int32} (h : j ≠ k) : upd f k x j = f j := if_neg h
theorem upd_eq {f : Nat → Int32} {k : Nat} {x : Int32} : upd f k x k = x := if_pos rfl
theorem cN_ext {r : AR} {N f : Nat → Int32} (h0 : f 0 = nI (aM r)) (h1 : f 1 = nI (aN r)) (h2 : f 2 = nI (aS r)) (h3 : f 3 = nI (aT r)) (h4 : f 4 = nI (aH r))
    (hk : ∀ m, m < aM r → f (6 + 3 * m) = nI (aK r m)) (hp : ∀ m, m < aM r → f (6 + 3 * m + 1) = nI (aP r m)) (hi : ∀ m, m < aM r → f (6 + 3 * m + 2) = eM (aI r m))
    (hj : ∀ j, j = 5 ∨ 6 + 3 * aM r ≤ j → f j = N j) : f = cN r N := by
  funext j
  unfold cN
  by_cases e0 : j = 0
  · subst e0; exact h0
  rw [if_neg e0]
  by_cases e1 : j = 1
  · subst e1; exact h1
  rw [if_neg e1]
  by_cases e2 : j = 2
  · subst e2; exact h2
  rw [if_neg e2]
  by_cases e3 : j = 3
  · subst e3; exact h3
  rw [if_neg e3]
  by_cases e4 : j = 4
  · subst e4; exact h4
  rw [if_neg e4]
  by_cases e : 6 ≤ j ∧ j < 6 + 3 * aM r
  · rw [if_pos e]
    have hm : (j - 6) / 3 < aM r := by omega
    have hj2 : j = 6 + 3 * ((j - 6) / 3) + (j - 6) % 3 := by omega
    by_cases w0 : (j - 6) % 3 = 0
    · rw [if_pos w0]; rw [← hk _ hm]; congr 1; omega
    rw [if_neg w0]
    by_cases w1 : (j - 6) % 3 = 1
    · rw [if_pos w1]; rw [← hp _ hm]; congr 1; omega
    rw [if_neg w1]; rw [← hi _ hm]; congr 1; omega
  · rw [if_neg e]; exact hj j (by omega)
theorem in_L {x a b : Int32} {A B : Int64} (ha : A = a.toInt64) (hb : B = b.toInt64) : m_X9_in x.toInt64 A B = some (bI (wi x a b)) := by rw [ha, hb, in_M]
theorem in01 (x : Int32) : m_X9_in x.toInt64 0 1 = some (bI (wi x 0 1)) := in_L rfl rfl
theorem in02 (x : Int32) : m_X9_in x.toInt64 0 2 = some (bI (wi x 0 2)) := in_L rfl rfl
theorem in03 (x : Int32) : m_X9_in x.toInt64 0 3 = some (bI (wi x 0 3)) := in_L rfl rfl
theorem in04 (x : Int32) : m_X9_in x.toInt64 0 4 = some (bI (wi x 0 4)) := in_L rfl rfl
theorem in05 (x : Int32) : m_X9_in x.toInt64 0 5 = some (bI (wi x 0 5)) := in_L rfl rfl
theorem in06 (x : Int32) : m_X9_in x.toInt64 0 6 = some (bI (wi x 0 6)) := in_L rfl rfl
theorem in08 (x : Int32) : m_X9_in x.toInt64 0 8 = some (bI (wi x 0 8)) := in_L rfl rfl
theorem in09 (x : Int32) : m_X9_in x.toInt64 0 9 = some (bI (wi x 0 9)) := in_L rfl rfl
theorem in010 (x : Int32) : m_X9_in x.toInt64 0 10 = some (bI (wi x 0 10)) := in_L rfl rfl
theorem in011 (x : Int32) : m_X9_in x.toInt64 0 11 = some (bI (wi x 0 11)) := in_L rfl rfl
theorem in012 (x : Int32) : m_X9_in x.toInt64 0 12 = some (bI (wi x 0 12)) := in_L rfl rfl
theorem in060 (x : Int32) : m_X9_in x.toInt64 0 60 = some (bI (wi x 0 60)) := in_L rfl rfl
theorem in18 (x : Int32) : m_X9_in x.toInt64 1 8 = some (bI (wi x 1 8)) := in_L rfl rfl
theorem in19 (x : Int32) : m_X9_in x.toInt64 1 9 = some (bI (wi x 1 9)) := in_L rfl rfl
theorem in124 (x : Int32) : m_X9_in x.toInt64 1 24 = some (bI (wi x 1 24)) := in_L rfl rfl
theorem in130 (x : Int32) : m_X9_in x.toInt64 1 30 = some (bI (wi x 1 30)) := in_L rfl rfl
theorem in140 (x : Int32) : m_X9_in x.toInt64 1 40 = some (bI (wi x 1 40)) := in_L rfl rfl
theorem in32 (x : Int32) : m_X9_in x.toInt64 32 126 = some (bI (wi x 32 126)) := in_L rfl rfl
theorem in48 (x : Int32) : m_X9_in x.toInt64 48 57 = some (bI (wi x 48 57)) := in_L rfl rfl
/-- a rim under another law -/
def sS (r : AR) (v : Nat) : AR := (aM r, aK r, aP r, aI r, v, aT r, aH r, aN r)
def sT (r : AR) (v : Nat) : AR := (aM r, aK r, aP r, aI r, aS r, v, aH r, aN r)
def sH (r : AR) (v : Nat) : AR := (aM r, aK r, aP r, aI r, aS r, aT r, v, aN r)
theorem sS_WF {r : AR} {v : Nat} (hw : WF r) (h : v < 12) : WF (sS r v) := ⟨hw.1, hw.2.1, hw.2.2.1, h, hw.2.2.2.2.1, hw.2.2.2.2.2.1, hw.2.2.2.2.2.2⟩
theorem sT_WF {r : AR} {v : Nat} (hw : WF r) (h : v < 12) : WF (sT r v) := ⟨hw.1, hw.2.1, hw.2.2.1, hw.2.2.2.1, h, hw.2.2.2.2.2.1, hw.2.2.2.2.2.2⟩
theorem sH_WF {r : AR} {v : Nat} (hw : WF r) (h : v ≤ 12) : WF (sH r v) := ⟨hw.1, hw.2.1, hw.2.2.1, hw.2.2.2.1, hw.2.2.2.2.1, h, hw.2.2.2.2.2.2⟩
theorem cN_law {r q : AR} {N : Nat → Int32} {k : Nat} {x : Int32} (hk : 2 ≤ k ∧ k ≤ 4) (e0 : aM q = aM r) (e1 : aK q = aK r) (e2 : aP q = aP r) (e3 : aI q = aI r) (e4 : aN q = aN r)
    (h2 : upd (cN r N) k x 2 = nI (aS q)) (h3 : upd (cN r N) k x 3 = nI (aT q)) (h4 : upd (cN r N) k x 4 = nI (aH q)) : upd (cN r N) k x = cN q N := by
  refine cN_ext ?_ ?_ h2 h3 h4 (fun m hm => ?_) (fun m hm => ?_) (fun m hm => ?_) (fun j hj => ?_)
  · rw [upd_ne (by omega), e0]; rfl
  · rw [upd_ne (by omega), e4]; rfl
  · rw [upd_ne (by omega), e1]; exact cN_k (e0 ▸ hm)
  · rw [upd_ne (by omega), e2]; exact cN_p (e0 ▸ hm)
  · rw [upd_ne (by omega), e3]; exact cN_i (e0 ▸ hm)
  · rw [e0] at hj
    rw [upd_ne (by omega)]
    unfold cN
    rw [if_neg (by omega), if_neg (by omega), if_neg (by omega), if_neg (by omega), if_neg (by omega), if_neg (by omega)]
theorem S_rule {r : AR} {N : Nat → Int32} (hw : WF r) (a b : Int32) : ∃ v q, m_X8_rule (nI (aS r)) (nI (aT r)) (nI (aH r)) a b = some (v, nI (aS q), nI (aT q), nI (aH q)) ∧ m_X9_rule (cN r N) a b = some (v, cN q N) ∧ WF q ∧ aM q = aM r ∧ aK q = aK r ∧ aP q = aP r ∧ aI q = aI r ∧ aN q = aN r := by
  unfold m_X8_rule m_X9_rule
  simp only [jn, within_C, in02, Option.bind_some, ib0]
  cases h1 : wi a 0 2
  · refine ⟨-1, r, ?_, rfl, hw, rfl, rfl, rfl, rfl, rfl⟩
    split <;> rfl
  · obtain ⟨w, rfl, -, hw2⟩ := wi_nI (a := 0) (b := 2) (by decide) (by decide) h1
    rcases (show w = 0 ∨ w = 1 ∨ w = 2 by omega) with rfl | rfl | rfl
    · rw [if_neg (by decide), if_neg (show ¬ nI 0 = 2 by decide)]
      simp only [if_true]
      rw [show m_X9_in b.toInt64 0 11 = _ from in011 b]
      simp only [Option.bind_some, ib0]
      cases h2 : wi b 0 11
      · exact ⟨-1, r, rfl, rfl, hw, rfl, rfl, rfl, rfl, rfl⟩
      · obtain ⟨x, rfl, hx⟩ := inch_of h2
        refine ⟨nI (aS r), sS r x, rfl, ?_, sS_WF hw hx, rfl, rfl, rfl, rfl, rfl⟩
        show some (nI (aS r), upd (cN r N) 2 (nI x)) = _
        rw [cN_law (r := r) (N := N) (q := sS r x) (k := 2) (x := nI x) (by omega) rfl rfl rfl rfl rfl rfl rfl rfl]
    · rw [if_neg (by decide), if_neg (show ¬ nI 1 = 2 by decide)]
      simp only [if_true]
      rw [show m_X9_in b.toInt64 0 11 = _ from in011 b]
      simp only [Option.bind_some, ib0]
      cases h2 : wi b 0 11
      · exact ⟨-1, r, rfl, rfl, hw, rfl, rfl, rfl, rfl, rfl⟩
      · obtain ⟨x, rfl, hx⟩ := inch_of h2
        refine ⟨nI (aT r), sT r x, rfl, ?_, sT_WF hw hx, rfl, rfl, rfl, rfl, rfl⟩
        show some (nI (aT r), upd (cN r N) 3 (nI x)) = _
        rw [cN_law (r := r) (N := N) (q := sT r x) (k := 3) (x := nI x) (by omega) rfl rfl rfl rfl rfl rfl rfl rfl]
    · rw [if_pos (by decide), if_pos (show nI 2 = 2 by decide)]
      simp only [if_true]
      rw [show m_X9_in b.toInt64 0 12 = _ from in012 b]
      simp only [Option.bind_some, ib0]
      cases h2 : wi b 0 12
      · exact ⟨-1, r, rfl, rfl, hw, rfl, rfl, rfl, rfl, rfl⟩
      · obtain ⟨x, rfl, -, hx⟩ := wi_nI (a := 0) (b := 12) (by decide) (by decide) h2
        refine ⟨nI (aH r), sH r x, rfl, ?_, sH_WF hw hx, rfl, rfl, rfl, rfl, rfl⟩
        show some (nI (aH r), upd (cN r N) 4 (nI x)) = _
        rw [cN_law (r := r) (N := N) (q := sH r x) (k := 4) (x := nI x) (by omega) rfl rfl rfl rfl rfl rfl rfl rfl]
theorem cN_up5 {r : AR} {N : Nat → Int32} {x : Int32} : upd (cN r N) 5 x = cN r (upd N 5 x) := by
  refine cN_ext rfl rfl rfl rfl rfl (fun m hm => ?_) (fun m hm => ?_) (fun m hm => ?_) (fun j hj => ?_)
  · rw [upd_ne (by omega), cN_k hm]
  · rw [upd_ne (by omega), cN_p hm]
  · rw [upd_ne (by omega), cN_i hm]
  · by_cases h : j = 5
    · subst h; rfl
    · rw [upd_ne h, upd_ne h]
      unfold cN
      rw [if_neg (by omega), if_neg (by omega), if_neg (by omega), if_neg (by omega), if_neg (by omega), if_neg (by omega)]
theorem S_seed {r : AR} {N : Nat → Int32} {d : Int32} (hd : 0 ≤ d) (h5 : N 5 = d) (a : Int32) : ∃ v e N2, m_X8_seed d a = some (v, e) ∧ m_X9_seed (cN r N) a = some (v, cN r N2) ∧ 0 ≤ e ∧ N2 5 = e := by
  unfold m_X8_seed m_X9_seed
  by_cases h : 0 ≤ a
  · rw [if_pos h, if_pos h]
    refine ⟨d, a, upd N 5 a, rfl, ?_, h, upd_eq⟩
    show some (cN r N 5, upd (cN r N) 5 a) = _
    rw [cN_up5, cN_5, h5]
  · rw [if_neg h, if_neg h]
    exact ⟨-1, d, N, rfl, rfl, hd, h5⟩
theorem char_all : ∀ x, x < 127 → vp_nar .char ((nI x).toUInt32 % 65536).toInt32 = nI x := by decide +kernel
/-- the tape -/
def TP (L : Nat) (a b : Nat → Int32) : Prop := L ≤ 60 ∧ ∀ j, j < L → ∃ c, 32 ≤ c ∧ c ≤ 126 ∧ a j = nI c ∧ b j = nI c
theorem S_type {L : Nat} {a b : Nat → Int32} (h : TP L a b) (x : Int32) : ∃ v L2 a2 b2, m_X8_type a (nI L) x = some (v, a2, nI L2) ∧ m_X9_type b (nI L) x = some (v, b2, nI L2) ∧ TP L2 a2 b2 := by
  obtain ⟨hL, ht⟩ := h
  unfold m_X8_type m_X9_type
  simp only [within_C, in32, Option.bind_some, ib0]
  cases h1 : wi x 32 126
  · exact ⟨-1, L, a, b, rfl, rfl, hL, ht⟩
  · obtain ⟨c, rfl, c1, c2⟩ := wi_nI (a := 32) (b := 126) (by decide) (by decide) h1
    simp only [if_true]
    by_cases h60 : L = 60
    · subst h60
      exact ⟨-3, 60, a, b, rfl, rfl, hL, ht⟩
    · refine ⟨nI (L + 1), L + 1, upd a L (nI c), upd b L (nI c), ?_, ?_, by omega, fun j hj => ?_⟩
      · rw [if_pos (show nI L < 60 from (nI_ltI (b := 60) (by omega) (by decide)).mpr (by omega))]
        unfold m_X6_append
        rw [chk_nI _ (by omega) (by decide), cl (by omega), char_all c (by omega)]
        rw [nI_1]; rfl
      · rw [if_neg (show ¬ nI L = 60 from fun q => h60 ((nI_eq (b := 60) (by omega) (by decide)).mp q)), chk_nI _ (by omega) (by decide), cl (by omega), nI_1]
      · by_cases e : j = L
        · subst e; exact ⟨c, c1, c2, upd_eq, upd_eq⟩
        · obtain ⟨c, q1, q2, q3, q4⟩ := ht j (by omega)
          exact ⟨c, q1, q2, by rw [upd_ne e]; exact q3, by rw [upd_ne e]; exact q4⟩
theorem S_ahead {r : AR} {d : Int32} {P I K N A : Nat → Int32} {F : Nat} (hw : WF r) (hN : aN r ≤ 9999) (hF : 100000 ≤ F) (a b c : Int32) (t1 t2 : Nat → Int32) (t3 t4 : Int32) (t5 : Nat → Int32) (t6 t7 t8 t9 : Int32) :
    ∃ v, ∃ T : RT, ∃ A2, m_X8_ahead F (cP r P) (cI r I) (nI (aN r)) d (cK r K) (nI (aM r)) (nI (aS r)) (nI (aT r)) (nI (aH r)) t1 t2 t3 t4 t5 t6 t7 t8 t9 a b c = some (v, T) ∧ m_X9_ahead F (cN r N) A a b c = some (v, cN r N, A2) := by
  have hM := hw.1
  unfold m_X8_ahead m_X9_ahead
  simp only [isMan_C, isMan_M, cN_0, within_C, in060, in01, Option.bind_some, ib0]
  cases h1 : wi a 0 (nI (aM r) - 1)
  · exact ⟨_, _, _, rfl, rfl⟩
  cases h2 : wi b 0 60
  · exact ⟨_, _, _, rfl, rfl⟩
  cases h3 : wi c 0 1
  · exact ⟨_, _, _, rfl, rfl⟩
  simp only [if_true]
  obtain ⟨m, hm, rfl⟩ := man_of hM h1
  obtain ⟨n, rfl, -, hn⟩ := wi_nI (a := 0) (b := 60) (by decide) (by decide) h2
  obtain ⟨P2, I2, K2, e1⟩ := behind_C (d := d) (P := P) (I := I) (K := K) (F := F) (n := n) hw (by omega) hF t1 t2 t3 t4 t5 t6 t7 t8 t9
  rw [e1, asides_M (by omega)]
  simp only [Option.bind_some, cR]
  rw [goesOn_M hw (by omega) hF]
  simp only [Option.bind_some]
  have hm' : m < aM (ntn r n) := by rw [ntn_M]; exact hm
  have hM' : aM (ntn r n) ≤ 6 := by rw [ntn_M]; exact hM
  by_cases h0 : c = 0
  · rw [if_pos h0, if_pos h0, inchOrNone_C hM' hm', inchOf_M (by omega), cN_i hm']
    simp only [Option.bind_some]
    rw [backs_M (r := r) (by omega) hM hM' (aside_ok _ _)]
    exact ⟨_, _, _, rfl, rfl⟩
  · rw [if_neg h0, if_neg h0, chk_nI _ (by omega) (by decide), cl (by omega), cP_at hm', paintOf_M (by omega), cN_p hm']
    simp only [Option.bind_some]
    rw [backs_M (r := r) (by omega) hM hM' (aside_ok _ _)]
    exact ⟨_, _, _, rfl, rfl⟩
theorem S_then {r : AR} {d : Int32} {P I K N A : Nat → Int32} {F : Nat} (hw : WF r) (hN : aN r ≤ 9999) (hF : 100000 ≤ F) (a : Int32) (t1 t2 : Nat → Int32) (t3 t4 : Int32) (t5 : Nat → Int32) (t6 t7 t8 t9 : Int32) :
    ∃ v, ∃ T : RT, ∃ A2, m_X8_then F (cP r P) (cI r I) (nI (aN r)) d (cK r K) (nI (aM r)) (nI (aS r)) (nI (aT r)) (nI (aH r)) t1 t2 t3 t4 t5 t6 t7 t8 t9 a = some (v, T) ∧ m_X9_then F (cN r N) A a = some (v, cN r N, A2) := by
  have hM := hw.1
  unfold m_X8_then m_X9_then
  simp only [within_C, in060, Option.bind_some, ib0]
  cases h2 : wi a 0 60
  · exact ⟨_, _, _, rfl, rfl⟩
  simp only [if_true]
  obtain ⟨n, rfl, -, hn⟩ := wi_nI (a := 0) (b := 60) (by decide) (by decide) h2
  obtain ⟨P2, I2, K2, e1⟩ := behind_C (d := d) (P := P) (I := I) (K := K) (F := F) (n := n) hw (by omega) hF t1 t2 t3 t4 t5 t6 t7 t8 t9
  have hM' : aM (ntn r n) ≤ 6 := by rw [ntn_M]; exact hM
  rw [e1, asides_M (by omega)]
  simp only [Option.bind_some, cR]
  rw [goesOn_M hw (by omega) hF]
  simp only [Option.bind_some]
  rw [whoStands_C hM' (by omega), standing_M hM' (by omega)]
  simp only [Option.bind_some]
  rw [backs_M (r := r) (by omega) hM hM' (aside_ok _ _)]
  exact ⟨_, _, _, rfl, rfl⟩
/-- the first night of 0..60 at which p holds, or NONE -/
def FF (p : Nat → Bool) (v : Int32) : Prop := (∃ k, k ≤ 60 ∧ p k = true ∧ (∀ i, i < k → p i = false) ∧ v = nI k) ∨ ((∀ k, k ≤ 60 → p k = false) ∧ v = -4)
theorem FF_one {p : Nat → Bool} {v w : Int32} (h : FF p v) (h2 : FF p w) : v = w := by
  rcases h with ⟨k, a1, a2, a3, a4⟩ | ⟨a1, a2⟩
  · rcases h2 with ⟨j, b1, b2, b3, b4⟩ | ⟨b1, b2⟩
    · have : k = j := by
        rcases Nat.lt_trichotomy k j with q | q | q
        · rw [b3 k q] at a2; exact absurd a2 (by decide)
        · exact q
        · rw [a3 j q] at b2; exact absurd b2 (by decide)
      rw [a4, b4, this]
    · rw [b1 k a1] at a2; exact absurd a2 (by decide)
  · rcases h2 with ⟨j, b1, b2, b3, b4⟩ | ⟨b1, b2⟩
    · rw [a1 j b1] at b2; exact absurd b2 (by decide)
    · rw [a2, b2]
theorem falls_C {r : AR} {d : Int32} {P I K : Nat → Int32} {F m : Nat} (hw : WF r) (hN : aN r ≤ 9999) (hF : 100000 ≤ F) (hm : m < aM r) (t1 t2 : Nat → Int32) (t3 t4 : Int32) (t5 : Nat → Int32) (t6 t7 t8 t9 : Int32) :
    ∃ T : Int32 × RT, m_X1_firstFallOf F t1 t2 t3 t4 t5 t6 t7 t8 t9 (cP r P) (cI r I) (nI (aN r)) d (cK r K) (nI (aM r)) (nI (aS r)) (nI (aT r)) (nI (aH r)) (nI m) = some T ∧ FF (fun k => !aSt (ntn r k) m) T.1 := by
  have hM := hw.1
  obtain ⟨P2, I2, K2, e1⟩ := takeAll_C (d := d) (P := P) (I := I) (K := K) hM t1 t2 t3 t4 t5 t6 t7 t8 t9
  unfold m_X1_firstFallOf
  rw [e1]
  simp only [Option.bind_some, cR]
  refine loopEx (fun n x (s : (Nat → Int32) × (Nat → Int32) × Int32) => m_X1_firstFallOf_L10 (nI m) F (cP r P2, cI r I2, nI (aN r), d, cK r K2, nI (aM r), nI (aS r), nI (aT r), nI (aH r)) (fun w6 w7 w8 => some (-4, w6, w7, w8, d, cK r K2, nI (aM r), nI (aS r), nI (aT r), nI (aH r))) n x s.1 s.2.1 s.2.2)
    (fun j s => (∀ i, i < j → (!aSt (ntn r i) m) = false) ∧ s = (cP (ntn r j) P2, cI (ntn r j) I2, nI (aN r + j))) (fun T => FF (fun k => !aSt (ntn r k) m) T.1) 61 (fun n s hi => ?_) (fun n j s hj hi => ?_) 61 F 0 (cP r P2, cI r I2, nI (aN r)) (by omega) (by omega) ⟨fun i hi => absurd hi (Nat.not_lt_zero i), rfl⟩
  · refine ⟨(-4, s.1, s.2.1, s.2.2, d, cK r K2, nI (aM r), nI (aS r), nI (aT r), nI (aH r)), ?_, Or.inr ⟨fun k hk => hi.1 k (by omega), rfl⟩⟩
    show m_X1_firstFallOf_L10s _ _ _ _ _ _ _ _ _ = _
    unfold m_X1_firstFallOf_L10s
    rw [if_pos (by decide)]
  · obtain ⟨h1, rfl⟩ := hi
    have hm' : m < aM (ntn r j) := by rw [ntn_M]; exact hm
    have hst := stands_C (I := I2) (show aM (ntn r j) ≤ 6 by rw [ntn_M]; exact hM) hm'
    cases hc : aSt (ntn r j) m
    · right
      refine ⟨(nI j, cP (ntn r j) P2, cI (ntn r j) I2, nI (aN r + j), d, cK r K2, nI (aM r), nI (aS r), nI (aT r), nI (aH r)), ?_, Or.inl ⟨j, by omega, (by show (!aSt (ntn r j) m) = true; rw [hc]; rfl), h1, rfl⟩⟩
      show m_X1_firstFallOf_L10s _ _ _ _ _ _ _ _ _ = _
      unfold m_X1_firstFallOf_L10s
      rw [if_neg (fun q => by have := (nI_ltI (a := 60) (b := j) (by decide) (by omega)).mp q; omega), hst, hc]
      rfl
    · left
      refine ⟨(cP (ntn r (j + 1)) P2, cI (ntn r (j + 1)) I2, nI (aN r + j + 1)), ⟨fun i hi => ?_, rfl⟩, ?_⟩
      · by_cases e : i = j
        · subst e; rw [hc]; rfl
        · exact h1 i (by omega)
      · show m_X1_firstFallOf_L10s _ _ _ _ _ _ _ _ _ = _
        unfold m_X1_firstFallOf_L10s
        rw [if_neg (fun q => by have := (nI_ltI (a := 60) (b := j) (by decide) (by omega)).mp q; omega), hst, hc]
        simp only [Option.bind_some, ib0, if_true]
        rw [passNightK_C hw (by omega) (by omega)]
        simp only [Option.bind_some, bnd, nI_1]
theorem falls_M {r : AR} {N A : Nat → Int32} {F m : Nat} (hw : WF r) (hN : aN r ≤ 9999) (hF : 100000 ≤ F) (hm : m < aM r) :
    ∃ T : Int32 × (Nat → Int32) × (Nat → Int32), m_X9_falls_L16 (nI m) F (fun x6 w7 => (m_X9_backs F w7 (fa_fill (cN r N) A 24)).bind (fun v8 => (if 61 ≤ x6 then some (-4, v8, fa_fill (cN r N) A 24) else some (x6, v8, fa_fill (cN r N) A 24)))) F 0 (cN r N) = some T ∧ FF (fun k => !aSt (ntn r k) m) T.1 ∧ T.2.1 = cN r N := by
  have hM := hw.1
  refine loopEx (fun n x (s : Nat → Int32) => m_X9_falls_L16 (nI m) F (fun x6 w7 => (m_X9_backs F w7 (fa_fill (cN r N) A 24)).bind (fun v8 => (if 61 ≤ x6 then some (-4, v8, fa_fill (cN r N) A 24) else some (x6, v8, fa_fill (cN r N) A 24)))) n x s)
    (fun j s => (∀ i, i < j → (!aSt (ntn r i) m) = false) ∧ s = cN (ntn r j) N) (fun T => FF (fun k => !aSt (ntn r k) m) T.1 ∧ T.2.1 = cN r N) 61 (fun n s hi => ?_) (fun n j s hj hi => ?_) 61 F 0 (cN r N) (by omega) (by omega) ⟨fun i hi => absurd hi (Nat.not_lt_zero i), rfl⟩
  · obtain ⟨h1, rfl⟩ := hi
    refine ⟨(-4, cN r N, fa_fill (cN r N) A 24), ?_, Or.inr ⟨fun k hk => h1 k (by omega), rfl⟩, rfl⟩
    show m_X9_falls_L16s _ _ _ _ _ _ = _
    unfold m_X9_falls_L16s
    rw [if_pos (by decide)]
    simp only
    rw [backs_M (r := r) (by omega) hM (by rw [ntn_M]; exact hM) (aside_ok _ _)]
    rfl
  · obtain ⟨h1, rfl⟩ := hi
    have hm' : m < aM (ntn r j) := by rw [ntn_M]; exact hm
    have hst := stands_M (N := N) (show aM (ntn r j) ≤ 6 by rw [ntn_M]; exact hM) hm'
    have hnl : ¬ (61 : Int32) ≤ nI j := nInle (a := 61) (by decide) (by omega) hj
    cases hc : aSt (ntn r j) m
    · right
      refine ⟨(nI j, cN r N, fa_fill (cN r N) A 24), ?_, Or.inl ⟨j, by omega, (by show (!aSt (ntn r j) m) = true; rw [hc]; rfl), h1, rfl⟩, rfl⟩
      show m_X9_falls_L16s _ _ _ _ _ _ = _
      unfold m_X9_falls_L16s
      rw [if_neg hnl, hst, hc]
      simp only [Option.bind_some, ib0, Bool.false_eq_true, if_false]
      rw [backs_M (r := r) (by omega) hM (by rw [ntn_M]; exact hM) (aside_ok _ _)]
      simp only [Option.bind_some]
      rw [if_neg hnl]
    · left
      refine ⟨cN (ntn r (j + 1)) N, ⟨fun i hi => ?_, rfl⟩, ?_⟩
      · by_cases e : i = j
        · subst e; rw [hc]; rfl
        · exact h1 i (by omega)
      · show m_X9_falls_L16s _ _ _ _ _ _ = _
        unfold m_X9_falls_L16s
        rw [if_neg hnl, hst, hc]
        simp only [Option.bind_some, ib0, if_true]
        rw [night_M (ntn_WF hw j (by omega)) (by omega)]
        simp only [Option.bind_some, bnd, nI_1]
        rfl
theorem S_falls {r : AR} {d : Int32} {P I K N A : Nat → Int32} {F : Nat} (hw : WF r) (hN : aN r ≤ 9999) (hF : 100000 ≤ F) (a : Int32) (t1 t2 : Nat → Int32) (t3 t4 : Int32) (t5 : Nat → Int32) (t6 t7 t8 t9 : Int32) :
    ∃ v, ∃ T : RT, ∃ A2, m_X8_falls F (cP r P) (cI r I) (nI (aN r)) d (cK r K) (nI (aM r)) (nI (aS r)) (nI (aT r)) (nI (aH r)) t1 t2 t3 t4 t5 t6 t7 t8 t9 a = some (v, T) ∧ m_X9_falls F (cN r N) A a = some (v, cN r N, A2) := by
  have hM := hw.1
  unfold m_X8_falls m_X9_falls
  simp only [isMan_C, isMan_M, cN_0, Option.bind_some, ib0]
  cases h1 : wi a 0 (nI (aM r) - 1)
  · exact ⟨_, _, _, rfl, rfl⟩
  simp only [if_true]
  obtain ⟨m, hm, rfl⟩ := man_of hM h1
  obtain ⟨T, e1, f1⟩ := falls_C (d := d) (P := P) (I := I) (K := K) (F := F) hw hN hF hm t1 t2 t3 t4 t5 t6 t7 t8 t9
  obtain ⟨T2, e2, f2, f3⟩ := falls_M (N := N) (A := A) (F := F) hw hN hF hm
  rw [e1, asides_M (by omega)]
  simp only [Option.bind_some]
  rw [e2]
  obtain ⟨x, y, z⟩ := T2
  obtain ⟨x2, y2⟩ := T
  have f3 : y = cN r N := f3
  have f4 : x2 = x := FF_one f1 f2
  subst f3 f4
  exact ⟨_, _, _, rfl, rfl⟩
theorem alone_C {r : AR} {d : Int32} {P I K : Nat → Int32} {F : Nat} (hw : WF r) (hN : aN r ≤ 9999) (hF : 100000 ≤ F) (t1 t2 : Nat → Int32) (t3 t4 : Int32) (t5 : Nat → Int32) (t6 t7 t8 t9 : Int32) :
    ∃ T : Int32 × RT, m_X1_firstAlone F t1 t2 t3 t4 t5 t6 t7 t8 t9 (cP r P) (cI r I) (nI (aN r)) d (cK r K) (nI (aM r)) (nI (aS r)) (nI (aT r)) (nI (aH r)) = some T ∧ FF (fun k => decide (nSt (ntn r k) ≤ 1)) T.1 := by
  have hM := hw.1
  obtain ⟨P2, I2, K2, e1⟩ := takeAll_C (d := d) (P := P) (I := I) (K := K) hM t1 t2 t3 t4 t5 t6 t7 t8 t9
  unfold m_X1_firstAlone
  rw [e1]
  simp only [Option.bind_some, cR]
  refine loopEx (fun n x (s : (Nat → Int32) × (Nat → Int32) × Int32) => m_X1_firstAlone_L10 F (cP r P2, cI r I2, nI (aN r), d, cK r K2, nI (aM r), nI (aS r), nI (aT r), nI (aH r)) (fun w6 w7 w8 => some (-4, w6, w7, w8, d, cK r K2, nI (aM r), nI (aS r), nI (aT r), nI (aH r))) n x s.1 s.2.1 s.2.2)
    (fun j s => (∀ i, i < j → (decide (nSt (ntn r i) ≤ 1)) = false) ∧ s = (cP (ntn r j) P2, cI (ntn r j) I2, nI (aN r + j))) (fun T => FF (fun k => decide (nSt (ntn r k) ≤ 1)) T.1) 61 (fun n s hi => ?_) (fun n j s hj hi => ?_) 61 F 0 (cP r P2, cI r I2, nI (aN r)) (by omega) (by omega) ⟨fun i hi => absurd hi (Nat.not_lt_zero i), rfl⟩
  · refine ⟨(-4, s.1, s.2.1, s.2.2, d, cK r K2, nI (aM r), nI (aS r), nI (aT r), nI (aH r)), ?_, Or.inr ⟨fun k hk => hi.1 k (by omega), rfl⟩⟩
    show m_X1_firstAlone_L10s _ _ _ _ _ _ _ _ = _
    unfold m_X1_firstAlone_L10s
    rw [if_pos (by decide)]
  · obtain ⟨h1, rfl⟩ := hi
    have hst := howMany_C (I := I2) (ntn_WF hw j (by omega)) (show 64 ≤ F by omega)
    rw [ntn_M] at hst
    have hns := nSt_le (ntn r j)
    rw [ntn_M] at hns
    by_cases hc : nSt (ntn r j) ≤ 1
    · right
      refine ⟨(nI j, cP (ntn r j) P2, cI (ntn r j) I2, nI (aN r + j), d, cK r K2, nI (aM r), nI (aS r), nI (aT r), nI (aH r)), ?_, Or.inl ⟨j, by omega, decide_eq_true hc, h1, rfl⟩⟩
      show m_X1_firstAlone_L10s _ _ _ _ _ _ _ _ = _
      unfold m_X1_firstAlone_L10s
      rw [if_neg (fun q => by have := (nI_ltI (a := 60) (b := j) (by decide) (by omega)).mp q; omega)]
      simp only
      rw [hst]
      simp only [Option.bind_some]
      rw [if_neg (fun q => by have := (nI_ltI (a := 1) (b := nSt (ntn r j)) (by decide) (by omega)).mp q; omega)]
    · left
      refine ⟨(cP (ntn r (j + 1)) P2, cI (ntn r (j + 1)) I2, nI (aN r + j + 1)), ⟨fun i hi => ?_, rfl⟩, ?_⟩
      · by_cases e : i = j
        · subst e; exact decide_eq_false hc
        · exact h1 i (by omega)
      · show m_X1_firstAlone_L10s _ _ _ _ _ _ _ _ = _
        unfold m_X1_firstAlone_L10s
        rw [if_neg (fun q => by have := (nI_ltI (a := 60) (b := j) (by decide) (by omega)).mp q; omega)]
        simp only
        rw [hst]
        simp only [Option.bind_some]
        rw [if_pos (show (1 : Int32) < _ from (nI_ltI (a := 1) (b := nSt (ntn r j)) (by decide) (by omega)).mpr (by omega)), passNightK_C hw (by omega) (by omega)]
        simp only [Option.bind_some, bnd, nI_1]
theorem alone_M {r : AR} {N A : Nat → Int32} {F : Nat} (hw : WF r) (hN : aN r ≤ 9999) (hF : 100000 ≤ F) :
    ∃ T : Int32 × (Nat → Int32) × (Nat → Int32), m_X9_alone_L6 F (fun x6 w7 => (m_X9_backs F w7 (fa_fill (cN r N) A 24)).bind (fun v8 => (if 61 ≤ x6 then some (-4, v8, fa_fill (cN r N) A 24) else some (x6, v8, fa_fill (cN r N) A 24)))) F 0 (cN r N) = some T ∧ FF (fun k => decide (nSt (ntn r k) ≤ 1)) T.1 ∧ T.2.1 = cN r N := by
  have hM := hw.1
  refine loopEx (fun n x (s : Nat → Int32) => m_X9_alone_L6 F (fun x6 w7 => (m_X9_backs F w7 (fa_fill (cN r N) A 24)).bind (fun v8 => (if 61 ≤ x6 then some (-4, v8, fa_fill (cN r N) A 24) else some (x6, v8, fa_fill (cN r N) A 24)))) n x s)
    (fun j s => (∀ i, i < j → (decide (nSt (ntn r i) ≤ 1)) = false) ∧ s = cN (ntn r j) N) (fun T => FF (fun k => decide (nSt (ntn r k) ≤ 1)) T.1 ∧ T.2.1 = cN r N) 61 (fun n s hi => ?_) (fun n j s hj hi => ?_) 61 F 0 (cN r N) (by omega) (by omega) ⟨fun i hi => absurd hi (Nat.not_lt_zero i), rfl⟩
  · obtain ⟨h1, rfl⟩ := hi
    refine ⟨(-4, cN r N, fa_fill (cN r N) A 24), ?_, Or.inr ⟨fun k hk => h1 k (by omega), rfl⟩, rfl⟩
    show m_X9_alone_L6s _ _ _ _ _ = _
    unfold m_X9_alone_L6s
    rw [if_pos (by decide)]
    simp only
    rw [backs_M (r := r) (by omega) hM (by rw [ntn_M]; exact hM) (aside_ok _ _)]
    rfl
  · obtain ⟨h1, rfl⟩ := hi
    have hM' : aM (ntn r j) ≤ 6 := by rw [ntn_M]; exact hM
    have hns := nSt_le (ntn r j)
    have hnl : ¬ (61 : Int32) ≤ nI j := nInle (a := 61) (by decide) (by omega) hj
    by_cases hc : nSt (ntn r j) ≤ 1
    · right
      refine ⟨(nI j, cN r N, fa_fill (cN r N) A 24), ?_, Or.inl ⟨j, by omega, decide_eq_true hc, h1, rfl⟩, rfl⟩
      show m_X9_alone_L6s _ _ _ _ _ = _
      unfold m_X9_alone_L6s
      rw [if_neg hnl, standing_M hM' (by omega)]
      simp only [Option.bind_some]
      rw [manySt_M hM' (by omega)]
      simp only [Option.bind_some]
      rw [if_pos (show _ ≤ (1 : Int32) from nIle (b := 1) (by omega) (by decide) hc)]
      rw [backs_M (r := r) (by omega) hM hM' (aside_ok _ _)]
      simp only [Option.bind_some]
      rw [if_neg hnl]
    · left
      refine ⟨cN (ntn r (j + 1)) N, ⟨fun i hi => ?_, rfl⟩, ?_⟩
      · by_cases e : i = j
        · subst e; exact decide_eq_false hc
        · exact h1 i (by omega)
      · show m_X9_alone_L6s _ _ _ _ _ = _
        unfold m_X9_alone_L6s
        rw [if_neg hnl, standing_M hM' (by omega)]
        simp only [Option.bind_some]
        rw [manySt_M hM' (by omega)]
        simp only [Option.bind_some]
        rw [if_neg (show ¬ _ ≤ (1 : Int32) from nInle (b := 1) (by omega) (by decide) (by omega)), night_M (ntn_WF hw j (by omega)) (by omega)]
        simp only [Option.bind_some, bnd, nI_1]
        rfl
theorem S_alone {r : AR} {d : Int32} {P I K N A : Nat → Int32} {F : Nat} (hw : WF r) (hN : aN r ≤ 9999) (hF : 100000 ≤ F) (t1 t2 : Nat → Int32) (t3 t4 : Int32) (t5 : Nat → Int32) (t6 t7 t8 t9 : Int32) :
    ∃ v, ∃ T : RT, ∃ A2, m_X8_alone F (cP r P) (cI r I) (nI (aN r)) d (cK r K) (nI (aM r)) (nI (aS r)) (nI (aT r)) (nI (aH r)) t1 t2 t3 t4 t5 t6 t7 t8 t9 = some (v, T) ∧ m_X9_alone F (cN r N) A = some (v, cN r N, A2) := by
  have hM := hw.1
  unfold m_X8_alone m_X9_alone
  obtain ⟨T, e1, f1⟩ := alone_C (d := d) (P := P) (I := I) (K := K) (F := F) hw hN hF t1 t2 t3 t4 t5 t6 t7 t8 t9
  obtain ⟨T2, e2, f2, f3⟩ := alone_M (N := N) (A := A) (F := F) hw hN hF
  rw [e1, asides_M (by omega)]
  simp only [Option.bind_some]
  rw [e2]
  obtain ⟨x, y, z⟩ := T2
  obtain ⟨x2, y2⟩ := T
  have f3 : y = cN r N := f3
  have f4 : x2 = x := FF_one f1 f2
  subst f3 f4
  exact ⟨_, _, _, rfl, rfl⟩
