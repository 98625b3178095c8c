/-! ===== PURE E: nights on nights; trials ===== -/
theorem loopEx {α σ : Type} (L : Nat → Int32 → σ → Option α) (Iv : Nat → σ → Prop) (Po : α → Prop) (e : Nat)
    (hend : ∀ n s, Iv e s → ∃ a, L (n + 1) (nI e) s = some a ∧ Po a)
    (hstep : ∀ n j s, j < e → Iv j s → (∃ s', Iv (j + 1) s' ∧ L (n + 1) (nI j) s = L n (nI (j + 1)) s') ∨ (∃ a, L (n + 1) (nI j) s = some a ∧ Po a)) :
    ∀ d n j s, j + d = e → d < n → Iv j s → ∃ a, L n (nI j) s = some a ∧ Po a
  | 0, n, j, s, hj, hn, hi => by
    obtain ⟨n', rfl⟩ : ∃ n', n = n' + 1 := ⟨n - 1, by omega⟩
    have : j = e := by omega
    subst this; exact hend n' s hi
  | d + 1, n, j, s, hj, hn, hi => by
    obtain ⟨n', rfl⟩ : ∃ n', n = n' + 1 := ⟨n - 1, by omega⟩
    rcases hstep n' j s (by omega) hi with ⟨s', h1, h2⟩ | h
    · rw [h2]
      exact loopEx L Iv Po e hend hstep d n' (j + 1) s' (by omega) (by omega) h1
    · exact h
def ntn (r : AR) : Nat → AR
  | 0 => r
  | n + 1 => nt (ntn r n)
theorem ntn_M (r : AR) : ∀ n, aM (ntn r n) = aM r
  | 0 => rfl
  | n + 1 => ntn_M r n
theorem ntn_K (r : AR) : ∀ n, aK (ntn r n) = aK r
  | 0 => rfl
  | n + 1 => ntn_K r n
theorem ntn_S (r : AR) : ∀ n, aS (ntn r n) = aS r
  | 0 => rfl
  | n + 1 => ntn_S r n
theorem ntn_T (r : AR) : ∀ n, aT (ntn r n) = aT r
  | 0 => rfl
  | n + 1 => ntn_T r n
theorem ntn_H (r : AR) : ∀ n, aH (ntn r n) = aH r
  | 0 => rfl
  | n + 1 => ntn_H r n
theorem ntn_N (r : AR) : ∀ n, aN (ntn r n) = aN r + n
  | 0 => rfl
  | n + 1 => by show aN (ntn r n) + 1 = aN r + (n + 1); rw [ntn_N r n]; omega
theorem ntn_WF {r : AR} (hw : WF r) : ∀ n, aN r + n < 100000 → WF (ntn r n)
  | 0, _ => hw
  | n + 1, h => nt_WF (ntn_WF hw n (by omega)) (by rw [ntn_N]; omega)
theorem cK_cong {r q : AR} {K : Nat → Int32} (h1 : aM r = aM q) (h2 : aK r = aK q) : cK r K = cK q K := by unfold cK; rw [h1, h2]
theorem cK_ntn (r : AR) (K : Nat → Int32) (n : Nat) : cK (ntn r n) K = cK r K := cK_cong (ntn_M r n) (ntn_K r n)
theorem passNight_C {r : AR} {P I K : Nat → Int32} {F : Nat} (hw : WF r) (hF : 64 ≤ F) :
    m_X3_passNight F (cP r P) (cI r I) (nI (aN r)) (cK r K) (nI (aM r)) (nI (aS r)) (nI (aT r)) (nI (aH r)) = some (cP (nt r) P, cI (nt r) I, nI (aN r + 1)) := by
  unfold m_X3_passNight
  rw [taken_C hw.1 hF]
  simp only [Option.bind_some]
  rw [night_C hw hF]; rfl
/-- the same, n nights on, under the first rim's law -/
theorem passNightK_C {r : AR} {P I K : Nat → Int32} {F k : Nat} (hw : WF r) (hk : aN r + k < 100000) (hF : 64 ≤ F) :
    m_X3_passNight F (cP (ntn r k) P) (cI (ntn r k) I) (nI (aN r + k)) (cK r K) (nI (aM r)) (nI (aS r)) (nI (aT r)) (nI (aH r)) = some (cP (ntn r (k + 1)) P, cI (ntn r (k + 1)) I, nI (aN r + k + 1)) := by
  have := passNight_C (P := P) (I := I) (K := K) (ntn_WF hw k hk) hF
  rw [cK_ntn, ntn_M, ntn_S, ntn_T, ntn_H, ntn_N] at this
  exact this
theorem passWhile0_C {r : AR} {P I K : Nat → Int32} {F n : Nat} (hw : WF r) (hn : aN r + n < 100000) (hF : 100000 ≤ F) :
    m_X3_passWhile F (cP r P) (cI r I) (nI (aN r)) (cK r K) (nI (aM r)) (nI (aS r)) (nI (aT r)) (nI (aH r)) (nI n) 0 = some (nI (nSt (ntn r n)), cP (ntn r n) P, cI (ntn r n) I, nI (aN r + n)) := by
  unfold m_X3_passWhile
  rw [taken_C hw.1 (by omega)]
  simp only [Option.bind_some]
  rw [many_C hw]
  simp only [Option.bind_some]
  refine loopUp (fun m x (s : Int32 × Int32 × (Nat → Int32) × (Nat → Int32) × Int32) => m_X3_passWhile_L14 (cK r K) (nI (aM r)) (nI (aS r)) (nI (aT r)) (nI (aH r)) (nI n) 0 F (fun (x9 : Int32) (w10 : Nat → Int32) (w11 : Nat → Int32) (w12 : Int32) => some (x9, w10, w11, w12)) m x s.1 s.2.1 s.2.2.1 s.2.2.2.1 s.2.2.2.2) _
    (fun k => (nI (nSt (ntn r k)), nI (tk (ntn r k) (aM r)), cP (ntn r k) P, cI (ntn r k) I, nI (aN r + k))) n (fun m => ?_) (fun m k hk => ?_) n F 0 (by omega) (by omega)
  · show m_X3_passWhile_L14s _ _ _ _ _ _ _ _ _ _ _ _ _ _ _ _ = _
    unfold m_X3_passWhile_L14s
    rw [if_pos (nIle (by omega) (by omega) (Nat.le_refl _))]
  · show m_X3_passWhile_L14s _ _ _ _ _ _ _ _ _ _ _ _ _ _ _ _ = _
    unfold m_X3_passWhile_L14s
    have hwk := ntn_WF hw k (by omega)
    have hns := nSt_le (ntn r k)
    rw [ntn_M] at hns
    have hM := hw.1
    rw [if_neg (nInle (by omega) (by omega) hk), if_neg (nI_pos (by omega))]
    have h1 := night_C (P := P) (I := I) (K := K) hwk (show 64 ≤ F by omega)
    rw [cK_ntn, ntn_M, ntn_S, ntn_T, ntn_H, ntn_N] at h1
    rw [h1]
    simp only [Option.bind_some]
    have h2 := many_C (ntn_WF hw (k + 1) (by omega))
    rw [ntn_M] at h2
    change (m_J6_bitCount_0f7a4 (nI (tk (ntn r (k + 1)) (aM r)))).bind _ = _
    rw [h2]
    simp only [Option.bind_some, bnd, nI_1]
    rfl
theorem passSome_C {r : AR} {P I K : Nat → Int32} {F n : Nat} (hw : WF r) (hn : aN r + n < 100000) (hF : 100000 ≤ F) :
    m_X3_passSome F (cP r P) (cI r I) (nI (aN r)) (cK r K) (nI (aM r)) (nI (aS r)) (nI (aT r)) (nI (aH r)) (nI n) = some (cP (ntn r n) P, cI (ntn r n) I, nI (aN r + n)) := by
  unfold m_X3_passSome
  rw [passWhile0_C hw hn hF]; rfl
theorem c6 : (6 : Int32).toNatClampNeg = 6 := by decide +kernel
theorem c0 : (0 : Int32).toNatClampNeg = 0 := by decide +kernel
theorem cpy6 {α : Type} (f g : Nat → α) {m : Nat} (h : m < 6) : va_cpy f g (0 : Int32).toNatClampNeg (0 : Int32).toNatClampNeg (6 : Int32).toNatClampNeg m = f m := by
  rw [c0, c6]; unfold va_cpy
  rw [if_pos (by omega)]; congr 1; omega
theorem cP_self {r : AR} {f : Nat → Int32} (h : ∀ m, m < aM r → f m = nI (aP r m)) : f = cP r f := by
  funext m; unfold cP; split
  · rename_i q; exact h m q
  · rfl
theorem cI_self {r : AR} {f : Nat → Int32} (h : ∀ m, m < aM r → f m = eC (aI r m)) : f = cI r f := by
  funext m; unfold cI; split
  · rename_i q; exact h m q
  · rfl
theorem cK_self {r : AR} {f : Nat → Int32} (h : ∀ m, m < aM r → f m = nI (aK r m)) : f = cK r f := by
  funext m; unfold cK; split
  · rename_i q; exact h m q
  · rfl
abbrev RT : Type := (Nat → Int32) × (Nat → Int32) × Int32 × Int32 × (Nat → Int32) × Int32 × Int32 × Int32 × Int32
def cR (r : AR) (d : Int32) (P I K : Nat → Int32) : RT := (cP r P, cI r I, nI (aN r), d, cK r K, nI (aM r), nI (aS r), nI (aT r), nI (aH r))
theorem takeAll_C {r : AR} {d : Int32} {P I K : Nat → Int32} (hM : aM r ≤ 6) (a b : Nat → Int32) (c e : Int32) (f : Nat → Int32) (g h i j : Int32) :
    ∃ P2 I2 K2, m_X3_takeAll a b c e f g h i j (cP r P) (cI r I) (nI (aN r)) d (cK r K) (nI (aM r)) (nI (aS r)) (nI (aT r)) (nI (aH r)) = some (cR r d P2 I2 K2) := by
  refine ⟨va_cpy (cP r P) a (0 : Int32).toNatClampNeg (0 : Int32).toNatClampNeg (6 : Int32).toNatClampNeg, va_cpy (cI r I) b (0 : Int32).toNatClampNeg (0 : Int32).toNatClampNeg (6 : Int32).toNatClampNeg, va_cpy (cK r K) f (0 : Int32).toNatClampNeg (0 : Int32).toNatClampNeg (6 : Int32).toNatClampNeg, ?_⟩
  unfold m_X3_takeAll m_X0_takeMoment_X3X3 cR
  simp only [Option.bind_some]
  have e1 := cP_self (r := r) (f := va_cpy (cP r P) a (0 : Int32).toNatClampNeg (0 : Int32).toNatClampNeg (6 : Int32).toNatClampNeg) (fun m hm => by rw [cpy6 _ _ (by omega), cP_at hm])
  have e2 := cI_self (r := r) (f := va_cpy (cI r I) b (0 : Int32).toNatClampNeg (0 : Int32).toNatClampNeg (6 : Int32).toNatClampNeg) (fun m hm => by rw [cpy6 _ _ (by omega), cI_at hm])
  have e3 := cK_self (r := r) (f := va_cpy (cK r K) f (0 : Int32).toNatClampNeg (0 : Int32).toNatClampNeg (6 : Int32).toNatClampNeg) (fun m hm => by rw [cpy6 _ _ (by omega), cK_at hm])
  rw [← e1, ← e2, ← e3]
theorem behind_C {r : AR} {d : Int32} {P I K : Nat → Int32} {F n : Nat} (hw : WF r) (hn : aN r + n < 100000) (hF : 100000 ≤ F) (a b : Nat → Int32) (c e : Int32) (f : Nat → Int32) (g h i j : Int32) :
    ∃ P2 I2 K2, m_X1_behind F a b c e f g h i j (cP r P) (cI r I) (nI (aN r)) d (cK r K) (nI (aM r)) (nI (aS r)) (nI (aT r)) (nI (aH r)) (nI n) = some (cR (ntn r n) d P2 I2 K2) := by
  obtain ⟨P2, I2, K2, e1⟩ := takeAll_C (d := d) (P := P) (I := I) (K := K) hw.1 a b c e f g h i j
  refine ⟨P2, I2, K2, ?_⟩
  unfold m_X1_behind
  rw [e1]
  simp only [Option.bind_some, cR]
  rw [passSome_C hw hn hF]
  simp only [Option.bind_some]
  rw [cK_ntn, ntn_M, ntn_S, ntn_T, ntn_H, ntn_N]
theorem goesOn_M {r : AR} {N : Nat → Int32} {F n : Nat} (hw : WF r) (hn : aN r + n < 100000) (hF : 100000 ≤ F) : m_X9_goesOn F (cN r N) (nI n) = some (cN (ntn r n) N) := by
  unfold m_X9_goesOn
  refine loopUp (fun m x s => m_X9_goesOn_L2 (nI n) F (fun w3 => some w3) m x s) _ (fun k => cN (ntn r k) N) n (fun m => ?_) (fun m k hk => ?_) n F 0 (by omega) (by omega)
  · show m_X9_goesOn_L2s _ _ _ _ _ _ = _
    unfold m_X9_goesOn_L2s
    rw [if_pos (nIle (by omega) (by omega) (Nat.le_refl _))]
  · show m_X9_goesOn_L2s _ _ _ _ _ _ = _
    unfold m_X9_goesOn_L2s
    rw [if_neg (nInle (by omega) (by omega) hk), night_M (ntn_WF hw k (by omega)) (by omega)]
    simp only [Option.bind_some, bnd, nI_1]
    rfl
theorem asides_M {F : Nat} (hF : 64 ≤ F) (w A : Nat → Int32) : m_X9_asides F w A = some (fa_fill w A 24) := by
  unfold m_X9_asides
  have key := loopUp (fun m x s => m_X9_asides_L2 w (fun w3 => some w3) m x s) (some (fa_fill w A 24)) (fun k => fa_fill w A k) 24 (fun m => ?_) (fun m k hk => ?_) 24 F 0 (by omega) (by omega)
  · simp only [fa_fill_0] at key; exact key
  · show m_X9_asides_L2s _ _ _ _ _ = _
    unfold m_X9_asides_L2s
    rw [if_pos (by decide)]
  · show m_X9_asides_L2s _ _ _ _ _ = _
    unfold m_X9_asides_L2s
    rw [if_neg (show ¬ (24 : Int32) ≤ nI k from nInle (a := 24) (by decide) (by omega) hk)]
    simp only [chk_nI _ hk (by decide : (24 : Nat) < 2 ^ 31), cl (show k < 2 ^ 31 by omega), bnd, nI_1, fa_fill_succ]
theorem backs_MG {F : Nat} (hF : 64 ≤ F) (w A : Nat → Int32) : m_X9_backs F w A = some (fa_fill A w 24) := by
  unfold m_X9_backs
  have key := loopUp (fun m x s => m_X9_backs_L2 A (fun w3 => some w3) m x s) (some (fa_fill A w 24)) (fun k => fa_fill A w k) 24 (fun m => ?_) (fun m k hk => ?_) 24 F 0 (by omega) (by omega)
  · simp only [fa_fill_0] at key; exact key
  · show m_X9_backs_L2s _ _ _ _ _ = _
    unfold m_X9_backs_L2s
    rw [if_pos (by decide)]
  · show m_X9_backs_L2s _ _ _ _ _ = _
    unfold m_X9_backs_L2s
    rw [if_neg (show ¬ (24 : Int32) ≤ nI k from nInle (a := 24) (by decide) (by omega) hk)]
    simp only [chk_nI _ hk (by decide : (24 : Nat) < 2 ^ 31), cl (show k < 2 ^ 31 by omega), bnd, nI_1, fa_fill_succ]
theorem cN_far {r : AR} {N : Nat → Int32} (hM : aM r ≤ 6) {j : Nat} (hj : 24 ≤ j) : cN r N j = N j := by
  unfold cN
  rw [if_neg (by omega), if_neg (by omega), if_neg (by omega), if_neg (by omega), if_neg (by omega), if_neg (by omega)]
theorem backs_M {r q : AR} {N A : Nat → Int32} {F : Nat} (hF : 64 ≤ F) (h1 : aM r ≤ 6) (h2 : aM q ≤ 6) (hA : ∀ j, j < 24 → A j = cN r N j) : m_X9_backs F (cN q N) A = some (cN r N) := by
  rw [backs_MG hF]
  congr 1; funext j
  by_cases h : j < 24
  · rw [fa_fill_in h, hA j h]
  · rw [fa_fill_out (by omega), cN_far h2 (by omega), cN_far h1 (by omega)]
theorem aside_ok (w A : Nat → Int32) : ∀ j, j < 24 → fa_fill w A 24 j = w j := fun j h => fa_fill_in h
/-- tests of numbers: both sides by one Bool -/
def wi (x a b : Int32) : Bool := decide (a ≤ x) && decide (x ≤ b)
theorem within_C (x a b : Int32) : m_X8_within x a b = some (bI (wi x a b)) := by
  unfold m_X8_within wi
  by_cases h1 : x < a
  · rw [if_pos h1, decide_eq_false (fun q => by rw [fa_le] at q; rw [fa_lt] at h1; omega)]; rfl
  · rw [if_neg h1, decide_eq_true (fa_of_nlt h1)]
    by_cases h2 : b < x
    · rw [if_pos h2, decide_eq_false (fun q => by rw [fa_le] at q; rw [fa_lt] at h2; omega)]; rfl
    · rw [if_neg h2, decide_eq_true (fa_of_nlt h2)]; rfl
theorem cmp_lt (x y : Int64) : lg_cmp x y < 0 ↔ x < y := by
  unfold lg_cmp
  by_cases h1 : x > y
  · rw [if_pos h1]; constructor
    · intro h; exact absurd h (by decide)
    · intro h; rw [fa_lt64] at h; have h1' : y < x := h1; rw [fa_lt64] at h1'; omega
  · rw [if_neg h1]
    by_cases h2 : x = y
    · rw [if_pos h2]; subst h2; constructor
      · intro h; exact absurd h (by decide)
      · intro h; rw [fa_lt64] at h; omega
    · rw [if_neg h2]; constructor
      · intro _
        have h1' : ¬ y < x := h1
        rw [fa_lt64] at h1' ⊢; rw [fa_eq64] at h2; omega
      · intro _; decide
theorem cmp_gt (x y : Int64) : 0 < lg_cmp x y ↔ y < x := by
  unfold lg_cmp
  by_cases h1 : x > y
  · rw [if_pos h1]; exact ⟨fun _ => h1, fun _ => by decide⟩
  · rw [if_neg h1]
    by_cases h2 : x = y
    · rw [if_pos h2]; exact ⟨fun h => absurd h (by decide), fun h => absurd h h1⟩
    · rw [if_neg h2]; exact ⟨fun h => absurd h (by decide), fun h => absurd h h1⟩
theorem in_M (x a b : Int32) : m_X9_in x.toInt64 a.toInt64 b.toInt64 = some (bI (wi x a b)) := by
  unfold m_X9_in wi
  by_cases h1 : x < a
  · rw [if_pos ((cmp_lt _ _).mpr ((fa_wide_lt x a).mpr h1)), decide_eq_false (fun q => by rw [fa_le] at q; rw [fa_lt] at h1; omega)]; rfl
  · rw [if_neg (fun q => h1 ((fa_wide_lt x a).mp ((cmp_lt _ _).mp q))), decide_eq_true (fa_of_nlt h1)]
    by_cases h2 : b < x
    · rw [if_pos ((cmp_gt _ _).mpr ((fa_wide_lt b x).mpr h2)), decide_eq_false (fun q => by rw [fa_le] at q; rw [fa_lt] at h2; omega)]; rfl
    · rw [if_neg (fun q => h2 ((fa_wide_lt b x).mp ((cmp_gt _ _).mp q))), decide_eq_true (fa_of_nlt h2)]; rfl
theorem zb_bI {α : Type} (b : Bool) (x : Option α) : zb (bI b) x = x := by cases b <;> rfl
theorem wi_nI {x : Int32} {a b : Nat} (ha : a < 2 ^ 31) (hb : b < 2 ^ 31) (h : wi x (nI a) (nI b) = true) : ∃ k, x = nI k ∧ a ≤ k ∧ k ≤ b := by
  unfold wi at h
  rw [Bool.and_eq_true] at h
  obtain ⟨h1, h2⟩ := h
  have h1 := of_decide_eq_true h1
  have h2 := of_decide_eq_true h2
  rw [fa_le, nI_toInt ha] at h1
  rw [fa_le, nI_toInt hb] at h2
  obtain ⟨k, hk, rfl⟩ := nI_of (x := x) (by rw [fa_lt]; show ¬ x.toInt < (0 : Int32).toInt; rw [Int32.toInt_zero]; omega)
  rw [nI_toInt hk] at h1 h2
  exact ⟨k, rfl, by omega, by omega⟩
