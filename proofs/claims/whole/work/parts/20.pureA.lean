/-! ===== PURE A: loops, sets of bits, counts ===== -/
theorem loopUp {α σ : Type} (L : Nat → Int32 → σ → Option α) (z : Option α) (f : Nat → σ) (e : Nat)
    (hend : ∀ n, L (n + 1) (nI e) (f e) = z)
    (hstep : ∀ n j, j < e → L (n + 1) (nI j) (f j) = L n (nI (j + 1)) (f (j + 1))) :
    ∀ d n j, j + d = e → d < n → L n (nI j) (f j) = z
  | 0, n, j, hj, hn => by
    obtain ⟨n', rfl⟩ : ∃ n', n = n' + 1 := ⟨n - 1, by omega⟩
    have : j = e := by omega
    subst this; exact hend n'
  | d + 1, n, j, hj, hn => by
    obtain ⟨n', rfl⟩ : ∃ n', n = n' + 1 := ⟨n - 1, by omega⟩
    rw [hstep n' j (by omega)]
    exact loopUp L z f e hend hstep d n' (j + 1) (by omega) (by omega)
theorem nIle {a b : Nat} (ha : a < 2 ^ 31) (hb : b < 2 ^ 31) (h : a ≤ b) : nI a ≤ nI b := (nI_leI ha hb).mpr h
theorem nInle {a b : Nat} (ha : a < 2 ^ 31) (hb : b < 2 ^ 31) (h : b < a) : ¬ nI a ≤ nI b := fun q => by have := (nI_leI ha hb).mp q; omega
theorem chk_nI {α : Type} {n N : Nat} (x : Option α) (h : n < N) (hN : N < 2 ^ 31) : chk (nI n) N x = x := by
  have h1 : inb (nI n) N = true := by
    unfold inb
    have a1 : ¬ nI n < 0 := nI_pos (by omega)
    have a2 : (nI n).toNatClampNeg = n := nI_clamp (by omega)
    simp [a1, a2, h]
  unfold chk; rw [if_pos h1]
theorem cl {n : Nat} (h : n < 2 ^ 31) : (nI n).toNatClampNeg = n := nI_clamp h
theorem sh1 : ∀ j, j < 31 → (1 : Int32) <<< (nI j &&& 31) = nI (2 ^ j) := by decide +kernel
/-- the set of those below n with c, as a number -/
def sb (c : Nat → Bool) : Nat → Nat
  | 0 => 0
  | n + 1 => if c n then sb c n ||| 2 ^ n else sb c n
theorem sb_lt (c : Nat → Bool) : ∀ n, sb c n < 2 ^ n
  | 0 => by show 0 < 1; decide
  | n + 1 => by
    have ih := sb_lt c n
    have h2 : 2 ^ n < 2 ^ (n + 1) := Nat.pow_lt_pow_right (by decide) (Nat.lt_succ_self n)
    unfold sb
    split
    · exact Nat.or_lt_two_pow (by omega) h2
    · omega
theorem sb_bit (c : Nat → Bool) : ∀ n k, (sb c n).testBit k = (decide (k < n) && c k)
  | 0, k => by simp [sb]
  | n + 1, k => by
    have ih := sb_bit c n k
    unfold sb
    by_cases hc : c n
    · rw [if_pos hc, Nat.testBit_or, ih, Nat.testBit_two_pow]
      by_cases hk : n = k
      · subst hk; simp [hc]
      · have : decide (k < n + 1) = decide (k < n) := by apply decide_eq_decide.mpr; omega
        simp [hk, this]
    · rw [if_neg hc, ih]
      by_cases hk : n = k
      · subst hk; simp [hc]
      · have : decide (k < n + 1) = decide (k < n) := by apply decide_eq_decide.mpr; omega
        simp [this]
theorem sb_cong {c d : Nat → Bool} : ∀ {n : Nat}, (∀ k, k < n → c k = d k) → sb c n = sb d n
  | 0, _ => rfl
  | n + 1, h => by
    unfold sb
    rw [sb_cong (fun k hk => h k (by omega)), h n (by omega)]
theorem ct_lt (c : Nat → Bool) (n : Nat) : ∀ d, fb_ct (fun k => decide (k < n) && c k) (n + d) = fb_ct c n
  | 0 => fb_ct_cong (fun k hk => by simp [show k < n by omega])
  | d + 1 => by
    rw [show n + (d + 1) = (n + d) + 1 by omega, fb_ct_succ, ct_lt c n d]
    have : decide (n + d < n) = false := decide_eq_false (by omega)
    rw [this]; rfl
theorem sb_ct (c : Nat → Bool) {n N : Nat} (h : n ≤ N) : fb_ct (fun k => (sb c n).testBit k) N = fb_ct c n := by
  obtain ⟨d, rfl⟩ : ∃ d, N = n + d := ⟨N - n, by omega⟩
  rw [← ct_lt c n d]
  exact fb_ct_cong (fun k _ => sb_bit c n k)
set_option maxRecDepth 100000 in
theorem bc_all : (List.range 4096).all (fun x => decide (m_J6_bitCount_0f7a4 (nI x) = some (nI (fb_ct (fun b => x.testBit b) 12)))) = true := by decide +kernel
theorem bc {x : Nat} (h : x < 4096) : m_J6_bitCount_0f7a4 (nI x) = some (nI (fb_ct (fun b => x.testBit b) 12)) := of_decide_eq_true (List.all_eq_true.mp bc_all x (List.mem_range.mpr h))
theorem many_step : ∀ x, x < 64 → x ≠ 0 → ∃ y, y < x ∧ nI x &&& (nI x - 1) = nI y ∧ fb_ct (fun b => y.testBit b) 6 + 1 = fb_ct (fun b => x.testBit b) 6 := by
  intro x hx h0
  refine ⟨x &&& (x - 1), ?_, ?_, ?_⟩
  · have : ∀ x, x < 64 → x ≠ 0 → x &&& (x - 1) < x := by decide +kernel
    exact this x hx h0
  · have : ∀ x, x < 64 → x ≠ 0 → nI x &&& (nI x - 1) = nI (x &&& (x - 1)) := by decide +kernel
    exact this x hx h0
  · have : ∀ x, x < 64 → x ≠ 0 → fb_ct (fun b => (x &&& (x - 1)).testBit b) 6 + 1 = fb_ct (fun b => x.testBit b) 6 := by decide +kernel
    exact this x hx h0
theorem many_loop (k : Int32 → Option Int32) : ∀ (x : Nat), x < 64 → ∀ (n a : Nat), x < n → m_X9_many_L4 k n (nI x) (nI a) = k (nI (a + fb_ct (fun b => x.testBit b) 6)) := by
  intro x
  induction x using Nat.strongRecOn with
  | ind x ih =>
    intro hx n a hn
    obtain ⟨n', rfl⟩ : ∃ n', n = n' + 1 := ⟨n - 1, by omega⟩
    show m_X9_many_L4s k (m_X9_many_L4 k n') (nI x) (nI a) = _
    unfold m_X9_many_L4s
    by_cases h0 : x = 0
    · subst h0
      rw [if_pos (by decide)]
      have : fb_ct (fun b => (0 : Nat).testBit b) 6 = 0 := by decide
      rw [this, Nat.add_zero]
    · have hne : ¬ nI x = 0 := nI_ne0 (by omega) (by omega)
      rw [if_neg hne]
      obtain ⟨y, hy, e, hc⟩ := many_step x hx h0
      simp only [bnd]
      rw [e, nI_1, ih y hy (by omega) n' (a + 1) (by omega)]
      congr 2; omega
theorem many_spec {F x : Nat} (hF : 64 ≤ F) (hx : x < 64) : m_X9_many F (nI x) = some (nI (fb_ct (fun b => x.testBit b) 6)) := by
  unfold m_X9_many
  have := many_loop (fun x3 => some x3) x hx F 0 (by omega)
  rw [Nat.zero_add] at this
  exact this
