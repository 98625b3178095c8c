/-! ===== PURE R: coats ===== -/
theorem ds_snoc {B : Nat} : ∀ n x, ds B (n + 1) x = ds B n x + dgt B x n
  | 0, x => by show x % B + 0 = 0 + x / B ^ 0 % B; rw [Nat.pow_zero, Nat.div_one]; omega
  | n + 1, x => by
    have h := ds_snoc (B := B) n (x / B)
    have e : dgt B (x / B) n = dgt B x (n + 1) := by unfold dgt; rw [Nat.pow_succ, Nat.mul_comm, ← Nat.div_div_eq_div_mul]
    show x % B + ds B (n + 1) (x / B) = x % B + ds B n (x / B) + dgt B x (n + 1)
    rw [h, e]; omega
def cx (r : AR) (k x : Nat) : AR := (aM r, aK r, fun m => pm (aP r m) (dgt (k + 1) x (aM r - 1 - m)), aI r, aS r, aT r, aH r, aN r)
theorem cx_WF {r : AR} {k x : Nat} (hw : WF r) : WF (cx r k x) := by
  refine ⟨hw.1, fun m hm => ⟨(hw.2.1 m hm).1, pm_le _ _, (hw.2.1 m hm).2.2⟩, hw.2.2.1, hw.2.2.2.1, hw.2.2.2.2.1, hw.2.2.2.2.2.1, hw.2.2.2.2.2.2⟩
/-- those below j have their coats -/
def cxj (r : AR) (k x j : Nat) : AR := (aM r, aK r, fun m => if m < j then pm (aP r m) (dgt (k + 1) x (aM r - 1 - m)) else aP r m, aI r, aS r, aT r, aH r, aN r)
theorem cxj_0 (r : AR) (k x : Nat) : cxj r k x 0 = r := by
  refine AR_ext rfl rfl ?_ rfl rfl rfl rfl rfl
  funext m
  show (if m < 0 then pm (aP r m) (dgt (k + 1) x (aM r - 1 - m)) else aP r m) = aP r m
  rw [if_neg (by omega)]
theorem cxj_WF {r : AR} {k x j : Nat} (hw : WF r) : WF (cxj r k x j) := by
  refine ⟨hw.1, fun m hm => ⟨(hw.2.1 m hm).1, ?_, (hw.2.1 m hm).2.2⟩, hw.2.2.1, hw.2.2.2.1, hw.2.2.2.2.1, hw.2.2.2.2.2.1, hw.2.2.2.2.2.2⟩
  show (if m < j then _ else aP r m) ≤ 9
  split
  · exact pm_le _ _
  · exact (hw.2.1 m hm).2.1
theorem cxj_endP {r : AR} {k x : Nat} {P : Nat → Int32} : cP (cxj r k x (aM r)) P = cP (cx r k x) P := by
  funext m
  show (if m < aM r then nI (if m < aM r then _ else aP r m) else P m) = (if m < aM r then nI _ else P m)
  by_cases h : m < aM r
  · rw [if_pos h, if_pos h, if_pos h]; rfl
  · rw [if_neg h, if_neg h]
theorem cxj_endN {r : AR} {k x : Nat} {N : Nat → Int32} : cN (cxj r k x (aM r)) N = cN (cx r k x) N := by
  refine cN_ext rfl rfl rfl rfl rfl (fun m hm => ?_) (fun m hm => ?_) (fun m hm => ?_) (fun j hj => ?_)
  · exact cN_k (r := cxj r k x (aM r)) hm
  · have hm : m < aM r := hm
    rw [cN_p (r := cxj r k x (aM r)) hm]
    show nI (if m < aM r then _ else aP r m) = _
    rw [if_pos hm]; rfl
  · exact cN_i (r := cxj r k x (aM r)) hm
  · have hj : j = 5 ∨ 6 + 3 * aM r ≤ j := hj
    unfold cN
    rw [if_neg (by omega), if_neg (by omega), if_neg (by omega), if_neg (by omega), if_neg (by omega)]
    show (if 6 ≤ j ∧ j < 6 + 3 * aM r then _ else N j) = N j
    rw [if_neg (by omega)]
theorem cxj_step {r : AR} {k x j : Nat} : sP (cxj r k x j) j (pm (aP r j) (dgt (k + 1) x (aM r - 1 - j))) = cxj r k x (j + 1) := by
  refine AR_ext rfl rfl ?_ rfl rfl rfl rfl rfl
  funext m
  show (if m = j then _ else if m < j then _ else aP r m) = if m < j + 1 then _ else aP r m
  by_cases e : m = j
  · subst e; rw [if_pos rfl, if_pos (by omega)]
  · rw [if_neg e]
    by_cases h : m < j
    · rw [if_pos h, if_pos (by omega)]
    · rw [if_neg h, if_neg (by omega)]
theorem cxj_P {r : AR} {k x j : Nat} : aP (cxj r k x j) j = aP r j := by
  show (if j < j then _ else aP r j) = aP r j
  rw [if_neg (by omega)]
def pS (q : AR) : Nat := fb_sm (fun m => if aSt q m then aP q m else 0) (aM q)
theorem pS_C {q : AR} {P I : Nat → Int32} {F : Nat} (hM : aM q ≤ 6) (hF : 64 ≤ F) : m_X3_paintOfStanding F (cP q P) (cI q I) (nI (aM q)) = some (nI (pS q)) := by
  unfold m_X3_paintOfStanding pS
  refine loopUp (fun n x s => m_X3_paintOfStanding_L4 (cP q P) (cI q I) (nI (aM q)) (fun x3 => some x3) n x s) _ (fun j => nI (fb_sm (fun m => if aSt q m then aP q m else 0) j)) (aM q) (fun n => ?_) (fun n j hj => ?_) (aM q) F 0 (by omega) (by omega)
  · show m_X3_paintOfStanding_L4s _ _ _ _ _ _ _ = _
    unfold m_X3_paintOfStanding_L4s
    rw [if_pos (nIle (by omega) (by omega) (Nat.le_refl _))]
  · show m_X3_paintOfStanding_L4s _ _ _ _ _ _ _ = _
    unfold m_X3_paintOfStanding_L4s
    rw [if_neg (nInle (by omega) (by omega) hj), stands_C hM hj]
    simp only [Option.bind_some, ib0, bnd, nI_1, fb_sm_succ]
    rw [chk_nI _ (by omega) (by decide), cl (by omega), cP_at hj, nI_add]
    cases aSt q j
    · simp only [Bool.false_eq_true, if_false, Nat.add_zero]
    · simp only [if_true]
theorem pS_M {q : AR} {N : Nat → Int32} {F : Nat} (hM : aM q ≤ 6) (hF : 64 ≤ F) : m_X9_paintAll F (cN q N) (nI (sb (aSt q) (aM q))) = some (nI (pS q)) := by
  rw [paintA_M hM hF (sb64 _ hM)]
  unfold pS
  rw [fb_sm_cong (f := fun m => if (sb (aSt q) (aM q)).testBit m then aP q m else 0) (g := fun m => if aSt q m then aP q m else 0) (fun m hm => by rw [sb_bit, decide_eq_true hm, Bool.true_and])]
theorem pS_le {q : AR} (hw : WF q) : pS q ≤ 54 := by
  have h := fb_sm_bound (f := fun m => if aSt q m then aP q m else 0) (c := 9) (n := aM q) (fun m hm => by
    have := (hw.2.1 m hm).2.1
    show (if aSt q m then aP q m else 0) ≤ 9
    split
    · exact this
    · omega)
  have := hw.1
  have h2 : aM q * 9 ≤ 6 * 9 := Nat.mul_le_mul_right 9 this
  unfold pS; omega
theorem nSt_nt (q : AR) : nSt (nt q) ≤ nSt q := fb_ct_sub (fun m _ h => by
  have h : decide (nIn q m < 12) = true := h
  have h := of_decide_eq_true h
  unfold nIn at h
  show decide (aI q m < 12) = true
  split at h
  · omega
  · exact decide_eq_true h)
theorem nSt_mono (q : AR) (j : Nat) : ∀ d, nSt (ntn q (j + d)) ≤ nSt (ntn q j)
  | 0 => Nat.le_refl _
  | d + 1 => Nat.le_trans (nSt_nt (ntn q (j + d))) (nSt_mono q j d)
theorem passWhile_C {r : AR} {P I K : Nat → Int32} {F n : Nat} {f : Int32} (hw : WF r) (hn : aN r + n < 100000) (hF : 100000 ≤ F) :
    ∃ j, j ≤ n ∧ m_X3_passWhile F (cP r P) (cI r I) (nI (aN r)) (cK r K) (nI (aM r)) (nI (aS r)) (nI (aT r)) (nI (aH r)) (nI n) f = some (nI (nSt (ntn r j)), cP (ntn r j) P, cI (ntn r j) I, nI (aN r + j)) ∧ (j = n ∨ nI (nSt (ntn r j)) < f) := by
  unfold m_X3_passWhile
  rw [taken_C hw.1 (by omega), Option.bind_some, many_C hw, Option.bind_some]
  have key := loopEx (fun m x (s : Int32 × Int32 × (Nat → Int32) × (Nat → Int32) × Int32) => m_X3_passWhile_L14 (cK r K) (nI (aM r)) (nI (aS r)) (nI (aT r)) (nI (aH r)) (nI n) f F (fun (x9 : Int32) (w10 : Nat → Int32) (w11 : Nat → Int32) (w12 : Int32) => some (x9, w10, w11, w12)) m x s.1 s.2.1 s.2.2.1 s.2.2.2.1 s.2.2.2.2)
    (fun k s => s = (nI (nSt (ntn r k)), nI (tk (ntn r k) (aM r)), cP (ntn r k) P, cI (ntn r k) I, nI (aN r + k))) (fun T => ∃ j, j ≤ n ∧ T = (nI (nSt (ntn r j)), cP (ntn r j) P, cI (ntn r j) I, nI (aN r + j)) ∧ (j = n ∨ nI (nSt (ntn r j)) < f)) n (fun m s h => ?_) (fun m k s hk h => ?_) n F 0 (nI (nSt r), nI (tk r (aM r)), cP r P, cI r I, nI (aN r)) (by omega) (by omega) rfl
  · obtain ⟨T, e1, j, hj, rfl, e2⟩ := key
    exact ⟨j, hj, e1, e2⟩
  · subst h
    refine ⟨_, ?_, n, Nat.le_refl _, rfl, Or.inl rfl⟩
    show m_X3_passWhile_L14s _ _ _ _ _ _ _ _ _ _ _ _ _ _ _ _ = _
    unfold m_X3_passWhile_L14s
    rw [if_pos (nIle (by omega) (by omega) (Nat.le_refl _))]
  · subst h
    by_cases hf : nI (nSt (ntn r k)) < f
    · right
      refine ⟨_, ?_, k, by omega, rfl, Or.inr hf⟩
      show m_X3_passWhile_L14s _ _ _ _ _ _ _ _ _ _ _ _ _ _ _ _ = _
      unfold m_X3_passWhile_L14s
      rw [if_neg (nInle (by omega) (by omega) hk), if_pos hf]
    · left
      refine ⟨_, rfl, ?_⟩
      show m_X3_passWhile_L14s _ _ _ _ _ _ _ _ _ _ _ _ _ _ _ _ = _
      unfold m_X3_passWhile_L14s
      have hwk := ntn_WF hw k (by omega)
      rw [if_neg (nInle (by omega) (by omega) hk), if_neg hf]
      have h1 := night_C (P := P) (I := I) (K := K) hwk (show 64 ≤ F by omega)
      rw [cK_ntn, ntn_M, ntn_S, ntn_T, ntn_H, ntn_N] at h1
      rw [h1, Option.bind_some]
      have h2 := many_C (ntn_WF hw (k + 1) (by omega))
      rw [ntn_M] at h2
      change (m_J6_bitCount_0f7a4 (nI (tk (ntn r (k + 1)) (aM r)))).bind _ = _
      rw [h2]
      simp only [Option.bind_some, bnd, nI_1]
      rfl
/-- the best so far: a number, how many stand, their paint -/
abbrev BX : Type := Option (Nat × Nat × Nat)
def up3 (q : BX) (x s p : Nat) : BX := match q with
  | none => some (x, s, p)
  | some z => if z.2.1 < s ∨ (s = z.2.1 ∧ z.2.2 < p) then some (x, s, p) else some z
def bx (r : AR) (k n : Nat) : Nat → BX
  | 0 => none
  | x + 1 => if prt k (aM r) x then up3 (bx r k n x) x (nSt (ntn (cx r k x) n)) (pS (ntn (cx r k x) n)) else bx r k n x
def e1x : BX → Int32
  | none => -1
  | some z => nI z.2.1
def e2x : BX → Int32
  | none => -1
  | some z => nI z.2.2
def bxb (q : BX) : Prop := ∀ z, q = some z → z.2.1 ≤ 6 ∧ z.2.2 ≤ 54
def VB (k M : Nat) (w : Nat → Int32) (q : BX) : Prop := ∀ z, q = some z → VN k M w z.1
theorem up3_b {q : BX} {x s p : Nat} (h : bxb q) (hs : s ≤ 6) (hp : p ≤ 54) : bxb (up3 q x s p) := by
  intro z hz
  cases q with
  | none => simp only [up3, Option.some.injEq] at hz; rw [← hz]; exact ⟨hs, hp⟩
  | some y =>
    simp only [up3] at hz
    split at hz
    · rw [Option.some.injEq] at hz; rw [← hz]; exact ⟨hs, hp⟩
    · exact h z hz
theorem bx_b {r : AR} (hw : WF r) {k n : Nat} (hn : aN r + n < 100000) : ∀ x, bxb (bx r k n x)
  | 0 => fun z hz => absurd hz (by simp [bx])
  | x + 1 => by
    unfold bx
    split
    · exact up3_b (bx_b hw hn x) (nSt6 (r := cx r k x) hw.1 n) (pS_le (ntn_WF (cx_WF hw) n hn))
    · exact bx_b hw hn x
theorem bx_gap {r : AR} {k n v : Nat} : ∀ d, (∀ x, v ≤ x → x < v + d → prt k (aM r) x = false) → bx r k n (v + d) = bx r k n v
  | 0, _ => rfl
  | d + 1, h => by
    show bx r k n ((v + d) + 1) = _
    rw [bx, h (v + d) (by omega) (by omega), bx_gap d (fun x h1 h2 => h x h1 (by omega))]; rfl
theorem ct_gap {p : Nat → Bool} {v : Nat} : ∀ d, (∀ x, v ≤ x → x < v + d → p x = false) → fb_ct p (v + d) = fb_ct p v
  | 0, _ => rfl
  | d + 1, h => by
    show fb_ct p ((v + d) + 1) = _
    rw [fb_ct_succ, h (v + d) (by omega) (by omega), ct_gap d (fun x h1 h2 => h x h1 (by omega))]; rfl
theorem up3_some (q : BX) (x s p : Nat) : ∃ z, up3 q x s p = some z := by
  cases q with
  | none => exact ⟨_, rfl⟩
  | some y => simp only [up3]; split <;> exact ⟨_, rfl⟩
theorem bx_some {r : AR} {k n y : Nat} (h : prt k (aM r) y = true) : ∀ x, y < x → ∃ z, bx r k n x = some z
  | 0, hx => absurd hx (Nat.not_lt_zero y)
  | x + 1, hx => by
    unfold bx
    by_cases e : y = x
    · subst e; rw [if_pos h]; exact up3_some _ _ _ _
    · split
      · exact up3_some _ _ _ _
      · exact bx_some h x (by omega)
theorem neg1x : ∀ c, c ≤ 60 → (-1 : Int32) < nI c := by decide +kernel
/-- the choice of both sides -/
theorem pick {α : Type} {q : BX} {x s p : Nat} (hq : bxb q) (hs : s ≤ 6) (hp : p ≤ 54) (a b : α) : (if e1x q < nI s then a else (if nI s = e1x q then (if nI p ≤ e2x q then b else a) else b)) = if (up3 q x s p = some (x, s, p) ∧ (q = none ∨ ∃ z, q = some z ∧ (z.2.1 < s ∨ (s = z.2.1 ∧ z.2.2 < p)))) then a else b := by
  cases q with
  | none =>
    rw [if_pos (show e1x none < nI s from neg1x s (by omega)), if_pos ⟨rfl, Or.inl rfl⟩]
  | some z =>
    obtain ⟨h1, h2⟩ := hq z rfl
    have e0 : up3 (some z) x s p = if z.2.1 < s ∨ (s = z.2.1 ∧ z.2.2 < p) then some (x, s, p) else some z := rfl
    by_cases c1 : z.2.1 < s
    · rw [if_pos (show e1x (some z) < nI s from (nI_ltI (by omega) (by omega)).mpr c1), if_pos ⟨by rw [e0, if_pos (Or.inl c1)], Or.inr ⟨z, rfl, Or.inl c1⟩⟩]
    · rw [if_neg (show ¬ e1x (some z) < nI s from fun q => c1 ((nI_ltI (by omega) (by omega)).mp q))]
      by_cases c2 : s = z.2.1
      · rw [if_pos (show nI s = e1x (some z) by rw [c2]; rfl)]
        by_cases c3 : z.2.2 < p
        · rw [if_neg (show ¬ nI p ≤ e2x (some z) from nInle (by omega) (by omega) c3), if_pos ⟨by rw [e0, if_pos (Or.inr ⟨c2, c3⟩)], Or.inr ⟨z, rfl, Or.inr ⟨c2, c3⟩⟩⟩]
        · rw [if_pos (show nI p ≤ e2x (some z) from nIle (by omega) (by omega) (by omega)), if_neg]
          rintro ⟨-, y | ⟨y, hy, hy2⟩⟩
          · exact absurd y (by simp)
          · rw [Option.some.injEq] at hy; subst hy; omega
      · rw [if_neg (show ¬ nI s = e1x (some z) from fun q => c2 ((nI_eq (by omega) (by omega)).mp q)), if_neg]
        rintro ⟨-, y | ⟨y, hy, hy2⟩⟩
        · exact absurd y (by simp)
        · rw [Option.some.injEq] at hy; subst hy; omega
theorem up3_not {q : BX} {x s p : Nat} (h : ¬ (up3 q x s p = some (x, s, p) ∧ (q = none ∨ ∃ z, q = some z ∧ (z.2.1 < s ∨ (s = z.2.1 ∧ z.2.2 < p))))) : up3 q x s p = q := by
  cases q with
  | none => exact absurd ⟨rfl, Or.inl rfl⟩ h
  | some z =>
    have e0 : up3 (some z) x s p = if z.2.1 < s ∨ (s = z.2.1 ∧ z.2.2 < p) then some (x, s, p) else some z := rfl
    by_cases c : z.2.1 < s ∨ (s = z.2.1 ∧ z.2.2 < p)
    · exact absurd ⟨by rw [e0, if_pos c], Or.inr ⟨z, rfl, c⟩⟩ h
    · rw [e0, if_neg c]
