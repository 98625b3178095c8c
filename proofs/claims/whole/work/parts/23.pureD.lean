/-! ===== PURE D: the reference's rim, and its night (with steam: x, those who have no grip) ===== -/
def cN (r : AR) (N : Nat → Int32) : Nat → Int32 := fun j =>
  if j = 0 then nI (aM r) else if j = 1 then nI (aN r) else if j = 2 then nI (aS r) else if j = 3 then nI (aT r) else if j = 4 then nI (aH r)
  else if 6 ≤ j ∧ j < 6 + 3 * aM r then (if (j - 6) % 3 = 0 then nI (aK r ((j - 6) / 3)) else if (j - 6) % 3 = 1 then nI (aP r ((j - 6) / 3)) else eM (aI r ((j - 6) / 3))) else N j
theorem cN_0 {r : AR} {N : Nat → Int32} : cN r N 0 = nI (aM r) := rfl
theorem cN_1 {r : AR} {N : Nat → Int32} : cN r N 1 = nI (aN r) := rfl
theorem cN_2 {r : AR} {N : Nat → Int32} : cN r N 2 = nI (aS r) := rfl
theorem cN_3 {r : AR} {N : Nat → Int32} : cN r N 3 = nI (aT r) := rfl
theorem cN_4 {r : AR} {N : Nat → Int32} : cN r N 4 = nI (aH r) := rfl
theorem cN_5 {r : AR} {N : Nat → Int32} : cN r N 5 = N 5 := rfl
theorem cN_k {r : AR} {N : Nat → Int32} {m : Nat} (h : m < aM r) : cN r N (6 + 3 * m) = nI (aK r m) := by
  unfold cN
  rw [if_neg (by omega), if_neg (by omega), if_neg (by omega), if_neg (by omega), if_neg (by omega), if_pos (by omega), if_pos (by omega), show (6 + 3 * m - 6) / 3 = m by omega]
theorem cN_p {r : AR} {N : Nat → Int32} {m : Nat} (h : m < aM r) : cN r N (6 + 3 * m + 1) = nI (aP r m) := by
  unfold cN
  rw [if_neg (by omega), if_neg (by omega), if_neg (by omega), if_neg (by omega), if_neg (by omega), if_pos (by omega), if_neg (by omega), if_pos (by omega), show (6 + 3 * m + 1 - 6) / 3 = m by omega]
theorem cN_i {r : AR} {N : Nat → Int32} {m : Nat} (h : m < aM r) : cN r N (6 + 3 * m + 2) = eM (aI r m) := by
  unfold cN
  rw [if_neg (by omega), if_neg (by omega), if_neg (by omega), if_neg (by omega), if_neg (by omega), if_pos (by omega), if_neg (by omega), if_neg (by omega), show (6 + 3 * m + 2 - 6) / 3 = m by omega]
theorem ix3 (m w : Nat) : (6 + 3 * nI m) + nI w = nI (6 + 3 * m + w) := by
  rw [show (6 : Int32) = nI 6 from rfl, show (3 : Int32) = nI 3 from rfl, pk_mul, nI_add, nI_add]
theorem told_M {w : Nat → Int32} {m k : Nat} (hm : m < 6) (hk : k < 3) : m_X9_told w (nI m) (nI k) = some (w (6 + 3 * m + k)) := by
  unfold m_X9_told
  rw [ix3, chk_nI _ (by omega) (by decide), cl (by omega)]
theorem paintOf_M {w : Nat → Int32} {m : Nat} (hm : m < 6) : m_X9_paintOf w (nI m) = some (w (6 + 3 * m + 1)) := by
  unfold m_X9_paintOf
  rw [show (1 : Int32) = nI 1 from rfl, told_M hm (by decide)]; rfl
theorem inchOf_M {w : Nat → Int32} {m : Nat} (hm : m < 6) : m_X9_inchOf w (nI m) = some (w (6 + 3 * m + 2)) := by
  unfold m_X9_inchOf
  rw [show (2 : Int32) = nI 2 from rfl, told_M hm (by decide)]; rfl
theorem standsG_M {w : Nat → Int32} {m x : Nat} (hm : m < 6) (h : w (6 + 3 * m + 2) = eM x) : m_X9_stands w (nI m) = some (bI (decide (x < 12))) := by
  unfold m_X9_stands
  rw [inchOf_M hm, h]
  simp only [Option.bind_some]
  by_cases h2 : x < 12
  · rw [eM_t h2, if_neg (nI_nm1 _ h2).2, decide_eq_true h2]; rfl
  · rw [eM_f h2, if_pos rfl, decide_eq_false h2]; rfl
theorem stands_M {r : AR} {N : Nat → Int32} {m : Nat} (hM : aM r ≤ 6) (hm : m < aM r) : m_X9_stands (cN r N) (nI m) = some (bI (aSt r m)) := standsG_M (by omega) (cN_i hm)
theorem standing_M {r : AR} {N : Nat → Int32} {F : Nat} (hM : aM r ≤ 6) (hF : 64 ≤ F) : m_X9_standing F (cN r N) = some (nI (sb (aSt r) (aM r))) := by
  unfold m_X9_standing
  refine loopUp (fun n x s => m_X9_standing_L4 (cN r N) (fun x3 => some x3) n x s) _ (fun j => nI (sb (aSt r) j)) (aM r) (fun n => ?_) (fun n j hj => ?_) (aM r) F 0 (by omega) (by omega)
  · show m_X9_standing_L4s _ _ _ _ _ = _
    unfold m_X9_standing_L4s
    rw [cN_0, if_pos (nIle (by omega) (by omega) (Nat.le_refl _))]
  · show m_X9_standing_L4s _ _ _ _ _ = _
    unfold m_X9_standing_L4s
    rw [cN_0, if_neg (nInle (by omega) (by omega) hj), stands_M hM hj]
    simp only [Option.bind_some, bnd, nI_1, ib0]
    cases hc : aSt r j
    · rw [if_neg (by decide), show (0 : Int32) = nI 0 from rfl, fa_or, Nat.or_zero]
      simp only [sb, hc]; rfl
    · rw [if_pos rfl, sh1 j (by omega), fa_or]
      simp only [sb, hc]; rfl
theorem manySt_M {r : AR} {F : Nat} (hM : aM r ≤ 6) (hF : 64 ≤ F) : m_X9_many F (nI (sb (aSt r) (aM r))) = some (nI (nSt r)) := by
  have h1 : sb (aSt r) (aM r) < 64 := Nat.lt_of_lt_of_le (sb_lt _ _) (Nat.pow_le_pow_right (by decide) hM)
  rw [many_spec hF h1, sb_ct _ hM]; rfl
theorem apart_all : ∀ a, a < 12 → ∀ b, b < 12 → m_X9_apart (nI a) (nI b) = some (nI (dist a b)) := by decide +kernel
theorem high_all_M : ∀ h, h < 13 → ∀ a, a < 12 → ∀ b, b < 12 → ((m_X9_apart (nI b) (nI a)).bind (fun v2 => bnd (nI h - v2) (fun x3 => (if 0 ≤ x3 then some x3 else some 0)))) = some (nI (h - dist a b)) := by decide +kernel
theorem highG_M {r : AR} {w : Nat → Int32} {x d : Nat} (hw : WF r) (hx : x < 12) (hd : d ≤ 100) (h1 : w 1 = nI (aN r)) (h2 : w 2 = nI (aS r)) (h3 : w 3 = nI (aT r)) (h4 : w 4 = nI (aH r)) : m_X9_high w (nI x) (nI d) = some (nI (hgh r x d)) := by
  unfold m_X9_high
  have b1 : (aN r + d) * aT r ≤ 100100 * 11 := mul_b (by have := hw.2.2.2.2.2.2; omega) (by have := hw.2.2.2.2.1; omega)
  have b2 := hw.2.2.2.1
  have b3 := hw.2.2.2.2.1
  have b4 := hw.2.2.2.2.2.2
  rw [h1, h2, h3, h4, nI_add, nI_l (by omega), nI_l (by omega), nI_l (by omega), lN_mul, lN_add, show (12 : Int64) = lN 12 from rfl, pk_lRem (by omega) (by decide) (by decide), lN_i]
  exact high_all_M _ (by have := hw.2.2.2.2.2.1; omega) _ hx _ (crest_lt r d)
theorem high_M {r : AR} {N : Nat → Int32} {x d : Nat} (hw : WF r) (hx : x < 12) (hd : d ≤ 100) : m_X9_high (cN r N) (nI x) (nI d) = some (nI (hgh r x d)) := highG_M hw hx hd rfl rfl rfl rfl
theorem dist_adj : ∀ a, a < 12 → ∀ b, b < 12 → decide (nI (dist a b) = 1) = adj a b := by decide +kernel
theorem besides_M {r : AR} {N : Nat → Int32} {F m : Nat} (hw : WF r) (hF : 64 ≤ F) (hm : m < aM r) : m_X9_besides F (cN r N) (nI m) = some (nI (sb (fun a => aSt r m && (aSt r a && adj (aI r a) (aI r m))) (aM r))) := by
  have hM := hw.1
  unfold m_X9_besides
  refine loopUp (fun n x s => m_X9_besides_L4 (cN r N) (nI m) (fun x3 => some x3) n x s) _ (fun j => nI (sb (fun a => aSt r m && (aSt r a && adj (aI r a) (aI r m))) j)) (aM r) (fun n => ?_) (fun n j hj => ?_) (aM r) F 0 (by omega) (by omega)
  · show m_X9_besides_L4s _ _ _ _ _ _ = _
    unfold m_X9_besides_L4s
    rw [cN_0, if_pos (nIle (by omega) (by omega) (Nat.le_refl _))]
  · show m_X9_besides_L4s _ _ _ _ _ _ = _
    unfold m_X9_besides_L4s
    rw [cN_0, if_neg (nInle (by omega) (by omega) hj), stands_M hM hm, stands_M hM hj, inchOf_M (by omega), inchOf_M (by omega), cN_i hj, cN_i hm]
    simp only [Option.bind_some, bnd, nI_1, ib0]
    have z : ∀ a : Nat, nI a ||| 0 = nI a := fun a => by rw [show (0 : Int32) = nI 0 from rfl, fa_or, Nat.or_zero]
    simp only [z]
    by_cases h1 : aI r m < 12
    · have s1 : aSt r m = true := by simp [aSt, h1]
      rw [s1, if_pos rfl]
      by_cases h2 : aI r j < 12
      · have s2 : aSt r j = true := by simp [aSt, h2]
        rw [s2, if_pos rfl, eM_t h1, eM_t h2, apart_all _ h2 _ h1]
        simp only [Option.bind_some]
        have hd := dist_adj _ h2 _ h1
        cases ha : adj (aI r j) (aI r m)
        · rw [ha] at hd
          rw [if_neg (of_decide_eq_false hd)]
          simp only [sb, s2, ha]; rfl
        · rw [ha] at hd
          rw [if_pos (of_decide_eq_true hd), sh1 j (by omega), fa_or]
          simp only [sb, s2, ha]; rfl
      · have s2 : aSt r j = false := by simp [aSt, h2]
        rw [s2]
        simp only [sb, s2]; rfl
    · have s1 : aSt r m = false := by simp [aSt, h1]
      rw [s1]
      simp only [sb]; rfl
theorem grip_M {r : AR} {N : Nat → Int32} {F m : Nat} (hw : WF r) (hF : 64 ≤ F) (hm : m < aM r) : m_X9_grip F (cN r N) (nI m) = some (if aSt r m then nI (grp r m) else 0) := by
  have hM := hw.1
  obtain ⟨hk, hp, hi⟩ := hw.2.1 m hm
  have a2 := hw.2.2.2.2.2.2
  have hlt : sb (fun a => aSt r m && (aSt r a && adj (aI r a) (aI r m))) (aM r) < 64 := Nat.lt_of_lt_of_le (sb_lt _ _) (Nat.pow_le_pow_right (by decide) hM)
  unfold m_X9_grip
  rw [paintOf_M (by omega), besides_M hw hF hm, stands_M hM hm, show (0 : Int32) = nI 0 from rfl, told_M (by omega) (by decide), standing_M hM hF, cN_p hm, Nat.add_zero, cN_k hm, cN_1, cN_0]
  simp only [Option.bind_some]
  rw [many_spec hF hlt, sb_ct _ hM, manySt_M hM hF]
  simp only [Option.bind_some, bnd, show nI 0 = 0 from rfl, ib0]
  cases hs : aSt r m
  · rfl
  · simp only [Bool.true_and, if_true]
    change (if nI (aK r m) = 0 then some (nI (aP r m) + 2) else if nI (aK r m) = 1 then some ((nI (aP r m) + 2) / 2) else if nI (aK r m) = 2 then some (nI (aP r m) + 2 + nI (nbs r m)) else if nI (aK r m) = 3 then (if nI (aN r) - nI (aN r) / 2 * 2 = 1 then some ((nI (aP r m) + 2) / 2 + 3) else some ((nI (aP r m) + 2) / 2 + 0)) else some (nI (aP r m) + 2 + nI (nbs r m) + nI (aM r) - nI (nSt r))) = _
    have hnb : nbs r m ≤ aM r := fb_ct_le _ _
    have hns := nSt_le r
    rw [show (2 : Int32) = nI 2 from rfl, show (1 : Int32) = nI 1 from rfl, show (3 : Int32) = nI 3 from rfl, show (0 : Int32) = nI 0 from rfl, nI_add, pk_rem (by omega) (by decide) (by decide), pk_div (by omega) (by decide) (by decide), nI_add, nI_add, nI_add, nI_add, pk_sub (by omega)]
    have e : ∀ c : Nat, c < 5 → ((nI (aK r m) = nI c) = (aK r m = c)) := fun c hc => propext (nI_eq (by omega) (by omega))
    have e2 : (nI (aN r % 2) = nI 1) = (aN r % 2 = 1) := propext (nI_eq (by omega) (by omega))
    simp only [e 0 (by decide), e 1 (by decide), e 2 (by decide), e 3 (by decide), e2]
    unfold grp grpK
    rcases (show aK r m = 0 ∨ aK r m = 1 ∨ aK r m = 2 ∨ aK r m = 3 ∨ aK r m = 4 by omega) with h | h | h | h | h
    · simp [h]
    · simp [h]
    · simp [h]
    · rcases (show aN r % 2 = 0 ∨ aN r % 2 = 1 by omega) with q | q <;> simp [h, q]
    · simp [h]
/-- the night with steam -/
def falS (r : AR) (x m : Nat) : Bool := aSt r m && decide ((if x.testBit m then 0 else grp r m) < hgh r (aI r m) 0)
def nPS (r : AR) (x m : Nat) : Nat := if aSt r m && !falS r x m && decide (0 < hgh r (aI r m) 0) then aP r m - 1 else aP r m
def nIS (r : AR) (x m : Nat) : Nat := if falS r x m then 12 else aI r m
def ntS (r : AR) (x : Nat) : AR := (aM r, aK r, nPS r x, nIS r x, aS r, aT r, aH r, aN r + 1)
theorem falS_0 (r : AR) : falS r 0 = fal r := by funext m; simp [falS, fal]
theorem ntS_0 (r : AR) : ntS r 0 = nt r := by
  have h1 : nPS r 0 = nP r := by funext m; simp only [nPS, nP, falS_0]
  have h2 : nIS r 0 = nIn r := by funext m; simp only [nIS, nIn, falS_0]
  unfold ntS nt; rw [h1, h2]
def mxS (r : AR) (x j : Nat) : AR := (aM r, aK r, fun m => if m < j then nPS r x m else aP r m, fun m => if m < j then nIS r x m else aI r m, aS r, aT r, aH r, aN r)
theorem bit_all : ∀ x, x < 64 → ∀ j, j < 6 → ((nI x >>> (nI j &&& 31)) &&& 1) = bI (x.testBit j) := by decide +kernel
theorem cN_upP {r : AR} {N : Nat → Int32} {j v : Nat} (hj : j < aM r) : upd (cN r N) (6 + 3 * j + 1) (nI v) = cN (aM r, aK r, fun m => if m = j then v else aP r m, aI r, aS r, aT r, aH r, aN r) N := by
  funext q
  unfold upd
  by_cases h : q = 6 + 3 * j + 1
  · subst h
    rw [if_pos rfl, cN_p (r := (aM r, aK r, fun m => if m = j then v else aP r m, aI r, aS r, aT r, aH r, aN r)) hj]
    show nI v = nI (if j = j then v else aP r j)
    rw [if_pos rfl]
  · rw [if_neg h]
    unfold cN
    show (if q = 0 then nI (aM r) else if q = 1 then nI (aN r) else if q = 2 then nI (aS r) else if q = 3 then nI (aT r) else if q = 4 then nI (aH r) else if 6 ≤ q ∧ q < 6 + 3 * aM r then (if (q - 6) % 3 = 0 then nI (aK r ((q - 6) / 3)) else if (q - 6) % 3 = 1 then nI (aP r ((q - 6) / 3)) else eM (aI r ((q - 6) / 3))) else N q) = (if q = 0 then nI (aM r) else if q = 1 then nI (aN r) else if q = 2 then nI (aS r) else if q = 3 then nI (aT r) else if q = 4 then nI (aH r) else if 6 ≤ q ∧ q < 6 + 3 * aM r then (if (q - 6) % 3 = 0 then nI (aK r ((q - 6) / 3)) else if (q - 6) % 3 = 1 then nI (if (q - 6) / 3 = j then v else aP r ((q - 6) / 3)) else eM (aI r ((q - 6) / 3))) else N q)
    by_cases h1 : 6 ≤ q ∧ (q - 6) % 3 = 1
    · rw [if_neg (show ¬ (q - 6) / 3 = j by omega)]
    · by_cases h2 : 6 ≤ q
      · simp only [show ¬ (q - 6) % 3 = 1 from fun z => h1 ⟨h2, z⟩, if_false]
      · simp only [show ¬ (6 ≤ q ∧ q < 6 + 3 * aM r) from fun z => h2 z.1, if_false]
theorem cN_upI {r : AR} {N : Nat → Int32} {j v : Nat} (hj : j < aM r) : upd (cN r N) (6 + 3 * j + 2) (eM v) = cN (aM r, aK r, aP r, fun m => if m = j then v else aI r m, aS r, aT r, aH r, aN r) N := by
  funext q
  unfold upd
  by_cases h : q = 6 + 3 * j + 2
  · subst h
    rw [if_pos rfl, cN_i (r := (aM r, aK r, aP r, fun m => if m = j then v else aI r m, aS r, aT r, aH r, aN r)) hj]
    show eM v = eM (if j = j then v else aI r j)
    rw [if_pos rfl]
  · rw [if_neg h]
    unfold cN
    show (if q = 0 then nI (aM r) else if q = 1 then nI (aN r) else if q = 2 then nI (aS r) else if q = 3 then nI (aT r) else if q = 4 then nI (aH r) else if 6 ≤ q ∧ q < 6 + 3 * aM r then (if (q - 6) % 3 = 0 then nI (aK r ((q - 6) / 3)) else if (q - 6) % 3 = 1 then nI (aP r ((q - 6) / 3)) else eM (aI r ((q - 6) / 3))) else N q) = (if q = 0 then nI (aM r) else if q = 1 then nI (aN r) else if q = 2 then nI (aS r) else if q = 3 then nI (aT r) else if q = 4 then nI (aH r) else if 6 ≤ q ∧ q < 6 + 3 * aM r then (if (q - 6) % 3 = 0 then nI (aK r ((q - 6) / 3)) else if (q - 6) % 3 = 1 then nI (aP r ((q - 6) / 3)) else eM (if (q - 6) / 3 = j then v else aI r ((q - 6) / 3))) else N q)
    by_cases h1 : 6 ≤ q ∧ (q - 6) % 3 = 2
    · rw [if_neg (show ¬ (q - 6) / 3 = j by omega)]
    · by_cases h2 : 6 ≤ q
      · by_cases h3 : (q - 6) % 3 = 0
        · simp only [h3, if_true]
        · have h4 : (q - 6) % 3 = 1 := by omega
          simp only [h4, if_true]
      · simp only [show ¬ (6 ≤ q ∧ q < 6 + 3 * aM r) from fun z => h2 z.1, if_false]
theorem goesTo_M {r : AR} {N : Nat → Int32} {j v : Nat} {y : Int32} (hM : aM r ≤ 6) (hj : j < aM r) (hy : y = eM v) : m_X9_goesTo (cN r N) (nI j) y = some (cN (aM r, aK r, aP r, fun m => if m = j then v else aI r m, aS r, aT r, aH r, aN r) N) := by
  unfold m_X9_goesTo
  rw [show (2 : Int32) = nI 2 from rfl, ix3, chk_nI _ (by omega) (by decide), cl (by omega), hy, cN_upI hj]
theorem paints_M {r : AR} {N : Nat → Int32} {j v : Nat} {y : Int32} (hM : aM r ≤ 6) (hj : j < aM r) (hv : (if 0 ≤ y then (if y ≤ 9 then y else 9) else 0) = nI v) : m_X9_paints (cN r N) (nI j) y = some (cN (aM r, aK r, fun m => if m = j then v else aP r m, aI r, aS r, aT r, aH r, aN r) N) := by
  unfold m_X9_paints
  rw [show (1 : Int32) = nI 1 from rfl, ix3]
  simp only [chk_nI _ (show 6 + 3 * j + 1 < 24 by omega) (by decide : (24 : Nat) < 2 ^ 31), cl (show 6 + 3 * j + 1 < 2 ^ 31 by omega)]
  rw [← cN_upP hj, ← hv]
  repeat' split
  all_goals rfl
theorem AR_ext {r q : AR} (h1 : aM r = aM q) (h2 : aK r = aK q) (h3 : aP r = aP q) (h4 : aI r = aI q) (h5 : aS r = aS q) (h6 : aT r = aT q) (h7 : aH r = aH q) (h8 : aN r = aN q) : r = q := by
  obtain ⟨a, b, c, d, e, f, g, i⟩ := r
  obtain ⟨a', b', c', d', e', f', g', i'⟩ := q
  simp only [aM, aK, aP, aI, aS, aT, aH, aN] at h1 h2 h3 h4 h5 h6 h7 h8
  subst h1; subst h2; subst h3; subst h4; subst h5; subst h6; subst h7; subst h8; rfl
theorem paint_dec : ∀ p, p ≤ 9 → (if 0 ≤ nI p - 1 then (if nI p - 1 ≤ 9 then nI p - 1 else 9) else 0) = nI (p - 1) := by
  have : ∀ p, p < 10 → (if 0 ≤ nI p - 1 then (if nI p - 1 ≤ 9 then nI p - 1 else 9) else 0) = nI (p - 1) := by decide +kernel
  exact fun p h => this p (by omega)
theorem nightS_M {r : AR} {N : Nat → Int32} {F x : Nat} (hw : WF r) (hF : 64 ≤ F) (hx : x < 64) : m_X9_goesBy F (cN r N) (nI x) = some (cN (ntS r x) N) := by
  have hM := hw.1
  have z : ∀ a : Nat, nI a ||| 0 = nI a := fun a => by rw [show (0 : Int32) = nI 0 from rfl, fa_or, Nat.or_zero]
  have first : ∀ (k : Int32 → Option (Nat → Int32)), m_X9_goesBy_L4 (cN r N) (nI x) F k F (nI 0) (nI 0) = k (nI (sb (falS r x) (aM r))) := by
    intro k
    refine loopUp (fun n y s => m_X9_goesBy_L4 (cN r N) (nI x) F k n y s) _ (fun j => nI (sb (falS r x) j)) (aM r) (fun n => ?_) (fun n j hj => ?_) (aM r) F 0 (by omega) (by omega)
    · show m_X9_goesBy_L4s _ _ _ _ _ _ _ = _
      unfold m_X9_goesBy_L4s
      rw [cN_0, if_pos (nIle (by omega) (by omega) (Nat.le_refl _))]
    · show m_X9_goesBy_L4s _ _ _ _ _ _ _ = _
      unfold m_X9_goesBy_L4s
      rw [cN_0, if_neg (nInle (by omega) (by omega) hj), stands_M hM hj, inchOf_M (by omega), cN_i hj, grip_M hw hF hj, bit_all x hx j (by omega)]
      simp only [Option.bind_some, bnd, jn, nI_1, ib0, ib1, z]
      by_cases h12 : aI r j < 12
      · have s1 : aSt r j = true := by simp [aSt, h12]
        have hh : hgh r (aI r j) 0 ≤ 12 := by unfold hgh; have := hw.2.2.2.2.2.1; omega
        have hgl : grp r j < 2 ^ 31 := by
          have a1 : nbs r j ≤ aM r := fb_ct_le _ _
          have a2 := hw.2.2.2.2.2.2
          obtain ⟨hk, hp, hi⟩ := hw.2.1 j hj
          unfold grp grpK; repeat' split
          all_goals omega
        rw [s1, eM_t h12, show (0 : Int32) = nI 0 from rfl, high_M hw h12 (by decide)]
        simp only [Option.bind_some, if_true]
        cases hb : x.testBit j
        · simp only [Bool.false_eq_true, if_false]
          by_cases hf : grp r j < hgh r (aI r j) 0
          · rw [if_neg (nInle (by omega) (by omega) hf), sh1 j (by omega), fa_or]
            have : falS r x j = true := by simp [falS, s1, hb, hf]
            simp only [sb, this]; rfl
          · rw [if_pos (nIle (by omega) (by omega) (by omega))]
            have : falS r x j = false := by simp [falS, hb, hf]
            simp only [sb, this]; rfl
        · simp only [if_true]
          by_cases hf : 0 < hgh r (aI r j) 0
          · rw [if_neg (nInle (by omega) (by omega) hf), sh1 j (by omega), fa_or]
            have : falS r x j = true := by simp [falS, s1, hb, hf]
            simp only [sb, this]; rfl
          · rw [if_pos (nIle (by omega) (by omega) (by omega))]
            have : falS r x j = false := by simp [falS, hb, hf]
            simp only [sb, this]; rfl
      · have s1 : aSt r j = false := by simp [aSt, h12]
        have : falS r x j = false := by simp [falS, s1]
        rw [s1]
        simp only [Bool.false_eq_true, if_false, sb, this, ite_self]
  unfold m_X9_goesBy
  rw [show (0 : Int32) = nI 0 from rfl, first]
  have hlt : sb (falS r x) (aM r) < 64 := Nat.lt_of_lt_of_le (sb_lt _ _) (Nat.pow_le_pow_right (by decide) hM)
  have key := loopUp (fun n y (s : Nat → Int32) => m_X9_goesBy_L75 (nI (sb (falS r x) (aM r))) (fun (w6 : Nat → Int32) => some (upd w6 1 ((w6 1) + 1))) n y s) (some (cN (ntS r x) N)) (fun j => cN (mxS r x j) N) (aM r) (fun n => ?_) (fun n j hj => ?_) (aM r) F 0 (by omega) (by omega)
  · have e0 : mxS r x 0 = r := by
      unfold mxS
      have h : ∀ (f g : Nat → Nat), (fun m => if m < 0 then f m else g m) = g := fun f g => funext fun m => if_neg (Nat.not_lt_zero m)
      rw [h, h]; rfl
    simp only [e0] at key
    exact key
  · show m_X9_goesBy_L75s _ _ _ _ _ = _
    unfold m_X9_goesBy_L75s
    rw [show cN (mxS r x (aM r)) N 0 = nI (aM r) from rfl, if_pos (nIle (by omega) (by omega) (Nat.le_refl _))]
    show some (upd (cN (mxS r x (aM r)) N) 1 (cN (mxS r x (aM r)) N 1 + 1)) = _
    congr 1
    funext q
    unfold upd
    by_cases h1 : q = 1
    · subst h1; rw [if_pos rfl]; show nI (aN r) + 1 = nI (aN r + 1); exact nI_1 _
    · rw [if_neg h1]
      unfold cN
      show (if q = 0 then nI (aM r) else if q = 1 then nI (aN r) else if q = 2 then nI (aS r) else if q = 3 then nI (aT r) else if q = 4 then nI (aH r) else if 6 ≤ q ∧ q < 6 + 3 * aM r then (if (q - 6) % 3 = 0 then nI (aK r ((q - 6) / 3)) else if (q - 6) % 3 = 1 then nI (if (q - 6) / 3 < aM r then nPS r x ((q - 6) / 3) else aP r ((q - 6) / 3)) else eM (if (q - 6) / 3 < aM r then nIS r x ((q - 6) / 3) else aI r ((q - 6) / 3))) else N q) = (if q = 0 then nI (aM r) else if q = 1 then nI (aN r + 1) else if q = 2 then nI (aS r) else if q = 3 then nI (aT r) else if q = 4 then nI (aH r) else if 6 ≤ q ∧ q < 6 + 3 * aM r then (if (q - 6) % 3 = 0 then nI (aK r ((q - 6) / 3)) else if (q - 6) % 3 = 1 then nI (nPS r x ((q - 6) / 3)) else eM (nIS r x ((q - 6) / 3))) else N q)
      rw [if_neg h1, if_neg h1]
      by_cases h2 : 6 ≤ q ∧ q < 6 + 3 * aM r
      · simp only [show (q - 6) / 3 < aM r by omega, if_true]
      · simp only [if_neg h2]
  · show m_X9_goesBy_L75s _ _ _ _ _ = _
    unfold m_X9_goesBy_L75s
    have hjM : j < aM (mxS r x j) := hj
    have eI : aI (mxS r x j) j = aI r j := if_neg (Nat.lt_irrefl j)
    have eP : aP (mxS r x j) j = aP r j := if_neg (Nat.lt_irrefl j)
    have hM2 : aM (mxS r x j) ≤ 6 := hM
    obtain ⟨hk, hp, hi⟩ := hw.2.1 j hj
    rw [show cN (mxS r x j) N 0 = nI (aM r) from rfl, if_neg (nInle (by omega) (by omega) hj), bit_all _ hlt j (by omega), sb_bit, decide_eq_true hj, Bool.true_and, stands_M hM2 hjM, inchOf_M (by omega), paintOf_M (by omega), cN_i hjM, cN_p hjM, eI, eP]
    simp only [Option.bind_some, bnd, nI_1, ib0, ib1]
    have nxt : ∀ (p' i' : Nat), p' = nPS r x j → i' = nIS r x j → (aM r, aK r, (fun m => if m = j then p' else aP (mxS r x j) m), (fun m => if m = j then i' else aI (mxS r x j) m), aS r, aT r, aH r, aN r) = mxS r x (j + 1) := by
      intro p' i' h1 h2
      refine AR_ext rfl rfl ?_ ?_ rfl rfl rfl rfl
      · funext m
        show (if m = j then p' else if m < j then nPS r x m else aP r m) = if m < j + 1 then nPS r x m else aP r m
        by_cases e : m = j
        · subst e; rw [if_pos rfl, if_pos (by omega), h1]
        · have : (m < j + 1) = (m < j) := propext ⟨fun q => by omega, fun q => by omega⟩
          simp only [this, if_neg e]
      · funext m
        show (if m = j then i' else if m < j then nIS r x m else aI r m) = if m < j + 1 then nIS r x m else aI r m
        by_cases e : m = j
        · subst e; rw [if_pos rfl, if_pos (by omega), h2]
        · have : (m < j + 1) = (m < j) := propext ⟨fun q => by omega, fun q => by omega⟩
          simp only [this, if_neg e]
    have idP : (fun m => if m = j then aP r j else aP (mxS r x j) m) = aP (mxS r x j) := by
      funext m; by_cases e : m = j
      · subst e; rw [if_pos rfl, eP]
      · rw [if_neg e]
    have idI : (fun m => if m = j then aI r j else aI (mxS r x j) m) = aI (mxS r x j) := by
      funext m; by_cases e : m = j
      · subst e; rw [if_pos rfl, eI]
      · rw [if_neg e]
    cases hf : falS r x j
    · have e2 : nIS r x j = aI r j := by unfold nIS; rw [hf]; rfl
      simp only [Bool.false_eq_true, if_false]
      have hss : aSt (mxS r x j) j = aSt r j := by unfold aSt; rw [eI]
      rw [hss]
      by_cases h12 : aI r j < 12
      · have s1 : aSt r j = true := by simp [aSt, h12]
        rw [s1, eM_t h12, show (0 : Int32) = nI 0 from rfl, highG_M (r := r) hw h12 (by decide) rfl rfl rfl rfl]
        simp only [Option.bind_some, if_true]
        have hh : hgh r (aI r j) 0 ≤ 12 := by unfold hgh; have := hw.2.2.2.2.2.1; omega
        by_cases h0 : hgh r (aI r j) 0 = 0
        · rw [h0, if_pos (by decide)]
          have e1 : nPS r x j = aP r j := by unfold nPS; rw [h0]; simp
          have := nxt _ _ e1.symm e2.symm
          rw [idP, idI] at this
          exact congrArg (fun q => m_X9_goesBy_L75 _ _ n (nI (j + 1)) (cN q N)) this
        · rw [if_neg (nInle (by omega) (by omega) (by omega)), paints_M hM2 hjM (paint_dec _ hp)]
          simp only [Option.bind_some]
          have e1 : nPS r x j = aP r j - 1 := by unfold nPS; rw [s1, hf]; simp [show 0 < hgh r (aI r j) 0 by omega]
          have := nxt _ _ e1.symm e2.symm
          rw [idI] at this
          exact congrArg (fun q => m_X9_goesBy_L75 _ _ n (nI (j + 1)) (cN q N)) this
      · have s1 : aSt r j = false := by simp [aSt, h12]
        rw [s1]
        simp only [Bool.false_eq_true, if_false]
        have e1 : nPS r x j = aP r j := by unfold nPS; rw [s1]; simp
        have := nxt _ _ e1.symm e2.symm
        rw [idP, idI] at this
        exact congrArg (fun q => m_X9_goesBy_L75 _ _ n (nI (j + 1)) (cN q N)) this
    · have e2 : nIS r x j = 12 := by unfold nIS; rw [hf]; rfl
      have e1 : nPS r x j = aP r j := by unfold nPS; rw [hf]; simp
      simp only [if_true]
      rw [goesTo_M hM2 hjM (show (-4 : Int32) = eM 12 from rfl)]
      simp only [Option.bind_some]
      have := nxt _ _ e1.symm e2.symm
      rw [idP] at this
      exact congrArg (fun q => m_X9_goesBy_L75 _ _ n (nI (j + 1)) (cN q N)) this
theorem night_M {r : AR} {N : Nat → Int32} {F : Nat} (hw : WF r) (hF : 64 ≤ F) : m_X9_goesBy F (cN r N) 0 = some (cN (nt r) N) := by
  have := nightS_M (N := N) (x := 0) hw hF (by decide)
  rw [ntS_0] at this
  exact this
