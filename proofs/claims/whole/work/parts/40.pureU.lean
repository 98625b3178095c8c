/-! ===== PURE U: coats ===== -/
theorem neg_of (p : Int32) (M : Nat) (hM : M ≤ 6) (h0 : -2 ≤ p) (h1 : ¬ nI M ≤ p) : p = -1 ∨ p = -2 ∨ ∃ i, i < M ∧ p = nI i := by
  have e1 : (-2 : Int32).toInt = -2 := by decide
  have e2 : (-1 : Int32).toInt = -1 := by decide
  rw [fa_le, e1] at h0
  rw [fa_le, nI_toInt (by omega)] at h1
  by_cases q1 : p.toInt = -1
  · left; rw [fa_eq, e2]; exact q1
  · by_cases q2 : p.toInt = -2
    · right; left; rw [fa_eq, e1]; exact q2
    · right; right
      obtain ⟨i, hi, rfl⟩ := nI_of (x := p) (by rw [fa_lt, Int32.toInt_zero]; omega)
      rw [nI_toInt hi] at h1
      exact ⟨i, by omega, rfl⟩
theorem nI_small : ∀ i, i < 6 → ¬ nI i = -1 ∧ ¬ nI i = -2 := by decide +kernel
theorem S_coats {r : AR} {d : Int32} {P I K N A c cb sh bw : Nat → Int32} {F : Nat} {ac an ms mp cs cp' : Int32} (hw : WF r) (hN : aN r ≤ 9999) (hF : 600000 ≤ F) (p0 p1 p2 : Int32) (a1 a2 : Nat → Int32) (a3 a4 : Int32) (a5 : Nat → Int32) (a6 a7 a8 a9 : Int32) (t1 t2 : Nat → Int32) (t3 t4 : Int32) (t5 : Nat → Int32) (t6 t7 t8 t9 : Int32) (hpc : PCa (a1, a2, a3, a4, a5, a6, a7, a8, a9) ac an ms mp bw) :
    ∃ v, ∃ T : PSO, ∃ A2 c2 cb2 cs2 cp2, m_X8_coats F (cP r P) (cI r I) (nI (aN r)) d (cK r K) (nI (aM r)) (nI (aS r)) (nI (aT r)) (nI (aH r)) a1 a2 a3 a4 a5 a6 a7 a8 a9 t1 t2 t3 t4 t5 t6 t7 t8 t9 sh bw ac an ms mp p0 p1 p2 = some (v, T) ∧ m_X9_coats F (cN r N) A c cb cs cp' p0 p1 p2 = some (v, cN r N, A2, c2, cb2, cs2, cp2) ∧ PCa (oR T) (oC T) (oN T) (oS T) (oP T) (oB T) := by
  have hM := hw.1
  have same : PCa (oR (a1, a2, a3, a4, a5, a6, a7, a8, a9, t1, t2, t3, t4, t5, t6, t7, t8, t9, sh, bw, ac, an, ms, mp)) (oC (a1, a2, a3, a4, a5, a6, a7, a8, a9, t1, t2, t3, t4, t5, t6, t7, t8, t9, sh, bw, ac, an, ms, mp)) (oN (a1, a2, a3, a4, a5, a6, a7, a8, a9, t1, t2, t3, t4, t5, t6, t7, t8, t9, sh, bw, ac, an, ms, mp)) (oS (a1, a2, a3, a4, a5, a6, a7, a8, a9, t1, t2, t3, t4, t5, t6, t7, t8, t9, sh, bw, ac, an, ms, mp)) (oP (a1, a2, a3, a4, a5, a6, a7, a8, a9, t1, t2, t3, t4, t5, t6, t7, t8, t9, sh, bw, ac, an, ms, mp)) (oB (a1, a2, a3, a4, a5, a6, a7, a8, a9, t1, t2, t3, t4, t5, t6, t7, t8, t9, sh, bw, ac, an, ms, mp)) := hpc
  unfold m_X8_coats m_X9_coats
  simp only [within_C, in08, in130, Option.bind_some, ib0]
  cases h1 : wi p0 0 8
  · exact ⟨_, _, _, _, _, _, _, rfl, rfl, same⟩
  cases h2 : wi p1 1 30
  · exact ⟨_, _, _, _, _, _, _, rfl, rfl, same⟩
  simp only [if_true]
  by_cases h3 : -2 ≤ p2
  rotate_left
  · rw [if_neg h3, if_neg h3]; exact ⟨_, _, _, _, _, _, _, rfl, rfl, same⟩
  rw [if_pos h3, if_pos h3]
  obtain ⟨k, rfl, -, hk⟩ := wi_nI (a := 0) (b := 8) (by decide) (by decide) h1
  obtain ⟨n, rfl, -, hn⟩ := wi_nI (a := 1) (b := 30) (by decide) (by decide) h2
  by_cases hM0 : aM r = 0
  · rw [if_pos (show cN r N 0 = 0 by rw [cN_0, hM0]; rfl), if_pos (show nI (aM r) = 0 by rw [hM0]; rfl), ite_self]
    exact ⟨_, _, _, _, _, _, _, rfl, rfl, same⟩
  have hne : ¬ nI (aM r) = 0 := fun q => hM0 ((nI_eq (b := 0) (by omega) (by decide)).mp q)
  rw [if_neg hne, if_neg (show ¬ cN r N 0 = 0 from hne), numbers_M hM (by omega), asides_M (by omega), Option.bind_some]
  obtain ⟨c2, cb2, cs2, cp2, e1, e2⟩ := coats_M (c := c) (bw := cb) (n := n) (F := F) hw hN (by omega) hk hF (aside_ok (cN r N) A) (fun w17 w18 w19 w20 w21 => (if p2 = (-1) then some (w20, w17, fa_fill (cN r N) A 24, w18, w19, w20, w21) else (if p2 = (-2) then some (w21, w17, fa_fill (cN r N) A 24, w18, w19, w20, w21) else (if (w17 0) ≤ p2 then some ((-4), w17, fa_fill (cN r N) A 24, w18, w19, w20, w21) else chk p2 6 (some (w19 p2.toNatClampNeg, w17, fa_fill (cN r N) A 24, w18, w19, w20, w21))))))
  rw [e1]
  obtain ⟨y1, y2, y3⟩ := e2
  by_cases h4 : nI (aM r) ≤ p2
  · have hp : ¬ p2 = -1 ∧ ¬ p2 = -2 := by
      rw [fa_le, nI_toInt (by omega)] at h4
      constructor
      · intro q; rw [q, show (-1 : Int32).toInt = -1 by decide] at h4; omega
      · intro q; rw [q, show (-2 : Int32).toInt = -2 by decide] at h4; omega
    rw [if_pos h4, if_neg hp.1, if_neg hp.2, if_pos (show cN r N 0 ≤ p2 from h4)]
    exact ⟨_, _, _, _, _, _, _, rfl, rfl, same⟩
  rw [if_neg h4]
  obtain ⟨T, f1, ⟨f2, f3, f4⟩, f5⟩ := part_C (d := d) (P := P) (I := I) (K := K) (sh := sh) (bw := bw) (F := F) (n := n) (k := k) hw hN (by omega) hk (by omega) (by omega) a1 a2 a3 a4 a5 a6 a7 a8 a9 t1 t2 t3 t4 t5 t6 t7 t8 t9 hpc
  rw [f1, Option.bind_some]
  rcases neg_of p2 (aM r) hM h3 h4 with rfl | rfl | ⟨i, hi, rfl⟩
  · rw [if_pos rfl, if_pos rfl]
    refine ⟨oS T, T, fa_fill (cN r N) A 24, c2, cb2, cs2, cp2, rfl, ?_, f5⟩
    rw [f2, ← y1]
  · rw [if_neg (by decide), if_pos rfl, if_neg (by decide), if_pos rfl]
    refine ⟨oP T, T, fa_fill (cN r N) A 24, c2, cb2, cs2, cp2, rfl, ?_, f5⟩
    rw [f3, ← y2]
  · have hs := nI_small i (by omega)
    rw [if_neg hs.1, if_neg hs.2, if_neg hs.1, if_neg hs.2, if_neg (show ¬ cN r N 0 ≤ nI i from h4), chk_nI _ (by omega) (by decide), chk_nI _ (by omega) (by decide), cl (by omega)]
    have hB : 0 < k + 1 := Nat.succ_pos k
    have hkB : k < (k + 1) ^ aM r := by
      have : (k + 1) ^ 1 ≤ (k + 1) ^ aM r := Nat.pow_le_pow_right hB (by omega)
      rw [Nat.pow_one] at this; omega
    have hk0 : prt k (aM r) k = true := decide_eq_true (by
      have := ds_small (show k < k + 1 by omega) (aM r - 1)
      rw [show aM r - 1 + 1 = aM r by omega] at this; exact this)
    obtain ⟨z, hz⟩ := bx_some (n := n) hk0 _ hkB
    refine ⟨oB T i, T, fa_fill (cN r N) A 24, c2, cb2, cs2, cp2, rfl, ?_, f5⟩
    rw [f4 z hz i hi, y3 z hz i hi]
