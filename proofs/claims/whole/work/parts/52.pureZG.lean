/-! ===== PURE ZG: rim ===== -/
theorem rO_M (L : Nat) (c : Nat → Nat) : WF (rO L c).1 := by
  unfold rO
  split
  · exact q0_WF
  · have h1 := mnQ_WF (L := L) (c := c) (q := q0) (p := r6P L c) (f := r6F L c) q0_WF (by decide)
    exact (fin_WF (L := L) (c := c) 5 1 _ _ _ (by omega) (by rw [mnQ_M]; split <;> decide) h1).1
theorem rim_M {L : Nat} {c : Nat → Nat} {b w rl rd : Nat → Int32} {F : Nat} (h : LT L c b) (hF : 100 ≤ F) (pl fl u : Int32) :
    ∃ N rl2 rd2, m_X9_rim F w b (nI L) pl fl rl rd u = some (if (rO L c).2.2 then (-20) - nI (rO L c).2.1 else nI (aM (rO L c).1), if (rO L c).2.2 then w else cN (pr (rO L c).1 (rV1 L c) (rV2 L c) (rV3 L c) (aM (rO L c).1)) N, 0, nI (rO L c).2.1, bI (rO L c).2.2, rl2, rd2, if (rO L c).2.2 then u else 0) ∧ N 5 = w 5 := by
  have hL := h.1
  obtain ⟨l1, l2, l3, l4, l5⟩ := r_le L c
  have hM := (rO_M L c).1
  obtain ⟨n', p', f', w', o1, o2⟩ := men_jn (rd := rd) h hF (fun x10 w11 w12 w13 => jn (fun (w14 : Int32) (x15 : Int32) => zb x15 ((if x15 = 0 then m_X9_rim_L196 rl (nI (rV1 L c), nI (r1P L c), bI (r1F L c)) (nI (rV2 L c), nI (r3P L c), bI (r3F L c)) (nI (rV3 L c), nI (r5P L c), bI (r5F L c)) (fun (w20 : Nat → Int32) => m_X9_rim_L223 x10 w13 (fun (w24 : Nat → Int32) (w25 : Int32) => some (x10, w24, (0 : Int32), w14, x15, upd (upd (upd rl 0 (nI (rV1 L c))) 1 (nI (rV2 L c))) 2 (nI (rV3 L c)), w13, w25)) F 0 w20 0) F 0 (upd (upd w 0 0) 1 0) else some ((-20) - w14, w, 0, w14, x15, upd (upd (upd rl 0 (nI (rV1 L c))) 1 (nI (rV2 L c))) 2 (nI (rV3 L c)), w13, u)))) (fun k42 => jn (fun (w43 : Int32) => k42 w43 1) (fun k44 => (if w12 = 0 then (m_X9_here F b (nI L) w11).bind (fun v46 => (if v46.1 = 0 then k42 v46.2 0 else k44 v46.2)) else k44 w11))))
  have o3 := end_jn (F := F) h hF o2 (fun (w14 : Int32) (x15 : Int32) => zb x15 ((if x15 = 0 then m_X9_rim_L196 rl (nI (rV1 L c), nI (r1P L c), bI (r1F L c)) (nI (rV2 L c), nI (r3P L c), bI (r3F L c)) (nI (rV3 L c), nI (r5P L c), bI (r5F L c)) (fun (w20 : Nat → Int32) => m_X9_rim_L223 (nI n') w' (fun (w24 : Nat → Int32) (w25 : Int32) => some (nI n', w24, (0 : Int32), w14, x15, upd (upd (upd rl 0 (nI (rV1 L c))) 1 (nI (rV2 L c))) 2 (nI (rV3 L c)), w', w25)) F 0 w20 0) F 0 (upd (upd w 0 0) 1 0) else some ((-20) - w14, w, 0, w14, x15, upd (upd (upd rl 0 (nI (rV1 L c))) 1 (nI (rV2 L c))) 2 (nI (rV3 L c)), w', u))))
  have start : ∀ z, (zb (bI (rO L c).2.2) ((if bI (rO L c).2.2 = 0 then m_X9_rim_L196 rl (nI (rV1 L c), nI (r1P L c), bI (r1F L c)) (nI (rV2 L c), nI (r3P L c), bI (r3F L c)) (nI (rV3 L c), nI (r5P L c), bI (r5F L c)) (fun (w20 : Nat → Int32) => m_X9_rim_L223 (nI n') w' (fun (w24 : Nat → Int32) (w25 : Int32) => some (nI n', w24, (0 : Int32), nI (rO L c).2.1, bI (rO L c).2.2, upd (upd (upd rl 0 (nI (rV1 L c))) 1 (nI (rV2 L c))) 2 (nI (rV3 L c)), w', w25)) F 0 w20 0) F 0 (upd (upd w 0 0) 1 0) else some ((-20) - nI (rO L c).2.1, w, 0, nI (rO L c).2.1, bI (rO L c).2.2, upd (upd (upd rl 0 (nI (rV1 L c))) 1 (nI (rV2 L c))) 2 (nI (rV3 L c)), w', u)))) = z → m_X9_rim F w b (nI L) pl fl rl rd u = z := by
    intro z hz
    unfold m_X9_rim
    refine Eq.trans (congrArg (fun z => Option.bind z _) (number_M (c := c) (p := 0) (f := false) (most := 11) (barred := 0) (F := F) h (Nat.zero_le L) hF (by omega) (by decide))) ?_
    rw [Option.bind_some]
    refine Eq.trans (sign_jn (c := c) (p := r1P L c) (f := r1F L c) (s := 43) h l1 hF (by decide) _) ?_
    refine Eq.trans (congrArg (fun z => Option.bind z _) (must_sgn (L := L) (c := c) (p := r1P L c) (f := r1F L c) (s := 43))) ?_
    rw [Option.bind_some]
    refine Eq.trans (congrArg (fun z => Option.bind z _) (number_M (c := c) (p := r2P L c) (f := r2F L c) (most := 11) (barred := 0) (F := F) h l2 hF (by omega) (by decide))) ?_
    rw [Option.bind_some]
    refine Eq.trans (sign_jn (c := c) (p := r3P L c) (f := r3F L c) (s := 94) h l3 hF (by decide) _) ?_
    refine Eq.trans (congrArg (fun z => Option.bind z _) (must_sgn (L := L) (c := c) (p := r3P L c) (f := r3F L c) (s := 94))) ?_
    rw [Option.bind_some]
    refine Eq.trans (congrArg (fun z => Option.bind z _) (number_M (c := c) (p := r4P L c) (f := r4F L c) (most := 12) (barred := 0) (F := F) h l4 hF (by omega) (by decide))) ?_
    rw [Option.bind_some]
    refine Eq.trans o1 ?_
    refine Eq.trans o3 ?_
    exact hz
  cases hf : (rO L c).2.2
  · have hz : f' = false := by
      cases hq : f'
      · rfl
      · have := (o2.2.1 hq).1; rw [hf] at this; exact absurd this (by decide)
    obtain ⟨-, -, a3⟩ := o2.2.2 hz
    obtain ⟨b1, b2⟩ := a3 hf
    subst b1
    obtain ⟨N, e1, e2⟩ := law_M (rl := rl) (w := w) (F := F) (a := rV1 L c) (b := rV2 L c) (c := rV3 L c) (v1 := (nI (rV1 L c), nI (r1P L c), bI (r1F L c))) (v5 := (nI (rV2 L c), nI (r3P L c), bI (r3F L c))) (v9 := (nI (rV3 L c), nI (r5P L c), bI (r5F L c))) hF rfl rfl rfl (fun (w20 : Nat → Int32) => m_X9_rim_L223 (nI (aM (rO L c).1)) w' (fun (w24 : Nat → Int32) (w25 : Int32) => some (nI (aM (rO L c).1), w24, (0 : Int32), nI (rO L c).2.1, bI false, upd (upd (upd rl 0 (nI (rV1 L c))) 1 (nI (rV2 L c))) 2 (nI (rV3 L c)), w', w25)) F 0 w20 0) (rO L c).1
    refine ⟨N, upd (upd (upd rl 0 (nI (rV1 L c))) 1 (nI (rV2 L c))) 2 (nI (rV3 L c)), w', start _ ?_, e2⟩
    rw [hf, zb_bI, if_pos (show bI false = 0 from rfl), e1, come_M hM hF b2]
    rfl
  · refine ⟨w, upd (upd (upd rl 0 (nI (rV1 L c))) 1 (nI (rV2 L c))) 2 (nI (rV3 L c)), w', start _ ?_, rfl⟩
    rw [hf, zb_bI, if_neg (show ¬ bI true = 0 by decide)]
    rfl
