/-! ===== PURE ZH: rim, both ===== -/
theorem nmF_dok {L : Nat} {c : Nat → Nat} {p m b : Nat} {f : Bool} (h : nmF L c p f m b = false) : f = false ∧ nmV L c p f ≤ m := by
  unfold nmF at h
  cases hd : dok L c p f
  · rw [hd, Bool.false_and] at h; exact absurd h (by decide)
  · rw [hd, Bool.true_and, Bool.not_not] at h
    unfold nbd at h
    rw [Bool.or_eq_false_iff] at h
    have := of_decide_eq_false h.1
    refine ⟨?_, by unfold nmV; rw [hd, if_pos rfl]; omega⟩
    unfold dok at hd
    rw [Bool.and_eq_true] at hd
    cases f
    · rfl
    · exact absurd hd.1 (by decide)
theorem sgn_f {L : Nat} {c : Nat → Nat} {p s : Nat} {f : Bool} (h : (!sgn L c p f s) = false) : f = false := by
  cases f
  · rfl
  · exact absurd h (by show ¬ (!(false && _)) = false; rw [Bool.false_and]; decide)
theorem r_ok {L : Nat} {c : Nat → Nat} (h : (rO L c).2.2 = false) : rV1 L c < 12 ∧ rV2 L c < 12 ∧ rV3 L c ≤ 12 := by
  have h5 : r5F L c = false := by
    cases h5 : r5F L c
    · rfl
    · have hO : (rO L c).2.2 = true := by
        unfold rO r6E
        rw [h5]; rfl
      rw [hO] at h; exact absurd h (by decide)
  obtain ⟨a4, a5⟩ := nmF_dok h5
  have a3 : r3F L c = false := sgn_f a4
  obtain ⟨b4, b5⟩ := nmF_dok a3
  have a1 : r1F L c = false := sgn_f b4
  obtain ⟨-, c5⟩ := nmF_dok a1
  exact ⟨Nat.lt_succ_of_le c5, Nat.lt_succ_of_le b5, a5⟩
theorem neg20 : ∀ p, p ≤ 60 → ¬ (-20 : Int32) - nI p = 0 := by decide +kernel
theorem rO_le {L : Nat} {c : Nat → Nat} {b : Nat → Int32} {F : Nat} (h : LT L c b) (hF : 100 ≤ F) : (rO L c).2.1 ≤ L := by
  obtain ⟨n', p', f', w', -, hp, o1, o2⟩ := men_jn (α := Nat) (rd := b) (F := F) h hF (fun _ _ _ _ => none)
  cases hf : f'
  · rw [(o2 hf).1]; exact sk_le hp
  · rw [(o1 hf).2]; exact hp
theorem S_rim {r : AR} {P I K N a b tP tI tK rl rd : Nat → Int32} {d td : Int32} {L u x F : Nat} {RP RI : Nat → Nat → Int32} {RN RD U : Nat → Int32} (hw : WF r) (hN : aN r ≤ 9999) (h5 : N 5 = d) (ht : TP L a b) (hF : 100 ≤ F) (h : UR r u x RP RI RN RD U) (tm ts tt th pl fl pl2 fl2 : Int32) :
    ∃ v q P2 I2 K2 N2 u2 e1 e2 e3 e4 e5 e6 e7 e8 e9 m1 m2 m3 m4, m_X8_rim F (cP r P) (cI r I) (nI (aN r)) d (cK r K) (nI (aM r)) (nI (aS r)) (nI (aT r)) (nI (aH r)) (nI u) a tP tI 0 td tK tm ts tt th (nI L) pl fl = some (v, cP q P2, cI q I2, nI (aN q), d, cK q K2, nI (aM q), nI (aS q), nI (aT q), nI (aH q), nI u2, e1, e2, e3, e4, e5, e6, e7, 0, e8, e9) ∧ m_X9_rim F (cN r N) b (nI L) pl2 fl2 rl rd (nI u) = some (v, cN q N2, 0, m1, m2, m3, m4, nI u2) ∧ WF q ∧ aN q ≤ 9999 ∧ N2 5 = d ∧ UR q u2 x RP RI RN RD U := by
  have hc : ∀ j, j < L → ∃ c, 32 ≤ c ∧ c ≤ 126 ∧ a j = nI c ∧ b j = nI c := ht.2
  have key : ∀ j, j < L → 32 ≤ (a j).toNatClampNeg ∧ (a j).toNatClampNeg ≤ 126 ∧ a j = nI (a j).toNatClampNeg ∧ b j = nI (a j).toNatClampNeg := fun j hj => by
    obtain ⟨c, c1, c2, c3, c4⟩ := hc j hj
    rw [c3, c4, cl (show c < 2 ^ 31 by omega)]
    exact ⟨c1, c2, rfl, rfl⟩
  have la : LT L (fun j => (a j).toNatClampNeg) a := ⟨ht.1, fun j hj => ⟨(key j hj).1, (key j hj).2.1, (key j hj).2.2.1⟩⟩
  have lb : LT L (fun j => (a j).toNatClampNeg) b := ⟨ht.1, fun j hj => ⟨(key j hj).1, (key j hj).2.1, (key j hj).2.2.2⟩⟩
  generalize hcc : (fun j => (a j).toNatClampNeg) = c at la lb
  obtain ⟨N2, rl2, rd2, g1, g2⟩ := rim_M (w := cN r N) (rl := rl) (rd := rd) (F := F) lb hF pl2 fl2 (nI u)
  have hr := read_C (P := tP) (I := tI) (K := tK) (F := F) la hF tm ts tt th pl fl
  unfold m_X8_rim
  rw [g1]
  cases hf : (rO L c).2.2
  · obtain ⟨v1, v2, v3⟩ := r_ok hf
    have hO := rO_M L c
    have hz : WF (pr (rO L c).1 (rV1 L c) (rV2 L c) (rV3 L c) (aM (rO L c).1)) := ⟨hO.1, hO.2.1, hO.2.2.1, v1, v2, v3, by show 0 < 100000; decide⟩
    obtain ⟨P2, I2, K2, e1⟩ := takeAll_C (r := pr (rO L c).1 (rV1 L c) (rV2 L c) (rV3 L c) (aM (rO L c).1)) (d := td) (P := tP) (I := tI) (K := tK) hz.1 (cP r P) (cI r I) (nI (aN r)) d (cK r K) (nI (aM r)) (nI (aS r)) (nI (aT r)) (nI (aH r))
    rw [hf] at hr
    refine ⟨nI (aM (rO L c).1), pr (rO L c).1 (rV1 L c) (rV2 L c) (rV3 L c) (aM (rO L c).1), P2, I2, K2, N2, 0, cP (rO L c).1 tP, cI (rO L c).1 tI, cK (rO L c).1 tK, nI (aM (rO L c).1), nI (rV1 L c), nI (rV2 L c), nI (rV3 L c), nI (rO L c).2.1, bI false, nI (rO L c).2.1, bI false, rl2, rd2, ?_, rfl, hz, by show 0 ≤ 9999; decide, by rw [g2, cN_5, h5], by omega, h.2.1, fun a ha => absurd ha (Nat.not_lt_zero a)⟩
    refine Eq.trans (congrArg (fun z => Option.bind z _) hr) ?_
    rw [Option.bind_some]
    refine Eq.trans (if_pos rfl) ?_
    refine Eq.trans (congrArg (fun z => Option.bind z _) e1) ?_
    rfl
  · rw [hf] at hr
    have hneg : ¬ (-20 : Int32) - nI (rO L c).2.1 = 0 := neg20 _ (Nat.le_trans (rO_le lb hF) ht.1)
    refine ⟨(-20) - nI (rO L c).2.1, r, P, I, K, N, u, cP (rO L c).1 tP, cI (rO L c).1 tI, cK (rO L c).1 tK, nI (aM (rO L c).1), nI (rV1 L c), nI (rV2 L c), nI (rV3 L c), nI (rO L c).2.1, bI true, nI (rO L c).2.1, bI true, rl2, rd2, ?_, rfl, hw, hN, h5, h⟩
    refine Eq.trans (congrArg (fun z => Option.bind z _) hr) ?_
    rw [Option.bind_some]
    exact if_neg hneg
