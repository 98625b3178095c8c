/-! ===== PURE S: coats, both sides ===== -/
theorem coat_C {r : AR} {P w : Nat → Int32} {F k x : Nat} (hw : WF r) (hk : k ≤ 8) (hF : 64 ≤ F) (hv : VN k (aM r) w x) (K : (Nat → Int32) → Option ((Nat → Int32) × (Nat → Int32) × Int32 × Int32 × (Nat → Int32) × Int32 × Int32 × Int32 × Int32 × (Nat → Int32) × Int32 × Int32)) :
    m_X2_tryShares_L13 (nI (aM r)) w K F 0 (cP r P) = K (cP (cx r k x) P) := by
  have hM := hw.1
  rw [← cxj_endP]
  have key := loopUp (fun n y s => m_X2_tryShares_L13 (nI (aM r)) w K n y s) (K (cP (cxj r k x (aM r)) P)) (fun j => cP (cxj r k x j) P) (aM r) (fun n => ?_) (fun n j hj => ?_) (aM r) F 0 (by omega) (by omega)
  · simp only [cxj_0] at key; exact key
  · show m_X2_tryShares_L13s _ _ _ _ _ _ = _
    unfold m_X2_tryShares_L13s
    rw [if_pos (nIle (by omega) (by omega) (Nat.le_refl _))]
  · show m_X2_tryShares_L13s _ _ _ _ _ _ = _
    unfold m_X2_tryShares_L13s
    have hd := dgt_lt (Nat.succ_pos k) x (aM r - 1 - j)
    have hd : dgt (k + 1) x (aM r - 1 - j) < k + 1 := hd
    rw [if_neg (nInle (by omega) (by omega) hj), chk_nI _ (by omega) (by decide), cl (by omega), hv j hj, addPaint_C (r := cxj r k x j) (cxj_WF hw) hj (by omega), cxj_P, cxj_step]
    simp only [Option.bind_some, bnd, nI_1]
theorem try_C {r : AR} {d : Int32} {P I K w bw : Nat → Int32} {F k x n : Nat} {q : BX} (hw : WF r) (hN : aN r ≤ 9999) (hn : n ≤ 60) (hk : k ≤ 8) (hF : 100000 ≤ F) (hv : VN k (aM r) w x) (hq : bxb q) (hb : VB k (aM r) bw q) (t1 t2 : Nat → Int32) (t3 t4 : Int32) (t5 : Nat → Int32) (t6 t7 t8 t9 : Int32) :
    ∃ a1 a2 a3 a4 a5 a6 a7 a8 a9 bw2, m_X2_tryShares F (cP r P) (cI r I) (nI (aN r)) d (cK r K) (nI (aM r)) (nI (aS r)) (nI (aT r)) (nI (aH r)) t1 t2 t3 t4 t5 t6 t7 t8 t9 w bw (nI n) (e1x q) (e2x q) = some (a1, a2, a3, a4, a5, a6, a7, a8, a9, bw2, e1x (up3 q x (nSt (ntn (cx r k x) n)) (pS (ntn (cx r k x) n))), e2x (up3 q x (nSt (ntn (cx r k x) n)) (pS (ntn (cx r k x) n)))) ∧ VB k (aM r) bw2 (up3 q x (nSt (ntn (cx r k x) n)) (pS (ntn (cx r k x) n))) := by
  have hM := hw.1
  obtain ⟨P2, I2, K2, e1⟩ := takeAll_C (d := d) (P := P) (I := I) (K := K) hM t1 t2 t3 t4 t5 t6 t7 t8 t9
  have hwc := cx_WF (k := k) (x := x) hw
  obtain ⟨j, hj, e2, e3⟩ := passWhile_C (P := P2) (I := I2) (K := K2) (n := n) (f := e1x q) hwc (by show aN r + n < 100000; omega) hF
  change m_X3_passWhile F (cP (cx r k x) P2) (cI r I2) (nI (aN r)) (cK r K2) (nI (aM r)) (nI (aS r)) (nI (aT r)) (nI (aH r)) (nI n) (e1x q) = _ at e2
  have hMj : aM (ntn (cx r k x) j) ≤ 6 := by rw [ntn_M]; exact hM
  have e4 := pS_C (q := ntn (cx r k x) j) (P := P2) (I := I2) (F := F) hMj (by omega)
  rw [ntn_M] at e4
  change m_X3_paintOfStanding F (cP (ntn (cx r k x) j) P2) (cI (ntn (cx r k x) j) I2) (nI (aM r)) = _ at e4
  have hwj := ntn_WF hwc j (by show aN r + j < 100000; omega)
  have hs6 := nSt6 (r := cx r k x) hM j
  have hp54 := pS_le hwj
  have hcopy : VN k (aM r) (va_cpy w bw (0 : Int32).toNatClampNeg (0 : Int32).toNatClampNeg (6 : Int32).toNatClampNeg) x := fun m hm => by
    rw [cpy6 _ _ (by omega)]; exact hv m hm
  unfold m_X2_tryShares
  rw [e1, Option.bind_some]
  simp only [cR]
  rw [coat_C hw hk (by omega) hv, e2, Option.bind_some]
  simp only
  rw [e4, Option.bind_some]
  simp only [jn]
  rw [pick (x := x) hq hs6 hp54]
  rcases e3 with rfl | hlt
  · by_cases hc : (up3 q x (nSt (ntn (cx r k x) j)) (pS (ntn (cx r k x) j)) = some (x, nSt (ntn (cx r k x) j), pS (ntn (cx r k x) j)) ∧ (q = none ∨ ∃ z, q = some z ∧ (z.2.1 < nSt (ntn (cx r k x) j) ∨ (nSt (ntn (cx r k x) j) = z.2.1 ∧ z.2.2 < pS (ntn (cx r k x) j)))))
    · rw [if_pos hc, hc.1]
      refine ⟨_, _, _, _, _, _, _, _, _, _, rfl, fun z hz => ?_⟩
      rw [Option.some.injEq] at hz; subst hz; exact hcopy
    · rw [if_neg hc, up3_not hc]
      exact ⟨_, _, _, _, _, _, _, _, _, _, rfl, hb⟩
  · -- fewer than the most: it can't be chosen, now or behind all nights
    cases q with
    | none =>
      have hlt : nI (nSt (ntn (cx r k x) j)) < -1 := hlt
      exact absurd hlt (by
        have : ∀ c, c ≤ 6 → ¬ nI c < -1 := by decide +kernel
        exact this _ hs6)
    | some z =>
      obtain ⟨z1, z2⟩ := hq z rfl
      have hlt : nI (nSt (ntn (cx r k x) j)) < nI z.2.1 := hlt
      have hlt := (nI_ltI (by omega) (by omega)).mp hlt
      have hmono := nSt_mono (cx r k x) j (n - j)
      rw [show j + (n - j) = n by omega] at hmono
      have hno : ∀ s p : Nat, s < z.2.1 → up3 (some z) x s p = some z := fun s p h => by
        show (if z.2.1 < s ∨ (s = z.2.1 ∧ z.2.2 < p) then _ else some z) = some z
        rw [if_neg (by omega)]
      rw [hno _ _ (show nSt (ntn (cx r k x) n) < z.2.1 by omega), if_neg]
      · exact ⟨_, _, _, _, _, _, _, _, _, _, rfl, hb⟩
      · rintro ⟨-, y | ⟨y, hy, hy2⟩⟩
        · exact absurd y (by simp)
        · rw [Option.some.injEq] at hy; subst hy; omega
def CS (r : AR) (k n : Nat) (ms mp : Int32) (bw : Nat → Int32) : Prop := ms = e1x (bx r k n ((k + 1) ^ aM r)) ∧ mp = e2x (bx r k n ((k + 1) ^ aM r)) ∧ VB k (aM r) bw (bx r k n ((k + 1) ^ aM r))
abbrev PS13 : Type := (Nat → Int32) × (Nat → Int32) × Int32 × Int32 × (Nat → Int32) × Int32 × Int32 × Int32 × Int32 × (Nat → Int32) × (Nat → Int32) × Int32 × Int32
abbrev PSO : Type := (Nat → Int32) × (Nat → Int32) × Int32 × Int32 × (Nat → Int32) × Int32 × Int32 × Int32 × Int32 × (Nat → Int32) × (Nat → Int32) × Int32 × Int32 × (Nat → Int32) × Int32 × Int32 × Int32 × Int32 × (Nat → Int32) × (Nat → Int32) × Int32 × Int32 × Int32 × Int32
def PSK (v1 : RT) (p1 p2 : Int32) (w18 w19 : Nat → Int32) (w20 w21 : Int32) (w22 : Nat → Int32) (w23 w24 w25 w26 : Int32) (w27 w28 : Nat → Int32) (w29 w30 : Int32) : Option PSO := some (v1.1, v1.2.1, v1.2.2.1, v1.2.2.2.1, v1.2.2.2.2.1, v1.2.2.2.2.2.1, v1.2.2.2.2.2.2.1, v1.2.2.2.2.2.2.2.1, v1.2.2.2.2.2.2.2.2, w18, w19, w20, w21, w22, w23, w24, w25, w26, w27, w28, p1, p2, w29, w30)
def oB (T : PSO) : Nat → Int32 := T.2.2.2.2.2.2.2.2.2.2.2.2.2.2.2.2.2.2.2.1
def oS (T : PSO) : Int32 := T.2.2.2.2.2.2.2.2.2.2.2.2.2.2.2.2.2.2.2.2.2.2.1
def oP (T : PSO) : Int32 := T.2.2.2.2.2.2.2.2.2.2.2.2.2.2.2.2.2.2.2.2.2.2.2
def oR (T : PSO) : RT := (T.1, T.2.1, T.2.2.1, T.2.2.2.1, T.2.2.2.2.1, T.2.2.2.2.2.1, T.2.2.2.2.2.2.1, T.2.2.2.2.2.2.2.1, T.2.2.2.2.2.2.2.2.1)
def oC (T : PSO) : Int32 := T.2.2.2.2.2.2.2.2.2.2.2.2.2.2.2.2.2.2.2.2.1
def oN (T : PSO) : Int32 := T.2.2.2.2.2.2.2.2.2.2.2.2.2.2.2.2.2.2.2.2.2.1
theorem partL_C {r : AR} {d : Int32} {P I K w bw : Nat → Int32} {F k n : Nat} {p1 : Int32} (hw : WF r) (hN : aN r ≤ 9999) (hn : n ≤ 60) (hk : k ≤ 8) (hM0 : 0 < aM r) (hF : 100000 ≤ F) (hv : VN k (aM r) w k) (t1 t2 : Nat → Int32) (t3 t4 : Int32) (t5 : Nat → Int32) (t6 t7 t8 t9 : Int32) :
    ∃ T : PSO, m_X2_part_L67 (nI n) F (cR r d P I K) (PSK (cR r d P I K) p1 (nI n)) F 0 1 t1 t2 t3 t4 t5 t6 t7 t8 t9 w bw (-1) (-1) = some T ∧ CS r k n (oS T) (oP T) (oB T) ∧ oR T = cR r d P I K ∧ oC T = p1 ∧ oN T = nI n := by
  have hM := hw.1
  have hB : 0 < k + 1 := Nat.succ_pos k
  have hkB : k < (k + 1) ^ aM r := by
    have : (k + 1) ^ 1 ≤ (k + 1) ^ aM r := Nat.pow_le_pow_right hB hM0
    rw [Nat.pow_one] at this; omega
  have hfew := prt_few (k := k) (M := aM r) hk hM
  have hk0 : ds (k + 1) (aM r) k = k := by
    have := ds_small (show k < k + 1 by omega) (aM r - 1)
    rw [show aM r - 1 + 1 = aM r by omega] at this; exact this
  have hlow : ∀ x, x < k → prt k (aM r) x = false := fun x hx => decide_eq_false (fun e => by
    have := ds_small (show x < k + 1 by omega) (aM r - 1)
    rw [show aM r - 1 + 1 = aM r by omega, e] at this; omega)
  refine loopEx (fun a x (s : Int32 × PS13) => m_X2_part_L67 (nI n) F (cR r d P I K) (PSK (cR r d P I K) p1 (nI n)) a x s.1 s.2.1 s.2.2.1 s.2.2.2.1 s.2.2.2.2.1 s.2.2.2.2.2.1 s.2.2.2.2.2.2.1 s.2.2.2.2.2.2.2.1 s.2.2.2.2.2.2.2.2.1 s.2.2.2.2.2.2.2.2.2.1 s.2.2.2.2.2.2.2.2.2.2.1 s.2.2.2.2.2.2.2.2.2.2.2.1 s.2.2.2.2.2.2.2.2.2.2.2.2.1 s.2.2.2.2.2.2.2.2.2.2.2.2.2)
    (fun j s => (s.1 = 0 ∧ CS r k n s.2.2.2.2.2.2.2.2.2.2.2.2.1 s.2.2.2.2.2.2.2.2.2.2.2.2.2 s.2.2.2.2.2.2.2.2.2.2.2.1) ∨ (s.1 = 1 ∧ ∃ v, v < (k + 1) ^ aM r ∧ ds (k + 1) (aM r) v = k ∧ VN k (aM r) s.2.2.2.2.2.2.2.2.2.2.1 v ∧ fb_ct (prt k (aM r)) v = j ∧ s.2.2.2.2.2.2.2.2.2.2.2.2.1 = e1x (bx r k n v) ∧ s.2.2.2.2.2.2.2.2.2.2.2.2.2 = e2x (bx r k n v) ∧ VB k (aM r) s.2.2.2.2.2.2.2.2.2.2.2.1 (bx r k n v)))
    (fun T => CS r k n (oS T) (oP T) (oB T) ∧ oR T = cR r d P I K ∧ oC T = p1 ∧ oN T = nI n) 1287 (fun a s h => ?_) (fun a j s hj h => ?_) 1287 F 0 (1, t1, t2, t3, t4, t5, t6, t7, t8, t9, w, bw, -1, -1) (by omega) (by omega) (Or.inr ⟨rfl, k, hkB, hk0, hv, ?_, ?_, ?_, ?_⟩)
  · obtain ⟨a0, a1, a2, a3, a4, a5, a6, a7, a8, a9, aw, ab, am, ap⟩ := s
    rcases h with ⟨h1, h2⟩ | ⟨-, v, h2, h3, h4, h5, -⟩
    · refine ⟨(cP r P, cI r I, nI (aN r), d, cK r K, nI (aM r), nI (aS r), nI (aT r), nI (aH r), a1, a2, a3, a4, a5, a6, a7, a8, a9, aw, ab, p1, nI n, am, ap), ?_, h2, rfl, rfl, rfl⟩
      show m_X2_part_L67s _ _ _ _ _ _ _ _ _ _ _ _ _ _ _ _ _ _ _ _ = _
      unfold m_X2_part_L67s
      rw [if_pos (by decide)]
      rfl
    · exfalso
      have q : fb_ct (prt k (aM r)) (v + 1) ≤ fb_ct (prt k (aM r)) ((k + 1) ^ aM r) := fb_ct_mono _ h2
      rw [fb_ct_succ, show prt k (aM r) v = true from decide_eq_true h3, if_pos rfl, h5] at q
      omega
  · obtain ⟨a0, a1, a2, a3, a4, a5, a6, a7, a8, a9, aw, ab, am, ap⟩ := s
    rcases h with ⟨h1, h2⟩ | ⟨h1, v, h2, h3, h4, h5, h6, h7, h8⟩
    · right
      have h1 : a0 = 0 := h1
      subst h1
      refine ⟨(cP r P, cI r I, nI (aN r), d, cK r K, nI (aM r), nI (aS r), nI (aT r), nI (aH r), a1, a2, a3, a4, a5, a6, a7, a8, a9, aw, ab, p1, nI n, am, ap), ?_, h2, rfl, rfl, rfl⟩
      show m_X2_part_L67s _ _ _ _ _ _ _ _ _ _ _ _ _ _ _ _ _ _ _ _ = _
      unfold m_X2_part_L67s
      rw [if_neg (show ¬ (1287 : Int32) ≤ nI j from nInle (a := 1287) (by decide) (by omega) hj), if_pos rfl]
      rfl
    · left
      have h1 : a0 = 1 := h1
      have h6 : am = e1x (bx r k n v) := h6
      have h7 : ap = e2x (bx r k n v) := h7
      subst h1 h6 h7
      obtain ⟨c1, c2, c3, c4, c5, c6, c7, c8, c9, bw2, e1, e2⟩ := try_C (d := d) (P := P) (I := I) (K := K) (F := F) (n := n) hw hN hn hk hF h4 (bx_b hw (by omega) v) h8 a1 a2 a3 a4 a5 a6 a7 a8 a9
      obtain ⟨b, w2, f1, f2, f3⟩ := nextSh_C (F := F) hM0 hM hk (by omega) h2 h3 h4
      have hbx : bx r k n (v + 1) = up3 (bx r k n v) v (nSt (ntn (cx r k v) n)) (pS (ntn (cx r k v) n)) := by
        rw [bx, show prt k (aM r) v = true from decide_eq_true h3]; rfl
      rw [← hbx] at e1 e2
      refine ⟨(bI b, c1, c2, c3, c4, c5, c6, c7, c8, c9, w2, bw2, e1x (bx r k n (v + 1)), e2x (bx r k n (v + 1))), ?_, ?_⟩
      · cases hb : b
        · left
          have g := bx_gap (r := r) (k := k) (n := n) (v := v + 1) ((k + 1) ^ aM r - (v + 1)) (fun x y1 y2 => f2 hb x (by omega) (by omega))
          rw [show v + 1 + ((k + 1) ^ aM r - (v + 1)) = (k + 1) ^ aM r by omega] at g
          refine ⟨rfl, ?_, ?_, ?_⟩
          · rw [g]
          · rw [g]
          · rw [g]; exact e2
        · right
          obtain ⟨v', y1, y2, y3, y4, y5⟩ := f3 hb
          have g := bx_gap (r := r) (k := k) (n := n) (v := v + 1) (v' - (v + 1)) (fun x z1 z2 => y5 x (by omega) (by omega))
          have g2 := ct_gap (p := prt k (aM r)) (v := v + 1) (v' - (v + 1)) (fun x z1 z2 => y5 x (by omega) (by omega))
          rw [show v + 1 + (v' - (v + 1)) = v' by omega] at g g2
          refine ⟨rfl, v', y2, y3, y4, ?_, ?_, ?_, ?_⟩
          · rw [g2, fb_ct_succ, show prt k (aM r) v = true from decide_eq_true h3, if_pos rfl, h5]
          · rw [g]
          · rw [g]
          · rw [g]; exact e2
      · show m_X2_part_L67s _ _ _ _ _ _ _ _ _ _ _ _ _ _ _ _ _ _ _ _ = _
        unfold m_X2_part_L67s
        rw [if_neg (show ¬ (1287 : Int32) ≤ nI j from nInle (a := 1287) (by decide) (by omega) hj), if_neg (show ¬ (1 : Int32) = 0 by decide)]
        refine Eq.trans (congrArg (fun z => Option.bind z _) e1) ?_
        rw [Option.bind_some]
        refine Eq.trans (congrArg (fun z => Option.bind z _) f1) ?_
        simp only [Option.bind_some, bnd, nI_1]
  · have g2 := ct_gap (p := prt k (aM r)) (v := 0) k (fun x _ z2 => hlow x (by omega))
    rw [Nat.zero_add] at g2
    rw [g2]; rfl
  · have g := bx_gap (r := r) (k := k) (n := n) (v := 0) k (fun x _ z2 => hlow x (by omega))
    rw [Nat.zero_add] at g
    rw [g]; rfl
  · have g := bx_gap (r := r) (k := k) (n := n) (v := 0) k (fun x _ z2 => hlow x (by omega))
    rw [Nat.zero_add] at g
    rw [g]; rfl
  · have g := bx_gap (r := r) (k := k) (n := n) (v := 0) k (fun x _ z2 => hlow x (by omega))
    rw [Nat.zero_add] at g
    rw [g]; exact fun z hz => absurd hz (by simp [bx])
