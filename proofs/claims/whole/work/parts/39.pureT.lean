/-! ===== PURE T: coats: what is kept, and the reference ===== -/
theorem like_C {r : AR} {P I K ap ai ak : Nat → Int32} {an am as_ at_ ah : Int32} {F : Nat} (hM : aM r ≤ 6) (hF : 64 ≤ F) :
    ∃ b, m_X3_isLike F ap ai an ak am as_ at_ ah (cP r P) (cI r I) (nI (aN r)) (cK r K) (nI (aM r)) (nI (aS r)) (nI (aT r)) (nI (aH r)) = some (bI b) ∧ (b = true → am = nI (aM r) ∧ an = nI (aN r) ∧ as_ = nI (aS r) ∧ at_ = nI (aT r) ∧ ah = nI (aH r) ∧ ∀ m, m < aM r → ak m = nI (aK r m) ∧ ap m = nI (aP r m) ∧ ai m = eC (aI r m)) := by
  unfold m_X3_isLike
  by_cases h1 : am = nI (aM r)
  rotate_left
  · rw [if_neg h1]; exact ⟨false, rfl, fun q => absurd q (by decide)⟩
  rw [if_pos h1]
  by_cases h2 : an = nI (aN r)
  rotate_left
  · rw [if_neg h2]; exact ⟨false, rfl, fun q => absurd q (by decide)⟩
  rw [if_pos h2]
  by_cases h3 : as_ = nI (aS r)
  rotate_left
  · rw [if_neg h3]; exact ⟨false, rfl, fun q => absurd q (by decide)⟩
  rw [if_pos h3]
  by_cases h4 : at_ = nI (aT r)
  rotate_left
  · rw [if_neg h4]; exact ⟨false, rfl, fun q => absurd q (by decide)⟩
  rw [if_pos h4]
  by_cases h5 : ah = nI (aH r)
  rotate_left
  · rw [if_neg h5]; exact ⟨false, rfl, fun q => absurd q (by decide)⟩
  rw [if_pos h5, h1]
  have key := loopEx (fun n x (_ : Unit) => m_X3_isLike_L59 ap ai ak (nI (aM r)) (cP r P) (cI r I) (cK r K) (some 1) n x) (fun j _ => ∀ m, m < j → ak m = nI (aK r m) ∧ ap m = nI (aP r m) ∧ ai m = eC (aI r m)) (fun v => ∃ b, v = bI b ∧ (b = true → ∀ m, m < aM r → ak m = nI (aK r m) ∧ ap m = nI (aP r m) ∧ ai m = eC (aI r m))) (aM r) (fun n s h => ?_) (fun n j s hj h => ?_) (aM r) F 0 () (by omega) (by omega) (fun m hm => absurd hm (Nat.not_lt_zero m))
  · obtain ⟨v, e1, b, rfl, e2⟩ := key
    exact ⟨b, e1, fun q => ⟨rfl, h2, h3, h4, h5, e2 q⟩⟩
  · refine ⟨1, ?_, true, rfl, fun _ => h⟩
    show m_X3_isLike_L59s _ _ _ _ _ _ _ _ _ _ = _
    unfold m_X3_isLike_L59s
    rw [if_pos (nIle (by omega) (by omega) (Nat.le_refl _))]
  · have e0 : m_X3_isLike_L59 ap ai ak (nI (aM r)) (cP r P) (cI r I) (cK r K) (some 1) (n + 1) (nI j) = (if ak j = nI (aK r j) then (if ap j = nI (aP r j) then (if ai j = eC (aI r j) then m_X3_isLike_L59 ap ai ak (nI (aM r)) (cP r P) (cI r I) (cK r K) (some 1) n (nI (j + 1)) else some 0) else some 0) else some 0) := by
      show m_X3_isLike_L59s _ _ _ _ _ _ _ _ _ _ = _
      unfold m_X3_isLike_L59s
      rw [if_neg (nInle (by omega) (by omega) hj)]
      simp only [chk_nI _ (show j < 6 by omega) (by decide : (6 : Nat) < 2 ^ 31), cl (show j < 2 ^ 31 by omega), bnd, nI_1]
      rw [cK_at hj, cP_at hj, cI_at hj]
    by_cases q1 : ak j = nI (aK r j)
    rotate_left
    · right; exact ⟨0, by refine Eq.trans e0 ?_; rw [if_neg q1], false, rfl, fun z => absurd z (by decide)⟩
    by_cases q2 : ap j = nI (aP r j)
    rotate_left
    · right; exact ⟨0, by refine Eq.trans e0 ?_; rw [if_pos q1, if_neg q2], false, rfl, fun z => absurd z (by decide)⟩
    by_cases q3 : ai j = eC (aI r j)
    rotate_left
    · right; exact ⟨0, by refine Eq.trans e0 ?_; rw [if_pos q1, if_pos q2, if_neg q3], false, rfl, fun z => absurd z (by decide)⟩
    left
    refine ⟨(), fun m hm => ?_, by refine Eq.trans e0 ?_; rw [if_pos q1, if_pos q2, if_pos q3]⟩
    by_cases e : m = j
    · subst e; exact ⟨q1, q2, q3⟩
    · exact h m (by omega)
theorem fill6_C {F : Nat} (hF : 64 ≤ F) (f : Nat → Int32) : ∃ g, m_J7_fill_53178_6 F f 0 = some g ∧ ∀ k, k < 6 → g k = 0 := by
  unfold m_J7_fill_53178_6
  obtain ⟨g, h1, h2⟩ := loopTo (fun n x s => m_J7_fill_53178_6_L5 0 (fun w3 => some w3) n x s) (fun g => some g) (fun j g => ∀ k, k < j → g k = 0) 6 (fun n s h => by
      show m_J7_fill_53178_6_L5s _ _ _ _ _ = _
      unfold m_J7_fill_53178_6_L5s
      rw [if_pos (by decide)]) (fun n j s hj h => by
      refine ⟨upd s j 0, fun k hk => ?_, ?_⟩
      · by_cases e : k = j
        · subst e; exact upd_eq
        · rw [upd_ne e]; exact h k (by omega)
      · show m_J7_fill_53178_6_L5s _ _ _ _ _ = _
        unfold m_J7_fill_53178_6_L5s
        rw [if_neg (show ¬ (6 : Int32) ≤ nI j from nInle (a := 6) (by decide) (by omega) hj), chk_nI _ hj (by decide), cl (by omega)]
        simp only [bnd, nI_1]) 6 F 0 f (by omega) (by omega) (fun k hk => absurd hk (Nat.not_lt_zero k))
  exact ⟨g, h2, h1⟩
theorem begin_C {F M k : Nat} (hM0 : 0 < M) (hM : M ≤ 6) (hF : 64 ≤ F) (sh : Nat → Int32) : ∃ w, m_X2_beginShares F (nI M) sh (nI k) = some w ∧ VN k M w k := by
  unfold m_X2_beginShares
  obtain ⟨g, e1, e2⟩ := fill6_C hF sh
  have e3 : nI M - 1 = nI (M - 1) := by
    have := (m1_s (M - 1) (by omega)).1
    rw [show M - 1 + 1 = M by omega] at this; exact this
  rw [e1, Option.bind_some, e3, chk_nI _ (by omega) (by decide), cl (by omega)]
  refine ⟨_, rfl, fun m hm => ?_⟩
  have hd := dgt_small (show k < k + 1 by omega)
  by_cases e : m = M - 1
  · subst e; rw [upd_eq, show M - 1 - (M - 1) = 0 by omega, hd.1]
  · obtain ⟨i, hi⟩ : ∃ i, M - 1 - m = i + 1 := ⟨M - 1 - m - 1, by omega⟩
    rw [upd_ne e, e2 m (by omega), hi, hd.2]; rfl
def AskIs (A : RT) (q : AR) : Prop := A.2.2.2.2.2.1 = nI (aM q) ∧ A.2.2.1 = nI (aN q) ∧ A.2.2.2.2.2.2.1 = nI (aS q) ∧ A.2.2.2.2.2.2.2.1 = nI (aT q) ∧ A.2.2.2.2.2.2.2.2 = nI (aH q) ∧ ∀ m, m < aM q → A.2.2.2.2.1 m = nI (aK q m) ∧ A.1 m = nI (aP q m) ∧ A.2.1 m = eC (aI q m)
def PCa (A : RT) (ac an ms mp : Int32) (bw : Nat → Int32) : Prop := ac = -1 ∨ ∃ k n, k ≤ 8 ∧ n ≤ 60 ∧ ac = nI k ∧ an = nI n ∧ ∀ q, WF q → aN q ≤ 9999 → 0 < aM q → AskIs A q → CS q k n ms mp bw
theorem AskIs_cR {A : RT} {q : AR} (h : AskIs A q) : A = cR q A.2.2.2.1 A.1 A.2.1 A.2.2.2.2.1 := by
  obtain ⟨h1, h2, h3, h4, h5, h6⟩ := h
  obtain ⟨a1, a2, a3, a4, a5, a6, a7, a8, a9⟩ := A
  have e1 := cP_self (r := q) (f := a1) (fun m hm => (h6 m hm).2.1)
  have e2 := cI_self (r := q) (f := a2) (fun m hm => (h6 m hm).2.2)
  have e3 := cK_self (r := q) (f := a5) (fun m hm => (h6 m hm).1)
  have h1 : a6 = nI (aM q) := h1
  have h2 : a3 = nI (aN q) := h2
  have h3 : a7 = nI (aS q) := h3
  have h4 : a8 = nI (aT q) := h4
  have h5 : a9 = nI (aH q) := h5
  subst h1 h2 h3 h4 h5
  show (a1, a2, nI (aN q), a4, a5, nI (aM q), nI (aS q), nI (aT q), nI (aH q)) = (cP q a1, cI q a2, nI (aN q), a4, cK q a5, nI (aM q), nI (aS q), nI (aT q), nI (aH q))
  rw [← e1, ← e2, ← e3]
theorem nI_neg1 : ∀ k, k ≤ 8 → ¬ nI k = -1 := by decide +kernel
theorem part_C {r : AR} {d : Int32} {P I K sh bw : Nat → Int32} {F k n : Nat} {ac an ms mp : Int32} (hw : WF r) (hN : aN r ≤ 9999) (hn : n ≤ 60) (hk : k ≤ 8) (hM0 : 0 < aM r) (hF : 100000 ≤ F) (a1 a2 : Nat → Int32) (a3 a4 : Int32) (a5 : Nat → Int32) (a6 a7 a8 a9 : Int32) (t1 t2 : Nat → Int32) (t3 t4 : Int32) (t5 : Nat → Int32) (t6 t7 t8 t9 : Int32) (hpc : PCa (a1, a2, a3, a4, a5, a6, a7, a8, a9) ac an ms mp bw) :
    ∃ T : PSO, m_X2_part F a1 a2 a3 a4 a5 a6 a7 a8 a9 t1 t2 t3 t4 t5 t6 t7 t8 t9 sh bw ac an ms mp (cP r P) (cI r I) (nI (aN r)) d (cK r K) (nI (aM r)) (nI (aS r)) (nI (aT r)) (nI (aH r)) (nI k) (nI n) = some T ∧ CS r k n (oS T) (oP T) (oB T) ∧ PCa (oR T) (oC T) (oN T) (oS T) (oP T) (oB T) := by
  have hM := hw.1
  obtain ⟨P2, I2, K2, e1⟩ := takeAll_C (d := d) (P := P) (I := I) (K := K) hM a1 a2 a3 a4 a5 a6 a7 a8 a9
  obtain ⟨w, e2, e3⟩ := begin_C (k := k) (F := F) hM0 hM (by omega) sh
  obtain ⟨T, f1, f2, f3, f4, f5⟩ := partL_C (d := d) (P := P2) (I := I2) (K := K2) (w := w) (bw := bw) (F := F) (n := n) (p1 := nI k) hw hN hn hk hM0 hF e3 t1 t2 t3 t4 t5 t6 t7 t8 t9
  have fresh : ((m_X3_takeAll a1 a2 a3 a4 a5 a6 a7 a8 a9 (cP r P) (cI r I) (nI (aN r)) d (cK r K) (nI (aM r)) (nI (aS r)) (nI (aT r)) (nI (aH r))).bind (fun v1 => (m_X2_beginShares F v1.2.2.2.2.2.1 sh (nI k)).bind (fun v2 => m_X2_part_L67 (nI n) F v1 (PSK v1 (nI k) (nI n)) F 0 1 t1 t2 t3 t4 t5 t6 t7 t8 t9 v2 bw (-1) (-1)))) = some T := by
    rw [e1, Option.bind_some]
    refine Eq.trans (congrArg (fun z => Option.bind z _) (show m_X2_beginShares F (cR r d P2 I2 K2).2.2.2.2.2.1 sh (nI k) = some w from e2)) ?_
    rw [Option.bind_some]
    exact f1
  have hpcT : PCa (oR T) (oC T) (oN T) (oS T) (oP T) (oB T) := by
    refine Or.inr ⟨k, n, hk, hn, f4, f5, fun q hq1 hq2 hq3 hq4 => ?_⟩
    rw [f3] at hq4
    have hq6 := hq1.1
    have hMq : aM q = aM r := ((nI_eq (a := aM r) (b := aM q) (by omega) (by omega)).mp hq4.1).symm
    have eq := AskIs_cR hq4
    obtain ⟨T2, y1, y2, -⟩ := partL_C (d := d) (P := (cR r d P2 I2 K2).1) (I := (cR r d P2 I2 K2).2.1) (K := (cR r d P2 I2 K2).2.2.2.2.1) (w := w) (bw := bw) (F := F) (n := n) (p1 := nI k) hq1 hq2 hn hk hq3 hF (hMq ▸ e3) t1 t2 t3 t4 t5 t6 t7 t8 t9
    have eq : cR q d (cR r d P2 I2 K2).1 (cR r d P2 I2 K2).2.1 (cR r d P2 I2 K2).2.2.2.2.1 = cR r d P2 I2 K2 := eq.symm
    rw [eq] at y1
    rw [f1, Option.some.injEq] at y1
    rw [y1]; exact y2
  show ∃ T : PSO, (if nI k = ac then (if nI n = an then _ else _) else _) = some T ∧ _
  by_cases c1 : nI k = ac
  rotate_left
  · rw [if_neg c1]; exact ⟨T, fresh, f2, hpcT⟩
  rw [if_pos c1]
  by_cases c2 : nI n = an
  rotate_left
  · rw [if_neg c2]; exact ⟨T, fresh, f2, hpcT⟩
  rw [if_pos c2]
  obtain ⟨b, g1, g2⟩ := like_C (r := r) (P := P) (I := I) (K := K) (ap := a1) (ai := a2) (ak := a5) (an := a3) (am := a6) (as_ := a7) (at_ := a8) (ah := a9) (F := F) hM (by omega)
  rw [g1, Option.bind_some, ib0]
  cases b
  · exact ⟨T, fresh, f2, hpcT⟩
  · refine ⟨_, rfl, ?_, hpc⟩
    obtain ⟨l1, l2, l3, l4, l5, l6⟩ := g2 rfl
    rcases hpc with q | ⟨k', n', q1, q2, q3, q4, q5⟩
    · rw [← c1] at q; exact absurd q (nI_neg1 k hk)
    · have ek : k = k' := (nI_eq (by omega) (by omega)).mp (c1.trans q3)
      have en : n = n' := (nI_eq (by omega) (by omega)).mp (c2.trans q4)
      subst ek en
      exact q5 r hw hN hM0 ⟨l1, l2, l3, l4, l5, l6⟩
/-- the reference -/
theorem partedL_M {k M x : Nat} (hk : k ≤ 8) (hM : M ≤ 6) (hx : x < 2 ^ 31) (K : Int32 → (Nat → Int32) → Option (Int32 × (Nat → Int32))) : ∀ m n w, m ≤ M → m < n → (∀ j, m ≤ j → j < M → w j = nI (dgt (k + 1) x (M - 1 - j))) →
    ∃ w', m_X9_isParted_L15 (nI k) K n (nI m - 1) (nI (ds (k + 1) (M - m) x)) (nI (x / (k + 1) ^ (M - m))) w = K (nI (ds (k + 1) M x)) w' ∧ VN k M w' x
  | 0, n, w, _, hn, h => by
    obtain ⟨n, rfl⟩ : ∃ n', n = n' + 1 := ⟨n - 1, by omega⟩
    refine ⟨w, ?_, fun m hm => h m (by omega) hm⟩
    show m_X9_isParted_L15s _ _ _ _ _ _ _ = _
    unfold m_X9_isParted_L15s
    rw [if_pos (by decide), Nat.sub_zero]
  | m + 1, n, w, hm, hn, h => by
    obtain ⟨n, rfl⟩ : ∃ n', n = n' + 1 := ⟨n - 1, by omega⟩
    have hB : 0 < k + 1 := Nat.succ_pos k
    obtain ⟨w', e1, e2⟩ := partedL_M hk hM hx K m n (upd w m (nI (dgt (k + 1) x (M - 1 - m)))) (by omega) (by omega) (fun j hj hj2 => by
      by_cases e : j = m
      · subst e; exact upd_eq
      · rw [upd_ne e]; exact h j (by omega) hj2)
    refine ⟨w', ?_, e2⟩
    rw [← e1]
    show m_X9_isParted_L15s _ _ _ _ _ _ _ = _
    unfold m_X9_isParted_L15s
    have q := (m1_all (m + 1) (by omega)).1
    rw [decide_eq_false (show ¬ m + 1 = 0 by omega)] at q
    have q2 := (m1_s m (by omega)).2
    have q3 := (m1_s m (by omega)).1
    have hxl : x / (k + 1) ^ (M - (m + 1)) < 2 ^ 31 := Nat.lt_of_le_of_lt (Nat.div_le_self _ _) hx
    have hne : ¬ nI (k + 1) = 0 := fun z => by have := (nI_eq (b := 0) (by omega) (by decide)).mp z; omega
    rw [q3] at q2
    rw [if_neg (of_decide_eq_false q), nI_1, q3]
    unfold nzI
    rw [if_neg hne, if_neg hne]
    simp only [chk_nI _ (show m < 6 by omega) (by decide : (6 : Nat) < 2 ^ 31), cl (show m < 2 ^ 31 by omega), bnd]
    rw [upd_eq, pk_rem hxl hB (by omega), pk_div hxl hB (by omega), q2, nI_add]
    have d1 : x / (k + 1) ^ (M - (m + 1)) % (k + 1) = dgt (k + 1) x (M - 1 - m) := by unfold dgt; rw [show M - (m + 1) = M - 1 - m by omega]
    have d2 : x / (k + 1) ^ (M - (m + 1)) / (k + 1) = x / (k + 1) ^ (M - m) := by
      rw [Nat.div_div_eq_div_mul, ← Nat.pow_succ, show (M - (m + 1)).succ = M - m by omega]
    have d3 : ds (k + 1) (M - (m + 1)) x + dgt (k + 1) x (M - 1 - m) = ds (k + 1) (M - m) x := by
      have := ds_snoc (B := k + 1) (M - (m + 1)) x
      rw [show M - (m + 1) + 1 = M - m by omega, show dgt (k + 1) x (M - (m + 1)) = dgt (k + 1) x (M - 1 - m) by rw [show M - (m + 1) = M - 1 - m by omega]] at this
      exact this.symm
    rw [d1, d2, d3]
theorem parted_M {r : AR} {N c : Nat → Int32} {F k x : Nat} (hM : aM r ≤ 6) (hk : k ≤ 8) (hx : x < (k + 1) ^ aM r) (hx2 : x < 2 ^ 31) (hF : 64 ≤ F) : ∃ w, m_X9_isParted F (cN r N) c (nI x) (nI k) = some (bI (prt k (aM r) x), w) ∧ VN k (aM r) w x := by
  unfold m_X9_isParted
  rw [cN_0]
  simp only [bnd]
  obtain ⟨w, e1, e2⟩ := partedL_M (x := x) hk hM hx2 (fun x6 w7 => (if x6 = nI k then some (1, w7) else some (0, w7))) (aM r) F c (Nat.le_refl _) (by omega) (fun j h1 h2 => absurd h1 (by omega))
  rw [Nat.sub_self, Nat.pow_zero, Nat.div_one] at e1
  refine ⟨w, Eq.trans e1 ?_, e2⟩
  have hds : ∀ n y, n ≤ 6 → ds (k + 1) n y ≤ n * k := fun n => by
    induction n with
    | zero => intro y _; show 0 ≤ _; omega
    | succ n ih =>
      intro y hn
      have h1 := ih (y / (k + 1)) (by omega)
      have h2 : y % (k + 1) < k + 1 := Nat.mod_lt _ (Nat.succ_pos k)
      show y % (k + 1) + ds (k + 1) n (y / (k + 1)) ≤ (n + 1) * k
      rw [Nat.succ_mul]; omega
  have hb := hds (aM r) x hM
  have hb2 : aM r * k ≤ 6 * 8 := Nat.mul_le_mul hM hk
  unfold prt
  by_cases q : ds (k + 1) (aM r) x = k
  · rw [if_pos (by rw [q]), decide_eq_true q]; rfl
  · rw [if_neg (fun z => q ((nI_eq (by omega) (by omega)).mp z)), decide_eq_false q]; rfl
theorem coat_M {r : AR} {N c : Nat → Int32} {F k x : Nat} (hw : WF r) (hk : k ≤ 8) (hF : 64 ≤ F) (hv : VN k (aM r) c x) (K : (Nat → Int32) → Option ((Nat → Int32) × (Nat → Int32) × Int32 × Int32)) : m_X9_triesCoats_L2 c K F 0 (cN r N) = K (cN (cx r k x) N) := by
  have hM := hw.1
  rw [← cxj_endN]
  have key := loopUp (fun n y s => m_X9_triesCoats_L2 c K n y s) (K (cN (cxj r k x (aM r)) N)) (fun j => cN (cxj r k x j) N) (aM r) (fun n => ?_) (fun n j hj => ?_) (aM r) F 0 (by omega) (by omega)
  · simp only [cxj_0] at key; exact key
  · show m_X9_triesCoats_L2s _ _ _ _ _ = _
    unfold m_X9_triesCoats_L2s
    rw [cN_0, if_pos (show nI (aM (cxj r k x (aM r))) ≤ nI (aM r) from nIle (a := aM r) (by omega) (by omega) (Nat.le_refl _))]
  · show m_X9_triesCoats_L2s _ _ _ _ _ = _
    unfold m_X9_triesCoats_L2s
    have hd : dgt (k + 1) x (aM r - 1 - j) < k + 1 := dgt_lt (Nat.succ_pos k) x (aM r - 1 - j)
    have hp := (hw.2.1 j hj).2.1
    rw [cN_0, if_neg (show ¬ nI (aM (cxj r k x j)) ≤ nI j from nInle (a := aM r) (by omega) (by omega) hj), paintOf_M (by omega), cN_p (r := cxj r k x j) hj, cxj_P]
    simp only [Option.bind_some, bnd, nI_1]
    rw [chk_nI _ (by omega) (by decide), cl (by omega), hv j hj, paints_M (r := cxj r k x j) hM hj (pm_M _ hp _ (by omega))]
    simp only [Option.bind_some]
    change m_X9_triesCoats_L2 c K n (nI (j + 1)) (cN (sP (cxj r k x j) j (pm (aP r j) (dgt (k + 1) x (aM r - 1 - j)))) N) = _
    rw [cxj_step]
theorem copy6_M {c bw : Nat → Int32} {F : Nat} (hF : 64 ≤ F) (K : (Nat → Int32) → Option ((Nat → Int32) × (Nat → Int32) × Int32 × Int32)) : m_X9_triesCoats_L98 c K F 0 bw = K (fa_fill c bw 6) := by
  have key := loopUp (fun m x s => m_X9_triesCoats_L98 c K m x s) (K (fa_fill c bw 6)) (fun k => fa_fill c bw k) 6 (fun m => ?_) (fun m k hk => ?_) 6 F 0 (by omega) (by omega)
  · simp only [fa_fill_0] at key; exact key
  · show m_X9_triesCoats_L98s _ _ _ _ _ = _
    unfold m_X9_triesCoats_L98s
    rw [if_pos (by decide)]
  · show m_X9_triesCoats_L98s _ _ _ _ _ = _
    unfold m_X9_triesCoats_L98s
    rw [if_neg (show ¬ (6 : Int32) ≤ nI k from nInle (a := 6) (by decide) (by omega) hk), chk_nI _ hk (by decide), chk_nI _ hk (by decide), cl (by omega)]
    simp only [bnd, nI_1, fa_fill_succ]
theorem try_M {r : AR} {N A c bw : Nat → Int32} {F k x n : Nat} {q : BX} (hw : WF r) (hN : aN r ≤ 9999) (hn : n ≤ 60) (hk : k ≤ 8) (hF : 100000 ≤ F) (hA : ∀ j, j < 24 → A j = cN r N j) (hv : VN k (aM r) c x) (hq : bxb q) (hb : VB k (aM r) bw q) :
    ∃ bw2, m_X9_triesCoats F (cN r N) A c bw (e1x q) (e2x q) (nI n) = some (cN r N, bw2, e1x (up3 q x (nSt (ntn (cx r k x) n)) (pS (ntn (cx r k x) n))), e2x (up3 q x (nSt (ntn (cx r k x) n)) (pS (ntn (cx r k x) n)))) ∧ VB k (aM r) bw2 (up3 q x (nSt (ntn (cx r k x) n)) (pS (ntn (cx r k x) n))) := by
  have hM := hw.1
  have hwc := cx_WF (k := k) (x := x) hw
  have hMn : aM (ntn (cx r k x) n) ≤ 6 := by rw [ntn_M]; exact hM
  have hs6 := nSt6 (r := cx r k x) hM n
  have hp54 := pS_le (ntn_WF hwc n (by show aN r + n < 100000; omega))
  unfold m_X9_triesCoats
  rw [coat_M hw hk (by omega) hv, goesOn_M hwc (by show aN r + n < 100000; omega) hF, Option.bind_some, standing_M hMn (by omega), Option.bind_some, manySt_M hMn (by omega), Option.bind_some, Option.bind_some, pS_M hMn (by omega), Option.bind_some, backs_M (r := r) (by omega) hM hMn hA, Option.bind_some]
  simp only [jn]
  rw [pick (x := x) hq hs6 hp54, copy6_M (by omega)]
  by_cases hc : (up3 q x (nSt (ntn (cx r k x) n)) (pS (ntn (cx r k x) n)) = some (x, nSt (ntn (cx r k x) n), pS (ntn (cx r k x) n)) ∧ (q = none ∨ ∃ z, q = some z ∧ (z.2.1 < nSt (ntn (cx r k x) n) ∨ (nSt (ntn (cx r k x) n) = z.2.1 ∧ z.2.2 < pS (ntn (cx r k x) n)))))
  · rw [if_pos hc, hc.1]
    refine ⟨_, rfl, fun z hz => ?_⟩
    rw [Option.some.injEq] at hz; subst hz
    intro m hm
    rw [fa_fill_in (by omega)]; exact hv m hm
  · rw [if_neg hc, up3_not hc]
    exact ⟨_, rfl, hb⟩
theorem pw_le {k M : Nat} (hk : k ≤ 8) (hM : M ≤ 6) : (k + 1) ^ M ≤ 531441 := by
  have h1 : (k + 1) ^ M ≤ 9 ^ M := Nat.pow_le_pow_left (by omega) M
  have h2 : 9 ^ M ≤ 9 ^ 6 := Nat.pow_le_pow_right (by decide) hM
  exact Nat.le_trans h1 (Nat.le_trans h2 (by decide))
theorem coats_M {r : AR} {N A c bw : Nat → Int32} {F k n : Nat} (hw : WF r) (hN : aN r ≤ 9999) (hn : n ≤ 60) (hk : k ≤ 8) (hF : 600000 ≤ F) (hA : ∀ j, j < 24 → A j = cN r N j) (K : (Nat → Int32) → (Nat → Int32) → (Nat → Int32) → Int32 → Int32 → Option (Int32 × (Nat → Int32) × (Nat → Int32) × (Nat → Int32) × (Nat → Int32) × Int32 × Int32)) :
    ∃ c2 bw2 ms mp, m_X9_coats_L92 (nI k) (nI n) F (nI ((k + 1) ^ aM r)) A K F 0 (cN r N) c bw (-1) (-1) = K (cN r N) c2 bw2 ms mp ∧ CS r k n ms mp bw2 := by
  have hM := hw.1
  have hpw := pw_le hk hM
  obtain ⟨⟨s1, s2, s3, s4, s5⟩, ⟨h1, h2, h3, h4⟩, h5⟩ := loopTo (fun a x (s : (Nat → Int32) × (Nat → Int32) × (Nat → Int32) × Int32 × Int32) => m_X9_coats_L92 (nI k) (nI n) F (nI ((k + 1) ^ aM r)) A K a x s.1 s.2.1 s.2.2.1 s.2.2.2.1 s.2.2.2.2) (fun s => K s.1 s.2.1 s.2.2.1 s.2.2.2.1 s.2.2.2.2)
    (fun x s => s.1 = cN r N ∧ s.2.2.2.1 = e1x (bx r k n x) ∧ s.2.2.2.2 = e2x (bx r k n x) ∧ VB k (aM r) s.2.2.1 (bx r k n x)) ((k + 1) ^ aM r) (fun a s h => by
      show m_X9_coats_L92s _ _ _ _ _ _ _ _ _ _ _ _ _ = _
      unfold m_X9_coats_L92s
      rw [if_pos (nIle (by omega) (by omega) (Nat.le_refl _))]) (fun a x s hx h => by
      obtain ⟨s1, s2, s3, s4, s5⟩ := s
      obtain ⟨h1, h2, h3, h4⟩ := h
      have h1 : s1 = cN r N := h1
      have h2 : s4 = e1x (bx r k n x) := h2
      have h3 : s5 = e2x (bx r k n x) := h3
      subst h1 h2 h3
      obtain ⟨w, y1, y2⟩ := parted_M (N := N) (c := s2) (F := F) hM hk hx (by omega) (by omega)
      cases hp : prt k (aM r) x
      · refine ⟨(cN r N, w, s3, e1x (bx r k n x), e2x (bx r k n x)), ?_, ?_⟩
        · have e : bx r k n (x + 1) = bx r k n x := by rw [bx, hp]; rfl
          rw [e]; exact ⟨rfl, rfl, rfl, h4⟩
        · show m_X9_coats_L92s _ _ _ _ _ _ _ _ _ _ _ _ _ = _
          unfold m_X9_coats_L92s
          rw [if_neg (nInle (by omega) (by omega) hx)]
          refine Eq.trans (congrArg (fun z => Option.bind z _) y1) ?_
          rw [Option.bind_some, hp, if_pos (show bI false = 0 from rfl)]
          simp only [bnd, nI_1]
      · obtain ⟨bw2, z1, z2⟩ := try_M (c := w) (bw := s3) (n := n) (F := F) hw hN hn hk (by omega) hA y2 (bx_b hw (show aN r + n < 100000 by omega) x) h4
        have e : bx r k n (x + 1) = up3 (bx r k n x) x (nSt (ntn (cx r k x) n)) (pS (ntn (cx r k x) n)) := by rw [bx, hp]; rfl
        rw [← e] at z1 z2
        refine ⟨(cN r N, w, bw2, e1x (bx r k n (x + 1)), e2x (bx r k n (x + 1))), ⟨rfl, rfl, rfl, z2⟩, ?_⟩
        show m_X9_coats_L92s _ _ _ _ _ _ _ _ _ _ _ _ _ = _
        unfold m_X9_coats_L92s
        rw [if_neg (nInle (by omega) (by omega) hx)]
        refine Eq.trans (congrArg (fun z => Option.bind z _) y1) ?_
        rw [Option.bind_some, hp, if_neg (show ¬ bI true = 0 by decide)]
        refine Eq.trans (congrArg (fun z => Option.bind z _) z1) ?_
        rw [Option.bind_some]
        simp only [bnd, nI_1]) ((k + 1) ^ aM r) F 0 (cN r N, c, bw, -1, -1) (by omega) (by omega) ⟨rfl, rfl, rfl, fun z hz => absurd hz (by simp [bx])⟩
  have h1 : s1 = cN r N := h1
  subst h1
  exact ⟨s2, s3, s4, s5, h5, h2, h3, h4⟩
theorem numbers_M {r : AR} {N : Nat → Int32} {F k : Nat} (hM : aM r ≤ 6) (hF : 64 ≤ F) (K : Int32 → Option (Int32 × (Nat → Int32) × (Nat → Int32) × (Nat → Int32) × (Nat → Int32) × Int32 × Int32)) : m_X9_coats_L50 (cN r N) (nI k) K F 0 1 = K (nI ((k + 1) ^ aM r)) := by
  refine loopUp (fun n x s => m_X9_coats_L50 (cN r N) (nI k) K n x s) _ (fun j => nI ((k + 1) ^ j)) (aM r) (fun n => ?_) (fun n j hj => ?_) (aM r) F 0 (by omega) (by omega)
  · show m_X9_coats_L50s _ _ _ _ _ _ = _
    unfold m_X9_coats_L50s
    rw [cN_0, if_pos (nIle (by omega) (by omega) (Nat.le_refl _))]
  · show m_X9_coats_L50s _ _ _ _ _ _ = _
    unfold m_X9_coats_L50s
    rw [cN_0, if_neg (nInle (by omega) (by omega) hj), nI_1, pk_mul, ← Nat.pow_succ]
    simp only [bnd, nI_1]
