/-! ===== PURE N: worn, film ===== -/
theorem cmp_eq (x y : Int64) : (lg_cmp x y = 0) = (x = y) := by
  unfold lg_cmp
  by_cases h1 : x > y
  · rw [if_pos h1]
    refine propext ⟨fun q => absurd q (by decide), fun q => ?_⟩
    subst q
    have h1 : x < x := h1
    rw [fa_lt64] at h1; omega
  · rw [if_neg h1]
    by_cases h2 : x = y
    · rw [if_pos h2]; exact propext ⟨fun _ => h2, fun _ => rfl⟩
    · rw [if_neg h2]; exact propext ⟨fun q => absurd q (by decide), fun q => absurd q h2⟩
def wb (q : AR) (m : Nat) (it : Nat → Int64) : Nat → Bool
  | 0 => true
  | k + 1 => wb q m it k && decide (it k = (nI (aP (ntn q (k + 1)) m)).toInt64)
theorem wb_off {q : AR} {m : Nat} {it : Nat → Int64} {k : Nat} (h : wb q m it k = false) : ∀ d, wb q m it (k + d) = false
  | 0 => h
  | d + 1 => by show (wb q m it (k + d) && _) = false; rw [wb_off h d]; rfl
theorem wb_cong {q : AR} {m : Nat} {it it2 : Nat → Int64} : ∀ n, (∀ k, k < n → it k = it2 k) → wb q m it n = wb q m it2 n
  | 0, _ => rfl
  | n + 1, h => by
    show (wb q m it n && _) = (wb q m it2 n && _)
    rw [wb_cong n (fun k hk => h k (by omega)), h n (by omega)]
theorem wears_C {q : AR} {P I K : Nat → Int32} {X : Nat → Int64} {F m i n : Nat} (hw : WF q) (hn : aN q + n < 100000) (hF : 100000 ≤ F) (hm : m < aM q) (hi : i + n ≤ 24) :
    ∃ T : Int32 × (Nat → Int32) × (Nat → Int32) × Int32, m_X1_wearsAs F (cP q P) (cI q I) (nI (aN q)) (cK q K) (nI (aM q)) (nI (aS q)) (nI (aT q)) (nI (aH q)) X (nI i) (nI n) (nI m) = some T ∧ T.1 = bI (wb q m (fun k => X (i + k)) n) := by
  have hM := hw.1
  unfold m_X1_wearsAs
  refine loopEx (fun a x (s : (Nat → Int32) × (Nat → Int32) × Int32) => m_X1_wearsAs_L2 (cK q K) (nI (aM q)) (nI (aS q)) (nI (aT q)) (nI (aH q)) X (nI i) (nI n) (nI m) F (fun w5 w6 w7 => some (1, w5, w6, w7)) a x s.1 s.2.1 s.2.2)
    (fun j s => wb q m (fun k => X (i + k)) j = true ∧ s = (cP (ntn q j) P, cI (ntn q j) I, nI (aN q + j))) (fun T => T.1 = bI (wb q m (fun k => X (i + k)) n)) n (fun a s h => ?_) (fun a j s hj h => ?_) n F 0 (cP q P, cI q I, nI (aN q)) (by omega) (by omega) ⟨rfl, rfl⟩
  · refine ⟨(1, s.1, s.2.1, s.2.2), ?_, by rw [h.1]; rfl⟩
    show m_X1_wearsAs_L2s _ _ _ _ _ _ _ _ _ _ _ _ _ _ _ _ = _
    unfold m_X1_wearsAs_L2s
    rw [if_pos (nIle (by omega) (by omega) (Nat.le_refl _))]
  · obtain ⟨h1, rfl⟩ := h
    have hm' : m < aM (ntn q (j + 1)) := by rw [ntn_M]; exact hm
    have e0 : m_X1_wearsAs_L2s (cK q K) (nI (aM q)) (nI (aS q)) (nI (aT q)) (nI (aH q)) X (nI i) (nI n) (nI m) F (fun w5 w6 w7 => some (1, w5, w6, w7)) (m_X1_wearsAs_L2 (cK q K) (nI (aM q)) (nI (aS q)) (nI (aT q)) (nI (aH q)) X (nI i) (nI n) (nI m) F (fun w5 w6 w7 => some (1, w5, w6, w7)) a) (nI j) (cP (ntn q j) P) (cI (ntn q j) I) (nI (aN q + j)) = (if X (i + j) = (nI (aP (ntn q (j + 1)) m)).toInt64 then m_X1_wearsAs_L2 (cK q K) (nI (aM q)) (nI (aS q)) (nI (aT q)) (nI (aH q)) X (nI i) (nI n) (nI m) F (fun w5 w6 w7 => some (1, w5, w6, w7)) a (nI (j + 1)) (cP (ntn q (j + 1)) P) (cI (ntn q (j + 1)) I) (nI (aN q + j + 1)) else some (0, cP (ntn q (j + 1)) P, cI (ntn q (j + 1)) I, nI (aN q + j + 1))) := by
      unfold m_X1_wearsAs_L2s
      rw [if_neg (nInle (by omega) (by omega) hj), passNightK_C hw (by omega) (by omega)]
      simp only [Option.bind_some, bnd, nI_1]
      rw [nI_add, chk_nI _ (by omega) (by decide), chk_nI _ (by omega) (by decide), cl (by omega), cl (by omega), cP_at hm']
      simp only [cmp_eq]
    by_cases hc : X (i + j) = (nI (aP (ntn q (j + 1)) m)).toInt64
    · left
      refine ⟨(cP (ntn q (j + 1)) P, cI (ntn q (j + 1)) I, nI (aN q + j + 1)), ⟨?_, rfl⟩, ?_⟩
      · show (wb q m (fun k => X (i + k)) j && decide (X (i + j) = _)) = true
        rw [h1, decide_eq_true hc]; rfl
      · refine Eq.trans e0 ?_
        rw [if_pos hc]
    · right
      refine ⟨(0, cP (ntn q (j + 1)) P, cI (ntn q (j + 1)) I, nI (aN q + j + 1)), ?_, ?_⟩
      · refine Eq.trans e0 ?_
        rw [if_neg hc]
      · have : wb q m (fun k => X (i + k)) (j + 1) = false := by
          show (wb q m (fun k => X (i + k)) j && decide (X (i + j) = _)) = false
          rw [h1, decide_eq_false hc]; rfl
        have := wb_off this (n - (j + 1))
        rw [show j + 1 + (n - (j + 1)) = n by omega] at this
        rw [this]; rfl
theorem isSo_M {q r : AR} {N A : Nat → Int32} {mx : Nat → Int64} {F m b n : Nat} (hw : WF q) (hn : aN q + n < 100000) (hF : 100000 ≤ F) (hm : m < aM q) (hb : b + n ≤ 96) (hr : aM r ≤ 6) (hA : ∀ j, j < 24 → A j = cN r N j) :
    m_X9_isSo F (cN q N) A mx (nI m) (nI b) (nI n) = some (bI (wb q m (fun k => mx (b + k)) n), cN r N) := by
  have hM := hw.1
  unfold m_X9_isSo
  refine loopUp (fun a x (s : Int32 × (Nat → Int32)) => m_X9_isSo_L6 mx (nI m) (nI b) (nI n) F (fun x4 w5 => (m_X9_backs F w5 A).bind (fun v6 => zb x4 (some (x4, v6)))) a x s.1 s.2) _ (fun j => (bI (wb q m (fun k => mx (b + k)) j), cN (ntn q j) N)) n (fun a => ?_) (fun a j hj => ?_) n F 0 (by omega) (by omega)
  · show m_X9_isSo_L6s _ _ _ _ _ _ _ _ _ _ = _
    unfold m_X9_isSo_L6s
    rw [if_pos (nIle (by omega) (by omega) (Nat.le_refl _))]
    simp only
    rw [backs_M (r := r) (by omega) hr (by rw [ntn_M]; exact hM) hA]
    simp only [Option.bind_some, zb_bI]
  · show m_X9_isSo_L6s _ _ _ _ _ _ _ _ _ _ = _
    unfold m_X9_isSo_L6s
    have hm' : m < aM (nt (ntn q j)) := by show m < aM (ntn q j); rw [ntn_M]; exact hm
    rw [if_neg (nInle (by omega) (by omega) hj)]
    simp only
    rw [night_M (ntn_WF hw j (by omega)) (by omega)]
    simp only [Option.bind_some, bnd, nI_1, ib0]
    rw [paintOf_M (by omega), cN_p hm', nI_add]
    simp only [Option.bind_some, cmp_eq]
    rw [chk_nI _ (by omega) (by decide), cl (by omega)]
    have e : wb q m (fun k => mx (b + k)) (j + 1) = (wb q m (fun k => mx (b + k)) j && decide (mx (b + j) = (nI (aP (nt (ntn q j)) m)).toInt64)) := rfl
    rw [e]
    cases h1 : wb q m (fun k => mx (b + k)) j
    · rfl
    · by_cases hc : (nI (aP (nt (ntn q j)) m)).toInt64 = mx (b + j)
      · rw [if_pos rfl, if_pos hc, decide_eq_true hc.symm]; rfl
      · rw [if_pos rfl, if_neg hc, decide_eq_false (fun z => hc z.symm)]; rfl
def sK (r : AR) (m v : Nat) : AR := (aM r, fun k => if k = m then v else aK r k, aP r, aI r, aS r, aT r, aH r, aN r)
theorem sK_WF {r : AR} {m v : Nat} (hw : WF r) (hv : v ≤ 4) : WF (sK r m v) := by
  refine ⟨hw.1, fun k hk => ⟨?_, (hw.2.1 k hk).2⟩, hw.2.2.1, hw.2.2.2.1, hw.2.2.2.2.1, hw.2.2.2.2.2.1, hw.2.2.2.2.2.2⟩
  show (if k = m then v else aK r k) ≤ 4
  split
  · exact hv
  · exact (hw.2.1 k hk).1
theorem cK_up {r : AR} {K : Nat → Int32} {m v : Nat} (hm : m < aM r) : upd (cK r K) m (nI v) = cK (sK r m v) K := by
  funext k
  by_cases e : k = m
  · subst e
    rw [upd_eq, cK_at (r := sK r k v) hm]
    show nI v = nI (if k = k then v else aK r k)
    rw [if_pos rfl]
  · rw [upd_ne e]
    show (if k < aM r then nI (aK r k) else K k) = (if k < aM r then nI (if k = m then v else aK r k) else K k)
    rw [if_neg e]
theorem cN_upK {r : AR} {N : Nat → Int32} {m v : Nat} (hm : m < aM r) : upd (cN r N) (6 + 3 * m) (nI v) = cN (sK r m v) N := by
  refine cN_ext ?_ ?_ ?_ ?_ ?_ (fun k hk => ?_) (fun k hk => ?_) (fun k hk => ?_) (fun j hj => ?_)
  · rw [upd_ne (by omega)]; rfl
  · rw [upd_ne (by omega)]; rfl
  · rw [upd_ne (by omega)]; rfl
  · rw [upd_ne (by omega)]; rfl
  · rw [upd_ne (by omega)]; rfl
  · have hk : k < aM r := hk
    show _ = nI (if k = m then v else aK r k)
    by_cases e : k = m
    · subst e; rw [upd_eq, if_pos rfl]
    · rw [upd_ne (by omega), if_neg e, cN_k hk]
  · have hk : k < aM r := hk
    rw [upd_ne (by omega), cN_p hk]; rfl
  · have hk : k < aM r := hk
    rw [upd_ne (by omega), cN_i hk]; rfl
  · have hj : j = 5 ∨ 6 + 3 * aM r ≤ j := hj
    rw [upd_ne (by omega)]
    unfold cN
    rw [if_neg (by omega), if_neg (by omega), if_neg (by omega), if_neg (by omega), if_neg (by omega), if_neg (by omega)]
theorem or0 (a : Nat) : nI a ||| 0 = nI a := by rw [show (0 : Int32) = nI 0 from rfl, fa_or, Nat.or_zero]
theorem kinds_C {r : AR} {d : Int32} {P I K : Nat → Int32} {X : Nat → Int64} {F m i n : Nat} (hw : WF r) (hN : aN r ≤ 9999) (hF : 100000 ≤ F) (hm : m < aM r) (hi : i + n ≤ 24) (t1 t2 : Nat → Int32) (t3 t4 : Int32) (t5 : Nat → Int32) (t6 t7 t8 t9 : Int32) :
    ∃ s : RT10, s.1 = nI (sb (fun v => wb (sK r m v) m (fun k => X (i + k)) n) 5) ∧ m_X1_kindsWorn F t1 t2 t3 t4 t5 t6 t7 t8 t9 (cP r P) (cI r I) (nI (aN r)) d (cK r K) (nI (aM r)) (nI (aS r)) (nI (aT r)) (nI (aH r)) X (nI i) (nI n) (nI m) = some s := by
  have hM := hw.1
  unfold m_X1_kindsWorn
  refine loopTo (fun k x (s : RT10) => m_X1_kindsWorn_L6 (cP r P) (cI r I) (nI (aN r)) d (cK r K) (nI (aM r)) (nI (aS r)) (nI (aT r)) (nI (aH r)) X (nI i) (nI n) (nI m) F (fun w14 w15 w16 w17 w18 w19 w20 w21 w22 w23 => some (w14, w15, w16, w17, w18, w19, w20, w21, w22, w23)) k x s.1 s.2.1 s.2.2.1 s.2.2.2.1 s.2.2.2.2.1 s.2.2.2.2.2.1 s.2.2.2.2.2.2.1 s.2.2.2.2.2.2.2.1 s.2.2.2.2.2.2.2.2.1 s.2.2.2.2.2.2.2.2.2)
    (fun s => some s) (fun j s => s.1 = nI (sb (fun v => wb (sK r m v) m (fun k => X (i + k)) n) j)) 5 (fun k s h => ?_) (fun k v s hv h => ?_) 5 F 0 (0, t1, t2, t3, t4, t5, t6, t7, t8, t9) (by omega) (by omega) rfl
  · show m_X1_kindsWorn_L6s _ _ _ _ _ _ _ _ _ _ _ _ _ _ _ _ _ _ _ _ _ _ _ _ _ _ _ = _
    unfold m_X1_kindsWorn_L6s
    rw [if_pos (by decide)]
  · obtain ⟨am, a1, a2, a3, a4, a5, a6, a7, a8, a9⟩ := s
    have h1 : am = nI (sb (fun v => wb (sK r m v) m (fun k => X (i + k)) n) v) := h
    subst h1
    obtain ⟨P2, I2, K2, e1⟩ := takeAll_C (d := d) (P := P) (I := I) (K := K) hM a1 a2 a3 a4 a5 a6 a7 a8 a9
    have hw2 := sK_WF (m := m) (v := v) hw (by omega)
    obtain ⟨⟨T0, T1, T2, T3⟩, e2, e3⟩ := wears_C (q := sK r m v) (P := P2) (I := I2) (K := K2) (X := X) (i := i) (n := n) hw2 (by show aN r + n < 100000; omega) hF hm hi
    have e3 : T0 = bI (wb (sK r m v) m (fun k => X (i + k)) n) := e3
    subst e3
    refine ⟨(nI (sb (fun v => wb (sK r m v) m (fun k => X (i + k)) n) (v + 1)), T1, T2, T3, d, cK (sK r m v) K2, nI (aM r), nI (aS r), nI (aT r), nI (aH r)), rfl, ?_⟩
    show m_X1_kindsWorn_L6s _ _ _ _ _ _ _ _ _ _ _ _ _ _ _ _ _ _ _ _ _ _ _ _ _ _ _ = _
    unfold m_X1_kindsWorn_L6s
    rw [if_neg (fun q => by have := (nI_ltI (a := 4) (b := v) (by decide) (by omega)).mp q; omega), e1]
    simp only [Option.bind_some, cR]
    rw [chk_nI _ (by omega) (by decide), cl (by omega), cK_up hm]
    change m_X1_wearsAs F (cP r P2) (cI r I2) (nI (aN r)) (cK (sK r m v) K2) (nI (aM r)) (nI (aS r)) (nI (aT r)) (nI (aH r)) X (nI i) (nI n) (nI m) = _ at e2
    rw [e2]
    simp only [Option.bind_some, ib0, bnd, nI_1, or0]
    rw [sh1 v (by omega), fa_or]
    cases hs : wb (sK r m v) m (fun k => X (i + k)) n
    · simp only [sb, hs]; rfl
    · simp only [sb, hs]; rfl
theorem paints_C {r : AR} {d : Int32} {P I K : Nat → Int32} {X : Nat → Int64} {F m i n : Nat} (hw : WF r) (hN : aN r ≤ 9999) (hF : 100000 ≤ F) (hm : m < aM r) (hi : i + n ≤ 24) (t1 t2 : Nat → Int32) (t3 t4 : Int32) (t5 : Nat → Int32) (t6 t7 t8 t9 : Int32) :
    ∃ s : RT10, s.1 = nI (sb (fun v => wb (sP r m v) m (fun k => X (i + k)) n) 10) ∧ m_X1_paintsWorn F t1 t2 t3 t4 t5 t6 t7 t8 t9 (cP r P) (cI r I) (nI (aN r)) d (cK r K) (nI (aM r)) (nI (aS r)) (nI (aT r)) (nI (aH r)) X (nI i) (nI n) (nI m) = some s := by
  have hM := hw.1
  unfold m_X1_paintsWorn
  refine loopTo (fun k x (s : RT10) => m_X1_paintsWorn_L6 (cP r P) (cI r I) (nI (aN r)) d (cK r K) (nI (aM r)) (nI (aS r)) (nI (aT r)) (nI (aH r)) X (nI i) (nI n) (nI m) F (fun w14 w15 w16 w17 w18 w19 w20 w21 w22 w23 => some (w14, w15, w16, w17, w18, w19, w20, w21, w22, w23)) k x s.1 s.2.1 s.2.2.1 s.2.2.2.1 s.2.2.2.2.1 s.2.2.2.2.2.1 s.2.2.2.2.2.2.1 s.2.2.2.2.2.2.2.1 s.2.2.2.2.2.2.2.2.1 s.2.2.2.2.2.2.2.2.2)
    (fun s => some s) (fun j s => s.1 = nI (sb (fun v => wb (sP r m v) m (fun k => X (i + k)) n) j)) 10 (fun k s h => ?_) (fun k v s hv h => ?_) 10 F 0 (0, t1, t2, t3, t4, t5, t6, t7, t8, t9) (by omega) (by omega) rfl
  · show m_X1_paintsWorn_L6s _ _ _ _ _ _ _ _ _ _ _ _ _ _ _ _ _ _ _ _ _ _ _ _ _ _ _ = _
    unfold m_X1_paintsWorn_L6s
    rw [if_pos (by decide)]
  · obtain ⟨am, a1, a2, a3, a4, a5, a6, a7, a8, a9⟩ := s
    have h1 : am = nI (sb (fun v => wb (sP r m v) m (fun k => X (i + k)) n) v) := h
    subst h1
    obtain ⟨P2, I2, K2, e1⟩ := takeAll_C (d := d) (P := P) (I := I) (K := K) hM a1 a2 a3 a4 a5 a6 a7 a8 a9
    have hw2 := sP_WF (m := m) (v := v) hw (by omega)
    obtain ⟨⟨T0, T1, T2, T3⟩, e2, e3⟩ := wears_C (q := sP r m v) (P := P2) (I := I2) (K := K2) (X := X) (i := i) (n := n) hw2 (by show aN r + n < 100000; omega) hF hm hi
    have e3 : T0 = bI (wb (sP r m v) m (fun k => X (i + k)) n) := e3
    subst e3
    refine ⟨(nI (sb (fun v => wb (sP r m v) m (fun k => X (i + k)) n) (v + 1)), T1, T2, T3, d, cK r K2, nI (aM r), nI (aS r), nI (aT r), nI (aH r)), rfl, ?_⟩
    show m_X1_paintsWorn_L6s _ _ _ _ _ _ _ _ _ _ _ _ _ _ _ _ _ _ _ _ _ _ _ _ _ _ _ = _
    unfold m_X1_paintsWorn_L6s
    rw [if_neg (fun q => by have := (nI_ltI (a := 9) (b := v) (by decide) (by omega)).mp q; omega), e1]
    simp only [Option.bind_some, cR]
    rw [chk_nI _ (by omega) (by decide), cl (by omega), cP_up hm]
    change m_X1_wearsAs F (cP (sP r m v) P2) (cI r I2) (nI (aN r)) (cK r K2) (nI (aM r)) (nI (aS r)) (nI (aT r)) (nI (aH r)) X (nI i) (nI n) (nI m) = _ at e2
    rw [e2]
    simp only [Option.bind_some, ib0, bnd, nI_1, or0]
    rw [sh1 v (by omega), fa_or]
    cases hs : wb (sP r m v) m (fun k => X (i + k)) n
    · simp only [sb, hs]; rfl
    · simp only [sb, hs]; rfl
theorem heights_C {r : AR} {d : Int32} {P I K : Nat → Int32} {X : Nat → Int64} {F m i n : Nat} (hw : WF r) (hN : aN r ≤ 9999) (hF : 100000 ≤ F) (hm : m < aM r) (hi : i + n ≤ 24) (t1 t2 : Nat → Int32) (t3 t4 : Int32) (t5 : Nat → Int32) (t6 t7 t8 t9 : Int32) :
    ∃ s : RT10, s.1 = nI (sb (fun v => wb (sH r v) m (fun k => X (i + k)) n) 13) ∧ m_X1_heightsWorn F t1 t2 t3 t4 t5 t6 t7 t8 t9 (cP r P) (cI r I) (nI (aN r)) d (cK r K) (nI (aM r)) (nI (aS r)) (nI (aT r)) (nI (aH r)) X (nI i) (nI n) (nI m) = some s := by
  have hM := hw.1
  unfold m_X1_heightsWorn
  refine loopTo (fun k x (s : RT10) => m_X1_heightsWorn_L6 (cP r P) (cI r I) (nI (aN r)) d (cK r K) (nI (aM r)) (nI (aS r)) (nI (aT r)) (nI (aH r)) X (nI i) (nI n) (nI m) F (fun w14 w15 w16 w17 w18 w19 w20 w21 w22 w23 => some (w14, w15, w16, w17, w18, w19, w20, w21, w22, w23)) k x s.1 s.2.1 s.2.2.1 s.2.2.2.1 s.2.2.2.2.1 s.2.2.2.2.2.1 s.2.2.2.2.2.2.1 s.2.2.2.2.2.2.2.1 s.2.2.2.2.2.2.2.2.1 s.2.2.2.2.2.2.2.2.2)
    (fun s => some s) (fun j s => s.1 = nI (sb (fun v => wb (sH r v) m (fun k => X (i + k)) n) j)) 13 (fun k s h => ?_) (fun k v s hv h => ?_) 13 F 0 (0, t1, t2, t3, t4, t5, t6, t7, t8, t9) (by omega) (by omega) rfl
  · show m_X1_heightsWorn_L6s _ _ _ _ _ _ _ _ _ _ _ _ _ _ _ _ _ _ _ _ _ _ _ _ _ _ _ = _
    unfold m_X1_heightsWorn_L6s
    rw [if_pos (by decide)]
  · obtain ⟨am, a1, a2, a3, a4, a5, a6, a7, a8, a9⟩ := s
    have h1 : am = nI (sb (fun v => wb (sH r v) m (fun k => X (i + k)) n) v) := h
    subst h1
    obtain ⟨P2, I2, K2, e1⟩ := takeAll_C (d := d) (P := P) (I := I) (K := K) hM a1 a2 a3 a4 a5 a6 a7 a8 a9
    have hw2 := sH_WF (v := v) hw (by omega)
    obtain ⟨⟨T0, T1, T2, T3⟩, e2, e3⟩ := wears_C (q := sH r v) (P := P2) (I := I2) (K := K2) (X := X) (i := i) (n := n) hw2 (by show aN r + n < 100000; omega) hF hm hi
    have e3 : T0 = bI (wb (sH r v) m (fun k => X (i + k)) n) := e3
    subst e3
    refine ⟨(nI (sb (fun v => wb (sH r v) m (fun k => X (i + k)) n) (v + 1)), T1, T2, T3, d, cK r K2, nI (aM r), nI (aS r), nI (aT r), nI v), rfl, ?_⟩
    show m_X1_heightsWorn_L6s _ _ _ _ _ _ _ _ _ _ _ _ _ _ _ _ _ _ _ _ _ _ _ _ _ _ _ = _
    unfold m_X1_heightsWorn_L6s
    rw [if_neg (fun q => by have := (nI_ltI (a := 12) (b := v) (by decide) (by omega)).mp q; omega), e1]
    simp only [Option.bind_some, cR]
    change m_X1_wearsAs F (cP r P2) (cI r I2) (nI (aN r)) (cK r K2) (nI (aM r)) (nI (aS r)) (nI (aT r)) (nI v) X (nI i) (nI n) (nI m) = _ at e2
    rw [e2]
    simp only [Option.bind_some, ib0, bnd, nI_1, or0]
    rw [sh1 v (by omega), fa_or]
    cases hs : wb (sH r v) m (fun k => X (i + k)) n
    · simp only [sb, hs]; rfl
    · simp only [sb, hs]; rfl
theorem worn_M {r : AR} {N A : Nat → Int32} {mx : Nat → Int64} {F m s i n c y : Nat} {p5 : Int32} {qv : Nat → AR} (hw : WF r) (hN : aN r ≤ 9999) (hF : 100000 ≤ F) (hm : m < aM r) (hs : s < 4) (hi : i + n ≤ 24) (hA : ∀ j, j < 24 → A j = cN r N j) (hy : y < 24) (hc : c ≤ 13)
    (hp : ∀ (x : Int32) (k : Int32 → Int32 → Option (Int32 × (Nat → Int32) × (Nat → Int32))), (if p5 = 0 then k x 5 else (if p5 = 1 then k x 10 else k x 13)) = k x (nI c))
    (hq : ∀ v, v < c → upd (cN r N) y (nI v) = cN (qv v) N ∧ WF (qv v) ∧ aM (qv v) = aM r ∧ aN (qv v) = aN r) (k : Int32 → (Nat → Int32) → Option (Int32 × (Nat → Int32) × (Nat → Int32))) :
    m_X9_worn_L101 mx (nI m) (nI s) (nI i) (nI n) p5 F (nI y) A k F 0 0 (cN r N) = k (nI (sb (fun v => wb (qv v) m (fun k => mx (24 * s + i + k)) n) c)) (cN r N) := by
  have hM := hw.1
  refine loopUp (fun a x (t : Int32 × (Nat → Int32)) => m_X9_worn_L101 mx (nI m) (nI s) (nI i) (nI n) p5 F (nI y) A k a x t.1 t.2) _ (fun j => (nI (sb (fun v => wb (qv v) m (fun k => mx (24 * s + i + k)) n) j), cN r N)) c (fun a => ?_) (fun a v hv => ?_) c F 0 (by omega) (by omega)
  · show m_X9_worn_L101s _ _ _ _ _ _ _ _ _ _ _ _ _ _ = _
    unfold m_X9_worn_L101s
    simp only [jn]
    refine Eq.trans (hp (nI c) (fun x23 x24 => if x24 ≤ x23 then _ else _)) ?_
    rw [if_pos (nIle (by omega) (by omega) (Nat.le_refl _))]
  · show m_X9_worn_L101s _ _ _ _ _ _ _ _ _ _ _ _ _ _ = _
    unfold m_X9_worn_L101s
    simp only [jn]
    refine Eq.trans (hp (nI v) (fun x23 x24 => if x24 ≤ x23 then _ else _)) ?_
    obtain ⟨q1, q2, q3, q4⟩ := hq v hv
    rw [if_neg (nInle (by omega) (by omega) hv), chk_nI _ hy (by decide), cl (by omega), q1, ix24, isSo_M (r := r) q2 (by omega) hF (by omega) (by omega) hM hA]
    simp only [Option.bind_some, ib0, bnd, nI_1, or0]
    rw [sh1 v (by omega), fa_or]
    cases hs : wb (qv v) m (fun k => mx (24 * s + i + k)) n
    · rw [show sb (fun v => wb (qv v) m (fun k => mx (24 * s + i + k)) n) (v + 1) = sb (fun v => wb (qv v) m (fun k => mx (24 * s + i + k)) n) v from by simp only [sb, hs]; rfl]; rfl
    · rw [show sb (fun v => wb (qv v) m (fun k => mx (24 * s + i + k)) n) (v + 1) = sb (fun v => wb (qv v) m (fun k => mx (24 * s + i + k)) n) v ||| 2 ^ v from by simp only [sb, hs]; rfl]; rfl
theorem S_worn {r : AR} {d : Int32} {P I K N A : Nat → Int32} {F : Nat} {RL RS rf rm : Nat → Int32} {RX : Nat → Nat → Int64} {ml ms : Nat → Int32} {mx : Nat → Int64} (hw : WF r) (hN : aN r ≤ 9999) (hF : 100000 ≤ F) (h : RWS RL RS RX ml ms mx) (a b c e f g : Int32) (t1 t2 : Nat → Int32) (t3 t4 : Int32) (t5 : Nat → Int32) (t6 t7 t8 t9 : Int32) :
    ∃ v a1 a2 a3 a4 a5 a6 a7 a8 a9 rf2 rm2 A2, m_X8_worn F (cP r P) (cI r I) (nI (aN r)) d (cK r K) (nI (aM r)) (nI (aS r)) (nI (aT r)) (nI (aH r)) t1 t2 t3 t4 t5 t6 t7 t8 t9 RX RL RS rf rm a b c e f g = some (v, a1, a2, a3, a4, a5, a6, a7, a8, a9, rf2, rm2) ∧ m_X9_worn F (cN r N) A ml ms mx a b c e f g = some (v, cN r N, A2) := by
  have hM := hw.1
  unfold m_X8_worn m_X9_worn
  simp only [isMan_C, isMan_M, cN_0, isSheet_C, isSheet_M, isLane_C, isLane_M, within_C, in18, in02, Option.bind_some, ib0]
  cases h1 : wi a 0 (nI (aM r) - 1)
  · exact ⟨_, _, _, _, _, _, _, _, _, _, _, _, _, rfl, rfl⟩
  cases h2 : wi b 0 3
  · exact ⟨_, _, _, _, _, _, _, _, _, _, _, _, _, rfl, rfl⟩
  cases h3 : wi c 0 3
  · exact ⟨_, _, _, _, _, _, _, _, _, _, _, _, _, rfl, rfl⟩
  cases h4 : wi f 1 8
  · exact ⟨_, _, _, _, _, _, _, _, _, _, _, _, _, rfl, rfl⟩
  cases h5 : wi g 0 2
  · exact ⟨_, _, _, _, _, _, _, _, _, _, _, _, _, rfl, rfl⟩
  simp only [if_true]
  obtain ⟨m, hm, rfl⟩ := man_of hM h1
  obtain ⟨s, rfl, hs⟩ := sh_of h2
  obtain ⟨w, rfl, -, hw2⟩ := wi_nI (a := 0) (b := 2) (by decide) (by decide) h5
  simp only [chk_nI _ hs (by decide : (4 : Nat) < 2 ^ 31), cl (show s < 2 ^ 31 by omega)]
  obtain ⟨v, e1, e2, e3⟩ := ref_both h hs c e f
  rw [e1, e2]
  simp only [Option.bind_some]
  rcases e3 with ⟨rfl, l, z, i, n, hl, hz, q1, q2, q3, q4, q5, q6, rfl, rfl, q9⟩ | ⟨n1, n2⟩
  rotate_left
  · rw [if_neg n1, if_neg n2]; exact ⟨_, _, _, _, _, _, _, _, _, _, _, _, _, rfl, rfl⟩
  rw [if_pos rfl, if_pos (by decide), asides_M (by omega)]
  unfold m_X4_mark
  simp only [Option.bind_some, jn]
  have hx : ∀ k, k < n → RX s (i + k) = mx (24 * s + i + k) := fun k hk => by rw [q5 _ (by omega), Nat.add_assoc]
  rcases (show w = 0 ∨ w = 1 ∨ w = 2 by omega) with rfl | rfl | rfl
  · obtain ⟨⟨s0, a1, a2, a3, a4, a5, a6, a7, a8, a9⟩, f1, f2⟩ := kinds_C (d := d) (P := P) (I := I) (K := K) (X := RX s) (i := i) (n := n) hw hN hF hm (by omega) t1 t2 t3 t4 t5 t6 t7 t8 t9
    have f1 : s0 = _ := f1
    subst f1
    rw [if_pos (by decide), f2, if_neg (show ¬ nI 0 = 2 by decide), show (6 + 3 * nI m) + nI 0 = nI (6 + 3 * m) from ix3 m 0]
    rw [worn_M (qv := fun v => sK r m v) (c := 5) (y := 6 + 3 * m) (i := i) (n := n) (p5 := nI 0) hw hN hF hm hs (by omega) (aside_ok _ _) (by omega) (by omega) (fun x k => by rw [if_pos (by decide)]; rfl) (fun v hv => ⟨cN_upK hm, sK_WF hw (by omega), rfl, rfl⟩)]
    rw [sb_cong (c := fun v => wb (sK r m v) m (fun k => mx (24 * s + i + k)) n) (d := fun v => wb (sK r m v) m (fun k => RX s (i + k)) n) (fun v hv => wb_cong n (fun k hk => (hx k hk).symm))]
    exact ⟨_, _, _, _, _, _, _, _, _, _, _, _, _, rfl, rfl⟩
  · obtain ⟨⟨s0, a1, a2, a3, a4, a5, a6, a7, a8, a9⟩, f1, f2⟩ := paints_C (d := d) (P := P) (I := I) (K := K) (X := RX s) (i := i) (n := n) hw hN hF hm (by omega) t1 t2 t3 t4 t5 t6 t7 t8 t9
    have f1 : s0 = _ := f1
    subst f1
    rw [if_neg (by decide), if_pos (by decide), f2, if_neg (show ¬ nI 1 = 2 by decide), show (6 + 3 * nI m) + nI 1 = nI (6 + 3 * m + 1) from ix3 m 1]
    rw [worn_M (qv := fun v => sP r m v) (c := 10) (y := 6 + 3 * m + 1) (i := i) (n := n) (p5 := nI 1) hw hN hF hm hs (by omega) (aside_ok _ _) (by omega) (by omega) (fun x k => by rw [if_neg (by decide), if_pos (by decide)]; rfl) (fun v hv => ⟨cN_upP hm, sP_WF hw (by omega), rfl, rfl⟩)]
    rw [sb_cong (c := fun v => wb (sP r m v) m (fun k => mx (24 * s + i + k)) n) (d := fun v => wb (sP r m v) m (fun k => RX s (i + k)) n) (fun v hv => wb_cong n (fun k hk => (hx k hk).symm))]
    exact ⟨_, _, _, _, _, _, _, _, _, _, _, _, _, rfl, rfl⟩
  · obtain ⟨⟨s0, a1, a2, a3, a4, a5, a6, a7, a8, a9⟩, f1, f2⟩ := heights_C (d := d) (P := P) (I := I) (K := K) (X := RX s) (i := i) (n := n) hw hN hF hm (by omega) t1 t2 t3 t4 t5 t6 t7 t8 t9
    have f1 : s0 = _ := f1
    subst f1
    rw [if_neg (by decide), if_neg (by decide), f2, if_pos (show nI 2 = 2 by decide)]
    rw [show (4 : Int32) = nI 4 from rfl, worn_M (qv := fun v => sH r v) (c := 13) (y := 4) (i := i) (n := n) (p5 := nI 2) hw hN hF hm hs (by omega) (aside_ok _ _) (by omega) (by omega) (fun x k => by rw [if_neg (by decide), if_neg (by decide)]; rfl) (fun v hv => ⟨cN_law (r := r) (N := N) (q := sH r v) (k := 4) (x := nI v) (by omega) rfl rfl rfl rfl rfl rfl rfl rfl, sH_WF hw (by omega), rfl, rfl⟩)]
    rw [sb_cong (c := fun v => wb (sH r v) m (fun k => mx (24 * s + i + k)) n) (d := fun v => wb (sH r v) m (fun k => RX s (i + k)) n) (fun v hv => wb_cong n (fun k hk => (hx k hk).symm))]
    exact ⟨_, _, _, _, _, _, _, _, _, _, _, _, _, rfl, rfl⟩
theorem wr_all : ∀ v, v ≤ 9 → (((nI v).toInt64.toInt32).toInt8.toInt32).toInt64 = (nI v).toInt64 ∧ (((nI v).toInt64.toInt32).toInt16.toInt32).toInt64 = (nI v).toInt64 ∧ ((nI v).toInt64.toInt32).toInt64 = (nI v).toInt64 := by decide +kernel
theorem write_C {w : Nat → Int64} {l : Int32} {p v : Nat} (hp : p < 24) (hv : v ≤ 9) : m_X4_write w l (nI p) ((nI v).toInt64) = some (vp_updL w p ((nI v).toInt64)) := by
  unfold m_X4_write
  obtain ⟨w1, w2, w3⟩ := wr_all v hv
  simp only [chk_nI _ hp (by decide : (24 : Nat) < 2 ^ 31), cl (show p < 2 ^ 31 by omega), w1, w2, w3, ite_self]
def FL9 (r : AR) (m i : Nat) (X : Nat → Int64) (j : Nat) (g : Nat → Int64) : Prop := (∀ k, k < j → g (i + k) = (nI (aP (ntn r (k + 1)) m)).toInt64) ∧ ∀ p, (p < i ∨ i + j ≤ p) → g p = X p
theorem FL9_step {r : AR} {m i j : Nat} {X g : Nat → Int64} (h : FL9 r m i X j g) : FL9 r m i X (j + 1) (vp_updL g (i + j) ((nI (aP (ntn r (j + 1)) m)).toInt64)) := by
  refine ⟨fun k hk => ?_, fun p hp => ?_⟩
  · by_cases e : k = j
    · subst e; exact updL_eq
    · rw [updL_ne (by omega)]; exact h.1 k (by omega)
  · rw [updL_ne (by omega)]; exact h.2 p (by omega)
theorem film_C {r : AR} {d l : Int32} {P I K : Nat → Int32} {X : Nat → Int64} {F m i n : Nat} (hw : WF r) (hN : aN r ≤ 9999) (hF : 100000 ≤ F) (hm : m < aM r) (hi : i + n ≤ 24) (t1 t2 : Nat → Int32) (t3 t4 : Int32) (t5 : Nat → Int32) (t6 t7 t8 t9 : Int32) :
    ∃ a1 a2 a3 a4 a5 a6 a7 a8 a9 g, m_X1_filmPaint F t1 t2 t3 t4 t5 t6 t7 t8 t9 (cP r P) (cI r I) (nI (aN r)) d (cK r K) (nI (aM r)) (nI (aS r)) (nI (aT r)) (nI (aH r)) X l (nI i) (nI n) (nI m) = some (a1, a2, a3, a4, a5, a6, a7, a8, a9, g) ∧ FL9 r m i X n g := by
  have hM := hw.1
  obtain ⟨P2, I2, K2, e1⟩ := takeAll_C (d := d) (P := P) (I := I) (K := K) hM t1 t2 t3 t4 t5 t6 t7 t8 t9
  unfold m_X1_filmPaint
  rw [e1]
  simp only [Option.bind_some, cR]
  obtain ⟨⟨s1, s2, s3, s4⟩, ⟨-, h2⟩, h3⟩ := loopTo (fun a x (s : (Nat → Int32) × (Nat → Int32) × Int32 × (Nat → Int64)) => m_X1_filmPaint_L11 l (nI i) (nI n) (nI m) F (cP r P2, cI r I2, nI (aN r), d, cK r K2, nI (aM r), nI (aS r), nI (aT r), nI (aH r)) (fun w7 w8 w9 w10 => some (w7, w8, w9, d, cK r K2, nI (aM r), nI (aS r), nI (aT r), nI (aH r), w10)) a x s.1 s.2.1 s.2.2.1 s.2.2.2)
    (fun s => some (s.1, s.2.1, s.2.2.1, d, cK r K2, nI (aM r), nI (aS r), nI (aT r), nI (aH r), s.2.2.2)) (fun j s => (s.1 = cP (ntn r j) P2 ∧ s.2.1 = cI (ntn r j) I2 ∧ s.2.2.1 = nI (aN r + j)) ∧ FL9 r m i X j s.2.2.2) n (fun a s h => by
      show m_X1_filmPaint_L11s _ _ _ _ _ _ _ _ _ _ _ _ _ = _
      unfold m_X1_filmPaint_L11s
      rw [if_pos (nIle (by omega) (by omega) (Nat.le_refl _))]) (fun a j s hj h => by
      obtain ⟨s1, s2, s3, s4⟩ := s
      obtain ⟨⟨h1, h2, h3⟩, h4⟩ := h
      have h1 : s1 = cP (ntn r j) P2 := h1
      have h2 : s2 = cI (ntn r j) I2 := h2
      have h3 : s3 = nI (aN r + j) := h3
      subst h1 h2 h3
      have hm' : m < aM (ntn r (j + 1)) := by rw [ntn_M]; exact hm
      have hp := ((ntn_WF hw (j + 1) (by omega)).2.1 m hm').2.1
      refine ⟨(cP (ntn r (j + 1)) P2, cI (ntn r (j + 1)) I2, nI (aN r + j + 1), vp_updL s4 (i + j) ((nI (aP (ntn r (j + 1)) m)).toInt64)), ⟨⟨rfl, rfl, rfl⟩, FL9_step h4⟩, ?_⟩
      show m_X1_filmPaint_L11s _ _ _ _ _ _ _ _ _ _ _ _ _ = _
      unfold m_X1_filmPaint_L11s
      rw [if_neg (nInle (by omega) (by omega) hj)]
      simp only
      rw [passNightK_C hw (by omega) (by omega)]
      simp only [Option.bind_some, bnd, nI_1]
      rw [chk_nI _ (by omega) (by decide), cl (by omega), cP_at hm', nI_add, write_C (by omega) hp]
      simp only [Option.bind_some]) n F 0 (cP r P2, cI r I2, nI (aN r), X) (by omega) (by omega) ⟨⟨rfl, rfl, rfl⟩, fun k hk => absurd hk (Nat.not_lt_zero k), fun _ _ => rfl⟩
  exact ⟨_, _, _, _, _, _, _, _, _, _, h3, h2⟩
theorem film_M {r : AR} {N A : Nat → Int32} {mx : Nat → Int64} {F m s i n : Nat} {p1 : Int32} (hp1 : p1 = nI n) (hw : WF r) (hN : aN r ≤ 9999) (hF : 100000 ≤ F) (hm : m < aM r) (hs : s < 4) (hi : i + n ≤ 24) (hA : ∀ j, j < 24 → A j = cN r N j) :
    ∃ g, m_X9_film_L64 (nI m) (nI n) (nI s) (nI i) F (fun w15 w16 => (m_X9_backs F w15 A).bind (fun v17 => some (p1, v17, A, w16))) F 0 (cN r N) mx = some (p1, cN r N, A, g) ∧ FL9 r m (24 * s + i) mx n g := by
  have hM := hw.1
  obtain ⟨⟨s1, s2⟩, ⟨h1, h2⟩, h3⟩ := loopTo (fun a x (t : (Nat → Int32) × (Nat → Int64)) => m_X9_film_L64 (nI m) (nI n) (nI s) (nI i) F (fun w15 w16 => (m_X9_backs F w15 A).bind (fun v17 => some (p1, v17, A, w16))) a x t.1 t.2)
    (fun t => (m_X9_backs F t.1 A).bind (fun v17 => some (p1, v17, A, t.2))) (fun j t => t.1 = cN (ntn r j) N ∧ FL9 r m (24 * s + i) mx j t.2) n (fun a t h => by
      show m_X9_film_L64s _ _ _ _ _ _ _ _ _ _ = _
      unfold m_X9_film_L64s
      rw [if_pos (nIle (by omega) (by omega) (Nat.le_refl _))]) (fun a j t hj h => by
      obtain ⟨s1, s2⟩ := t
      obtain ⟨h1, h4⟩ := h
      have h1 : s1 = cN (ntn r j) N := h1
      subst h1
      have hm' : m < aM (nt (ntn r j)) := by show m < aM (ntn r j); rw [ntn_M]; exact hm
      refine ⟨(cN (ntn r (j + 1)) N, vp_updL s2 (24 * s + i + j) ((nI (aP (ntn r (j + 1)) m)).toInt64)), ⟨rfl, FL9_step h4⟩, ?_⟩
      show m_X9_film_L64s _ _ _ _ _ _ _ _ _ _ = _
      unfold m_X9_film_L64s
      rw [if_neg (nInle (by omega) (by omega) hj)]
      simp only
      rw [night_M (ntn_WF hw j (by omega)) (by omega)]
      simp only [Option.bind_some, bnd, nI_1]
      rw [paintOf_M (by omega), cN_p hm', ix24, nI_add]
      simp only [Option.bind_some]
      rw [chk_nI _ (by omega) (by decide), cl (by omega)]
      rfl) n F 0 (cN r N, mx) (by omega) (by omega) ⟨rfl, fun k hk => absurd hk (Nat.not_lt_zero k), fun _ _ => rfl⟩
  have h1 : s1 = cN (ntn r n) N := h1
  subst h1
  refine ⟨s2, ?_, h2⟩
  refine Eq.trans h3 ?_
  simp only
  rw [backs_M (r := r) (by omega) hM (by rw [ntn_M]; exact hM) hA]
  rfl
theorem S_film {r : AR} {d : Int32} {P I K N A : Nat → Int32} {F : Nat} {RL RS rf rm : Nat → Int32} {RX : Nat → Nat → Int64} {ml ms : Nat → Int32} {mx : Nat → Int64} (hw : WF r) (hN : aN r ≤ 9999) (hF : 100000 ≤ F) (h : RWS RL RS RX ml ms mx) (a b c e f : Int32) (t1 t2 : Nat → Int32) (t3 t4 : Int32) (t5 : Nat → Int32) (t6 t7 t8 t9 : Int32) :
    ∃ v a1 a2 a3 a4 a5 a6 a7 a8 a9 RX2 rf2 rm2 A2 mx2, m_X8_film F (cP r P) (cI r I) (nI (aN r)) d (cK r K) (nI (aM r)) (nI (aS r)) (nI (aT r)) (nI (aH r)) t1 t2 t3 t4 t5 t6 t7 t8 t9 RX RL RS rf rm a b c e f = some (v, a1, a2, a3, a4, a5, a6, a7, a8, a9, RX2, rf2, rm2) ∧ m_X9_film F (cN r N) A ml ms mx a b c e f = some (v, cN r N, A2, mx2) ∧ RWS RL RS RX2 ml ms mx2 := by
  have hM := hw.1
  unfold m_X8_film m_X9_film
  simp only [isMan_C, isMan_M, cN_0, isSheet_C, isSheet_M, isLane_C, isLane_M, within_C, in124, Option.bind_some, ib0]
  cases h1 : wi a 0 (nI (aM r) - 1)
  · exact ⟨_, _, _, _, _, _, _, _, _, _, _, _, _, _, _, rfl, rfl, h⟩
  cases h4 : wi b 1 24
  · exact ⟨_, _, _, _, _, _, _, _, _, _, _, _, _, _, _, rfl, rfl, h⟩
  cases h2 : wi c 0 3
  · exact ⟨_, _, _, _, _, _, _, _, _, _, _, _, _, _, _, rfl, rfl, h⟩
  cases h3 : wi e 0 3
  · exact ⟨_, _, _, _, _, _, _, _, _, _, _, _, _, _, _, rfl, rfl, h⟩
  simp only [if_true]
  obtain ⟨m, hm, rfl⟩ := man_of hM h1
  obtain ⟨s, rfl, hs⟩ := sh_of h2
  simp only [chk_nI _ hs (by decide : (4 : Nat) < 2 ^ 31), cl (show s < 2 ^ 31 by omega)]
  obtain ⟨v, e1, e2, e3⟩ := ref_both h hs e f b
  rw [e1, e2]
  simp only [Option.bind_some]
  rcases e3 with ⟨rfl, l, z, i, n, hl, hz, q1, q2, q3, q4, q5, q6, rfl, rfl, q9⟩ | ⟨n1, n2⟩
  rotate_left
  · rw [if_neg n1, if_neg n2]; exact ⟨_, _, _, _, _, _, _, _, _, _, _, _, _, _, _, rfl, rfl, h⟩
  rw [if_pos rfl, if_pos (by decide), asides_M (by omega)]
  unfold m_X4_mark
  simp only [Option.bind_some]
  obtain ⟨a1, a2, a3, a4, a5, a6, a7, a8, a9, g, f1, f2⟩ := film_C (d := d) (l := RL s) (P := P) (I := I) (K := K) (X := RX s) (i := i) (n := n) hw hN hF hm (by omega) t1 t2 t3 t4 t5 t6 t7 t8 t9
  obtain ⟨y, y1, y2⟩ := film_M (mx := mx) (s := s) (i := i) (n := n) rfl hw hN hF hm hs (by omega) (aside_ok (cN r N) A)
  rw [f1, y1]
  refine ⟨_, _, _, _, _, _, _, _, _, _, _, _, _, _, _, rfl, rfl, fun t ht => ?_⟩
  by_cases et : t = s
  · subst et
    refine Or.inr ⟨l, z, hl, hz, q1, q2, q3, q4, fun j hj => ?_⟩
    rw [vu_eq]
    by_cases ej : i ≤ j ∧ j < i + n
    · have w1 := f2.1 (j - i) (by omega)
      have w2 := y2.1 (j - i) (by omega)
      rw [show i + (j - i) = j by omega] at w1
      rw [show 24 * t + i + (j - i) = 24 * t + j by omega] at w2
      show g j = _
      rw [w1, w2]
    · show g j = _
      rw [f2.2 j (by omega), y2.2 _ (by omega)]; exact q5 j hj
  · rcases h t ht with w | ⟨l', z', w1, w2, w3, w4, w5, w6, w7⟩
    · exact Or.inl w
    · refine Or.inr ⟨l', z', w1, w2, w3, w4, w5, w6, fun j hj => ?_⟩
      rw [vu_ne et, y2.2 _ (by omega)]; exact w7 j hj
