/-! ===== PURE J: what is kept for an undo; march, put, paint ===== -/
theorem vu_eq {α : Type} {f : Nat → α} {i : Nat} {x : α} : va_up f i x i = x := if_pos rfl
theorem vu_ne {α : Type} {f : Nat → α} {i j : Nat} {x : α} (h : j ≠ i) : va_up f i x j = f j := if_neg h
def UE (r : AR) (cp ci : Nat → Int32) (cn cd : Int32) (U : Nat → Int32) (b : Nat) : Prop :=
  ∃ q : AR, WF q ∧ aN q ≤ 9999 ∧ 0 ≤ cd ∧ aM q = aM r ∧ aK q = aK r ∧ (∀ m, m < aM r → cp m = nI (aP q m) ∧ ci m = eC (aI q m)) ∧ cn = nI (aN q) ∧ U b = nI (aN q) ∧ U (b + 1) = cd ∧ (∀ m, m < aM r → U (b + 2 + m) = nI (aP q m) ∧ U (b + 8 + m) = eM (aI q m))
def ri (u x a : Nat) : Nat := (x + 8 - u + a) % 8
def UR (r : AR) (u x : Nat) (RP RI : Nat → Nat → Int32) (RN RD U : Nat → Int32) : Prop :=
  u ≤ 8 ∧ x < 8 ∧ ∀ a, a < u → UE r (RP (ri u x a)) (RI (ri u x a)) (RN (ri u x a)) (RD (ri u x a)) U (14 * a)
theorem UE_rim {r q : AR} {cp ci : Nat → Int32} {cn cd : Int32} {U : Nat → Int32} {b : Nat} (h1 : aM q = aM r) (h2 : aK q = aK r) (h : UE r cp ci cn cd U b) : UE q cp ci cn cd U b := by
  obtain ⟨z, a1, a2, a3, a4, a5, a6, a7, a8, a9, a10⟩ := h
  exact ⟨z, a1, a2, a3, by rw [a4, h1], by rw [a5, h2], by rw [h1]; exact a6, a7, a8, a9, by rw [h1]; exact a10⟩
theorem UR_rim {r q : AR} {u x : Nat} {RP RI : Nat → Nat → Int32} {RN RD U : Nat → Int32} (h1 : aM q = aM r) (h2 : aK q = aK r) (h : UR r u x RP RI RN RD U) : UR q u x RP RI RN RD U :=
  ⟨h.1, h.2.1, fun a ha => UE_rim h1 h2 (h.2.2 a ha)⟩
theorem UE_cong {r : AR} {cp ci cp' ci' : Nat → Int32} {cn cd : Int32} {U U' : Nat → Int32} {b b' : Nat} (hM : aM r ≤ 6) (h1 : ∀ m, m < 6 → cp' m = cp m) (h2 : ∀ m, m < 6 → ci' m = ci m) (h3 : ∀ i, i < 14 → U' (b' + i) = U (b + i)) (h : UE r cp ci cn cd U b) : UE r cp' ci' cn cd U' b' := by
  obtain ⟨z, a1, a2, a3, a4, a5, a6, a7, a8, a9, a10⟩ := h
  refine ⟨z, a1, a2, a3, a4, a5, fun m hm => ⟨by rw [h1 m (by omega)]; exact (a6 m hm).1, by rw [h2 m (by omega)]; exact (a6 m hm).2⟩, a7, ?_, ?_, fun m hm => ⟨?_, ?_⟩⟩
  · have := h3 0 (by omega); rw [Nat.add_zero, Nat.add_zero] at this; rw [this]; exact a8
  · rw [h3 1 (by omega)]; exact a9
  · have := h3 (2 + m) (by omega); rw [← Nat.add_assoc, ← Nat.add_assoc] at this; rw [this]; exact (a10 m hm).1
  · have := h3 (8 + m) (by omega); rw [← Nat.add_assoc, ← Nat.add_assoc] at this; rw [this]; exact (a10 m hm).2
/-- the reference's note -/
def nv (u : Nat) : Nat := if u = 8 then 8 else u + 1
theorem notes_M {w U : Nat → Int32} {F u : Nat} (hu : u ≤ 8) (hF : 1000 ≤ F) : ∃ U', m_X9_notes F w U (nI u) = some (U', nI (nv u)) ∧ U' (14 * (nv u - 1)) = w 1 ∧ U' (14 * (nv u - 1) + 1) = w 5 ∧ (∀ m, m < 6 → U' (14 * (nv u - 1) + 2 + m) = w (6 + 3 * m + 1) ∧ U' (14 * (nv u - 1) + 8 + m) = w (6 + 3 * m + 2)) ∧ (∀ i, i < 14 * (nv u - 1) → U' i = if u = 8 then U (i + 14) else U i) := by
  have tail : ∀ (V : Nat → Int32) (c : Nat), c ≤ 7 → ∃ U', (bnd (14 * nI c) (fun x3 => chk x3 112 (chk (x3 + 1) 112 (m_X9_notes_L81 w x3 (fun w8 => some (w8, nI c + 1)) F 0 (upd (upd V x3.toNatClampNeg (w 1)) (x3 + 1).toNatClampNeg (w 5)))))) = some (U', nI (c + 1)) ∧ U' (14 * c) = w 1 ∧ U' (14 * c + 1) = w 5 ∧ (∀ m, m < 6 → U' (14 * c + 2 + m) = w (6 + 3 * m + 1) ∧ U' (14 * c + 8 + m) = w (6 + 3 * m + 2)) ∧ (∀ i, i < 14 * c → U' i = V i) := by
    intro V c hc
    let W : Nat → Int32 := upd (upd V (14 * c) (w 1)) (14 * c + 1) (w 5)
    let f : Nat → Nat → Int32 := fun m i => if 14 * c + 2 ≤ i ∧ i < 14 * c + 2 + m then w (6 + 3 * (i - (14 * c + 2)) + 1) else if 14 * c + 8 ≤ i ∧ i < 14 * c + 8 + m then w (6 + 3 * (i - (14 * c + 8)) + 2) else W i
    refine ⟨f 6, ?_, ?_, ?_, fun m hm => ⟨?_, ?_⟩, fun i hi => ?_⟩
    · rw [show (14 : Int32) * nI c = nI (14 * c) by rw [show (14 : Int32) = nI 14 from rfl, pk_mul]]
      simp only [bnd, nI_1]
      rw [chk_nI _ (by omega) (by decide), chk_nI _ (by omega) (by decide), cl (by omega), cl (by omega)]
      have h0 : W = f 0 := by
        funext i
        show W i = if _ then _ else if _ then _ else W i
        rw [if_neg (by omega), if_neg (by omega)]
      change m_X9_notes_L81 w (nI (14 * c)) (fun w8 => some (w8, nI (c + 1))) F (nI 0) W = _
      rw [h0]
      refine loopUp (fun n x s => m_X9_notes_L81 w (nI (14 * c)) (fun w8 => some (w8, nI (c + 1))) n x s) _ f 6 (fun n => ?_) (fun n m hm => ?_) 6 F 0 (by omega) (by omega)
      · show m_X9_notes_L81s _ _ _ _ _ _ = _
        unfold m_X9_notes_L81s
        rw [if_pos (by decide)]
      · show m_X9_notes_L81s _ _ _ _ _ _ = _
        unfold m_X9_notes_L81s
        rw [if_neg (show ¬ (6 : Int32) ≤ nI m from nInle (a := 6) (by decide) (by omega) hm), paintOf_M hm, inchOf_M hm]
        simp only [Option.bind_some, bnd, nI_1]
        rw [show nI (14 * c) + 2 + nI m = nI (14 * c + 2 + m) by rw [show (2 : Int32) = nI 2 from rfl, nI_add, nI_add], show nI (14 * c) + 8 + nI m = nI (14 * c + 8 + m) by rw [show (8 : Int32) = nI 8 from rfl, nI_add, nI_add]]
        rw [chk_nI _ (by omega) (by decide), chk_nI _ (by omega) (by decide), cl (by omega), cl (by omega)]
        congr 1
        funext i
        by_cases e1 : i = 14 * c + 8 + m
        · subst e1
          rw [upd_eq]
          show _ = if _ then _ else if _ then _ else _
          rw [if_neg (by omega), if_pos (by omega)]; congr 2; omega
        · rw [upd_ne e1]
          by_cases e2 : i = 14 * c + 2 + m
          · subst e2
            rw [upd_eq]
            show _ = if _ then _ else _
            rw [if_pos (by omega)]; congr 2; omega
          · rw [upd_ne e2]
            show (if 14 * c + 2 ≤ i ∧ i < 14 * c + 2 + m then _ else if 14 * c + 8 ≤ i ∧ i < 14 * c + 8 + m then _ else _) = (if 14 * c + 2 ≤ i ∧ i < 14 * c + 2 + (m + 1) then _ else if 14 * c + 8 ≤ i ∧ i < 14 * c + 8 + (m + 1) then _ else _)
            by_cases e3 : 14 * c + 2 ≤ i ∧ i < 14 * c + 2 + m
            · rw [if_pos e3, if_pos (by omega)]
            · rw [if_neg e3, if_neg (show ¬ (14 * c + 2 ≤ i ∧ i < 14 * c + 2 + (m + 1)) by omega)]
              by_cases e4 : 14 * c + 8 ≤ i ∧ i < 14 * c + 8 + m
              · rw [if_pos e4, if_pos (by omega)]
              · rw [if_neg e4, if_neg (show ¬ (14 * c + 8 ≤ i ∧ i < 14 * c + 8 + (m + 1)) by omega)]
    · show (if _ then _ else if _ then _ else W (14 * c)) = _
      rw [if_neg (by omega), if_neg (by omega)]
      show upd (upd V (14 * c) (w 1)) (14 * c + 1) (w 5) (14 * c) = _
      rw [upd_ne (by omega), upd_eq]
    · show (if _ then _ else if _ then _ else W (14 * c + 1)) = _
      rw [if_neg (by omega), if_neg (by omega)]
      exact upd_eq
    · show (if _ then _ else _) = _
      rw [if_pos (by omega)]; congr 2; omega
    · show (if _ then _ else if _ then _ else _) = _
      rw [if_neg (by omega), if_pos (by omega)]; congr 2; omega
    · show (if _ then _ else if _ then _ else W i) = _
      rw [if_neg (by omega), if_neg (by omega)]
      show upd (upd V (14 * c) (w 1)) (14 * c + 1) (w 5) i = _
      rw [upd_ne (by omega), upd_ne (by omega)]
  unfold m_X9_notes
  simp only [jn]
  by_cases h8 : u = 8
  · subst h8
    rw [if_pos (by decide)]
    let g : Nat → Nat → Int32 := fun k i => if i + 14 < k then U (i + 14) else U i
    obtain ⟨U', h1, h2, h3, h4, h5⟩ := tail (g 112) 7 (by omega)
    refine ⟨U', ?_, h2, h3, h4, fun i hi => ?_⟩
    · have key := loopTo (fun n x s => m_X9_notes_L12 (fun w22 => (bnd (14 * 7) (fun x3 => chk x3 112 (chk (x3 + 1) 112 (m_X9_notes_L81 w x3 (fun w8 => some (w8, 7 + 1)) F 0 (upd (upd w22 x3.toNatClampNeg (w 1)) (x3 + 1).toNatClampNeg (w 5))))))) n x s) (fun w22 => (bnd (14 * 7) (fun x3 => chk x3 112 (chk (x3 + 1) 112 (m_X9_notes_L81 w x3 (fun w8 => some (w8, 7 + 1)) F 0 (upd (upd w22 x3.toNatClampNeg (w 1)) (x3 + 1).toNatClampNeg (w 5)))))))
        (fun k s => 14 ≤ k ∧ s = g k) 112 (fun n s h => ?_) (fun n k s hk h => ?_) 98 F 14 (g 14) (by omega) (by omega) ⟨by omega, rfl⟩
      · obtain ⟨s', ⟨-, rfl⟩, e⟩ := key
        have h0 : U = g 14 := by
          funext i
          show U i = if i + 14 < 14 then _ else U i
          rw [if_neg (by omega)]
        rw [show m_X9_notes_L12 _ F 14 U = m_X9_notes_L12 _ F 14 (g 14) by rw [← h0]]
        exact Eq.trans e h1
      · show m_X9_notes_L12s _ _ _ _ = _
        unfold m_X9_notes_L12s
        rw [if_pos (by decide)]
      · obtain ⟨h14, rfl⟩ := h
        refine ⟨_, ⟨by omega, rfl⟩, ?_⟩
        show m_X9_notes_L12s _ _ _ _ = _
        unfold m_X9_notes_L12s
        rw [if_neg (show ¬ (112 : Int32) ≤ nI k from nInle (a := 112) (by decide) (by omega) hk), show nI k - 14 = nI (k - 14) from by rw [show (14 : Int32) = nI 14 from rfl]; exact pk_sub (by omega), chk_nI _ (by omega) (by decide), chk_nI _ (by omega) (by decide), cl (by omega), cl (by omega)]
        simp only [bnd, nI_1]
        congr 1
        funext i
        by_cases e : i = k - 14
        · subst e
          rw [upd_eq]
          show (if k + 14 < k then _ else U k) = (if k - 14 + 14 < k + 1 then U (k - 14 + 14) else _)
          rw [if_neg (by omega), if_pos (by omega)]; congr 1; omega
        · rw [upd_ne e]
          show (if i + 14 < k then _ else _) = (if i + 14 < k + 1 then _ else _)
          by_cases e2 : i + 14 < k
          · rw [if_pos e2, if_pos (by omega)]
          · rw [if_neg e2, if_neg (by omega)]
    · rw [h5 i hi, if_pos rfl]
      have hi' : i < 98 := hi
      show (if i + 14 < 112 then U (i + 14) else U i) = _
      rw [if_pos (by omega)]
  · rw [if_neg (show ¬ nI u = 8 from fun q => h8 ((nI_eq (b := 8) (by omega) (by decide)).mp q))]
    obtain ⟨U', h1, h2, h3, h4, h5⟩ := tail U u (by omega)
    have e : nv u = u + 1 := if_neg h8
    rw [e, Nat.add_sub_cancel]
    exact ⟨U', h1, h2, h3, h4, fun i hi => by rw [h5 i hi, if_neg h8]⟩
theorem kn_all : ∀ u, u ≤ 8 → (if (nI u + 1) < 8 then nI u + 1 else 8) = nI (nv u) := by decide +kernel
theorem nx_all : ∀ x, x < 8 → (nI x + 1) - (nI x + 1) / 8 * 8 = nI ((x + 1) % 8) := by decide +kernel
abbrev RG : Type := (Nat → Nat → Int32) × (Nat → Nat → Int32) × (Nat → Int32) × (Nat → Int32) × Int32 × Int32
theorem note_both {r : AR} {P I N : Nat → Int32} {d : Int32} {u x F : Nat} {RP RI : Nat → Nat → Int32} {RN RD U : Nat → Int32} (hw : WF r) (hN : aN r ≤ 9999) (hd : 0 ≤ d) (h5 : N 5 = d) (hF : 1000 ≤ F) (h : UR r u x RP RI RN RD U) :
    ∃ RP2 RI2 RN2 RD2 U2 x2 u2, m_X7_remember RP RI RN RD (nI x) (nI u) (cP r P) (cI r I) (nI (aN r)) d = some (RP2, RI2, RN2, RD2, nI x2, nI u2) ∧ m_X9_notes F (cN r N) U (nI u) = some (U2, nI u2) ∧ UR r u2 x2 RP2 RI2 RN2 RD2 U2 := by
  have hM := hw.1
  obtain ⟨hu, hx, hE⟩ := h
  obtain ⟨U2, e1, e2, e3, e4, e5⟩ := notes_M (w := cN r N) (U := U) (F := F) hu hF
  refine ⟨va_up RP x (va_cpy (cP r P) (RP x) (0 : Int32).toNatClampNeg (0 : Int32).toNatClampNeg (6 : Int32).toNatClampNeg), va_up RI x (va_cpy (cI r I) (RI x) (0 : Int32).toNatClampNeg (0 : Int32).toNatClampNeg (6 : Int32).toNatClampNeg), va_up RN x (nI (aN r)), va_up RD x d, U2, (x + 1) % 8, nv u, ?_, e1, ?_⟩
  · unfold m_X7_remember m_X0_takeMoment_X0X3
    rw [chk_nI _ hx (by decide), cl (by omega), kn_all u hu, nx_all x hx]
    rfl
  · have hv : nv u ≤ 8 ∧ 1 ≤ nv u := by unfold nv; split <;> omega
    refine ⟨hv.1, by omega, fun a ha => ?_⟩
    by_cases ea : a = nv u - 1
    · have ei : ri (nv u) ((x + 1) % 8) a = x := by unfold ri; omega
      rw [ei, vu_eq, vu_eq, vu_eq, vu_eq, ea]
      refine ⟨r, hw, hN, hd, rfl, rfl, fun m hm => ⟨?_, ?_⟩, rfl, e2, ?_, fun m hm => ⟨?_, ?_⟩⟩
      · rw [cpy6 _ _ (by omega), cP_at hm]
      · rw [cpy6 _ _ (by omega), cI_at hm]
      · rw [e3, cN_5, h5]
      · rw [(e4 m (by omega)).1, cN_p hm]
      · rw [(e4 m (by omega)).2, cN_i hm]
    · by_cases h8 : u = 8
      · have ei : ri (nv u) ((x + 1) % 8) a = ri u x (a + 1) := by unfold ri nv; rw [if_pos h8]; omega
        have ne : ri (nv u) ((x + 1) % 8) a ≠ x := by unfold ri nv at *; rw [if_pos h8] at *; omega
        rw [vu_ne ne, vu_ne ne, vu_ne ne, vu_ne ne, ei]
        refine UE_cong hM (fun _ _ => rfl) (fun _ _ => rfl) (fun i hi => ?_) (hE (a + 1) (by omega))
        rw [e5 (14 * a + i) (by omega), if_pos h8]; congr 1; omega
      · have e : nv u = u + 1 := if_neg h8
        rw [e] at ha ea
        have ei : ri (nv u) ((x + 1) % 8) a = ri u x a := by unfold ri; rw [e]; omega
        have ne : ri (nv u) ((x + 1) % 8) a ≠ x := by unfold ri; rw [e]; omega
        rw [vu_ne ne, vu_ne ne, vu_ne ne, vu_ne ne, ei]
        refine UE_cong hM (fun _ _ => rfl) (fun _ _ => rfl) (fun i hi => ?_) (hE a (by omega))
        rw [e5 (14 * a + i) (by rw [e]; omega), if_neg h8]
