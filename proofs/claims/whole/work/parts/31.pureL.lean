/-! ===== PURE L: undo, man, image, restore ===== -/
theorem tb_all : ∀ x, x < 8 → ((nI x + 8) - 1) - ((nI x + 8) - 1) / 8 * 8 = nI ((x + 7) % 8) := by decide +kernel
theorem dn_all : ∀ u, u ≤ 8 → 0 < u → nI u - 1 = nI (u - 1) := by decide +kernel
theorem undo_M {w U : Nat → Int32} {F u : Nat} (hu : u ≤ 8) (h0 : 0 < u) (hF : 1000 ≤ F) : ∃ f, m_X9_undo F w U (nI u) = some (nI (u - 1), f, nI (u - 1)) ∧ (∀ m, m < 6 → f (6 + 3 * m + 1) = U (14 * (u - 1) + 2 + m) ∧ f (6 + 3 * m + 2) = U (14 * (u - 1) + 8 + m)) ∧ f 1 = U (14 * (u - 1)) ∧ f 5 = U (14 * (u - 1) + 1) ∧ f 0 = w 0 ∧ f 2 = w 2 ∧ f 3 = w 3 ∧ f 4 = w 4 ∧ ∀ m, f (6 + 3 * m) = w (6 + 3 * m) := by
  unfold m_X9_undo
  rw [if_neg (show ¬ nI u = 0 from fun q => by have := (nI_eq (b := 0) (by omega) (by decide)).mp q; omega), dn_all u hu h0, show (14 : Int32) * nI (u - 1) = nI (14 * (u - 1)) by rw [show (14 : Int32) = nI 14 from rfl, pk_mul]]
  simp only [bnd, nI_1]
  rw [chk_nI _ (by omega) (by decide), chk_nI _ (by omega) (by decide), cl (by omega), cl (by omega)]
  have key := loopTo (fun n y s => m_X9_undo_L56 U (nI (14 * (u - 1))) (fun w7 => some (nI (u - 1), w7, nI (u - 1))) n y s) (fun f => some (nI (u - 1), f, nI (u - 1)))
    (fun j s => (∀ m, m < j → s (6 + 3 * m + 1) = U (14 * (u - 1) + 2 + m) ∧ s (6 + 3 * m + 2) = U (14 * (u - 1) + 8 + m)) ∧ (∀ i, i < 6 → s i = upd (upd w 1 (U (14 * (u - 1)))) 5 (U (14 * (u - 1) + 1)) i) ∧ (∀ m, s (6 + 3 * m) = w (6 + 3 * m))) 6 (fun n s h => ?_) (fun n j s hj h => ?_) 6 F 0 (upd (upd w 1 (U (14 * (u - 1)))) 5 (U (14 * (u - 1) + 1))) (by omega) (by omega) ⟨fun m hm => absurd hm (Nat.not_lt_zero m), fun _ _ => rfl, fun m => by rw [upd_ne (by omega), upd_ne (by omega)]⟩
  · obtain ⟨f, ⟨a1, a2, a3⟩, e⟩ := key
    refine ⟨f, e, a1, ?_, ?_, ?_, ?_, ?_, ?_, a3⟩
    · rw [a2 1 (by omega), upd_ne (by omega), upd_eq]
    · rw [a2 5 (by omega), upd_eq]
    · rw [a2 0 (by omega), upd_ne (by omega), upd_ne (by omega)]
    · rw [a2 2 (by omega), upd_ne (by omega), upd_ne (by omega)]
    · rw [a2 3 (by omega), upd_ne (by omega), upd_ne (by omega)]
    · rw [a2 4 (by omega), upd_ne (by omega), upd_ne (by omega)]
  · show m_X9_undo_L56s _ _ _ _ _ _ = _
    unfold m_X9_undo_L56s
    rw [if_pos (by decide)]
  · obtain ⟨a1, a2, a3⟩ := h
    refine ⟨upd (upd s (6 + 3 * j + 1) (U (14 * (u - 1) + 2 + j))) (6 + 3 * j + 2) (U (14 * (u - 1) + 8 + j)), ⟨fun m hm => ?_, fun i hi => ?_, fun m => ?_⟩, ?_⟩
    · by_cases e : m = j
      · subst e
        exact ⟨by rw [upd_ne (by omega), upd_eq], upd_eq⟩
      · rw [upd_ne (by omega), upd_ne (by omega), upd_ne (by omega), upd_ne (by omega)]
        exact a1 m (by omega)
    · rw [upd_ne (by omega), upd_ne (by omega)]; exact a2 i hi
    · rw [upd_ne (by omega), upd_ne (by omega)]; exact a3 m
    · show m_X9_undo_L56s _ _ _ _ _ _ = _
      unfold m_X9_undo_L56s
      rw [if_neg (show ¬ (6 : Int32) ≤ nI j from nInle (a := 6) (by decide) (by omega) hj), show (6 + 3 * nI j) + 1 = nI (6 + 3 * j + 1) from ix3 j 1, show (6 + 3 * nI j) + 2 = nI (6 + 3 * j + 2) from ix3 j 2, show nI (14 * (u - 1)) + 2 + nI j = nI (14 * (u - 1) + 2 + j) by rw [show (2 : Int32) = nI 2 from rfl, nI_add, nI_add], show nI (14 * (u - 1)) + 8 + nI j = nI (14 * (u - 1) + 8 + j) by rw [show (8 : Int32) = nI 8 from rfl, nI_add, nI_add]]
      rw [chk_nI _ (by omega) (by decide), chk_nI _ (by omega) (by decide), chk_nI _ (by omega) (by decide), chk_nI _ (by omega) (by decide), cl (by omega), cl (by omega), cl (by omega), cl (by omega)]
      simp only [bnd, nI_1]
theorem S_undo {r : AR} {P I N : Nat → Int32} {d : Int32} {u x F : Nat} {RP RI : Nat → Nat → Int32} {RN RD U : Nat → Int32} (hw : WF r) (hN : aN r ≤ 9999) (hd : 0 ≤ d) (h5 : N 5 = d) (hF : 1000 ≤ F) (h : UR r u x RP RI RN RD U) :
    ∃ v q d2 P2 I2 N2 x2 u2, m_X8_undo (cP r P) (cI r I) (nI (aN r)) d RP RI RN RD (nI x) (nI u) = some (v, cP q P2, cI q I2, nI (aN q), d2, nI x2, nI u2) ∧ m_X9_undo F (cN r N) U (nI u) = some (v, cN q N2, nI u2) ∧ WF q ∧ AL q r ∧ aN q ≤ 9999 ∧ 0 ≤ d2 ∧ N2 5 = d2 ∧ UR q u2 x2 RP RI RN RD U := by
  have hM := hw.1
  by_cases h0 : u = 0
  · subst h0
    exact ⟨-4, r, d, P, I, N, x, 0, rfl, rfl, hw, AL_refl r, hN, hd, h5, h⟩
  have hu := h.1
  have hx := h.2.1
  obtain ⟨f, e1, e2, e3, e4, e5, e6, e7, e8, e9⟩ := undo_M (w := cN r N) (U := U) (F := F) hu (by omega) hF
  have hE := h.2.2 (u - 1) (by omega)
  have ei : ri u x (u - 1) = (x + 7) % 8 := by unfold ri; omega
  rw [ei] at hE
  obtain ⟨z, z1, z2, z3, z4, z5, z6, z7, z8, z9, z10⟩ := hE
  have hq : WF ((aM r, aK r, aP z, aI z, aS r, aT r, aH r, aN z) : AR) := by
    refine ⟨hM, fun m hm => ?_, fun a b ha hb hab h12 => ?_, hw.2.2.2.1, hw.2.2.2.2.1, hw.2.2.2.2.2.1, z1.2.2.2.2.2.2⟩
    · have := z1.2.1 m (by rw [z4]; exact hm)
      rw [z5] at this; exact this
    · exact z1.2.2.1 a b (by rw [z4]; exact ha) (by rw [z4]; exact hb) hab h12
  have hf : f = cN (aM r, aK r, aP z, aI z, aS r, aT r, aH r, aN z) f := by
    refine cN_ext ?_ ?_ ?_ ?_ ?_ (fun m hm => ?_) (fun m hm => ?_) (fun m hm => ?_) (fun _ _ => rfl)
    · rw [e5]; rfl
    · rw [e3, z8]; rfl
    · rw [e6]; rfl
    · rw [e7]; rfl
    · rw [e8]; rfl
    · have hm : m < aM r := hm
      rw [e9, cN_k hm]; rfl
    · have hm : m < aM r := hm
      rw [(e2 m (by omega)).1, (z10 m hm).1]; rfl
    · have hm : m < aM r := hm
      rw [(e2 m (by omega)).2, (z10 m hm).2]; rfl
  have p1 := cP_self (r := (aM r, aK r, aP z, aI z, aS r, aT r, aH r, aN z)) (f := va_cpy (RP ((x + 7) % 8)) (cP r P) (0 : Int32).toNatClampNeg (0 : Int32).toNatClampNeg (6 : Int32).toNatClampNeg) (fun m hm => by
    have hm : m < aM r := hm
    rw [cpy6 _ _ (by omega), (z6 m hm).1]; rfl)
  have p2 := cI_self (r := (aM r, aK r, aP z, aI z, aS r, aT r, aH r, aN z)) (f := va_cpy (RI ((x + 7) % 8)) (cI r I) (0 : Int32).toNatClampNeg (0 : Int32).toNatClampNeg (6 : Int32).toNatClampNeg) (fun m hm => by
    have hm : m < aM r := hm
    rw [cpy6 _ _ (by omega), (z6 m hm).2]; rfl)
  refine ⟨nI (u - 1), (aM r, aK r, aP z, aI z, aS r, aT r, aH r, aN z), RD ((x + 7) % 8), va_cpy (RP ((x + 7) % 8)) (cP r P) (0 : Int32).toNatClampNeg (0 : Int32).toNatClampNeg (6 : Int32).toNatClampNeg, va_cpy (RI ((x + 7) % 8)) (cI r I) (0 : Int32).toNatClampNeg (0 : Int32).toNatClampNeg (6 : Int32).toNatClampNeg, f, (x + 7) % 8, u - 1, ?_, ?_, hq, ⟨rfl, rfl, rfl, rfl, rfl⟩, z2, z3, ?_, ?_⟩
  · unfold m_X8_undo m_X7_takeBack m_X0_takeMoment_X3X0
    rw [if_pos (show 0 < nI u from (nI_ltI (a := 0) (by decide) (by omega)).mpr (by omega)), tb_all x hx, dn_all u hu (by omega)]
    simp only [bnd, Option.bind_some]
    rw [chk_nI _ (by omega) (by decide), cl (by omega)]
    simp only [Option.bind_some]
    rw [← p1, ← p2, z7]; rfl
  · rw [e1, ← hf]
  · rw [e4, z9]
  · refine ⟨by omega, by omega, fun a ha => ?_⟩
    have ei2 : ri (u - 1) ((x + 7) % 8) a = ri u x a := by unfold ri; omega
    rw [ei2]
    exact UE_rim rfl rfl (h.2.2 a (by omega))
theorem S_man {r : AR} {P I K N : Nat → Int32} {u x F : Nat} {RP RI : Nat → Nat → Int32} {RN RD U : Nat → Int32} (hw : WF r) (hF : 64 ≤ F) (h : UR r u x RP RI RN RD U) (a b c : Int32) :
    ∃ v q u2, m_X8_man F (cP r P) (cI r I) (cK r K) (nI (aM r)) (nI u) a b c = some (v, cP q P, cI q I, cK q K, nI (aM q), nI u2) ∧ m_X9_man F (cN r N) (nI u) a b c = some (v, cN q N, nI u2) ∧ WF q ∧ aS q = aS r ∧ aT q = aT r ∧ aH q = aH r ∧ aN q = aN r ∧ UR q u2 x RP RI RN RD U := by
  have hM := hw.1
  unfold m_X8_man m_X9_man
  simp only [within_C, in04, in09, isInch_C, isInch_M, Option.bind_some, ib0]
  cases h1 : wi a 0 4
  · exact ⟨_, r, u, rfl, rfl, hw, rfl, rfl, rfl, rfl, h⟩
  cases h2 : wi b 0 9
  · exact ⟨_, r, u, rfl, rfl, hw, rfl, rfl, rfl, rfl, h⟩
  cases h3 : wi c 0 11
  · exact ⟨_, r, u, rfl, rfl, hw, rfl, rfl, rfl, rfl, h⟩
  simp only [if_true]
  obtain ⟨kd, rfl, -, hk⟩ := wi_nI (a := 0) (b := 4) (by decide) (by decide) h1
  obtain ⟨p, rfl, -, hp⟩ := wi_nI (a := 0) (b := 9) (by decide) (by decide) h2
  obtain ⟨y, rfl, hy⟩ := inch_of h3
  by_cases h6 : aM r = 6
  · rw [if_neg (show ¬ nI (aM r) < 6 by rw [h6]; decide), if_pos (show cN r N 0 = 6 by rw [cN_0, h6]; rfl)]
    exact ⟨_, r, u, rfl, rfl, hw, rfl, rfl, rfl, rfl, h⟩
  rw [if_pos (show nI (aM r) < 6 from (nI_ltI (b := 6) (by omega) (by decide)).mpr (by omega)), if_neg (show ¬ cN r N 0 = 6 from fun q => h6 ((nI_eq (b := 6) (by omega) (by decide)).mp q)), who_C hw hF hy, who_M hM hF hy]
  simp only [Option.bind_some]
  by_cases hf : wa r y (aM r) = -4
  rotate_left
  · rw [if_neg hf, if_neg hf]
    exact ⟨_, r, u, rfl, rfl, hw, rfl, rfl, rfl, rfl, h⟩
  rw [if_pos hf, if_pos hf]
  have hfr := wa_free hM hf
  let q : AR := (aM r + 1, fun k => if k = aM r then kd else aK r k, fun k => if k = aM r then p else aP r k, fun k => if k = aM r then y else aI r k, aS r, aT r, aH r, aN r)
  have hq : WF q := by
    refine ⟨by show aM r + 1 ≤ 6; omega, fun m hm => ?_, fun i j hi hj hij h12 => ?_, hw.2.2.2.1, hw.2.2.2.2.1, hw.2.2.2.2.2.1, hw.2.2.2.2.2.2⟩
    · have hm : m < aM r + 1 := hm
      show (if m = aM r then kd else aK r m) ≤ 4 ∧ (if m = aM r then p else aP r m) ≤ 9 ∧ (if m = aM r then y else aI r m) ≤ 12
      by_cases e : m = aM r
      · rw [if_pos e, if_pos e, if_pos e]; omega
      · rw [if_neg e, if_neg e, if_neg e]; exact hw.2.1 m (by omega)
    · have hi : i < aM r + 1 := hi
      have hj : j < aM r + 1 := hj
      have h12 : (if i = aM r then y else aI r i) < 12 := h12
      show (if i = aM r then y else aI r i) ≠ (if j = aM r then y else aI r j)
      by_cases ea : i = aM r
      · rw [if_pos ea, if_neg (show ¬ j = aM r by omega)]; exact Ne.symm (hfr j (by omega))
      · rw [if_neg ea] at h12 ⊢
        by_cases eb : j = aM r
        · rw [if_pos eb]; exact hfr i (by omega)
        · rw [if_neg eb]; exact hw.2.2.1 i j (by omega) (by omega) hij h12
  refine ⟨nI (aM r), q, 0, ?_, ?_, hq, rfl, rfl, rfl, rfl, by omega, h.2.1, fun a ha => absurd ha (Nat.not_lt_zero a)⟩
  · unfold m_X7_forgetAll m_X3_enlist
    simp only [Option.bind_some]
    rw [chk_nI _ (by omega) (by decide), chk_nI _ (by omega) (by decide), chk_nI _ (by omega) (by decide), cl (by omega), nI_1]
    simp only [Option.bind_some]
    have u1 : upd (cP r P) (aM r) (nI p) = cP q P := by
      funext k
      show _ = if k < aM r + 1 then nI (if k = aM r then p else aP r k) else P k
      by_cases e : k = aM r
      · subst e; rw [upd_eq, if_pos (by omega), if_pos rfl]
      · rw [upd_ne e, if_neg e]
        show (if k < aM r then nI (aP r k) else P k) = _
        by_cases e2 : k < aM r
        · rw [if_pos e2, if_pos (by omega)]
        · rw [if_neg e2, if_neg (by omega)]
    have u2 : upd (cI r I) (aM r) (nI y) = cI q I := by
      funext k
      show _ = if k < aM r + 1 then eC (if k = aM r then y else aI r k) else I k
      by_cases e : k = aM r
      · subst e; rw [upd_eq, if_pos (by omega), if_pos rfl, eC_t hy]
      · rw [upd_ne e, if_neg e]
        show (if k < aM r then eC (aI r k) else I k) = _
        by_cases e2 : k < aM r
        · rw [if_pos e2, if_pos (by omega)]
        · rw [if_neg e2, if_neg (by omega)]
    have u3 : upd (cK r K) (aM r) (nI kd) = cK q K := by
      funext k
      show _ = if k < aM r + 1 then nI (if k = aM r then kd else aK r k) else K k
      by_cases e : k = aM r
      · subst e; rw [upd_eq, if_pos (by omega), if_pos rfl]
      · rw [upd_ne e, if_neg e]
        show (if k < aM r then nI (aK r k) else K k) = _
        by_cases e2 : k < aM r
        · rw [if_pos e2, if_pos (by omega)]
        · rw [if_neg e2, if_neg (by omega)]
    have u4 : nI (aM r + 1) - 1 = nI (aM r) := by
      have : ∀ k, k < 6 → nI (k + 1) - 1 = nI k := by decide +kernel
      exact this _ (by omega)
    rw [u1, u2, u3, u4]; rfl
  · unfold m_X9_manComes
    have i0 : 6 + 3 * nI (aM r) = nI (6 + 3 * aM r) := by rw [show (6 : Int32) = nI 6 from rfl, show (3 : Int32) = nI 3 from rfl, pk_mul, nI_add]
    rw [cN_0, i0]
    simp only [bnd]
    rw [show nI (6 + 3 * aM r) + 1 = nI (6 + 3 * aM r + 1) from nI_1 _, show nI (6 + 3 * aM r) + 2 = nI (6 + 3 * aM r + 2) from nI_add _ 2, chk_nI _ (by omega) (by decide), chk_nI _ (by omega) (by decide), chk_nI _ (by omega) (by decide), cl (by omega), cl (by omega), cl (by omega)]
    simp only [Option.bind_some]
    have z0 : upd (upd (upd (cN r N) (6 + 3 * aM r) (nI kd)) (6 + 3 * aM r + 1) (nI p)) (6 + 3 * aM r + 2) (nI y) 0 + 1 = nI (aM r + 1) := by
      rw [upd_ne (by omega), upd_ne (by omega), upd_ne (by omega), cN_0, nI_1]
    rw [z0, upd_eq]
    have hc : upd (upd (upd (upd (cN r N) (6 + 3 * aM r) (nI kd)) (6 + 3 * aM r + 1) (nI p)) (6 + 3 * aM r + 2) (nI y)) 0 (nI (aM r + 1)) = cN q N := by
      refine cN_ext ?_ ?_ ?_ ?_ ?_ (fun m hm => ?_) (fun m hm => ?_) (fun m hm => ?_) (fun j hj => ?_)
      · exact upd_eq
      · rw [upd_ne (by omega), upd_ne (by omega), upd_ne (by omega), upd_ne (by omega)]; rfl
      · rw [upd_ne (by omega), upd_ne (by omega), upd_ne (by omega), upd_ne (by omega)]; rfl
      · rw [upd_ne (by omega), upd_ne (by omega), upd_ne (by omega), upd_ne (by omega)]; rfl
      · rw [upd_ne (by omega), upd_ne (by omega), upd_ne (by omega), upd_ne (by omega)]; rfl
      · have hm : m < aM r + 1 := hm
        rw [upd_ne (by omega), upd_ne (by omega), upd_ne (by omega)]
        show _ = nI (if m = aM r then kd else aK r m)
        by_cases e : m = aM r
        · subst e; rw [upd_eq, if_pos rfl]
        · rw [upd_ne (by omega), if_neg e, cN_k (by omega)]
      · have hm : m < aM r + 1 := hm
        rw [upd_ne (by omega), upd_ne (by omega)]
        show _ = nI (if m = aM r then p else aP r m)
        by_cases e : m = aM r
        · subst e; rw [upd_eq, if_pos rfl]
        · rw [upd_ne (by omega), upd_ne (by omega), if_neg e, cN_p (by omega)]
      · have hm : m < aM r + 1 := hm
        rw [upd_ne (by omega)]
        show _ = eM (if m = aM r then y else aI r m)
        by_cases e : m = aM r
        · subst e; rw [upd_eq, if_pos rfl, eM_t hy]
        · rw [upd_ne (by omega), upd_ne (by omega), upd_ne (by omega), if_neg e, cN_i (by omega)]
      · have hj : j = 5 ∨ 6 + 3 * (aM r + 1) ≤ j := hj
        rw [upd_ne (by omega), upd_ne (by omega), upd_ne (by omega), upd_ne (by omega)]
        unfold cN
        rw [if_neg (by omega), if_neg (by omega), if_neg (by omega), if_neg (by omega), if_neg (by omega), if_neg (by omega)]
    have u4 : nI (aM r + 1) - 1 = nI (aM r) := by
      have : ∀ k, k < 6 → nI (k + 1) - 1 = nI k := by decide +kernel
      exact this _ (by omega)
    rw [hc, u4]; rfl
/-- a copy of the ring -/
def RC (G1 G2 : Nat → Nat → Int32) (G3 G4 : Nat → Int32) (RP RI : Nat → Nat → Int32) (RN RD : Nat → Int32) (j : Nat) : Prop := ∀ k, k < j → (∀ m, m < 6 → G1 k m = RP k m) ∧ (∀ m, m < 6 → G2 k m = RI k m) ∧ G3 k = RN k ∧ G4 k = RD k
theorem takeAllU_C {F : Nat} {RP RI : Nat → Nat → Int32} {RN RD : Nat → Int32} (hF : 64 ≤ F) (a b : Nat → Nat → Int32) (c e : Nat → Int32) (y z y2 z2 : Int32) :
    ∃ G1 G2 G3 G4, RC G1 G2 G3 G4 RP RI RN RD 8 ∧ m_X7_takeAll F a b c e y2 z2 RP RI RN RD y z = some (G1, G2, G3, G4, y, z) := by
  unfold m_X7_takeAll
  obtain ⟨s, h1, h2⟩ := loopTo (fun n x (s : (Nat → Nat → Int32) × (Nat → Nat → Int32) × (Nat → Int32) × (Nat → Int32)) => m_X7_takeAll_L2 RP RI RN RD (fun w6 w7 w8 w9 => some (w6, w7, w8, w9, y, z)) n x s.1 s.2.1 s.2.2.1 s.2.2.2) (fun s => some (s.1, s.2.1, s.2.2.1, s.2.2.2, y, z))
    (fun j s => RC s.1 s.2.1 s.2.2.1 s.2.2.2 RP RI RN RD j) 8 (fun n s h => by
      show m_X7_takeAll_L2s _ _ _ _ _ _ _ _ _ _ _ = _
      unfold m_X7_takeAll_L2s
      rw [if_pos (by decide)]) (fun n j s hj h => by
      refine ⟨(va_up s.1 j (va_cpy (RP j) (s.1 j) (0 : Int32).toNatClampNeg (0 : Int32).toNatClampNeg (6 : Int32).toNatClampNeg), va_up s.2.1 j (va_cpy (RI j) (s.2.1 j) (0 : Int32).toNatClampNeg (0 : Int32).toNatClampNeg (6 : Int32).toNatClampNeg), va_up s.2.2.1 j (RN j), va_up s.2.2.2 j (RD j)), fun k hk => ?_, ?_⟩
      · by_cases e : k = j
        · subst e
          simp only [vu_eq]
          exact ⟨fun m hm => cpy6 _ _ hm, fun m hm => cpy6 _ _ hm, trivial, trivial⟩
        · simp only [vu_ne e]
          exact h k (by omega)
      · show m_X7_takeAll_L2s _ _ _ _ _ _ _ _ _ _ _ = _
        unfold m_X7_takeAll_L2s m_X0_takeMoment_X0X0
        rw [if_neg (show ¬ (8 : Int32) ≤ nI j from nInle (a := 8) (by decide) (by omega) hj), chk_nI _ hj (by decide), chk_nI _ hj (by decide), cl (by omega)]
        simp only [Option.bind_some, bnd, nI_1]) 8 F 0 (a, b, c, e) (by omega) (by omega) (fun k hk => absurd hk (Nat.not_lt_zero k))
  exact ⟨s.1, s.2.1, s.2.2.1, s.2.2.2, h1, h2⟩
theorem UR_copy {r : AR} {u x : Nat} {G1 G2 RP RI : Nat → Nat → Int32} {G3 G4 RN RD U V : Nat → Int32} (hM : aM r ≤ 6) (hc : RC G1 G2 G3 G4 RP RI RN RD 8) (hv : ∀ i, i < 112 → V i = U i) (h : UR r u x RP RI RN RD U) : UR r u x G1 G2 G3 G4 V := by
  obtain ⟨h1, h2, h3⟩ := h
  refine ⟨h1, h2, fun a ha => ?_⟩
  have hr : ri u x a < 8 := Nat.mod_lt _ (by decide)
  obtain ⟨c1, c2, c3, c4⟩ := hc _ hr
  rw [c3, c4]
  exact UE_cong hM c1 c2 (fun i hi => hv _ (by omega)) (h3 a ha)
def KEP (b : Bool) (T : RT) (G : RG) (kept : Nat → Int32) (ku : Int32) : Prop :=
  b = true → ∃ q d P I K N u x, T = cR q d P I K ∧ G.2.2.2.2.1 = nI x ∧ G.2.2.2.2.2 = nI u ∧ ku = nI u ∧ WF q ∧ aN q ≤ 9999 ∧ 0 ≤ d ∧ kept 5 = d ∧ (∀ j, j < 24 → kept j = cN q N j) ∧ UR q u x G.1 G.2.1 G.2.2.1 G.2.2.2.1 (fun j => kept (24 + j))
theorem image_M {w U A : Nat → Int32} {F : Nat} {y z b : Int32} (hF : 1000 ≤ F) : ∃ f, m_X9_image F w U y A z b = some (1, f, y, 1) ∧ (∀ j, j < 24 → f j = w j) ∧ ∀ j, j < 112 → f (24 + j) = U j := by
  unfold m_X9_image
  have e1 := loopUp (fun n x s => m_X9_image_L2 w (fun w3 => m_X9_image_L28 U (fun w6 => some (1, w6, y, 1)) F 0 w3) n x s) (m_X9_image_L28 U (fun w6 => some (1, w6, y, 1)) F 0 (fa_fill w A 24)) (fun k => fa_fill w A k) 24 (fun n => by
      show m_X9_image_L2s _ _ _ _ _ = _
      unfold m_X9_image_L2s
      rw [if_pos (by decide)]) (fun n k hk => by
      show m_X9_image_L2s _ _ _ _ _ = _
      unfold m_X9_image_L2s
      rw [if_neg (show ¬ (24 : Int32) ≤ nI k from nInle (a := 24) (by decide) (by omega) hk), chk_nI _ hk (by decide), chk_nI _ (show k < 136 by omega) (by decide), cl (by omega)]
      simp only [bnd, nI_1, fa_fill_succ]) 24 F 0 (by omega) (by omega)
  simp only [fa_fill_0] at e1
  refine ⟨fb_put (fa_fill w A 24) U 24 112, ?_, fun j hj => ?_, fun j hj => ?_⟩
  · refine Eq.trans e1 ?_
    have e2 := loopUp (fun n x s => m_X9_image_L28 U (fun w6 => some (1, w6, y, 1)) n x s) (some ((1 : Int32), fb_put (fa_fill w A 24) U 24 112, y, (1 : Int32))) (fun k => fb_put (fa_fill w A 24) U 24 k) 112 (fun n => by
      show m_X9_image_L28s _ _ _ _ _ = _
      unfold m_X9_image_L28s
      rw [if_pos (by decide)]) (fun n k hk => by
      show m_X9_image_L28s _ _ _ _ _ = _
      unfold m_X9_image_L28s
      rw [if_neg (show ¬ (112 : Int32) ≤ nI k from nInle (a := 112) (by decide) (by omega) hk), show (24 : Int32) + nI k = nI (24 + k) from nI_add 24 k, chk_nI _ hk (by decide), chk_nI _ (show 24 + k < 136 by omega) (by decide), cl (by omega), cl (by omega)]
      simp only [bnd, nI_1, fb_put_succ]) 112 F 0 (by omega) (by omega)
    simp only [fb_put_0] at e2
    exact e2
  · rw [fb_put_out (by omega), fa_fill_in hj]
  · rw [fb_put_in (by omega) (by omega)]; congr 1; omega
theorem S_image {r : AR} {d : Int32} {P I K N A : Nat → Int32} {u x F : Nat} {RP RI : Nat → Nat → Int32} {RN RD U : Nat → Int32} (hw : WF r) (hN : aN r ≤ 9999) (hd : 0 ≤ d) (h5 : N 5 = d) (hF : 1000 ≤ F) (h : UR r u x RP RI RN RD U) (t1 t2 : Nat → Int32) (t3 t4 : Int32) (t5 : Nat → Int32) (t6 t7 t8 t9 : Int32) (g1 g2 : Nat → Nat → Int32) (g3 g4 : Nat → Int32) (g5 g6 b1 b2 ku : Int32) :
    ∃ T G kept, m_X8_image F (cP r P) (cI r I) (nI (aN r)) d (cK r K) (nI (aM r)) (nI (aS r)) (nI (aT r)) (nI (aH r)) RP RI RN RD (nI x) (nI u) t1 t2 t3 t4 t5 t6 t7 t8 t9 g1 g2 g3 g4 g5 g6 b1 = some (1, T.1, T.2.1, T.2.2.1, T.2.2.2.1, T.2.2.2.2.1, T.2.2.2.2.2.1, T.2.2.2.2.2.2.1, T.2.2.2.2.2.2.2.1, T.2.2.2.2.2.2.2.2, G.1, G.2.1, G.2.2.1, G.2.2.2.1, G.2.2.2.2.1, G.2.2.2.2.2, 1) ∧ m_X9_image F (cN r N) U (nI u) A ku b2 = some (1, kept, nI u, 1) ∧ KEP true T G kept (nI u) := by
  have hM := hw.1
  obtain ⟨P2, I2, K2, e1⟩ := takeAll_C (d := d) (P := P) (I := I) (K := K) hM t1 t2 t3 t4 t5 t6 t7 t8 t9
  obtain ⟨G1, G2, G3, G4, c1, c2⟩ := takeAllU_C (F := F) (RP := RP) (RI := RI) (RN := RN) (RD := RD) (by omega) g1 g2 g3 g4 (nI x) (nI u) g5 g6
  obtain ⟨f, f1, f2, f3⟩ := image_M (w := cN r N) (U := U) (A := A) (F := F) (y := nI u) (z := ku) (b := b2) hF
  refine ⟨cR r d P2 I2 K2, (G1, G2, G3, G4, nI x, nI u), f, ?_, f1, fun _ => ⟨r, d, P2, I2, K2, N, u, x, rfl, rfl, rfl, rfl, hw, hN, hd, ?_, f2, UR_copy hM c1 f3 h⟩⟩
  · unfold m_X8_image
    rw [e1]
    simp only [Option.bind_some]
    rw [c2]
    rfl
  · rw [f2 5 (by omega), cN_5, h5]
theorem restore_M {w U A : Nat → Int32} {F : Nat} {y z : Int32} (hF : 1000 ≤ F) : m_X9_restore F w U y A z 1 = some (1, fa_fill A w 24, fa_fill (fun j => A (24 + j)) U 112, z) := by
  unfold m_X9_restore
  rw [if_neg (by decide)]
  have e1 := loopUp (fun n x s => m_X9_restore_L12 A (fun w4 => m_X9_restore_L38 A (fun w7 => some (1, w4, w7, z)) F 0 U) n x s) (m_X9_restore_L38 A (fun w7 => some (1, fa_fill A w 24, w7, z)) F 0 U) (fun k => fa_fill A w k) 24 (fun n => by
      show m_X9_restore_L12s _ _ _ _ _ = _
      unfold m_X9_restore_L12s
      rw [if_pos (by decide)]) (fun n k hk => by
      show m_X9_restore_L12s _ _ _ _ _ = _
      unfold m_X9_restore_L12s
      rw [if_neg (show ¬ (24 : Int32) ≤ nI k from nInle (a := 24) (by decide) (by omega) hk), chk_nI _ (show k < 136 by omega) (by decide), chk_nI _ hk (by decide), cl (by omega)]
      simp only [bnd, nI_1, fa_fill_succ]) 24 F 0 (by omega) (by omega)
  simp only [fa_fill_0] at e1
  refine Eq.trans e1 ?_
  have e2 := loopUp (fun n x s => m_X9_restore_L38 A (fun w7 => some (1, fa_fill A w 24, w7, z)) n x s) (some ((1 : Int32), fa_fill A w 24, fa_fill (fun j => A (24 + j)) U 112, z)) (fun k => fa_fill (fun j => A (24 + j)) U k) 112 (fun n => by
      show m_X9_restore_L38s _ _ _ _ _ = _
      unfold m_X9_restore_L38s
      rw [if_pos (by decide)]) (fun n k hk => by
      show m_X9_restore_L38s _ _ _ _ _ = _
      unfold m_X9_restore_L38s
      rw [if_neg (show ¬ (112 : Int32) ≤ nI k from nInle (a := 112) (by decide) (by omega) hk), show (24 : Int32) + nI k = nI (24 + k) from nI_add 24 k, chk_nI _ (show 24 + k < 136 by omega) (by decide), chk_nI _ hk (by decide), cl (by omega), cl (by omega)]
      simp only [bnd, nI_1]
      rw [← fa_fill_succ (fun j => A (24 + j)) U k]) 112 F 0 (by omega) (by omega)
  simp only [fa_fill_0] at e2
  exact e2
theorem S_restore {r : AR} {d : Int32} {P I K N A : Nat → Int32} {u x F : Nat} {RP RI : Nat → Nat → Int32} {RN RD U : Nat → Int32} {b : Bool} {T : RT} {G : RG} {ku : Int32} (hw : WF r) (hN : aN r ≤ 9999) (hd : 0 ≤ d) (h5 : N 5 = d) (hF : 1000 ≤ F) (h : UR r u x RP RI RN RD U) (hk : KEP b T G A ku) :
    ∃ v q d2 P2 I2 K2 N2 RP2 RI2 RN2 RD2 U2 x2 u2, m_X8_restore F (cP r P) (cI r I) (nI (aN r)) d (cK r K) (nI (aM r)) (nI (aS r)) (nI (aT r)) (nI (aH r)) RP RI RN RD (nI x) (nI u) T.1 T.2.1 T.2.2.1 T.2.2.2.1 T.2.2.2.2.1 T.2.2.2.2.2.1 T.2.2.2.2.2.2.1 T.2.2.2.2.2.2.2.1 T.2.2.2.2.2.2.2.2 G.1 G.2.1 G.2.2.1 G.2.2.2.1 G.2.2.2.2.1 G.2.2.2.2.2 (bI b) = some (v, cP q P2, cI q I2, nI (aN q), d2, cK q K2, nI (aM q), nI (aS q), nI (aT q), nI (aH q), RP2, RI2, RN2, RD2, nI x2, nI u2) ∧ m_X9_restore F (cN r N) U (nI u) A ku (bI b) = some (v, cN q N2, U2, nI u2) ∧ WF q ∧ aN q ≤ 9999 ∧ 0 ≤ d2 ∧ N2 5 = d2 ∧ UR q u2 x2 RP2 RI2 RN2 RD2 U2 := by
  cases b
  · exact ⟨-4, r, d, P, I, K, N, RP, RI, RN, RD, U, x, u, rfl, rfl, hw, hN, hd, h5, h⟩
  obtain ⟨q, d2, P2, I2, K2, N2, u2, x2, rfl, k2, k3, rfl, k5, k6, k7, k8, k9, k10⟩ := hk rfl
  have hM := k5.1
  obtain ⟨P3, I3, K3, e1⟩ := takeAll_C (d := d2) (P := P2) (I := I2) (K := K2) hM (cP r P) (cI r I) (nI (aN r)) d (cK r K) (nI (aM r)) (nI (aS r)) (nI (aT r)) (nI (aH r))
  obtain ⟨G1, G2, G3, G4, c1, c2⟩ := takeAllU_C (F := F) (RP := G.1) (RI := G.2.1) (RN := G.2.2.1) (RD := G.2.2.2.1) (by omega) RP RI RN RD G.2.2.2.2.1 G.2.2.2.2.2 (nI x) (nI u)
  have hc : ∀ j, j < 24 → fa_fill A (cN r N) 24 j = cN q N2 j := fun j hj => by rw [fa_fill_in hj, k9 j hj]
  have hf : fa_fill A (cN r N) 24 = cN q (fa_fill A (cN r N) 24) := by
    refine cN_ext ?_ ?_ ?_ ?_ ?_ (fun m hm => ?_) (fun m hm => ?_) (fun m hm => ?_) (fun _ _ => rfl)
    · rw [hc _ (by omega)]; rfl
    · rw [hc _ (by omega)]; rfl
    · rw [hc _ (by omega)]; rfl
    · rw [hc _ (by omega)]; rfl
    · rw [hc _ (by omega)]; rfl
    · rw [hc _ (by omega), cN_k hm]
    · rw [hc _ (by omega), cN_p hm]
    · rw [hc _ (by omega), cN_i hm]
  refine ⟨1, q, d2, P3, I3, K3, fa_fill A (cN r N) 24, G1, G2, G3, G4, fa_fill (fun j => A (24 + j)) U 112, x2, u2, ?_, ?_, k5, k6, k7, ?_, UR_copy hM c1 (fun i hi => by rw [fa_fill_in hi]) k10⟩
  · unfold m_X8_restore
    rw [if_neg (show ¬ bI true = 0 by decide)]
    simp only [cR]
    rw [e1]
    simp only [Option.bind_some]
    rw [c2, k2, k3]
    rfl
  · rw [show bI true = 1 from rfl, restore_M hF, ← hf]
  · rw [fa_fill_in (by omega), k8]
