/-! ===== EVERY CALL KEEPS INV ===== -/
theorem cP_cg {q r : AR} {P : Nat → Int32} (h1 : aM q = aM r) (h2 : aP q = aP r) : cP q P = cP r P := by unfold cP; rw [h1, h2]
theorem cI_cg {q r : AR} {I : Nat → Int32} (h1 : aM q = aM r) (h2 : aI q = aI r) : cI q I = cI r I := by unfold cI; rw [h1, h2]
set_option maxRecDepth 20000 in
theorem I_man {σ : CST} {μ : MST} {F : Nat} (hF : 600000 ≤ F) (hI : INV σ μ) (p0 : Int32) (p1 : Int32) (p2 : Int32) : ∃ (o8 : Int32 × (Nat → Int32) × (Nat → Int32) × (Nat → Int32) × Int32 × Int32) (o9 : Int32 × (Nat → Int32) × Int32), m_X8_man F ((z_now σ).1) ((z_now σ).2.1) ((z_now σ).2.2.2.2.1) ((z_now σ).2.2.2.2.2.1) ((z_und σ).2.2.2.2.2) p0 p1 p2 = some o8 ∧ m_X9_man F ((y_now μ)) ((y_undos μ)) p0 p1 p2 = some o9 ∧ o8.1 = o9.1 ∧ INV (U8_man σ o8) (U9_man μ o9) := by
  obtain ⟨n, ⟨RP, RI, RN, RD, nx, kn⟩, k, kg, ik, tl, td, tn, tp, tf, ot, oc, om, we, w1, w2, w3, w4, ask, pt, sh, bs, ac, an, ms, mp, it, la, si, frm, mrk⟩ := σ
  obtain ⟨mn, mt, mty, mpl, mfa, mrl, mrd, md, mu, mas, mco, mbc, mbs, mbp, mke, mku, mik, ml, msz, mit, mmo⟩ := μ
  obtain ⟨⟨r, d, P, I, K, N, u, x, e1, e2, e3, e4, e5, hw, hN, hd, h5, hU⟩, hK, hT, hR, hC, h0⟩ := hI
  have e1 : n = cR r d P I K := e1
  have e2 : nx = nI x := e2
  have e3 : kn = nI u := e3
  have e4 : mn = cN r N := e4
  have e5 : mu = nI u := e5
  subst e1; subst e2; subst e3; subst e4; subst e5
  have hU : UR r u x RP RI RN RD md := hU
  have hR : RWS la si it ml msz mit := hR
  have hC : PCa ask ac an ms mp bs := hC
  have hK : InvK k kg ik mke mku mik := hK
  have hT : InvT tl tn mt mty := hT
  obtain ⟨tP, tI, tN, tD, tK, tm, ts, tt, th⟩ := td
  have h0 : tN = 0 := h0
  have hN0 : InvN (cR r d P I K) (RP, RI, RN, RD, nI x, nI u) (cN r N) (nI u) md := ⟨r, d, P, I, K, N, u, x, rfl, rfl, rfl, rfl, rfl, hw, hN, hd, h5, hU⟩
  obtain ⟨v, q, u2, h8, h9, hq, f1, f2, f3, f4, hU2⟩ := S_man (P := P) (I := I) (K := K) (N := N) hw (Nat.le_trans (by decide) hF) hU p0 p1 p2
  refine ⟨_, _, h8, h9, rfl, ?_⟩
  dsimp only [INV, U8_man, U9_man, z_now, z_und, z_kR, z_kU, z_iK, z_let, z_told, z_len, z_lan, z_siz, z_itm, z_ask, z_aco, z_ani, z_mst, z_mpa, z_bsh, y_now, y_undos, y_undone, y_kept, y_keptUndos, y_isKept, y_tape, y_typed, y_lanes, y_sizes, y_items]
  exact ⟨⟨q, d, P, I, K, N, u2, x, by
    show ((cP q P, cI q I, nI (aN r), d, cK q K, nI (aM q), nI (aS r), nI (aT r), nI (aH r)) : RT) = cR q d P I K
    unfold cR; rw [f1, f2, f3, f4], rfl, rfl, rfl, rfl, hq, by rw [f4]; exact hN, hd, h5, hU2⟩, hK, hT, hR, hC, h0⟩
set_option maxRecDepth 20000 in
theorem I_rule {σ : CST} {μ : MST} {F : Nat} (hF : 600000 ≤ F) (hI : INV σ μ) (p0 : Int32) (p1 : Int32) : ∃ (o8 : Int32 × Int32 × Int32 × Int32) (o9 : Int32 × (Nat → Int32)), m_X8_rule ((z_now σ).2.2.2.2.2.2.1) ((z_now σ).2.2.2.2.2.2.2.1) ((z_now σ).2.2.2.2.2.2.2.2) p0 p1 = some o8 ∧ m_X9_rule ((y_now μ)) p0 p1 = some o9 ∧ o8.1 = o9.1 ∧ INV (U8_rule σ o8) (U9_rule μ o9) := by
  obtain ⟨n, ⟨RP, RI, RN, RD, nx, kn⟩, k, kg, ik, tl, td, tn, tp, tf, ot, oc, om, we, w1, w2, w3, w4, ask, pt, sh, bs, ac, an, ms, mp, it, la, si, frm, mrk⟩ := σ
  obtain ⟨mn, mt, mty, mpl, mfa, mrl, mrd, md, mu, mas, mco, mbc, mbs, mbp, mke, mku, mik, ml, msz, mit, mmo⟩ := μ
  obtain ⟨⟨r, d, P, I, K, N, u, x, e1, e2, e3, e4, e5, hw, hN, hd, h5, hU⟩, hK, hT, hR, hC, h0⟩ := hI
  have e1 : n = cR r d P I K := e1
  have e2 : nx = nI x := e2
  have e3 : kn = nI u := e3
  have e4 : mn = cN r N := e4
  have e5 : mu = nI u := e5
  subst e1; subst e2; subst e3; subst e4; subst e5
  have hU : UR r u x RP RI RN RD md := hU
  have hR : RWS la si it ml msz mit := hR
  have hC : PCa ask ac an ms mp bs := hC
  have hK : InvK k kg ik mke mku mik := hK
  have hT : InvT tl tn mt mty := hT
  obtain ⟨tP, tI, tN, tD, tK, tm, ts, tt, th⟩ := td
  have h0 : tN = 0 := h0
  have hN0 : InvN (cR r d P I K) (RP, RI, RN, RD, nI x, nI u) (cN r N) (nI u) md := ⟨r, d, P, I, K, N, u, x, rfl, rfl, rfl, rfl, rfl, hw, hN, hd, h5, hU⟩
  obtain ⟨v, q, h8, h9, hq, f1, f2, f3, f4, f5⟩ := S_rule (N := N) hw p0 p1
  refine ⟨_, _, h8, h9, rfl, ?_⟩
  dsimp only [INV, U8_rule, U9_rule, z_now, z_und, z_kR, z_kU, z_iK, z_let, z_told, z_len, z_lan, z_siz, z_itm, z_ask, z_aco, z_ani, z_mst, z_mpa, z_bsh, y_now, y_undos, y_undone, y_kept, y_keptUndos, y_isKept, y_tape, y_typed, y_lanes, y_sizes, y_items]
  exact ⟨⟨q, d, P, I, K, N, u, x, by
    show ((cP r P, cI r I, nI (aN r), d, cK r K, nI (aM r), nI (aS q), nI (aT q), nI (aH q)) : RT) = cR q d P I K
    unfold cR; rw [cP_cg f1 f3, cI_cg f1 f4, cK_cong f1 f2, f1, f5], rfl, rfl, rfl, rfl, hq, by rw [f5]; exact hN, hd, h5, UR_rim f1 f2 hU⟩, hK, hT, hR, hC, h0⟩
set_option maxRecDepth 20000 in
theorem I_of {σ : CST} {μ : MST} {F : Nat} (hF : 600000 ≤ F) (hI : INV σ μ) (p0 : Int32) (p1 : Int32) : ∃ (o8 : Int32) (o9 : Int32), m_X8_of F ((z_now σ).1) ((z_now σ).2.1) ((z_now σ).2.2.1) ((z_now σ).2.2.2.2.1) ((z_now σ).2.2.2.2.2.1) p0 p1 = some o8 ∧ m_X9_of F ((y_now μ)) p0 p1 = some o9 ∧ o8 = o9 ∧ INV σ μ := by
  obtain ⟨n, ⟨RP, RI, RN, RD, nx, kn⟩, k, kg, ik, tl, td, tn, tp, tf, ot, oc, om, we, w1, w2, w3, w4, ask, pt, sh, bs, ac, an, ms, mp, it, la, si, frm, mrk⟩ := σ
  obtain ⟨mn, mt, mty, mpl, mfa, mrl, mrd, md, mu, mas, mco, mbc, mbs, mbp, mke, mku, mik, ml, msz, mit, mmo⟩ := μ
  obtain ⟨⟨r, d, P, I, K, N, u, x, e1, e2, e3, e4, e5, hw, hN, hd, h5, hU⟩, hK, hT, hR, hC, h0⟩ := hI
  have e1 : n = cR r d P I K := e1
  have e2 : nx = nI x := e2
  have e3 : kn = nI u := e3
  have e4 : mn = cN r N := e4
  have e5 : mu = nI u := e5
  subst e1; subst e2; subst e3; subst e4; subst e5
  have hU : UR r u x RP RI RN RD md := hU
  have hR : RWS la si it ml msz mit := hR
  have hC : PCa ask ac an ms mp bs := hC
  have hK : InvK k kg ik mke mku mik := hK
  have hT : InvT tl tn mt mty := hT
  obtain ⟨tP, tI, tN, tD, tK, tm, ts, tt, th⟩ := td
  have h0 : tN = 0 := h0
  have hN0 : InvN (cR r d P I K) (RP, RI, RN, RD, nI x, nI u) (cN r N) (nI u) md := ⟨r, d, P, I, K, N, u, x, rfl, rfl, rfl, rfl, rfl, hw, hN, hd, h5, hU⟩
  obtain ⟨v, h8, h9⟩ := S_of (P := P) (I := I) (K := K) (N := N) hw (Nat.le_trans (by decide) hF) p0 p1
  refine ⟨v, v, h8, h9, rfl, ?_⟩
  dsimp only [INV, z_now, z_und, z_kR, z_kU, z_iK, z_let, z_told, z_len, z_lan, z_siz, z_itm, z_ask, z_aco, z_ani, z_mst, z_mpa, z_bsh, y_now, y_undos, y_undone, y_kept, y_keptUndos, y_isKept, y_tape, y_typed, y_lanes, y_sizes, y_items]
  exact ⟨hN0, hK, hT, hR, hC, h0⟩
set_option maxRecDepth 20000 in
theorem I_at {σ : CST} {μ : MST} {F : Nat} (hF : 600000 ≤ F) (hI : INV σ μ) (p0 : Int32) (p1 : Int32) : ∃ (o8 : Int32) (o9 : Int32), m_X8_at F ((z_now σ).2.1) ((z_now σ).2.2.1) ((z_now σ).2.2.2.2.2.1) ((z_now σ).2.2.2.2.2.2.1) ((z_now σ).2.2.2.2.2.2.2.1) ((z_now σ).2.2.2.2.2.2.2.2) p0 p1 = some o8 ∧ m_X9_at F ((y_now μ)) p0 p1 = some o9 ∧ o8 = o9 ∧ INV σ μ := by
  obtain ⟨n, ⟨RP, RI, RN, RD, nx, kn⟩, k, kg, ik, tl, td, tn, tp, tf, ot, oc, om, we, w1, w2, w3, w4, ask, pt, sh, bs, ac, an, ms, mp, it, la, si, frm, mrk⟩ := σ
  obtain ⟨mn, mt, mty, mpl, mfa, mrl, mrd, md, mu, mas, mco, mbc, mbs, mbp, mke, mku, mik, ml, msz, mit, mmo⟩ := μ
  obtain ⟨⟨r, d, P, I, K, N, u, x, e1, e2, e3, e4, e5, hw, hN, hd, h5, hU⟩, hK, hT, hR, hC, h0⟩ := hI
  have e1 : n = cR r d P I K := e1
  have e2 : nx = nI x := e2
  have e3 : kn = nI u := e3
  have e4 : mn = cN r N := e4
  have e5 : mu = nI u := e5
  subst e1; subst e2; subst e3; subst e4; subst e5
  have hU : UR r u x RP RI RN RD md := hU
  have hR : RWS la si it ml msz mit := hR
  have hC : PCa ask ac an ms mp bs := hC
  have hK : InvK k kg ik mke mku mik := hK
  have hT : InvT tl tn mt mty := hT
  obtain ⟨tP, tI, tN, tD, tK, tm, ts, tt, th⟩ := td
  have h0 : tN = 0 := h0
  have hN0 : InvN (cR r d P I K) (RP, RI, RN, RD, nI x, nI u) (cN r N) (nI u) md := ⟨r, d, P, I, K, N, u, x, rfl, rfl, rfl, rfl, rfl, hw, hN, hd, h5, hU⟩
  obtain ⟨v, h8, h9⟩ := S_at (I := I) (N := N) hw (Nat.le_trans (by decide) hF) p0 p1
  refine ⟨v, v, h8, h9, rfl, ?_⟩
  dsimp only [INV, z_now, z_und, z_kR, z_kU, z_iK, z_let, z_told, z_len, z_lan, z_siz, z_itm, z_ask, z_aco, z_ani, z_mst, z_mpa, z_bsh, y_now, y_undos, y_undone, y_kept, y_keptUndos, y_isKept, y_tape, y_typed, y_lanes, y_sizes, y_items]
  exact ⟨hN0, hK, hT, hR, hC, h0⟩
set_option maxRecDepth 20000 in
theorem I_wave {σ : CST} {μ : MST} {F : Nat} (hF : 600000 ≤ F) (hI : INV σ μ) (p0 : Int32) (p1 : Int32) : ∃ (o8 : Int32) (o9 : Int32), m_X8_wave ((z_now σ).2.2.1) ((z_now σ).2.2.2.2.2.2.1) ((z_now σ).2.2.2.2.2.2.2.1) ((z_now σ).2.2.2.2.2.2.2.2) p0 p1 = some o8 ∧ m_X9_wave ((y_now μ)) p0 p1 = some o9 ∧ o8 = o9 ∧ INV σ μ := by
  obtain ⟨n, ⟨RP, RI, RN, RD, nx, kn⟩, k, kg, ik, tl, td, tn, tp, tf, ot, oc, om, we, w1, w2, w3, w4, ask, pt, sh, bs, ac, an, ms, mp, it, la, si, frm, mrk⟩ := σ
  obtain ⟨mn, mt, mty, mpl, mfa, mrl, mrd, md, mu, mas, mco, mbc, mbs, mbp, mke, mku, mik, ml, msz, mit, mmo⟩ := μ
  obtain ⟨⟨r, d, P, I, K, N, u, x, e1, e2, e3, e4, e5, hw, hN, hd, h5, hU⟩, hK, hT, hR, hC, h0⟩ := hI
  have e1 : n = cR r d P I K := e1
  have e2 : nx = nI x := e2
  have e3 : kn = nI u := e3
  have e4 : mn = cN r N := e4
  have e5 : mu = nI u := e5
  subst e1; subst e2; subst e3; subst e4; subst e5
  have hU : UR r u x RP RI RN RD md := hU
  have hR : RWS la si it ml msz mit := hR
  have hC : PCa ask ac an ms mp bs := hC
  have hK : InvK k kg ik mke mku mik := hK
  have hT : InvT tl tn mt mty := hT
  obtain ⟨tP, tI, tN, tD, tK, tm, ts, tt, th⟩ := td
  have h0 : tN = 0 := h0
  have hN0 : InvN (cR r d P I K) (RP, RI, RN, RD, nI x, nI u) (cN r N) (nI u) md := ⟨r, d, P, I, K, N, u, x, rfl, rfl, rfl, rfl, rfl, hw, hN, hd, h5, hU⟩
  obtain ⟨v, h8, h9⟩ := S_wave (N := N) hw p0 p1
  refine ⟨v, v, h8, h9, rfl, ?_⟩
  dsimp only [INV, z_now, z_und, z_kR, z_kU, z_iK, z_let, z_told, z_len, z_lan, z_siz, z_itm, z_ask, z_aco, z_ani, z_mst, z_mpa, z_bsh, y_now, y_undos, y_undone, y_kept, y_keptUndos, y_isKept, y_tape, y_typed, y_lanes, y_sizes, y_items]
  exact ⟨hN0, hK, hT, hR, hC, h0⟩
set_option maxRecDepth 20000 in
theorem I_held {σ : CST} {μ : MST} {F : Nat} (hF : 600000 ≤ F) (hI : INV σ μ) (p0 : Int32) : ∃ (o8 : Int32) (o9 : Int32), m_X8_held F ((z_now σ).2.1) ((z_now σ).2.2.2.2.2.1) p0 = some o8 ∧ m_X9_held F ((y_now μ)) p0 = some o9 ∧ o8 = o9 ∧ INV σ μ := by
  obtain ⟨n, ⟨RP, RI, RN, RD, nx, kn⟩, k, kg, ik, tl, td, tn, tp, tf, ot, oc, om, we, w1, w2, w3, w4, ask, pt, sh, bs, ac, an, ms, mp, it, la, si, frm, mrk⟩ := σ
  obtain ⟨mn, mt, mty, mpl, mfa, mrl, mrd, md, mu, mas, mco, mbc, mbs, mbp, mke, mku, mik, ml, msz, mit, mmo⟩ := μ
  obtain ⟨⟨r, d, P, I, K, N, u, x, e1, e2, e3, e4, e5, hw, hN, hd, h5, hU⟩, hK, hT, hR, hC, h0⟩ := hI
  have e1 : n = cR r d P I K := e1
  have e2 : nx = nI x := e2
  have e3 : kn = nI u := e3
  have e4 : mn = cN r N := e4
  have e5 : mu = nI u := e5
  subst e1; subst e2; subst e3; subst e4; subst e5
  have hU : UR r u x RP RI RN RD md := hU
  have hR : RWS la si it ml msz mit := hR
  have hC : PCa ask ac an ms mp bs := hC
  have hK : InvK k kg ik mke mku mik := hK
  have hT : InvT tl tn mt mty := hT
  obtain ⟨tP, tI, tN, tD, tK, tm, ts, tt, th⟩ := td
  have h0 : tN = 0 := h0
  have hN0 : InvN (cR r d P I K) (RP, RI, RN, RD, nI x, nI u) (cN r N) (nI u) md := ⟨r, d, P, I, K, N, u, x, rfl, rfl, rfl, rfl, rfl, hw, hN, hd, h5, hU⟩
  obtain ⟨v, h8, h9⟩ := S_held (I := I) (N := N) hw (Nat.le_trans (by decide) hF) p0
  refine ⟨v, v, h8, h9, rfl, ?_⟩
  dsimp only [INV, z_now, z_und, z_kR, z_kU, z_iK, z_let, z_told, z_len, z_lan, z_siz, z_itm, z_ask, z_aco, z_ani, z_mst, z_mpa, z_bsh, y_now, y_undos, y_undone, y_kept, y_keptUndos, y_isKept, y_tape, y_typed, y_lanes, y_sizes, y_items]
  exact ⟨hN0, hK, hT, hR, hC, h0⟩
set_option maxRecDepth 20000 in
theorem I_type {σ : CST} {μ : MST} {F : Nat} (hF : 600000 ≤ F) (hI : INV σ μ) (p0 : Int32) : ∃ (o8 : Int32 × (Nat → Int32) × Int32) (o9 : Int32 × (Nat → Int32) × Int32), m_X8_type ((z_let σ)) ((z_len σ)) p0 = some o8 ∧ m_X9_type ((y_tape μ)) ((y_typed μ)) p0 = some o9 ∧ o8.1 = o9.1 ∧ INV (U8_type σ o8) (U9_type μ o9) := by
  obtain ⟨n, ⟨RP, RI, RN, RD, nx, kn⟩, k, kg, ik, tl, td, tn, tp, tf, ot, oc, om, we, w1, w2, w3, w4, ask, pt, sh, bs, ac, an, ms, mp, it, la, si, frm, mrk⟩ := σ
  obtain ⟨mn, mt, mty, mpl, mfa, mrl, mrd, md, mu, mas, mco, mbc, mbs, mbp, mke, mku, mik, ml, msz, mit, mmo⟩ := μ
  obtain ⟨⟨r, d, P, I, K, N, u, x, e1, e2, e3, e4, e5, hw, hN, hd, h5, hU⟩, hK, hT, hR, hC, h0⟩ := hI
  have e1 : n = cR r d P I K := e1
  have e2 : nx = nI x := e2
  have e3 : kn = nI u := e3
  have e4 : mn = cN r N := e4
  have e5 : mu = nI u := e5
  subst e1; subst e2; subst e3; subst e4; subst e5
  have hU : UR r u x RP RI RN RD md := hU
  have hR : RWS la si it ml msz mit := hR
  have hC : PCa ask ac an ms mp bs := hC
  have hK : InvK k kg ik mke mku mik := hK
  have hT : InvT tl tn mt mty := hT
  obtain ⟨tP, tI, tN, tD, tK, tm, ts, tt, th⟩ := td
  have h0 : tN = 0 := h0
  have hN0 : InvN (cR r d P I K) (RP, RI, RN, RD, nI x, nI u) (cN r N) (nI u) md := ⟨r, d, P, I, K, N, u, x, rfl, rfl, rfl, rfl, rfl, hw, hN, hd, h5, hU⟩
  obtain ⟨L, l1, l2, hT⟩ := hT
  have l1 : tn = nI L := l1
  have l2 : mty = nI L := l2
  subst l1; subst l2
  have hT : TP L tl mt := hT
  obtain ⟨v, L2, a2, b2, h8, h9, hT2⟩ := S_type hT p0
  refine ⟨_, _, h8, h9, rfl, ?_⟩
  dsimp only [INV, U8_type, U9_type, z_now, z_und, z_kR, z_kU, z_iK, z_let, z_told, z_len, z_lan, z_siz, z_itm, z_ask, z_aco, z_ani, z_mst, z_mpa, z_bsh, y_now, y_undos, y_undone, y_kept, y_keptUndos, y_isKept, y_tape, y_typed, y_lanes, y_sizes, y_items]
  exact ⟨hN0, hK, ⟨L2, rfl, rfl, hT2⟩, hR, hC, h0⟩
set_option maxRecDepth 20000 in
theorem I_rim {σ : CST} {μ : MST} {F : Nat} (hF : 600000 ≤ F) (hI : INV σ μ) : ∃ (o8 : Int32 × (Nat → Int32) × (Nat → Int32) × Int32 × Int32 × (Nat → Int32) × Int32 × Int32 × Int32 × Int32 × Int32 × (Nat → Int32) × (Nat → Int32) × (Nat → Int32) × Int32 × Int32 × Int32 × Int32 × Int32 × Int32 × Int32) (o9 : Int32 × (Nat → Int32) × Int32 × Int32 × Int32 × (Nat → Int32) × (Nat → Int32) × Int32), m_X8_rim F ((z_now σ).1) ((z_now σ).2.1) ((z_now σ).2.2.1) ((z_now σ).2.2.2.1) ((z_now σ).2.2.2.2.1) ((z_now σ).2.2.2.2.2.1) ((z_now σ).2.2.2.2.2.2.1) ((z_now σ).2.2.2.2.2.2.2.1) ((z_now σ).2.2.2.2.2.2.2.2) ((z_und σ).2.2.2.2.2) ((z_let σ)) ((z_told σ).1) ((z_told σ).2.1) ((z_told σ).2.2.1) ((z_told σ).2.2.2.1) ((z_told σ).2.2.2.2.1) ((z_told σ).2.2.2.2.2.1) ((z_told σ).2.2.2.2.2.2.1) ((z_told σ).2.2.2.2.2.2.2.1) ((z_told σ).2.2.2.2.2.2.2.2) ((z_len σ)) ((z_plc σ)) ((z_flt σ)) = some o8 ∧ m_X9_rim F ((y_now μ)) ((y_tape μ)) ((y_typed μ)) ((y_place μ)) ((y_isFault μ)) ((y_readLaw μ)) ((y_read μ)) ((y_undos μ)) = some o9 ∧ o8.1 = o9.1 ∧ INV (U8_rim σ o8) (U9_rim μ o9) := by
  obtain ⟨n, ⟨RP, RI, RN, RD, nx, kn⟩, k, kg, ik, tl, td, tn, tp, tf, ot, oc, om, we, w1, w2, w3, w4, ask, pt, sh, bs, ac, an, ms, mp, it, la, si, frm, mrk⟩ := σ
  obtain ⟨mn, mt, mty, mpl, mfa, mrl, mrd, md, mu, mas, mco, mbc, mbs, mbp, mke, mku, mik, ml, msz, mit, mmo⟩ := μ
  obtain ⟨⟨r, d, P, I, K, N, u, x, e1, e2, e3, e4, e5, hw, hN, hd, h5, hU⟩, hK, hT, hR, hC, h0⟩ := hI
  have e1 : n = cR r d P I K := e1
  have e2 : nx = nI x := e2
  have e3 : kn = nI u := e3
  have e4 : mn = cN r N := e4
  have e5 : mu = nI u := e5
  subst e1; subst e2; subst e3; subst e4; subst e5
  have hU : UR r u x RP RI RN RD md := hU
  have hR : RWS la si it ml msz mit := hR
  have hC : PCa ask ac an ms mp bs := hC
  have hK : InvK k kg ik mke mku mik := hK
  have hT : InvT tl tn mt mty := hT
  obtain ⟨tP, tI, tN, tD, tK, tm, ts, tt, th⟩ := td
  have h0 : tN = 0 := h0
  have hN0 : InvN (cR r d P I K) (RP, RI, RN, RD, nI x, nI u) (cN r N) (nI u) md := ⟨r, d, P, I, K, N, u, x, rfl, rfl, rfl, rfl, rfl, hw, hN, hd, h5, hU⟩
  obtain ⟨L, l1, l2, hT⟩ := hT
  have l1 : tn = nI L := l1
  have l2 : mty = nI L := l2
  subst l1; subst l2
  have hT : TP L tl mt := hT
  subst h0
  obtain ⟨v, q, P2, I2, K2, N2, u2, a1, a2, a3, a4, a5, a6, a7, a8, a9, m1, m2, m3, m4, h8, h9, hq, hq9, g5, hU2⟩ := S_rim (P := P) (I := I) (K := K) (tP := tP) (tI := tI) (tK := tK) (td := tD) (rl := mrl) (rd := mrd) hw hN h5 hT (Nat.le_trans (by decide) hF) hU tm ts tt th tp tf mpl mfa
  refine ⟨_, _, h8, h9, rfl, ?_⟩
  dsimp only [INV, U8_rim, U9_rim, z_now, z_und, z_kR, z_kU, z_iK, z_let, z_told, z_len, z_lan, z_siz, z_itm, z_ask, z_aco, z_ani, z_mst, z_mpa, z_bsh, y_now, y_undos, y_undone, y_kept, y_keptUndos, y_isKept, y_tape, y_typed, y_lanes, y_sizes, y_items]
  exact ⟨⟨q, d, P2, I2, K2, N2, u2, x, rfl, rfl, rfl, rfl, rfl, hq, hq9, hd, g5, hU2⟩, hK, InvT_0 _ _, hR, hC, rfl⟩
set_option maxRecDepth 20000 in
theorem I_count {σ : CST} {μ : MST} {F : Nat} (hF : 600000 ≤ F) (hI : INV σ μ) (p0 : Int32) : ∃ (o8 : Int32) (o9 : Int32), m_X8_count F ((z_now σ).1) ((z_now σ).2.1) ((z_now σ).2.2.1) ((z_now σ).2.2.2.2.2.1) ((z_now σ).2.2.2.2.2.2.1) ((z_now σ).2.2.2.2.2.2.2.1) ((z_now σ).2.2.2.2.2.2.2.2) ((z_und σ).2.2.2.2.2) p0 = some o8 ∧ m_X9_count F ((y_now μ)) ((y_undos μ)) p0 = some o9 ∧ o8 = o9 ∧ INV σ μ := by
  obtain ⟨n, ⟨RP, RI, RN, RD, nx, kn⟩, k, kg, ik, tl, td, tn, tp, tf, ot, oc, om, we, w1, w2, w3, w4, ask, pt, sh, bs, ac, an, ms, mp, it, la, si, frm, mrk⟩ := σ
  obtain ⟨mn, mt, mty, mpl, mfa, mrl, mrd, md, mu, mas, mco, mbc, mbs, mbp, mke, mku, mik, ml, msz, mit, mmo⟩ := μ
  obtain ⟨⟨r, d, P, I, K, N, u, x, e1, e2, e3, e4, e5, hw, hN, hd, h5, hU⟩, hK, hT, hR, hC, h0⟩ := hI
  have e1 : n = cR r d P I K := e1
  have e2 : nx = nI x := e2
  have e3 : kn = nI u := e3
  have e4 : mn = cN r N := e4
  have e5 : mu = nI u := e5
  subst e1; subst e2; subst e3; subst e4; subst e5
  have hU : UR r u x RP RI RN RD md := hU
  have hR : RWS la si it ml msz mit := hR
  have hC : PCa ask ac an ms mp bs := hC
  have hK : InvK k kg ik mke mku mik := hK
  have hT : InvT tl tn mt mty := hT
  obtain ⟨tP, tI, tN, tD, tK, tm, ts, tt, th⟩ := td
  have h0 : tN = 0 := h0
  have hN0 : InvN (cR r d P I K) (RP, RI, RN, RD, nI x, nI u) (cN r N) (nI u) md := ⟨r, d, P, I, K, N, u, x, rfl, rfl, rfl, rfl, rfl, hw, hN, hd, h5, hU⟩
  obtain ⟨v, h8, h9⟩ := S_count (P := P) (I := I) (N := N) (u := nI u) hw (Nat.le_trans (by decide) hF) p0
  refine ⟨v, v, h8, h9, rfl, ?_⟩
  dsimp only [INV, z_now, z_und, z_kR, z_kU, z_iK, z_let, z_told, z_len, z_lan, z_siz, z_itm, z_ask, z_aco, z_ani, z_mst, z_mpa, z_bsh, y_now, y_undos, y_undone, y_kept, y_keptUndos, y_isKept, y_tape, y_typed, y_lanes, y_sizes, y_items]
  exact ⟨hN0, hK, hT, hR, hC, h0⟩
set_option maxRecDepth 20000 in
theorem I_nights {σ : CST} {μ : MST} {F : Nat} (hF : 600000 ≤ F) (hI : INV σ μ) (p0 : Int32) : ∃ (o8 : Int32 × (Nat → Int32) × (Nat → Int32) × Int32 × Int32 × (Nat → Nat → Int32) × (Nat → Nat → Int32) × (Nat → Int32) × (Nat → Int32) × Int32 × Int32) (o9 : Int32 × (Nat → Int32) × (Nat → Int32) × Int32), m_X8_nights F ((z_now σ).1) ((z_now σ).2.1) ((z_now σ).2.2.1) ((z_now σ).2.2.2.1) ((z_now σ).2.2.2.2.1) ((z_now σ).2.2.2.2.2.1) ((z_now σ).2.2.2.2.2.2.1) ((z_now σ).2.2.2.2.2.2.2.1) ((z_now σ).2.2.2.2.2.2.2.2) ((z_und σ).1) ((z_und σ).2.1) ((z_und σ).2.2.1) ((z_und σ).2.2.2.1) ((z_und σ).2.2.2.2.1) ((z_und σ).2.2.2.2.2) p0 = some o8 ∧ m_X9_nights F ((y_now μ)) ((y_undone μ)) ((y_undos μ)) p0 = some o9 ∧ o8.1 = o9.1 ∧ INV (U8_nights σ o8) (U9_nights μ o9) := by
  obtain ⟨n, ⟨RP, RI, RN, RD, nx, kn⟩, k, kg, ik, tl, td, tn, tp, tf, ot, oc, om, we, w1, w2, w3, w4, ask, pt, sh, bs, ac, an, ms, mp, it, la, si, frm, mrk⟩ := σ
  obtain ⟨mn, mt, mty, mpl, mfa, mrl, mrd, md, mu, mas, mco, mbc, mbs, mbp, mke, mku, mik, ml, msz, mit, mmo⟩ := μ
  obtain ⟨⟨r, d, P, I, K, N, u, x, e1, e2, e3, e4, e5, hw, hN, hd, h5, hU⟩, hK, hT, hR, hC, h0⟩ := hI
  have e1 : n = cR r d P I K := e1
  have e2 : nx = nI x := e2
  have e3 : kn = nI u := e3
  have e4 : mn = cN r N := e4
  have e5 : mu = nI u := e5
  subst e1; subst e2; subst e3; subst e4; subst e5
  have hU : UR r u x RP RI RN RD md := hU
  have hR : RWS la si it ml msz mit := hR
  have hC : PCa ask ac an ms mp bs := hC
  have hK : InvK k kg ik mke mku mik := hK
  have hT : InvT tl tn mt mty := hT
  obtain ⟨tP, tI, tN, tD, tK, tm, ts, tt, th⟩ := td
  have h0 : tN = 0 := h0
  have hN0 : InvN (cR r d P I K) (RP, RI, RN, RD, nI x, nI u) (cN r N) (nI u) md := ⟨r, d, P, I, K, N, u, x, rfl, rfl, rfl, rfl, rfl, hw, hN, hd, h5, hU⟩
  obtain ⟨v, s, t, j, h8, h9, hj, q, d2, N2, RP2, RI2, RN2, RD2, U2, x2, u2, es, et, hq, ⟨f1, f2, f3, f4, f5⟩, f7, hd2, g5, hU2⟩ := S_nights (P := P) (I := I) (K := K) hw hN hd h5 (Nat.le_trans (by decide) hF) hU p0
  subst es; subst et
  refine ⟨_, _, h8, h9, rfl, ?_⟩
  dsimp only [INV, U8_nights, U9_nights, z_now, z_und, z_kR, z_kU, z_iK, z_let, z_told, z_len, z_lan, z_siz, z_itm, z_ask, z_aco, z_ani, z_mst, z_mpa, z_bsh, y_now, y_undos, y_undone, y_kept, y_keptUndos, y_isKept, y_tape, y_typed, y_lanes, y_sizes, y_items]
  exact ⟨⟨q, d2, P, I, K, N2, u2, x2, by
    show ((cP q P, cI q I, nI (aN q), d2, cK r K, nI (aM r), nI (aS r), nI (aT r), nI (aH r)) : RT) = cR q d2 P I K
    unfold cR; rw [cK_cong f1 f2, f1, f3, f4, f5], rfl, rfl, rfl, rfl, hq, by rw [f7]; exact hj, hd2, g5, hU2⟩, hK, hT, hR, hC, h0⟩
set_option maxRecDepth 20000 in
theorem I_march {σ : CST} {μ : MST} {F : Nat} (hF : 600000 ≤ F) (hI : INV σ μ) (p0 : Int32) (p1 : Int32) : ∃ (o8 : Int32 × (Nat → Int32) × (Nat → Nat → Int32) × (Nat → Nat → Int32) × (Nat → Int32) × (Nat → Int32) × Int32 × Int32) (o9 : Int32 × (Nat → Int32) × (Nat → Int32) × Int32), m_X8_march F ((z_now σ).1) ((z_now σ).2.1) ((z_now σ).2.2.1) ((z_now σ).2.2.2.1) ((z_now σ).2.2.2.2.2.1) ((z_und σ).1) ((z_und σ).2.1) ((z_und σ).2.2.1) ((z_und σ).2.2.2.1) ((z_und σ).2.2.2.2.1) ((z_und σ).2.2.2.2.2) p0 p1 = some o8 ∧ m_X9_march F ((y_now μ)) ((y_undone μ)) ((y_undos μ)) p0 p1 = some o9 ∧ o8.1 = o9.1 ∧ INV (U8_march σ o8) (U9_march μ o9) := by
  obtain ⟨n, ⟨RP, RI, RN, RD, nx, kn⟩, k, kg, ik, tl, td, tn, tp, tf, ot, oc, om, we, w1, w2, w3, w4, ask, pt, sh, bs, ac, an, ms, mp, it, la, si, frm, mrk⟩ := σ
  obtain ⟨mn, mt, mty, mpl, mfa, mrl, mrd, md, mu, mas, mco, mbc, mbs, mbp, mke, mku, mik, ml, msz, mit, mmo⟩ := μ
  obtain ⟨⟨r, d, P, I, K, N, u, x, e1, e2, e3, e4, e5, hw, hN, hd, h5, hU⟩, hK, hT, hR, hC, h0⟩ := hI
  have e1 : n = cR r d P I K := e1
  have e2 : nx = nI x := e2
  have e3 : kn = nI u := e3
  have e4 : mn = cN r N := e4
  have e5 : mu = nI u := e5
  subst e1; subst e2; subst e3; subst e4; subst e5
  have hU : UR r u x RP RI RN RD md := hU
  have hR : RWS la si it ml msz mit := hR
  have hC : PCa ask ac an ms mp bs := hC
  have hK : InvK k kg ik mke mku mik := hK
  have hT : InvT tl tn mt mty := hT
  obtain ⟨tP, tI, tN, tD, tK, tm, ts, tt, th⟩ := td
  have h0 : tN = 0 := h0
  have hN0 : InvN (cR r d P I K) (RP, RI, RN, RD, nI x, nI u) (cN r N) (nI u) md := ⟨r, d, P, I, K, N, u, x, rfl, rfl, rfl, rfl, rfl, hw, hN, hd, h5, hU⟩
  obtain ⟨v, q, RP2, RI2, RN2, RD2, U2, x2, u2, h8, h9, hq, ⟨f1, f2, f3, f4, f5⟩, f6, f7, hU2⟩ := S_march (P := P) (I := I) hw hN hd h5 (Nat.le_trans (by decide) hF) hU p0 p1
  refine ⟨_, _, h8, h9, rfl, ?_⟩
  dsimp only [INV, U8_march, U9_march, z_now, z_und, z_kR, z_kU, z_iK, z_let, z_told, z_len, z_lan, z_siz, z_itm, z_ask, z_aco, z_ani, z_mst, z_mpa, z_bsh, y_now, y_undos, y_undone, y_kept, y_keptUndos, y_isKept, y_tape, y_typed, y_lanes, y_sizes, y_items]
  exact ⟨⟨q, d, P, I, K, N, u2, x2, by
    show ((cP r P, cI q I, nI (aN r), d, cK r K, nI (aM r), nI (aS r), nI (aT r), nI (aH r)) : RT) = cR q d P I K
    unfold cR; rw [cP_cg f1 f6, cK_cong f1 f2, f1, f3, f4, f5, f7], rfl, rfl, rfl, rfl, hq, by rw [f7]; exact hN, hd, h5, hU2⟩, hK, hT, hR, hC, h0⟩
set_option maxRecDepth 20000 in
theorem I_put {σ : CST} {μ : MST} {F : Nat} (hF : 600000 ≤ F) (hI : INV σ μ) (p0 : Int32) (p1 : Int32) : ∃ (o8 : Int32 × (Nat → Int32) × (Nat → Nat → Int32) × (Nat → Nat → Int32) × (Nat → Int32) × (Nat → Int32) × Int32 × Int32) (o9 : Int32 × (Nat → Int32) × (Nat → Int32) × Int32), m_X8_put F ((z_now σ).1) ((z_now σ).2.1) ((z_now σ).2.2.1) ((z_now σ).2.2.2.1) ((z_now σ).2.2.2.2.2.1) ((z_und σ).1) ((z_und σ).2.1) ((z_und σ).2.2.1) ((z_und σ).2.2.2.1) ((z_und σ).2.2.2.2.1) ((z_und σ).2.2.2.2.2) p0 p1 = some o8 ∧ m_X9_put F ((y_now μ)) ((y_undone μ)) ((y_undos μ)) p0 p1 = some o9 ∧ o8.1 = o9.1 ∧ INV (U8_put σ o8) (U9_put μ o9) := by
  obtain ⟨n, ⟨RP, RI, RN, RD, nx, kn⟩, k, kg, ik, tl, td, tn, tp, tf, ot, oc, om, we, w1, w2, w3, w4, ask, pt, sh, bs, ac, an, ms, mp, it, la, si, frm, mrk⟩ := σ
  obtain ⟨mn, mt, mty, mpl, mfa, mrl, mrd, md, mu, mas, mco, mbc, mbs, mbp, mke, mku, mik, ml, msz, mit, mmo⟩ := μ
  obtain ⟨⟨r, d, P, I, K, N, u, x, e1, e2, e3, e4, e5, hw, hN, hd, h5, hU⟩, hK, hT, hR, hC, h0⟩ := hI
  have e1 : n = cR r d P I K := e1
  have e2 : nx = nI x := e2
  have e3 : kn = nI u := e3
  have e4 : mn = cN r N := e4
  have e5 : mu = nI u := e5
  subst e1; subst e2; subst e3; subst e4; subst e5
  have hU : UR r u x RP RI RN RD md := hU
  have hR : RWS la si it ml msz mit := hR
  have hC : PCa ask ac an ms mp bs := hC
  have hK : InvK k kg ik mke mku mik := hK
  have hT : InvT tl tn mt mty := hT
  obtain ⟨tP, tI, tN, tD, tK, tm, ts, tt, th⟩ := td
  have h0 : tN = 0 := h0
  have hN0 : InvN (cR r d P I K) (RP, RI, RN, RD, nI x, nI u) (cN r N) (nI u) md := ⟨r, d, P, I, K, N, u, x, rfl, rfl, rfl, rfl, rfl, hw, hN, hd, h5, hU⟩
  obtain ⟨v, q, RP2, RI2, RN2, RD2, U2, x2, u2, h8, h9, hq, ⟨f1, f2, f3, f4, f5⟩, f6, f7, hU2⟩ := S_put (P := P) (I := I) hw hN hd h5 (Nat.le_trans (by decide) hF) hU p0 p1
  refine ⟨_, _, h8, h9, rfl, ?_⟩
  dsimp only [INV, U8_put, U9_put, z_now, z_und, z_kR, z_kU, z_iK, z_let, z_told, z_len, z_lan, z_siz, z_itm, z_ask, z_aco, z_ani, z_mst, z_mpa, z_bsh, y_now, y_undos, y_undone, y_kept, y_keptUndos, y_isKept, y_tape, y_typed, y_lanes, y_sizes, y_items]
  exact ⟨⟨q, d, P, I, K, N, u2, x2, by
    show ((cP r P, cI q I, nI (aN r), d, cK r K, nI (aM r), nI (aS r), nI (aT r), nI (aH r)) : RT) = cR q d P I K
    unfold cR; rw [cP_cg f1 f6, cK_cong f1 f2, f1, f3, f4, f5, f7], rfl, rfl, rfl, rfl, hq, by rw [f7]; exact hN, hd, h5, hU2⟩, hK, hT, hR, hC, h0⟩
set_option maxRecDepth 20000 in
theorem I_paint {σ : CST} {μ : MST} {F : Nat} (hF : 600000 ≤ F) (hI : INV σ μ) (p0 : Int32) (p1 : Int32) : ∃ (o8 : Int32 × (Nat → Int32) × (Nat → Nat → Int32) × (Nat → Nat → Int32) × (Nat → Int32) × (Nat → Int32) × Int32 × Int32) (o9 : Int32 × (Nat → Int32) × (Nat → Int32) × Int32), m_X8_paint ((z_now σ).1) ((z_now σ).2.1) ((z_now σ).2.2.1) ((z_now σ).2.2.2.1) ((z_now σ).2.2.2.2.2.1) ((z_und σ).1) ((z_und σ).2.1) ((z_und σ).2.2.1) ((z_und σ).2.2.2.1) ((z_und σ).2.2.2.2.1) ((z_und σ).2.2.2.2.2) p0 p1 = some o8 ∧ m_X9_paint F ((y_now μ)) ((y_undone μ)) ((y_undos μ)) p0 p1 = some o9 ∧ o8.1 = o9.1 ∧ INV (U8_paint σ o8) (U9_paint μ o9) := by
  obtain ⟨n, ⟨RP, RI, RN, RD, nx, kn⟩, k, kg, ik, tl, td, tn, tp, tf, ot, oc, om, we, w1, w2, w3, w4, ask, pt, sh, bs, ac, an, ms, mp, it, la, si, frm, mrk⟩ := σ
  obtain ⟨mn, mt, mty, mpl, mfa, mrl, mrd, md, mu, mas, mco, mbc, mbs, mbp, mke, mku, mik, ml, msz, mit, mmo⟩ := μ
  obtain ⟨⟨r, d, P, I, K, N, u, x, e1, e2, e3, e4, e5, hw, hN, hd, h5, hU⟩, hK, hT, hR, hC, h0⟩ := hI
  have e1 : n = cR r d P I K := e1
  have e2 : nx = nI x := e2
  have e3 : kn = nI u := e3
  have e4 : mn = cN r N := e4
  have e5 : mu = nI u := e5
  subst e1; subst e2; subst e3; subst e4; subst e5
  have hU : UR r u x RP RI RN RD md := hU
  have hR : RWS la si it ml msz mit := hR
  have hC : PCa ask ac an ms mp bs := hC
  have hK : InvK k kg ik mke mku mik := hK
  have hT : InvT tl tn mt mty := hT
  obtain ⟨tP, tI, tN, tD, tK, tm, ts, tt, th⟩ := td
  have h0 : tN = 0 := h0
  have hN0 : InvN (cR r d P I K) (RP, RI, RN, RD, nI x, nI u) (cN r N) (nI u) md := ⟨r, d, P, I, K, N, u, x, rfl, rfl, rfl, rfl, rfl, hw, hN, hd, h5, hU⟩
  obtain ⟨v, q, RP2, RI2, RN2, RD2, U2, x2, u2, h8, h9, hq, ⟨f1, f2, f3, f4, f5⟩, f6, f7, hU2⟩ := S_paint (P := P) (I := I) hw hN hd h5 (Nat.le_trans (by decide) hF) hU p0 p1
  refine ⟨_, _, h8, h9, rfl, ?_⟩
  dsimp only [INV, U8_paint, U9_paint, z_now, z_und, z_kR, z_kU, z_iK, z_let, z_told, z_len, z_lan, z_siz, z_itm, z_ask, z_aco, z_ani, z_mst, z_mpa, z_bsh, y_now, y_undos, y_undone, y_kept, y_keptUndos, y_isKept, y_tape, y_typed, y_lanes, y_sizes, y_items]
  exact ⟨⟨q, d, P, I, K, N, u2, x2, by
    show ((cP q P, cI r I, nI (aN r), d, cK r K, nI (aM r), nI (aS r), nI (aT r), nI (aH r)) : RT) = cR q d P I K
    unfold cR; rw [cI_cg f1 f6, cK_cong f1 f2, f1, f3, f4, f5, f7], rfl, rfl, rfl, rfl, hq, by rw [f7]; exact hN, hd, h5, hU2⟩, hK, hT, hR, hC, h0⟩
set_option maxRecDepth 20000 in
theorem I_drift {σ : CST} {μ : MST} {F : Nat} (hF : 600000 ≤ F) (hI : INV σ μ) (p0 : Int32) : ∃ (o8 : Int32 × (Nat → Int32) × (Nat → Int32) × Int32 × Int32 × (Nat → Nat → Int32) × (Nat → Nat → Int32) × (Nat → Int32) × (Nat → Int32) × Int32 × Int32) (o9 : Int32 × (Nat → Int32) × (Nat → Int32) × Int32), m_X8_drift F ((z_now σ).1) ((z_now σ).2.1) ((z_now σ).2.2.1) ((z_now σ).2.2.2.1) ((z_now σ).2.2.2.2.1) ((z_now σ).2.2.2.2.2.1) ((z_now σ).2.2.2.2.2.2.1) ((z_now σ).2.2.2.2.2.2.2.1) ((z_now σ).2.2.2.2.2.2.2.2) ((z_und σ).1) ((z_und σ).2.1) ((z_und σ).2.2.1) ((z_und σ).2.2.2.1) ((z_und σ).2.2.2.2.1) ((z_und σ).2.2.2.2.2) p0 = some o8 ∧ m_X9_drift F ((y_now μ)) ((y_undone μ)) ((y_undos μ)) p0 = some o9 ∧ o8.1 = o9.1 ∧ INV (U8_drift σ o8) (U9_drift μ o9) := by
  obtain ⟨n, ⟨RP, RI, RN, RD, nx, kn⟩, k, kg, ik, tl, td, tn, tp, tf, ot, oc, om, we, w1, w2, w3, w4, ask, pt, sh, bs, ac, an, ms, mp, it, la, si, frm, mrk⟩ := σ
  obtain ⟨mn, mt, mty, mpl, mfa, mrl, mrd, md, mu, mas, mco, mbc, mbs, mbp, mke, mku, mik, ml, msz, mit, mmo⟩ := μ
  obtain ⟨⟨r, d, P, I, K, N, u, x, e1, e2, e3, e4, e5, hw, hN, hd, h5, hU⟩, hK, hT, hR, hC, h0⟩ := hI
  have e1 : n = cR r d P I K := e1
  have e2 : nx = nI x := e2
  have e3 : kn = nI u := e3
  have e4 : mn = cN r N := e4
  have e5 : mu = nI u := e5
  subst e1; subst e2; subst e3; subst e4; subst e5
  have hU : UR r u x RP RI RN RD md := hU
  have hR : RWS la si it ml msz mit := hR
  have hC : PCa ask ac an ms mp bs := hC
  have hK : InvK k kg ik mke mku mik := hK
  have hT : InvT tl tn mt mty := hT
  obtain ⟨tP, tI, tN, tD, tK, tm, ts, tt, th⟩ := td
  have h0 : tN = 0 := h0
  have hN0 : InvN (cR r d P I K) (RP, RI, RN, RD, nI x, nI u) (cN r N) (nI u) md := ⟨r, d, P, I, K, N, u, x, rfl, rfl, rfl, rfl, rfl, hw, hN, hd, h5, hU⟩
  obtain ⟨v, s, t, j, h8, h9, hj, q, d2, N2, RP2, RI2, RN2, RD2, U2, x2, u2, es, et, hq, ⟨f1, f2, f3, f4, f5⟩, f7, hd2, g5, hU2⟩ := S_drift (P := P) (I := I) (K := K) hw hN hd h5 (Nat.le_trans (by decide) hF) hU p0
  subst es; subst et
  refine ⟨_, _, h8, h9, rfl, ?_⟩
  dsimp only [INV, U8_drift, U9_drift, z_now, z_und, z_kR, z_kU, z_iK, z_let, z_told, z_len, z_lan, z_siz, z_itm, z_ask, z_aco, z_ani, z_mst, z_mpa, z_bsh, y_now, y_undos, y_undone, y_kept, y_keptUndos, y_isKept, y_tape, y_typed, y_lanes, y_sizes, y_items]
  exact ⟨⟨q, d2, P, I, K, N2, u2, x2, by
    show ((cP q P, cI q I, nI (aN q), d2, cK r K, nI (aM r), nI (aS r), nI (aT r), nI (aH r)) : RT) = cR q d2 P I K
    unfold cR; rw [cK_cong f1 f2, f1, f3, f4, f5], rfl, rfl, rfl, rfl, hq, by rw [f7]; exact hj, hd2, g5, hU2⟩, hK, hT, hR, hC, h0⟩
set_option maxRecDepth 20000 in
theorem I_undo {σ : CST} {μ : MST} {F : Nat} (hF : 600000 ≤ F) (hI : INV σ μ) : ∃ (o8 : Int32 × (Nat → Int32) × (Nat → Int32) × Int32 × Int32 × Int32 × Int32) (o9 : Int32 × (Nat → Int32) × Int32), m_X8_undo ((z_now σ).1) ((z_now σ).2.1) ((z_now σ).2.2.1) ((z_now σ).2.2.2.1) ((z_und σ).1) ((z_und σ).2.1) ((z_und σ).2.2.1) ((z_und σ).2.2.2.1) ((z_und σ).2.2.2.2.1) ((z_und σ).2.2.2.2.2) = some o8 ∧ m_X9_undo F ((y_now μ)) ((y_undone μ)) ((y_undos μ)) = some o9 ∧ o8.1 = o9.1 ∧ INV (U8_undo σ o8) (U9_undo μ o9) := by
  obtain ⟨n, ⟨RP, RI, RN, RD, nx, kn⟩, k, kg, ik, tl, td, tn, tp, tf, ot, oc, om, we, w1, w2, w3, w4, ask, pt, sh, bs, ac, an, ms, mp, it, la, si, frm, mrk⟩ := σ
  obtain ⟨mn, mt, mty, mpl, mfa, mrl, mrd, md, mu, mas, mco, mbc, mbs, mbp, mke, mku, mik, ml, msz, mit, mmo⟩ := μ
  obtain ⟨⟨r, d, P, I, K, N, u, x, e1, e2, e3, e4, e5, hw, hN, hd, h5, hU⟩, hK, hT, hR, hC, h0⟩ := hI
  have e1 : n = cR r d P I K := e1
  have e2 : nx = nI x := e2
  have e3 : kn = nI u := e3
  have e4 : mn = cN r N := e4
  have e5 : mu = nI u := e5
  subst e1; subst e2; subst e3; subst e4; subst e5
  have hU : UR r u x RP RI RN RD md := hU
  have hR : RWS la si it ml msz mit := hR
  have hC : PCa ask ac an ms mp bs := hC
  have hK : InvK k kg ik mke mku mik := hK
  have hT : InvT tl tn mt mty := hT
  obtain ⟨tP, tI, tN, tD, tK, tm, ts, tt, th⟩ := td
  have h0 : tN = 0 := h0
  have hN0 : InvN (cR r d P I K) (RP, RI, RN, RD, nI x, nI u) (cN r N) (nI u) md := ⟨r, d, P, I, K, N, u, x, rfl, rfl, rfl, rfl, rfl, hw, hN, hd, h5, hU⟩
  obtain ⟨v, q, d2, P2, I2, N2, x2, u2, h8, h9, hq, ⟨f1, f2, f3, f4, f5⟩, f7, hd2, g5, hU2⟩ := S_undo (P := P) (I := I) hw hN hd h5 (Nat.le_trans (by decide) hF) hU
  refine ⟨_, _, h8, h9, rfl, ?_⟩
  dsimp only [INV, U8_undo, U9_undo, z_now, z_und, z_kR, z_kU, z_iK, z_let, z_told, z_len, z_lan, z_siz, z_itm, z_ask, z_aco, z_ani, z_mst, z_mpa, z_bsh, y_now, y_undos, y_undone, y_kept, y_keptUndos, y_isKept, y_tape, y_typed, y_lanes, y_sizes, y_items]
  exact ⟨⟨q, d2, P2, I2, K, N2, u2, x2, by
    show ((cP q P2, cI q I2, nI (aN q), d2, cK r K, nI (aM r), nI (aS r), nI (aT r), nI (aH r)) : RT) = cR q d2 P2 I2 K
    unfold cR; rw [cK_cong f1 f2, f1, f3, f4, f5], rfl, rfl, rfl, rfl, hq, f7, hd2, g5, hU2⟩, hK, hT, hR, hC, h0⟩
set_option maxRecDepth 20000 in
theorem I_seed {σ : CST} {μ : MST} {F : Nat} (hF : 600000 ≤ F) (hI : INV σ μ) (p0 : Int32) : ∃ (o8 : Int32 × Int32) (o9 : Int32 × (Nat → Int32)), m_X8_seed ((z_now σ).2.2.2.1) p0 = some o8 ∧ m_X9_seed ((y_now μ)) p0 = some o9 ∧ o8.1 = o9.1 ∧ INV (U8_seed σ o8) (U9_seed μ o9) := by
  obtain ⟨n, ⟨RP, RI, RN, RD, nx, kn⟩, k, kg, ik, tl, td, tn, tp, tf, ot, oc, om, we, w1, w2, w3, w4, ask, pt, sh, bs, ac, an, ms, mp, it, la, si, frm, mrk⟩ := σ
  obtain ⟨mn, mt, mty, mpl, mfa, mrl, mrd, md, mu, mas, mco, mbc, mbs, mbp, mke, mku, mik, ml, msz, mit, mmo⟩ := μ
  obtain ⟨⟨r, d, P, I, K, N, u, x, e1, e2, e3, e4, e5, hw, hN, hd, h5, hU⟩, hK, hT, hR, hC, h0⟩ := hI
  have e1 : n = cR r d P I K := e1
  have e2 : nx = nI x := e2
  have e3 : kn = nI u := e3
  have e4 : mn = cN r N := e4
  have e5 : mu = nI u := e5
  subst e1; subst e2; subst e3; subst e4; subst e5
  have hU : UR r u x RP RI RN RD md := hU
  have hR : RWS la si it ml msz mit := hR
  have hC : PCa ask ac an ms mp bs := hC
  have hK : InvK k kg ik mke mku mik := hK
  have hT : InvT tl tn mt mty := hT
  obtain ⟨tP, tI, tN, tD, tK, tm, ts, tt, th⟩ := td
  have h0 : tN = 0 := h0
  have hN0 : InvN (cR r d P I K) (RP, RI, RN, RD, nI x, nI u) (cN r N) (nI u) md := ⟨r, d, P, I, K, N, u, x, rfl, rfl, rfl, rfl, rfl, hw, hN, hd, h5, hU⟩
  obtain ⟨v, e, N2, h8, h9, he, g5⟩ := S_seed (r := r) hd h5 p0
  refine ⟨_, _, h8, h9, rfl, ?_⟩
  dsimp only [INV, U8_seed, U9_seed, z_now, z_und, z_kR, z_kU, z_iK, z_let, z_told, z_len, z_lan, z_siz, z_itm, z_ask, z_aco, z_ani, z_mst, z_mpa, z_bsh, y_now, y_undos, y_undone, y_kept, y_keptUndos, y_isKept, y_tape, y_typed, y_lanes, y_sizes, y_items]
  exact ⟨⟨r, e, P, I, K, N2, u, x, rfl, rfl, rfl, rfl, rfl, hw, hN, he, g5, hU⟩, hK, hT, hR, hC, h0⟩
set_option maxRecDepth 20000 in
theorem I_ahead {σ : CST} {μ : MST} {F : Nat} (hF : 600000 ≤ F) (hI : INV σ μ) (p0 : Int32) (p1 : Int32) (p2 : Int32) : ∃ (o8 : Int32 × (Nat → Int32) × (Nat → Int32) × Int32 × Int32 × (Nat → Int32) × Int32 × Int32 × Int32 × Int32) (o9 : Int32 × (Nat → Int32) × (Nat → Int32)), m_X8_ahead F ((z_now σ).1) ((z_now σ).2.1) ((z_now σ).2.2.1) ((z_now σ).2.2.2.1) ((z_now σ).2.2.2.2.1) ((z_now σ).2.2.2.2.2.1) ((z_now σ).2.2.2.2.2.2.1) ((z_now σ).2.2.2.2.2.2.2.1) ((z_now σ).2.2.2.2.2.2.2.2) ((z_oT σ).1) ((z_oT σ).2.1) ((z_oT σ).2.2.1) ((z_oT σ).2.2.2.1) ((z_oT σ).2.2.2.2.1) ((z_oT σ).2.2.2.2.2.1) ((z_oT σ).2.2.2.2.2.2.1) ((z_oT σ).2.2.2.2.2.2.2.1) ((z_oT σ).2.2.2.2.2.2.2.2) p0 p1 p2 = some o8 ∧ m_X9_ahead F ((y_now μ)) ((y_aside μ)) p0 p1 p2 = some o9 ∧ o8.1 = o9.1 ∧ INV (U8_ahead σ o8) (U9_ahead μ o9) := by
  obtain ⟨n, ⟨RP, RI, RN, RD, nx, kn⟩, k, kg, ik, tl, td, tn, tp, tf, ot, oc, om, we, w1, w2, w3, w4, ask, pt, sh, bs, ac, an, ms, mp, it, la, si, frm, mrk⟩ := σ
  obtain ⟨mn, mt, mty, mpl, mfa, mrl, mrd, md, mu, mas, mco, mbc, mbs, mbp, mke, mku, mik, ml, msz, mit, mmo⟩ := μ
  obtain ⟨⟨r, d, P, I, K, N, u, x, e1, e2, e3, e4, e5, hw, hN, hd, h5, hU⟩, hK, hT, hR, hC, h0⟩ := hI
  have e1 : n = cR r d P I K := e1
  have e2 : nx = nI x := e2
  have e3 : kn = nI u := e3
  have e4 : mn = cN r N := e4
  have e5 : mu = nI u := e5
  subst e1; subst e2; subst e3; subst e4; subst e5
  have hU : UR r u x RP RI RN RD md := hU
  have hR : RWS la si it ml msz mit := hR
  have hC : PCa ask ac an ms mp bs := hC
  have hK : InvK k kg ik mke mku mik := hK
  have hT : InvT tl tn mt mty := hT
  obtain ⟨tP, tI, tN, tD, tK, tm, ts, tt, th⟩ := td
  have h0 : tN = 0 := h0
  have hN0 : InvN (cR r d P I K) (RP, RI, RN, RD, nI x, nI u) (cN r N) (nI u) md := ⟨r, d, P, I, K, N, u, x, rfl, rfl, rfl, rfl, rfl, hw, hN, hd, h5, hU⟩
  obtain ⟨t1, t2, t3, t4, t5, t6, t7, t8, t9⟩ := ot
  obtain ⟨v, T, A2, h8, h9⟩ := S_ahead (d := d) (P := P) (I := I) (K := K) (N := N) (A := mas) hw hN (Nat.le_trans (by decide) hF) p0 p1 p2 t1 t2 t3 t4 t5 t6 t7 t8 t9
  refine ⟨_, _, h8, h9, rfl, ?_⟩
  dsimp only [INV, U8_ahead, U9_ahead, z_now, z_und, z_kR, z_kU, z_iK, z_let, z_told, z_len, z_lan, z_siz, z_itm, z_ask, z_aco, z_ani, z_mst, z_mpa, z_bsh, y_now, y_undos, y_undone, y_kept, y_keptUndos, y_isKept, y_tape, y_typed, y_lanes, y_sizes, y_items]
  exact ⟨hN0, hK, hT, hR, hC, h0⟩
set_option maxRecDepth 20000 in
theorem I_then {σ : CST} {μ : MST} {F : Nat} (hF : 600000 ≤ F) (hI : INV σ μ) (p0 : Int32) : ∃ (o8 : Int32 × (Nat → Int32) × (Nat → Int32) × Int32 × Int32 × (Nat → Int32) × Int32 × Int32 × Int32 × Int32) (o9 : Int32 × (Nat → Int32) × (Nat → Int32)), m_X8_then F ((z_now σ).1) ((z_now σ).2.1) ((z_now σ).2.2.1) ((z_now σ).2.2.2.1) ((z_now σ).2.2.2.2.1) ((z_now σ).2.2.2.2.2.1) ((z_now σ).2.2.2.2.2.2.1) ((z_now σ).2.2.2.2.2.2.2.1) ((z_now σ).2.2.2.2.2.2.2.2) ((z_oT σ).1) ((z_oT σ).2.1) ((z_oT σ).2.2.1) ((z_oT σ).2.2.2.1) ((z_oT σ).2.2.2.2.1) ((z_oT σ).2.2.2.2.2.1) ((z_oT σ).2.2.2.2.2.2.1) ((z_oT σ).2.2.2.2.2.2.2.1) ((z_oT σ).2.2.2.2.2.2.2.2) p0 = some o8 ∧ m_X9_then F ((y_now μ)) ((y_aside μ)) p0 = some o9 ∧ o8.1 = o9.1 ∧ INV (U8_then σ o8) (U9_then μ o9) := by
  obtain ⟨n, ⟨RP, RI, RN, RD, nx, kn⟩, k, kg, ik, tl, td, tn, tp, tf, ot, oc, om, we, w1, w2, w3, w4, ask, pt, sh, bs, ac, an, ms, mp, it, la, si, frm, mrk⟩ := σ
  obtain ⟨mn, mt, mty, mpl, mfa, mrl, mrd, md, mu, mas, mco, mbc, mbs, mbp, mke, mku, mik, ml, msz, mit, mmo⟩ := μ
  obtain ⟨⟨r, d, P, I, K, N, u, x, e1, e2, e3, e4, e5, hw, hN, hd, h5, hU⟩, hK, hT, hR, hC, h0⟩ := hI
  have e1 : n = cR r d P I K := e1
  have e2 : nx = nI x := e2
  have e3 : kn = nI u := e3
  have e4 : mn = cN r N := e4
  have e5 : mu = nI u := e5
  subst e1; subst e2; subst e3; subst e4; subst e5
  have hU : UR r u x RP RI RN RD md := hU
  have hR : RWS la si it ml msz mit := hR
  have hC : PCa ask ac an ms mp bs := hC
  have hK : InvK k kg ik mke mku mik := hK
  have hT : InvT tl tn mt mty := hT
  obtain ⟨tP, tI, tN, tD, tK, tm, ts, tt, th⟩ := td
  have h0 : tN = 0 := h0
  have hN0 : InvN (cR r d P I K) (RP, RI, RN, RD, nI x, nI u) (cN r N) (nI u) md := ⟨r, d, P, I, K, N, u, x, rfl, rfl, rfl, rfl, rfl, hw, hN, hd, h5, hU⟩
  obtain ⟨t1, t2, t3, t4, t5, t6, t7, t8, t9⟩ := ot
  obtain ⟨v, T, A2, h8, h9⟩ := S_then (d := d) (P := P) (I := I) (K := K) (N := N) (A := mas) hw hN (Nat.le_trans (by decide) hF) p0 t1 t2 t3 t4 t5 t6 t7 t8 t9
  refine ⟨_, _, h8, h9, rfl, ?_⟩
  dsimp only [INV, U8_then, U9_then, z_now, z_und, z_kR, z_kU, z_iK, z_let, z_told, z_len, z_lan, z_siz, z_itm, z_ask, z_aco, z_ani, z_mst, z_mpa, z_bsh, y_now, y_undos, y_undone, y_kept, y_keptUndos, y_isKept, y_tape, y_typed, y_lanes, y_sizes, y_items]
  exact ⟨hN0, hK, hT, hR, hC, h0⟩
set_option maxRecDepth 20000 in
theorem I_falls {σ : CST} {μ : MST} {F : Nat} (hF : 600000 ≤ F) (hI : INV σ μ) (p0 : Int32) : ∃ (o8 : Int32 × (Nat → Int32) × (Nat → Int32) × Int32 × Int32 × (Nat → Int32) × Int32 × Int32 × Int32 × Int32) (o9 : Int32 × (Nat → Int32) × (Nat → Int32)), m_X8_falls F ((z_now σ).1) ((z_now σ).2.1) ((z_now σ).2.2.1) ((z_now σ).2.2.2.1) ((z_now σ).2.2.2.2.1) ((z_now σ).2.2.2.2.2.1) ((z_now σ).2.2.2.2.2.2.1) ((z_now σ).2.2.2.2.2.2.2.1) ((z_now σ).2.2.2.2.2.2.2.2) ((z_oT σ).1) ((z_oT σ).2.1) ((z_oT σ).2.2.1) ((z_oT σ).2.2.2.1) ((z_oT σ).2.2.2.2.1) ((z_oT σ).2.2.2.2.2.1) ((z_oT σ).2.2.2.2.2.2.1) ((z_oT σ).2.2.2.2.2.2.2.1) ((z_oT σ).2.2.2.2.2.2.2.2) p0 = some o8 ∧ m_X9_falls F ((y_now μ)) ((y_aside μ)) p0 = some o9 ∧ o8.1 = o9.1 ∧ INV (U8_falls σ o8) (U9_falls μ o9) := by
  obtain ⟨n, ⟨RP, RI, RN, RD, nx, kn⟩, k, kg, ik, tl, td, tn, tp, tf, ot, oc, om, we, w1, w2, w3, w4, ask, pt, sh, bs, ac, an, ms, mp, it, la, si, frm, mrk⟩ := σ
  obtain ⟨mn, mt, mty, mpl, mfa, mrl, mrd, md, mu, mas, mco, mbc, mbs, mbp, mke, mku, mik, ml, msz, mit, mmo⟩ := μ
  obtain ⟨⟨r, d, P, I, K, N, u, x, e1, e2, e3, e4, e5, hw, hN, hd, h5, hU⟩, hK, hT, hR, hC, h0⟩ := hI
  have e1 : n = cR r d P I K := e1
  have e2 : nx = nI x := e2
  have e3 : kn = nI u := e3
  have e4 : mn = cN r N := e4
  have e5 : mu = nI u := e5
  subst e1; subst e2; subst e3; subst e4; subst e5
  have hU : UR r u x RP RI RN RD md := hU
  have hR : RWS la si it ml msz mit := hR
  have hC : PCa ask ac an ms mp bs := hC
  have hK : InvK k kg ik mke mku mik := hK
  have hT : InvT tl tn mt mty := hT
  obtain ⟨tP, tI, tN, tD, tK, tm, ts, tt, th⟩ := td
  have h0 : tN = 0 := h0
  have hN0 : InvN (cR r d P I K) (RP, RI, RN, RD, nI x, nI u) (cN r N) (nI u) md := ⟨r, d, P, I, K, N, u, x, rfl, rfl, rfl, rfl, rfl, hw, hN, hd, h5, hU⟩
  obtain ⟨t1, t2, t3, t4, t5, t6, t7, t8, t9⟩ := ot
  obtain ⟨v, T, A2, h8, h9⟩ := S_falls (d := d) (P := P) (I := I) (K := K) (N := N) (A := mas) hw hN (Nat.le_trans (by decide) hF) p0 t1 t2 t3 t4 t5 t6 t7 t8 t9
  refine ⟨_, _, h8, h9, rfl, ?_⟩
  dsimp only [INV, U8_falls, U9_falls, z_now, z_und, z_kR, z_kU, z_iK, z_let, z_told, z_len, z_lan, z_siz, z_itm, z_ask, z_aco, z_ani, z_mst, z_mpa, z_bsh, y_now, y_undos, y_undone, y_kept, y_keptUndos, y_isKept, y_tape, y_typed, y_lanes, y_sizes, y_items]
  exact ⟨hN0, hK, hT, hR, hC, h0⟩
set_option maxRecDepth 20000 in
theorem I_alone {σ : CST} {μ : MST} {F : Nat} (hF : 600000 ≤ F) (hI : INV σ μ) : ∃ (o8 : Int32 × (Nat → Int32) × (Nat → Int32) × Int32 × Int32 × (Nat → Int32) × Int32 × Int32 × Int32 × Int32) (o9 : Int32 × (Nat → Int32) × (Nat → Int32)), m_X8_alone F ((z_now σ).1) ((z_now σ).2.1) ((z_now σ).2.2.1) ((z_now σ).2.2.2.1) ((z_now σ).2.2.2.2.1) ((z_now σ).2.2.2.2.2.1) ((z_now σ).2.2.2.2.2.2.1) ((z_now σ).2.2.2.2.2.2.2.1) ((z_now σ).2.2.2.2.2.2.2.2) ((z_oT σ).1) ((z_oT σ).2.1) ((z_oT σ).2.2.1) ((z_oT σ).2.2.2.1) ((z_oT σ).2.2.2.2.1) ((z_oT σ).2.2.2.2.2.1) ((z_oT σ).2.2.2.2.2.2.1) ((z_oT σ).2.2.2.2.2.2.2.1) ((z_oT σ).2.2.2.2.2.2.2.2) = some o8 ∧ m_X9_alone F ((y_now μ)) ((y_aside μ)) = some o9 ∧ o8.1 = o9.1 ∧ INV (U8_alone σ o8) (U9_alone μ o9) := by
  obtain ⟨n, ⟨RP, RI, RN, RD, nx, kn⟩, k, kg, ik, tl, td, tn, tp, tf, ot, oc, om, we, w1, w2, w3, w4, ask, pt, sh, bs, ac, an, ms, mp, it, la, si, frm, mrk⟩ := σ
  obtain ⟨mn, mt, mty, mpl, mfa, mrl, mrd, md, mu, mas, mco, mbc, mbs, mbp, mke, mku, mik, ml, msz, mit, mmo⟩ := μ
  obtain ⟨⟨r, d, P, I, K, N, u, x, e1, e2, e3, e4, e5, hw, hN, hd, h5, hU⟩, hK, hT, hR, hC, h0⟩ := hI
  have e1 : n = cR r d P I K := e1
  have e2 : nx = nI x := e2
  have e3 : kn = nI u := e3
  have e4 : mn = cN r N := e4
  have e5 : mu = nI u := e5
  subst e1; subst e2; subst e3; subst e4; subst e5
  have hU : UR r u x RP RI RN RD md := hU
  have hR : RWS la si it ml msz mit := hR
  have hC : PCa ask ac an ms mp bs := hC
  have hK : InvK k kg ik mke mku mik := hK
  have hT : InvT tl tn mt mty := hT
  obtain ⟨tP, tI, tN, tD, tK, tm, ts, tt, th⟩ := td
  have h0 : tN = 0 := h0
  have hN0 : InvN (cR r d P I K) (RP, RI, RN, RD, nI x, nI u) (cN r N) (nI u) md := ⟨r, d, P, I, K, N, u, x, rfl, rfl, rfl, rfl, rfl, hw, hN, hd, h5, hU⟩
  obtain ⟨t1, t2, t3, t4, t5, t6, t7, t8, t9⟩ := ot
  obtain ⟨v, T, A2, h8, h9⟩ := S_alone (d := d) (P := P) (I := I) (K := K) (N := N) (A := mas) hw hN (Nat.le_trans (by decide) hF)  t1 t2 t3 t4 t5 t6 t7 t8 t9
  refine ⟨_, _, h8, h9, rfl, ?_⟩
  dsimp only [INV, U8_alone, U9_alone, z_now, z_und, z_kR, z_kU, z_iK, z_let, z_told, z_len, z_lan, z_siz, z_itm, z_ask, z_aco, z_ani, z_mst, z_mpa, z_bsh, y_now, y_undos, y_undone, y_kept, y_keptUndos, y_isKept, y_tape, y_typed, y_lanes, y_sizes, y_items]
  exact ⟨hN0, hK, hT, hR, hC, h0⟩
set_option maxRecDepth 20000 in
theorem I_post {σ : CST} {μ : MST} {F : Nat} (hF : 600000 ≤ F) (hI : INV σ μ) (p0 : Int32) (p1 : Int32) (p2 : Int32) : ∃ (o8 : Int32 × (Nat → Int32) × (Nat → Int32) × Int32 × Int32 × (Nat → Int32) × Int32 × Int32 × Int32 × Int32 × Int32 × Int32) (o9 : Int32 × (Nat → Int32) × (Nat → Int32)), m_X8_post F ((z_now σ).1) ((z_now σ).2.1) ((z_now σ).2.2.1) ((z_now σ).2.2.2.1) ((z_now σ).2.2.2.2.1) ((z_now σ).2.2.2.2.2.1) ((z_now σ).2.2.2.2.2.2.1) ((z_now σ).2.2.2.2.2.2.2.1) ((z_now σ).2.2.2.2.2.2.2.2) ((z_oT σ).1) ((z_oT σ).2.1) ((z_oT σ).2.2.1) ((z_oT σ).2.2.2.1) ((z_oT σ).2.2.2.2.1) ((z_oT σ).2.2.2.2.2.1) ((z_oT σ).2.2.2.2.2.2.1) ((z_oT σ).2.2.2.2.2.2.2.1) ((z_oT σ).2.2.2.2.2.2.2.2) ((z_cho σ)) ((z_mos σ)) p0 p1 p2 = some o8 ∧ m_X9_post F ((y_now μ)) ((y_aside μ)) p0 p1 p2 = some o9 ∧ o8.1 = o9.1 ∧ INV (U8_post σ o8) (U9_post μ o9) := by
  obtain ⟨n, ⟨RP, RI, RN, RD, nx, kn⟩, k, kg, ik, tl, td, tn, tp, tf, ot, oc, om, we, w1, w2, w3, w4, ask, pt, sh, bs, ac, an, ms, mp, it, la, si, frm, mrk⟩ := σ
  obtain ⟨mn, mt, mty, mpl, mfa, mrl, mrd, md, mu, mas, mco, mbc, mbs, mbp, mke, mku, mik, ml, msz, mit, mmo⟩ := μ
  obtain ⟨⟨r, d, P, I, K, N, u, x, e1, e2, e3, e4, e5, hw, hN, hd, h5, hU⟩, hK, hT, hR, hC, h0⟩ := hI
  have e1 : n = cR r d P I K := e1
  have e2 : nx = nI x := e2
  have e3 : kn = nI u := e3
  have e4 : mn = cN r N := e4
  have e5 : mu = nI u := e5
  subst e1; subst e2; subst e3; subst e4; subst e5
  have hU : UR r u x RP RI RN RD md := hU
  have hR : RWS la si it ml msz mit := hR
  have hC : PCa ask ac an ms mp bs := hC
  have hK : InvK k kg ik mke mku mik := hK
  have hT : InvT tl tn mt mty := hT
  obtain ⟨tP, tI, tN, tD, tK, tm, ts, tt, th⟩ := td
  have h0 : tN = 0 := h0
  have hN0 : InvN (cR r d P I K) (RP, RI, RN, RD, nI x, nI u) (cN r N) (nI u) md := ⟨r, d, P, I, K, N, u, x, rfl, rfl, rfl, rfl, rfl, hw, hN, hd, h5, hU⟩
  obtain ⟨t1, t2, t3, t4, t5, t6, t7, t8, t9⟩ := ot
  obtain ⟨v, T, A2, h8, h9⟩ := S_post (d := d) (P := P) (I := I) (K := K) (N := N) (A := mas) hw hN (Nat.le_trans (by decide) hF) p0 p1 p2 t1 t2 t3 t4 t5 t6 t7 t8 t9 oc om
  refine ⟨_, _, h8, h9, rfl, ?_⟩
  dsimp only [INV, U8_post, U9_post, z_now, z_und, z_kR, z_kU, z_iK, z_let, z_told, z_len, z_lan, z_siz, z_itm, z_ask, z_aco, z_ani, z_mst, z_mpa, z_bsh, y_now, y_undos, y_undone, y_kept, y_keptUndos, y_isKept, y_tape, y_typed, y_lanes, y_sizes, y_items]
  exact ⟨hN0, hK, hT, hR, hC, h0⟩
set_option maxRecDepth 20000 in
theorem I_safe {σ : CST} {μ : MST} {F : Nat} (hF : 600000 ≤ F) (hI : INV σ μ) (p0 : Int32) (p1 : Int32) : ∃ (o8 : Int32 × (Nat → Int32) × (Nat → Int32) × Int32 × Int32 × (Nat → Int32) × Int32 × Int32 × Int32 × Int32) (o9 : Int32 × (Nat → Int32) × (Nat → Int32)), m_X8_safe F ((z_now σ).1) ((z_now σ).2.1) ((z_now σ).2.2.1) ((z_now σ).2.2.2.1) ((z_now σ).2.2.2.2.1) ((z_now σ).2.2.2.2.2.1) ((z_now σ).2.2.2.2.2.2.1) ((z_now σ).2.2.2.2.2.2.2.1) ((z_now σ).2.2.2.2.2.2.2.2) ((z_oT σ).1) ((z_oT σ).2.1) ((z_oT σ).2.2.1) ((z_oT σ).2.2.2.1) ((z_oT σ).2.2.2.2.1) ((z_oT σ).2.2.2.2.2.1) ((z_oT σ).2.2.2.2.2.2.1) ((z_oT σ).2.2.2.2.2.2.2.1) ((z_oT σ).2.2.2.2.2.2.2.2) p0 p1 = some o8 ∧ m_X9_safe F ((y_now μ)) ((y_aside μ)) p0 p1 = some o9 ∧ o8.1 = o9.1 ∧ INV (U8_safe σ o8) (U9_safe μ o9) := by
  obtain ⟨n, ⟨RP, RI, RN, RD, nx, kn⟩, k, kg, ik, tl, td, tn, tp, tf, ot, oc, om, we, w1, w2, w3, w4, ask, pt, sh, bs, ac, an, ms, mp, it, la, si, frm, mrk⟩ := σ
  obtain ⟨mn, mt, mty, mpl, mfa, mrl, mrd, md, mu, mas, mco, mbc, mbs, mbp, mke, mku, mik, ml, msz, mit, mmo⟩ := μ
  obtain ⟨⟨r, d, P, I, K, N, u, x, e1, e2, e3, e4, e5, hw, hN, hd, h5, hU⟩, hK, hT, hR, hC, h0⟩ := hI
  have e1 : n = cR r d P I K := e1
  have e2 : nx = nI x := e2
  have e3 : kn = nI u := e3
  have e4 : mn = cN r N := e4
  have e5 : mu = nI u := e5
  subst e1; subst e2; subst e3; subst e4; subst e5
  have hU : UR r u x RP RI RN RD md := hU
  have hR : RWS la si it ml msz mit := hR
  have hC : PCa ask ac an ms mp bs := hC
  have hK : InvK k kg ik mke mku mik := hK
  have hT : InvT tl tn mt mty := hT
  obtain ⟨tP, tI, tN, tD, tK, tm, ts, tt, th⟩ := td
  have h0 : tN = 0 := h0
  have hN0 : InvN (cR r d P I K) (RP, RI, RN, RD, nI x, nI u) (cN r N) (nI u) md := ⟨r, d, P, I, K, N, u, x, rfl, rfl, rfl, rfl, rfl, hw, hN, hd, h5, hU⟩
  obtain ⟨t1, t2, t3, t4, t5, t6, t7, t8, t9⟩ := ot
  obtain ⟨v, T, A2, h8, h9⟩ := S_safe (d := d) (P := P) (I := I) (K := K) (N := N) (A := mas) hw hN (Nat.le_trans (by decide) hF) p0 p1 t1 t2 t3 t4 t5 t6 t7 t8 t9
  refine ⟨_, _, h8, h9, rfl, ?_⟩
  dsimp only [INV, U8_safe, U9_safe, z_now, z_und, z_kR, z_kU, z_iK, z_let, z_told, z_len, z_lan, z_siz, z_itm, z_ask, z_aco, z_ani, z_mst, z_mpa, z_bsh, y_now, y_undos, y_undone, y_kept, y_keptUndos, y_isKept, y_tape, y_typed, y_lanes, y_sizes, y_items]
  exact ⟨hN0, hK, hT, hR, hC, h0⟩
set_option maxRecDepth 20000 in
theorem I_change {σ : CST} {μ : MST} {F : Nat} (hF : 600000 ≤ F) (hI : INV σ μ) (p0 : Int32) (p1 : Int32) : ∃ (o8 : Int32 × (Nat → Int32) × (Nat → Int32) × Int32 × Int32 × (Nat → Int32) × Int32 × Int32 × Int32 × Int32 × Int32 × Int32) (o9 : Int32 × (Nat → Int32) × (Nat → Int32)), m_X8_change F ((z_now σ).1) ((z_now σ).2.1) ((z_now σ).2.2.1) ((z_now σ).2.2.2.1) ((z_now σ).2.2.2.2.1) ((z_now σ).2.2.2.2.2.1) ((z_now σ).2.2.2.2.2.2.1) ((z_now σ).2.2.2.2.2.2.2.1) ((z_now σ).2.2.2.2.2.2.2.2) ((z_oT σ).1) ((z_oT σ).2.1) ((z_oT σ).2.2.1) ((z_oT σ).2.2.2.1) ((z_oT σ).2.2.2.2.1) ((z_oT σ).2.2.2.2.2.1) ((z_oT σ).2.2.2.2.2.2.1) ((z_oT σ).2.2.2.2.2.2.2.1) ((z_oT σ).2.2.2.2.2.2.2.2) ((z_cho σ)) ((z_mos σ)) p0 p1 = some o8 ∧ m_X9_change F ((y_now μ)) ((y_aside μ)) p0 p1 = some o9 ∧ o8.1 = o9.1 ∧ INV (U8_change σ o8) (U9_change μ o9) := by
  obtain ⟨n, ⟨RP, RI, RN, RD, nx, kn⟩, k, kg, ik, tl, td, tn, tp, tf, ot, oc, om, we, w1, w2, w3, w4, ask, pt, sh, bs, ac, an, ms, mp, it, la, si, frm, mrk⟩ := σ
  obtain ⟨mn, mt, mty, mpl, mfa, mrl, mrd, md, mu, mas, mco, mbc, mbs, mbp, mke, mku, mik, ml, msz, mit, mmo⟩ := μ
  obtain ⟨⟨r, d, P, I, K, N, u, x, e1, e2, e3, e4, e5, hw, hN, hd, h5, hU⟩, hK, hT, hR, hC, h0⟩ := hI
  have e1 : n = cR r d P I K := e1
  have e2 : nx = nI x := e2
  have e3 : kn = nI u := e3
  have e4 : mn = cN r N := e4
  have e5 : mu = nI u := e5
  subst e1; subst e2; subst e3; subst e4; subst e5
  have hU : UR r u x RP RI RN RD md := hU
  have hR : RWS la si it ml msz mit := hR
  have hC : PCa ask ac an ms mp bs := hC
  have hK : InvK k kg ik mke mku mik := hK
  have hT : InvT tl tn mt mty := hT
  obtain ⟨tP, tI, tN, tD, tK, tm, ts, tt, th⟩ := td
  have h0 : tN = 0 := h0
  have hN0 : InvN (cR r d P I K) (RP, RI, RN, RD, nI x, nI u) (cN r N) (nI u) md := ⟨r, d, P, I, K, N, u, x, rfl, rfl, rfl, rfl, rfl, hw, hN, hd, h5, hU⟩
  obtain ⟨t1, t2, t3, t4, t5, t6, t7, t8, t9⟩ := ot
  obtain ⟨v, T, A2, h8, h9⟩ := S_change (d := d) (P := P) (I := I) (K := K) (N := N) (A := mas) hw hN (Nat.le_trans (by decide) hF) p0 p1 t1 t2 t3 t4 t5 t6 t7 t8 t9 oc om
  refine ⟨_, _, h8, h9, rfl, ?_⟩
  dsimp only [INV, U8_change, U9_change, z_now, z_und, z_kR, z_kU, z_iK, z_let, z_told, z_len, z_lan, z_siz, z_itm, z_ask, z_aco, z_ani, z_mst, z_mpa, z_bsh, y_now, y_undos, y_undone, y_kept, y_keptUndos, y_isKept, y_tape, y_typed, y_lanes, y_sizes, y_items]
  exact ⟨hN0, hK, hT, hR, hC, h0⟩
set_option maxRecDepth 20000 in
theorem I_coats {σ : CST} {μ : MST} {F : Nat} (hF : 600000 ≤ F) (hI : INV σ μ) (p0 : Int32) (p1 : Int32) (p2 : Int32) : ∃ (o8 : Int32 × (Nat → Int32) × (Nat → Int32) × Int32 × Int32 × (Nat → Int32) × Int32 × Int32 × Int32 × Int32 × (Nat → Int32) × (Nat → Int32) × Int32 × Int32 × (Nat → Int32) × Int32 × Int32 × Int32 × Int32 × (Nat → Int32) × (Nat → Int32) × Int32 × Int32 × Int32 × Int32) (o9 : Int32 × (Nat → Int32) × (Nat → Int32) × (Nat → Int32) × (Nat → Int32) × Int32 × Int32), m_X8_coats F ((z_now σ).1) ((z_now σ).2.1) ((z_now σ).2.2.1) ((z_now σ).2.2.2.1) ((z_now σ).2.2.2.2.1) ((z_now σ).2.2.2.2.2.1) ((z_now σ).2.2.2.2.2.2.1) ((z_now σ).2.2.2.2.2.2.2.1) ((z_now σ).2.2.2.2.2.2.2.2) ((z_ask σ).1) ((z_ask σ).2.1) ((z_ask σ).2.2.1) ((z_ask σ).2.2.2.1) ((z_ask σ).2.2.2.2.1) ((z_ask σ).2.2.2.2.2.1) ((z_ask σ).2.2.2.2.2.2.1) ((z_ask σ).2.2.2.2.2.2.2.1) ((z_ask σ).2.2.2.2.2.2.2.2) ((z_pT σ).1) ((z_pT σ).2.1) ((z_pT σ).2.2.1) ((z_pT σ).2.2.2.1) ((z_pT σ).2.2.2.2.1) ((z_pT σ).2.2.2.2.2.1) ((z_pT σ).2.2.2.2.2.2.1) ((z_pT σ).2.2.2.2.2.2.2.1) ((z_pT σ).2.2.2.2.2.2.2.2) ((z_shs σ)) ((z_bsh σ)) ((z_aco σ)) ((z_ani σ)) ((z_mst σ)) ((z_mpa σ)) p0 p1 p2 = some o8 ∧ m_X9_coats F ((y_now μ)) ((y_aside μ)) ((y_coat μ)) ((y_bestCoats μ)) ((y_bestStand μ)) ((y_bestPaint μ)) p0 p1 p2 = some o9 ∧ o8.1 = o9.1 ∧ INV (U8_coats σ o8) (U9_coats μ o9) := by
  obtain ⟨n, ⟨RP, RI, RN, RD, nx, kn⟩, k, kg, ik, tl, td, tn, tp, tf, ot, oc, om, we, w1, w2, w3, w4, ask, pt, sh, bs, ac, an, ms, mp, it, la, si, frm, mrk⟩ := σ
  obtain ⟨mn, mt, mty, mpl, mfa, mrl, mrd, md, mu, mas, mco, mbc, mbs, mbp, mke, mku, mik, ml, msz, mit, mmo⟩ := μ
  obtain ⟨⟨r, d, P, I, K, N, u, x, e1, e2, e3, e4, e5, hw, hN, hd, h5, hU⟩, hK, hT, hR, hC, h0⟩ := hI
  have e1 : n = cR r d P I K := e1
  have e2 : nx = nI x := e2
  have e3 : kn = nI u := e3
  have e4 : mn = cN r N := e4
  have e5 : mu = nI u := e5
  subst e1; subst e2; subst e3; subst e4; subst e5
  have hU : UR r u x RP RI RN RD md := hU
  have hR : RWS la si it ml msz mit := hR
  have hC : PCa ask ac an ms mp bs := hC
  have hK : InvK k kg ik mke mku mik := hK
  have hT : InvT tl tn mt mty := hT
  obtain ⟨tP, tI, tN, tD, tK, tm, ts, tt, th⟩ := td
  have h0 : tN = 0 := h0
  have hN0 : InvN (cR r d P I K) (RP, RI, RN, RD, nI x, nI u) (cN r N) (nI u) md := ⟨r, d, P, I, K, N, u, x, rfl, rfl, rfl, rfl, rfl, hw, hN, hd, h5, hU⟩
  obtain ⟨a1, a2, a3, a4, a5, a6, a7, a8, a9⟩ := ask
  obtain ⟨t1, t2, t3, t4, t5, t6, t7, t8, t9⟩ := pt
  obtain ⟨v, T, A2, c2, cb2, cs2, cp2, h8, h9, hC2⟩ := S_coats (d := d) (P := P) (I := I) (K := K) (N := N) (A := mas) (c := mco) (cb := mbc) (sh := sh) (cs := mbs) (cp' := mbp) hw hN (Nat.le_trans (by decide) hF) p0 p1 p2 a1 a2 a3 a4 a5 a6 a7 a8 a9 t1 t2 t3 t4 t5 t6 t7 t8 t9 hC
  refine ⟨_, _, h8, h9, rfl, ?_⟩
  dsimp only [INV, U8_coats, U9_coats, z_now, z_und, z_kR, z_kU, z_iK, z_let, z_told, z_len, z_lan, z_siz, z_itm, z_ask, z_aco, z_ani, z_mst, z_mpa, z_bsh, y_now, y_undos, y_undone, y_kept, y_keptUndos, y_isKept, y_tape, y_typed, y_lanes, y_sizes, y_items]
  exact ⟨hN0, hK, hT, hR, hC2, h0⟩
set_option maxRecDepth 20000 in
theorem I_guard {σ : CST} {μ : MST} {F : Nat} (hF : 600000 ≤ F) (hI : INV σ μ) (p0 : Int32) (p1 : Int32) : ∃ (o8 : Int32) (o9 : Int32), m_X8_guard F ((z_now σ).2.1) ((z_now σ).2.2.2.2.2.1) p0 p1 = some o8 ∧ m_X9_guard F ((y_now μ)) p0 p1 = some o9 ∧ o8 = o9 ∧ INV σ μ := by
  obtain ⟨n, ⟨RP, RI, RN, RD, nx, kn⟩, k, kg, ik, tl, td, tn, tp, tf, ot, oc, om, we, w1, w2, w3, w4, ask, pt, sh, bs, ac, an, ms, mp, it, la, si, frm, mrk⟩ := σ
  obtain ⟨mn, mt, mty, mpl, mfa, mrl, mrd, md, mu, mas, mco, mbc, mbs, mbp, mke, mku, mik, ml, msz, mit, mmo⟩ := μ
  obtain ⟨⟨r, d, P, I, K, N, u, x, e1, e2, e3, e4, e5, hw, hN, hd, h5, hU⟩, hK, hT, hR, hC, h0⟩ := hI
  have e1 : n = cR r d P I K := e1
  have e2 : nx = nI x := e2
  have e3 : kn = nI u := e3
  have e4 : mn = cN r N := e4
  have e5 : mu = nI u := e5
  subst e1; subst e2; subst e3; subst e4; subst e5
  have hU : UR r u x RP RI RN RD md := hU
  have hR : RWS la si it ml msz mit := hR
  have hC : PCa ask ac an ms mp bs := hC
  have hK : InvK k kg ik mke mku mik := hK
  have hT : InvT tl tn mt mty := hT
  obtain ⟨tP, tI, tN, tD, tK, tm, ts, tt, th⟩ := td
  have h0 : tN = 0 := h0
  have hN0 : InvN (cR r d P I K) (RP, RI, RN, RD, nI x, nI u) (cN r N) (nI u) md := ⟨r, d, P, I, K, N, u, x, rfl, rfl, rfl, rfl, rfl, hw, hN, hd, h5, hU⟩
  obtain ⟨v, h8, h9⟩ := S_guard (I := I) (N := N) hw (Nat.le_trans (by decide) hF) p0 p1
  refine ⟨v, v, h8, h9, rfl, ?_⟩
  dsimp only [INV, z_now, z_und, z_kR, z_kU, z_iK, z_let, z_told, z_len, z_lan, z_siz, z_itm, z_ask, z_aco, z_ani, z_mst, z_mpa, z_bsh, y_now, y_undos, y_undone, y_kept, y_keptUndos, y_isKept, y_tape, y_typed, y_lanes, y_sizes, y_items]
  exact ⟨hN0, hK, hT, hR, hC, h0⟩
set_option maxRecDepth 20000 in
theorem I_calm {σ : CST} {μ : MST} {F : Nat} (hF : 600000 ≤ F) (hI : INV σ μ) (p0 : Int32) : ∃ (o8 : Int32 × (Nat → Int32) × (Nat → Int32) × Int32 × Int32 × (Nat → Int32) × Int32 × Int32 × Int32 × Int32) (o9 : Int32 × (Nat → Int32) × (Nat → Int32)), m_X8_calm F ((z_now σ).1) ((z_now σ).2.1) ((z_now σ).2.2.1) ((z_now σ).2.2.2.1) ((z_now σ).2.2.2.2.1) ((z_now σ).2.2.2.2.2.1) ((z_now σ).2.2.2.2.2.2.1) ((z_now σ).2.2.2.2.2.2.2.1) ((z_now σ).2.2.2.2.2.2.2.2) ((z_oT σ).1) ((z_oT σ).2.1) ((z_oT σ).2.2.1) ((z_oT σ).2.2.2.1) ((z_oT σ).2.2.2.2.1) ((z_oT σ).2.2.2.2.2.1) ((z_oT σ).2.2.2.2.2.2.1) ((z_oT σ).2.2.2.2.2.2.2.1) ((z_oT σ).2.2.2.2.2.2.2.2) p0 = some o8 ∧ m_X9_calm F ((y_now μ)) ((y_aside μ)) p0 = some o9 ∧ o8.1 = o9.1 ∧ INV (U8_calm σ o8) (U9_calm μ o9) := by
  obtain ⟨n, ⟨RP, RI, RN, RD, nx, kn⟩, k, kg, ik, tl, td, tn, tp, tf, ot, oc, om, we, w1, w2, w3, w4, ask, pt, sh, bs, ac, an, ms, mp, it, la, si, frm, mrk⟩ := σ
  obtain ⟨mn, mt, mty, mpl, mfa, mrl, mrd, md, mu, mas, mco, mbc, mbs, mbp, mke, mku, mik, ml, msz, mit, mmo⟩ := μ
  obtain ⟨⟨r, d, P, I, K, N, u, x, e1, e2, e3, e4, e5, hw, hN, hd, h5, hU⟩, hK, hT, hR, hC, h0⟩ := hI
  have e1 : n = cR r d P I K := e1
  have e2 : nx = nI x := e2
  have e3 : kn = nI u := e3
  have e4 : mn = cN r N := e4
  have e5 : mu = nI u := e5
  subst e1; subst e2; subst e3; subst e4; subst e5
  have hU : UR r u x RP RI RN RD md := hU
  have hR : RWS la si it ml msz mit := hR
  have hC : PCa ask ac an ms mp bs := hC
  have hK : InvK k kg ik mke mku mik := hK
  have hT : InvT tl tn mt mty := hT
  obtain ⟨tP, tI, tN, tD, tK, tm, ts, tt, th⟩ := td
  have h0 : tN = 0 := h0
  have hN0 : InvN (cR r d P I K) (RP, RI, RN, RD, nI x, nI u) (cN r N) (nI u) md := ⟨r, d, P, I, K, N, u, x, rfl, rfl, rfl, rfl, rfl, hw, hN, hd, h5, hU⟩
  obtain ⟨t1, t2, t3, t4, t5, t6, t7, t8, t9⟩ := ot
  obtain ⟨v, T, A2, h8, h9⟩ := S_calm (d := d) (P := P) (I := I) (K := K) (N := N) (A := mas) hw hN (Nat.le_trans (by decide) hF) p0 t1 t2 t3 t4 t5 t6 t7 t8 t9
  refine ⟨_, _, h8, h9, rfl, ?_⟩
  dsimp only [INV, U8_calm, U9_calm, z_now, z_und, z_kR, z_kU, z_iK, z_let, z_told, z_len, z_lan, z_siz, z_itm, z_ask, z_aco, z_ani, z_mst, z_mpa, z_bsh, y_now, y_undos, y_undone, y_kept, y_keptUndos, y_isKept, y_tape, y_typed, y_lanes, y_sizes, y_items]
  exact ⟨hN0, hK, hT, hR, hC, h0⟩
set_option maxRecDepth 20000 in
theorem I_steam {σ : CST} {μ : MST} {F : Nat} (hF : 600000 ≤ F) (hI : INV σ μ) (p0 : Int32) (p1 : Int32) (p2 : Int32) : ∃ (o8 : Int32 × (Nat → Int32) × Int32 × Int32 × Int32 × Int32) (o9 : Int32 × (Nat → Int32) × (Nat → Int32)), m_X8_steam F ((z_now σ).1) ((z_now σ).2.1) ((z_now σ).2.2.1) ((z_now σ).2.2.2.2.1) ((z_now σ).2.2.2.2.2.1) ((z_now σ).2.2.2.2.2.2.1) ((z_now σ).2.2.2.2.2.2.2.1) ((z_now σ).2.2.2.2.2.2.2.2) ((z_wei σ)) ((z_sur σ)) ((z_sha σ)) ((z_abo σ)) ((z_bel σ)) p0 p1 p2 = some o8 ∧ m_X9_steam F ((y_now μ)) ((y_aside μ)) p0 p1 p2 = some o9 ∧ o8.1 = o9.1 ∧ INV (U8_steam σ o8) (U9_steam μ o9) := by
  obtain ⟨n, ⟨RP, RI, RN, RD, nx, kn⟩, k, kg, ik, tl, td, tn, tp, tf, ot, oc, om, we, w1, w2, w3, w4, ask, pt, sh, bs, ac, an, ms, mp, it, la, si, frm, mrk⟩ := σ
  obtain ⟨mn, mt, mty, mpl, mfa, mrl, mrd, md, mu, mas, mco, mbc, mbs, mbp, mke, mku, mik, ml, msz, mit, mmo⟩ := μ
  obtain ⟨⟨r, d, P, I, K, N, u, x, e1, e2, e3, e4, e5, hw, hN, hd, h5, hU⟩, hK, hT, hR, hC, h0⟩ := hI
  have e1 : n = cR r d P I K := e1
  have e2 : nx = nI x := e2
  have e3 : kn = nI u := e3
  have e4 : mn = cN r N := e4
  have e5 : mu = nI u := e5
  subst e1; subst e2; subst e3; subst e4; subst e5
  have hU : UR r u x RP RI RN RD md := hU
  have hR : RWS la si it ml msz mit := hR
  have hC : PCa ask ac an ms mp bs := hC
  have hK : InvK k kg ik mke mku mik := hK
  have hT : InvT tl tn mt mty := hT
  obtain ⟨tP, tI, tN, tD, tK, tm, ts, tt, th⟩ := td
  have h0 : tN = 0 := h0
  have hN0 : InvN (cR r d P I K) (RP, RI, RN, RD, nI x, nI u) (cN r N) (nI u) md := ⟨r, d, P, I, K, N, u, x, rfl, rfl, rfl, rfl, rfl, hw, hN, hd, h5, hU⟩
  obtain ⟨v, x1, x2, x3, x4, x5, A2, h8, h9⟩ := S_steam (P := P) (I := I) (K := K) (N := N) (A := mas) (w := we) hw hN (Nat.le_trans (by decide) hF) p0 p1 p2 w1 w2 w3 w4
  refine ⟨_, _, h8, h9, rfl, ?_⟩
  dsimp only [INV, U8_steam, U9_steam, z_now, z_und, z_kR, z_kU, z_iK, z_let, z_told, z_len, z_lan, z_siz, z_itm, z_ask, z_aco, z_ani, z_mst, z_mpa, z_bsh, y_now, y_undos, y_undone, y_kept, y_keptUndos, y_isKept, y_tape, y_typed, y_lanes, y_sizes, y_items]
  exact ⟨hN0, hK, hT, hR, hC, h0⟩
set_option maxRecDepth 20000 in
theorem I_image {σ : CST} {μ : MST} {F : Nat} (hF : 600000 ≤ F) (hI : INV σ μ) : ∃ (o8 : Int32 × (Nat → Int32) × (Nat → Int32) × Int32 × Int32 × (Nat → Int32) × Int32 × Int32 × Int32 × Int32 × (Nat → Nat → Int32) × (Nat → Nat → Int32) × (Nat → Int32) × (Nat → Int32) × Int32 × Int32 × Int32) (o9 : Int32 × (Nat → Int32) × Int32 × Int32), m_X8_image F ((z_now σ).1) ((z_now σ).2.1) ((z_now σ).2.2.1) ((z_now σ).2.2.2.1) ((z_now σ).2.2.2.2.1) ((z_now σ).2.2.2.2.2.1) ((z_now σ).2.2.2.2.2.2.1) ((z_now σ).2.2.2.2.2.2.2.1) ((z_now σ).2.2.2.2.2.2.2.2) ((z_und σ).1) ((z_und σ).2.1) ((z_und σ).2.2.1) ((z_und σ).2.2.2.1) ((z_und σ).2.2.2.2.1) ((z_und σ).2.2.2.2.2) ((z_kR σ).1) ((z_kR σ).2.1) ((z_kR σ).2.2.1) ((z_kR σ).2.2.2.1) ((z_kR σ).2.2.2.2.1) ((z_kR σ).2.2.2.2.2.1) ((z_kR σ).2.2.2.2.2.2.1) ((z_kR σ).2.2.2.2.2.2.2.1) ((z_kR σ).2.2.2.2.2.2.2.2) ((z_kU σ).1) ((z_kU σ).2.1) ((z_kU σ).2.2.1) ((z_kU σ).2.2.2.1) ((z_kU σ).2.2.2.2.1) ((z_kU σ).2.2.2.2.2) ((z_iK σ)) = some o8 ∧ m_X9_image F ((y_now μ)) ((y_undone μ)) ((y_undos μ)) ((y_kept μ)) ((y_keptUndos μ)) ((y_isKept μ)) = some o9 ∧ o8.1 = o9.1 ∧ INV (U8_image σ o8) (U9_image μ o9) := by
  obtain ⟨n, ⟨RP, RI, RN, RD, nx, kn⟩, k, kg, ik, tl, td, tn, tp, tf, ot, oc, om, we, w1, w2, w3, w4, ask, pt, sh, bs, ac, an, ms, mp, it, la, si, frm, mrk⟩ := σ
  obtain ⟨mn, mt, mty, mpl, mfa, mrl, mrd, md, mu, mas, mco, mbc, mbs, mbp, mke, mku, mik, ml, msz, mit, mmo⟩ := μ
  obtain ⟨⟨r, d, P, I, K, N, u, x, e1, e2, e3, e4, e5, hw, hN, hd, h5, hU⟩, hK, hT, hR, hC, h0⟩ := hI
  have e1 : n = cR r d P I K := e1
  have e2 : nx = nI x := e2
  have e3 : kn = nI u := e3
  have e4 : mn = cN r N := e4
  have e5 : mu = nI u := e5
  subst e1; subst e2; subst e3; subst e4; subst e5
  have hU : UR r u x RP RI RN RD md := hU
  have hR : RWS la si it ml msz mit := hR
  have hC : PCa ask ac an ms mp bs := hC
  have hK : InvK k kg ik mke mku mik := hK
  have hT : InvT tl tn mt mty := hT
  obtain ⟨tP, tI, tN, tD, tK, tm, ts, tt, th⟩ := td
  have h0 : tN = 0 := h0
  have hN0 : InvN (cR r d P I K) (RP, RI, RN, RD, nI x, nI u) (cN r N) (nI u) md := ⟨r, d, P, I, K, N, u, x, rfl, rfl, rfl, rfl, rfl, hw, hN, hd, h5, hU⟩
  obtain ⟨t1, t2, t3, t4, t5, t6, t7, t8, t9⟩ := k
  obtain ⟨g1, g2, g3, g4, g5, g6⟩ := kg
  obtain ⟨T, G, kept, h8, h9, hk⟩ := S_image (P := P) (I := I) (K := K) (A := mke) hw hN hd h5 (Nat.le_trans (by decide) hF) hU t1 t2 t3 t4 t5 t6 t7 t8 t9 g1 g2 g3 g4 g5 g6 ik mik mku
  refine ⟨_, _, h8, h9, rfl, ?_⟩
  dsimp only [INV, U8_image, U9_image, z_now, z_und, z_kR, z_kU, z_iK, z_let, z_told, z_len, z_lan, z_siz, z_itm, z_ask, z_aco, z_ani, z_mst, z_mpa, z_bsh, y_now, y_undos, y_undone, y_kept, y_keptUndos, y_isKept, y_tape, y_typed, y_lanes, y_sizes, y_items]
  exact ⟨hN0, ⟨true, rfl, rfl, hk⟩, hT, hR, hC, h0⟩
set_option maxRecDepth 20000 in
theorem I_restore {σ : CST} {μ : MST} {F : Nat} (hF : 600000 ≤ F) (hI : INV σ μ) : ∃ (o8 : Int32 × (Nat → Int32) × (Nat → Int32) × Int32 × Int32 × (Nat → Int32) × Int32 × Int32 × Int32 × Int32 × (Nat → Nat → Int32) × (Nat → Nat → Int32) × (Nat → Int32) × (Nat → Int32) × Int32 × Int32) (o9 : Int32 × (Nat → Int32) × (Nat → Int32) × Int32), m_X8_restore F ((z_now σ).1) ((z_now σ).2.1) ((z_now σ).2.2.1) ((z_now σ).2.2.2.1) ((z_now σ).2.2.2.2.1) ((z_now σ).2.2.2.2.2.1) ((z_now σ).2.2.2.2.2.2.1) ((z_now σ).2.2.2.2.2.2.2.1) ((z_now σ).2.2.2.2.2.2.2.2) ((z_und σ).1) ((z_und σ).2.1) ((z_und σ).2.2.1) ((z_und σ).2.2.2.1) ((z_und σ).2.2.2.2.1) ((z_und σ).2.2.2.2.2) ((z_kR σ).1) ((z_kR σ).2.1) ((z_kR σ).2.2.1) ((z_kR σ).2.2.2.1) ((z_kR σ).2.2.2.2.1) ((z_kR σ).2.2.2.2.2.1) ((z_kR σ).2.2.2.2.2.2.1) ((z_kR σ).2.2.2.2.2.2.2.1) ((z_kR σ).2.2.2.2.2.2.2.2) ((z_kU σ).1) ((z_kU σ).2.1) ((z_kU σ).2.2.1) ((z_kU σ).2.2.2.1) ((z_kU σ).2.2.2.2.1) ((z_kU σ).2.2.2.2.2) ((z_iK σ)) = some o8 ∧ m_X9_restore F ((y_now μ)) ((y_undone μ)) ((y_undos μ)) ((y_kept μ)) ((y_keptUndos μ)) ((y_isKept μ)) = some o9 ∧ o8.1 = o9.1 ∧ INV (U8_restore σ o8) (U9_restore μ o9) := by
  obtain ⟨n, ⟨RP, RI, RN, RD, nx, kn⟩, k, kg, ik, tl, td, tn, tp, tf, ot, oc, om, we, w1, w2, w3, w4, ask, pt, sh, bs, ac, an, ms, mp, it, la, si, frm, mrk⟩ := σ
  obtain ⟨mn, mt, mty, mpl, mfa, mrl, mrd, md, mu, mas, mco, mbc, mbs, mbp, mke, mku, mik, ml, msz, mit, mmo⟩ := μ
  obtain ⟨⟨r, d, P, I, K, N, u, x, e1, e2, e3, e4, e5, hw, hN, hd, h5, hU⟩, hK, hT, hR, hC, h0⟩ := hI
  have e1 : n = cR r d P I K := e1
  have e2 : nx = nI x := e2
  have e3 : kn = nI u := e3
  have e4 : mn = cN r N := e4
  have e5 : mu = nI u := e5
  subst e1; subst e2; subst e3; subst e4; subst e5
  have hU : UR r u x RP RI RN RD md := hU
  have hR : RWS la si it ml msz mit := hR
  have hC : PCa ask ac an ms mp bs := hC
  have hK : InvK k kg ik mke mku mik := hK
  have hT : InvT tl tn mt mty := hT
  obtain ⟨tP, tI, tN, tD, tK, tm, ts, tt, th⟩ := td
  have h0 : tN = 0 := h0
  have hN0 : InvN (cR r d P I K) (RP, RI, RN, RD, nI x, nI u) (cN r N) (nI u) md := ⟨r, d, P, I, K, N, u, x, rfl, rfl, rfl, rfl, rfl, hw, hN, hd, h5, hU⟩
  obtain ⟨b, k1, k2, hk⟩ := id hK
  have k1 : ik = bI b := k1
  have k2 : mik = bI b := k2
  subst k1; subst k2
  obtain ⟨v, q, d2, P2, I2, K2, N2, RP2, RI2, RN2, RD2, U2, x2, u2, h8, h9, hq, f7, hd2, g5, hU2⟩ := S_restore (P := P) (I := I) (K := K) hw hN hd h5 (Nat.le_trans (by decide) hF) hU hk
  refine ⟨_, _, h8, h9, rfl, ?_⟩
  dsimp only [INV, U8_restore, U9_restore, z_now, z_und, z_kR, z_kU, z_iK, z_let, z_told, z_len, z_lan, z_siz, z_itm, z_ask, z_aco, z_ani, z_mst, z_mpa, z_bsh, y_now, y_undos, y_undone, y_kept, y_keptUndos, y_isKept, y_tape, y_typed, y_lanes, y_sizes, y_items]
  exact ⟨⟨q, d2, P2, I2, K2, N2, u2, x2, rfl, rfl, rfl, rfl, rfl, hq, f7, hd2, g5, hU2⟩, hK, hT, hR, hC, h0⟩
set_option maxRecDepth 20000 in
theorem I_worn {σ : CST} {μ : MST} {F : Nat} (hF : 600000 ≤ F) (hI : INV σ μ) (p0 : Int32) (p1 : Int32) (p2 : Int32) (p3 : Int32) (p4 : Int32) (p5 : Int32) : ∃ (o8 : Int32 × (Nat → Int32) × (Nat → Int32) × Int32 × Int32 × (Nat → Int32) × Int32 × Int32 × Int32 × Int32 × (Nat → Int32) × (Nat → Int32)) (o9 : Int32 × (Nat → Int32) × (Nat → Int32)), m_X8_worn F ((z_now σ).1) ((z_now σ).2.1) ((z_now σ).2.2.1) ((z_now σ).2.2.2.1) ((z_now σ).2.2.2.2.1) ((z_now σ).2.2.2.2.2.1) ((z_now σ).2.2.2.2.2.2.1) ((z_now σ).2.2.2.2.2.2.2.1) ((z_now σ).2.2.2.2.2.2.2.2) ((z_oT σ).1) ((z_oT σ).2.1) ((z_oT σ).2.2.1) ((z_oT σ).2.2.2.1) ((z_oT σ).2.2.2.2.1) ((z_oT σ).2.2.2.2.2.1) ((z_oT σ).2.2.2.2.2.2.1) ((z_oT σ).2.2.2.2.2.2.2.1) ((z_oT σ).2.2.2.2.2.2.2.2) ((z_itm σ)) ((z_lan σ)) ((z_siz σ)) ((z_frm σ)) ((z_mrk σ)) p0 p1 p2 p3 p4 p5 = some o8 ∧ m_X9_worn F ((y_now μ)) ((y_aside μ)) ((y_lanes μ)) ((y_sizes μ)) ((y_items μ)) p0 p1 p2 p3 p4 p5 = some o9 ∧ o8.1 = o9.1 ∧ INV (U8_worn σ o8) (U9_worn μ o9) := by
  obtain ⟨n, ⟨RP, RI, RN, RD, nx, kn⟩, k, kg, ik, tl, td, tn, tp, tf, ot, oc, om, we, w1, w2, w3, w4, ask, pt, sh, bs, ac, an, ms, mp, it, la, si, frm, mrk⟩ := σ
  obtain ⟨mn, mt, mty, mpl, mfa, mrl, mrd, md, mu, mas, mco, mbc, mbs, mbp, mke, mku, mik, ml, msz, mit, mmo⟩ := μ
  obtain ⟨⟨r, d, P, I, K, N, u, x, e1, e2, e3, e4, e5, hw, hN, hd, h5, hU⟩, hK, hT, hR, hC, h0⟩ := hI
  have e1 : n = cR r d P I K := e1
  have e2 : nx = nI x := e2
  have e3 : kn = nI u := e3
  have e4 : mn = cN r N := e4
  have e5 : mu = nI u := e5
  subst e1; subst e2; subst e3; subst e4; subst e5
  have hU : UR r u x RP RI RN RD md := hU
  have hR : RWS la si it ml msz mit := hR
  have hC : PCa ask ac an ms mp bs := hC
  have hK : InvK k kg ik mke mku mik := hK
  have hT : InvT tl tn mt mty := hT
  obtain ⟨tP, tI, tN, tD, tK, tm, ts, tt, th⟩ := td
  have h0 : tN = 0 := h0
  have hN0 : InvN (cR r d P I K) (RP, RI, RN, RD, nI x, nI u) (cN r N) (nI u) md := ⟨r, d, P, I, K, N, u, x, rfl, rfl, rfl, rfl, rfl, hw, hN, hd, h5, hU⟩
  obtain ⟨t1, t2, t3, t4, t5, t6, t7, t8, t9⟩ := ot
  obtain ⟨v, a1, a2, a3, a4, a5, a6, a7, a8, a9, rf2, rm2, A2, h8, h9⟩ := S_worn (d := d) (P := P) (I := I) (K := K) (N := N) (A := mas) (rf := frm) (rm := mrk) hw hN (Nat.le_trans (by decide) hF) hR p0 p1 p2 p3 p4 p5 t1 t2 t3 t4 t5 t6 t7 t8 t9
  refine ⟨_, _, h8, h9, rfl, ?_⟩
  dsimp only [INV, U8_worn, U9_worn, z_now, z_und, z_kR, z_kU, z_iK, z_let, z_told, z_len, z_lan, z_siz, z_itm, z_ask, z_aco, z_ani, z_mst, z_mpa, z_bsh, y_now, y_undos, y_undone, y_kept, y_keptUndos, y_isKept, y_tape, y_typed, y_lanes, y_sizes, y_items]
  exact ⟨hN0, hK, hT, hR, hC, h0⟩
set_option maxRecDepth 20000 in
theorem I_film {σ : CST} {μ : MST} {F : Nat} (hF : 600000 ≤ F) (hI : INV σ μ) (p0 : Int32) (p1 : Int32) (p2 : Int32) (p3 : Int32) (p4 : Int32) : ∃ (o8 : Int32 × (Nat → Int32) × (Nat → Int32) × Int32 × Int32 × (Nat → Int32) × Int32 × Int32 × Int32 × Int32 × (Nat → Nat → Int64) × (Nat → Int32) × (Nat → Int32)) (o9 : Int32 × (Nat → Int32) × (Nat → Int32) × (Nat → Int64)), m_X8_film F ((z_now σ).1) ((z_now σ).2.1) ((z_now σ).2.2.1) ((z_now σ).2.2.2.1) ((z_now σ).2.2.2.2.1) ((z_now σ).2.2.2.2.2.1) ((z_now σ).2.2.2.2.2.2.1) ((z_now σ).2.2.2.2.2.2.2.1) ((z_now σ).2.2.2.2.2.2.2.2) ((z_oT σ).1) ((z_oT σ).2.1) ((z_oT σ).2.2.1) ((z_oT σ).2.2.2.1) ((z_oT σ).2.2.2.2.1) ((z_oT σ).2.2.2.2.2.1) ((z_oT σ).2.2.2.2.2.2.1) ((z_oT σ).2.2.2.2.2.2.2.1) ((z_oT σ).2.2.2.2.2.2.2.2) ((z_itm σ)) ((z_lan σ)) ((z_siz σ)) ((z_frm σ)) ((z_mrk σ)) p0 p1 p2 p3 p4 = some o8 ∧ m_X9_film F ((y_now μ)) ((y_aside μ)) ((y_lanes μ)) ((y_sizes μ)) ((y_items μ)) p0 p1 p2 p3 p4 = some o9 ∧ o8.1 = o9.1 ∧ INV (U8_film σ o8) (U9_film μ o9) := by
  obtain ⟨n, ⟨RP, RI, RN, RD, nx, kn⟩, k, kg, ik, tl, td, tn, tp, tf, ot, oc, om, we, w1, w2, w3, w4, ask, pt, sh, bs, ac, an, ms, mp, it, la, si, frm, mrk⟩ := σ
  obtain ⟨mn, mt, mty, mpl, mfa, mrl, mrd, md, mu, mas, mco, mbc, mbs, mbp, mke, mku, mik, ml, msz, mit, mmo⟩ := μ
  obtain ⟨⟨r, d, P, I, K, N, u, x, e1, e2, e3, e4, e5, hw, hN, hd, h5, hU⟩, hK, hT, hR, hC, h0⟩ := hI
  have e1 : n = cR r d P I K := e1
  have e2 : nx = nI x := e2
  have e3 : kn = nI u := e3
  have e4 : mn = cN r N := e4
  have e5 : mu = nI u := e5
  subst e1; subst e2; subst e3; subst e4; subst e5
  have hU : UR r u x RP RI RN RD md := hU
  have hR : RWS la si it ml msz mit := hR
  have hC : PCa ask ac an ms mp bs := hC
  have hK : InvK k kg ik mke mku mik := hK
  have hT : InvT tl tn mt mty := hT
  obtain ⟨tP, tI, tN, tD, tK, tm, ts, tt, th⟩ := td
  have h0 : tN = 0 := h0
  have hN0 : InvN (cR r d P I K) (RP, RI, RN, RD, nI x, nI u) (cN r N) (nI u) md := ⟨r, d, P, I, K, N, u, x, rfl, rfl, rfl, rfl, rfl, hw, hN, hd, h5, hU⟩
  obtain ⟨t1, t2, t3, t4, t5, t6, t7, t8, t9⟩ := ot
  obtain ⟨v, a1, a2, a3, a4, a5, a6, a7, a8, a9, RX2, rf2, rm2, A2, mx2, h8, h9, hR2⟩ := S_film (d := d) (P := P) (I := I) (K := K) (N := N) (A := mas) (rf := frm) (rm := mrk) hw hN (Nat.le_trans (by decide) hF) hR p0 p1 p2 p3 p4 t1 t2 t3 t4 t5 t6 t7 t8 t9
  refine ⟨_, _, h8, h9, rfl, ?_⟩
  dsimp only [INV, U8_film, U9_film, z_now, z_und, z_kR, z_kU, z_iK, z_let, z_told, z_len, z_lan, z_siz, z_itm, z_ask, z_aco, z_ani, z_mst, z_mpa, z_bsh, y_now, y_undos, y_undone, y_kept, y_keptUndos, y_isKept, y_tape, y_typed, y_lanes, y_sizes, y_items]
  exact ⟨hN0, hK, hT, hR2, hC, h0⟩
set_option maxRecDepth 20000 in
theorem I_sheet {σ : CST} {μ : MST} {F : Nat} (hF : 600000 ≤ F) (hI : INV σ μ) (p0 : Int32) (p1 : Int32) (p2 : Int32) : ∃ (o8 : Int32 × (Nat → Nat → Int64) × (Nat → Int32) × (Nat → Int32)) (o9 : Int32 × (Nat → Int32) × (Nat → Int32) × (Nat → Int64)), m_X8_sheet F ((z_itm σ)) ((z_lan σ)) ((z_siz σ)) p0 p1 p2 = some o8 ∧ m_X9_sheet F ((y_lanes μ)) ((y_sizes μ)) ((y_items μ)) p0 p1 p2 = some o9 ∧ o8.1 = o9.1 ∧ INV (U8_sheet σ o8) (U9_sheet μ o9) := by
  obtain ⟨n, ⟨RP, RI, RN, RD, nx, kn⟩, k, kg, ik, tl, td, tn, tp, tf, ot, oc, om, we, w1, w2, w3, w4, ask, pt, sh, bs, ac, an, ms, mp, it, la, si, frm, mrk⟩ := σ
  obtain ⟨mn, mt, mty, mpl, mfa, mrl, mrd, md, mu, mas, mco, mbc, mbs, mbp, mke, mku, mik, ml, msz, mit, mmo⟩ := μ
  obtain ⟨⟨r, d, P, I, K, N, u, x, e1, e2, e3, e4, e5, hw, hN, hd, h5, hU⟩, hK, hT, hR, hC, h0⟩ := hI
  have e1 : n = cR r d P I K := e1
  have e2 : nx = nI x := e2
  have e3 : kn = nI u := e3
  have e4 : mn = cN r N := e4
  have e5 : mu = nI u := e5
  subst e1; subst e2; subst e3; subst e4; subst e5
  have hU : UR r u x RP RI RN RD md := hU
  have hR : RWS la si it ml msz mit := hR
  have hC : PCa ask ac an ms mp bs := hC
  have hK : InvK k kg ik mke mku mik := hK
  have hT : InvT tl tn mt mty := hT
  obtain ⟨tP, tI, tN, tD, tK, tm, ts, tt, th⟩ := td
  have h0 : tN = 0 := h0
  have hN0 : InvN (cR r d P I K) (RP, RI, RN, RD, nI x, nI u) (cN r N) (nI u) md := ⟨r, d, P, I, K, N, u, x, rfl, rfl, rfl, rfl, rfl, hw, hN, hd, h5, hU⟩
  obtain ⟨v, RX2, RL2, RS2, ml2, ms2, mx2, h8, h9, hR2⟩ := S_sheet (Nat.le_trans (by decide) hF) hR p0 p1 p2
  refine ⟨_, _, h8, h9, rfl, ?_⟩
  dsimp only [INV, U8_sheet, U9_sheet, z_now, z_und, z_kR, z_kU, z_iK, z_let, z_told, z_len, z_lan, z_siz, z_itm, z_ask, z_aco, z_ani, z_mst, z_mpa, z_bsh, y_now, y_undos, y_undone, y_kept, y_keptUndos, y_isKept, y_tape, y_typed, y_lanes, y_sizes, y_items]
  exact ⟨hN0, hK, hT, hR2, hC, h0⟩
set_option maxRecDepth 20000 in
theorem I_drop {σ : CST} {μ : MST} {F : Nat} (hF : 600000 ≤ F) (hI : INV σ μ) (p0 : Int32) : ∃ (o8 : Int32 × (Nat → Int32)) (o9 : Int32 × (Nat → Int32)), m_X8_drop ((z_lan σ)) ((z_siz σ)) p0 = some o8 ∧ m_X9_drop ((y_lanes μ)) ((y_sizes μ)) p0 = some o9 ∧ o8.1 = o9.1 ∧ INV (U8_drop σ o8) (U9_drop μ o9) := by
  obtain ⟨n, ⟨RP, RI, RN, RD, nx, kn⟩, k, kg, ik, tl, td, tn, tp, tf, ot, oc, om, we, w1, w2, w3, w4, ask, pt, sh, bs, ac, an, ms, mp, it, la, si, frm, mrk⟩ := σ
  obtain ⟨mn, mt, mty, mpl, mfa, mrl, mrd, md, mu, mas, mco, mbc, mbs, mbp, mke, mku, mik, ml, msz, mit, mmo⟩ := μ
  obtain ⟨⟨r, d, P, I, K, N, u, x, e1, e2, e3, e4, e5, hw, hN, hd, h5, hU⟩, hK, hT, hR, hC, h0⟩ := hI
  have e1 : n = cR r d P I K := e1
  have e2 : nx = nI x := e2
  have e3 : kn = nI u := e3
  have e4 : mn = cN r N := e4
  have e5 : mu = nI u := e5
  subst e1; subst e2; subst e3; subst e4; subst e5
  have hU : UR r u x RP RI RN RD md := hU
  have hR : RWS la si it ml msz mit := hR
  have hC : PCa ask ac an ms mp bs := hC
  have hK : InvK k kg ik mke mku mik := hK
  have hT : InvT tl tn mt mty := hT
  obtain ⟨tP, tI, tN, tD, tK, tm, ts, tt, th⟩ := td
  have h0 : tN = 0 := h0
  have hN0 : InvN (cR r d P I K) (RP, RI, RN, RD, nI x, nI u) (cN r N) (nI u) md := ⟨r, d, P, I, K, N, u, x, rfl, rfl, rfl, rfl, rfl, hw, hN, hd, h5, hU⟩
  obtain ⟨v, RL2, ml2, h8, h9, hR2⟩ := S_drop hR p0
  refine ⟨_, _, h8, h9, rfl, ?_⟩
  dsimp only [INV, U8_drop, U9_drop, z_now, z_und, z_kR, z_kU, z_iK, z_let, z_told, z_len, z_lan, z_siz, z_itm, z_ask, z_aco, z_ani, z_mst, z_mpa, z_bsh, y_now, y_undos, y_undone, y_kept, y_keptUndos, y_isKept, y_tape, y_typed, y_lanes, y_sizes, y_items]
  exact ⟨hN0, hK, hT, hR2, hC, h0⟩
set_option maxRecDepth 20000 in
theorem I_item {σ : CST} {μ : MST} {F : Nat} (hF : 600000 ≤ F) (hI : INV σ μ) (p0 : Int32) (p1 : Int32) (p2 : Int32) (p3 : Int64) : ∃ (o8 : Int32 × (Nat → Nat → Int64)) (o9 : Int32 × (Nat → Int64)), m_X8_item ((z_itm σ)) ((z_lan σ)) ((z_siz σ)) p0 p1 p2 p3 = some o8 ∧ m_X9_item ((y_lanes μ)) ((y_sizes μ)) ((y_items μ)) p0 p1 p2 p3 = some o9 ∧ o8.1 = o9.1 ∧ INV (U8_item σ o8) (U9_item μ o9) := by
  obtain ⟨n, ⟨RP, RI, RN, RD, nx, kn⟩, k, kg, ik, tl, td, tn, tp, tf, ot, oc, om, we, w1, w2, w3, w4, ask, pt, sh, bs, ac, an, ms, mp, it, la, si, frm, mrk⟩ := σ
  obtain ⟨mn, mt, mty, mpl, mfa, mrl, mrd, md, mu, mas, mco, mbc, mbs, mbp, mke, mku, mik, ml, msz, mit, mmo⟩ := μ
  obtain ⟨⟨r, d, P, I, K, N, u, x, e1, e2, e3, e4, e5, hw, hN, hd, h5, hU⟩, hK, hT, hR, hC, h0⟩ := hI
  have e1 : n = cR r d P I K := e1
  have e2 : nx = nI x := e2
  have e3 : kn = nI u := e3
  have e4 : mn = cN r N := e4
  have e5 : mu = nI u := e5
  subst e1; subst e2; subst e3; subst e4; subst e5
  have hU : UR r u x RP RI RN RD md := hU
  have hR : RWS la si it ml msz mit := hR
  have hC : PCa ask ac an ms mp bs := hC
  have hK : InvK k kg ik mke mku mik := hK
  have hT : InvT tl tn mt mty := hT
  obtain ⟨tP, tI, tN, tD, tK, tm, ts, tt, th⟩ := td
  have h0 : tN = 0 := h0
  have hN0 : InvN (cR r d P I K) (RP, RI, RN, RD, nI x, nI u) (cN r N) (nI u) md := ⟨r, d, P, I, K, N, u, x, rfl, rfl, rfl, rfl, rfl, hw, hN, hd, h5, hU⟩
  obtain ⟨v, RX2, mx2, h8, h9, hR2⟩ := S_item hR p0 p1 p2 p3
  refine ⟨_, _, h8, h9, rfl, ?_⟩
  dsimp only [INV, U8_item, U9_item, z_now, z_und, z_kR, z_kU, z_iK, z_let, z_told, z_len, z_lan, z_siz, z_itm, z_ask, z_aco, z_ani, z_mst, z_mpa, z_bsh, y_now, y_undos, y_undone, y_kept, y_keptUndos, y_isKept, y_tape, y_typed, y_lanes, y_sizes, y_items]
  exact ⟨hN0, hK, hT, hR2, hC, h0⟩
set_option maxRecDepth 20000 in
theorem I_copy {σ : CST} {μ : MST} {F : Nat} (hF : 600000 ≤ F) (hI : INV σ μ) (p0 : Int32) (p1 : Int32) (p2 : Int32) (p3 : Int32) (p4 : Int32) : ∃ (o8 : Int32 × (Nat → Nat → Int64)) (o9 : Int32 × (Nat → Int64) × (Nat → Int64)), m_X8_copy ((z_itm σ)) ((z_lan σ)) ((z_siz σ)) p0 p1 p2 p3 p4 = some o8 ∧ m_X9_copy F ((y_lanes μ)) ((y_sizes μ)) ((y_items μ)) ((y_moved μ)) p0 p1 p2 p3 p4 = some o9 ∧ o8.1 = o9.1 ∧ INV (U8_copy σ o8) (U9_copy μ o9) := by
  obtain ⟨n, ⟨RP, RI, RN, RD, nx, kn⟩, k, kg, ik, tl, td, tn, tp, tf, ot, oc, om, we, w1, w2, w3, w4, ask, pt, sh, bs, ac, an, ms, mp, it, la, si, frm, mrk⟩ := σ
  obtain ⟨mn, mt, mty, mpl, mfa, mrl, mrd, md, mu, mas, mco, mbc, mbs, mbp, mke, mku, mik, ml, msz, mit, mmo⟩ := μ
  obtain ⟨⟨r, d, P, I, K, N, u, x, e1, e2, e3, e4, e5, hw, hN, hd, h5, hU⟩, hK, hT, hR, hC, h0⟩ := hI
  have e1 : n = cR r d P I K := e1
  have e2 : nx = nI x := e2
  have e3 : kn = nI u := e3
  have e4 : mn = cN r N := e4
  have e5 : mu = nI u := e5
  subst e1; subst e2; subst e3; subst e4; subst e5
  have hU : UR r u x RP RI RN RD md := hU
  have hR : RWS la si it ml msz mit := hR
  have hC : PCa ask ac an ms mp bs := hC
  have hK : InvK k kg ik mke mku mik := hK
  have hT : InvT tl tn mt mty := hT
  obtain ⟨tP, tI, tN, tD, tK, tm, ts, tt, th⟩ := td
  have h0 : tN = 0 := h0
  have hN0 : InvN (cR r d P I K) (RP, RI, RN, RD, nI x, nI u) (cN r N) (nI u) md := ⟨r, d, P, I, K, N, u, x, rfl, rfl, rfl, rfl, rfl, hw, hN, hd, h5, hU⟩
  obtain ⟨v, RX2, mx2, mv2, h8, h9, hR2⟩ := S_copy (mv := mmo) (Nat.le_trans (by decide) hF) hR p0 p1 p2 p3 p4
  refine ⟨_, _, h8, h9, rfl, ?_⟩
  dsimp only [INV, U8_copy, U9_copy, z_now, z_und, z_kR, z_kU, z_iK, z_let, z_told, z_len, z_lan, z_siz, z_itm, z_ask, z_aco, z_ani, z_mst, z_mpa, z_bsh, y_now, y_undos, y_undone, y_kept, y_keptUndos, y_isKept, y_tape, y_typed, y_lanes, y_sizes, y_items]
  exact ⟨hN0, hK, hT, hR2, hC, h0⟩
