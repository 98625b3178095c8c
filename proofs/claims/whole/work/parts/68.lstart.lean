theorem hd_X8_init : HdG yX8_init 0 := by decide +kernel
theorem hd_X9_init : HdG yX9_init 0 := by decide +kernel
/-! ===== THE LAW'S START ===== -/
theorem lawN {args : Array Value} {s : State} (hts : ∀ w ∈ lw_tbl, w.before args s = true) : NW s := by
  refine ⟨fun q hq => ?_, va_AO.of (hts _ (List.mem_append_right _ (show (.arrayOver (.object RX0) : Cond) ∈ tables_1 from (List.mem_append_left _ (List.mem_of_getElem? (i := 102) (by decide +kernel)))))), va_AO.of (hts _ (List.mem_append_right _ (show (.arrayOver (.object RX4) : Cond) ∈ tables_1 from (List.mem_append_left _ (List.mem_of_getElem? (i := 229) (by decide +kernel))))))⟩
  simp only [nestL, List.mem_cons, List.not_mem_nil, or_false] at hq
  rcases hq with rfl | rfl | rfl | rfl | rfl | rfl | rfl | rfl | rfl | rfl | rfl
  · exact va_Nw.of rfl (hts _ (List.mem_append_right _ (show (.methodLinkNest RX8 9 yX3_init RX8 : Cond) ∈ tables_1 from (List.mem_append_left _ (List.mem_of_getElem? (i := 30) (by decide +kernel))))))
  · exact va_Nw.of rfl (hts _ (List.mem_append_right _ (show (.methodLinkNest RX3 3 yX0_init RX8 : Cond) ∈ tables_1 from (List.mem_append_left _ (List.mem_of_getElem? (i := 33) (by decide +kernel))))))
  · exact va_Nw.of rfl (hts _ (List.mem_append_right _ (show (.methodLinkNest RX7 17 yX0_init RX8 : Cond) ∈ tables_1 from (List.mem_append_left _ (List.mem_of_getElem? (i := 104) (by decide +kernel))))))
  · exact va_Nw.of rfl (hts _ (List.mem_append_right _ (show (.methodLinkNest RX8 31 yX6_init RX8 : Cond) ∈ tables_1 from (List.mem_append_left _ (List.mem_of_getElem? (i := 123) (by decide +kernel))))))
  · exact va_Nw.of rfl (hts _ (List.mem_append_right _ (show (.methodLinkNest RX6 17 yX3_init RX8 : Cond) ∈ tables_1 from (List.mem_append_left _ (List.mem_of_getElem? (i := 128) (by decide +kernel))))))
  · exact va_Nw.of rfl (hts _ (List.mem_append_right _ (show (.methodLinkNest RX8 38 yX1_init RX8 : Cond) ∈ tables_1 from (List.mem_append_left _ (List.mem_of_getElem? (i := 150) (by decide +kernel))))))
  · exact va_Nw.of rfl (hts _ (List.mem_append_right _ (show (.methodLinkNest RX1 11 yX3_init RX8 : Cond) ∈ tables_1 from (List.mem_append_left _ (List.mem_of_getElem? (i := 155) (by decide +kernel))))))
  · exact va_Nw.of rfl (hts _ (List.mem_append_right _ (show (.methodLinkNest RX8 45 yX5_init RX8 : Cond) ∈ tables_1 from (List.mem_append_left _ (List.mem_of_getElem? (i := 170) (by decide +kernel))))))
  · exact va_Nw.of rfl (hts _ (List.mem_append_right _ (show (.methodLinkNest RX8 52 yX2_init RX8 : Cond) ∈ tables_1 from (List.mem_append_left _ (List.mem_of_getElem? (i := 194) (by decide +kernel))))))
  · exact va_Nw.of rfl (hts _ (List.mem_append_right _ (show (.methodLinkNest RX2 11 yX3_init RX8 : Cond) ∈ tables_1 from (List.mem_append_left _ (List.mem_of_getElem? (i := 199) (by decide +kernel))))))
  · exact va_Nw.of rfl (hts _ (List.mem_append_right _ (show (.methodLinkNest RX8 63 yX4_init RX8 : Cond) ∈ tables_1 from (List.mem_append_left _ (List.mem_of_getElem? (i := 231) (by decide +kernel))))))
theorem arrP {args : Array Value} {s : State} {ty : FieldType} (h : (Cond.arrayClass ty).before args s = true) : ∃ cA : ClassId, ArrOfT s cA ty ∧ s.vm.findClass ("[" ++ ty.toString) = some cA := by
  obtain ⟨cA, k, comp, h1, h2, h3⟩ := Cond.arrayClass_spec h
  exact ⟨cA, fun N z => ⟨(fun k h => by cases h), k, h2, comp, h3⟩, h1⟩
theorem arrQ {s : State} {C : String} (h : va_AO C s) : ∃ cA : ClassId, ArrOfT s cA (.object C) ∧ va_RA s cA (.object C) := by
  obtain ⟨comp, cA, k, h1, h2, h3, h4, h5⟩ := Cond.arrayOver_spec h
  exact ⟨cA, fun N z => ⟨(fun k h => by cases h), k, h3, comp, h4⟩, k, comp, h3, h4, h1, h5⟩
theorem lawK {args : Array Value} {s : State} (hg : ∀ w ∈ lw_tblG, w.before args s = true) (hN : NW s) : ∃ (D : va_G) (cy : Nat → ClassId), va_K D vwCl (tyU cy) s := by
  obtain ⟨c0, i0, h0⟩ := u_known (C := RX0) (T := TX0) (N := 4) (n := 4) hg inG_X0 (hg _ q_156)
  obtain ⟨c1, i1, h1⟩ := u_known (C := RX1) (T := TX1) (N := 3) (n := 3) hg inG_X1 (hg _ q_202)
  obtain ⟨c2, i2, h2⟩ := u_known (C := RX2) (T := TX2) (N := 8) (n := 8) hg inG_X2 (hg _ q_246)
  obtain ⟨c3, i3, h3⟩ := u_known (C := RX3) (T := TX3) (N := 9) (n := 9) hg inG_X3 (hg _ q_82)
  obtain ⟨c4, i4, h4⟩ := u_known (C := RX4) (T := TX4) (N := 5) (n := 5) hg inG_X4 (hg _ q_283)
  obtain ⟨c5, i5, h5⟩ := u_known (C := RX5) (T := TX5) (N := 5) (n := 5) hg inG_X5 (hg _ q_222)
  obtain ⟨c6, i6, h6⟩ := u_known (C := RX6) (T := TX6) (N := 5) (n := 5) hg inG_X6 (hg _ q_175)
  obtain ⟨c7, i7, h7⟩ := u_known (C := RX7) (T := TX7) (N := 3) (n := 3) hg inG_X7 (hg _ q_149)
  obtain ⟨c8, i8, h8⟩ := u_known (C := RX8) (T := TX8) (N := 10) (n := 10) hg inG_X8 (hg _ q_74)
  obtain ⟨c9, i9, h9⟩ := u_known (C := RX9) (T := TX9) (N := 21) (n := 21) hg inG_X9 (hg _ q_940)
  obtain ⟨a0, f0, g0⟩ := arrP (hg _ q_147)
  obtain ⟨a1, f1, g1⟩ := arrP (hg _ q_200)
  obtain ⟨a2, f2, g2⟩ := arrP (hg _ q_310)
  obtain ⟨a3, f3, g3⟩ := arrQ hN.2.1
  obtain ⟨a4, f4, g4⟩ := arrQ hN.2.2
  refine ⟨(fun k => [c0, c1, c2, c3, c4, c5, c6, c7, c8, c9].getD k c0, fun k => [i0, i1, i2, i3, i4, i5, i6, i7, i8, i9].getD k i0), fun k => [a0, a1, a2, a3, a4].getD k a0, fun k q hq => ?_, fun k q hq => ?_⟩
  · match k, hq with
    | 0, hq => cases hq; exact h0
    | 1, hq => cases hq; exact h1
    | 2, hq => cases hq; exact h2
    | 3, hq => cases hq; exact h3
    | 4, hq => cases hq; exact h4
    | 5, hq => cases hq; exact h5
    | 6, hq => cases hq; exact h6
    | 7, hq => cases hq; exact h7
    | 8, hq => cases hq; exact h8
    | 9, hq => cases hq; exact h9
    | k + 10, hq => cases hq
  · match k, hq with
    | 0, hq => cases hq; exact ⟨f0, g0⟩
    | 1, hq => cases hq; exact ⟨f1, g1⟩
    | 2, hq => cases hq; exact ⟨f2, g2⟩
    | 3, hq => cases hq; exact ⟨f3, g3⟩
    | 4, hq => cases hq; exact ⟨f4, g4⟩
    | k + 5, hq => cases hq
theorem lawC {s : State} {b : Nat} (hts : ∀ w ∈ lw_tbl, w.before #[Value.ref b] s = true) (hgv : (Jvm.Cond.and given_1 narrow_1).before #[Value.ref b] s = true) : ∃ ka kv : Nat, CSt ka kv (AA s) s s.heap := by
  have hs := flat_of_before _ hgv
  have hA : ∀ a : Nat, a < s.heap.size → ¬ AA s a := fun a h => Nat.not_le.mpr h
  obtain ⟨adK, adV, hS, hev⟩ := vk_Sof (args := #[Value.ref b]) (s := s) (N := 1) (tm := fun _ => .string RX6 87) (len := [5]) (byt := [[112, 108, 103, 100, 118]]) (A := AA s) (fun i hi => by rw [show i = 0 by omega]; decide) (fun i hi => hs _ (by decide +kernel)) (fun i hi => hs _ (by decide +kernel)) (fun i hi => hs _ (by decide +kernel)) (fun i hi => by rw [show i = 0 by omega]; exact hs _ (by decide +kernel))
    (fun i hi j hj => by
      rw [show i = 0 by omega] at hj ⊢
      have hj : j < 5 := hj
      rcases (show j = 0 ∨ j = 1 ∨ j = 2 ∨ j = 3 ∨ j = 4 by omega) with rfl | rfl | rfl | rfl | rfl <;> exact hs _ (by decide +kernel))
    (fun i j hi hj hne => absurd (show i = j by omega) hne) hA
  obtain ⟨k1, k2, k3, k4⟩ := hS.1 0 (by decide)
  exact ⟨adK 0, adV 0, vk_R.of (hts _ (List.mem_append_right _ (show (.stringRef RX6 87 "plgdv" : Cond) ∈ tables_1 from (List.mem_append_right _ (List.mem_append_left _ (List.mem_of_getElem? (i := 207) (by decide +kernel))))))) (hev 0 (by decide)), va_Zof (hts _ (List.mem_append_right _ (show (.laysStatic "java/lang/String" "COMPACT_STRINGS" "Z" : Cond) ∈ tables_1 from (List.mem_append_right _ (List.mem_append_left _ (List.mem_of_getElem? (i := 221) (by decide +kernel))))))) (hts _ (List.mem_append_right _ (show (.initialized "java/lang/String" : Cond) ∈ tables_1 from (List.mem_append_left _ (List.mem_of_getElem? (i := 13) (by decide +kernel)))))) (va_eqt (hs (Cond.eq (.static "java/lang/String" "COMPACT_STRINGS" "Z") (.int 1)) (by decide +kernel))) hA, k1, k2, k3, k4⟩
theorem lhead {L i : Nat} (hL : L ≤ 448) (hi : i ≤ 64) : Int32.ofNat L - 7 < nI (7 * i) ↔ L < 7 * i + 7 := by
  have e1 : (nI L).toInt = L := nI_toInt (by omega)
  have e2 : (nI (7 * i)).toInt = ((7 * i : Nat) : Int) := nI_toInt (by omega)
  have e3 : (7 : Int32).toInt = 7 := rfl
  show nI L - 7 < nI (7 * i) ↔ _
  rw [Int32.lt_iff_toInt_lt, fb_subI (by rw [e1, e3]; omega) (by rw [e1, e3]; omega), e1, e2, e3]
  omega
theorem lvin {L k : Nat} (hL : L ≤ 448) (h : k < L) : vp_in (nI k) L := (chk_e (chk_nI (some ()) h (by omega))).1
theorem lvins {L i : Nat} (hL : L ≤ 448) (h : 7 * i + 7 ≤ L) : vp_in (nI (7 * i) + 1) L ∧ vp_in (nI (7 * i) + 2) L ∧ vp_in (nI (7 * i) + 3) L ∧ vp_in (nI (7 * i) + 4) L ∧ vp_in (nI (7 * i) + 5) L ∧ vp_in (nI (7 * i) + 6) L := by
  have e : ∀ k, nI (7 * i) + nI k = nI (7 * i + k) := fun k => (Int32.ofNat_add _ _).symm
  have g : ∀ k, k < 7 → vp_in (nI (7 * i) + nI k) L := fun k hk => by rw [e k]; exact lvin hL (by omega)
  exact ⟨g 1 (by decide), g 2 (by decide), g 3 (by decide), g 4 (by decide), g 5 (by decide), g 6 (by decide)⟩
set_option maxHeartbeats 4000000 in
set_option maxRecDepth 100000 in
theorem lloop {p : Program} {l : Launch} {e : Env} {s : State} {m : MethodId} {below : List Frame} {meth : Method} {c : Code} {QQ : State → Prop} {b L : Nat} {xs : Nat → Int32} {D : va_G} {cy : Nat → ClassId} {ka kv oa ob : Nat} {ad bd : Nat → Nat} {F : Nat} (hF : 600000 ≤ F) (C0 : LCx p s m c b L xs D cy ka kv) (hL : L ≤ 448)
    (kend : ∀ (H : Heap) (locs : List Loc) (ls : Array Slot), va_S (AA s) s.heap H locs → W p l e room_1 s m #[Value.ref b] below meth c H locs 108 1208 QQ (F0 m 1361 ls [])) :
    ∀ (n i : Nat) (σ : CST) (μ : MST) (H : Heap) (locs : List Loc) (ls : Array Slot), L < 7 * i + 7 * n + 7 → i ≤ 64 → INV σ μ → va_P D vwCl (wL cy oa ad ob bd σ μ) H → va_D (AA s) (wL cy oa ad ob bd σ μ) → va_S (AA s) s.heap H locs → lv_has ls 4 [(3, .int (nI (7 * i))), (2, .ref ob), (1, .ref oa), (0, .ref b)] → W p l e room_1 s m #[Value.ref b] below meth c H locs 108 1208 QQ (F0 m 18 ls []) := by
  obtain ⟨hx, hb, hml, hown, hg, hK, hX, hbl, hCs⟩ := id C0
  intro n
  induction n with
  | zero =>
    intro i σ μ H locs ls hn hi hI hP hD hS hl
    refine lv_iload_n hx hb dL_law_18 rfl (lv_at hl 0 rfl) ?_
    refine lv_aload_n hx hb dL_law_19 rfl (lv_at hl 3 rfl) ?_
    refine va_slen hx hb hX hbl (Nat.not_le.mpr hbl) hS dL_law_20 ?_
    refine lv_bipush (v := 7) hx hb dL_law_21 kB_7 ?_
    refine lv_isub hx hb dL_law_23 ?_
    exact lv_icmp_gt (tgt := 1361) hx hb dL_law_24 (by decide) (fun _ => kend _ _ _ hS) (fun q => absurd ((lhead hL hi).mpr (by omega)) q)
  | succ n ih =>
    intro i σ μ H locs ls hn hi hI hP hD hS hl
    refine lv_iload_n hx hb dL_law_18 rfl (lv_at hl 0 rfl) ?_
    refine lv_aload_n hx hb dL_law_19 rfl (lv_at hl 3 rfl) ?_
    refine va_slen hx hb hX hbl (Nat.not_le.mpr hbl) hS dL_law_20 ?_
    refine lv_bipush (v := 7) hx hb dL_law_21 kB_7 ?_
    refine lv_isub hx hb dL_law_23 ?_
    refine lv_icmp_gt (tgt := 1361) hx hb dL_law_24 (by decide) (fun _ => kend _ _ _ hS) (fun q => ?_)
    have hlt : 7 * i + 7 ≤ L := Nat.not_lt.mp (fun z => q ((lhead hL hi).mpr z))
    have hJ := lvins hL hlt
    have kk : ∀ (σ' : CST) (μ' : MST) (H' : Heap) (locs' : List Loc), INV σ' μ' → va_P D vwCl (wL cy oa ad ob bd σ' μ') H' → va_D (AA s) (wL cy oa ad ob bd σ' μ') → va_S (AA s) s.heap H' locs' → W p l e room_1 s m #[Value.ref b] below meth c H' locs' 108 1208 QQ (F0 m 1355 ls []) := by
      intro σ' μ' H' locs' hI' hP' hD' hS'
      refine lv_iinc (v := nI (7 * (i + 1))) (lv' := [(3, .int (nI (7 * (i + 1)))), (2, .ref ob), (1, .ref oa), (0, .ref b)]) hx hb dL_law_1355 hl (k := 0) rfl (inc_e kI_7 (by rw [Nat.mul_add]; exact Int32.ofNat_add _ _)) (by decide) rfl (fun ls hl => ?_)
      refine lv_goto (tgt := 18) hx hb dL_law_1358 (by decide) ?_
      exact ih (i + 1) σ' μ' H' locs' ls (by omega) (by omega) hI' hP' hD' hS' hl
    refine lv_aload_n hx hb dL_law_27 rfl (lv_at hl 3 rfl) ?_
    refine lv_iload_n hx hb dL_law_28 rfl (lv_at hl 0 rfl) ?_
    refine va_sld hx hb hX hbl (Nat.not_le.mpr hbl) hS (lvin hL (by omega)) dL_law_29 ?_
    refine lv_bipush (v := 63) hx hb dL_law_30 kB_63 ?_
    refine lv_iand hx hb dL_law_32 ?_
    refine lv_topi (fun x ex => ?_)
    by_cases q0 : x = 0
    · refine lv_tableIn (off := 155) (tgt := 188) hx hb dL_law_33 (by rw [q0]; decide) (by rw [q0]; decide) (by rw [q0]; decide) (by decide) ?_
      exact L_man hF C0 hJ hI hP hD hS hl kk
    by_cases q1 : x = 1
    · refine lv_tableIn (off := 198) (tgt := 231) hx hb dL_law_33 (by rw [q1]; decide) (by rw [q1]; decide) (by rw [q1]; decide) (by decide) ?_
      exact L_rule hF C0 hJ hI hP hD hS hl kk
    by_cases q2 : x = 2
    · refine lv_tableIn (off := 231) (tgt := 264) hx hb dL_law_33 (by rw [q2]; decide) (by rw [q2]; decide) (by rw [q2]; decide) (by decide) ?_
      exact L_of hF C0 hJ hI hP hD hS hl kk
    by_cases q3 : x = 3
    · refine lv_tableIn (off := 264) (tgt := 297) hx hb dL_law_33 (by rw [q3]; decide) (by rw [q3]; decide) (by rw [q3]; decide) (by decide) ?_
      exact L_at hF C0 hJ hI hP hD hS hl kk
    by_cases q4 : x = 4
    · refine lv_tableIn (off := 297) (tgt := 330) hx hb dL_law_33 (by rw [q4]; decide) (by rw [q4]; decide) (by rw [q4]; decide) (by decide) ?_
      exact L_wave hF C0 hJ hI hP hD hS hl kk
    by_cases q5 : x = 5
    · refine lv_tableIn (off := 330) (tgt := 363) hx hb dL_law_33 (by rw [q5]; decide) (by rw [q5]; decide) (by rw [q5]; decide) (by decide) ?_
      exact L_held hF C0 hJ hI hP hD hS hl kk
    by_cases q6 : x = 6
    · refine lv_tableIn (off := 353) (tgt := 386) hx hb dL_law_33 (by rw [q6]; decide) (by rw [q6]; decide) (by rw [q6]; decide) (by decide) ?_
      exact L_type hF C0 hJ hI hP hD hS hl kk
    by_cases q7 : x = 7
    · refine lv_tableIn (off := 376) (tgt := 409) hx hb dL_law_33 (by rw [q7]; decide) (by rw [q7]; decide) (by rw [q7]; decide) (by decide) ?_
      exact L_rim hF C0 hJ hI hP hD hS hl kk
    by_cases q8 : x = 8
    · refine lv_tableIn (off := 389) (tgt := 422) hx hb dL_law_33 (by rw [q8]; decide) (by rw [q8]; decide) (by rw [q8]; decide) (by decide) ?_
      exact L_count hF C0 hJ hI hP hD hS hl kk
    by_cases q9 : x = 9
    · refine lv_tableIn (off := 412) (tgt := 445) hx hb dL_law_33 (by rw [q9]; decide) (by rw [q9]; decide) (by rw [q9]; decide) (by decide) ?_
      exact L_nights hF C0 hJ hI hP hD hS hl kk
    by_cases q10 : x = 10
    · refine lv_tableIn (off := 435) (tgt := 468) hx hb dL_law_33 (by rw [q10]; decide) (by rw [q10]; decide) (by rw [q10]; decide) (by decide) ?_
      exact L_march hF C0 hJ hI hP hD hS hl kk
    by_cases q11 : x = 11
    · refine lv_tableIn (off := 468) (tgt := 501) hx hb dL_law_33 (by rw [q11]; decide) (by rw [q11]; decide) (by rw [q11]; decide) (by decide) ?_
      exact L_put hF C0 hJ hI hP hD hS hl kk
    by_cases q12 : x = 12
    · refine lv_tableIn (off := 501) (tgt := 534) hx hb dL_law_33 (by rw [q12]; decide) (by rw [q12]; decide) (by rw [q12]; decide) (by decide) ?_
      exact L_paint hF C0 hJ hI hP hD hS hl kk
    by_cases q13 : x = 13
    · refine lv_tableIn (off := 534) (tgt := 567) hx hb dL_law_33 (by rw [q13]; decide) (by rw [q13]; decide) (by rw [q13]; decide) (by decide) ?_
      exact L_drift hF C0 hJ hI hP hD hS hl kk
    by_cases q14 : x = 14
    · refine lv_tableIn (off := 557) (tgt := 590) hx hb dL_law_33 (by rw [q14]; decide) (by rw [q14]; decide) (by rw [q14]; decide) (by decide) ?_
      exact L_undo hF C0 hJ hI hP hD hS hl kk
    by_cases q15 : x = 15
    · refine lv_tableIn (off := 570) (tgt := 603) hx hb dL_law_33 (by rw [q15]; decide) (by rw [q15]; decide) (by rw [q15]; decide) (by decide) ?_
      exact L_seed hF C0 hJ hI hP hD hS hl kk
    by_cases q16 : x = 16
    · refine lv_tableIn (off := 593) (tgt := 626) hx hb dL_law_33 (by rw [q16]; decide) (by rw [q16]; decide) (by rw [q16]; decide) (by decide) ?_
      exact L_ahead hF C0 hJ hI hP hD hS hl kk
    by_cases q17 : x = 17
    · refine lv_tableIn (off := 636) (tgt := 669) hx hb dL_law_33 (by rw [q17]; decide) (by rw [q17]; decide) (by rw [q17]; decide) (by decide) ?_
      exact L_then hF C0 hJ hI hP hD hS hl kk
    by_cases q18 : x = 18
    · refine lv_tableIn (off := 659) (tgt := 692) hx hb dL_law_33 (by rw [q18]; decide) (by rw [q18]; decide) (by rw [q18]; decide) (by decide) ?_
      exact L_falls hF C0 hJ hI hP hD hS hl kk
    by_cases q19 : x = 19
    · refine lv_tableIn (off := 682) (tgt := 715) hx hb dL_law_33 (by rw [q19]; decide) (by rw [q19]; decide) (by rw [q19]; decide) (by decide) ?_
      exact L_alone hF C0 hJ hI hP hD hS hl kk
    by_cases q20 : x = 20
    · refine lv_tableIn (off := 695) (tgt := 728) hx hb dL_law_33 (by rw [q20]; decide) (by rw [q20]; decide) (by rw [q20]; decide) (by decide) ?_
      exact L_post hF C0 hJ hI hP hD hS hl kk
    by_cases q21 : x = 21
    · refine lv_tableIn (off := 738) (tgt := 771) hx hb dL_law_33 (by rw [q21]; decide) (by rw [q21]; decide) (by rw [q21]; decide) (by decide) ?_
      exact L_safe hF C0 hJ hI hP hD hS hl kk
    by_cases q22 : x = 22
    · refine lv_tableIn (off := 771) (tgt := 804) hx hb dL_law_33 (by rw [q22]; decide) (by rw [q22]; decide) (by rw [q22]; decide) (by decide) ?_
      exact L_change hF C0 hJ hI hP hD hS hl kk
    by_cases q23 : x = 23
    · refine lv_tableIn (off := 804) (tgt := 837) hx hb dL_law_33 (by rw [q23]; decide) (by rw [q23]; decide) (by rw [q23]; decide) (by decide) ?_
      exact L_coats hF C0 hJ hI hP hD hS hl kk
    by_cases q24 : x = 24
    · refine lv_tableIn (off := 847) (tgt := 880) hx hb dL_law_33 (by rw [q24]; decide) (by rw [q24]; decide) (by rw [q24]; decide) (by decide) ?_
      exact L_guard hF C0 hJ hI hP hD hS hl kk
    by_cases q25 : x = 25
    · refine lv_tableIn (off := 880) (tgt := 913) hx hb dL_law_33 (by rw [q25]; decide) (by rw [q25]; decide) (by rw [q25]; decide) (by decide) ?_
      exact L_calm hF C0 hJ hI hP hD hS hl kk
    by_cases q26 : x = 26
    · refine lv_tableIn (off := 903) (tgt := 936) hx hb dL_law_33 (by rw [q26]; decide) (by rw [q26]; decide) (by rw [q26]; decide) (by decide) ?_
      exact L_steam hF C0 hJ hI hP hD hS hl kk
    by_cases q27 : x = 27
    · refine lv_tableIn (off := 946) (tgt := 979) hx hb dL_law_33 (by rw [q27]; decide) (by rw [q27]; decide) (by rw [q27]; decide) (by decide) ?_
      exact L_image hF C0 hJ hI hP hD hS hl kk
    by_cases q28 : x = 28
    · refine lv_tableIn (off := 959) (tgt := 992) hx hb dL_law_33 (by rw [q28]; decide) (by rw [q28]; decide) (by rw [q28]; decide) (by decide) ?_
      exact L_restore hF C0 hJ hI hP hD hS hl kk
    by_cases q29 : x = 29
    · refine lv_tableIn (off := 972) (tgt := 1005) hx hb dL_law_33 (by rw [q29]; decide) (by rw [q29]; decide) (by rw [q29]; decide) (by decide) ?_
      exact L_worn hF C0 hJ hI hP hD hS hl kk
    by_cases q30 : x = 30
    · refine lv_tableIn (off := 1047) (tgt := 1080) hx hb dL_law_33 (by rw [q30]; decide) (by rw [q30]; decide) (by rw [q30]; decide) (by decide) ?_
      exact L_film hF C0 hJ hI hP hD hS hl kk
    by_cases q31 : x = 31
    · refine lv_tableIn (off := 1110) (tgt := 1143) hx hb dL_law_33 (by rw [q31]; decide) (by rw [q31]; decide) (by rw [q31]; decide) (by decide) ?_
      exact L_sheet hF C0 hJ hI hP hD hS hl kk
    by_cases q32 : x = 32
    · refine lv_tableIn (off := 1153) (tgt := 1186) hx hb dL_law_33 (by rw [q32]; decide) (by rw [q32]; decide) (by rw [q32]; decide) (by decide) ?_
      exact L_drop hF C0 hJ hI hP hD hS hl kk
    by_cases q33 : x = 33
    · refine lv_tableIn (off := 1176) (tgt := 1209) hx hb dL_law_33 (by rw [q33]; decide) (by rw [q33]; decide) (by rw [q33]; decide) (by decide) ?_
      exact L_item hF C0 hJ hI hP hD hS hl kk
    by_cases q34 : x = 34
    · refine lv_tableIn (off := 1259) (tgt := 1292) hx hb dL_law_33 (by rw [q34]; decide) (by rw [q34]; decide) (by rw [q34]; decide) (by decide) ?_
      exact L_copy hF C0 hJ hI hP hD hS hl kk
    refine lv_tableOut (tgt := 1355) hx hb dL_law_33 (by have := (And.intro (swn (k := 0) (by decide) q0) ((And.intro (swn (k := 1) (by decide) q1) ((And.intro (swn (k := 2) (by decide) q2) ((And.intro (swn (k := 3) (by decide) q3) ((And.intro (swn (k := 4) (by decide) q4) ((And.intro (swn (k := 5) (by decide) q5) ((And.intro (swn (k := 6) (by decide) q6) ((And.intro (swn (k := 7) (by decide) q7) ((And.intro (swn (k := 8) (by decide) q8) ((And.intro (swn (k := 9) (by decide) q9) ((And.intro (swn (k := 10) (by decide) q10) ((And.intro (swn (k := 11) (by decide) q11) ((And.intro (swn (k := 12) (by decide) q12) ((And.intro (swn (k := 13) (by decide) q13) ((And.intro (swn (k := 14) (by decide) q14) ((And.intro (swn (k := 15) (by decide) q15) ((And.intro (swn (k := 16) (by decide) q16) ((And.intro (swn (k := 17) (by decide) q17) ((And.intro (swn (k := 18) (by decide) q18) ((And.intro (swn (k := 19) (by decide) q19) ((And.intro (swn (k := 20) (by decide) q20) ((And.intro (swn (k := 21) (by decide) q21) ((And.intro (swn (k := 22) (by decide) q22) ((And.intro (swn (k := 23) (by decide) q23) ((And.intro (swn (k := 24) (by decide) q24) ((And.intro (swn (k := 25) (by decide) q25) ((And.intro (swn (k := 26) (by decide) q26) ((And.intro (swn (k := 27) (by decide) q27) ((And.intro (swn (k := 28) (by decide) q28) ((And.intro (swn (k := 29) (by decide) q29) ((And.intro (swn (k := 30) (by decide) q30) ((And.intro (swn (k := 31) (by decide) q31) ((And.intro (swn (k := 32) (by decide) q32) ((And.intro (swn (k := 33) (by decide) q33) (swn (k := 34) (by decide) q34)))))))))))))))))))))))))))))))))))))))))))))))))))))))))))))))))))); omega) (by decide) ?_
    exact kk σ μ H locs hI hP hD hS
def σ0 : CST := (((fun _ => 0), (fun _ => 0), 0, 1, (fun _ => 0), 0, 0, 1, 5), (fun _ => (fun _ => 0), fun _ => (fun _ => 0), fun _ => 0, fun _ => 1, 0, 0), ((fun _ => 0), (fun _ => 0), 0, 1, (fun _ => 0), 0, 0, 1, 5), (fun _ => (fun _ => 0), fun _ => (fun _ => 0), fun _ => 0, fun _ => 1, 0, 0), 0, (fun _ => 0), ((fun _ => 0), (fun _ => 0), 0, 1, (fun _ => 0), 0, 0, 1, 5), 0, 0, 0, ((fun _ => 0), (fun _ => 0), 0, 1, (fun _ => 0), 0, 0, 1, 5), 0, 0, (fun _ => 0), 0, 0, 0, 0, ((fun _ => 0), (fun _ => 0), 0, 1, (fun _ => 0), 0, 0, 1, 5), ((fun _ => 0), (fun _ => 0), 0, 1, (fun _ => 0), 0, 0, 1, 5), (fun _ => 0), (fun _ => 0), (-1), 0, 0, 0, fun _ => (fun _ => 0), fun _ => (-1), fun _ => 0, fun _ => 0, fun _ => 0)
def μ0 : MST := ((upd (upd (upd (fun _ => 0) 3 1) 4 5) 5 1), (fun _ => 0), 0, 0, 0, (fun _ => 0), (fun _ => 0), (fun _ => 0), 0, (fun _ => 0), (fun _ => 0), (fun _ => 0), 0, 0, (fun _ => 0), 0, 0, (upd (upd (upd (upd (fun _ => 0) 0 (-1)) 1 (-1)) 2 (-1)) 3 (-1)), (fun _ => 0), (fun _ => 0), (fun _ => 0))
theorem INV_0 : INV σ0 μ0 := by
  refine ⟨InvN_0 _ _ _ (fun _ => 0) _ _ _ _ _ _ rfl rfl rfl rfl rfl rfl, InvK_0 _ _ _ _, InvT_0 _ _, RWS_0 _ _ _ _ _ _ (fun t ht => ?_), PCa_0 _ _ _ _ _, rfl⟩
  rcases (show t = 0 ∨ t = 1 ∨ t = 2 ∨ t = 3 by omega) with rfl | rfl | rfl | rfl <;> exact ⟨rfl, rfl⟩
