/-! ===== THE LAW'S CASES ===== -/
abbrev AA (s : State) : Nat → Prop := fun q => s.heap.size ≤ q
def LCx (p : Program) (s : State) (m : MethodId) (c : Code) (b L : Nat) (xs : Nat → Int32) (D : va_G) (cy : Nat → ClassId) (ka kv : Nat) : Prop := p.tables.exec = Jvm.exec ∧ c.code = cL_law ∧ c.maxLocals = 4 ∧ s.vm.findClass RL = some m.cls ∧ (∀ w ∈ lw_tblG, w.before #[Value.ref b] s = true) ∧ va_K D vwCl (tyU cy) s ∧ va_X b L xs s s.heap ∧ b < s.heap.size ∧ CSt ka kv (AA s) s s.heap
set_option maxHeartbeats 4000000 in
set_option maxRecDepth 100000 in
theorem L_man {p : Program} {l : Launch} {e : Env} {s : State} {m : MethodId} {below : List Frame} {meth : Method} {c : Code} {QQ : State → Prop} {b L : Nat} {xs : Nat → Int32} {D : va_G} {cy : Nat → ClassId} {ka kv oa ob : Nat} {ad bd : Nat → Nat} {F : Nat} {σ : CST} {μ : MST} {H : Heap} {locs : List Loc} {ls : Array Slot} {xi : Int32} (hF : 600000 ≤ F) (C0 : LCx p s m c b L xs D cy ka kv) (hJ : vp_in (xi + 1) L ∧ vp_in (xi + 2) L ∧ vp_in (xi + 3) L ∧ vp_in (xi + 4) L ∧ vp_in (xi + 5) L ∧ vp_in (xi + 6) L) (hI : INV σ μ) (hP : va_P D vwCl (wL cy oa ad ob bd σ μ) H) (hD : va_D (AA s) (wL cy oa ad ob bd σ μ)) (hS : va_S (AA s) s.heap H locs) (hl : lv_has ls 4 [(3, .int xi), (2, .ref ob), (1, .ref oa), (0, .ref b)])
    (kk : ∀ (σ' : CST) (μ' : MST) (H' : Heap) (locs' : List Loc), INV σ' μ' → va_P D vwCl (wL cy oa ad ob bd σ' μ') H' → va_D (AA s) (wL cy oa ad ob bd σ' μ') → va_S (AA s) s.heap H' locs' → W p l e room_1 s m #[Value.ref b] below meth c H' locs' 108 1208 QQ (F0 m 1355 ls [])) : W p l e room_1 s m #[Value.ref b] below meth c H locs 108 1208 QQ (F0 m 188 ls []) := by
  obtain ⟨hx, hb, hml, hown, hg, hK, hX, hbl, hCs⟩ := C0
  obtain ⟨hj1, hj2, hj3, hj4, hj5, hj6⟩ := hJ
  have hA : ∀ q : Nat, s.heap.size ≤ q → AA s q := fun _ h => h
  obtain ⟨o8, o9, h8, h9, he, hI2⟩ := I_man hF hI (xs (xi + 1).toNatClampNeg) (xs (xi + 2).toNatClampNeg) (xs (xi + 3).toNatClampNeg)
  refine lv_aload_n hx hb dL_law_188 rfl (lv_at hl 2 rfl) ?_
  refine lv_aload_n hx hb dL_law_189 rfl (lv_at hl 3 rfl) ?_
  refine lv_iload_n hx hb dL_law_190 rfl (lv_at hl 0 rfl) ?_
  refine lv_iconst (v := 1) hx hb dL_law_191 kI_1 ?_
  refine lv_iadd hx hb dL_law_192 ?_
  refine va_sld hx hb hX hbl (Nat.not_le.mpr hbl) hS hj1 dL_law_193 ?_
  refine lv_aload_n hx hb dL_law_194 rfl (lv_at hl 3 rfl) ?_
  refine lv_iload_n hx hb dL_law_195 rfl (lv_at hl 0 rfl) ?_
  refine lv_iconst (v := 2) hx hb dL_law_196 kI_2 ?_
  refine lv_iadd hx hb dL_law_197 ?_
  refine va_sld hx hb hX hbl (Nat.not_le.mpr hbl) hS hj2 dL_law_198 ?_
  refine lv_aload_n hx hb dL_law_199 rfl (lv_at hl 3 rfl) ?_
  refine lv_iload_n hx hb dL_law_200 rfl (lv_at hl 0 rfl) ?_
  refine lv_iconst (v := 3) hx hb dL_law_201 kI_3 ?_
  refine lv_iadd hx hb dL_law_202 ?_
  refine va_sld hx hb hX hbl (Nat.not_le.mpr hbl) hS hj3 dL_law_203 ?_
  refine callLM (As := [.int (xs (xi + 1).toNatClampNeg), .int (xs (xi + 2).toNatClampNeg), .int (xs (xi + 3).toNatClampNeg)]) (rest := []) (w2 := wL cy oa ad ob bd (U8_man σ o8) μ) hx hb hml hown hg (c_X8_man l D cy oa (ad 0) (ad 1) (ad 2) (ad 3) (ad 4) _ (.ref (ad 30)) (.ref (ad 34)) (.int ((z_iK σ))) (.ref (ad 60)) (.ref (ad 66)) (.ref (ad 71)) (.ref (ad 73)) (.ref (ad 84)) (.int ((z_now σ).2.2.1)) (.int ((z_now σ).2.2.2.1)) (.int ((z_now σ).2.2.2.2.2.2.1)) (.int ((z_now σ).2.2.2.2.2.2.2.1)) (.int ((z_now σ).2.2.2.2.2.2.2.2)) (.ref (ad 5)) (.int ((z_und σ).2.2.2.2.1)) ((z_now σ).1) ((z_now σ).2.1) ((z_now σ).2.2.2.2.1) ((z_now σ).2.2.2.2.2.1) ((z_und σ).2.2.2.2.2) (xs (xi + 1).toNatClampNeg) (xs (xi + 2).toNatClampNeg) (xs (xi + 3).toNatClampNeg) F o8 h8) q_345 q_342 q_54 q_343 q_344 hd_X8_man ⟨(Nat.le_of_ble_eq_true rfl), (Nat.le_of_ble_eq_true rfl)⟩ ⟨(Nat.le_of_ble_eq_true rfl), (Nat.le_of_ble_eq_true rfl)⟩ hK hP hD hS hA [0, 1, 2, 3, 4, 5] rfl rfl rfl (by dsimp only [wL, U8_man, z_now, z_und, z_kR, z_kU, z_iK, z_let, z_told, z_len, z_plc, z_flt, z_oT, z_cho, z_mos, z_wei, z_sur, z_sha, z_abo, z_bel, z_ask, z_pT, z_shs, z_bsh, z_aco, z_ani, z_mst, z_mpa, z_itm, z_lan, z_siz, z_frm, z_mrk]; rfl) 0 8 rfl rfl rfl rfl rfl rfl hl.1 rfl rfl (Nat.le_of_ble_eq_true rfl) dL_law_204 (fun H locs hP hD hS => ?_)
  refine lv_aload_n hx hb dL_law_207 rfl (lv_at hl 1 rfl) ?_
  refine lv_aload_n hx hb dL_law_208 rfl (lv_at hl 3 rfl) ?_
  refine lv_iload_n hx hb dL_law_209 rfl (lv_at hl 0 rfl) ?_
  refine lv_iconst (v := 1) hx hb dL_law_210 kI_1 ?_
  refine lv_iadd hx hb dL_law_211 ?_
  refine va_sld hx hb hX hbl (Nat.not_le.mpr hbl) hS hj1 dL_law_212 ?_
  refine lv_aload_n hx hb dL_law_213 rfl (lv_at hl 3 rfl) ?_
  refine lv_iload_n hx hb dL_law_214 rfl (lv_at hl 0 rfl) ?_
  refine lv_iconst (v := 2) hx hb dL_law_215 kI_2 ?_
  refine lv_iadd hx hb dL_law_216 ?_
  refine va_sld hx hb hX hbl (Nat.not_le.mpr hbl) hS hj2 dL_law_217 ?_
  refine lv_aload_n hx hb dL_law_218 rfl (lv_at hl 3 rfl) ?_
  refine lv_iload_n hx hb dL_law_219 rfl (lv_at hl 0 rfl) ?_
  refine lv_iconst (v := 3) hx hb dL_law_220 kI_3 ?_
  refine lv_iadd hx hb dL_law_221 ?_
  refine va_sld hx hb hX hbl (Nat.not_le.mpr hbl) hS hj3 dL_law_222 ?_
  refine callLM (As := [.int (xs (xi + 1).toNatClampNeg), .int (xs (xi + 2).toNatClampNeg), .int (xs (xi + 3).toNatClampNeg)]) (rest := [.int o8.1]) (w2 := wL cy oa ad ob bd (U8_man σ o8) (U9_man μ o9)) hx hb hml hown hg (c_X9_man l D cy ob (bd 0) _ (.ref (bd 1)) (.int ((y_typed μ))) (.int ((y_place μ))) (.int ((y_isFault μ))) (.ref (bd 2)) (.ref (bd 3)) (.ref (bd 4)) (.ref (bd 5)) (.ref (bd 6)) (.ref (bd 7)) (.int ((y_bestStand μ))) (.int ((y_bestPaint μ))) (.ref (bd 8)) (.int ((y_keptUndos μ))) (.int ((y_isKept μ))) (.ref (bd 9)) (.ref (bd 10)) (.ref (bd 11)) (.ref (bd 12)) ((y_now μ)) ((y_undos μ)) (xs (xi + 1).toNatClampNeg) (xs (xi + 2).toNatClampNeg) (xs (xi + 3).toNatClampNeg) F o9 h9) q_1012 q_1009 q_63 q_1010 q_1011 hd_X9_man ⟨(Nat.le_of_ble_eq_true rfl), (Nat.le_of_ble_eq_true rfl)⟩ ⟨(Nat.le_of_ble_eq_true rfl), (Nat.le_of_ble_eq_true rfl)⟩ hK hP hD hS hA [94, 95] rfl rfl rfl (by dsimp only [wL, U9_man, y_now, y_tape, y_typed, y_place, y_isFault, y_readLaw, y_read, y_undone, y_undos, y_aside, y_coat, y_bestCoats, y_bestStand, y_bestPaint, y_kept, y_keptUndos, y_isKept, y_lanes, y_sizes, y_items, y_moved]; rfl) 94 9 rfl rfl rfl rfl rfl rfl hl.1 rfl rfl (Nat.le_of_ble_eq_true rfl) dL_law_223 (fun H locs hP hD hS => ?_)
  exact lv_icmp_eq (tgt := 1355) hx hb dL_law_226 (by decide) (fun _ => kk (U8_man σ o8) (U9_man μ o9) H locs hI2 hP hD hS) (fun c => absurd he c)
set_option maxHeartbeats 4000000 in
set_option maxRecDepth 100000 in
theorem L_of {p : Program} {l : Launch} {e : Env} {s : State} {m : MethodId} {below : List Frame} {meth : Method} {c : Code} {QQ : State → Prop} {b L : Nat} {xs : Nat → Int32} {D : va_G} {cy : Nat → ClassId} {ka kv oa ob : Nat} {ad bd : Nat → Nat} {F : Nat} {σ : CST} {μ : MST} {H : Heap} {locs : List Loc} {ls : Array Slot} {xi : Int32} (hF : 600000 ≤ F) (C0 : LCx p s m c b L xs D cy ka kv) (hJ : vp_in (xi + 1) L ∧ vp_in (xi + 2) L ∧ vp_in (xi + 3) L ∧ vp_in (xi + 4) L ∧ vp_in (xi + 5) L ∧ vp_in (xi + 6) L) (hI : INV σ μ) (hP : va_P D vwCl (wL cy oa ad ob bd σ μ) H) (hD : va_D (AA s) (wL cy oa ad ob bd σ μ)) (hS : va_S (AA s) s.heap H locs) (hl : lv_has ls 4 [(3, .int xi), (2, .ref ob), (1, .ref oa), (0, .ref b)])
    (kk : ∀ (σ' : CST) (μ' : MST) (H' : Heap) (locs' : List Loc), INV σ' μ' → va_P D vwCl (wL cy oa ad ob bd σ' μ') H' → va_D (AA s) (wL cy oa ad ob bd σ' μ') → va_S (AA s) s.heap H' locs' → W p l e room_1 s m #[Value.ref b] below meth c H' locs' 108 1208 QQ (F0 m 1355 ls [])) : W p l e room_1 s m #[Value.ref b] below meth c H locs 108 1208 QQ (F0 m 264 ls []) := by
  obtain ⟨hx, hb, hml, hown, hg, hK, hX, hbl, hCs⟩ := C0
  obtain ⟨hj1, hj2, hj3, hj4, hj5, hj6⟩ := hJ
  have hA : ∀ q : Nat, s.heap.size ≤ q → AA s q := fun _ h => h
  obtain ⟨o8, o9, h8, h9, he, hI2⟩ := I_of hF hI (xs (xi + 1).toNatClampNeg) (xs (xi + 2).toNatClampNeg)
  refine lv_aload_n hx hb dL_law_264 rfl (lv_at hl 2 rfl) ?_
  refine lv_aload_n hx hb dL_law_265 rfl (lv_at hl 3 rfl) ?_
  refine lv_iload_n hx hb dL_law_266 rfl (lv_at hl 0 rfl) ?_
  refine lv_iconst (v := 1) hx hb dL_law_267 kI_1 ?_
  refine lv_iadd hx hb dL_law_268 ?_
  refine va_sld hx hb hX hbl (Nat.not_le.mpr hbl) hS hj1 dL_law_269 ?_
  refine lv_aload_n hx hb dL_law_270 rfl (lv_at hl 3 rfl) ?_
  refine lv_iload_n hx hb dL_law_271 rfl (lv_at hl 0 rfl) ?_
  refine lv_iconst (v := 2) hx hb dL_law_272 kI_2 ?_
  refine lv_iadd hx hb dL_law_273 ?_
  refine va_sld hx hb hX hbl (Nat.not_le.mpr hbl) hS hj2 dL_law_274 ?_
  refine callLR (As := [.int (xs (xi + 1).toNatClampNeg), .int (xs (xi + 2).toNatClampNeg)]) (rest := []) (v0 := .int o8) hx hb hml hown hg (c_X8_of l D cy oa (ad 0) (ad 1) (ad 2) (ad 3) (.ref (ad 4)) (.ref (ad 30)) (.ref (ad 34)) (.int ((z_iK σ))) (.ref (ad 60)) (.ref (ad 66)) (.ref (ad 71)) (.ref (ad 73)) (.ref (ad 84)) (.int ((z_now σ).2.2.2.1)) (.int ((z_now σ).2.2.2.2.2.2.1)) (.int ((z_now σ).2.2.2.2.2.2.2.1)) (.int ((z_now σ).2.2.2.2.2.2.2.2)) ((z_now σ).1) ((z_now σ).2.1) ((z_now σ).2.2.1) ((z_now σ).2.2.2.2.1) ((z_now σ).2.2.2.2.2.1) (xs (xi + 1).toNatClampNeg) (xs (xi + 2).toNatClampNeg) F o8 h8) q_375 q_372 q_54 q_373 q_374 hd_X8_of ⟨(Nat.le_of_ble_eq_true rfl), (Nat.le_of_ble_eq_true rfl)⟩ ⟨(Nat.le_of_ble_eq_true rfl), (Nat.le_of_ble_eq_true rfl)⟩ hK hP [0, 1, 2, 3, 4] rfl 0 8 rfl rfl rfl rfl rfl rfl hl.1 rfl (Nat.le_of_ble_eq_true rfl) dL_law_275 ?_
  refine lv_aload_n hx hb dL_law_278 rfl (lv_at hl 1 rfl) ?_
  refine lv_aload_n hx hb dL_law_279 rfl (lv_at hl 3 rfl) ?_
  refine lv_iload_n hx hb dL_law_280 rfl (lv_at hl 0 rfl) ?_
  refine lv_iconst (v := 1) hx hb dL_law_281 kI_1 ?_
  refine lv_iadd hx hb dL_law_282 ?_
  refine va_sld hx hb hX hbl (Nat.not_le.mpr hbl) hS hj1 dL_law_283 ?_
  refine lv_aload_n hx hb dL_law_284 rfl (lv_at hl 3 rfl) ?_
  refine lv_iload_n hx hb dL_law_285 rfl (lv_at hl 0 rfl) ?_
  refine lv_iconst (v := 2) hx hb dL_law_286 kI_2 ?_
  refine lv_iadd hx hb dL_law_287 ?_
  refine va_sld hx hb hX hbl (Nat.not_le.mpr hbl) hS hj2 dL_law_288 ?_
  refine callLR (As := [.int (xs (xi + 1).toNatClampNeg), .int (xs (xi + 2).toNatClampNeg)]) (rest := [.int o8]) (v0 := .int o9) hx hb hml hown hg (c_X9_of l D cy ob (bd 0) (.ref (bd 1)) (.int ((y_typed μ))) (.int ((y_place μ))) (.int ((y_isFault μ))) (.ref (bd 2)) (.ref (bd 3)) (.ref (bd 4)) (.int ((y_undos μ))) (.ref (bd 5)) (.ref (bd 6)) (.ref (bd 7)) (.int ((y_bestStand μ))) (.int ((y_bestPaint μ))) (.ref (bd 8)) (.int ((y_keptUndos μ))) (.int ((y_isKept μ))) (.ref (bd 9)) (.ref (bd 10)) (.ref (bd 11)) (.ref (bd 12)) ((y_now μ)) (xs (xi + 1).toNatClampNeg) (xs (xi + 2).toNatClampNeg) F o9 h9) q_1047 q_1044 q_63 q_1045 q_1046 hd_X9_of ⟨(Nat.le_of_ble_eq_true rfl), (Nat.le_of_ble_eq_true rfl)⟩ ⟨(Nat.le_of_ble_eq_true rfl), (Nat.le_of_ble_eq_true rfl)⟩ hK hP [94, 95] rfl 94 9 rfl rfl rfl rfl rfl rfl hl.1 rfl (Nat.le_of_ble_eq_true rfl) dL_law_289 ?_
  exact lv_icmp_eq (tgt := 1355) hx hb dL_law_292 (by decide) (fun _ => kk σ μ H locs hI2 hP hD hS) (fun c => absurd he c)
