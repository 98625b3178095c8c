def m_X9_in (p0 : Int64) (p1 : Int64) (p2 : Int64) : Option (Int32) := (if (lg_cmp p0 p1) < 0 then some 0 else (if 0 < (lg_cmp p0 p2) then some 0 else some 1))
set_option maxHeartbeats 4000000 in
set_option maxRecDepth 100000 in
theorem c_X9_in (l : Launch) (D : va_G) (cy : Nat → ClassId) (p0 : Int64) (p1 : Int64) (p2 : Int64) (out : Int32) (h : m_X9_in p0 p1 p2 = some out) : MetR l D cy yX9_in cX9_in 6 (some .boolean) (rmG 0 0) [.long p0, .long p1, .long p2] [] (some (.int out)) := by
  refine startR (own := RX9) (by decide) rfl (Nat.le_of_ble_eq_true rfl) ?_
  intro p e s m below meth c QQ hx hb hml hown hg hK hP hret ls hl
  have hl : lv_has ls 6 [(0, .long p0), (2, .long p1), (4, .long p2)] := hl
  unfold m_X9_in at h
  refine lv_lload_n hx hb dX9_in_0 rfl (lv_at hl 0 rfl) ?_
  refine lv_lload_n hx hb dX9_in_1 rfl (lv_at hl 1 rfl) ?_
  refine W.lcmp hx hb dX9_in_2 ?_
  refine lv_if_lt (tgt := 17) hx hb dX9_in_3 (by decide) (fun c1 => ?_) (fun c1 => ?_)
  · have h := it_t c1 h
    refine lv_iconst (v := 0) hx hb dX9_in_17 kI_0 ?_
    exact hret _ ls 18 dX9_in_18 (nar_z (Or.inl rfl)) (congrArg (fun z => some (Value.int z)) (Option.some.inj h))
  · have h := it_f c1 h
    refine lv_lload_n hx hb dX9_in_6 rfl (lv_at hl 0 rfl) ?_
    refine lv_lload hx hb dX9_in_7 (lv_at hl 2 rfl) ?_
    refine W.lcmp hx hb dX9_in_9 ?_
    refine lv_if_gt (tgt := 17) hx hb dX9_in_10 (by decide) (fun c2 => ?_) (fun c2 => ?_)
    · have h := it_t c2 h
      refine lv_iconst (v := 0) hx hb dX9_in_17 kI_0 ?_
      exact hret _ ls 18 dX9_in_18 (nar_z (Or.inl rfl)) (congrArg (fun z => some (Value.int z)) (Option.some.inj h))
    · have h := it_f c2 h
      refine lv_iconst (v := 1) hx hb dX9_in_13 kI_1 ?_
      refine lv_goto (tgt := 18) hx hb dX9_in_14 (by decide) ?_
      exact hret _ ls 18 dX9_in_18 (nar_z (Or.inr rfl)) (congrArg (fun z => some (Value.int z)) (Option.some.inj h))

def m_X9_isMan (t_now : Nat → Int32) (p0 : Int32) : Option (Int32) := (m_X9_in (p0.toInt64) (0 : Int64) (((t_now 0) - 1).toInt64)).bind (fun v1 => zb v1 (some v1))
set_option maxHeartbeats 4000000 in
set_option maxRecDepth 100000 in
theorem c_X9_isMan (l : Launch) (D : va_G) (cy : Nat → ClassId) (a_t : Nat) (a_t_now : Nat) (g_t_tape : Value) (g_t_typed : Value) (g_t_place : Value) (g_t_isFault : Value) (g_t_readLaw : Value) (g_t_read : Value) (g_t_undone : Value) (g_t_undos : Value) (g_t_aside : Value) (g_t_coat : Value) (g_t_bestCoats : Value) (g_t_bestStand : Value) (g_t_bestPaint : Value) (g_t_kept : Value) (g_t_keptUndos : Value) (g_t_isKept : Value) (g_t_lanes : Value) (g_t_sizes : Value) (g_t_items : Value) (g_t_moved : Value) (t_now : Nat → Int32) (p0 : Int32) (out : Int32) (h : m_X9_isMan t_now p0 = some out) : MetR l D cy yX9_isMan cX9_isMan 2 (some .boolean) (rmG 1 25) [.ref a_t, .int p0] [(a_t, .inr (9, [.ref a_t_now, g_t_tape, g_t_typed, g_t_place, g_t_isFault, g_t_readLaw, g_t_read, g_t_undone, g_t_undos, g_t_aside, g_t_coat, g_t_bestCoats, g_t_bestStand, g_t_bestPaint, g_t_kept, g_t_keptUndos, g_t_isKept, g_t_lanes, g_t_sizes, g_t_items, g_t_moved])), (a_t_now, .inl (cy 0, 24, .inl t_now))] (some (.int out)) := by
  refine startR (own := RX9) (by decide) rfl (Nat.le_of_ble_eq_true rfl) ?_
  intro p e s m below meth c QQ hx hb hml hown hg hK hP hret ls hl
  have hl : lv_has ls 2 [(0, .ref a_t), (1, .int p0)] := hl
  unfold m_X9_isMan at h
  refine lv_iload_n hx hb dX9_isMan_0 rfl (lv_at hl 1 rfl) ?_
  refine lv_i2l (v := p0.toInt64) hx hb dX9_isMan_1 rfl ?_
  refine lv_lconst (v := 0) hx hb dX9_isMan_2 kL_0 ?_
  refine lv_aload_n hx hb dX9_isMan_3 rfl (lv_at hl 0 rfl) ?_
  refine va_get (D := D) (ci := 9) (v := .ref a_t_now) (C := RX9) (T := TX9) (N := 21) hx hb hg inG_X9 hown hK hP 0 rfl rfl 0 (by decide) (hg _ q_945) (fun _ h9 => h9) rfl dX9_isMan_4 ?_
  refine lv_iconst (v := 0) hx hb dX9_isMan_7 kI_0 ?_
  refine ialdK hx hb hK hP 1 0 rfl rfl (vp_in_inb (by decide)) kN_0 dX9_isMan_8 ?_
  refine lv_iconst (v := 1) hx hb dX9_isMan_9 kI_1 ?_
  refine lv_isub hx hb dX9_isMan_10 ?_
  refine lv_i2l (v := ((t_now 0) - 1).toInt64) hx hb dX9_isMan_11 rfl ?_
  obtain ⟨v1, hv1, h⟩ := bind_e h
  refine callRS (As := [.long (p0.toInt64), .long 0, .long (((t_now 0) - 1).toInt64)]) (rest := []) (v0 := .int v1) hx hb hml hown hg (c_X9_in l D cy (p0.toInt64) (0 : Int64) (((t_now 0) - 1).toInt64) v1 hv1) q_1016 q_1014 q_63 q_1015 hd_X9_in ⟨(Nat.le_of_ble_eq_true rfl), (Nat.le_of_ble_eq_true rfl)⟩ hK hP [] rfl rfl rfl rfl hl.1 rfl (Nat.le_of_ble_eq_true rfl) dX9_isMan_12 ?_
  obtain ⟨hz2, h⟩ := zb_e h
  exact hret _ ls 15 dX9_isMan_15 (nar_z hz2) (congrArg (fun z => some (Value.int z)) (Option.some.inj h))

def m_X9_isInch (p0 : Int32) : Option (Int32) := (m_X9_in (p0.toInt64) (0 : Int64) (11 : Int64)).bind (fun v1 => zb v1 (some v1))
set_option maxHeartbeats 4000000 in
set_option maxRecDepth 100000 in
theorem c_X9_isInch (l : Launch) (D : va_G) (cy : Nat → ClassId) (p0 : Int32) (out : Int32) (h : m_X9_isInch p0 = some out) : MetR l D cy yX9_isInch cX9_isInch 1 (some .boolean) (rmG 1 25) [.int p0] [] (some (.int out)) := by
  refine startR (own := RX9) (by decide) rfl (Nat.le_of_ble_eq_true rfl) ?_
  intro p e s m below meth c QQ hx hb hml hown hg hK hP hret ls hl
  have hl : lv_has ls 1 [(0, .int p0)] := hl
  unfold m_X9_isInch at h
  refine lv_iload_n hx hb dX9_isInch_0 rfl (lv_at hl 0 rfl) ?_
  refine lv_i2l (v := p0.toInt64) hx hb dX9_isInch_1 rfl ?_
  refine lv_lconst (v := 0) hx hb dX9_isInch_2 kL_0 ?_
  refine lv_ldc2 (v := 11) hx hb hown (hg _ q_1021) dX9_isInch_3 ?_
  obtain ⟨v1, hv1, h⟩ := bind_e h
  refine callRS (As := [.long (p0.toInt64), .long 0, .long 11]) (rest := []) (v0 := .int v1) hx hb hml hown hg (c_X9_in l D cy (p0.toInt64) (0 : Int64) (11 : Int64) v1 hv1) q_1016 q_1014 q_63 q_1015 hd_X9_in ⟨(Nat.le_of_ble_eq_true rfl), (Nat.le_of_ble_eq_true rfl)⟩ hK hP [] rfl rfl rfl rfl hl.1 rfl (Nat.le_of_ble_eq_true rfl) dX9_isInch_6 ?_
  obtain ⟨hz2, h⟩ := zb_e h
  exact hret _ ls 9 dX9_isInch_9 (nar_z hz2) (congrArg (fun z => some (Value.int z)) (Option.some.inj h))

def m_X9_told (t_now : Nat → Int32) (p0 : Int32) (p1 : Int32) : Option (Int32) := chk ((6 + (3 * p0)) + p1) 24 (some (t_now ((6 + (3 * p0)) + p1).toNatClampNeg))
set_option maxHeartbeats 4000000 in
set_option maxRecDepth 100000 in
theorem c_X9_told (l : Launch) (D : va_G) (cy : Nat → ClassId) (a_t : Nat) (a_t_now : Nat) (g_t_tape : Value) (g_t_typed : Value) (g_t_place : Value) (g_t_isFault : Value) (g_t_readLaw : Value) (g_t_read : Value) (g_t_undone : Value) (g_t_undos : Value) (g_t_aside : Value) (g_t_coat : Value) (g_t_bestCoats : Value) (g_t_bestStand : Value) (g_t_bestPaint : Value) (g_t_kept : Value) (g_t_keptUndos : Value) (g_t_isKept : Value) (g_t_lanes : Value) (g_t_sizes : Value) (g_t_items : Value) (g_t_moved : Value) (t_now : Nat → Int32) (p0 : Int32) (p1 : Int32) (out : Int32) (h : m_X9_told t_now p0 p1 = some out) : MetR l D cy yX9_told cX9_told 3 (some .int) (rmG 0 0) [.ref a_t, .int p0, .int p1] [(a_t, .inr (9, [.ref a_t_now, g_t_tape, g_t_typed, g_t_place, g_t_isFault, g_t_readLaw, g_t_read, g_t_undone, g_t_undos, g_t_aside, g_t_coat, g_t_bestCoats, g_t_bestStand, g_t_bestPaint, g_t_kept, g_t_keptUndos, g_t_isKept, g_t_lanes, g_t_sizes, g_t_items, g_t_moved])), (a_t_now, .inl (cy 0, 24, .inl t_now))] (some (.int out)) := by
  refine startR (own := RX9) (by decide) rfl (Nat.le_of_ble_eq_true rfl) ?_
  intro p e s m below meth c QQ hx hb hml hown hg hK hP hret ls hl
  have hl : lv_has ls 3 [(0, .ref a_t), (1, .int p0), (2, .int p1)] := hl
  unfold m_X9_told at h
  refine lv_aload_n hx hb dX9_told_0 rfl (lv_at hl 0 rfl) ?_
  refine va_get (D := D) (ci := 9) (v := .ref a_t_now) (C := RX9) (T := TX9) (N := 21) hx hb hg inG_X9 hown hK hP 0 rfl rfl 0 (by decide) (hg _ q_945) (fun _ h9 => h9) rfl dX9_told_1 ?_
  refine lv_bipush (v := 6) hx hb dX9_told_4 kB_6 ?_
  refine lv_iconst (v := 3) hx hb dX9_told_6 kI_3 ?_
  refine lv_iload_n hx hb dX9_told_7 rfl (lv_at hl 1 rfl) ?_
  refine lv_imul hx hb dX9_told_8 ?_
  refine lv_iadd hx hb dX9_told_9 ?_
  refine lv_iload_n hx hb dX9_told_10 rfl (lv_at hl 2 rfl) ?_
  refine lv_iadd hx hb dX9_told_11 ?_
  obtain ⟨hi1, h⟩ := chk_e h
  refine va_iald hx hb hK hP 1 0 rfl rfl hi1 dX9_told_12 ?_
  exact hret _ ls 13 dX9_told_13 rfl (congrArg (fun z => some (Value.int z)) (Option.some.inj h))

def m_X9_paintOf (t_now : Nat → Int32) (p0 : Int32) : Option (Int32) := (m_X9_told t_now p0 1).bind (fun v1 => some v1)
set_option maxHeartbeats 4000000 in
set_option maxRecDepth 100000 in
theorem c_X9_paintOf (l : Launch) (D : va_G) (cy : Nat → ClassId) (a_t : Nat) (a_t_now : Nat) (g_t_tape : Value) (g_t_typed : Value) (g_t_place : Value) (g_t_isFault : Value) (g_t_readLaw : Value) (g_t_read : Value) (g_t_undone : Value) (g_t_undos : Value) (g_t_aside : Value) (g_t_coat : Value) (g_t_bestCoats : Value) (g_t_bestStand : Value) (g_t_bestPaint : Value) (g_t_kept : Value) (g_t_keptUndos : Value) (g_t_isKept : Value) (g_t_lanes : Value) (g_t_sizes : Value) (g_t_items : Value) (g_t_moved : Value) (t_now : Nat → Int32) (p0 : Int32) (out : Int32) (h : m_X9_paintOf t_now p0 = some out) : MetR l D cy yX9_paintOf cX9_paintOf 2 (some .int) (rmG 1 22) [.ref a_t, .int p0] [(a_t, .inr (9, [.ref a_t_now, g_t_tape, g_t_typed, g_t_place, g_t_isFault, g_t_readLaw, g_t_read, g_t_undone, g_t_undos, g_t_aside, g_t_coat, g_t_bestCoats, g_t_bestStand, g_t_bestPaint, g_t_kept, g_t_keptUndos, g_t_isKept, g_t_lanes, g_t_sizes, g_t_items, g_t_moved])), (a_t_now, .inl (cy 0, 24, .inl t_now))] (some (.int out)) := by
  refine startR (own := RX9) (by decide) rfl (Nat.le_of_ble_eq_true rfl) ?_
  intro p e s m below meth c QQ hx hb hml hown hg hK hP hret ls hl
  have hl : lv_has ls 2 [(0, .ref a_t), (1, .int p0)] := hl
  unfold m_X9_paintOf at h
  refine lv_aload_n hx hb dX9_paintOf_0 rfl (lv_at hl 0 rfl) ?_
  refine lv_iload_n hx hb dX9_paintOf_1 rfl (lv_at hl 1 rfl) ?_
  refine lv_iconst (v := 1) hx hb dX9_paintOf_2 kI_1 ?_
  obtain ⟨v1, hv1, h⟩ := bind_e h
  refine callRV (As := [.int p0, .int 1]) (rest := []) (v0 := .int v1) hx hb hml hown hg (c_X9_told l D cy a_t a_t_now (g_t_tape) (g_t_typed) (g_t_place) (g_t_isFault) (g_t_readLaw) (g_t_read) (g_t_undone) (g_t_undos) (g_t_aside) (g_t_coat) (g_t_bestCoats) (g_t_bestStand) (g_t_bestPaint) (g_t_kept) (g_t_keptUndos) (g_t_isKept) (g_t_lanes) (g_t_sizes) (g_t_items) (g_t_moved) t_now p0 1 v1 hv1) q_1033 q_1030 q_63 q_1032 q_26 hd_X9_told ⟨(Nat.le_of_ble_eq_true rfl), (Nat.le_of_ble_eq_true rfl)⟩ hK hP [0, 1] rfl 0 9 rfl rfl rfl rfl rfl rfl hl.1 rfl (Nat.le_of_ble_eq_true rfl) dX9_paintOf_3 ?_
  exact hret _ ls 6 dX9_paintOf_6 rfl (congrArg (fun z => some (Value.int z)) (Option.some.inj h))

def m_X9_inchOf (t_now : Nat → Int32) (p0 : Int32) : Option (Int32) := (m_X9_told t_now p0 2).bind (fun v1 => some v1)
set_option maxHeartbeats 4000000 in
set_option maxRecDepth 100000 in
theorem c_X9_inchOf (l : Launch) (D : va_G) (cy : Nat → ClassId) (a_t : Nat) (a_t_now : Nat) (g_t_tape : Value) (g_t_typed : Value) (g_t_place : Value) (g_t_isFault : Value) (g_t_readLaw : Value) (g_t_read : Value) (g_t_undone : Value) (g_t_undos : Value) (g_t_aside : Value) (g_t_coat : Value) (g_t_bestCoats : Value) (g_t_bestStand : Value) (g_t_bestPaint : Value) (g_t_kept : Value) (g_t_keptUndos : Value) (g_t_isKept : Value) (g_t_lanes : Value) (g_t_sizes : Value) (g_t_items : Value) (g_t_moved : Value) (t_now : Nat → Int32) (p0 : Int32) (out : Int32) (h : m_X9_inchOf t_now p0 = some out) : MetR l D cy yX9_inchOf cX9_inchOf 2 (some .int) (rmG 1 22) [.ref a_t, .int p0] [(a_t, .inr (9, [.ref a_t_now, g_t_tape, g_t_typed, g_t_place, g_t_isFault, g_t_readLaw, g_t_read, g_t_undone, g_t_undos, g_t_aside, g_t_coat, g_t_bestCoats, g_t_bestStand, g_t_bestPaint, g_t_kept, g_t_keptUndos, g_t_isKept, g_t_lanes, g_t_sizes, g_t_items, g_t_moved])), (a_t_now, .inl (cy 0, 24, .inl t_now))] (some (.int out)) := by
  refine startR (own := RX9) (by decide) rfl (Nat.le_of_ble_eq_true rfl) ?_
  intro p e s m below meth c QQ hx hb hml hown hg hK hP hret ls hl
  have hl : lv_has ls 2 [(0, .ref a_t), (1, .int p0)] := hl
  unfold m_X9_inchOf at h
  refine lv_aload_n hx hb dX9_inchOf_0 rfl (lv_at hl 0 rfl) ?_
  refine lv_iload_n hx hb dX9_inchOf_1 rfl (lv_at hl 1 rfl) ?_
  refine lv_iconst (v := 2) hx hb dX9_inchOf_2 kI_2 ?_
  obtain ⟨v1, hv1, h⟩ := bind_e h
  refine callRV (As := [.int p0, .int 2]) (rest := []) (v0 := .int v1) hx hb hml hown hg (c_X9_told l D cy a_t a_t_now (g_t_tape) (g_t_typed) (g_t_place) (g_t_isFault) (g_t_readLaw) (g_t_read) (g_t_undone) (g_t_undos) (g_t_aside) (g_t_coat) (g_t_bestCoats) (g_t_bestStand) (g_t_bestPaint) (g_t_kept) (g_t_keptUndos) (g_t_isKept) (g_t_lanes) (g_t_sizes) (g_t_items) (g_t_moved) t_now p0 2 v1 hv1) q_1033 q_1030 q_63 q_1032 q_26 hd_X9_told ⟨(Nat.le_of_ble_eq_true rfl), (Nat.le_of_ble_eq_true rfl)⟩ hK hP [0, 1] rfl 0 9 rfl rfl rfl rfl rfl rfl hl.1 rfl (Nat.le_of_ble_eq_true rfl) dX9_inchOf_3 ?_
  exact hret _ ls 6 dX9_inchOf_6 rfl (congrArg (fun z => some (Value.int z)) (Option.some.inj h))

def m_X9_stands (t_now : Nat → Int32) (p0 : Int32) : Option (Int32) := (m_X9_inchOf t_now p0).bind (fun v1 => (if v1 = (-4) then some 0 else some 1))
set_option maxHeartbeats 4000000 in
set_option maxRecDepth 100000 in
theorem c_X9_stands (l : Launch) (D : va_G) (cy : Nat → ClassId) (a_t : Nat) (a_t_now : Nat) (g_t_tape : Value) (g_t_typed : Value) (g_t_place : Value) (g_t_isFault : Value) (g_t_readLaw : Value) (g_t_read : Value) (g_t_undone : Value) (g_t_undos : Value) (g_t_aside : Value) (g_t_coat : Value) (g_t_bestCoats : Value) (g_t_bestStand : Value) (g_t_bestPaint : Value) (g_t_kept : Value) (g_t_keptUndos : Value) (g_t_isKept : Value) (g_t_lanes : Value) (g_t_sizes : Value) (g_t_items : Value) (g_t_moved : Value) (t_now : Nat → Int32) (p0 : Int32) (out : Int32) (h : m_X9_stands t_now p0 = some out) : MetR l D cy yX9_stands cX9_stands 2 (some .boolean) (rmG 2 43) [.ref a_t, .int p0] [(a_t, .inr (9, [.ref a_t_now, g_t_tape, g_t_typed, g_t_place, g_t_isFault, g_t_readLaw, g_t_read, g_t_undone, g_t_undos, g_t_aside, g_t_coat, g_t_bestCoats, g_t_bestStand, g_t_bestPaint, g_t_kept, g_t_keptUndos, g_t_isKept, g_t_lanes, g_t_sizes, g_t_items, g_t_moved])), (a_t_now, .inl (cy 0, 24, .inl t_now))] (some (.int out)) := by
  refine startR (own := RX9) (by decide) rfl (Nat.le_of_ble_eq_true rfl) ?_
  intro p e s m below meth c QQ hx hb hml hown hg hK hP hret ls hl
  have hl : lv_has ls 2 [(0, .ref a_t), (1, .int p0)] := hl
  unfold m_X9_stands at h
  refine lv_aload_n hx hb dX9_stands_0 rfl (lv_at hl 0 rfl) ?_
  refine lv_iload_n hx hb dX9_stands_1 rfl (lv_at hl 1 rfl) ?_
  obtain ⟨v1, hv1, h⟩ := bind_e h
  refine callRV (As := [.int p0]) (rest := []) (v0 := .int v1) hx hb hml hown hg (c_X9_inchOf l D cy a_t a_t_now (g_t_tape) (g_t_typed) (g_t_place) (g_t_isFault) (g_t_readLaw) (g_t_read) (g_t_undone) (g_t_undos) (g_t_aside) (g_t_coat) (g_t_bestCoats) (g_t_bestStand) (g_t_bestPaint) (g_t_kept) (g_t_keptUndos) (g_t_isKept) (g_t_lanes) (g_t_sizes) (g_t_items) (g_t_moved) t_now p0 v1 hv1) q_1029 q_1026 q_63 q_1028 q_25 hd_X9_inchOf ⟨(Nat.le_of_ble_eq_true rfl), (Nat.le_of_ble_eq_true rfl)⟩ hK hP [0, 1] rfl 0 9 rfl rfl rfl rfl rfl rfl hl.1 rfl (Nat.le_of_ble_eq_true rfl) dX9_stands_2 ?_
  refine lv_bipush (v := (-4)) hx hb dX9_stands_5 kB_m4 ?_
  refine lv_icmp_eq (tgt := 14) hx hb dX9_stands_7 (by decide) (fun c2 => ?_) (fun c2 => ?_)
  · have h := it_t c2 h
    refine lv_iconst (v := 0) hx hb dX9_stands_14 kI_0 ?_
    exact hret _ ls 15 dX9_stands_15 (nar_z (Or.inl rfl)) (congrArg (fun z => some (Value.int z)) (Option.some.inj h))
  · have h := it_f c2 h
    refine lv_iconst (v := 1) hx hb dX9_stands_10 kI_1 ?_
    refine lv_goto (tgt := 15) hx hb dX9_stands_11 (by decide) ?_
    exact hret _ ls 15 dX9_stands_15 (nar_z (Or.inr rfl)) (congrArg (fun z => some (Value.int z)) (Option.some.inj h))

def m_X9_paints (t_now : Nat → Int32) (p0 : Int32) (p1 : Int32) : Option ((Nat → Int32)) := (if 0 ≤ p1 then (if p1 ≤ 9 then chk ((6 + (3 * p0)) + 1) 24 (some (upd t_now ((6 + (3 * p0)) + 1).toNatClampNeg p1)) else chk ((6 + (3 * p0)) + 1) 24 (some (upd t_now ((6 + (3 * p0)) + 1).toNatClampNeg 9))) else chk ((6 + (3 * p0)) + 1) 24 (some (upd t_now ((6 + (3 * p0)) + 1).toNatClampNeg 0)))
set_option maxHeartbeats 4000000 in
set_option maxRecDepth 100000 in
theorem c_X9_paints (l : Launch) (D : va_G) (cy : Nat → ClassId) (a_t : Nat) (a_t_now : Nat) (sz : Nat) (g_t_tape : Value) (g_t_typed : Value) (g_t_place : Value) (g_t_isFault : Value) (g_t_readLaw : Value) (g_t_read : Value) (g_t_undone : Value) (g_t_undos : Value) (g_t_aside : Value) (g_t_coat : Value) (g_t_bestCoats : Value) (g_t_bestStand : Value) (g_t_bestPaint : Value) (g_t_kept : Value) (g_t_keptUndos : Value) (g_t_isKept : Value) (g_t_lanes : Value) (g_t_sizes : Value) (g_t_items : Value) (g_t_moved : Value) (t_now : Nat → Int32) (p0 : Int32) (p1 : Int32) (out : (Nat → Int32)) (h : m_X9_paints t_now p0 p1 = some out) : MetM l D cy yX9_paints cX9_paints 3 none (rmG 0 0) [.ref a_t, .int p0, .int p1] sz [(a_t, .inr (9, [.ref a_t_now, g_t_tape, g_t_typed, g_t_place, g_t_isFault, g_t_readLaw, g_t_read, g_t_undone, g_t_undos, g_t_aside, g_t_coat, g_t_bestCoats, g_t_bestStand, g_t_bestPaint, g_t_kept, g_t_keptUndos, g_t_isKept, g_t_lanes, g_t_sizes, g_t_items, g_t_moved])), (a_t_now, .inl (cy 0, 24, .inl t_now))] none [(a_t, .inr (9, [.ref a_t_now, g_t_tape, g_t_typed, g_t_place, g_t_isFault, g_t_readLaw, g_t_read, g_t_undone, g_t_undos, g_t_aside, g_t_coat, g_t_bestCoats, g_t_bestStand, g_t_bestPaint, g_t_kept, g_t_keptUndos, g_t_isKept, g_t_lanes, g_t_sizes, g_t_items, g_t_moved])), (a_t_now, .inl (cy 0, 24, .inl out))] := by
  refine startMv (own := RX9) (by decide) rfl (Nat.le_of_ble_eq_true rfl) ?_
  intro p e s m below meth c QQ A hx hb hml hown hg hK hP hD hS hA hret ls hl
  have hl : lv_has ls 3 [(0, .ref a_t), (1, .int p0), (2, .int p1)] := hl
  unfold m_X9_paints at h
  refine lv_aload_n hx hb dX9_paints_0 rfl (lv_at hl 0 rfl) ?_
  refine va_get (D := D) (ci := 9) (v := .ref a_t_now) (C := RX9) (T := TX9) (N := 21) hx hb hg inG_X9 hown hK hP 0 rfl rfl 0 (by decide) (hg _ q_945) (fun _ h9 => h9) rfl dX9_paints_1 ?_
  refine lv_bipush (v := 6) hx hb dX9_paints_4 kB_6 ?_
  refine lv_iconst (v := 3) hx hb dX9_paints_6 kI_3 ?_
  refine lv_iload_n hx hb dX9_paints_7 rfl (lv_at hl 1 rfl) ?_
  refine lv_imul hx hb dX9_paints_8 ?_
  refine lv_iadd hx hb dX9_paints_9 ?_
  refine lv_iconst (v := 1) hx hb dX9_paints_10 kI_1 ?_
  refine lv_iadd hx hb dX9_paints_11 ?_
  refine lv_iload_n hx hb dX9_paints_12 rfl (lv_at hl 2 rfl) ?_
  refine lv_if_ge (tgt := 20) hx hb dX9_paints_13 (by decide) (fun c1 => ?_) (fun c1 => ?_)
  · have h := it_t c1 h
    refine lv_iload_n hx hb dX9_paints_20 rfl (lv_at hl 2 rfl) ?_
    refine lv_bipush (v := 9) hx hb dX9_paints_21 kB_9 ?_
    refine lv_icmp_le (tgt := 31) hx hb dX9_paints_23 (by decide) (fun c2 => ?_) (fun c2 => ?_)
    · have h := it_t c2 h
      refine lv_iload_n hx hb dX9_paints_31 rfl (lv_at hl 2 rfl) ?_
      obtain ⟨hi3, h⟩ := chk_e h
      refine va_iast hx hb hK hP hD hS 1 0 rfl rfl hi3 dX9_paints_32 (fun H locs hP hD hS => ?_)
      have hP : va_P D vwCl [(a_t, .inr (9, [.ref a_t_now, g_t_tape, g_t_typed, g_t_place, g_t_isFault, g_t_readLaw, g_t_read, g_t_undone, g_t_undos, g_t_aside, g_t_coat, g_t_bestCoats, g_t_bestStand, g_t_bestPaint, g_t_kept, g_t_keptUndos, g_t_isKept, g_t_lanes, g_t_sizes, g_t_items, g_t_moved])), (a_t_now, .inl (cy 0, 24, .inl (upd t_now ((6 + (3 * p0)) + 1).toNatClampNeg p1)))] H := hP
      have hD : va_D A [(a_t, .inr (9, [.ref a_t_now, g_t_tape, g_t_typed, g_t_place, g_t_isFault, g_t_readLaw, g_t_read, g_t_undone, g_t_undos, g_t_aside, g_t_coat, g_t_bestCoats, g_t_bestStand, g_t_bestPaint, g_t_kept, g_t_keptUndos, g_t_isKept, g_t_lanes, g_t_sizes, g_t_items, g_t_moved])), (a_t_now, .inl (cy 0, 24, .inl (upd t_now ((6 + (3 * p0)) + 1).toNatClampNeg p1)))] := hD
      exact hret _ _ _ ls 33 dX9_paints_33 (by rw [← Option.some.inj h]) hP hD hS
    · have h := it_f c2 h
      refine lv_bipush (v := 9) hx hb dX9_paints_26 kB_9 ?_
      refine lv_goto (tgt := 32) hx hb dX9_paints_28 (by decide) ?_
      obtain ⟨hi4, h⟩ := chk_e h
      refine va_iast hx hb hK hP hD hS 1 0 rfl rfl hi4 dX9_paints_32 (fun H locs hP hD hS => ?_)
      have hP : va_P D vwCl [(a_t, .inr (9, [.ref a_t_now, g_t_tape, g_t_typed, g_t_place, g_t_isFault, g_t_readLaw, g_t_read, g_t_undone, g_t_undos, g_t_aside, g_t_coat, g_t_bestCoats, g_t_bestStand, g_t_bestPaint, g_t_kept, g_t_keptUndos, g_t_isKept, g_t_lanes, g_t_sizes, g_t_items, g_t_moved])), (a_t_now, .inl (cy 0, 24, .inl (upd t_now ((6 + (3 * p0)) + 1).toNatClampNeg 9)))] H := hP
      have hD : va_D A [(a_t, .inr (9, [.ref a_t_now, g_t_tape, g_t_typed, g_t_place, g_t_isFault, g_t_readLaw, g_t_read, g_t_undone, g_t_undos, g_t_aside, g_t_coat, g_t_bestCoats, g_t_bestStand, g_t_bestPaint, g_t_kept, g_t_keptUndos, g_t_isKept, g_t_lanes, g_t_sizes, g_t_items, g_t_moved])), (a_t_now, .inl (cy 0, 24, .inl (upd t_now ((6 + (3 * p0)) + 1).toNatClampNeg 9)))] := hD
      exact hret _ _ _ ls 33 dX9_paints_33 (by rw [← Option.some.inj h]) hP hD hS
  · have h := it_f c1 h
    refine lv_iconst (v := 0) hx hb dX9_paints_16 kI_0 ?_
    refine lv_goto (tgt := 32) hx hb dX9_paints_17 (by decide) ?_
    obtain ⟨hi5, h⟩ := chk_e h
    refine va_iast hx hb hK hP hD hS 1 0 rfl rfl hi5 dX9_paints_32 (fun H locs hP hD hS => ?_)
    have hP : va_P D vwCl [(a_t, .inr (9, [.ref a_t_now, g_t_tape, g_t_typed, g_t_place, g_t_isFault, g_t_readLaw, g_t_read, g_t_undone, g_t_undos, g_t_aside, g_t_coat, g_t_bestCoats, g_t_bestStand, g_t_bestPaint, g_t_kept, g_t_keptUndos, g_t_isKept, g_t_lanes, g_t_sizes, g_t_items, g_t_moved])), (a_t_now, .inl (cy 0, 24, .inl (upd t_now ((6 + (3 * p0)) + 1).toNatClampNeg 0)))] H := hP
    have hD : va_D A [(a_t, .inr (9, [.ref a_t_now, g_t_tape, g_t_typed, g_t_place, g_t_isFault, g_t_readLaw, g_t_read, g_t_undone, g_t_undos, g_t_aside, g_t_coat, g_t_bestCoats, g_t_bestStand, g_t_bestPaint, g_t_kept, g_t_keptUndos, g_t_isKept, g_t_lanes, g_t_sizes, g_t_items, g_t_moved])), (a_t_now, .inl (cy 0, 24, .inl (upd t_now ((6 + (3 * p0)) + 1).toNatClampNeg 0)))] := hD
    exact hret _ _ _ ls 33 dX9_paints_33 (by rw [← Option.some.inj h]) hP hD hS

def m_X9_goesTo (t_now : Nat → Int32) (p0 : Int32) (p1 : Int32) : Option ((Nat → Int32)) := chk ((6 + (3 * p0)) + 2) 24 (some (upd t_now ((6 + (3 * p0)) + 2).toNatClampNeg p1))
set_option maxHeartbeats 4000000 in
set_option maxRecDepth 100000 in
theorem c_X9_goesTo (l : Launch) (D : va_G) (cy : Nat → ClassId) (a_t : Nat) (a_t_now : Nat) (sz : Nat) (g_t_tape : Value) (g_t_typed : Value) (g_t_place : Value) (g_t_isFault : Value) (g_t_readLaw : Value) (g_t_read : Value) (g_t_undone : Value) (g_t_undos : Value) (g_t_aside : Value) (g_t_coat : Value) (g_t_bestCoats : Value) (g_t_bestStand : Value) (g_t_bestPaint : Value) (g_t_kept : Value) (g_t_keptUndos : Value) (g_t_isKept : Value) (g_t_lanes : Value) (g_t_sizes : Value) (g_t_items : Value) (g_t_moved : Value) (t_now : Nat → Int32) (p0 : Int32) (p1 : Int32) (out : (Nat → Int32)) (h : m_X9_goesTo t_now p0 p1 = some out) : MetM l D cy yX9_goesTo cX9_goesTo 3 none (rmG 0 0) [.ref a_t, .int p0, .int p1] sz [(a_t, .inr (9, [.ref a_t_now, g_t_tape, g_t_typed, g_t_place, g_t_isFault, g_t_readLaw, g_t_read, g_t_undone, g_t_undos, g_t_aside, g_t_coat, g_t_bestCoats, g_t_bestStand, g_t_bestPaint, g_t_kept, g_t_keptUndos, g_t_isKept, g_t_lanes, g_t_sizes, g_t_items, g_t_moved])), (a_t_now, .inl (cy 0, 24, .inl t_now))] none [(a_t, .inr (9, [.ref a_t_now, g_t_tape, g_t_typed, g_t_place, g_t_isFault, g_t_readLaw, g_t_read, g_t_undone, g_t_undos, g_t_aside, g_t_coat, g_t_bestCoats, g_t_bestStand, g_t_bestPaint, g_t_kept, g_t_keptUndos, g_t_isKept, g_t_lanes, g_t_sizes, g_t_items, g_t_moved])), (a_t_now, .inl (cy 0, 24, .inl out))] := by
  refine startMv (own := RX9) (by decide) rfl (Nat.le_of_ble_eq_true rfl) ?_
  intro p e s m below meth c QQ A hx hb hml hown hg hK hP hD hS hA hret ls hl
  have hl : lv_has ls 3 [(0, .ref a_t), (1, .int p0), (2, .int p1)] := hl
  unfold m_X9_goesTo at h
  refine lv_aload_n hx hb dX9_goesTo_0 rfl (lv_at hl 0 rfl) ?_
  refine va_get (D := D) (ci := 9) (v := .ref a_t_now) (C := RX9) (T := TX9) (N := 21) hx hb hg inG_X9 hown hK hP 0 rfl rfl 0 (by decide) (hg _ q_945) (fun _ h9 => h9) rfl dX9_goesTo_1 ?_
  refine lv_bipush (v := 6) hx hb dX9_goesTo_4 kB_6 ?_
  refine lv_iconst (v := 3) hx hb dX9_goesTo_6 kI_3 ?_
  refine lv_iload_n hx hb dX9_goesTo_7 rfl (lv_at hl 1 rfl) ?_
  refine lv_imul hx hb dX9_goesTo_8 ?_
  refine lv_iadd hx hb dX9_goesTo_9 ?_
  refine lv_iconst (v := 2) hx hb dX9_goesTo_10 kI_2 ?_
  refine lv_iadd hx hb dX9_goesTo_11 ?_
  refine lv_iload_n hx hb dX9_goesTo_12 rfl (lv_at hl 2 rfl) ?_
  obtain ⟨hi1, h⟩ := chk_e h
  refine va_iast hx hb hK hP hD hS 1 0 rfl rfl hi1 dX9_goesTo_13 (fun H locs hP hD hS => ?_)
  have hP : va_P D vwCl [(a_t, .inr (9, [.ref a_t_now, g_t_tape, g_t_typed, g_t_place, g_t_isFault, g_t_readLaw, g_t_read, g_t_undone, g_t_undos, g_t_aside, g_t_coat, g_t_bestCoats, g_t_bestStand, g_t_bestPaint, g_t_kept, g_t_keptUndos, g_t_isKept, g_t_lanes, g_t_sizes, g_t_items, g_t_moved])), (a_t_now, .inl (cy 0, 24, .inl (upd t_now ((6 + (3 * p0)) + 2).toNatClampNeg p1)))] H := hP
  have hD : va_D A [(a_t, .inr (9, [.ref a_t_now, g_t_tape, g_t_typed, g_t_place, g_t_isFault, g_t_readLaw, g_t_read, g_t_undone, g_t_undos, g_t_aside, g_t_coat, g_t_bestCoats, g_t_bestStand, g_t_bestPaint, g_t_kept, g_t_keptUndos, g_t_isKept, g_t_lanes, g_t_sizes, g_t_items, g_t_moved])), (a_t_now, .inl (cy 0, 24, .inl (upd t_now ((6 + (3 * p0)) + 2).toNatClampNeg p1)))] := hD
  exact hret _ _ _ ls 14 dX9_goesTo_14 (by rw [← Option.some.inj h]) hP hD hS

def m_X9_whoAt_L5s (t_now : Nat → Int32) (p0 : Int32) (k4 : Int32 → Option (Int32)) (r6 : Int32 → Int32 → Option (Int32)) (x1 : Int32) (x2 : Int32) : Option (Int32) := (if (t_now 0) ≤ x1 then k4 x2 else (m_X9_inchOf t_now x1).bind (fun v8 => (if v8 = p0 then bnd (x1 + 1) (fun x11 => r6 x11 x1) else bnd (x1 + 1) (fun x10 => r6 x10 x2))))
def m_X9_whoAt_L5 (t_now : Nat → Int32) (p0 : Int32) (k4 : Int32 → Option (Int32)) : Nat → Int32 → Int32 → Option (Int32)
  | 0 => fun _ _ => none
  | nF + 1 => m_X9_whoAt_L5s t_now p0 k4 (m_X9_whoAt_L5 t_now p0 k4 nF)
def m_X9_whoAt (F : Nat) (t_now : Nat → Int32) (p0 : Int32) : Option (Int32) := m_X9_whoAt_L5 t_now p0 (fun (x3 : Int32) => some x3) F 0 (-4)
set_option maxHeartbeats 4000000 in
set_option maxRecDepth 100000 in
theorem c_X9_whoAt (l : Launch) (D : va_G) (cy : Nat → ClassId) (a_t : Nat) (a_t_now : Nat) (g_t_tape : Value) (g_t_typed : Value) (g_t_place : Value) (g_t_isFault : Value) (g_t_readLaw : Value) (g_t_read : Value) (g_t_undone : Value) (g_t_undos : Value) (g_t_aside : Value) (g_t_coat : Value) (g_t_bestCoats : Value) (g_t_bestStand : Value) (g_t_bestPaint : Value) (g_t_kept : Value) (g_t_keptUndos : Value) (g_t_isKept : Value) (g_t_lanes : Value) (g_t_sizes : Value) (g_t_items : Value) (g_t_moved : Value) (t_now : Nat → Int32) (p0 : Int32) (F : Nat) (out : Int32) (h : m_X9_whoAt F t_now p0 = some out) : MetR l D cy yX9_whoAt cX9_whoAt 4 (some .int) (rmG 2 43) [.ref a_t, .int p0] [(a_t, .inr (9, [.ref a_t_now, g_t_tape, g_t_typed, g_t_place, g_t_isFault, g_t_readLaw, g_t_read, g_t_undone, g_t_undos, g_t_aside, g_t_coat, g_t_bestCoats, g_t_bestStand, g_t_bestPaint, g_t_kept, g_t_keptUndos, g_t_isKept, g_t_lanes, g_t_sizes, g_t_items, g_t_moved])), (a_t_now, .inl (cy 0, 24, .inl t_now))] (some (.int out)) := by
  refine startR (own := RX9) (by decide) rfl (Nat.le_of_ble_eq_true rfl) ?_
  intro p e s m below meth c QQ hx hb hml hown hg hK hP hret ls hl
  have hl : lv_has ls 4 [(0, .ref a_t), (1, .int p0)] := hl
  unfold m_X9_whoAt at h
  refine lv_bipush (v := (-4)) hx hb dX9_whoAt_0 kB_m4 ?_
  refine lv_istore_n (lv' := [(2, .int (-4)), (0, .ref a_t), (1, .int p0)]) hx hb dX9_whoAt_2 rfl hl (by decide) rfl (fun ls hl => ?_)
  refine lv_iconst (v := 0) hx hb dX9_whoAt_3 kI_0 ?_
  refine lv_istore_n (lv' := [(3, .int 0), (2, .int (-4)), (0, .ref a_t), (1, .int p0)]) hx hb dX9_whoAt_4 rfl hl (by decide) rfl (fun ls hl => ?_)
  obtain ⟨k4, hk4, h⟩ := kap (fun z => m_X9_whoAt_L5 t_now p0 z F 0 (-4)) h
  have J4 : ∀ (x3 : Int32) (ls : Array Slot), lv_has ls 4 [(2, .int x3)] → k4 x3 = some out → W p l e (rmG 2 43) s m [.ref a_t, .int p0].toArray below meth c s.heap [] 0 0 QQ (F0 m 36 ls []) := by
    intro x3 ls hl h
    rw [hk4] at h
    refine lv_iload_n hx hb dX9_whoAt_36 rfl (lv_at hl 0 rfl) ?_
    exact hret _ ls 37 dX9_whoAt_37 rfl (congrArg (fun z => some (Value.int z)) (Option.some.inj h))
  have L5 : ∀ (n5 : Nat) (x1 : Int32) (x2 : Int32) (ls : Array Slot), lv_has ls 4 [(3, .int x1), (2, .int x2), (0, .ref a_t), (1, .int p0)] → m_X9_whoAt_L5 t_now p0 k4 n5 x1 x2 = some out → W p l e (rmG 2 43) s m [.ref a_t, .int p0].toArray below meth c s.heap [] 0 0 QQ (F0 m 5 ls []) := by
    intro n5
    induction n5 with
    | zero => intro x1 x2 ls hl h; exact nomatch (show (none : Option (Int32)) = some out from h)
    | succ n5 ih =>
        intro x1 x2 ls hl h
        have h : m_X9_whoAt_L5s t_now p0 k4 (m_X9_whoAt_L5 t_now p0 k4 n5) x1 x2 = some out := h
        unfold m_X9_whoAt_L5s at h
        refine lv_iload_n hx hb dX9_whoAt_5 rfl (lv_at hl 0 rfl) ?_
        refine lv_aload_n hx hb dX9_whoAt_6 rfl (lv_at hl 2 rfl) ?_
        refine va_get (D := D) (ci := 9) (v := .ref a_t_now) (C := RX9) (T := TX9) (N := 21) hx hb hg inG_X9 hown hK hP 0 rfl rfl 0 (by decide) (hg _ q_945) (fun _ h9 => h9) rfl dX9_whoAt_7 ?_
        refine lv_iconst (v := 0) hx hb dX9_whoAt_10 kI_0 ?_
        refine ialdK hx hb hK hP 1 0 rfl rfl (vp_in_inb (by decide)) kN_0 dX9_whoAt_11 ?_
        refine lv_icmp_ge (tgt := 36) hx hb dX9_whoAt_12 (by decide) (fun c7 => ?_) (fun c7 => ?_)
        · have h := it_t c7 h
          exact J4 x2 _ (lv_sub hl [1] rfl) h
        · have h := it_f c7 h
          refine lv_aload_n hx hb dX9_whoAt_15 rfl (lv_at hl 2 rfl) ?_
          refine lv_iload_n hx hb dX9_whoAt_16 rfl (lv_at hl 0 rfl) ?_
          obtain ⟨v8, hv8, h⟩ := bind_e h
          refine callRV (As := [.int x1]) (rest := []) (v0 := .int v8) hx hb hml hown hg (c_X9_inchOf l D cy a_t a_t_now (g_t_tape) (g_t_typed) (g_t_place) (g_t_isFault) (g_t_readLaw) (g_t_read) (g_t_undone) (g_t_undos) (g_t_aside) (g_t_coat) (g_t_bestCoats) (g_t_bestStand) (g_t_bestPaint) (g_t_kept) (g_t_keptUndos) (g_t_isKept) (g_t_lanes) (g_t_sizes) (g_t_items) (g_t_moved) t_now x1 v8 hv8) q_1029 q_1026 q_63 q_1028 q_25 hd_X9_inchOf ⟨(Nat.le_of_ble_eq_true rfl), (Nat.le_of_ble_eq_true rfl)⟩ hK hP [0, 1] rfl 0 9 rfl rfl rfl rfl rfl rfl hl.1 rfl (Nat.le_of_ble_eq_true rfl) dX9_whoAt_17 ?_
          refine lv_iload_n hx hb dX9_whoAt_20 rfl (lv_at hl 3 rfl) ?_
          refine lv_icmp_ne (tgt := 28) hx hb dX9_whoAt_21 (by decide) (fun c9 => ?_) (fun c9 => ?_)
          · have h := it_f c9 h
            refine lv_iload_n hx hb dX9_whoAt_28 rfl (lv_at hl 1 rfl) ?_
            refine lv_istore_n (lv' := [(2, .int x2), (3, .int x1), (0, .ref a_t), (1, .int p0)]) hx hb dX9_whoAt_29 rfl hl (by decide) rfl (fun ls hl => ?_)
            obtain ⟨x10, ex10⟩ : ∃ y : Int32, y = x1 + 1 := ⟨_, rfl⟩
            have h := bnd_e ex10 h
            refine lv_iinc (v := x10) (lv' := [(3, .int x10), (2, .int x2), (0, .ref a_t), (1, .int p0)]) hx hb dX9_whoAt_30 hl (k := 1) rfl (inc_e kI_1 ex10) (by decide) rfl (fun ls hl => ?_)
            refine lv_goto (tgt := 5) hx hb dX9_whoAt_33 (by decide) ?_
            exact ih x10 x2 _ (lv_sub hl [0, 1, 2, 3] rfl) h
          · have h := it_t c9 h
            refine lv_iload_n hx hb dX9_whoAt_24 rfl (lv_at hl 0 rfl) ?_
            refine lv_goto (tgt := 29) hx hb dX9_whoAt_25 (by decide) ?_
            refine lv_istore_n (lv' := [(2, .int x1), (3, .int x1), (0, .ref a_t), (1, .int p0)]) hx hb dX9_whoAt_29 rfl hl (by decide) rfl (fun ls hl => ?_)
            obtain ⟨x11, ex11⟩ : ∃ y : Int32, y = x1 + 1 := ⟨_, rfl⟩
            have h := bnd_e ex11 h
            refine lv_iinc (v := x11) (lv' := [(3, .int x11), (2, .int x1), (0, .ref a_t), (1, .int p0)]) hx hb dX9_whoAt_30 hl (k := 1) rfl (inc_e kI_1 ex11) (by decide) rfl (fun ls hl => ?_)
            refine lv_goto (tgt := 5) hx hb dX9_whoAt_33 (by decide) ?_
            exact ih x11 x1 _ (lv_sub hl [0, 1, 2, 3] rfl) h
  exact L5 F 0 (-4) _ (lv_sub hl [0, 1, 2, 3] rfl) h

def m_X9_apart (p0 : Int32) (p1 : Int32) : Option (Int32) := (if p1 ≤ p0 then some (p0 - p1) else some (p1 - p0))
set_option maxHeartbeats 4000000 in
set_option maxRecDepth 100000 in
theorem c_X9_apart (l : Launch) (D : va_G) (cy : Nat → ClassId) (p0 : Int32) (p1 : Int32) (out : Int32) (h : m_X9_apart p0 p1 = some out) : MetR l D cy yX9_apart cX9_apart 2 (some .int) (rmG 0 0) [.int p0, .int p1] [] (some (.int out)) := by
  refine startR (own := RX9) (by decide) rfl (Nat.le_of_ble_eq_true rfl) ?_
  intro p e s m below meth c QQ hx hb hml hown hg hK hP hret ls hl
  have hl : lv_has ls 2 [(0, .int p0), (1, .int p1)] := hl
  unfold m_X9_apart at h
  refine lv_iload_n hx hb dX9_apart_0 rfl (lv_at hl 0 rfl) ?_
  refine lv_iload_n hx hb dX9_apart_1 rfl (lv_at hl 1 rfl) ?_
  refine lv_icmp_ge (tgt := 11) hx hb dX9_apart_2 (by decide) (fun c1 => ?_) (fun c1 => ?_)
  · have h := it_t c1 h
    refine lv_iload_n hx hb dX9_apart_11 rfl (lv_at hl 0 rfl) ?_
    refine lv_iload_n hx hb dX9_apart_12 rfl (lv_at hl 1 rfl) ?_
    refine lv_isub hx hb dX9_apart_13 ?_
    exact hret _ ls 14 dX9_apart_14 rfl (congrArg (fun z => some (Value.int z)) (Option.some.inj h))
  · have h := it_f c1 h
    refine lv_iload_n hx hb dX9_apart_5 rfl (lv_at hl 1 rfl) ?_
    refine lv_iload_n hx hb dX9_apart_6 rfl (lv_at hl 0 rfl) ?_
    refine lv_isub hx hb dX9_apart_7 ?_
    refine lv_goto (tgt := 14) hx hb dX9_apart_8 (by decide) ?_
    exact hret _ ls 14 dX9_apart_14 rfl (congrArg (fun z => some (Value.int z)) (Option.some.inj h))

def m_X9_high (t_now : Nat → Int32) (p0 : Int32) (p1 : Int32) : Option (Int32) := bnd (((((t_now 2).toInt64) + ((((t_now 1) + p1).toInt64) * ((t_now 3).toInt64))) - (((t_now 2).toInt64) + ((((t_now 1) + p1).toInt64) * ((t_now 3).toInt64))) / 12 * 12).toInt32) (fun x1 => (m_X9_apart x1 p0).bind (fun v2 => bnd ((t_now 4) - v2) (fun x3 => (if 0 ≤ x3 then some x3 else some 0))))
set_option maxHeartbeats 4000000 in
set_option maxRecDepth 100000 in
theorem c_X9_high (l : Launch) (D : va_G) (cy : Nat → ClassId) (a_t : Nat) (a_t_now : Nat) (g_t_tape : Value) (g_t_typed : Value) (g_t_place : Value) (g_t_isFault : Value) (g_t_readLaw : Value) (g_t_read : Value) (g_t_undone : Value) (g_t_undos : Value) (g_t_aside : Value) (g_t_coat : Value) (g_t_bestCoats : Value) (g_t_bestStand : Value) (g_t_bestPaint : Value) (g_t_kept : Value) (g_t_keptUndos : Value) (g_t_isKept : Value) (g_t_lanes : Value) (g_t_sizes : Value) (g_t_items : Value) (g_t_moved : Value) (t_now : Nat → Int32) (p0 : Int32) (p1 : Int32) (out : Int32) (h : m_X9_high t_now p0 p1 = some out) : MetR l D cy yX9_high cX9_high 5 (some .int) (rmG 1 21) [.ref a_t, .int p0, .int p1] [(a_t, .inr (9, [.ref a_t_now, g_t_tape, g_t_typed, g_t_place, g_t_isFault, g_t_readLaw, g_t_read, g_t_undone, g_t_undos, g_t_aside, g_t_coat, g_t_bestCoats, g_t_bestStand, g_t_bestPaint, g_t_kept, g_t_keptUndos, g_t_isKept, g_t_lanes, g_t_sizes, g_t_items, g_t_moved])), (a_t_now, .inl (cy 0, 24, .inl t_now))] (some (.int out)) := by
  refine startR (own := RX9) (by decide) rfl (Nat.le_of_ble_eq_true rfl) ?_
  intro p e s m below meth c QQ hx hb hml hown hg hK hP hret ls hl
  have hl : lv_has ls 5 [(0, .ref a_t), (1, .int p0), (2, .int p1)] := hl
  unfold m_X9_high at h
  refine lv_aload_n hx hb dX9_high_0 rfl (lv_at hl 0 rfl) ?_
  refine va_get (D := D) (ci := 9) (v := .ref a_t_now) (C := RX9) (T := TX9) (N := 21) hx hb hg inG_X9 hown hK hP 0 rfl rfl 0 (by decide) (hg _ q_945) (fun _ h9 => h9) rfl dX9_high_1 ?_
  refine lv_iconst (v := 2) hx hb dX9_high_4 kI_2 ?_
  refine ialdK hx hb hK hP 1 0 rfl rfl (vp_in_inb (by decide)) kN_2 dX9_high_5 ?_
  refine lv_i2l (v := (t_now 2).toInt64) hx hb dX9_high_6 rfl ?_
  refine lv_aload_n hx hb dX9_high_7 rfl (lv_at hl 0 rfl) ?_
  refine va_get (D := D) (ci := 9) (v := .ref a_t_now) (C := RX9) (T := TX9) (N := 21) hx hb hg inG_X9 hown hK hP 0 rfl rfl 0 (by decide) (hg _ q_945) (fun _ h9 => h9) rfl dX9_high_8 ?_
  refine lv_iconst (v := 1) hx hb dX9_high_11 kI_1 ?_
  refine ialdK hx hb hK hP 1 0 rfl rfl (vp_in_inb (by decide)) kN_1 dX9_high_12 ?_
  refine lv_iload_n hx hb dX9_high_13 rfl (lv_at hl 2 rfl) ?_
  refine lv_iadd hx hb dX9_high_14 ?_
  refine lv_i2l (v := ((t_now 1) + p1).toInt64) hx hb dX9_high_15 rfl ?_
  refine lv_aload_n hx hb dX9_high_16 rfl (lv_at hl 0 rfl) ?_
  refine va_get (D := D) (ci := 9) (v := .ref a_t_now) (C := RX9) (T := TX9) (N := 21) hx hb hg inG_X9 hown hK hP 0 rfl rfl 0 (by decide) (hg _ q_945) (fun _ h9 => h9) rfl dX9_high_17 ?_
  refine lv_iconst (v := 3) hx hb dX9_high_20 kI_3 ?_
  refine ialdK hx hb hK hP 1 0 rfl rfl (vp_in_inb (by decide)) kN_3 dX9_high_21 ?_
  refine lv_i2l (v := (t_now 3).toInt64) hx hb dX9_high_22 rfl ?_
  refine lv_lmul hx hb dX9_high_23 ?_
  refine lv_ladd hx hb dX9_high_24 ?_
  refine lv_ldc2 (v := 12) hx hb hown (hg _ q_1043) dX9_high_25 ?_
  refine lv_lrem hx hb dX9_high_28 (by decide) ?_
  refine lv_l2i (v := ((((t_now 2).toInt64) + ((((t_now 1) + p1).toInt64) * ((t_now 3).toInt64))) - (((t_now 2).toInt64) + ((((t_now 1) + p1).toInt64) * ((t_now 3).toInt64))) / 12 * 12).toInt32) hx hb dX9_high_29 rfl ?_
  refine lv_topi (fun x1 ex1 => ?_)
  have h := bnd_e ex1 h
  refine lv_istore_n (lv' := [(3, .int x1), (0, .ref a_t), (1, .int p0), (2, .int p1)]) hx hb dX9_high_30 rfl hl (by decide) rfl (fun ls hl => ?_)
  refine lv_aload_n hx hb dX9_high_31 rfl (lv_at hl 1 rfl) ?_
  refine va_get (D := D) (ci := 9) (v := .ref a_t_now) (C := RX9) (T := TX9) (N := 21) hx hb hg inG_X9 hown hK hP 0 rfl rfl 0 (by decide) (hg _ q_945) (fun _ h9 => h9) rfl dX9_high_32 ?_
  refine lv_iconst (v := 4) hx hb dX9_high_35 kI_4 ?_
  refine ialdK hx hb hK hP 1 0 rfl rfl (vp_in_inb (by decide)) kN_4 dX9_high_36 ?_
  refine lv_iload_n hx hb dX9_high_37 rfl (lv_at hl 0 rfl) ?_
  refine lv_iload_n hx hb dX9_high_38 rfl (lv_at hl 2 rfl) ?_
  obtain ⟨v2, hv2, h⟩ := bind_e h
  refine callRS (As := [.int x1, .int p0]) (rest := [.int (t_now 4)]) (v0 := .int v2) hx hb hml hown hg (c_X9_apart l D cy x1 p0 v2 hv2) q_1070 q_1068 q_63 q_1069 hd_X9_apart ⟨(Nat.le_of_ble_eq_true rfl), (Nat.le_of_ble_eq_true rfl)⟩ hK hP [] rfl rfl rfl rfl hl.1 rfl (Nat.le_of_ble_eq_true rfl) dX9_high_39 ?_
  refine lv_isub hx hb dX9_high_42 ?_
  refine lv_topi (fun x3 ex3 => ?_)
  have h := bnd_e ex3 h
  refine lv_istore (lv' := [(4, .int x3), (3, .int x1), (0, .ref a_t), (1, .int p0), (2, .int p1)]) hx hb dX9_high_43 hl (by decide) rfl (fun ls hl => ?_)
  refine lv_iload hx hb dX9_high_45 (lv_at hl 0 rfl) ?_
  refine lv_if_ge (tgt := 54) hx hb dX9_high_47 (by decide) (fun c4 => ?_) (fun c4 => ?_)
  · have h := it_t c4 h
    refine lv_iload hx hb dX9_high_54 (lv_at hl 0 rfl) ?_
    exact hret _ ls 56 dX9_high_56 rfl (congrArg (fun z => some (Value.int z)) (Option.some.inj h))
  · have h := it_f c4 h
    refine lv_iconst (v := 0) hx hb dX9_high_50 kI_0 ?_
    refine lv_goto (tgt := 56) hx hb dX9_high_51 (by decide) ?_
    exact hret _ ls 56 dX9_high_56 rfl (congrArg (fun z => some (Value.int z)) (Option.some.inj h))

def m_X9_besides_L4s (t_now : Nat → Int32) (p0 : Int32) (k4 : Int32 → Option (Int32)) (r6 : Int32 → Int32 → Option (Int32)) (x1 : Int32) (x2 : Int32) : Option (Int32) := (if (t_now 0) ≤ x1 then k4 x2 else (m_X9_stands t_now p0).bind (fun v8 => (if v8 = 0 then bnd (x2 ||| 0) (fun x10 => bnd (x1 + 1) (fun x11 => r6 x11 x10)) else (m_X9_stands t_now x1).bind (fun v12 => (if v12 = 0 then bnd (x2 ||| 0) (fun x14 => bnd (x1 + 1) (fun x15 => r6 x15 x14)) else (m_X9_inchOf t_now x1).bind (fun v16 => (m_X9_inchOf t_now p0).bind (fun v17 => (m_X9_apart v16 v17).bind (fun v18 => (if v18 = 1 then bnd (x2 ||| (1 <<< (x1 &&& 31))) (fun x22 => bnd (x1 + 1) (fun x23 => r6 x23 x22)) else bnd (x2 ||| 0) (fun x20 => bnd (x1 + 1) (fun x21 => r6 x21 x20)))))))))))
def m_X9_besides_L4 (t_now : Nat → Int32) (p0 : Int32) (k4 : Int32 → Option (Int32)) : Nat → Int32 → Int32 → Option (Int32)
  | 0 => fun _ _ => none
  | nF + 1 => m_X9_besides_L4s t_now p0 k4 (m_X9_besides_L4 t_now p0 k4 nF)
def m_X9_besides (F : Nat) (t_now : Nat → Int32) (p0 : Int32) : Option (Int32) := m_X9_besides_L4 t_now p0 (fun (x3 : Int32) => some x3) F 0 0
set_option maxHeartbeats 4000000 in
set_option maxRecDepth 100000 in
theorem c_X9_besides (l : Launch) (D : va_G) (cy : Nat → ClassId) (a_t : Nat) (a_t_now : Nat) (g_t_tape : Value) (g_t_typed : Value) (g_t_place : Value) (g_t_isFault : Value) (g_t_readLaw : Value) (g_t_read : Value) (g_t_undone : Value) (g_t_undos : Value) (g_t_aside : Value) (g_t_coat : Value) (g_t_bestCoats : Value) (g_t_bestStand : Value) (g_t_bestPaint : Value) (g_t_kept : Value) (g_t_keptUndos : Value) (g_t_isKept : Value) (g_t_lanes : Value) (g_t_sizes : Value) (g_t_items : Value) (g_t_moved : Value) (t_now : Nat → Int32) (p0 : Int32) (F : Nat) (out : Int32) (h : m_X9_besides F t_now p0 = some out) : MetR l D cy yX9_besides cX9_besides 4 (some .int) (rmG 3 64) [.ref a_t, .int p0] [(a_t, .inr (9, [.ref a_t_now, g_t_tape, g_t_typed, g_t_place, g_t_isFault, g_t_readLaw, g_t_read, g_t_undone, g_t_undos, g_t_aside, g_t_coat, g_t_bestCoats, g_t_bestStand, g_t_bestPaint, g_t_kept, g_t_keptUndos, g_t_isKept, g_t_lanes, g_t_sizes, g_t_items, g_t_moved])), (a_t_now, .inl (cy 0, 24, .inl t_now))] (some (.int out)) := by
  refine startR (own := RX9) (by decide) rfl (Nat.le_of_ble_eq_true rfl) ?_
  intro p e s m below meth c QQ hx hb hml hown hg hK hP hret ls hl
  have hl : lv_has ls 4 [(0, .ref a_t), (1, .int p0)] := hl
  unfold m_X9_besides at h
  refine lv_iconst (v := 0) hx hb dX9_besides_0 kI_0 ?_
  refine lv_istore_n (lv' := [(2, .int 0), (0, .ref a_t), (1, .int p0)]) hx hb dX9_besides_1 rfl hl (by decide) rfl (fun ls hl => ?_)
  refine lv_iconst (v := 0) hx hb dX9_besides_2 kI_0 ?_
  refine lv_istore_n (lv' := [(3, .int 0), (2, .int 0), (0, .ref a_t), (1, .int p0)]) hx hb dX9_besides_3 rfl hl (by decide) rfl (fun ls hl => ?_)
  obtain ⟨k4, hk4, h⟩ := kap (fun z => m_X9_besides_L4 t_now p0 z F 0 0) h
  have J4 : ∀ (x3 : Int32) (ls : Array Slot), lv_has ls 4 [(2, .int x3)] → k4 x3 = some out → W p l e (rmG 3 64) s m [.ref a_t, .int p0].toArray below meth c s.heap [] 0 0 QQ (F0 m 63 ls []) := by
    intro x3 ls hl h
    rw [hk4] at h
    refine lv_iload_n hx hb dX9_besides_63 rfl (lv_at hl 0 rfl) ?_
    exact hret _ ls 64 dX9_besides_64 rfl (congrArg (fun z => some (Value.int z)) (Option.some.inj h))
  have L5 : ∀ (n5 : Nat) (x1 : Int32) (x2 : Int32) (ls : Array Slot), lv_has ls 4 [(3, .int x1), (2, .int x2), (0, .ref a_t), (1, .int p0)] → m_X9_besides_L4 t_now p0 k4 n5 x1 x2 = some out → W p l e (rmG 3 64) s m [.ref a_t, .int p0].toArray below meth c s.heap [] 0 0 QQ (F0 m 4 ls []) := by
    intro n5
    induction n5 with
    | zero => intro x1 x2 ls hl h; exact nomatch (show (none : Option (Int32)) = some out from h)
    | succ n5 ih =>
        intro x1 x2 ls hl h
        have h : m_X9_besides_L4s t_now p0 k4 (m_X9_besides_L4 t_now p0 k4 n5) x1 x2 = some out := h
        unfold m_X9_besides_L4s at h
        refine lv_iload_n hx hb dX9_besides_4 rfl (lv_at hl 0 rfl) ?_
        refine lv_aload_n hx hb dX9_besides_5 rfl (lv_at hl 2 rfl) ?_
        refine va_get (D := D) (ci := 9) (v := .ref a_t_now) (C := RX9) (T := TX9) (N := 21) hx hb hg inG_X9 hown hK hP 0 rfl rfl 0 (by decide) (hg _ q_945) (fun _ h9 => h9) rfl dX9_besides_6 ?_
        refine lv_iconst (v := 0) hx hb dX9_besides_9 kI_0 ?_
        refine ialdK hx hb hK hP 1 0 rfl rfl (vp_in_inb (by decide)) kN_0 dX9_besides_10 ?_
        refine lv_icmp_ge (tgt := 63) hx hb dX9_besides_11 (by decide) (fun c7 => ?_) (fun c7 => ?_)
        · have h := it_t c7 h
          exact J4 x2 _ (lv_sub hl [1] rfl) h
        · have h := it_f c7 h
          refine lv_iload_n hx hb dX9_besides_14 rfl (lv_at hl 1 rfl) ?_
          refine lv_aload_n hx hb dX9_besides_15 rfl (lv_at hl 2 rfl) ?_
          refine lv_iload_n hx hb dX9_besides_16 rfl (lv_at hl 3 rfl) ?_
          obtain ⟨v8, hv8, h⟩ := bind_e h
          refine callRV (As := [.int p0]) (rest := [.int x2]) (v0 := .int v8) hx hb hml hown hg (c_X9_stands l D cy a_t a_t_now (g_t_tape) (g_t_typed) (g_t_place) (g_t_isFault) (g_t_readLaw) (g_t_read) (g_t_undone) (g_t_undos) (g_t_aside) (g_t_coat) (g_t_bestCoats) (g_t_bestStand) (g_t_bestPaint) (g_t_kept) (g_t_keptUndos) (g_t_isKept) (g_t_lanes) (g_t_sizes) (g_t_items) (g_t_moved) t_now p0 v8 hv8) q_1067 q_1064 q_63 q_1066 q_32 hd_X9_stands ⟨(Nat.le_of_ble_eq_true rfl), (Nat.le_of_ble_eq_true rfl)⟩ hK hP [0, 1] rfl 0 9 rfl rfl rfl rfl rfl rfl hl.1 rfl (Nat.le_of_ble_eq_true rfl) dX9_besides_17 ?_
          refine lv_if_eq (tgt := 54) hx hb dX9_besides_20 (by decide) (fun c9 => ?_) (fun c9 => ?_)
          · have h := it_t c9 h
            refine lv_iconst (v := 0) hx hb dX9_besides_54 kI_0 ?_
            refine lv_ior hx hb dX9_besides_55 ?_
            refine lv_topi (fun x10 ex10 => ?_)
            have h := bnd_e ex10 h
            refine lv_istore_n (lv' := [(2, .int x10), (3, .int x1), (0, .ref a_t), (1, .int p0)]) hx hb dX9_besides_56 rfl hl (by decide) rfl (fun ls hl => ?_)
            obtain ⟨x11, ex11⟩ : ∃ y : Int32, y = x1 + 1 := ⟨_, rfl⟩
            have h := bnd_e ex11 h
            refine lv_iinc (v := x11) (lv' := [(3, .int x11), (2, .int x10), (0, .ref a_t), (1, .int p0)]) hx hb dX9_besides_57 hl (k := 1) rfl (inc_e kI_1 ex11) (by decide) rfl (fun ls hl => ?_)
            refine lv_goto (tgt := 4) hx hb dX9_besides_60 (by decide) ?_
            exact ih x11 x10 _ (lv_sub hl [0, 1, 2, 3] rfl) h
          · have h := it_f c9 h
            refine lv_aload_n hx hb dX9_besides_23 rfl (lv_at hl 2 rfl) ?_
            refine lv_iload_n hx hb dX9_besides_24 rfl (lv_at hl 0 rfl) ?_
            obtain ⟨v12, hv12, h⟩ := bind_e h
            refine callRV (As := [.int x1]) (rest := [.int x2]) (v0 := .int v12) hx hb hml hown hg (c_X9_stands l D cy a_t a_t_now (g_t_tape) (g_t_typed) (g_t_place) (g_t_isFault) (g_t_readLaw) (g_t_read) (g_t_undone) (g_t_undos) (g_t_aside) (g_t_coat) (g_t_bestCoats) (g_t_bestStand) (g_t_bestPaint) (g_t_kept) (g_t_keptUndos) (g_t_isKept) (g_t_lanes) (g_t_sizes) (g_t_items) (g_t_moved) t_now x1 v12 hv12) q_1067 q_1064 q_63 q_1066 q_32 hd_X9_stands ⟨(Nat.le_of_ble_eq_true rfl), (Nat.le_of_ble_eq_true rfl)⟩ hK hP [0, 1] rfl 0 9 rfl rfl rfl rfl rfl rfl hl.1 rfl (Nat.le_of_ble_eq_true rfl) dX9_besides_25 ?_
            refine lv_if_eq (tgt := 54) hx hb dX9_besides_28 (by decide) (fun c13 => ?_) (fun c13 => ?_)
            · have h := it_t c13 h
              refine lv_iconst (v := 0) hx hb dX9_besides_54 kI_0 ?_
              refine lv_ior hx hb dX9_besides_55 ?_
              refine lv_topi (fun x14 ex14 => ?_)
              have h := bnd_e ex14 h
              refine lv_istore_n (lv' := [(2, .int x14), (3, .int x1), (0, .ref a_t), (1, .int p0)]) hx hb dX9_besides_56 rfl hl (by decide) rfl (fun ls hl => ?_)
              obtain ⟨x15, ex15⟩ : ∃ y : Int32, y = x1 + 1 := ⟨_, rfl⟩
              have h := bnd_e ex15 h
              refine lv_iinc (v := x15) (lv' := [(3, .int x15), (2, .int x14), (0, .ref a_t), (1, .int p0)]) hx hb dX9_besides_57 hl (k := 1) rfl (inc_e kI_1 ex15) (by decide) rfl (fun ls hl => ?_)
              refine lv_goto (tgt := 4) hx hb dX9_besides_60 (by decide) ?_
              exact ih x15 x14 _ (lv_sub hl [0, 1, 2, 3] rfl) h
            · have h := it_f c13 h
              refine lv_aload_n hx hb dX9_besides_31 rfl (lv_at hl 2 rfl) ?_
              refine lv_iload_n hx hb dX9_besides_32 rfl (lv_at hl 0 rfl) ?_
              obtain ⟨v16, hv16, h⟩ := bind_e h
              refine callRV (As := [.int x1]) (rest := [.int x2]) (v0 := .int v16) hx hb hml hown hg (c_X9_inchOf l D cy a_t a_t_now (g_t_tape) (g_t_typed) (g_t_place) (g_t_isFault) (g_t_readLaw) (g_t_read) (g_t_undone) (g_t_undos) (g_t_aside) (g_t_coat) (g_t_bestCoats) (g_t_bestStand) (g_t_bestPaint) (g_t_kept) (g_t_keptUndos) (g_t_isKept) (g_t_lanes) (g_t_sizes) (g_t_items) (g_t_moved) t_now x1 v16 hv16) q_1029 q_1026 q_63 q_1028 q_25 hd_X9_inchOf ⟨(Nat.le_of_ble_eq_true rfl), (Nat.le_of_ble_eq_true rfl)⟩ hK hP [0, 1] rfl 0 9 rfl rfl rfl rfl rfl rfl hl.1 rfl (Nat.le_of_ble_eq_true rfl) dX9_besides_33 ?_
              refine lv_aload_n hx hb dX9_besides_36 rfl (lv_at hl 2 rfl) ?_
              refine lv_iload_n hx hb dX9_besides_37 rfl (lv_at hl 3 rfl) ?_
              obtain ⟨v17, hv17, h⟩ := bind_e h
              refine callRV (As := [.int p0]) (rest := [.int v16, .int x2]) (v0 := .int v17) hx hb hml hown hg (c_X9_inchOf l D cy a_t a_t_now (g_t_tape) (g_t_typed) (g_t_place) (g_t_isFault) (g_t_readLaw) (g_t_read) (g_t_undone) (g_t_undos) (g_t_aside) (g_t_coat) (g_t_bestCoats) (g_t_bestStand) (g_t_bestPaint) (g_t_kept) (g_t_keptUndos) (g_t_isKept) (g_t_lanes) (g_t_sizes) (g_t_items) (g_t_moved) t_now p0 v17 hv17) q_1029 q_1026 q_63 q_1028 q_25 hd_X9_inchOf ⟨(Nat.le_of_ble_eq_true rfl), (Nat.le_of_ble_eq_true rfl)⟩ hK hP [0, 1] rfl 0 9 rfl rfl rfl rfl rfl rfl hl.1 rfl (Nat.le_of_ble_eq_true rfl) dX9_besides_38 ?_
              obtain ⟨v18, hv18, h⟩ := bind_e h
              refine callRS (As := [.int v16, .int v17]) (rest := [.int x2]) (v0 := .int v18) hx hb hml hown hg (c_X9_apart l D cy v16 v17 v18 hv18) q_1070 q_1068 q_63 q_1069 hd_X9_apart ⟨(Nat.le_of_ble_eq_true rfl), (Nat.le_of_ble_eq_true rfl)⟩ hK hP [] rfl rfl rfl rfl hl.1 rfl (Nat.le_of_ble_eq_true rfl) dX9_besides_41 ?_
              refine lv_iconst (v := 1) hx hb dX9_besides_44 kI_1 ?_
              refine lv_icmp_ne (tgt := 54) hx hb dX9_besides_45 (by decide) (fun c19 => ?_) (fun c19 => ?_)
              · have h := it_f c19 h
                refine lv_iconst (v := 0) hx hb dX9_besides_54 kI_0 ?_
                refine lv_ior hx hb dX9_besides_55 ?_
                refine lv_topi (fun x20 ex20 => ?_)
                have h := bnd_e ex20 h
                refine lv_istore_n (lv' := [(2, .int x20), (3, .int x1), (0, .ref a_t), (1, .int p0)]) hx hb dX9_besides_56 rfl hl (by decide) rfl (fun ls hl => ?_)
                obtain ⟨x21, ex21⟩ : ∃ y : Int32, y = x1 + 1 := ⟨_, rfl⟩
                have h := bnd_e ex21 h
                refine lv_iinc (v := x21) (lv' := [(3, .int x21), (2, .int x20), (0, .ref a_t), (1, .int p0)]) hx hb dX9_besides_57 hl (k := 1) rfl (inc_e kI_1 ex21) (by decide) rfl (fun ls hl => ?_)
                refine lv_goto (tgt := 4) hx hb dX9_besides_60 (by decide) ?_
                exact ih x21 x20 _ (lv_sub hl [0, 1, 2, 3] rfl) h
              · have h := it_t c19 h
                refine lv_iconst (v := 1) hx hb dX9_besides_48 kI_1 ?_
                refine lv_iload_n hx hb dX9_besides_49 rfl (lv_at hl 0 rfl) ?_
                refine lv_ishl hx hb dX9_besides_50 ?_
                refine lv_goto (tgt := 55) hx hb dX9_besides_51 (by decide) ?_
                refine lv_ior hx hb dX9_besides_55 ?_
                refine lv_topi (fun x22 ex22 => ?_)
                have h := bnd_e ex22 h
                refine lv_istore_n (lv' := [(2, .int x22), (3, .int x1), (0, .ref a_t), (1, .int p0)]) hx hb dX9_besides_56 rfl hl (by decide) rfl (fun ls hl => ?_)
                obtain ⟨x23, ex23⟩ : ∃ y : Int32, y = x1 + 1 := ⟨_, rfl⟩
                have h := bnd_e ex23 h
                refine lv_iinc (v := x23) (lv' := [(3, .int x23), (2, .int x22), (0, .ref a_t), (1, .int p0)]) hx hb dX9_besides_57 hl (k := 1) rfl (inc_e kI_1 ex23) (by decide) rfl (fun ls hl => ?_)
                refine lv_goto (tgt := 4) hx hb dX9_besides_60 (by decide) ?_
                exact ih x23 x22 _ (lv_sub hl [0, 1, 2, 3] rfl) h
  exact L5 F 0 0 _ (lv_sub hl [0, 1, 2, 3] rfl) h

def m_X9_standing_L4s (t_now : Nat → Int32) (k4 : Int32 → Option (Int32)) (r6 : Int32 → Int32 → Option (Int32)) (x1 : Int32) (x2 : Int32) : Option (Int32) := (if (t_now 0) ≤ x1 then k4 x2 else (m_X9_stands t_now x1).bind (fun v8 => (if v8 = 0 then bnd (x2 ||| 0) (fun x10 => bnd (x1 + 1) (fun x11 => r6 x11 x10)) else bnd (x2 ||| (1 <<< (x1 &&& 31))) (fun x12 => bnd (x1 + 1) (fun x13 => r6 x13 x12)))))
def m_X9_standing_L4 (t_now : Nat → Int32) (k4 : Int32 → Option (Int32)) : Nat → Int32 → Int32 → Option (Int32)
  | 0 => fun _ _ => none
  | nF + 1 => m_X9_standing_L4s t_now k4 (m_X9_standing_L4 t_now k4 nF)
def m_X9_standing (F : Nat) (t_now : Nat → Int32) : Option (Int32) := m_X9_standing_L4 t_now (fun (x3 : Int32) => some x3) F 0 0
set_option maxHeartbeats 4000000 in
set_option maxRecDepth 100000 in
theorem c_X9_standing (l : Launch) (D : va_G) (cy : Nat → ClassId) (a_t : Nat) (a_t_now : Nat) (g_t_tape : Value) (g_t_typed : Value) (g_t_place : Value) (g_t_isFault : Value) (g_t_readLaw : Value) (g_t_read : Value) (g_t_undone : Value) (g_t_undos : Value) (g_t_aside : Value) (g_t_coat : Value) (g_t_bestCoats : Value) (g_t_bestStand : Value) (g_t_bestPaint : Value) (g_t_kept : Value) (g_t_keptUndos : Value) (g_t_isKept : Value) (g_t_lanes : Value) (g_t_sizes : Value) (g_t_items : Value) (g_t_moved : Value) (t_now : Nat → Int32) (F : Nat) (out : Int32) (h : m_X9_standing F t_now = some out) : MetR l D cy yX9_standing cX9_standing 3 (some .int) (rmG 3 64) [.ref a_t] [(a_t, .inr (9, [.ref a_t_now, g_t_tape, g_t_typed, g_t_place, g_t_isFault, g_t_readLaw, g_t_read, g_t_undone, g_t_undos, g_t_aside, g_t_coat, g_t_bestCoats, g_t_bestStand, g_t_bestPaint, g_t_kept, g_t_keptUndos, g_t_isKept, g_t_lanes, g_t_sizes, g_t_items, g_t_moved])), (a_t_now, .inl (cy 0, 24, .inl t_now))] (some (.int out)) := by
  refine startR (own := RX9) (by decide) rfl (Nat.le_of_ble_eq_true rfl) ?_
  intro p e s m below meth c QQ hx hb hml hown hg hK hP hret ls hl
  have hl : lv_has ls 3 [(0, .ref a_t)] := hl
  unfold m_X9_standing at h
  refine lv_iconst (v := 0) hx hb dX9_standing_0 kI_0 ?_
  refine lv_istore_n (lv' := [(1, .int 0), (0, .ref a_t)]) hx hb dX9_standing_1 rfl hl (by decide) rfl (fun ls hl => ?_)
  refine lv_iconst (v := 0) hx hb dX9_standing_2 kI_0 ?_
  refine lv_istore_n (lv' := [(2, .int 0), (1, .int 0), (0, .ref a_t)]) hx hb dX9_standing_3 rfl hl (by decide) rfl (fun ls hl => ?_)
  obtain ⟨k4, hk4, h⟩ := kap (fun z => m_X9_standing_L4 t_now z F 0 0) h
  have J4 : ∀ (x3 : Int32) (ls : Array Slot), lv_has ls 3 [(1, .int x3)] → k4 x3 = some out → W p l e (rmG 3 64) s m [.ref a_t].toArray below meth c s.heap [] 0 0 QQ (F0 m 38 ls []) := by
    intro x3 ls hl h
    rw [hk4] at h
    refine lv_iload_n hx hb dX9_standing_38 rfl (lv_at hl 0 rfl) ?_
    exact hret _ ls 39 dX9_standing_39 rfl (congrArg (fun z => some (Value.int z)) (Option.some.inj h))
  have L5 : ∀ (n5 : Nat) (x1 : Int32) (x2 : Int32) (ls : Array Slot), lv_has ls 3 [(2, .int x1), (1, .int x2), (0, .ref a_t)] → m_X9_standing_L4 t_now k4 n5 x1 x2 = some out → W p l e (rmG 3 64) s m [.ref a_t].toArray below meth c s.heap [] 0 0 QQ (F0 m 4 ls []) := by
    intro n5
    induction n5 with
    | zero => intro x1 x2 ls hl h; exact nomatch (show (none : Option (Int32)) = some out from h)
    | succ n5 ih =>
        intro x1 x2 ls hl h
        have h : m_X9_standing_L4s t_now k4 (m_X9_standing_L4 t_now k4 n5) x1 x2 = some out := h
        unfold m_X9_standing_L4s at h
        refine lv_iload_n hx hb dX9_standing_4 rfl (lv_at hl 0 rfl) ?_
        refine lv_aload_n hx hb dX9_standing_5 rfl (lv_at hl 2 rfl) ?_
        refine va_get (D := D) (ci := 9) (v := .ref a_t_now) (C := RX9) (T := TX9) (N := 21) hx hb hg inG_X9 hown hK hP 0 rfl rfl 0 (by decide) (hg _ q_945) (fun _ h9 => h9) rfl dX9_standing_6 ?_
        refine lv_iconst (v := 0) hx hb dX9_standing_9 kI_0 ?_
        refine ialdK hx hb hK hP 1 0 rfl rfl (vp_in_inb (by decide)) kN_0 dX9_standing_10 ?_
        refine lv_icmp_ge (tgt := 38) hx hb dX9_standing_11 (by decide) (fun c7 => ?_) (fun c7 => ?_)
        · have h := it_t c7 h
          exact J4 x2 _ (lv_sub hl [1] rfl) h
        · have h := it_f c7 h
          refine lv_iload_n hx hb dX9_standing_14 rfl (lv_at hl 1 rfl) ?_
          refine lv_aload_n hx hb dX9_standing_15 rfl (lv_at hl 2 rfl) ?_
          refine lv_iload_n hx hb dX9_standing_16 rfl (lv_at hl 0 rfl) ?_
          obtain ⟨v8, hv8, h⟩ := bind_e h
          refine callRV (As := [.int x1]) (rest := [.int x2]) (v0 := .int v8) hx hb hml hown hg (c_X9_stands l D cy a_t a_t_now (g_t_tape) (g_t_typed) (g_t_place) (g_t_isFault) (g_t_readLaw) (g_t_read) (g_t_undone) (g_t_undos) (g_t_aside) (g_t_coat) (g_t_bestCoats) (g_t_bestStand) (g_t_bestPaint) (g_t_kept) (g_t_keptUndos) (g_t_isKept) (g_t_lanes) (g_t_sizes) (g_t_items) (g_t_moved) t_now x1 v8 hv8) q_1067 q_1064 q_63 q_1066 q_32 hd_X9_stands ⟨(Nat.le_of_ble_eq_true rfl), (Nat.le_of_ble_eq_true rfl)⟩ hK hP [0, 1] rfl 0 9 rfl rfl rfl rfl rfl rfl hl.1 rfl (Nat.le_of_ble_eq_true rfl) dX9_standing_17 ?_
          refine lv_if_eq (tgt := 29) hx hb dX9_standing_20 (by decide) (fun c9 => ?_) (fun c9 => ?_)
          · have h := it_t c9 h
            refine lv_iconst (v := 0) hx hb dX9_standing_29 kI_0 ?_
            refine lv_ior hx hb dX9_standing_30 ?_
            refine lv_topi (fun x10 ex10 => ?_)
            have h := bnd_e ex10 h
            refine lv_istore_n (lv' := [(1, .int x10), (2, .int x1), (0, .ref a_t)]) hx hb dX9_standing_31 rfl hl (by decide) rfl (fun ls hl => ?_)
            obtain ⟨x11, ex11⟩ : ∃ y : Int32, y = x1 + 1 := ⟨_, rfl⟩
            have h := bnd_e ex11 h
            refine lv_iinc (v := x11) (lv' := [(2, .int x11), (1, .int x10), (0, .ref a_t)]) hx hb dX9_standing_32 hl (k := 1) rfl (inc_e kI_1 ex11) (by decide) rfl (fun ls hl => ?_)
            refine lv_goto (tgt := 4) hx hb dX9_standing_35 (by decide) ?_
            exact ih x11 x10 _ (lv_sub hl [0, 1, 2] rfl) h
          · have h := it_f c9 h
            refine lv_iconst (v := 1) hx hb dX9_standing_23 kI_1 ?_
            refine lv_iload_n hx hb dX9_standing_24 rfl (lv_at hl 0 rfl) ?_
            refine lv_ishl hx hb dX9_standing_25 ?_
            refine lv_goto (tgt := 30) hx hb dX9_standing_26 (by decide) ?_
            refine lv_ior hx hb dX9_standing_30 ?_
            refine lv_topi (fun x12 ex12 => ?_)
            have h := bnd_e ex12 h
            refine lv_istore_n (lv' := [(1, .int x12), (2, .int x1), (0, .ref a_t)]) hx hb dX9_standing_31 rfl hl (by decide) rfl (fun ls hl => ?_)
            obtain ⟨x13, ex13⟩ : ∃ y : Int32, y = x1 + 1 := ⟨_, rfl⟩
            have h := bnd_e ex13 h
            refine lv_iinc (v := x13) (lv' := [(2, .int x13), (1, .int x12), (0, .ref a_t)]) hx hb dX9_standing_32 hl (k := 1) rfl (inc_e kI_1 ex13) (by decide) rfl (fun ls hl => ?_)
            refine lv_goto (tgt := 4) hx hb dX9_standing_35 (by decide) ?_
            exact ih x13 x12 _ (lv_sub hl [0, 1, 2] rfl) h
  exact L5 F 0 0 _ (lv_sub hl [0, 1, 2] rfl) h

def m_X9_many_L4s (k4 : Int32 → Option (Int32)) (r6 : Int32 → Int32 → Option (Int32)) (x1 : Int32) (x2 : Int32) : Option (Int32) := (if x1 = 0 then k4 x2 else bnd (x2 + 1) (fun x8 => bnd (x1 &&& (x1 - 1)) (fun x9 => r6 x9 x8)))
def m_X9_many_L4 (k4 : Int32 → Option (Int32)) : Nat → Int32 → Int32 → Option (Int32)
  | 0 => fun _ _ => none
  | nF + 1 => m_X9_many_L4s k4 (m_X9_many_L4 k4 nF)
def m_X9_many (F : Nat) (p0 : Int32) : Option (Int32) := m_X9_many_L4 (fun (x3 : Int32) => some x3) F p0 0
set_option maxHeartbeats 4000000 in
set_option maxRecDepth 100000 in
theorem c_X9_many (l : Launch) (D : va_G) (cy : Nat → ClassId) (p0 : Int32) (F : Nat) (out : Int32) (h : m_X9_many F p0 = some out) : MetR l D cy yX9_many cX9_many 3 (some .int) (rmG 0 0) [.int p0] [] (some (.int out)) := by
  refine startR (own := RX9) (by decide) rfl (Nat.le_of_ble_eq_true rfl) ?_
  intro p e s m below meth c QQ hx hb hml hown hg hK hP hret ls hl
  have hl : lv_has ls 3 [(0, .int p0)] := hl
  unfold m_X9_many at h
  refine lv_iconst (v := 0) hx hb dX9_many_0 kI_0 ?_
  refine lv_istore_n (lv' := [(1, .int 0), (0, .int p0)]) hx hb dX9_many_1 rfl hl (by decide) rfl (fun ls hl => ?_)
  refine lv_iload_n hx hb dX9_many_2 rfl (lv_at hl 1 rfl) ?_
  refine lv_istore_n (lv' := [(2, .int p0), (1, .int 0), (0, .int p0)]) hx hb dX9_many_3 rfl hl (by decide) rfl (fun ls hl => ?_)
  obtain ⟨k4, hk4, h⟩ := kap (fun z => m_X9_many_L4 z F p0 0) h
  have J4 : ∀ (x3 : Int32) (ls : Array Slot), lv_has ls 3 [(1, .int x3)] → k4 x3 = some out → W p l e (rmG 0 0) s m [.int p0].toArray below meth c s.heap [] 0 0 QQ (F0 m 20 ls []) := by
    intro x3 ls hl h
    rw [hk4] at h
    refine lv_iload_n hx hb dX9_many_20 rfl (lv_at hl 0 rfl) ?_
    exact hret _ ls 21 dX9_many_21 rfl (congrArg (fun z => some (Value.int z)) (Option.some.inj h))
  have L5 : ∀ (n5 : Nat) (x1 : Int32) (x2 : Int32) (ls : Array Slot), lv_has ls 3 [(2, .int x1), (1, .int x2)] → m_X9_many_L4 k4 n5 x1 x2 = some out → W p l e (rmG 0 0) s m [.int p0].toArray below meth c s.heap [] 0 0 QQ (F0 m 4 ls []) := by
    intro n5
    induction n5 with
    | zero => intro x1 x2 ls hl h; exact nomatch (show (none : Option (Int32)) = some out from h)
    | succ n5 ih =>
        intro x1 x2 ls hl h
        have h : m_X9_many_L4s k4 (m_X9_many_L4 k4 n5) x1 x2 = some out := h
        unfold m_X9_many_L4s at h
        refine lv_iload_n hx hb dX9_many_4 rfl (lv_at hl 0 rfl) ?_
        refine lv_if_eq (tgt := 20) hx hb dX9_many_5 (by decide) (fun c7 => ?_) (fun c7 => ?_)
        · have h := it_t c7 h
          exact J4 x2 _ (lv_sub hl [1] rfl) h
        · have h := it_f c7 h
          obtain ⟨x8, ex8⟩ : ∃ y : Int32, y = x2 + 1 := ⟨_, rfl⟩
          have h := bnd_e ex8 h
          refine lv_iinc (v := x8) (lv' := [(1, .int x8), (2, .int x1)]) hx hb dX9_many_8 hl (k := 1) rfl (inc_e kI_1 ex8) (by decide) rfl (fun ls hl => ?_)
          refine lv_iload_n hx hb dX9_many_11 rfl (lv_at hl 1 rfl) ?_
          refine lv_iload_n hx hb dX9_many_12 rfl (lv_at hl 1 rfl) ?_
          refine lv_iconst (v := 1) hx hb dX9_many_13 kI_1 ?_
          refine lv_isub hx hb dX9_many_14 ?_
          refine lv_iand hx hb dX9_many_15 ?_
          refine lv_topi (fun x9 ex9 => ?_)
          have h := bnd_e ex9 h
          refine lv_istore_n (lv' := [(2, .int x9), (1, .int x8)]) hx hb dX9_many_16 rfl hl (by decide) rfl (fun ls hl => ?_)
          refine lv_goto (tgt := 4) hx hb dX9_many_17 (by decide) ?_
          exact ih x9 x8 _ (lv_sub hl [0, 1] rfl) h
  exact L5 F p0 0 _ (lv_sub hl [0, 1] rfl) h

def m_X9_grip (F : Nat) (t_now : Nat → Int32) (p0 : Int32) : Option (Int32) := (m_X9_paintOf t_now p0).bind (fun v1 => bnd (v1 + 2) (fun x2 => (m_X9_besides F t_now p0).bind (fun v3 => (m_X9_many F v3).bind (fun v4 => bnd (x2 + v4) (fun x5 => (m_X9_stands t_now p0).bind (fun v6 => (if v6 = 0 then some 0 else (m_X9_told t_now p0 0).bind (fun v8 => ((if v8 = 0 then some x2 else (if v8 = 1 then some (x2 / 2) else (if v8 = 2 then some x5 else (if v8 = 3 then (if ((t_now 1) - (t_now 1) / 2 * 2) = 1 then some ((x2 / 2) + 3) else some ((x2 / 2) + 0)) else (m_X9_standing F t_now).bind (fun v14 => (m_X9_many F v14).bind (fun v15 => some ((x5 + (t_now 0)) - v15))))))))))))))))
set_option maxHeartbeats 4000000 in
set_option maxRecDepth 100000 in
theorem c_X9_grip (l : Launch) (D : va_G) (cy : Nat → ClassId) (a_t : Nat) (a_t_now : Nat) (g_t_tape : Value) (g_t_typed : Value) (g_t_place : Value) (g_t_isFault : Value) (g_t_readLaw : Value) (g_t_read : Value) (g_t_undone : Value) (g_t_undos : Value) (g_t_aside : Value) (g_t_coat : Value) (g_t_bestCoats : Value) (g_t_bestStand : Value) (g_t_bestPaint : Value) (g_t_kept : Value) (g_t_keptUndos : Value) (g_t_isKept : Value) (g_t_lanes : Value) (g_t_sizes : Value) (g_t_items : Value) (g_t_moved : Value) (t_now : Nat → Int32) (p0 : Int32) (F : Nat) (out : Int32) (h : m_X9_grip F t_now p0 = some out) : MetR l D cy yX9_grip cX9_grip 4 (some .int) (rmG 4 87) [.ref a_t, .int p0] [(a_t, .inr (9, [.ref a_t_now, g_t_tape, g_t_typed, g_t_place, g_t_isFault, g_t_readLaw, g_t_read, g_t_undone, g_t_undos, g_t_aside, g_t_coat, g_t_bestCoats, g_t_bestStand, g_t_bestPaint, g_t_kept, g_t_keptUndos, g_t_isKept, g_t_lanes, g_t_sizes, g_t_items, g_t_moved])), (a_t_now, .inl (cy 0, 24, .inl t_now))] (some (.int out)) := by
  refine startR (own := RX9) (by decide) rfl (Nat.le_of_ble_eq_true rfl) ?_
  intro p e s m below meth c QQ hx hb hml hown hg hK hP hret ls hl
  have hl : lv_has ls 4 [(0, .ref a_t), (1, .int p0)] := hl
  unfold m_X9_grip at h
  refine lv_aload_n hx hb dX9_grip_0 rfl (lv_at hl 0 rfl) ?_
  refine lv_iload_n hx hb dX9_grip_1 rfl (lv_at hl 1 rfl) ?_
  obtain ⟨v1, hv1, h⟩ := bind_e h
  refine callRV (As := [.int p0]) (rest := []) (v0 := .int v1) hx hb hml hown hg (c_X9_paintOf l D cy a_t a_t_now (g_t_tape) (g_t_typed) (g_t_place) (g_t_isFault) (g_t_readLaw) (g_t_read) (g_t_undone) (g_t_undos) (g_t_aside) (g_t_coat) (g_t_bestCoats) (g_t_bestStand) (g_t_bestPaint) (g_t_kept) (g_t_keptUndos) (g_t_isKept) (g_t_lanes) (g_t_sizes) (g_t_items) (g_t_moved) t_now p0 v1 hv1) q_1059 q_1056 q_63 q_1058 q_30 hd_X9_paintOf ⟨(Nat.le_of_ble_eq_true rfl), (Nat.le_of_ble_eq_true rfl)⟩ hK hP [0, 1] rfl 0 9 rfl rfl rfl rfl rfl rfl hl.1 rfl (Nat.le_of_ble_eq_true rfl) dX9_grip_2 ?_
  refine lv_iconst (v := 2) hx hb dX9_grip_5 kI_2 ?_
  refine lv_iadd hx hb dX9_grip_6 ?_
  refine lv_topi (fun x2 ex2 => ?_)
  have h := bnd_e ex2 h
  refine lv_istore_n (lv' := [(2, .int x2), (0, .ref a_t), (1, .int p0)]) hx hb dX9_grip_7 rfl hl (by decide) rfl (fun ls hl => ?_)
  refine lv_iload_n hx hb dX9_grip_8 rfl (lv_at hl 0 rfl) ?_
  refine lv_aload_n hx hb dX9_grip_9 rfl (lv_at hl 1 rfl) ?_
  refine lv_iload_n hx hb dX9_grip_10 rfl (lv_at hl 2 rfl) ?_
  obtain ⟨v3, hv3, h⟩ := bind_e h
  refine callRV (As := [.int p0]) (rest := [.int x2]) (v0 := .int v3) hx hb hml hown hg (c_X9_besides l D cy a_t a_t_now (g_t_tape) (g_t_typed) (g_t_place) (g_t_isFault) (g_t_readLaw) (g_t_read) (g_t_undone) (g_t_undos) (g_t_aside) (g_t_coat) (g_t_bestCoats) (g_t_bestStand) (g_t_bestPaint) (g_t_kept) (g_t_keptUndos) (g_t_isKept) (g_t_lanes) (g_t_sizes) (g_t_items) (g_t_moved) t_now p0 F v3 hv3) q_1063 q_1060 q_63 q_1062 q_31 hd_X9_besides ⟨(Nat.le_of_ble_eq_true rfl), (Nat.le_of_ble_eq_true rfl)⟩ hK hP [0, 1] rfl 0 9 rfl rfl rfl rfl rfl rfl hl.1 rfl (Nat.le_of_ble_eq_true rfl) dX9_grip_11 ?_
  obtain ⟨v4, hv4, h⟩ := bind_e h
  refine callRS (As := [.int v3]) (rest := [.int x2]) (v0 := .int v4) hx hb hml hown hg (c_X9_many l D cy v3 F v4 hv4) q_1073 q_1071 q_63 q_1072 hd_X9_many ⟨(Nat.le_of_ble_eq_true rfl), (Nat.le_of_ble_eq_true rfl)⟩ hK hP [] rfl rfl rfl rfl hl.1 rfl (Nat.le_of_ble_eq_true rfl) dX9_grip_14 ?_
  refine lv_iadd hx hb dX9_grip_17 ?_
  refine lv_topi (fun x5 ex5 => ?_)
  have h := bnd_e ex5 h
  refine lv_istore_n (lv' := [(3, .int x5), (2, .int x2), (0, .ref a_t), (1, .int p0)]) hx hb dX9_grip_18 rfl hl (by decide) rfl (fun ls hl => ?_)
  refine lv_aload_n hx hb dX9_grip_19 rfl (lv_at hl 2 rfl) ?_
  refine lv_iload_n hx hb dX9_grip_20 rfl (lv_at hl 3 rfl) ?_
  obtain ⟨v6, hv6, h⟩ := bind_e h
  refine callRV (As := [.int p0]) (rest := []) (v0 := .int v6) hx hb hml hown hg (c_X9_stands l D cy a_t a_t_now (g_t_tape) (g_t_typed) (g_t_place) (g_t_isFault) (g_t_readLaw) (g_t_read) (g_t_undone) (g_t_undos) (g_t_aside) (g_t_coat) (g_t_bestCoats) (g_t_bestStand) (g_t_bestPaint) (g_t_kept) (g_t_keptUndos) (g_t_isKept) (g_t_lanes) (g_t_sizes) (g_t_items) (g_t_moved) t_now p0 v6 hv6) q_1067 q_1064 q_63 q_1066 q_32 hd_X9_stands ⟨(Nat.le_of_ble_eq_true rfl), (Nat.le_of_ble_eq_true rfl)⟩ hK hP [0, 1] rfl 0 9 rfl rfl rfl rfl rfl rfl hl.1 rfl (Nat.le_of_ble_eq_true rfl) dX9_grip_21 ?_
  refine lv_if_ne (tgt := 29) hx hb dX9_grip_24 (by decide) (fun c7 => ?_) (fun c7 => ?_)
  · have h := it_f c7 h
    refine lv_aload_n hx hb dX9_grip_29 rfl (lv_at hl 2 rfl) ?_
    refine lv_iload_n hx hb dX9_grip_30 rfl (lv_at hl 3 rfl) ?_
    refine lv_iconst (v := 0) hx hb dX9_grip_31 kI_0 ?_
    obtain ⟨v8, hv8, h⟩ := bind_e h
    refine callRV (As := [.int p0, .int 0]) (rest := []) (v0 := .int v8) hx hb hml hown hg (c_X9_told l D cy a_t a_t_now (g_t_tape) (g_t_typed) (g_t_place) (g_t_isFault) (g_t_readLaw) (g_t_read) (g_t_undone) (g_t_undos) (g_t_aside) (g_t_coat) (g_t_bestCoats) (g_t_bestStand) (g_t_bestPaint) (g_t_kept) (g_t_keptUndos) (g_t_isKept) (g_t_lanes) (g_t_sizes) (g_t_items) (g_t_moved) t_now p0 0 v8 hv8) q_1033 q_1030 q_63 q_1032 q_26 hd_X9_told ⟨(Nat.le_of_ble_eq_true rfl), (Nat.le_of_ble_eq_true rfl)⟩ hK hP [0, 1] rfl 0 9 rfl rfl rfl rfl rfl rfl hl.1 rfl (Nat.le_of_ble_eq_true rfl) dX9_grip_32 ?_
    by_cases c9 : v8 = 0
    · refine lv_tableIn (off := 29) (tgt := 64) hx hb dX9_grip_35 (by rw [c9]; decide) (by rw [c9]; decide) (by rw [c9]; decide) (by decide) ?_
      have h := it_t c9 h
      refine lv_iload_n hx hb dX9_grip_64 rfl (lv_at hl 1 rfl) ?_
      exact hret _ ls 65 dX9_grip_65 rfl (congrArg (fun z => some (Value.int z)) (Option.some.inj h))
    have h := it_f c9 h
    by_cases c10 : v8 = 1
    · refine lv_tableIn (off := 31) (tgt := 66) hx hb dX9_grip_35 (by rw [c10]; decide) (by rw [c10]; decide) (by rw [c10]; decide) (by decide) ?_
      have h := it_t c10 h
      refine lv_iload_n hx hb dX9_grip_66 rfl (lv_at hl 1 rfl) ?_
      refine lv_iconst (v := 2) hx hb dX9_grip_67 kI_2 ?_
      refine lv_idiv hx hb dX9_grip_68 (by decide) ?_
      exact hret _ ls 69 dX9_grip_69 rfl (congrArg (fun z => some (Value.int z)) (Option.some.inj h))
    have h := it_f c10 h
    by_cases c11 : v8 = 2
    · refine lv_tableIn (off := 35) (tgt := 70) hx hb dX9_grip_35 (by rw [c11]; decide) (by rw [c11]; decide) (by rw [c11]; decide) (by decide) ?_
      have h := it_t c11 h
      refine lv_iload_n hx hb dX9_grip_70 rfl (lv_at hl 0 rfl) ?_
      exact hret _ ls 71 dX9_grip_71 rfl (congrArg (fun z => some (Value.int z)) (Option.some.inj h))
    have h := it_f c11 h
    by_cases c12 : v8 = 3
    · refine lv_tableIn (off := 37) (tgt := 72) hx hb dX9_grip_35 (by rw [c12]; decide) (by rw [c12]; decide) (by rw [c12]; decide) (by decide) ?_
      have h := it_t c12 h
      refine lv_iload_n hx hb dX9_grip_72 rfl (lv_at hl 1 rfl) ?_
      refine lv_iconst (v := 2) hx hb dX9_grip_73 kI_2 ?_
      refine lv_idiv hx hb dX9_grip_74 (by decide) ?_
      refine lv_aload_n hx hb dX9_grip_75 rfl (lv_at hl 2 rfl) ?_
      refine va_get (D := D) (ci := 9) (v := .ref a_t_now) (C := RX9) (T := TX9) (N := 21) hx hb hg inG_X9 hown hK hP 0 rfl rfl 0 (by decide) (hg _ q_945) (fun _ h9 => h9) rfl dX9_grip_76 ?_
      refine lv_iconst (v := 1) hx hb dX9_grip_79 kI_1 ?_
      refine ialdK hx hb hK hP 1 0 rfl rfl (vp_in_inb (by decide)) kN_1 dX9_grip_80 ?_
      refine lv_iconst (v := 2) hx hb dX9_grip_81 kI_2 ?_
      refine lv_irem hx hb dX9_grip_82 (by decide) ?_
      refine lv_iconst (v := 1) hx hb dX9_grip_83 kI_1 ?_
      refine lv_icmp_ne (tgt := 91) hx hb dX9_grip_84 (by decide) (fun c13 => ?_) (fun c13 => ?_)
      · have h := it_f c13 h
        refine lv_iconst (v := 0) hx hb dX9_grip_91 kI_0 ?_
        refine lv_iadd hx hb dX9_grip_92 ?_
        exact hret _ ls 93 dX9_grip_93 rfl (congrArg (fun z => some (Value.int z)) (Option.some.inj h))
      · have h := it_t c13 h
        refine lv_iconst (v := 3) hx hb dX9_grip_87 kI_3 ?_
        refine lv_goto (tgt := 92) hx hb dX9_grip_88 (by decide) ?_
        refine lv_iadd hx hb dX9_grip_92 ?_
        exact hret _ ls 93 dX9_grip_93 rfl (congrArg (fun z => some (Value.int z)) (Option.some.inj h))
    have h := it_f c12 h
    refine lv_tableOut (tgt := 94) hx hb dX9_grip_35 (by have := (And.intro (swn (k := 0) (by decide) c9) ((And.intro (swn (k := 1) (by decide) c10) ((And.intro (swn (k := 2) (by decide) c11) (swn (k := 3) (by decide) c12)))))); omega) (by decide) ?_
    refine lv_iload_n hx hb dX9_grip_94 rfl (lv_at hl 0 rfl) ?_
    refine lv_aload_n hx hb dX9_grip_95 rfl (lv_at hl 2 rfl) ?_
    refine va_get (D := D) (ci := 9) (v := .ref a_t_now) (C := RX9) (T := TX9) (N := 21) hx hb hg inG_X9 hown hK hP 0 rfl rfl 0 (by decide) (hg _ q_945) (fun _ h9 => h9) rfl dX9_grip_96 ?_
    refine lv_iconst (v := 0) hx hb dX9_grip_99 kI_0 ?_
    refine ialdK hx hb hK hP 1 0 rfl rfl (vp_in_inb (by decide)) kN_0 dX9_grip_100 ?_
    refine lv_iadd hx hb dX9_grip_101 ?_
    refine lv_aload_n hx hb dX9_grip_102 rfl (lv_at hl 2 rfl) ?_
    obtain ⟨v14, hv14, h⟩ := bind_e h
    refine callRV (As := []) (rest := [.int (x5 + (t_now 0))]) (v0 := .int v14) hx hb hml hown hg (c_X9_standing l D cy a_t a_t_now (g_t_tape) (g_t_typed) (g_t_place) (g_t_isFault) (g_t_readLaw) (g_t_read) (g_t_undone) (g_t_undos) (g_t_aside) (g_t_coat) (g_t_bestCoats) (g_t_bestStand) (g_t_bestPaint) (g_t_kept) (g_t_keptUndos) (g_t_isKept) (g_t_lanes) (g_t_sizes) (g_t_items) (g_t_moved) t_now F v14 hv14) q_1077 q_1074 q_63 q_1076 q_33 hd_X9_standing ⟨(Nat.le_of_ble_eq_true rfl), (Nat.le_of_ble_eq_true rfl)⟩ hK hP [0, 1] rfl 0 9 rfl rfl rfl rfl rfl rfl hl.1 rfl (Nat.le_of_ble_eq_true rfl) dX9_grip_103 ?_
    obtain ⟨v15, hv15, h⟩ := bind_e h
    refine callRS (As := [.int v14]) (rest := [.int (x5 + (t_now 0))]) (v0 := .int v15) hx hb hml hown hg (c_X9_many l D cy v14 F v15 hv15) q_1073 q_1071 q_63 q_1072 hd_X9_many ⟨(Nat.le_of_ble_eq_true rfl), (Nat.le_of_ble_eq_true rfl)⟩ hK hP [] rfl rfl rfl rfl hl.1 rfl (Nat.le_of_ble_eq_true rfl) dX9_grip_106 ?_
    refine lv_isub hx hb dX9_grip_109 ?_
    exact hret _ ls 110 dX9_grip_110 rfl (congrArg (fun z => some (Value.int z)) (Option.some.inj h))
  · have h := it_t c7 h
    refine lv_iconst (v := 0) hx hb dX9_grip_27 kI_0 ?_
    exact hret _ ls 28 dX9_grip_28 rfl (congrArg (fun z => some (Value.int z)) (Option.some.inj h))

def m_X9_goesBy_L75s (x3 : Int32) (k7 : (Nat → Int32) → Option ((Nat → Int32))) (r9 : Int32 → (Nat → Int32) → Option ((Nat → Int32))) (x4 : Int32) (w5 : Nat → Int32) : Option ((Nat → Int32)) := (if (w5 0) ≤ x4 then k7 w5 else (if ((x3 >>> (x4 &&& 31)) &&& 1) = 1 then (m_X9_goesTo w5 x4 (-4)).bind (fun v22 => bnd (x4 + 1) (fun x23 => r9 x23 v22)) else (m_X9_stands w5 x4).bind (fun v12 => (if v12 = 0 then bnd (x4 + 1) (fun x14 => r9 x14 w5) else (m_X9_inchOf w5 x4).bind (fun v15 => (m_X9_high w5 v15 0).bind (fun v16 => (if v16 ≤ 0 then bnd (x4 + 1) (fun x18 => r9 x18 w5) else (m_X9_paintOf w5 x4).bind (fun v19 => (m_X9_paints w5 x4 (v19 - 1)).bind (fun v20 => bnd (x4 + 1) (fun x21 => r9 x21 v20))))))))))
def m_X9_goesBy_L75 (x3 : Int32) (k7 : (Nat → Int32) → Option ((Nat → Int32))) : Nat → Int32 → (Nat → Int32) → Option ((Nat → Int32))
  | 0 => fun _ _ => none
  | nF + 1 => m_X9_goesBy_L75s x3 k7 (m_X9_goesBy_L75 x3 k7 nF)
def m_X9_goesBy_L4s (t_now : Nat → Int32) (p0 : Int32) (F : Nat) (k24 : Int32 → Option ((Nat → Int32))) (r26 : Int32 → Int32 → Option ((Nat → Int32))) (x1 : Int32) (x2 : Int32) : Option ((Nat → Int32)) := (if (t_now 0) ≤ x1 then k24 x2 else jn (fun (x28 : Int32) => (m_X9_stands t_now x1).bind (fun v29 => (if v29 = 0 then bnd (x2 ||| 0) (fun x31 => bnd (x1 + 1) (fun x32 => r26 x32 x31)) else (m_X9_inchOf t_now x1).bind (fun v33 => (m_X9_high t_now v33 0).bind (fun v34 => (if v34 ≤ x28 then bnd (x2 ||| 0) (fun x36 => bnd (x1 + 1) (fun x37 => r26 x37 x36)) else bnd (x2 ||| (1 <<< (x1 &&& 31))) (fun x38 => bnd (x1 + 1) (fun x39 => r26 x39 x38)))))))) (fun k40 => (if ((p0 >>> (x1 &&& 31)) &&& 1) = 1 then k40 0 else (m_X9_grip F t_now x1).bind (fun v42 => k40 v42))))
def m_X9_goesBy_L4 (t_now : Nat → Int32) (p0 : Int32) (F : Nat) (k24 : Int32 → Option ((Nat → Int32))) : Nat → Int32 → Int32 → Option ((Nat → Int32))
  | 0 => fun _ _ => none
  | nF + 1 => m_X9_goesBy_L4s t_now p0 F k24 (m_X9_goesBy_L4 t_now p0 F k24 nF)
def m_X9_goesBy (F : Nat) (t_now : Nat → Int32) (p0 : Int32) : Option ((Nat → Int32)) := m_X9_goesBy_L4 t_now p0 F (fun (x3 : Int32) => m_X9_goesBy_L75 x3 (fun (w6 : Nat → Int32) => some (upd w6 1 ((w6 1) + 1))) F 0 t_now) F 0 0
set_option maxHeartbeats 4000000 in
set_option maxRecDepth 100000 in
theorem c_X9_goesBy (l : Launch) (D : va_G) (cy : Nat → ClassId) (a_t : Nat) (a_t_now : Nat) (sz : Nat) (g_t_tape : Value) (g_t_typed : Value) (g_t_place : Value) (g_t_isFault : Value) (g_t_readLaw : Value) (g_t_read : Value) (g_t_undone : Value) (g_t_undos : Value) (g_t_aside : Value) (g_t_coat : Value) (g_t_bestCoats : Value) (g_t_bestStand : Value) (g_t_bestPaint : Value) (g_t_kept : Value) (g_t_keptUndos : Value) (g_t_isKept : Value) (g_t_lanes : Value) (g_t_sizes : Value) (g_t_items : Value) (g_t_moved : Value) (t_now : Nat → Int32) (p0 : Int32) (F : Nat) (out : (Nat → Int32)) (h : m_X9_goesBy F t_now p0 = some out) : MetM l D cy yX9_goesBy cX9_goesBy 5 none (rmG 5 110) [.ref a_t, .int p0] sz [(a_t, .inr (9, [.ref a_t_now, g_t_tape, g_t_typed, g_t_place, g_t_isFault, g_t_readLaw, g_t_read, g_t_undone, g_t_undos, g_t_aside, g_t_coat, g_t_bestCoats, g_t_bestStand, g_t_bestPaint, g_t_kept, g_t_keptUndos, g_t_isKept, g_t_lanes, g_t_sizes, g_t_items, g_t_moved])), (a_t_now, .inl (cy 0, 24, .inl t_now))] none [(a_t, .inr (9, [.ref a_t_now, g_t_tape, g_t_typed, g_t_place, g_t_isFault, g_t_readLaw, g_t_read, g_t_undone, g_t_undos, g_t_aside, g_t_coat, g_t_bestCoats, g_t_bestStand, g_t_bestPaint, g_t_kept, g_t_keptUndos, g_t_isKept, g_t_lanes, g_t_sizes, g_t_items, g_t_moved])), (a_t_now, .inl (cy 0, 24, .inl out))] := by
  refine startMv (own := RX9) (by decide) rfl (Nat.le_of_ble_eq_true rfl) ?_
  intro p e s m below meth c QQ A hx hb hml hown hg hK hP hD hS hA hret ls hl
  have hl : lv_has ls 5 [(0, .ref a_t), (1, .int p0)] := hl
  unfold m_X9_goesBy at h
  refine lv_iconst (v := 0) hx hb dX9_goesBy_0 kI_0 ?_
  refine lv_istore_n (lv' := [(2, .int 0), (0, .ref a_t), (1, .int p0)]) hx hb dX9_goesBy_1 rfl hl (by decide) rfl (fun ls hl => ?_)
  refine lv_iconst (v := 0) hx hb dX9_goesBy_2 kI_0 ?_
  refine lv_istore_n (lv' := [(3, .int 0), (2, .int 0), (0, .ref a_t), (1, .int p0)]) hx hb dX9_goesBy_3 rfl hl (by decide) rfl (fun ls hl => ?_)
  obtain ⟨k24, hk24, h⟩ := kap (fun z => m_X9_goesBy_L4 t_now p0 F z F 0 0) h
  have J24 : ∀ (x3 : Int32) (H : Heap) (locs : List Loc) (ls : Array Slot), va_P D vwCl [(a_t, .inr (9, [.ref a_t_now, g_t_tape, g_t_typed, g_t_place, g_t_isFault, g_t_readLaw, g_t_read, g_t_undone, g_t_undos, g_t_aside, g_t_coat, g_t_bestCoats, g_t_bestStand, g_t_bestPaint, g_t_kept, g_t_keptUndos, g_t_isKept, g_t_lanes, g_t_sizes, g_t_items, g_t_moved])), (a_t_now, .inl (cy 0, 24, .inl t_now))] H → va_D A [(a_t, .inr (9, [.ref a_t_now, g_t_tape, g_t_typed, g_t_place, g_t_isFault, g_t_readLaw, g_t_read, g_t_undone, g_t_undos, g_t_aside, g_t_coat, g_t_bestCoats, g_t_bestStand, g_t_bestPaint, g_t_kept, g_t_keptUndos, g_t_isKept, g_t_lanes, g_t_sizes, g_t_items, g_t_moved])), (a_t_now, .inl (cy 0, 24, .inl t_now))] → va_S A s.heap H locs → lv_has ls 5 [(2, .int x3), (0, .ref a_t)] → k24 x3 = some out → W p l e (rmG 5 110) s m [.ref a_t, .int p0].toArray below meth c H locs 0 0 QQ (F0 m 73 ls []) := by
    intro x3 H locs ls hP hD hS hl h
    rw [hk24] at h
    refine lv_iconst (v := 0) hx hb dX9_goesBy_73 kI_0 ?_
    refine lv_istore_n (lv' := [(3, .int 0), (2, .int x3), (0, .ref a_t)]) hx hb dX9_goesBy_74 rfl hl (by decide) rfl (fun ls hl => ?_)
    obtain ⟨k7, hk7, h⟩ := kap (fun z => m_X9_goesBy_L75 x3 z F 0 t_now) h
    have J7 : ∀ (w6 : Nat → Int32) (H : Heap) (locs : List Loc) (ls : Array Slot), va_P D vwCl [(a_t, .inr (9, [.ref a_t_now, g_t_tape, g_t_typed, g_t_place, g_t_isFault, g_t_readLaw, g_t_read, g_t_undone, g_t_undos, g_t_aside, g_t_coat, g_t_bestCoats, g_t_bestStand, g_t_bestPaint, g_t_kept, g_t_keptUndos, g_t_isKept, g_t_lanes, g_t_sizes, g_t_items, g_t_moved])), (a_t_now, .inl (cy 0, 24, .inl w6))] H → va_D A [(a_t, .inr (9, [.ref a_t_now, g_t_tape, g_t_typed, g_t_place, g_t_isFault, g_t_readLaw, g_t_read, g_t_undone, g_t_undos, g_t_aside, g_t_coat, g_t_bestCoats, g_t_bestStand, g_t_bestPaint, g_t_kept, g_t_keptUndos, g_t_isKept, g_t_lanes, g_t_sizes, g_t_items, g_t_moved])), (a_t_now, .inl (cy 0, 24, .inl w6))] → va_S A s.heap H locs → lv_has ls 5 [(0, .ref a_t)] → k7 w6 = some out → W p l e (rmG 5 110) s m [.ref a_t, .int p0].toArray below meth c H locs 0 0 QQ (F0 m 143 ls []) := by
      intro w6 H locs ls hP hD hS hl h
      rw [hk7] at h
      refine lv_aload_n hx hb dX9_goesBy_143 rfl (lv_at hl 0 rfl) ?_
      refine va_get (D := D) (ci := 9) (v := .ref a_t_now) (C := RX9) (T := TX9) (N := 21) hx hb hg inG_X9 hown hK hP 0 rfl rfl 0 (by decide) (hg _ q_945) (fun _ h9 => h9) rfl dX9_goesBy_144 ?_
      refine lv_iconst (v := 1) hx hb dX9_goesBy_147 kI_1 ?_
      refine lv_dup2_11 hx hb dX9_goesBy_148 rfl rfl ?_
      refine ialdK hx hb hK hP 1 0 rfl rfl (vp_in_inb (by decide)) kN_1 dX9_goesBy_149 ?_
      refine lv_iconst (v := 1) hx hb dX9_goesBy_150 kI_1 ?_
      refine lv_iadd hx hb dX9_goesBy_151 ?_
      refine iastK hx hb hK hP hD hS 1 0 rfl rfl (vp_in_inb (by decide)) kN_1 dX9_goesBy_152 (fun H locs hP hD hS => ?_)
      have hP : va_P D vwCl [(a_t, .inr (9, [.ref a_t_now, g_t_tape, g_t_typed, g_t_place, g_t_isFault, g_t_readLaw, g_t_read, g_t_undone, g_t_undos, g_t_aside, g_t_coat, g_t_bestCoats, g_t_bestStand, g_t_bestPaint, g_t_kept, g_t_keptUndos, g_t_isKept, g_t_lanes, g_t_sizes, g_t_items, g_t_moved])), (a_t_now, .inl (cy 0, 24, .inl (upd w6 1 ((w6 1) + 1))))] H := hP
      have hD : va_D A [(a_t, .inr (9, [.ref a_t_now, g_t_tape, g_t_typed, g_t_place, g_t_isFault, g_t_readLaw, g_t_read, g_t_undone, g_t_undos, g_t_aside, g_t_coat, g_t_bestCoats, g_t_bestStand, g_t_bestPaint, g_t_kept, g_t_keptUndos, g_t_isKept, g_t_lanes, g_t_sizes, g_t_items, g_t_moved])), (a_t_now, .inl (cy 0, 24, .inl (upd w6 1 ((w6 1) + 1))))] := hD
      exact hret _ _ _ ls 153 dX9_goesBy_153 (by rw [← Option.some.inj h]) hP hD hS
    have L8 : ∀ (n8 : Nat) (x4 : Int32) (w5 : Nat → Int32) (H : Heap) (locs : List Loc) (ls : Array Slot), va_P D vwCl [(a_t, .inr (9, [.ref a_t_now, g_t_tape, g_t_typed, g_t_place, g_t_isFault, g_t_readLaw, g_t_read, g_t_undone, g_t_undos, g_t_aside, g_t_coat, g_t_bestCoats, g_t_bestStand, g_t_bestPaint, g_t_kept, g_t_keptUndos, g_t_isKept, g_t_lanes, g_t_sizes, g_t_items, g_t_moved])), (a_t_now, .inl (cy 0, 24, .inl w5))] H → va_D A [(a_t, .inr (9, [.ref a_t_now, g_t_tape, g_t_typed, g_t_place, g_t_isFault, g_t_readLaw, g_t_read, g_t_undone, g_t_undos, g_t_aside, g_t_coat, g_t_bestCoats, g_t_bestStand, g_t_bestPaint, g_t_kept, g_t_keptUndos, g_t_isKept, g_t_lanes, g_t_sizes, g_t_items, g_t_moved])), (a_t_now, .inl (cy 0, 24, .inl w5))] → va_S A s.heap H locs → lv_has ls 5 [(3, .int x4), (2, .int x3), (0, .ref a_t)] → m_X9_goesBy_L75 x3 k7 n8 x4 w5 = some out → W p l e (rmG 5 110) s m [.ref a_t, .int p0].toArray below meth c H locs 0 0 QQ (F0 m 75 ls []) := by
      intro n8
      induction n8 with
      | zero => intro x4 w5 H locs ls hP hD hS hl h; exact nomatch (show (none : Option ((Nat → Int32))) = some out from h)
      | succ n8 ih =>
          intro x4 w5 H locs ls hP hD hS hl h
          have h : m_X9_goesBy_L75s x3 k7 (m_X9_goesBy_L75 x3 k7 n8) x4 w5 = some out := h
          unfold m_X9_goesBy_L75s at h
          refine lv_iload_n hx hb dX9_goesBy_75 rfl (lv_at hl 0 rfl) ?_
          refine lv_aload_n hx hb dX9_goesBy_76 rfl (lv_at hl 2 rfl) ?_
          refine va_get (D := D) (ci := 9) (v := .ref a_t_now) (C := RX9) (T := TX9) (N := 21) hx hb hg inG_X9 hown hK hP 0 rfl rfl 0 (by decide) (hg _ q_945) (fun _ h9 => h9) rfl dX9_goesBy_77 ?_
          refine lv_iconst (v := 0) hx hb dX9_goesBy_80 kI_0 ?_
          refine ialdK hx hb hK hP 1 0 rfl rfl (vp_in_inb (by decide)) kN_0 dX9_goesBy_81 ?_
          refine lv_icmp_ge (tgt := 143) hx hb dX9_goesBy_82 (by decide) (fun c10 => ?_) (fun c10 => ?_)
          · have h := it_t c10 h
            exact J7 w5 _ _ _ hP hD hS (lv_sub hl [2] rfl) h
          · have h := it_f c10 h
            refine lv_iload_n hx hb dX9_goesBy_85 rfl (lv_at hl 1 rfl) ?_
            refine lv_iload_n hx hb dX9_goesBy_86 rfl (lv_at hl 0 rfl) ?_
            refine lv_ishr hx hb dX9_goesBy_87 ?_
            refine lv_iconst (v := 1) hx hb dX9_goesBy_88 kI_1 ?_
            refine lv_iand hx hb dX9_goesBy_89 ?_
            refine lv_iconst (v := 1) hx hb dX9_goesBy_90 kI_1 ?_
            refine lv_icmp_ne (tgt := 104) hx hb dX9_goesBy_91 (by decide) (fun c11 => ?_) (fun c11 => ?_)
            · have h := it_f c11 h
              refine lv_aload_n hx hb dX9_goesBy_104 rfl (lv_at hl 2 rfl) ?_
              refine lv_iload_n hx hb dX9_goesBy_105 rfl (lv_at hl 0 rfl) ?_
              obtain ⟨v12, hv12, h⟩ := bind_e h
              refine callRV (As := [.int x4]) (rest := []) (v0 := .int v12) hx hb hml hown hg (c_X9_stands l D cy a_t a_t_now (g_t_tape) (g_t_typed) (g_t_place) (g_t_isFault) (g_t_readLaw) (g_t_read) (g_t_undone) (g_t_undos) (g_t_aside) (g_t_coat) (g_t_bestCoats) (g_t_bestStand) (g_t_bestPaint) (g_t_kept) (g_t_keptUndos) (g_t_isKept) (g_t_lanes) (g_t_sizes) (g_t_items) (g_t_moved) w5 x4 v12 hv12) q_1067 q_1064 q_63 q_1066 q_32 hd_X9_stands ⟨(Nat.le_of_ble_eq_true rfl), (Nat.le_of_ble_eq_true rfl)⟩ hK hP [0, 1] rfl 0 9 rfl rfl rfl rfl rfl rfl hl.1 rfl (Nat.le_of_ble_eq_true rfl) dX9_goesBy_106 ?_
              refine lv_if_eq (tgt := 137) hx hb dX9_goesBy_109 (by decide) (fun c13 => ?_) (fun c13 => ?_)
              · have h := it_t c13 h
                obtain ⟨x14, ex14⟩ : ∃ y : Int32, y = x4 + 1 := ⟨_, rfl⟩
                have h := bnd_e ex14 h
                refine lv_iinc (v := x14) (lv' := [(3, .int x14), (2, .int x3), (0, .ref a_t)]) hx hb dX9_goesBy_137 hl (k := 0) rfl (inc_e kI_1 ex14) (by decide) rfl (fun ls hl => ?_)
                refine lv_goto (tgt := 75) hx hb dX9_goesBy_140 (by decide) ?_
                exact ih x14 w5 _ _ _ hP hD hS (lv_sub hl [0, 1, 2] rfl) h
              · have h := it_f c13 h
                refine lv_aload_n hx hb dX9_goesBy_112 rfl (lv_at hl 2 rfl) ?_
                refine lv_aload_n hx hb dX9_goesBy_113 rfl (lv_at hl 2 rfl) ?_
                refine lv_iload_n hx hb dX9_goesBy_114 rfl (lv_at hl 0 rfl) ?_
                obtain ⟨v15, hv15, h⟩ := bind_e h
                refine callRV (As := [.int x4]) (rest := [.ref a_t]) (v0 := .int v15) hx hb hml hown hg (c_X9_inchOf l D cy a_t a_t_now (g_t_tape) (g_t_typed) (g_t_place) (g_t_isFault) (g_t_readLaw) (g_t_read) (g_t_undone) (g_t_undos) (g_t_aside) (g_t_coat) (g_t_bestCoats) (g_t_bestStand) (g_t_bestPaint) (g_t_kept) (g_t_keptUndos) (g_t_isKept) (g_t_lanes) (g_t_sizes) (g_t_items) (g_t_moved) w5 x4 v15 hv15) q_1029 q_1026 q_63 q_1028 q_25 hd_X9_inchOf ⟨(Nat.le_of_ble_eq_true rfl), (Nat.le_of_ble_eq_true rfl)⟩ hK hP [0, 1] rfl 0 9 rfl rfl rfl rfl rfl rfl hl.1 rfl (Nat.le_of_ble_eq_true rfl) dX9_goesBy_115 ?_
                refine lv_iconst (v := 0) hx hb dX9_goesBy_118 kI_0 ?_
                obtain ⟨v16, hv16, h⟩ := bind_e h
                refine callRV (As := [.int v15, .int 0]) (rest := []) (v0 := .int v16) hx hb hml hown hg (c_X9_high l D cy a_t a_t_now (g_t_tape) (g_t_typed) (g_t_place) (g_t_isFault) (g_t_readLaw) (g_t_read) (g_t_undone) (g_t_undos) (g_t_aside) (g_t_coat) (g_t_bestCoats) (g_t_bestStand) (g_t_bestPaint) (g_t_kept) (g_t_keptUndos) (g_t_isKept) (g_t_lanes) (g_t_sizes) (g_t_items) (g_t_moved) w5 v15 0 v16 hv16) q_1085 q_1082 q_63 q_1084 q_34 hd_X9_high ⟨(Nat.le_of_ble_eq_true rfl), (Nat.le_of_ble_eq_true rfl)⟩ hK hP [0, 1] rfl 0 9 rfl rfl rfl rfl rfl rfl hl.1 rfl (Nat.le_of_ble_eq_true rfl) dX9_goesBy_119 ?_
                refine lv_if_le (tgt := 137) hx hb dX9_goesBy_122 (by decide) (fun c17 => ?_) (fun c17 => ?_)
                · have h := it_t c17 h
                  obtain ⟨x18, ex18⟩ : ∃ y : Int32, y = x4 + 1 := ⟨_, rfl⟩
                  have h := bnd_e ex18 h
                  refine lv_iinc (v := x18) (lv' := [(3, .int x18), (2, .int x3), (0, .ref a_t)]) hx hb dX9_goesBy_137 hl (k := 0) rfl (inc_e kI_1 ex18) (by decide) rfl (fun ls hl => ?_)
                  refine lv_goto (tgt := 75) hx hb dX9_goesBy_140 (by decide) ?_
                  exact ih x18 w5 _ _ _ hP hD hS (lv_sub hl [0, 1, 2] rfl) h
                · have h := it_f c17 h
                  refine lv_aload_n hx hb dX9_goesBy_125 rfl (lv_at hl 2 rfl) ?_
                  refine lv_iload_n hx hb dX9_goesBy_126 rfl (lv_at hl 0 rfl) ?_
                  refine lv_aload_n hx hb dX9_goesBy_127 rfl (lv_at hl 2 rfl) ?_
                  refine lv_iload_n hx hb dX9_goesBy_128 rfl (lv_at hl 0 rfl) ?_
                  obtain ⟨v19, hv19, h⟩ := bind_e h
                  refine callRV (As := [.int x4]) (rest := [.int x4, .ref a_t]) (v0 := .int v19) hx hb hml hown hg (c_X9_paintOf l D cy a_t a_t_now (g_t_tape) (g_t_typed) (g_t_place) (g_t_isFault) (g_t_readLaw) (g_t_read) (g_t_undone) (g_t_undos) (g_t_aside) (g_t_coat) (g_t_bestCoats) (g_t_bestStand) (g_t_bestPaint) (g_t_kept) (g_t_keptUndos) (g_t_isKept) (g_t_lanes) (g_t_sizes) (g_t_items) (g_t_moved) w5 x4 v19 hv19) q_1059 q_1056 q_63 q_1058 q_30 hd_X9_paintOf ⟨(Nat.le_of_ble_eq_true rfl), (Nat.le_of_ble_eq_true rfl)⟩ hK hP [0, 1] rfl 0 9 rfl rfl rfl rfl rfl rfl hl.1 rfl (Nat.le_of_ble_eq_true rfl) dX9_goesBy_129 ?_
                  refine lv_iconst (v := 1) hx hb dX9_goesBy_132 kI_1 ?_
                  refine lv_isub hx hb dX9_goesBy_133 ?_
                  obtain ⟨v20, hv20, h⟩ := bind_e h
                  refine callMV (As := [.int x4, .int (v19 - 1)]) (rest := []) (wr := []) (w2 := [(a_t, .inr (9, [.ref a_t_now, g_t_tape, g_t_typed, g_t_place, g_t_isFault, g_t_readLaw, g_t_read, g_t_undone, g_t_undos, g_t_aside, g_t_coat, g_t_bestCoats, g_t_bestStand, g_t_bestPaint, g_t_kept, g_t_keptUndos, g_t_isKept, g_t_lanes, g_t_sizes, g_t_items, g_t_moved])), (a_t_now, .inl (cy 0, 24, .inl v20))]) hx hb hml hown hg (c_X9_paints l D cy a_t a_t_now _ (g_t_tape) (g_t_typed) (g_t_place) (g_t_isFault) (g_t_readLaw) (g_t_read) (g_t_undone) (g_t_undos) (g_t_aside) (g_t_coat) (g_t_bestCoats) (g_t_bestStand) (g_t_bestPaint) (g_t_kept) (g_t_keptUndos) (g_t_isKept) (g_t_lanes) (g_t_sizes) (g_t_items) (g_t_moved) w5 x4 (v19 - 1) v20 hv20) q_1156 q_1153 q_63 q_1155 q_44 hd_X9_paints ⟨(Nat.le_of_ble_eq_true rfl), (Nat.le_of_ble_eq_true rfl)⟩ hK hP hD hS hA [0, 1] [] rfl rfl rfl rfl (by decide) [0, 1] rfl rfl 0 9 rfl rfl rfl rfl rfl rfl hl.1 rfl rfl (Nat.le_of_ble_eq_true rfl) dX9_goesBy_134 (fun H locs hP hD hS => ?_)
                  obtain ⟨x21, ex21⟩ : ∃ y : Int32, y = x4 + 1 := ⟨_, rfl⟩
                  have h := bnd_e ex21 h
                  refine lv_iinc (v := x21) (lv' := [(3, .int x21), (2, .int x3), (0, .ref a_t)]) hx hb dX9_goesBy_137 hl (k := 0) rfl (inc_e kI_1 ex21) (by decide) rfl (fun ls hl => ?_)
                  refine lv_goto (tgt := 75) hx hb dX9_goesBy_140 (by decide) ?_
                  exact ih x21 v20 _ _ _ hP hD hS (lv_sub hl [0, 1, 2] rfl) h
            · have h := it_t c11 h
              refine lv_aload_n hx hb dX9_goesBy_94 rfl (lv_at hl 2 rfl) ?_
              refine lv_iload_n hx hb dX9_goesBy_95 rfl (lv_at hl 0 rfl) ?_
              refine lv_bipush (v := (-4)) hx hb dX9_goesBy_96 kB_m4 ?_
              obtain ⟨v22, hv22, h⟩ := bind_e h
              refine callMV (As := [.int x4, .int (-4)]) (rest := []) (wr := []) (w2 := [(a_t, .inr (9, [.ref a_t_now, g_t_tape, g_t_typed, g_t_place, g_t_isFault, g_t_readLaw, g_t_read, g_t_undone, g_t_undos, g_t_aside, g_t_coat, g_t_bestCoats, g_t_bestStand, g_t_bestPaint, g_t_kept, g_t_keptUndos, g_t_isKept, g_t_lanes, g_t_sizes, g_t_items, g_t_moved])), (a_t_now, .inl (cy 0, 24, .inl v22))]) hx hb hml hown hg (c_X9_goesTo l D cy a_t a_t_now _ (g_t_tape) (g_t_typed) (g_t_place) (g_t_isFault) (g_t_readLaw) (g_t_read) (g_t_undone) (g_t_undos) (g_t_aside) (g_t_coat) (g_t_bestCoats) (g_t_bestStand) (g_t_bestPaint) (g_t_kept) (g_t_keptUndos) (g_t_isKept) (g_t_lanes) (g_t_sizes) (g_t_items) (g_t_moved) w5 x4 (-4) v22 hv22) q_1152 q_1149 q_63 q_1151 q_43 hd_X9_goesTo ⟨(Nat.le_of_ble_eq_true rfl), (Nat.le_of_ble_eq_true rfl)⟩ hK hP hD hS hA [0, 1] [] rfl rfl rfl rfl (by decide) [0, 1] rfl rfl 0 9 rfl rfl rfl rfl rfl rfl hl.1 rfl rfl (Nat.le_of_ble_eq_true rfl) dX9_goesBy_98 (fun H locs hP hD hS => ?_)
              refine lv_goto (tgt := 137) hx hb dX9_goesBy_101 (by decide) ?_
              obtain ⟨x23, ex23⟩ : ∃ y : Int32, y = x4 + 1 := ⟨_, rfl⟩
              have h := bnd_e ex23 h
              refine lv_iinc (v := x23) (lv' := [(3, .int x23), (2, .int x3), (0, .ref a_t)]) hx hb dX9_goesBy_137 hl (k := 0) rfl (inc_e kI_1 ex23) (by decide) rfl (fun ls hl => ?_)
              refine lv_goto (tgt := 75) hx hb dX9_goesBy_140 (by decide) ?_
              exact ih x23 v22 _ _ _ hP hD hS (lv_sub hl [0, 1, 2] rfl) h
    exact L8 F 0 t_now _ _ _ hP hD hS (lv_sub hl [0, 1, 2] rfl) h
  have L25 : ∀ (n25 : Nat) (x1 : Int32) (x2 : Int32) (H : Heap) (locs : List Loc) (ls : Array Slot), va_P D vwCl [(a_t, .inr (9, [.ref a_t_now, g_t_tape, g_t_typed, g_t_place, g_t_isFault, g_t_readLaw, g_t_read, g_t_undone, g_t_undos, g_t_aside, g_t_coat, g_t_bestCoats, g_t_bestStand, g_t_bestPaint, g_t_kept, g_t_keptUndos, g_t_isKept, g_t_lanes, g_t_sizes, g_t_items, g_t_moved])), (a_t_now, .inl (cy 0, 24, .inl t_now))] H → va_D A [(a_t, .inr (9, [.ref a_t_now, g_t_tape, g_t_typed, g_t_place, g_t_isFault, g_t_readLaw, g_t_read, g_t_undone, g_t_undos, g_t_aside, g_t_coat, g_t_bestCoats, g_t_bestStand, g_t_bestPaint, g_t_kept, g_t_keptUndos, g_t_isKept, g_t_lanes, g_t_sizes, g_t_items, g_t_moved])), (a_t_now, .inl (cy 0, 24, .inl t_now))] → va_S A s.heap H locs → lv_has ls 5 [(3, .int x1), (2, .int x2), (0, .ref a_t), (1, .int p0)] → m_X9_goesBy_L4 t_now p0 F k24 n25 x1 x2 = some out → W p l e (rmG 5 110) s m [.ref a_t, .int p0].toArray below meth c H locs 0 0 QQ (F0 m 4 ls []) := by
    intro n25
    induction n25 with
    | zero => intro x1 x2 H locs ls hP hD hS hl h; exact nomatch (show (none : Option ((Nat → Int32))) = some out from h)
    | succ n25 ih =>
        intro x1 x2 H locs ls hP hD hS hl h
        have h : m_X9_goesBy_L4s t_now p0 F k24 (m_X9_goesBy_L4 t_now p0 F k24 n25) x1 x2 = some out := h
        unfold m_X9_goesBy_L4s at h
        refine lv_iload_n hx hb dX9_goesBy_4 rfl (lv_at hl 0 rfl) ?_
        refine lv_aload_n hx hb dX9_goesBy_5 rfl (lv_at hl 2 rfl) ?_
        refine va_get (D := D) (ci := 9) (v := .ref a_t_now) (C := RX9) (T := TX9) (N := 21) hx hb hg inG_X9 hown hK hP 0 rfl rfl 0 (by decide) (hg _ q_945) (fun _ h9 => h9) rfl dX9_goesBy_6 ?_
        refine lv_iconst (v := 0) hx hb dX9_goesBy_9 kI_0 ?_
        refine ialdK hx hb hK hP 1 0 rfl rfl (vp_in_inb (by decide)) kN_0 dX9_goesBy_10 ?_
        refine lv_icmp_ge (tgt := 73) hx hb dX9_goesBy_11 (by decide) (fun c27 => ?_) (fun c27 => ?_)
        · have h := it_t c27 h
          exact J24 x2 _ _ _ hP hD hS (lv_sub hl [1, 2] rfl) h
        · have h := it_f c27 h
          refine lv_iload_n hx hb dX9_goesBy_14 rfl (lv_at hl 3 rfl) ?_
          refine lv_iload_n hx hb dX9_goesBy_15 rfl (lv_at hl 0 rfl) ?_
          refine lv_ishr hx hb dX9_goesBy_16 ?_
          refine lv_iconst (v := 1) hx hb dX9_goesBy_17 kI_1 ?_
          refine lv_iand hx hb dX9_goesBy_18 ?_
          refine lv_iconst (v := 1) hx hb dX9_goesBy_19 kI_1 ?_
          obtain ⟨k40, hk40, h⟩ := jn_e h
          have J40 : ∀ (x28 : Int32) (H : Heap) (locs : List Loc) (ls : Array Slot), va_P D vwCl [(a_t, .inr (9, [.ref a_t_now, g_t_tape, g_t_typed, g_t_place, g_t_isFault, g_t_readLaw, g_t_read, g_t_undone, g_t_undos, g_t_aside, g_t_coat, g_t_bestCoats, g_t_bestStand, g_t_bestPaint, g_t_kept, g_t_keptUndos, g_t_isKept, g_t_lanes, g_t_sizes, g_t_items, g_t_moved])), (a_t_now, .inl (cy 0, 24, .inl t_now))] H → va_D A [(a_t, .inr (9, [.ref a_t_now, g_t_tape, g_t_typed, g_t_place, g_t_isFault, g_t_readLaw, g_t_read, g_t_undone, g_t_undos, g_t_aside, g_t_coat, g_t_bestCoats, g_t_bestStand, g_t_bestPaint, g_t_kept, g_t_keptUndos, g_t_isKept, g_t_lanes, g_t_sizes, g_t_items, g_t_moved])), (a_t_now, .inl (cy 0, 24, .inl t_now))] → va_S A s.heap H locs → lv_has ls 5 [(3, .int x1), (2, .int x2), (0, .ref a_t), (1, .int p0)] → k40 x28 = some out → W p l e (rmG 5 110) s m [.ref a_t, .int p0].toArray below meth c H locs 0 0 QQ (F0 m 32 ls [.int x28]) := by
            intro x28 H locs ls hP hD hS hl h
            rw [hk40] at h
            refine lv_istore (lv' := [(4, .int x28), (3, .int x1), (2, .int x2), (0, .ref a_t), (1, .int p0)]) hx hb dX9_goesBy_32 hl (by decide) rfl (fun ls hl => ?_)
            refine lv_iload_n hx hb dX9_goesBy_34 rfl (lv_at hl 2 rfl) ?_
            refine lv_aload_n hx hb dX9_goesBy_35 rfl (lv_at hl 3 rfl) ?_
            refine lv_iload_n hx hb dX9_goesBy_36 rfl (lv_at hl 1 rfl) ?_
            obtain ⟨v29, hv29, h⟩ := bind_e h
            refine callRV (As := [.int x1]) (rest := [.int x2]) (v0 := .int v29) hx hb hml hown hg (c_X9_stands l D cy a_t a_t_now (g_t_tape) (g_t_typed) (g_t_place) (g_t_isFault) (g_t_readLaw) (g_t_read) (g_t_undone) (g_t_undos) (g_t_aside) (g_t_coat) (g_t_bestCoats) (g_t_bestStand) (g_t_bestPaint) (g_t_kept) (g_t_keptUndos) (g_t_isKept) (g_t_lanes) (g_t_sizes) (g_t_items) (g_t_moved) t_now x1 v29 hv29) q_1067 q_1064 q_63 q_1066 q_32 hd_X9_stands ⟨(Nat.le_of_ble_eq_true rfl), (Nat.le_of_ble_eq_true rfl)⟩ hK hP [0, 1] rfl 0 9 rfl rfl rfl rfl rfl rfl hl.1 rfl (Nat.le_of_ble_eq_true rfl) dX9_goesBy_37 ?_
            refine lv_if_eq (tgt := 64) hx hb dX9_goesBy_40 (by decide) (fun c30 => ?_) (fun c30 => ?_)
            · have h := it_t c30 h
              refine lv_iconst (v := 0) hx hb dX9_goesBy_64 kI_0 ?_
              refine lv_ior hx hb dX9_goesBy_65 ?_
              refine lv_topi (fun x31 ex31 => ?_)
              have h := bnd_e ex31 h
              refine lv_istore_n (lv' := [(2, .int x31), (4, .int x28), (3, .int x1), (0, .ref a_t), (1, .int p0)]) hx hb dX9_goesBy_66 rfl hl (by decide) rfl (fun ls hl => ?_)
              obtain ⟨x32, ex32⟩ : ∃ y : Int32, y = x1 + 1 := ⟨_, rfl⟩
              have h := bnd_e ex32 h
              refine lv_iinc (v := x32) (lv' := [(3, .int x32), (2, .int x31), (4, .int x28), (0, .ref a_t), (1, .int p0)]) hx hb dX9_goesBy_67 hl (k := 2) rfl (inc_e kI_1 ex32) (by decide) rfl (fun ls hl => ?_)
              refine lv_goto (tgt := 4) hx hb dX9_goesBy_70 (by decide) ?_
              exact ih x32 x31 _ _ _ hP hD hS (lv_sub hl [0, 1, 3, 4] rfl) h
            · have h := it_f c30 h
              refine lv_iload hx hb dX9_goesBy_43 (lv_at hl 0 rfl) ?_
              refine lv_aload_n hx hb dX9_goesBy_45 rfl (lv_at hl 3 rfl) ?_
              refine lv_aload_n hx hb dX9_goesBy_46 rfl (lv_at hl 3 rfl) ?_
              refine lv_iload_n hx hb dX9_goesBy_47 rfl (lv_at hl 1 rfl) ?_
              obtain ⟨v33, hv33, h⟩ := bind_e h
              refine callRV (As := [.int x1]) (rest := [.ref a_t, .int x28, .int x2]) (v0 := .int v33) hx hb hml hown hg (c_X9_inchOf l D cy a_t a_t_now (g_t_tape) (g_t_typed) (g_t_place) (g_t_isFault) (g_t_readLaw) (g_t_read) (g_t_undone) (g_t_undos) (g_t_aside) (g_t_coat) (g_t_bestCoats) (g_t_bestStand) (g_t_bestPaint) (g_t_kept) (g_t_keptUndos) (g_t_isKept) (g_t_lanes) (g_t_sizes) (g_t_items) (g_t_moved) t_now x1 v33 hv33) q_1029 q_1026 q_63 q_1028 q_25 hd_X9_inchOf ⟨(Nat.le_of_ble_eq_true rfl), (Nat.le_of_ble_eq_true rfl)⟩ hK hP [0, 1] rfl 0 9 rfl rfl rfl rfl rfl rfl hl.1 rfl (Nat.le_of_ble_eq_true rfl) dX9_goesBy_48 ?_
              refine lv_iconst (v := 0) hx hb dX9_goesBy_51 kI_0 ?_
              obtain ⟨v34, hv34, h⟩ := bind_e h
              refine callRV (As := [.int v33, .int 0]) (rest := [.int x28, .int x2]) (v0 := .int v34) hx hb hml hown hg (c_X9_high l D cy a_t a_t_now (g_t_tape) (g_t_typed) (g_t_place) (g_t_isFault) (g_t_readLaw) (g_t_read) (g_t_undone) (g_t_undos) (g_t_aside) (g_t_coat) (g_t_bestCoats) (g_t_bestStand) (g_t_bestPaint) (g_t_kept) (g_t_keptUndos) (g_t_isKept) (g_t_lanes) (g_t_sizes) (g_t_items) (g_t_moved) t_now v33 0 v34 hv34) q_1085 q_1082 q_63 q_1084 q_34 hd_X9_high ⟨(Nat.le_of_ble_eq_true rfl), (Nat.le_of_ble_eq_true rfl)⟩ hK hP [0, 1] rfl 0 9 rfl rfl rfl rfl rfl rfl hl.1 rfl (Nat.le_of_ble_eq_true rfl) dX9_goesBy_52 ?_
              refine lv_icmp_ge (tgt := 64) hx hb dX9_goesBy_55 (by decide) (fun c35 => ?_) (fun c35 => ?_)
              · have h := it_t c35 h
                refine lv_iconst (v := 0) hx hb dX9_goesBy_64 kI_0 ?_
                refine lv_ior hx hb dX9_goesBy_65 ?_
                refine lv_topi (fun x36 ex36 => ?_)
                have h := bnd_e ex36 h
                refine lv_istore_n (lv' := [(2, .int x36), (4, .int x28), (3, .int x1), (0, .ref a_t), (1, .int p0)]) hx hb dX9_goesBy_66 rfl hl (by decide) rfl (fun ls hl => ?_)
                obtain ⟨x37, ex37⟩ : ∃ y : Int32, y = x1 + 1 := ⟨_, rfl⟩
                have h := bnd_e ex37 h
                refine lv_iinc (v := x37) (lv' := [(3, .int x37), (2, .int x36), (4, .int x28), (0, .ref a_t), (1, .int p0)]) hx hb dX9_goesBy_67 hl (k := 2) rfl (inc_e kI_1 ex37) (by decide) rfl (fun ls hl => ?_)
                refine lv_goto (tgt := 4) hx hb dX9_goesBy_70 (by decide) ?_
                exact ih x37 x36 _ _ _ hP hD hS (lv_sub hl [0, 1, 3, 4] rfl) h
              · have h := it_f c35 h
                refine lv_iconst (v := 1) hx hb dX9_goesBy_58 kI_1 ?_
                refine lv_iload_n hx hb dX9_goesBy_59 rfl (lv_at hl 1 rfl) ?_
                refine lv_ishl hx hb dX9_goesBy_60 ?_
                refine lv_goto (tgt := 65) hx hb dX9_goesBy_61 (by decide) ?_
                refine lv_ior hx hb dX9_goesBy_65 ?_
                refine lv_topi (fun x38 ex38 => ?_)
                have h := bnd_e ex38 h
                refine lv_istore_n (lv' := [(2, .int x38), (4, .int x28), (3, .int x1), (0, .ref a_t), (1, .int p0)]) hx hb dX9_goesBy_66 rfl hl (by decide) rfl (fun ls hl => ?_)
                obtain ⟨x39, ex39⟩ : ∃ y : Int32, y = x1 + 1 := ⟨_, rfl⟩
                have h := bnd_e ex39 h
                refine lv_iinc (v := x39) (lv' := [(3, .int x39), (2, .int x38), (4, .int x28), (0, .ref a_t), (1, .int p0)]) hx hb dX9_goesBy_67 hl (k := 2) rfl (inc_e kI_1 ex39) (by decide) rfl (fun ls hl => ?_)
                refine lv_goto (tgt := 4) hx hb dX9_goesBy_70 (by decide) ?_
                exact ih x39 x38 _ _ _ hP hD hS (lv_sub hl [0, 1, 3, 4] rfl) h
          refine lv_icmp_ne (tgt := 27) hx hb dX9_goesBy_20 (by decide) (fun c41 => ?_) (fun c41 => ?_)
          · have h := it_f c41 h
            refine lv_aload_n hx hb dX9_goesBy_27 rfl (lv_at hl 2 rfl) ?_
            refine lv_iload_n hx hb dX9_goesBy_28 rfl (lv_at hl 0 rfl) ?_
            obtain ⟨v42, hv42, h⟩ := bind_e h
            refine callRV (As := [.int x1]) (rest := []) (v0 := .int v42) hx hb hml hown hg (c_X9_grip l D cy a_t a_t_now (g_t_tape) (g_t_typed) (g_t_place) (g_t_isFault) (g_t_readLaw) (g_t_read) (g_t_undone) (g_t_undos) (g_t_aside) (g_t_coat) (g_t_bestCoats) (g_t_bestStand) (g_t_bestPaint) (g_t_kept) (g_t_keptUndos) (g_t_isKept) (g_t_lanes) (g_t_sizes) (g_t_items) (g_t_moved) t_now x1 F v42 hv42) q_1055 q_1052 q_63 q_1054 q_29 hd_X9_grip ⟨(Nat.le_of_ble_eq_true rfl), (Nat.le_of_ble_eq_true rfl)⟩ hK hP [0, 1] rfl 0 9 rfl rfl rfl rfl rfl rfl hl.1 rfl (Nat.le_of_ble_eq_true rfl) dX9_goesBy_29 ?_
            exact J40 v42 _ _ _ hP hD hS (lv_sub hl [0, 1, 2, 3] rfl) h
          · have h := it_t c41 h
            refine lv_iconst (v := 0) hx hb dX9_goesBy_23 kI_0 ?_
            refine lv_goto (tgt := 32) hx hb dX9_goesBy_24 (by decide) ?_
            exact J40 0 _ _ _ hP hD hS (lv_sub hl [0, 1, 2, 3] rfl) h
  exact L25 F 0 0 _ _ _ hP hD hS (lv_sub hl [0, 1, 2, 3] rfl) h

def m_X9_goesOn_L2s (p0 : Int32) (F : Nat) (k4 : (Nat → Int32) → Option ((Nat → Int32))) (r6 : Int32 → (Nat → Int32) → Option ((Nat → Int32))) (x1 : Int32) (w2 : Nat → Int32) : Option ((Nat → Int32)) := (if p0 ≤ x1 then k4 w2 else (m_X9_goesBy F w2 0).bind (fun v8 => bnd (x1 + 1) (fun x9 => r6 x9 v8)))
def m_X9_goesOn_L2 (p0 : Int32) (F : Nat) (k4 : (Nat → Int32) → Option ((Nat → Int32))) : Nat → Int32 → (Nat → Int32) → Option ((Nat → Int32))
  | 0 => fun _ _ => none
  | nF + 1 => m_X9_goesOn_L2s p0 F k4 (m_X9_goesOn_L2 p0 F k4 nF)
def m_X9_goesOn (F : Nat) (t_now : Nat → Int32) (p0 : Int32) : Option ((Nat → Int32)) := m_X9_goesOn_L2 p0 F (fun (w3 : Nat → Int32) => some w3) F 0 t_now
set_option maxHeartbeats 4000000 in
set_option maxRecDepth 100000 in
theorem c_X9_goesOn (l : Launch) (D : va_G) (cy : Nat → ClassId) (a_t : Nat) (a_t_now : Nat) (sz : Nat) (g_t_tape : Value) (g_t_typed : Value) (g_t_place : Value) (g_t_isFault : Value) (g_t_readLaw : Value) (g_t_read : Value) (g_t_undone : Value) (g_t_undos : Value) (g_t_aside : Value) (g_t_coat : Value) (g_t_bestCoats : Value) (g_t_bestStand : Value) (g_t_bestPaint : Value) (g_t_kept : Value) (g_t_keptUndos : Value) (g_t_isKept : Value) (g_t_lanes : Value) (g_t_sizes : Value) (g_t_items : Value) (g_t_moved : Value) (t_now : Nat → Int32) (p0 : Int32) (F : Nat) (out : (Nat → Int32)) (h : m_X9_goesOn F t_now p0 = some out) : MetM l D cy yX9_goesOn cX9_goesOn 3 none (rmG 6 134) [.ref a_t, .int p0] sz [(a_t, .inr (9, [.ref a_t_now, g_t_tape, g_t_typed, g_t_place, g_t_isFault, g_t_readLaw, g_t_read, g_t_undone, g_t_undos, g_t_aside, g_t_coat, g_t_bestCoats, g_t_bestStand, g_t_bestPaint, g_t_kept, g_t_keptUndos, g_t_isKept, g_t_lanes, g_t_sizes, g_t_items, g_t_moved])), (a_t_now, .inl (cy 0, 24, .inl t_now))] none [(a_t, .inr (9, [.ref a_t_now, g_t_tape, g_t_typed, g_t_place, g_t_isFault, g_t_readLaw, g_t_read, g_t_undone, g_t_undos, g_t_aside, g_t_coat, g_t_bestCoats, g_t_bestStand, g_t_bestPaint, g_t_kept, g_t_keptUndos, g_t_isKept, g_t_lanes, g_t_sizes, g_t_items, g_t_moved])), (a_t_now, .inl (cy 0, 24, .inl out))] := by
  refine startMv (own := RX9) (by decide) rfl (Nat.le_of_ble_eq_true rfl) ?_
  intro p e s m below meth c QQ A hx hb hml hown hg hK hP hD hS hA hret ls hl
  have hl : lv_has ls 3 [(0, .ref a_t), (1, .int p0)] := hl
  unfold m_X9_goesOn at h
  refine lv_iconst (v := 0) hx hb dX9_goesOn_0 kI_0 ?_
  refine lv_istore_n (lv' := [(2, .int 0), (0, .ref a_t), (1, .int p0)]) hx hb dX9_goesOn_1 rfl hl (by decide) rfl (fun ls hl => ?_)
  obtain ⟨k4, hk4, h⟩ := kap (fun z => m_X9_goesOn_L2 p0 F z F 0 t_now) h
  have J4 : ∀ (w3 : Nat → Int32) (H : Heap) (locs : List Loc) (ls : Array Slot), va_P D vwCl [(a_t, .inr (9, [.ref a_t_now, g_t_tape, g_t_typed, g_t_place, g_t_isFault, g_t_readLaw, g_t_read, g_t_undone, g_t_undos, g_t_aside, g_t_coat, g_t_bestCoats, g_t_bestStand, g_t_bestPaint, g_t_kept, g_t_keptUndos, g_t_isKept, g_t_lanes, g_t_sizes, g_t_items, g_t_moved])), (a_t_now, .inl (cy 0, 24, .inl w3))] H → va_D A [(a_t, .inr (9, [.ref a_t_now, g_t_tape, g_t_typed, g_t_place, g_t_isFault, g_t_readLaw, g_t_read, g_t_undone, g_t_undos, g_t_aside, g_t_coat, g_t_bestCoats, g_t_bestStand, g_t_bestPaint, g_t_kept, g_t_keptUndos, g_t_isKept, g_t_lanes, g_t_sizes, g_t_items, g_t_moved])), (a_t_now, .inl (cy 0, 24, .inl w3))] → va_S A s.heap H locs → lv_has ls 3 [] → k4 w3 = some out → W p l e (rmG 6 134) s m [.ref a_t, .int p0].toArray below meth c H locs 0 0 QQ (F0 m 18 ls []) := by
    intro w3 H locs ls hP hD hS hl h
    rw [hk4] at h
    exact hret _ _ _ ls 18 dX9_goesOn_18 (by rw [← Option.some.inj h]) hP hD hS
  have L5 : ∀ (n5 : Nat) (x1 : Int32) (w2 : Nat → Int32) (H : Heap) (locs : List Loc) (ls : Array Slot), va_P D vwCl [(a_t, .inr (9, [.ref a_t_now, g_t_tape, g_t_typed, g_t_place, g_t_isFault, g_t_readLaw, g_t_read, g_t_undone, g_t_undos, g_t_aside, g_t_coat, g_t_bestCoats, g_t_bestStand, g_t_bestPaint, g_t_kept, g_t_keptUndos, g_t_isKept, g_t_lanes, g_t_sizes, g_t_items, g_t_moved])), (a_t_now, .inl (cy 0, 24, .inl w2))] H → va_D A [(a_t, .inr (9, [.ref a_t_now, g_t_tape, g_t_typed, g_t_place, g_t_isFault, g_t_readLaw, g_t_read, g_t_undone, g_t_undos, g_t_aside, g_t_coat, g_t_bestCoats, g_t_bestStand, g_t_bestPaint, g_t_kept, g_t_keptUndos, g_t_isKept, g_t_lanes, g_t_sizes, g_t_items, g_t_moved])), (a_t_now, .inl (cy 0, 24, .inl w2))] → va_S A s.heap H locs → lv_has ls 3 [(2, .int x1), (0, .ref a_t), (1, .int p0)] → m_X9_goesOn_L2 p0 F k4 n5 x1 w2 = some out → W p l e (rmG 6 134) s m [.ref a_t, .int p0].toArray below meth c H locs 0 0 QQ (F0 m 2 ls []) := by
    intro n5
    induction n5 with
    | zero => intro x1 w2 H locs ls hP hD hS hl h; exact nomatch (show (none : Option ((Nat → Int32))) = some out from h)
    | succ n5 ih =>
        intro x1 w2 H locs ls hP hD hS hl h
        have h : m_X9_goesOn_L2s p0 F k4 (m_X9_goesOn_L2 p0 F k4 n5) x1 w2 = some out := h
        unfold m_X9_goesOn_L2s at h
        refine lv_iload_n hx hb dX9_goesOn_2 rfl (lv_at hl 0 rfl) ?_
        refine lv_iload_n hx hb dX9_goesOn_3 rfl (lv_at hl 2 rfl) ?_
        refine lv_icmp_ge (tgt := 18) hx hb dX9_goesOn_4 (by decide) (fun c7 => ?_) (fun c7 => ?_)
        · have h := it_t c7 h
          exact J4 w2 _ _ _ hP hD hS (lv_sub hl [] rfl) h
        · have h := it_f c7 h
          refine lv_aload_n hx hb dX9_goesOn_7 rfl (lv_at hl 1 rfl) ?_
          refine lv_iconst (v := 0) hx hb dX9_goesOn_8 kI_0 ?_
          obtain ⟨v8, hv8, h⟩ := bind_e h
          refine callMV (As := [.int 0]) (rest := []) (wr := []) (w2 := [(a_t, .inr (9, [.ref a_t_now, g_t_tape, g_t_typed, g_t_place, g_t_isFault, g_t_readLaw, g_t_read, g_t_undone, g_t_undos, g_t_aside, g_t_coat, g_t_bestCoats, g_t_bestStand, g_t_bestPaint, g_t_kept, g_t_keptUndos, g_t_isKept, g_t_lanes, g_t_sizes, g_t_items, g_t_moved])), (a_t_now, .inl (cy 0, 24, .inl v8))]) hx hb hml hown hg (c_X9_goesBy l D cy a_t a_t_now _ (g_t_tape) (g_t_typed) (g_t_place) (g_t_isFault) (g_t_readLaw) (g_t_read) (g_t_undone) (g_t_undos) (g_t_aside) (g_t_coat) (g_t_bestCoats) (g_t_bestStand) (g_t_bestPaint) (g_t_kept) (g_t_keptUndos) (g_t_isKept) (g_t_lanes) (g_t_sizes) (g_t_items) (g_t_moved) w2 0 F v8 hv8) q_1148 q_1145 q_63 q_1147 q_42 hd_X9_goesBy ⟨(Nat.le_of_ble_eq_true rfl), (Nat.le_of_ble_eq_true rfl)⟩ hK hP hD hS hA [0, 1] [] rfl rfl rfl rfl (by decide) [0, 1] rfl rfl 0 9 rfl rfl rfl rfl rfl rfl hl.1 rfl rfl (Nat.le_of_ble_eq_true rfl) dX9_goesOn_9 (fun H locs hP hD hS => ?_)
          obtain ⟨x9, ex9⟩ : ∃ y : Int32, y = x1 + 1 := ⟨_, rfl⟩
          have h := bnd_e ex9 h
          refine lv_iinc (v := x9) (lv' := [(2, .int x9), (0, .ref a_t), (1, .int p0)]) hx hb dX9_goesOn_12 hl (k := 0) rfl (inc_e kI_1 ex9) (by decide) rfl (fun ls hl => ?_)
          refine lv_goto (tgt := 2) hx hb dX9_goesOn_15 (by decide) ?_
          exact ih x9 v8 _ _ _ hP hD hS (lv_sub hl [0, 1, 2] rfl) h
  exact L5 F 0 t_now _ _ _ hP hD hS (lv_sub hl [0, 1, 2] rfl) h

def m_X9_manComes (t_now : Nat → Int32) (t_undos : Int32) (p0 : Int32) (p1 : Int32) (p2 : Int32) : Option ((Nat → Int32) × Int32) := bnd (6 + (3 * (t_now 0))) (fun x1 => chk x1 24 (chk (x1 + 1) 24 (chk (x1 + 2) 24 (some (upd (upd (upd (upd t_now x1.toNatClampNeg p0) (x1 + 1).toNatClampNeg p1) (x1 + 2).toNatClampNeg p2) 0 (((upd (upd (upd t_now x1.toNatClampNeg p0) (x1 + 1).toNatClampNeg p1) (x1 + 2).toNatClampNeg p2) 0) + 1), 0)))))
set_option maxHeartbeats 4000000 in
set_option maxRecDepth 100000 in
theorem c_X9_manComes (l : Launch) (D : va_G) (cy : Nat → ClassId) (a_t : Nat) (a_t_now : Nat) (sz : Nat) (g_t_tape : Value) (g_t_typed : Value) (g_t_place : Value) (g_t_isFault : Value) (g_t_readLaw : Value) (g_t_read : Value) (g_t_undone : Value) (g_t_aside : Value) (g_t_coat : Value) (g_t_bestCoats : Value) (g_t_bestStand : Value) (g_t_bestPaint : Value) (g_t_kept : Value) (g_t_keptUndos : Value) (g_t_isKept : Value) (g_t_lanes : Value) (g_t_sizes : Value) (g_t_items : Value) (g_t_moved : Value) (t_now : Nat → Int32) (t_undos : Int32) (p0 : Int32) (p1 : Int32) (p2 : Int32) (out : (Nat → Int32) × Int32) (h : m_X9_manComes t_now t_undos p0 p1 p2 = some out) : MetM l D cy yX9_manComes cX9_manComes 5 none (rmG 0 0) [.ref a_t, .int p0, .int p1, .int p2] sz [(a_t, .inr (9, [.ref a_t_now, g_t_tape, g_t_typed, g_t_place, g_t_isFault, g_t_readLaw, g_t_read, g_t_undone, .int t_undos, g_t_aside, g_t_coat, g_t_bestCoats, g_t_bestStand, g_t_bestPaint, g_t_kept, g_t_keptUndos, g_t_isKept, g_t_lanes, g_t_sizes, g_t_items, g_t_moved])), (a_t_now, .inl (cy 0, 24, .inl t_now))] none [(a_t, .inr (9, [.ref a_t_now, g_t_tape, g_t_typed, g_t_place, g_t_isFault, g_t_readLaw, g_t_read, g_t_undone, .int out.2, g_t_aside, g_t_coat, g_t_bestCoats, g_t_bestStand, g_t_bestPaint, g_t_kept, g_t_keptUndos, g_t_isKept, g_t_lanes, g_t_sizes, g_t_items, g_t_moved])), (a_t_now, .inl (cy 0, 24, .inl out.1))] := by
  refine startMv (own := RX9) (by decide) rfl (Nat.le_of_ble_eq_true rfl) ?_
  intro p e s m below meth c QQ A hx hb hml hown hg hK hP hD hS hA hret ls hl
  have hl : lv_has ls 5 [(0, .ref a_t), (1, .int p0), (2, .int p1), (3, .int p2)] := hl
  unfold m_X9_manComes at h
  refine lv_bipush (v := 6) hx hb dX9_manComes_0 kB_6 ?_
  refine lv_iconst (v := 3) hx hb dX9_manComes_2 kI_3 ?_
  refine lv_aload_n hx hb dX9_manComes_3 rfl (lv_at hl 0 rfl) ?_
  refine va_get (D := D) (ci := 9) (v := .ref a_t_now) (C := RX9) (T := TX9) (N := 21) hx hb hg inG_X9 hown hK hP 0 rfl rfl 0 (by decide) (hg _ q_945) (fun _ h9 => h9) rfl dX9_manComes_4 ?_
  refine lv_iconst (v := 0) hx hb dX9_manComes_7 kI_0 ?_
  refine ialdK hx hb hK hP 1 0 rfl rfl (vp_in_inb (by decide)) kN_0 dX9_manComes_8 ?_
  refine lv_imul hx hb dX9_manComes_9 ?_
  refine lv_iadd hx hb dX9_manComes_10 ?_
  refine lv_topi (fun x1 ex1 => ?_)
  have h := bnd_e ex1 h
  refine lv_istore (lv' := [(4, .int x1), (0, .ref a_t), (1, .int p0), (2, .int p1), (3, .int p2)]) hx hb dX9_manComes_11 hl (by decide) rfl (fun ls hl => ?_)
  refine lv_aload_n hx hb dX9_manComes_13 rfl (lv_at hl 1 rfl) ?_
  refine va_get (D := D) (ci := 9) (v := .ref a_t_now) (C := RX9) (T := TX9) (N := 21) hx hb hg inG_X9 hown hK hP 0 rfl rfl 0 (by decide) (hg _ q_945) (fun _ h9 => h9) rfl dX9_manComes_14 ?_
  refine lv_iload hx hb dX9_manComes_17 (lv_at hl 0 rfl) ?_
  refine lv_iload_n hx hb dX9_manComes_19 rfl (lv_at hl 2 rfl) ?_
  obtain ⟨hi2, h⟩ := chk_e h
  refine va_iast hx hb hK hP hD hS 1 0 rfl rfl hi2 dX9_manComes_20 (fun H locs hP hD hS => ?_)
  have hP : va_P D vwCl [(a_t, .inr (9, [.ref a_t_now, g_t_tape, g_t_typed, g_t_place, g_t_isFault, g_t_readLaw, g_t_read, g_t_undone, .int t_undos, g_t_aside, g_t_coat, g_t_bestCoats, g_t_bestStand, g_t_bestPaint, g_t_kept, g_t_keptUndos, g_t_isKept, g_t_lanes, g_t_sizes, g_t_items, g_t_moved])), (a_t_now, .inl (cy 0, 24, .inl (upd t_now x1.toNatClampNeg p0)))] H := hP
  have hD : va_D A [(a_t, .inr (9, [.ref a_t_now, g_t_tape, g_t_typed, g_t_place, g_t_isFault, g_t_readLaw, g_t_read, g_t_undone, .int t_undos, g_t_aside, g_t_coat, g_t_bestCoats, g_t_bestStand, g_t_bestPaint, g_t_kept, g_t_keptUndos, g_t_isKept, g_t_lanes, g_t_sizes, g_t_items, g_t_moved])), (a_t_now, .inl (cy 0, 24, .inl (upd t_now x1.toNatClampNeg p0)))] := hD
  refine lv_aload_n hx hb dX9_manComes_21 rfl (lv_at hl 1 rfl) ?_
  refine va_get (D := D) (ci := 9) (v := .ref a_t_now) (C := RX9) (T := TX9) (N := 21) hx hb hg inG_X9 hown hK hP 0 rfl rfl 0 (by decide) (hg _ q_945) (fun _ h9 => h9) rfl dX9_manComes_22 ?_
  refine lv_iload hx hb dX9_manComes_25 (lv_at hl 0 rfl) ?_
  refine lv_iconst (v := 1) hx hb dX9_manComes_27 kI_1 ?_
  refine lv_iadd hx hb dX9_manComes_28 ?_
  refine lv_iload_n hx hb dX9_manComes_29 rfl (lv_at hl 3 rfl) ?_
  obtain ⟨hi3, h⟩ := chk_e h
  refine va_iast hx hb hK hP hD hS 1 0 rfl rfl hi3 dX9_manComes_30 (fun H locs hP hD hS => ?_)
  have hP : va_P D vwCl [(a_t, .inr (9, [.ref a_t_now, g_t_tape, g_t_typed, g_t_place, g_t_isFault, g_t_readLaw, g_t_read, g_t_undone, .int t_undos, g_t_aside, g_t_coat, g_t_bestCoats, g_t_bestStand, g_t_bestPaint, g_t_kept, g_t_keptUndos, g_t_isKept, g_t_lanes, g_t_sizes, g_t_items, g_t_moved])), (a_t_now, .inl (cy 0, 24, .inl (upd (upd t_now x1.toNatClampNeg p0) (x1 + 1).toNatClampNeg p1)))] H := hP
  have hD : va_D A [(a_t, .inr (9, [.ref a_t_now, g_t_tape, g_t_typed, g_t_place, g_t_isFault, g_t_readLaw, g_t_read, g_t_undone, .int t_undos, g_t_aside, g_t_coat, g_t_bestCoats, g_t_bestStand, g_t_bestPaint, g_t_kept, g_t_keptUndos, g_t_isKept, g_t_lanes, g_t_sizes, g_t_items, g_t_moved])), (a_t_now, .inl (cy 0, 24, .inl (upd (upd t_now x1.toNatClampNeg p0) (x1 + 1).toNatClampNeg p1)))] := hD
  refine lv_aload_n hx hb dX9_manComes_31 rfl (lv_at hl 1 rfl) ?_
  refine va_get (D := D) (ci := 9) (v := .ref a_t_now) (C := RX9) (T := TX9) (N := 21) hx hb hg inG_X9 hown hK hP 0 rfl rfl 0 (by decide) (hg _ q_945) (fun _ h9 => h9) rfl dX9_manComes_32 ?_
  refine lv_iload hx hb dX9_manComes_35 (lv_at hl 0 rfl) ?_
  refine lv_iconst (v := 2) hx hb dX9_manComes_37 kI_2 ?_
  refine lv_iadd hx hb dX9_manComes_38 ?_
  refine lv_iload_n hx hb dX9_manComes_39 rfl (lv_at hl 4 rfl) ?_
  obtain ⟨hi4, h⟩ := chk_e h
  refine va_iast hx hb hK hP hD hS 1 0 rfl rfl hi4 dX9_manComes_40 (fun H locs hP hD hS => ?_)
  have hP : va_P D vwCl [(a_t, .inr (9, [.ref a_t_now, g_t_tape, g_t_typed, g_t_place, g_t_isFault, g_t_readLaw, g_t_read, g_t_undone, .int t_undos, g_t_aside, g_t_coat, g_t_bestCoats, g_t_bestStand, g_t_bestPaint, g_t_kept, g_t_keptUndos, g_t_isKept, g_t_lanes, g_t_sizes, g_t_items, g_t_moved])), (a_t_now, .inl (cy 0, 24, .inl (upd (upd (upd t_now x1.toNatClampNeg p0) (x1 + 1).toNatClampNeg p1) (x1 + 2).toNatClampNeg p2)))] H := hP
  have hD : va_D A [(a_t, .inr (9, [.ref a_t_now, g_t_tape, g_t_typed, g_t_place, g_t_isFault, g_t_readLaw, g_t_read, g_t_undone, .int t_undos, g_t_aside, g_t_coat, g_t_bestCoats, g_t_bestStand, g_t_bestPaint, g_t_kept, g_t_keptUndos, g_t_isKept, g_t_lanes, g_t_sizes, g_t_items, g_t_moved])), (a_t_now, .inl (cy 0, 24, .inl (upd (upd (upd t_now x1.toNatClampNeg p0) (x1 + 1).toNatClampNeg p1) (x1 + 2).toNatClampNeg p2)))] := hD
  refine lv_aload_n hx hb dX9_manComes_41 rfl (lv_at hl 1 rfl) ?_
  refine va_get (D := D) (ci := 9) (v := .ref a_t_now) (C := RX9) (T := TX9) (N := 21) hx hb hg inG_X9 hown hK hP 0 rfl rfl 0 (by decide) (hg _ q_945) (fun _ h9 => h9) rfl dX9_manComes_42 ?_
  refine lv_iconst (v := 0) hx hb dX9_manComes_45 kI_0 ?_
  refine lv_dup2_11 hx hb dX9_manComes_46 rfl rfl ?_
  refine ialdK hx hb hK hP 1 0 rfl rfl (vp_in_inb (by decide)) kN_0 dX9_manComes_47 ?_
  refine lv_iconst (v := 1) hx hb dX9_manComes_48 kI_1 ?_
  refine lv_iadd hx hb dX9_manComes_49 ?_
  refine iastK hx hb hK hP hD hS 1 0 rfl rfl (vp_in_inb (by decide)) kN_0 dX9_manComes_50 (fun H locs hP hD hS => ?_)
  have hP : va_P D vwCl [(a_t, .inr (9, [.ref a_t_now, g_t_tape, g_t_typed, g_t_place, g_t_isFault, g_t_readLaw, g_t_read, g_t_undone, .int t_undos, g_t_aside, g_t_coat, g_t_bestCoats, g_t_bestStand, g_t_bestPaint, g_t_kept, g_t_keptUndos, g_t_isKept, g_t_lanes, g_t_sizes, g_t_items, g_t_moved])), (a_t_now, .inl (cy 0, 24, .inl (upd (upd (upd (upd t_now x1.toNatClampNeg p0) (x1 + 1).toNatClampNeg p1) (x1 + 2).toNatClampNeg p2) 0 (((upd (upd (upd t_now x1.toNatClampNeg p0) (x1 + 1).toNatClampNeg p1) (x1 + 2).toNatClampNeg p2) 0) + 1))))] H := hP
  have hD : va_D A [(a_t, .inr (9, [.ref a_t_now, g_t_tape, g_t_typed, g_t_place, g_t_isFault, g_t_readLaw, g_t_read, g_t_undone, .int t_undos, g_t_aside, g_t_coat, g_t_bestCoats, g_t_bestStand, g_t_bestPaint, g_t_kept, g_t_keptUndos, g_t_isKept, g_t_lanes, g_t_sizes, g_t_items, g_t_moved])), (a_t_now, .inl (cy 0, 24, .inl (upd (upd (upd (upd t_now x1.toNatClampNeg p0) (x1 + 1).toNatClampNeg p1) (x1 + 2).toNatClampNeg p2) 0 (((upd (upd (upd t_now x1.toNatClampNeg p0) (x1 + 1).toNatClampNeg p1) (x1 + 2).toNatClampNeg p2) 0) + 1))))] := hD
  refine lv_aload_n hx hb dX9_manComes_51 rfl (lv_at hl 1 rfl) ?_
  refine lv_iconst (v := 0) hx hb dX9_manComes_52 kI_0 ?_
  refine va_put (D := D) (ci := 9) (v := .int 0) (ty := .int) (C := RX9) (T := TX9) (N := 21) hx hb hg inG_X9 tyX9 tyX9_ok nmX9 hown hK hP hD hS 0 rfl rfl 8 (by decide) (hg _ q_953) (fun _ h9 => h9) rfl (tyX9_ok 8 (by decide)) rfl rfl (Nat.le_of_ble_eq_true rfl) dX9_manComes_53 (fun H locs hP hD hS => ?_)
  have hP : va_P D vwCl [(a_t, .inr (9, [.ref a_t_now, g_t_tape, g_t_typed, g_t_place, g_t_isFault, g_t_readLaw, g_t_read, g_t_undone, .int 0, g_t_aside, g_t_coat, g_t_bestCoats, g_t_bestStand, g_t_bestPaint, g_t_kept, g_t_keptUndos, g_t_isKept, g_t_lanes, g_t_sizes, g_t_items, g_t_moved])), (a_t_now, .inl (cy 0, 24, .inl (upd (upd (upd (upd t_now x1.toNatClampNeg p0) (x1 + 1).toNatClampNeg p1) (x1 + 2).toNatClampNeg p2) 0 (((upd (upd (upd t_now x1.toNatClampNeg p0) (x1 + 1).toNatClampNeg p1) (x1 + 2).toNatClampNeg p2) 0) + 1))))] H := hP
  have hD : va_D A [(a_t, .inr (9, [.ref a_t_now, g_t_tape, g_t_typed, g_t_place, g_t_isFault, g_t_readLaw, g_t_read, g_t_undone, .int 0, g_t_aside, g_t_coat, g_t_bestCoats, g_t_bestStand, g_t_bestPaint, g_t_kept, g_t_keptUndos, g_t_isKept, g_t_lanes, g_t_sizes, g_t_items, g_t_moved])), (a_t_now, .inl (cy 0, 24, .inl (upd (upd (upd (upd t_now x1.toNatClampNeg p0) (x1 + 1).toNatClampNeg p1) (x1 + 2).toNatClampNeg p2) 0 (((upd (upd (upd t_now x1.toNatClampNeg p0) (x1 + 1).toNatClampNeg p1) (x1 + 2).toNatClampNeg p2) 0) + 1))))] := hD
  exact hret _ _ _ ls 56 dX9_manComes_56 (by rw [← Option.some.inj h]) hP hD hS

def m_X9_man (F : Nat) (t_now : Nat → Int32) (t_undos : Int32) (p0 : Int32) (p1 : Int32) (p2 : Int32) : Option (Int32 × (Nat → Int32) × Int32) := (m_X9_in (p0.toInt64) (0 : Int64) (4 : Int64)).bind (fun v1 => (if v1 = 0 then some ((-1), t_now, t_undos) else (m_X9_in (p1.toInt64) (0 : Int64) (9 : Int64)).bind (fun v3 => (if v3 = 0 then some ((-1), t_now, t_undos) else (m_X9_isInch p2).bind (fun v5 => (if v5 = 0 then some ((-1), t_now, t_undos) else (if (t_now 0) = 6 then some ((-3), t_now, t_undos) else (m_X9_whoAt F t_now p2).bind (fun v8 => (if v8 = (-4) then (m_X9_manComes t_now t_undos p0 p1 p2).bind (fun v10 => some ((v10.1 0) - 1, v10.1, v10.2)) else some ((-2), t_now, t_undos))))))))))
set_option maxHeartbeats 4000000 in
set_option maxRecDepth 100000 in
theorem c_X9_man (l : Launch) (D : va_G) (cy : Nat → ClassId) (a_t : Nat) (a_t_now : Nat) (sz : Nat) (g_t_tape : Value) (g_t_typed : Value) (g_t_place : Value) (g_t_isFault : Value) (g_t_readLaw : Value) (g_t_read : Value) (g_t_undone : Value) (g_t_aside : Value) (g_t_coat : Value) (g_t_bestCoats : Value) (g_t_bestStand : Value) (g_t_bestPaint : Value) (g_t_kept : Value) (g_t_keptUndos : Value) (g_t_isKept : Value) (g_t_lanes : Value) (g_t_sizes : Value) (g_t_items : Value) (g_t_moved : Value) (t_now : Nat → Int32) (t_undos : Int32) (p0 : Int32) (p1 : Int32) (p2 : Int32) (F : Nat) (out : Int32 × (Nat → Int32) × Int32) (h : m_X9_man F t_now t_undos p0 p1 p2 = some out) : MetM l D cy yX9_man cX9_man 4 (some .int) (rmG 3 66) [.ref a_t, .int p0, .int p1, .int p2] sz [(a_t, .inr (9, [.ref a_t_now, g_t_tape, g_t_typed, g_t_place, g_t_isFault, g_t_readLaw, g_t_read, g_t_undone, .int t_undos, g_t_aside, g_t_coat, g_t_bestCoats, g_t_bestStand, g_t_bestPaint, g_t_kept, g_t_keptUndos, g_t_isKept, g_t_lanes, g_t_sizes, g_t_items, g_t_moved])), (a_t_now, .inl (cy 0, 24, .inl t_now))] (some (.int out.1)) [(a_t, .inr (9, [.ref a_t_now, g_t_tape, g_t_typed, g_t_place, g_t_isFault, g_t_readLaw, g_t_read, g_t_undone, .int out.2.2, g_t_aside, g_t_coat, g_t_bestCoats, g_t_bestStand, g_t_bestPaint, g_t_kept, g_t_keptUndos, g_t_isKept, g_t_lanes, g_t_sizes, g_t_items, g_t_moved])), (a_t_now, .inl (cy 0, 24, .inl out.2.1))] := by
  refine startMi (own := RX9) (by decide) rfl (Nat.le_of_ble_eq_true rfl) ?_
  intro p e s m below meth c QQ A hx hb hml hown hg hK hP hD hS hA hret ls hl
  have hl : lv_has ls 4 [(0, .ref a_t), (1, .int p0), (2, .int p1), (3, .int p2)] := hl
  unfold m_X9_man at h
  refine lv_iload_n hx hb dX9_man_0 rfl (lv_at hl 1 rfl) ?_
  refine lv_i2l (v := p0.toInt64) hx hb dX9_man_1 rfl ?_
  refine lv_lconst (v := 0) hx hb dX9_man_2 kL_0 ?_
  refine lv_ldc2 (v := 4) hx hb hown (hg _ q_1013) dX9_man_3 ?_
  obtain ⟨v1, hv1, h⟩ := bind_e h
  refine callRS (As := [.long (p0.toInt64), .long 0, .long 4]) (rest := []) (v0 := .int v1) hx hb hml hown hg (c_X9_in l D cy (p0.toInt64) (0 : Int64) (4 : Int64) v1 hv1) q_1016 q_1014 q_63 q_1015 hd_X9_in ⟨(Nat.le_of_ble_eq_true rfl), (Nat.le_of_ble_eq_true rfl)⟩ hK hP [] rfl rfl rfl rfl hl.1 rfl (Nat.le_of_ble_eq_true rfl) dX9_man_6 ?_
  refine lv_if_eq (tgt := 31) hx hb dX9_man_9 (by decide) (fun c2 => ?_) (fun c2 => ?_)
  · have h := it_t c2 h
    refine lv_iconst (v := (-1)) hx hb dX9_man_31 kI_m1 ?_
    exact hret _ _ _ _ ls 32 dX9_man_32 rfl (by rw [← Option.some.inj h]) (by rw [← Option.some.inj h]) hP hD hS
  · have h := it_f c2 h
    refine lv_iload_n hx hb dX9_man_12 rfl (lv_at hl 2 rfl) ?_
    refine lv_i2l (v := p1.toInt64) hx hb dX9_man_13 rfl ?_
    refine lv_lconst (v := 0) hx hb dX9_man_14 kL_0 ?_
    refine lv_ldc2 (v := 9) hx hb hown (hg _ q_1017) dX9_man_15 ?_
    obtain ⟨v3, hv3, h⟩ := bind_e h
    refine callRS (As := [.long (p1.toInt64), .long 0, .long 9]) (rest := []) (v0 := .int v3) hx hb hml hown hg (c_X9_in l D cy (p1.toInt64) (0 : Int64) (9 : Int64) v3 hv3) q_1016 q_1014 q_63 q_1015 hd_X9_in ⟨(Nat.le_of_ble_eq_true rfl), (Nat.le_of_ble_eq_true rfl)⟩ hK hP [] rfl rfl rfl rfl hl.1 rfl (Nat.le_of_ble_eq_true rfl) dX9_man_18 ?_
    refine lv_if_eq (tgt := 31) hx hb dX9_man_21 (by decide) (fun c4 => ?_) (fun c4 => ?_)
    · have h := it_t c4 h
      refine lv_iconst (v := (-1)) hx hb dX9_man_31 kI_m1 ?_
      exact hret _ _ _ _ ls 32 dX9_man_32 rfl (by rw [← Option.some.inj h]) (by rw [← Option.some.inj h]) hP hD hS
    · have h := it_f c4 h
      refine lv_iload_n hx hb dX9_man_24 rfl (lv_at hl 3 rfl) ?_
      obtain ⟨v5, hv5, h⟩ := bind_e h
      refine callRS (As := [.int p2]) (rest := []) (v0 := .int v5) hx hb hml hown hg (c_X9_isInch l D cy p2 v5 hv5) q_1020 q_1018 q_63 q_1019 hd_X9_isInch ⟨(Nat.le_of_ble_eq_true rfl), (Nat.le_of_ble_eq_true rfl)⟩ hK hP [] rfl rfl rfl rfl hl.1 rfl (Nat.le_of_ble_eq_true rfl) dX9_man_25 ?_
      refine lv_if_ne (tgt := 33) hx hb dX9_man_28 (by decide) (fun c6 => ?_) (fun c6 => ?_)
      · have h := it_f c6 h
        refine lv_aload_n hx hb dX9_man_33 rfl (lv_at hl 0 rfl) ?_
        refine va_get (D := D) (ci := 9) (v := .ref a_t_now) (C := RX9) (T := TX9) (N := 21) hx hb hg inG_X9 hown hK hP 0 rfl rfl 0 (by decide) (hg _ q_945) (fun _ h9 => h9) rfl dX9_man_34 ?_
        refine lv_iconst (v := 0) hx hb dX9_man_37 kI_0 ?_
        refine ialdK hx hb hK hP 1 0 rfl rfl (vp_in_inb (by decide)) kN_0 dX9_man_38 ?_
        refine lv_bipush (v := 6) hx hb dX9_man_39 kB_6 ?_
        refine lv_icmp_ne (tgt := 47) hx hb dX9_man_41 (by decide) (fun c7 => ?_) (fun c7 => ?_)
        · have h := it_f c7 h
          refine lv_aload_n hx hb dX9_man_47 rfl (lv_at hl 0 rfl) ?_
          refine lv_iload_n hx hb dX9_man_48 rfl (lv_at hl 3 rfl) ?_
          obtain ⟨v8, hv8, h⟩ := bind_e h
          refine callRV (As := [.int p2]) (rest := []) (v0 := .int v8) hx hb hml hown hg (c_X9_whoAt l D cy a_t a_t_now (g_t_tape) (g_t_typed) (g_t_place) (g_t_isFault) (g_t_readLaw) (g_t_read) (g_t_undone) (.int t_undos) (g_t_aside) (g_t_coat) (g_t_bestCoats) (g_t_bestStand) (g_t_bestPaint) (g_t_kept) (g_t_keptUndos) (g_t_isKept) (g_t_lanes) (g_t_sizes) (g_t_items) (g_t_moved) t_now p2 F v8 hv8) q_1025 q_1022 q_63 q_1024 q_24 hd_X9_whoAt ⟨(Nat.le_of_ble_eq_true rfl), (Nat.le_of_ble_eq_true rfl)⟩ hK hP [0, 1] rfl 0 9 rfl rfl rfl rfl rfl rfl hl.1 rfl (Nat.le_of_ble_eq_true rfl) dX9_man_49 ?_
          refine lv_bipush (v := (-4)) hx hb dX9_man_52 kB_m4 ?_
          refine lv_icmp_eq (tgt := 60) hx hb dX9_man_54 (by decide) (fun c9 => ?_) (fun c9 => ?_)
          · have h := it_t c9 h
            refine lv_aload_n hx hb dX9_man_60 rfl (lv_at hl 0 rfl) ?_
            refine lv_iload_n hx hb dX9_man_61 rfl (lv_at hl 1 rfl) ?_
            refine lv_iload_n hx hb dX9_man_62 rfl (lv_at hl 2 rfl) ?_
            refine lv_iload_n hx hb dX9_man_63 rfl (lv_at hl 3 rfl) ?_
            obtain ⟨v10, hv10, h⟩ := bind_e h
            refine callMV (As := [.int p0, .int p1, .int p2]) (rest := []) (wr := []) (w2 := [(a_t, .inr (9, [.ref a_t_now, g_t_tape, g_t_typed, g_t_place, g_t_isFault, g_t_readLaw, g_t_read, g_t_undone, .int v10.2, g_t_aside, g_t_coat, g_t_bestCoats, g_t_bestStand, g_t_bestPaint, g_t_kept, g_t_keptUndos, g_t_isKept, g_t_lanes, g_t_sizes, g_t_items, g_t_moved])), (a_t_now, .inl (cy 0, 24, .inl v10.1))]) hx hb hml hown hg (c_X9_manComes l D cy a_t a_t_now _ (g_t_tape) (g_t_typed) (g_t_place) (g_t_isFault) (g_t_readLaw) (g_t_read) (g_t_undone) (g_t_aside) (g_t_coat) (g_t_bestCoats) (g_t_bestStand) (g_t_bestPaint) (g_t_kept) (g_t_keptUndos) (g_t_isKept) (g_t_lanes) (g_t_sizes) (g_t_items) (g_t_moved) t_now t_undos p0 p1 p2 v10 hv10) q_1037 q_1034 q_63 q_1036 q_27 hd_X9_manComes ⟨(Nat.le_of_ble_eq_true rfl), (Nat.le_of_ble_eq_true rfl)⟩ hK hP hD hS hA [0, 1] [] rfl rfl rfl rfl (by decide) [0, 1] rfl rfl 0 9 rfl rfl rfl rfl rfl rfl hl.1 rfl rfl (Nat.le_of_ble_eq_true rfl) dX9_man_64 (fun H locs hP hD hS => ?_)
            refine lv_aload_n hx hb dX9_man_67 rfl (lv_at hl 0 rfl) ?_
            refine va_get (D := D) (ci := 9) (v := .ref a_t_now) (C := RX9) (T := TX9) (N := 21) hx hb hg inG_X9 hown hK hP 0 rfl rfl 0 (by decide) (hg _ q_945) (fun _ h9 => h9) rfl dX9_man_68 ?_
            refine lv_iconst (v := 0) hx hb dX9_man_71 kI_0 ?_
            refine ialdK hx hb hK hP 1 0 rfl rfl (vp_in_inb (by decide)) kN_0 dX9_man_72 ?_
            refine lv_iconst (v := 1) hx hb dX9_man_73 kI_1 ?_
            refine lv_isub hx hb dX9_man_74 ?_
            exact hret _ _ _ _ ls 75 dX9_man_75 rfl (by rw [← Option.some.inj h]) (by rw [← Option.some.inj h]) hP hD hS
          · have h := it_f c9 h
            refine lv_bipush (v := (-2)) hx hb dX9_man_57 kB_m2 ?_
            exact hret _ _ _ _ ls 59 dX9_man_59 rfl (by rw [← Option.some.inj h]) (by rw [← Option.some.inj h]) hP hD hS
        · have h := it_t c7 h
          refine lv_bipush (v := (-3)) hx hb dX9_man_44 kB_m3 ?_
          exact hret _ _ _ _ ls 46 dX9_man_46 rfl (by rw [← Option.some.inj h]) (by rw [← Option.some.inj h]) hP hD hS
      · have h := it_t c6 h
        refine lv_iconst (v := (-1)) hx hb dX9_man_31 kI_m1 ?_
        exact hret _ _ _ _ ls 32 dX9_man_32 rfl (by rw [← Option.some.inj h]) (by rw [← Option.some.inj h]) hP hD hS

def m_X9_rule (t_now : Nat → Int32) (p0 : Int32) (p1 : Int32) : Option (Int32 × (Nat → Int32)) := (m_X9_in (p0.toInt64) (0 : Int64) (2 : Int64)).bind (fun v1 => (if v1 = 0 then some ((-1), t_now) else jn (fun (y3 : Int64) (y4 : Int64) (y5 : Int64) => (m_X9_in y3 y4 y5).bind (fun v6 => (if v6 = 0 then some ((-1), t_now) else chk (2 + p0) 24 (bnd (t_now (2 + p0).toNatClampNeg) (fun x9 => chk (2 + p0) 24 (some (x9, upd t_now (2 + p0).toNatClampNeg p1))))))) (fun k11 => (if p0 = 2 then k11 (p1.toInt64) 0 12 else k11 (p1.toInt64) 0 11))))
set_option maxHeartbeats 4000000 in
set_option maxRecDepth 100000 in
theorem c_X9_rule (l : Launch) (D : va_G) (cy : Nat → ClassId) (a_t : Nat) (a_t_now : Nat) (sz : Nat) (g_t_tape : Value) (g_t_typed : Value) (g_t_place : Value) (g_t_isFault : Value) (g_t_readLaw : Value) (g_t_read : Value) (g_t_undone : Value) (g_t_undos : Value) (g_t_aside : Value) (g_t_coat : Value) (g_t_bestCoats : Value) (g_t_bestStand : Value) (g_t_bestPaint : Value) (g_t_kept : Value) (g_t_keptUndos : Value) (g_t_isKept : Value) (g_t_lanes : Value) (g_t_sizes : Value) (g_t_items : Value) (g_t_moved : Value) (t_now : Nat → Int32) (p0 : Int32) (p1 : Int32) (out : Int32 × (Nat → Int32)) (h : m_X9_rule t_now p0 p1 = some out) : MetM l D cy yX9_rule cX9_rule 4 (some .int) (rmG 1 25) [.ref a_t, .int p0, .int p1] sz [(a_t, .inr (9, [.ref a_t_now, g_t_tape, g_t_typed, g_t_place, g_t_isFault, g_t_readLaw, g_t_read, g_t_undone, g_t_undos, g_t_aside, g_t_coat, g_t_bestCoats, g_t_bestStand, g_t_bestPaint, g_t_kept, g_t_keptUndos, g_t_isKept, g_t_lanes, g_t_sizes, g_t_items, g_t_moved])), (a_t_now, .inl (cy 0, 24, .inl t_now))] (some (.int out.1)) [(a_t, .inr (9, [.ref a_t_now, g_t_tape, g_t_typed, g_t_place, g_t_isFault, g_t_readLaw, g_t_read, g_t_undone, g_t_undos, g_t_aside, g_t_coat, g_t_bestCoats, g_t_bestStand, g_t_bestPaint, g_t_kept, g_t_keptUndos, g_t_isKept, g_t_lanes, g_t_sizes, g_t_items, g_t_moved])), (a_t_now, .inl (cy 0, 24, .inl out.2))] := by
  refine startMi (own := RX9) (by decide) rfl (Nat.le_of_ble_eq_true rfl) ?_
  intro p e s m below meth c QQ A hx hb hml hown hg hK hP hD hS hA hret ls hl
  have hl : lv_has ls 4 [(0, .ref a_t), (1, .int p0), (2, .int p1)] := hl
  unfold m_X9_rule at h
  refine lv_iload_n hx hb dX9_rule_0 rfl (lv_at hl 1 rfl) ?_
  refine lv_i2l (v := p0.toInt64) hx hb dX9_rule_1 rfl ?_
  refine lv_lconst (v := 0) hx hb dX9_rule_2 kL_0 ?_
  refine lv_ldc2 (v := 2) hx hb hown (hg _ q_1042) dX9_rule_3 ?_
  obtain ⟨v1, hv1, h⟩ := bind_e h
  refine callRS (As := [.long (p0.toInt64), .long 0, .long 2]) (rest := []) (v0 := .int v1) hx hb hml hown hg (c_X9_in l D cy (p0.toInt64) (0 : Int64) (2 : Int64) v1 hv1) q_1016 q_1014 q_63 q_1015 hd_X9_in ⟨(Nat.le_of_ble_eq_true rfl), (Nat.le_of_ble_eq_true rfl)⟩ hK hP [] rfl rfl rfl rfl hl.1 rfl (Nat.le_of_ble_eq_true rfl) dX9_rule_6 ?_
  refine lv_if_eq (tgt := 35) hx hb dX9_rule_9 (by decide) (fun c2 => ?_) (fun c2 => ?_)
  · have h := it_t c2 h
    refine lv_iconst (v := (-1)) hx hb dX9_rule_35 kI_m1 ?_
    exact hret _ _ _ _ ls 36 dX9_rule_36 rfl (by rw [← Option.some.inj h]) (by rw [← Option.some.inj h]) hP hD hS
  · have h := it_f c2 h
    refine lv_iload_n hx hb dX9_rule_12 rfl (lv_at hl 2 rfl) ?_
    refine lv_i2l (v := p1.toInt64) hx hb dX9_rule_13 rfl ?_
    refine lv_lconst (v := 0) hx hb dX9_rule_14 kL_0 ?_
    refine lv_iload_n hx hb dX9_rule_15 rfl (lv_at hl 1 rfl) ?_
    refine lv_iconst (v := 2) hx hb dX9_rule_16 kI_2 ?_
    obtain ⟨k11, hk11, h⟩ := jn_e h
    have J11 : ∀ (y3 : Int64) (y4 : Int64) (y5 : Int64) (H : Heap) (locs : List Loc) (ls : Array Slot), va_P D vwCl [(a_t, .inr (9, [.ref a_t_now, g_t_tape, g_t_typed, g_t_place, g_t_isFault, g_t_readLaw, g_t_read, g_t_undone, g_t_undos, g_t_aside, g_t_coat, g_t_bestCoats, g_t_bestStand, g_t_bestPaint, g_t_kept, g_t_keptUndos, g_t_isKept, g_t_lanes, g_t_sizes, g_t_items, g_t_moved])), (a_t_now, .inl (cy 0, 24, .inl t_now))] H → va_D A [(a_t, .inr (9, [.ref a_t_now, g_t_tape, g_t_typed, g_t_place, g_t_isFault, g_t_readLaw, g_t_read, g_t_undone, g_t_undos, g_t_aside, g_t_coat, g_t_bestCoats, g_t_bestStand, g_t_bestPaint, g_t_kept, g_t_keptUndos, g_t_isKept, g_t_lanes, g_t_sizes, g_t_items, g_t_moved])), (a_t_now, .inl (cy 0, 24, .inl t_now))] → va_S A s.heap H locs → lv_has ls 4 [(0, .ref a_t), (1, .int p0), (2, .int p1)] → k11 y3 y4 y5 = some out → W p l e (rmG 1 25) s m [.ref a_t, .int p0, .int p1].toArray below meth c H locs 0 0 QQ (F0 m 29 ls [.long y5, .long y4, .long y3]) := by
      intro y3 y4 y5 H locs ls hP hD hS hl h
      rw [hk11] at h
      obtain ⟨v6, hv6, h⟩ := bind_e h
      refine callRS (As := [.long y3, .long y4, .long y5]) (rest := []) (v0 := .int v6) hx hb hml hown hg (c_X9_in l D cy y3 y4 y5 v6 hv6) q_1016 q_1014 q_63 q_1015 hd_X9_in ⟨(Nat.le_of_ble_eq_true rfl), (Nat.le_of_ble_eq_true rfl)⟩ hK hP [] rfl rfl rfl rfl hl.1 rfl (Nat.le_of_ble_eq_true rfl) dX9_rule_29 ?_
      refine lv_if_ne (tgt := 37) hx hb dX9_rule_32 (by decide) (fun c7 => ?_) (fun c7 => ?_)
      · have h := it_f c7 h
        refine lv_aload_n hx hb dX9_rule_37 rfl (lv_at hl 0 rfl) ?_
        refine va_get (D := D) (ci := 9) (v := .ref a_t_now) (C := RX9) (T := TX9) (N := 21) hx hb hg inG_X9 hown hK hP 0 rfl rfl 0 (by decide) (hg _ q_945) (fun _ h9 => h9) rfl dX9_rule_38 ?_
        refine lv_iconst (v := 2) hx hb dX9_rule_41 kI_2 ?_
        refine lv_iload_n hx hb dX9_rule_42 rfl (lv_at hl 1 rfl) ?_
        refine lv_iadd hx hb dX9_rule_43 ?_
        obtain ⟨hi8, h⟩ := chk_e h
        refine va_iald hx hb hK hP 1 0 rfl rfl hi8 dX9_rule_44 ?_
        refine lv_topi (fun x9 ex9 => ?_)
        have h := bnd_e ex9 h
        refine lv_istore_n (lv' := [(3, .int x9), (0, .ref a_t), (1, .int p0), (2, .int p1)]) hx hb dX9_rule_45 rfl hl (by decide) rfl (fun ls hl => ?_)
        refine lv_aload_n hx hb dX9_rule_46 rfl (lv_at hl 1 rfl) ?_
        refine va_get (D := D) (ci := 9) (v := .ref a_t_now) (C := RX9) (T := TX9) (N := 21) hx hb hg inG_X9 hown hK hP 0 rfl rfl 0 (by decide) (hg _ q_945) (fun _ h9 => h9) rfl dX9_rule_47 ?_
        refine lv_iconst (v := 2) hx hb dX9_rule_50 kI_2 ?_
        refine lv_iload_n hx hb dX9_rule_51 rfl (lv_at hl 2 rfl) ?_
        refine lv_iadd hx hb dX9_rule_52 ?_
        refine lv_iload_n hx hb dX9_rule_53 rfl (lv_at hl 3 rfl) ?_
        obtain ⟨hi10, h⟩ := chk_e h
        refine va_iast hx hb hK hP hD hS 1 0 rfl rfl hi10 dX9_rule_54 (fun H locs hP hD hS => ?_)
        have hP : va_P D vwCl [(a_t, .inr (9, [.ref a_t_now, g_t_tape, g_t_typed, g_t_place, g_t_isFault, g_t_readLaw, g_t_read, g_t_undone, g_t_undos, g_t_aside, g_t_coat, g_t_bestCoats, g_t_bestStand, g_t_bestPaint, g_t_kept, g_t_keptUndos, g_t_isKept, g_t_lanes, g_t_sizes, g_t_items, g_t_moved])), (a_t_now, .inl (cy 0, 24, .inl (upd t_now (2 + p0).toNatClampNeg p1)))] H := hP
        have hD : va_D A [(a_t, .inr (9, [.ref a_t_now, g_t_tape, g_t_typed, g_t_place, g_t_isFault, g_t_readLaw, g_t_read, g_t_undone, g_t_undos, g_t_aside, g_t_coat, g_t_bestCoats, g_t_bestStand, g_t_bestPaint, g_t_kept, g_t_keptUndos, g_t_isKept, g_t_lanes, g_t_sizes, g_t_items, g_t_moved])), (a_t_now, .inl (cy 0, 24, .inl (upd t_now (2 + p0).toNatClampNeg p1)))] := hD
        refine lv_iload_n hx hb dX9_rule_55 rfl (lv_at hl 0 rfl) ?_
        exact hret _ _ _ _ ls 56 dX9_rule_56 rfl (by rw [← Option.some.inj h]) (by rw [← Option.some.inj h]) hP hD hS
      · have h := it_t c7 h
        refine lv_iconst (v := (-1)) hx hb dX9_rule_35 kI_m1 ?_
        exact hret _ _ _ _ ls 36 dX9_rule_36 rfl (by rw [← Option.some.inj h]) (by rw [← Option.some.inj h]) hP hD hS
    refine lv_icmp_ne (tgt := 26) hx hb dX9_rule_17 (by decide) (fun c12 => ?_) (fun c12 => ?_)
    · have h := it_f c12 h
      refine lv_ldc2 (v := 11) hx hb hown (hg _ q_1021) dX9_rule_26 ?_
      exact J11 (p1.toInt64) 0 11 _ _ _ hP hD hS (lv_sub hl [0, 1, 2] rfl) h
    · have h := it_t c12 h
      refine lv_ldc2 (v := 12) hx hb hown (hg _ q_1043) dX9_rule_20 ?_
      refine lv_goto (tgt := 29) hx hb dX9_rule_23 (by decide) ?_
      exact J11 (p1.toInt64) 0 12 _ _ _ hP hD hS (lv_sub hl [0, 1, 2] rfl) h

def m_X9_of (F : Nat) (t_now : Nat → Int32) (p0 : Int32) (p1 : Int32) : Option (Int32) := (m_X9_isMan t_now p0).bind (fun v1 => (if v1 = 0 then some (-1) else (m_X9_in (p1.toInt64) (0 : Int64) (4 : Int64)).bind (fun v3 => (if v3 = 0 then some (-1) else (if 3 ≤ p1 then (if p1 = 3 then (m_X9_grip F t_now p0).bind (fun v8 => some v8) else (m_X9_besides F t_now p0).bind (fun v7 => some v7)) else (m_X9_told t_now p0 p1).bind (fun v9 => some v9))))))
set_option maxHeartbeats 4000000 in
set_option maxRecDepth 100000 in
theorem c_X9_of (l : Launch) (D : va_G) (cy : Nat → ClassId) (a_t : Nat) (a_t_now : Nat) (g_t_tape : Value) (g_t_typed : Value) (g_t_place : Value) (g_t_isFault : Value) (g_t_readLaw : Value) (g_t_read : Value) (g_t_undone : Value) (g_t_undos : Value) (g_t_aside : Value) (g_t_coat : Value) (g_t_bestCoats : Value) (g_t_bestStand : Value) (g_t_bestPaint : Value) (g_t_kept : Value) (g_t_keptUndos : Value) (g_t_isKept : Value) (g_t_lanes : Value) (g_t_sizes : Value) (g_t_items : Value) (g_t_moved : Value) (t_now : Nat → Int32) (p0 : Int32) (p1 : Int32) (F : Nat) (out : Int32) (h : m_X9_of F t_now p0 p1 = some out) : MetR l D cy yX9_of cX9_of 3 (some .int) (rmG 5 110) [.ref a_t, .int p0, .int p1] [(a_t, .inr (9, [.ref a_t_now, g_t_tape, g_t_typed, g_t_place, g_t_isFault, g_t_readLaw, g_t_read, g_t_undone, g_t_undos, g_t_aside, g_t_coat, g_t_bestCoats, g_t_bestStand, g_t_bestPaint, g_t_kept, g_t_keptUndos, g_t_isKept, g_t_lanes, g_t_sizes, g_t_items, g_t_moved])), (a_t_now, .inl (cy 0, 24, .inl t_now))] (some (.int out)) := by
  refine startR (own := RX9) (by decide) rfl (Nat.le_of_ble_eq_true rfl) ?_
  intro p e s m below meth c QQ hx hb hml hown hg hK hP hret ls hl
  have hl : lv_has ls 3 [(0, .ref a_t), (1, .int p0), (2, .int p1)] := hl
  unfold m_X9_of at h
  refine lv_aload_n hx hb dX9_of_0 rfl (lv_at hl 0 rfl) ?_
  refine lv_iload_n hx hb dX9_of_1 rfl (lv_at hl 1 rfl) ?_
  obtain ⟨v1, hv1, h⟩ := bind_e h
  refine callRV (As := [.int p0]) (rest := []) (v0 := .int v1) hx hb hml hown hg (c_X9_isMan l D cy a_t a_t_now (g_t_tape) (g_t_typed) (g_t_place) (g_t_isFault) (g_t_readLaw) (g_t_read) (g_t_undone) (g_t_undos) (g_t_aside) (g_t_coat) (g_t_bestCoats) (g_t_bestStand) (g_t_bestPaint) (g_t_kept) (g_t_keptUndos) (g_t_isKept) (g_t_lanes) (g_t_sizes) (g_t_items) (g_t_moved) t_now p0 v1 hv1) q_1051 q_1048 q_63 q_1050 q_28 hd_X9_isMan ⟨(Nat.le_of_ble_eq_true rfl), (Nat.le_of_ble_eq_true rfl)⟩ hK hP [0, 1] rfl 0 9 rfl rfl rfl rfl rfl rfl hl.1 rfl (Nat.le_of_ble_eq_true rfl) dX9_of_2 ?_
  refine lv_if_eq (tgt := 20) hx hb dX9_of_5 (by decide) (fun c2 => ?_) (fun c2 => ?_)
  · have h := it_t c2 h
    refine lv_iconst (v := (-1)) hx hb dX9_of_20 kI_m1 ?_
    exact hret _ ls 21 dX9_of_21 rfl (congrArg (fun z => some (Value.int z)) (Option.some.inj h))
  · have h := it_f c2 h
    refine lv_iload_n hx hb dX9_of_8 rfl (lv_at hl 2 rfl) ?_
    refine lv_i2l (v := p1.toInt64) hx hb dX9_of_9 rfl ?_
    refine lv_lconst (v := 0) hx hb dX9_of_10 kL_0 ?_
    refine lv_ldc2 (v := 4) hx hb hown (hg _ q_1013) dX9_of_11 ?_
    obtain ⟨v3, hv3, h⟩ := bind_e h
    refine callRS (As := [.long (p1.toInt64), .long 0, .long 4]) (rest := []) (v0 := .int v3) hx hb hml hown hg (c_X9_in l D cy (p1.toInt64) (0 : Int64) (4 : Int64) v3 hv3) q_1016 q_1014 q_63 q_1015 hd_X9_in ⟨(Nat.le_of_ble_eq_true rfl), (Nat.le_of_ble_eq_true rfl)⟩ hK hP [] rfl rfl rfl rfl hl.1 rfl (Nat.le_of_ble_eq_true rfl) dX9_of_14 ?_
    refine lv_if_ne (tgt := 22) hx hb dX9_of_17 (by decide) (fun c4 => ?_) (fun c4 => ?_)
    · have h := it_f c4 h
      refine lv_iload_n hx hb dX9_of_22 rfl (lv_at hl 2 rfl) ?_
      refine lv_iconst (v := 3) hx hb dX9_of_23 kI_3 ?_
      refine lv_icmp_ge (tgt := 36) hx hb dX9_of_24 (by decide) (fun c5 => ?_) (fun c5 => ?_)
      · have h := it_t c5 h
        refine lv_iload_n hx hb dX9_of_36 rfl (lv_at hl 2 rfl) ?_
        refine lv_iconst (v := 3) hx hb dX9_of_37 kI_3 ?_
        refine lv_icmp_ne (tgt := 49) hx hb dX9_of_38 (by decide) (fun c6 => ?_) (fun c6 => ?_)
        · have h := it_f c6 h
          refine lv_aload_n hx hb dX9_of_49 rfl (lv_at hl 0 rfl) ?_
          refine lv_iload_n hx hb dX9_of_50 rfl (lv_at hl 1 rfl) ?_
          obtain ⟨v7, hv7, h⟩ := bind_e h
          refine callRV (As := [.int p0]) (rest := []) (v0 := .int v7) hx hb hml hown hg (c_X9_besides l D cy a_t a_t_now (g_t_tape) (g_t_typed) (g_t_place) (g_t_isFault) (g_t_readLaw) (g_t_read) (g_t_undone) (g_t_undos) (g_t_aside) (g_t_coat) (g_t_bestCoats) (g_t_bestStand) (g_t_bestPaint) (g_t_kept) (g_t_keptUndos) (g_t_isKept) (g_t_lanes) (g_t_sizes) (g_t_items) (g_t_moved) t_now p0 F v7 hv7) q_1063 q_1060 q_63 q_1062 q_31 hd_X9_besides ⟨(Nat.le_of_ble_eq_true rfl), (Nat.le_of_ble_eq_true rfl)⟩ hK hP [0, 1] rfl 0 9 rfl rfl rfl rfl rfl rfl hl.1 rfl (Nat.le_of_ble_eq_true rfl) dX9_of_51 ?_
          exact hret _ ls 54 dX9_of_54 rfl (congrArg (fun z => some (Value.int z)) (Option.some.inj h))
        · have h := it_t c6 h
          refine lv_aload_n hx hb dX9_of_41 rfl (lv_at hl 0 rfl) ?_
          refine lv_iload_n hx hb dX9_of_42 rfl (lv_at hl 1 rfl) ?_
          obtain ⟨v8, hv8, h⟩ := bind_e h
          refine callRV (As := [.int p0]) (rest := []) (v0 := .int v8) hx hb hml hown hg (c_X9_grip l D cy a_t a_t_now (g_t_tape) (g_t_typed) (g_t_place) (g_t_isFault) (g_t_readLaw) (g_t_read) (g_t_undone) (g_t_undos) (g_t_aside) (g_t_coat) (g_t_bestCoats) (g_t_bestStand) (g_t_bestPaint) (g_t_kept) (g_t_keptUndos) (g_t_isKept) (g_t_lanes) (g_t_sizes) (g_t_items) (g_t_moved) t_now p0 F v8 hv8) q_1055 q_1052 q_63 q_1054 q_29 hd_X9_grip ⟨(Nat.le_of_ble_eq_true rfl), (Nat.le_of_ble_eq_true rfl)⟩ hK hP [0, 1] rfl 0 9 rfl rfl rfl rfl rfl rfl hl.1 rfl (Nat.le_of_ble_eq_true rfl) dX9_of_43 ?_
          refine lv_goto (tgt := 54) hx hb dX9_of_46 (by decide) ?_
          exact hret _ ls 54 dX9_of_54 rfl (congrArg (fun z => some (Value.int z)) (Option.some.inj h))
      · have h := it_f c5 h
        refine lv_aload_n hx hb dX9_of_27 rfl (lv_at hl 0 rfl) ?_
        refine lv_iload_n hx hb dX9_of_28 rfl (lv_at hl 1 rfl) ?_
        refine lv_iload_n hx hb dX9_of_29 rfl (lv_at hl 2 rfl) ?_
        obtain ⟨v9, hv9, h⟩ := bind_e h
        refine callRV (As := [.int p0, .int p1]) (rest := []) (v0 := .int v9) hx hb hml hown hg (c_X9_told l D cy a_t a_t_now (g_t_tape) (g_t_typed) (g_t_place) (g_t_isFault) (g_t_readLaw) (g_t_read) (g_t_undone) (g_t_undos) (g_t_aside) (g_t_coat) (g_t_bestCoats) (g_t_bestStand) (g_t_bestPaint) (g_t_kept) (g_t_keptUndos) (g_t_isKept) (g_t_lanes) (g_t_sizes) (g_t_items) (g_t_moved) t_now p0 p1 v9 hv9) q_1033 q_1030 q_63 q_1032 q_26 hd_X9_told ⟨(Nat.le_of_ble_eq_true rfl), (Nat.le_of_ble_eq_true rfl)⟩ hK hP [0, 1] rfl 0 9 rfl rfl rfl rfl rfl rfl hl.1 rfl (Nat.le_of_ble_eq_true rfl) dX9_of_30 ?_
        refine lv_goto (tgt := 54) hx hb dX9_of_33 (by decide) ?_
        exact hret _ ls 54 dX9_of_54 rfl (congrArg (fun z => some (Value.int z)) (Option.some.inj h))
    · have h := it_t c4 h
      refine lv_iconst (v := (-1)) hx hb dX9_of_20 kI_m1 ?_
      exact hret _ ls 21 dX9_of_21 rfl (congrArg (fun z => some (Value.int z)) (Option.some.inj h))

def m_X9_at (F : Nat) (t_now : Nat → Int32) (p0 : Int32) (p1 : Int32) : Option (Int32) := (m_X9_isInch p0).bind (fun v1 => (if v1 = 0 then some (-1) else (m_X9_in (p1.toInt64) (0 : Int64) (1 : Int64)).bind (fun v3 => (if v3 = 0 then some (-1) else (if p1 = 0 then (m_X9_whoAt F t_now p0).bind (fun v7 => some v7) else (m_X9_high t_now p0 0).bind (fun v6 => some v6))))))
set_option maxHeartbeats 4000000 in
set_option maxRecDepth 100000 in
theorem c_X9_at (l : Launch) (D : va_G) (cy : Nat → ClassId) (a_t : Nat) (a_t_now : Nat) (g_t_tape : Value) (g_t_typed : Value) (g_t_place : Value) (g_t_isFault : Value) (g_t_readLaw : Value) (g_t_read : Value) (g_t_undone : Value) (g_t_undos : Value) (g_t_aside : Value) (g_t_coat : Value) (g_t_bestCoats : Value) (g_t_bestStand : Value) (g_t_bestPaint : Value) (g_t_kept : Value) (g_t_keptUndos : Value) (g_t_isKept : Value) (g_t_lanes : Value) (g_t_sizes : Value) (g_t_items : Value) (g_t_moved : Value) (t_now : Nat → Int32) (p0 : Int32) (p1 : Int32) (F : Nat) (out : Int32) (h : m_X9_at F t_now p0 p1 = some out) : MetR l D cy yX9_at cX9_at 3 (some .int) (rmG 3 66) [.ref a_t, .int p0, .int p1] [(a_t, .inr (9, [.ref a_t_now, g_t_tape, g_t_typed, g_t_place, g_t_isFault, g_t_readLaw, g_t_read, g_t_undone, g_t_undos, g_t_aside, g_t_coat, g_t_bestCoats, g_t_bestStand, g_t_bestPaint, g_t_kept, g_t_keptUndos, g_t_isKept, g_t_lanes, g_t_sizes, g_t_items, g_t_moved])), (a_t_now, .inl (cy 0, 24, .inl t_now))] (some (.int out)) := by
  refine startR (own := RX9) (by decide) rfl (Nat.le_of_ble_eq_true rfl) ?_
  intro p e s m below meth c QQ hx hb hml hown hg hK hP hret ls hl
  have hl : lv_has ls 3 [(0, .ref a_t), (1, .int p0), (2, .int p1)] := hl
  unfold m_X9_at at h
  refine lv_iload_n hx hb dX9_at_0 rfl (lv_at hl 1 rfl) ?_
  obtain ⟨v1, hv1, h⟩ := bind_e h
  refine callRS (As := [.int p0]) (rest := []) (v0 := .int v1) hx hb hml hown hg (c_X9_isInch l D cy p0 v1 hv1) q_1020 q_1018 q_63 q_1019 hd_X9_isInch ⟨(Nat.le_of_ble_eq_true rfl), (Nat.le_of_ble_eq_true rfl)⟩ hK hP [] rfl rfl rfl rfl hl.1 rfl (Nat.le_of_ble_eq_true rfl) dX9_at_1 ?_
  refine lv_if_eq (tgt := 17) hx hb dX9_at_4 (by decide) (fun c2 => ?_) (fun c2 => ?_)
  · have h := it_t c2 h
    refine lv_iconst (v := (-1)) hx hb dX9_at_17 kI_m1 ?_
    exact hret _ ls 18 dX9_at_18 rfl (congrArg (fun z => some (Value.int z)) (Option.some.inj h))
  · have h := it_f c2 h
    refine lv_iload_n hx hb dX9_at_7 rfl (lv_at hl 2 rfl) ?_
    refine lv_i2l (v := p1.toInt64) hx hb dX9_at_8 rfl ?_
    refine lv_lconst (v := 0) hx hb dX9_at_9 kL_0 ?_
    refine lv_lconst (v := 1) hx hb dX9_at_10 kL_1 ?_
    obtain ⟨v3, hv3, h⟩ := bind_e h
    refine callRS (As := [.long (p1.toInt64), .long 0, .long 1]) (rest := []) (v0 := .int v3) hx hb hml hown hg (c_X9_in l D cy (p1.toInt64) (0 : Int64) (1 : Int64) v3 hv3) q_1016 q_1014 q_63 q_1015 hd_X9_in ⟨(Nat.le_of_ble_eq_true rfl), (Nat.le_of_ble_eq_true rfl)⟩ hK hP [] rfl rfl rfl rfl hl.1 rfl (Nat.le_of_ble_eq_true rfl) dX9_at_11 ?_
    refine lv_if_ne (tgt := 19) hx hb dX9_at_14 (by decide) (fun c4 => ?_) (fun c4 => ?_)
    · have h := it_f c4 h
      refine lv_iload_n hx hb dX9_at_19 rfl (lv_at hl 2 rfl) ?_
      refine lv_if_ne (tgt := 31) hx hb dX9_at_20 (by decide) (fun c5 => ?_) (fun c5 => ?_)
      · have h := it_f c5 h
        refine lv_aload_n hx hb dX9_at_31 rfl (lv_at hl 0 rfl) ?_
        refine lv_iload_n hx hb dX9_at_32 rfl (lv_at hl 1 rfl) ?_
        refine lv_iconst (v := 0) hx hb dX9_at_33 kI_0 ?_
        obtain ⟨v6, hv6, h⟩ := bind_e h
        refine callRV (As := [.int p0, .int 0]) (rest := []) (v0 := .int v6) hx hb hml hown hg (c_X9_high l D cy a_t a_t_now (g_t_tape) (g_t_typed) (g_t_place) (g_t_isFault) (g_t_readLaw) (g_t_read) (g_t_undone) (g_t_undos) (g_t_aside) (g_t_coat) (g_t_bestCoats) (g_t_bestStand) (g_t_bestPaint) (g_t_kept) (g_t_keptUndos) (g_t_isKept) (g_t_lanes) (g_t_sizes) (g_t_items) (g_t_moved) t_now p0 0 v6 hv6) q_1085 q_1082 q_63 q_1084 q_34 hd_X9_high ⟨(Nat.le_of_ble_eq_true rfl), (Nat.le_of_ble_eq_true rfl)⟩ hK hP [0, 1] rfl 0 9 rfl rfl rfl rfl rfl rfl hl.1 rfl (Nat.le_of_ble_eq_true rfl) dX9_at_34 ?_
        exact hret _ ls 37 dX9_at_37 rfl (congrArg (fun z => some (Value.int z)) (Option.some.inj h))
      · have h := it_t c5 h
        refine lv_aload_n hx hb dX9_at_23 rfl (lv_at hl 0 rfl) ?_
        refine lv_iload_n hx hb dX9_at_24 rfl (lv_at hl 1 rfl) ?_
        obtain ⟨v7, hv7, h⟩ := bind_e h
        refine callRV (As := [.int p0]) (rest := []) (v0 := .int v7) hx hb hml hown hg (c_X9_whoAt l D cy a_t a_t_now (g_t_tape) (g_t_typed) (g_t_place) (g_t_isFault) (g_t_readLaw) (g_t_read) (g_t_undone) (g_t_undos) (g_t_aside) (g_t_coat) (g_t_bestCoats) (g_t_bestStand) (g_t_bestPaint) (g_t_kept) (g_t_keptUndos) (g_t_isKept) (g_t_lanes) (g_t_sizes) (g_t_items) (g_t_moved) t_now p0 F v7 hv7) q_1025 q_1022 q_63 q_1024 q_24 hd_X9_whoAt ⟨(Nat.le_of_ble_eq_true rfl), (Nat.le_of_ble_eq_true rfl)⟩ hK hP [0, 1] rfl 0 9 rfl rfl rfl rfl rfl rfl hl.1 rfl (Nat.le_of_ble_eq_true rfl) dX9_at_25 ?_
        refine lv_goto (tgt := 37) hx hb dX9_at_28 (by decide) ?_
        exact hret _ ls 37 dX9_at_37 rfl (congrArg (fun z => some (Value.int z)) (Option.some.inj h))
    · have h := it_t c4 h
      refine lv_iconst (v := (-1)) hx hb dX9_at_17 kI_m1 ?_
      exact hret _ ls 18 dX9_at_18 rfl (congrArg (fun z => some (Value.int z)) (Option.some.inj h))

def m_X9_wave (t_now : Nat → Int32) (p0 : Int32) (p1 : Int32) : Option (Int32) := (m_X9_isInch p0).bind (fun v1 => (if v1 = 0 then some (-1) else (m_X9_in (p1.toInt64) (0 : Int64) (60 : Int64)).bind (fun v3 => (if v3 = 0 then some (-1) else (m_X9_high t_now p0 p1).bind (fun v5 => some v5)))))
set_option maxHeartbeats 4000000 in
set_option maxRecDepth 100000 in
theorem c_X9_wave (l : Launch) (D : va_G) (cy : Nat → ClassId) (a_t : Nat) (a_t_now : Nat) (g_t_tape : Value) (g_t_typed : Value) (g_t_place : Value) (g_t_isFault : Value) (g_t_readLaw : Value) (g_t_read : Value) (g_t_undone : Value) (g_t_undos : Value) (g_t_aside : Value) (g_t_coat : Value) (g_t_bestCoats : Value) (g_t_bestStand : Value) (g_t_bestPaint : Value) (g_t_kept : Value) (g_t_keptUndos : Value) (g_t_isKept : Value) (g_t_lanes : Value) (g_t_sizes : Value) (g_t_items : Value) (g_t_moved : Value) (t_now : Nat → Int32) (p0 : Int32) (p1 : Int32) (out : Int32) (h : m_X9_wave t_now p0 p1 = some out) : MetR l D cy yX9_wave cX9_wave 3 (some .int) (rmG 2 45) [.ref a_t, .int p0, .int p1] [(a_t, .inr (9, [.ref a_t_now, g_t_tape, g_t_typed, g_t_place, g_t_isFault, g_t_readLaw, g_t_read, g_t_undone, g_t_undos, g_t_aside, g_t_coat, g_t_bestCoats, g_t_bestStand, g_t_bestPaint, g_t_kept, g_t_keptUndos, g_t_isKept, g_t_lanes, g_t_sizes, g_t_items, g_t_moved])), (a_t_now, .inl (cy 0, 24, .inl t_now))] (some (.int out)) := by
  refine startR (own := RX9) (by decide) rfl (Nat.le_of_ble_eq_true rfl) ?_
  intro p e s m below meth c QQ hx hb hml hown hg hK hP hret ls hl
  have hl : lv_has ls 3 [(0, .ref a_t), (1, .int p0), (2, .int p1)] := hl
  unfold m_X9_wave at h
  refine lv_iload_n hx hb dX9_wave_0 rfl (lv_at hl 1 rfl) ?_
  obtain ⟨v1, hv1, h⟩ := bind_e h
  refine callRS (As := [.int p0]) (rest := []) (v0 := .int v1) hx hb hml hown hg (c_X9_isInch l D cy p0 v1 hv1) q_1020 q_1018 q_63 q_1019 hd_X9_isInch ⟨(Nat.le_of_ble_eq_true rfl), (Nat.le_of_ble_eq_true rfl)⟩ hK hP [] rfl rfl rfl rfl hl.1 rfl (Nat.le_of_ble_eq_true rfl) dX9_wave_1 ?_
  refine lv_if_eq (tgt := 28) hx hb dX9_wave_4 (by decide) (fun c2 => ?_) (fun c2 => ?_)
  · have h := it_t c2 h
    refine lv_iconst (v := (-1)) hx hb dX9_wave_28 kI_m1 ?_
    exact hret _ ls 29 dX9_wave_29 rfl (congrArg (fun z => some (Value.int z)) (Option.some.inj h))
  · have h := it_f c2 h
    refine lv_iload_n hx hb dX9_wave_7 rfl (lv_at hl 2 rfl) ?_
    refine lv_i2l (v := p1.toInt64) hx hb dX9_wave_8 rfl ?_
    refine lv_lconst (v := 0) hx hb dX9_wave_9 kL_0 ?_
    refine lv_ldc2 (v := 60) hx hb hown (hg _ q_1090) dX9_wave_10 ?_
    obtain ⟨v3, hv3, h⟩ := bind_e h
    refine callRS (As := [.long (p1.toInt64), .long 0, .long 60]) (rest := []) (v0 := .int v3) hx hb hml hown hg (c_X9_in l D cy (p1.toInt64) (0 : Int64) (60 : Int64) v3 hv3) q_1016 q_1014 q_63 q_1015 hd_X9_in ⟨(Nat.le_of_ble_eq_true rfl), (Nat.le_of_ble_eq_true rfl)⟩ hK hP [] rfl rfl rfl rfl hl.1 rfl (Nat.le_of_ble_eq_true rfl) dX9_wave_13 ?_
    refine lv_if_eq (tgt := 28) hx hb dX9_wave_16 (by decide) (fun c4 => ?_) (fun c4 => ?_)
    · have h := it_t c4 h
      refine lv_iconst (v := (-1)) hx hb dX9_wave_28 kI_m1 ?_
      exact hret _ ls 29 dX9_wave_29 rfl (congrArg (fun z => some (Value.int z)) (Option.some.inj h))
    · have h := it_f c4 h
      refine lv_aload_n hx hb dX9_wave_19 rfl (lv_at hl 0 rfl) ?_
      refine lv_iload_n hx hb dX9_wave_20 rfl (lv_at hl 1 rfl) ?_
      refine lv_iload_n hx hb dX9_wave_21 rfl (lv_at hl 2 rfl) ?_
      obtain ⟨v5, hv5, h⟩ := bind_e h
      refine callRV (As := [.int p0, .int p1]) (rest := []) (v0 := .int v5) hx hb hml hown hg (c_X9_high l D cy a_t a_t_now (g_t_tape) (g_t_typed) (g_t_place) (g_t_isFault) (g_t_readLaw) (g_t_read) (g_t_undone) (g_t_undos) (g_t_aside) (g_t_coat) (g_t_bestCoats) (g_t_bestStand) (g_t_bestPaint) (g_t_kept) (g_t_keptUndos) (g_t_isKept) (g_t_lanes) (g_t_sizes) (g_t_items) (g_t_moved) t_now p0 p1 v5 hv5) q_1085 q_1082 q_63 q_1084 q_34 hd_X9_high ⟨(Nat.le_of_ble_eq_true rfl), (Nat.le_of_ble_eq_true rfl)⟩ hK hP [0, 1] rfl 0 9 rfl rfl rfl rfl rfl rfl hl.1 rfl (Nat.le_of_ble_eq_true rfl) dX9_wave_22 ?_
      refine lv_goto (tgt := 29) hx hb dX9_wave_25 (by decide) ?_
      exact hret _ ls 29 dX9_wave_29 rfl (congrArg (fun z => some (Value.int z)) (Option.some.inj h))

def m_X9_heldBy_L19s (t_now : Nat → Int32) (p0 : Int32) (p1 : Int32) (x1 : Int32) (k12 : Int32 → Option (Int32)) (r14 : Int32 → Int32 → Option (Int32)) (x8 : Int32) (x9 : Int32) : Option (Int32) := (if 12 ≤ x8 then k12 x9 else (if ((p0 >>> (x1 &&& 31)) &&& 1) = 1 then (m_X9_stands t_now x1).bind (fun v19 => (if v19 = 0 then bnd (x9 ||| 0) (fun x21 => bnd (x8 + 1) (fun x22 => r14 x22 x21)) else (m_X9_inchOf t_now x1).bind (fun v23 => (m_X9_apart x8 v23).bind (fun v24 => (if p1 < v24 then bnd (x9 ||| 0) (fun x26 => bnd (x8 + 1) (fun x27 => r14 x27 x26)) else bnd (x9 ||| (1 <<< (x8 &&& 31))) (fun x28 => bnd (x8 + 1) (fun x29 => r14 x29 x28))))))) else bnd (x9 ||| 0) (fun x17 => bnd (x8 + 1) (fun x18 => r14 x18 x17))))
def m_X9_heldBy_L19 (t_now : Nat → Int32) (p0 : Int32) (p1 : Int32) (x1 : Int32) (k12 : Int32 → Option (Int32)) : Nat → Int32 → Int32 → Option (Int32)
  | 0 => fun _ _ => none
  | nF + 1 => m_X9_heldBy_L19s t_now p0 p1 x1 k12 (m_X9_heldBy_L19 t_now p0 p1 x1 k12 nF)
def m_X9_heldBy_L5s (t_now : Nat → Int32) (p0 : Int32) (p1 : Int32) (F : Nat) (k4 : Int32 → Option (Int32)) (r6 : Int32 → Int32 → Option (Int32)) (x1 : Int32) (x2 : Int32) : Option (Int32) := (if (t_now 0) ≤ x1 then k4 x2 else m_X9_heldBy_L19 t_now p0 p1 x1 (fun (x10 : Int32) => bnd (x1 + 1) (fun x11 => r6 x11 x10)) F 0 x2)
def m_X9_heldBy_L5 (t_now : Nat → Int32) (p0 : Int32) (p1 : Int32) (F : Nat) (k4 : Int32 → Option (Int32)) : Nat → Int32 → Int32 → Option (Int32)
  | 0 => fun _ _ => none
  | nF + 1 => m_X9_heldBy_L5s t_now p0 p1 F k4 (m_X9_heldBy_L5 t_now p0 p1 F k4 nF)
def m_X9_heldBy (F : Nat) (t_now : Nat → Int32) (p0 : Int32) (p1 : Int32) : Option (Int32) := m_X9_heldBy_L5 t_now p0 p1 F (fun (x3 : Int32) => some x3) F 0 0
set_option maxHeartbeats 4000000 in
set_option maxRecDepth 100000 in
theorem c_X9_heldBy (l : Launch) (D : va_G) (cy : Nat → ClassId) (a_t : Nat) (a_t_now : Nat) (g_t_tape : Value) (g_t_typed : Value) (g_t_place : Value) (g_t_isFault : Value) (g_t_readLaw : Value) (g_t_read : Value) (g_t_undone : Value) (g_t_undos : Value) (g_t_aside : Value) (g_t_coat : Value) (g_t_bestCoats : Value) (g_t_bestStand : Value) (g_t_bestPaint : Value) (g_t_kept : Value) (g_t_keptUndos : Value) (g_t_isKept : Value) (g_t_lanes : Value) (g_t_sizes : Value) (g_t_items : Value) (g_t_moved : Value) (t_now : Nat → Int32) (p0 : Int32) (p1 : Int32) (F : Nat) (out : Int32) (h : m_X9_heldBy F t_now p0 p1 = some out) : MetR l D cy yX9_heldBy cX9_heldBy 6 (some .int) (rmG 3 64) [.ref a_t, .int p0, .int p1] [(a_t, .inr (9, [.ref a_t_now, g_t_tape, g_t_typed, g_t_place, g_t_isFault, g_t_readLaw, g_t_read, g_t_undone, g_t_undos, g_t_aside, g_t_coat, g_t_bestCoats, g_t_bestStand, g_t_bestPaint, g_t_kept, g_t_keptUndos, g_t_isKept, g_t_lanes, g_t_sizes, g_t_items, g_t_moved])), (a_t_now, .inl (cy 0, 24, .inl t_now))] (some (.int out)) := by
  refine startR (own := RX9) (by decide) rfl (Nat.le_of_ble_eq_true rfl) ?_
  intro p e s m below meth c QQ hx hb hml hown hg hK hP hret ls hl
  have hl : lv_has ls 6 [(0, .ref a_t), (1, .int p0), (2, .int p1)] := hl
  unfold m_X9_heldBy at h
  refine lv_iconst (v := 0) hx hb dX9_heldBy_0 kI_0 ?_
  refine lv_istore_n (lv' := [(3, .int 0), (0, .ref a_t), (1, .int p0), (2, .int p1)]) hx hb dX9_heldBy_1 rfl hl (by decide) rfl (fun ls hl => ?_)
  refine lv_iconst (v := 0) hx hb dX9_heldBy_2 kI_0 ?_
  refine lv_istore (lv' := [(4, .int 0), (3, .int 0), (0, .ref a_t), (1, .int p0), (2, .int p1)]) hx hb dX9_heldBy_3 hl (by decide) rfl (fun ls hl => ?_)
  obtain ⟨k4, hk4, h⟩ := kap (fun z => m_X9_heldBy_L5 t_now p0 p1 F z F 0 0) h
  have J4 : ∀ (x3 : Int32) (ls : Array Slot), lv_has ls 6 [(3, .int x3)] → k4 x3 = some out → W p l e (rmG 3 64) s m [.ref a_t, .int p0, .int p1].toArray below meth c s.heap [] 0 0 QQ (F0 m 83 ls []) := by
    intro x3 ls hl h
    rw [hk4] at h
    refine lv_iload_n hx hb dX9_heldBy_83 rfl (lv_at hl 0 rfl) ?_
    exact hret _ ls 84 dX9_heldBy_84 rfl (congrArg (fun z => some (Value.int z)) (Option.some.inj h))
  have L5 : ∀ (n5 : Nat) (x1 : Int32) (x2 : Int32) (ls : Array Slot), lv_has ls 6 [(4, .int x1), (3, .int x2), (0, .ref a_t), (1, .int p0), (2, .int p1)] → m_X9_heldBy_L5 t_now p0 p1 F k4 n5 x1 x2 = some out → W p l e (rmG 3 64) s m [.ref a_t, .int p0, .int p1].toArray below meth c s.heap [] 0 0 QQ (F0 m 5 ls []) := by
    intro n5
    induction n5 with
    | zero => intro x1 x2 ls hl h; exact nomatch (show (none : Option (Int32)) = some out from h)
    | succ n5 ih =>
        intro x1 x2 ls hl h
        have h : m_X9_heldBy_L5s t_now p0 p1 F k4 (m_X9_heldBy_L5 t_now p0 p1 F k4 n5) x1 x2 = some out := h
        unfold m_X9_heldBy_L5s at h
        refine lv_iload hx hb dX9_heldBy_5 (lv_at hl 0 rfl) ?_
        refine lv_aload_n hx hb dX9_heldBy_7 rfl (lv_at hl 2 rfl) ?_
        refine va_get (D := D) (ci := 9) (v := .ref a_t_now) (C := RX9) (T := TX9) (N := 21) hx hb hg inG_X9 hown hK hP 0 rfl rfl 0 (by decide) (hg _ q_945) (fun _ h9 => h9) rfl dX9_heldBy_8 ?_
        refine lv_iconst (v := 0) hx hb dX9_heldBy_11 kI_0 ?_
        refine ialdK hx hb hK hP 1 0 rfl rfl (vp_in_inb (by decide)) kN_0 dX9_heldBy_12 ?_
        refine lv_icmp_ge (tgt := 83) hx hb dX9_heldBy_13 (by decide) (fun c7 => ?_) (fun c7 => ?_)
        · have h := it_t c7 h
          exact J4 x2 _ (lv_sub hl [1] rfl) h
        · have h := it_f c7 h
          refine lv_iconst (v := 0) hx hb dX9_heldBy_16 kI_0 ?_
          refine lv_istore (lv' := [(5, .int 0), (4, .int x1), (3, .int x2), (0, .ref a_t), (1, .int p0), (2, .int p1)]) hx hb dX9_heldBy_17 hl (by decide) rfl (fun ls hl => ?_)
          obtain ⟨k12, hk12, h⟩ := kap (fun z => m_X9_heldBy_L19 t_now p0 p1 x1 z F 0 x2) h
          have J12 : ∀ (x10 : Int32) (ls : Array Slot), lv_has ls 6 [(4, .int x1), (3, .int x10), (0, .ref a_t), (1, .int p0), (2, .int p1)] → k12 x10 = some out → W p l e (rmG 3 64) s m [.ref a_t, .int p0, .int p1].toArray below meth c s.heap [] 0 0 QQ (F0 m 77 ls []) := by
            intro x10 ls hl h
            rw [hk12] at h
            obtain ⟨x11, ex11⟩ : ∃ y : Int32, y = x1 + 1 := ⟨_, rfl⟩
            have h := bnd_e ex11 h
            refine lv_iinc (v := x11) (lv' := [(4, .int x11), (3, .int x10), (0, .ref a_t), (1, .int p0), (2, .int p1)]) hx hb dX9_heldBy_77 hl (k := 0) rfl (inc_e kI_1 ex11) (by decide) rfl (fun ls hl => ?_)
            refine lv_goto (tgt := 5) hx hb dX9_heldBy_80 (by decide) ?_
            exact ih x11 x10 _ (lv_sub hl [0, 1, 2, 3, 4] rfl) h
          have L13 : ∀ (n13 : Nat) (x8 : Int32) (x9 : Int32) (ls : Array Slot), lv_has ls 6 [(5, .int x8), (4, .int x1), (3, .int x9), (0, .ref a_t), (1, .int p0), (2, .int p1)] → m_X9_heldBy_L19 t_now p0 p1 x1 k12 n13 x8 x9 = some out → W p l e (rmG 3 64) s m [.ref a_t, .int p0, .int p1].toArray below meth c s.heap [] 0 0 QQ (F0 m 19 ls []) := by
            intro n13
            induction n13 with
            | zero => intro x8 x9 ls hl h; exact nomatch (show (none : Option (Int32)) = some out from h)
            | succ n13 ih =>
                intro x8 x9 ls hl h
                have h : m_X9_heldBy_L19s t_now p0 p1 x1 k12 (m_X9_heldBy_L19 t_now p0 p1 x1 k12 n13) x8 x9 = some out := h
                unfold m_X9_heldBy_L19s at h
                refine lv_iload hx hb dX9_heldBy_19 (lv_at hl 0 rfl) ?_
                refine lv_bipush (v := 12) hx hb dX9_heldBy_21 kB_12 ?_
                refine lv_icmp_ge (tgt := 77) hx hb dX9_heldBy_23 (by decide) (fun c15 => ?_) (fun c15 => ?_)
                · have h := it_t c15 h
                  exact J12 x9 _ (lv_sub hl [1, 2, 3, 4, 5] rfl) h
                · have h := it_f c15 h
                  refine lv_iload_n hx hb dX9_heldBy_26 rfl (lv_at hl 2 rfl) ?_
                  refine lv_iload_n hx hb dX9_heldBy_27 rfl (lv_at hl 4 rfl) ?_
                  refine lv_iload hx hb dX9_heldBy_28 (lv_at hl 1 rfl) ?_
                  refine lv_ishr hx hb dX9_heldBy_30 ?_
                  refine lv_iconst (v := 1) hx hb dX9_heldBy_31 kI_1 ?_
                  refine lv_iand hx hb dX9_heldBy_32 ?_
                  refine lv_iconst (v := 1) hx hb dX9_heldBy_33 kI_1 ?_
                  refine lv_icmp_ne (tgt := 68) hx hb dX9_heldBy_34 (by decide) (fun c16 => ?_) (fun c16 => ?_)
                  · have h := it_f c16 h
                    refine lv_iconst (v := 0) hx hb dX9_heldBy_68 kI_0 ?_
                    refine lv_ior hx hb dX9_heldBy_69 ?_
                    refine lv_topi (fun x17 ex17 => ?_)
                    have h := bnd_e ex17 h
                    refine lv_istore_n (lv' := [(3, .int x17), (5, .int x8), (4, .int x1), (0, .ref a_t), (1, .int p0), (2, .int p1)]) hx hb dX9_heldBy_70 rfl hl (by decide) rfl (fun ls hl => ?_)
                    obtain ⟨x18, ex18⟩ : ∃ y : Int32, y = x8 + 1 := ⟨_, rfl⟩
                    have h := bnd_e ex18 h
                    refine lv_iinc (v := x18) (lv' := [(5, .int x18), (3, .int x17), (4, .int x1), (0, .ref a_t), (1, .int p0), (2, .int p1)]) hx hb dX9_heldBy_71 hl (k := 1) rfl (inc_e kI_1 ex18) (by decide) rfl (fun ls hl => ?_)
                    refine lv_goto (tgt := 19) hx hb dX9_heldBy_74 (by decide) ?_
                    exact ih x18 x17 _ (lv_sub hl [0, 2, 1, 3, 4, 5] rfl) h
                  · have h := it_t c16 h
                    refine lv_aload_n hx hb dX9_heldBy_37 rfl (lv_at hl 3 rfl) ?_
                    refine lv_iload hx hb dX9_heldBy_38 (lv_at hl 1 rfl) ?_
                    obtain ⟨v19, hv19, h⟩ := bind_e h
                    refine callRV (As := [.int x1]) (rest := [.int x9]) (v0 := .int v19) hx hb hml hown hg (c_X9_stands l D cy a_t a_t_now (g_t_tape) (g_t_typed) (g_t_place) (g_t_isFault) (g_t_readLaw) (g_t_read) (g_t_undone) (g_t_undos) (g_t_aside) (g_t_coat) (g_t_bestCoats) (g_t_bestStand) (g_t_bestPaint) (g_t_kept) (g_t_keptUndos) (g_t_isKept) (g_t_lanes) (g_t_sizes) (g_t_items) (g_t_moved) t_now x1 v19 hv19) q_1067 q_1064 q_63 q_1066 q_32 hd_X9_stands ⟨(Nat.le_of_ble_eq_true rfl), (Nat.le_of_ble_eq_true rfl)⟩ hK hP [0, 1] rfl 0 9 rfl rfl rfl rfl rfl rfl hl.1 rfl (Nat.le_of_ble_eq_true rfl) dX9_heldBy_40 ?_
                    refine lv_if_eq (tgt := 68) hx hb dX9_heldBy_43 (by decide) (fun c20 => ?_) (fun c20 => ?_)
                    · have h := it_t c20 h
                      refine lv_iconst (v := 0) hx hb dX9_heldBy_68 kI_0 ?_
                      refine lv_ior hx hb dX9_heldBy_69 ?_
                      refine lv_topi (fun x21 ex21 => ?_)
                      have h := bnd_e ex21 h
                      refine lv_istore_n (lv' := [(3, .int x21), (5, .int x8), (4, .int x1), (0, .ref a_t), (1, .int p0), (2, .int p1)]) hx hb dX9_heldBy_70 rfl hl (by decide) rfl (fun ls hl => ?_)
                      obtain ⟨x22, ex22⟩ : ∃ y : Int32, y = x8 + 1 := ⟨_, rfl⟩
                      have h := bnd_e ex22 h
                      refine lv_iinc (v := x22) (lv' := [(5, .int x22), (3, .int x21), (4, .int x1), (0, .ref a_t), (1, .int p0), (2, .int p1)]) hx hb dX9_heldBy_71 hl (k := 1) rfl (inc_e kI_1 ex22) (by decide) rfl (fun ls hl => ?_)
                      refine lv_goto (tgt := 19) hx hb dX9_heldBy_74 (by decide) ?_
                      exact ih x22 x21 _ (lv_sub hl [0, 2, 1, 3, 4, 5] rfl) h
                    · have h := it_f c20 h
                      refine lv_iload hx hb dX9_heldBy_46 (lv_at hl 0 rfl) ?_
                      refine lv_aload_n hx hb dX9_heldBy_48 rfl (lv_at hl 3 rfl) ?_
                      refine lv_iload hx hb dX9_heldBy_49 (lv_at hl 1 rfl) ?_
                      obtain ⟨v23, hv23, h⟩ := bind_e h
                      refine callRV (As := [.int x1]) (rest := [.int x8, .int x9]) (v0 := .int v23) hx hb hml hown hg (c_X9_inchOf l D cy a_t a_t_now (g_t_tape) (g_t_typed) (g_t_place) (g_t_isFault) (g_t_readLaw) (g_t_read) (g_t_undone) (g_t_undos) (g_t_aside) (g_t_coat) (g_t_bestCoats) (g_t_bestStand) (g_t_bestPaint) (g_t_kept) (g_t_keptUndos) (g_t_isKept) (g_t_lanes) (g_t_sizes) (g_t_items) (g_t_moved) t_now x1 v23 hv23) q_1029 q_1026 q_63 q_1028 q_25 hd_X9_inchOf ⟨(Nat.le_of_ble_eq_true rfl), (Nat.le_of_ble_eq_true rfl)⟩ hK hP [0, 1] rfl 0 9 rfl rfl rfl rfl rfl rfl hl.1 rfl (Nat.le_of_ble_eq_true rfl) dX9_heldBy_51 ?_
                      obtain ⟨v24, hv24, h⟩ := bind_e h
                      refine callRS (As := [.int x8, .int v23]) (rest := [.int x9]) (v0 := .int v24) hx hb hml hown hg (c_X9_apart l D cy x8 v23 v24 hv24) q_1070 q_1068 q_63 q_1069 hd_X9_apart ⟨(Nat.le_of_ble_eq_true rfl), (Nat.le_of_ble_eq_true rfl)⟩ hK hP [] rfl rfl rfl rfl hl.1 rfl (Nat.le_of_ble_eq_true rfl) dX9_heldBy_54 ?_
                      refine lv_iload_n hx hb dX9_heldBy_57 rfl (lv_at hl 5 rfl) ?_
                      refine lv_icmp_gt (tgt := 68) hx hb dX9_heldBy_58 (by decide) (fun c25 => ?_) (fun c25 => ?_)
                      · have h := it_t c25 h
                        refine lv_iconst (v := 0) hx hb dX9_heldBy_68 kI_0 ?_
                        refine lv_ior hx hb dX9_heldBy_69 ?_
                        refine lv_topi (fun x26 ex26 => ?_)
                        have h := bnd_e ex26 h
                        refine lv_istore_n (lv' := [(3, .int x26), (5, .int x8), (4, .int x1), (0, .ref a_t), (1, .int p0), (2, .int p1)]) hx hb dX9_heldBy_70 rfl hl (by decide) rfl (fun ls hl => ?_)
                        obtain ⟨x27, ex27⟩ : ∃ y : Int32, y = x8 + 1 := ⟨_, rfl⟩
                        have h := bnd_e ex27 h
                        refine lv_iinc (v := x27) (lv' := [(5, .int x27), (3, .int x26), (4, .int x1), (0, .ref a_t), (1, .int p0), (2, .int p1)]) hx hb dX9_heldBy_71 hl (k := 1) rfl (inc_e kI_1 ex27) (by decide) rfl (fun ls hl => ?_)
                        refine lv_goto (tgt := 19) hx hb dX9_heldBy_74 (by decide) ?_
                        exact ih x27 x26 _ (lv_sub hl [0, 2, 1, 3, 4, 5] rfl) h
                      · have h := it_f c25 h
                        refine lv_iconst (v := 1) hx hb dX9_heldBy_61 kI_1 ?_
                        refine lv_iload hx hb dX9_heldBy_62 (lv_at hl 0 rfl) ?_
                        refine lv_ishl hx hb dX9_heldBy_64 ?_
                        refine lv_goto (tgt := 69) hx hb dX9_heldBy_65 (by decide) ?_
                        refine lv_ior hx hb dX9_heldBy_69 ?_
                        refine lv_topi (fun x28 ex28 => ?_)
                        have h := bnd_e ex28 h
                        refine lv_istore_n (lv' := [(3, .int x28), (5, .int x8), (4, .int x1), (0, .ref a_t), (1, .int p0), (2, .int p1)]) hx hb dX9_heldBy_70 rfl hl (by decide) rfl (fun ls hl => ?_)
                        obtain ⟨x29, ex29⟩ : ∃ y : Int32, y = x8 + 1 := ⟨_, rfl⟩
                        have h := bnd_e ex29 h
                        refine lv_iinc (v := x29) (lv' := [(5, .int x29), (3, .int x28), (4, .int x1), (0, .ref a_t), (1, .int p0), (2, .int p1)]) hx hb dX9_heldBy_71 hl (k := 1) rfl (inc_e kI_1 ex29) (by decide) rfl (fun ls hl => ?_)
                        refine lv_goto (tgt := 19) hx hb dX9_heldBy_74 (by decide) ?_
                        exact ih x29 x28 _ (lv_sub hl [0, 2, 1, 3, 4, 5] rfl) h
          exact L13 F 0 x2 _ (lv_sub hl [0, 1, 2, 3, 4, 5] rfl) h
  exact L5 F 0 0 _ (lv_sub hl [0, 1, 2, 3, 4] rfl) h

def m_X9_held (F : Nat) (t_now : Nat → Int32) (p0 : Int32) : Option (Int32) := (m_X9_in (p0.toInt64) (0 : Int64) (5 : Int64)).bind (fun v1 => (if v1 = 0 then some (-1) else (m_X9_heldBy F t_now 63 p0).bind (fun v3 => some v3)))
set_option maxHeartbeats 4000000 in
set_option maxRecDepth 100000 in
theorem c_X9_held (l : Launch) (D : va_G) (cy : Nat → ClassId) (a_t : Nat) (a_t_now : Nat) (g_t_tape : Value) (g_t_typed : Value) (g_t_place : Value) (g_t_isFault : Value) (g_t_readLaw : Value) (g_t_read : Value) (g_t_undone : Value) (g_t_undos : Value) (g_t_aside : Value) (g_t_coat : Value) (g_t_bestCoats : Value) (g_t_bestStand : Value) (g_t_bestPaint : Value) (g_t_kept : Value) (g_t_keptUndos : Value) (g_t_isKept : Value) (g_t_lanes : Value) (g_t_sizes : Value) (g_t_items : Value) (g_t_moved : Value) (t_now : Nat → Int32) (p0 : Int32) (F : Nat) (out : Int32) (h : m_X9_held F t_now p0 = some out) : MetR l D cy yX9_held cX9_held 2 (some .int) (rmG 4 89) [.ref a_t, .int p0] [(a_t, .inr (9, [.ref a_t_now, g_t_tape, g_t_typed, g_t_place, g_t_isFault, g_t_readLaw, g_t_read, g_t_undone, g_t_undos, g_t_aside, g_t_coat, g_t_bestCoats, g_t_bestStand, g_t_bestPaint, g_t_kept, g_t_keptUndos, g_t_isKept, g_t_lanes, g_t_sizes, g_t_items, g_t_moved])), (a_t_now, .inl (cy 0, 24, .inl t_now))] (some (.int out)) := by
  refine startR (own := RX9) (by decide) rfl (Nat.le_of_ble_eq_true rfl) ?_
  intro p e s m below meth c QQ hx hb hml hown hg hK hP hret ls hl
  have hl : lv_has ls 2 [(0, .ref a_t), (1, .int p0)] := hl
  unfold m_X9_held at h
  refine lv_iload_n hx hb dX9_held_0 rfl (lv_at hl 1 rfl) ?_
  refine lv_i2l (v := p0.toInt64) hx hb dX9_held_1 rfl ?_
  refine lv_lconst (v := 0) hx hb dX9_held_2 kL_0 ?_
  refine lv_ldc2 (v := 5) hx hb hown (hg _ q_1095) dX9_held_3 ?_
  obtain ⟨v1, hv1, h⟩ := bind_e h
  refine callRS (As := [.long (p0.toInt64), .long 0, .long 5]) (rest := []) (v0 := .int v1) hx hb hml hown hg (c_X9_in l D cy (p0.toInt64) (0 : Int64) (5 : Int64) v1 hv1) q_1016 q_1014 q_63 q_1015 hd_X9_in ⟨(Nat.le_of_ble_eq_true rfl), (Nat.le_of_ble_eq_true rfl)⟩ hK hP [] rfl rfl rfl rfl hl.1 rfl (Nat.le_of_ble_eq_true rfl) dX9_held_6 ?_
  refine lv_if_eq (tgt := 22) hx hb dX9_held_9 (by decide) (fun c2 => ?_) (fun c2 => ?_)
  · have h := it_t c2 h
    refine lv_iconst (v := (-1)) hx hb dX9_held_22 kI_m1 ?_
    exact hret _ ls 23 dX9_held_23 rfl (congrArg (fun z => some (Value.int z)) (Option.some.inj h))
  · have h := it_f c2 h
    refine lv_aload_n hx hb dX9_held_12 rfl (lv_at hl 0 rfl) ?_
    refine lv_bipush (v := 63) hx hb dX9_held_13 kB_63 ?_
    refine lv_iload_n hx hb dX9_held_15 rfl (lv_at hl 1 rfl) ?_
    obtain ⟨v3, hv3, h⟩ := bind_e h
    refine callRV (As := [.int 63, .int p0]) (rest := []) (v0 := .int v3) hx hb hml hown hg (c_X9_heldBy l D cy a_t a_t_now (g_t_tape) (g_t_typed) (g_t_place) (g_t_isFault) (g_t_readLaw) (g_t_read) (g_t_undone) (g_t_undos) (g_t_aside) (g_t_coat) (g_t_bestCoats) (g_t_bestStand) (g_t_bestPaint) (g_t_kept) (g_t_keptUndos) (g_t_isKept) (g_t_lanes) (g_t_sizes) (g_t_items) (g_t_moved) t_now 63 p0 F v3 hv3) q_1099 q_1096 q_63 q_1098 q_35 hd_X9_heldBy ⟨(Nat.le_of_ble_eq_true rfl), (Nat.le_of_ble_eq_true rfl)⟩ hK hP [0, 1] rfl 0 9 rfl rfl rfl rfl rfl rfl hl.1 rfl (Nat.le_of_ble_eq_true rfl) dX9_held_16 ?_
    refine lv_goto (tgt := 23) hx hb dX9_held_19 (by decide) ?_
    exact hret _ ls 23 dX9_held_23 rfl (congrArg (fun z => some (Value.int z)) (Option.some.inj h))

def m_X9_paintAll_L4s (t_now : Nat → Int32) (p0 : Int32) (k4 : Int32 → Option (Int32)) (r6 : Int32 → Int32 → Option (Int32)) (x1 : Int32) (x2 : Int32) : Option (Int32) := (if (t_now 0) ≤ x1 then k4 x2 else (if ((p0 >>> (x1 &&& 31)) &&& 1) = 1 then (m_X9_paintOf t_now x1).bind (fun v11 => bnd (x2 + v11) (fun x12 => bnd (x1 + 1) (fun x13 => r6 x13 x12))) else bnd (x2 + 0) (fun x9 => bnd (x1 + 1) (fun x10 => r6 x10 x9))))
def m_X9_paintAll_L4 (t_now : Nat → Int32) (p0 : Int32) (k4 : Int32 → Option (Int32)) : Nat → Int32 → Int32 → Option (Int32)
  | 0 => fun _ _ => none
  | nF + 1 => m_X9_paintAll_L4s t_now p0 k4 (m_X9_paintAll_L4 t_now p0 k4 nF)
def m_X9_paintAll (F : Nat) (t_now : Nat → Int32) (p0 : Int32) : Option (Int32) := m_X9_paintAll_L4 t_now p0 (fun (x3 : Int32) => some x3) F 0 0
set_option maxHeartbeats 4000000 in
set_option maxRecDepth 100000 in
theorem c_X9_paintAll (l : Launch) (D : va_G) (cy : Nat → ClassId) (a_t : Nat) (a_t_now : Nat) (g_t_tape : Value) (g_t_typed : Value) (g_t_place : Value) (g_t_isFault : Value) (g_t_readLaw : Value) (g_t_read : Value) (g_t_undone : Value) (g_t_undos : Value) (g_t_aside : Value) (g_t_coat : Value) (g_t_bestCoats : Value) (g_t_bestStand : Value) (g_t_bestPaint : Value) (g_t_kept : Value) (g_t_keptUndos : Value) (g_t_isKept : Value) (g_t_lanes : Value) (g_t_sizes : Value) (g_t_items : Value) (g_t_moved : Value) (t_now : Nat → Int32) (p0 : Int32) (F : Nat) (out : Int32) (h : m_X9_paintAll F t_now p0 = some out) : MetR l D cy yX9_paintAll cX9_paintAll 4 (some .int) (rmG 2 43) [.ref a_t, .int p0] [(a_t, .inr (9, [.ref a_t_now, g_t_tape, g_t_typed, g_t_place, g_t_isFault, g_t_readLaw, g_t_read, g_t_undone, g_t_undos, g_t_aside, g_t_coat, g_t_bestCoats, g_t_bestStand, g_t_bestPaint, g_t_kept, g_t_keptUndos, g_t_isKept, g_t_lanes, g_t_sizes, g_t_items, g_t_moved])), (a_t_now, .inl (cy 0, 24, .inl t_now))] (some (.int out)) := by
  refine startR (own := RX9) (by decide) rfl (Nat.le_of_ble_eq_true rfl) ?_
  intro p e s m below meth c QQ hx hb hml hown hg hK hP hret ls hl
  have hl : lv_has ls 4 [(0, .ref a_t), (1, .int p0)] := hl
  unfold m_X9_paintAll at h
  refine lv_iconst (v := 0) hx hb dX9_paintAll_0 kI_0 ?_
  refine lv_istore_n (lv' := [(2, .int 0), (0, .ref a_t), (1, .int p0)]) hx hb dX9_paintAll_1 rfl hl (by decide) rfl (fun ls hl => ?_)
  refine lv_iconst (v := 0) hx hb dX9_paintAll_2 kI_0 ?_
  refine lv_istore_n (lv' := [(3, .int 0), (2, .int 0), (0, .ref a_t), (1, .int p0)]) hx hb dX9_paintAll_3 rfl hl (by decide) rfl (fun ls hl => ?_)
  obtain ⟨k4, hk4, h⟩ := kap (fun z => m_X9_paintAll_L4 t_now p0 z F 0 0) h
  have J4 : ∀ (x3 : Int32) (ls : Array Slot), lv_has ls 4 [(2, .int x3)] → k4 x3 = some out → W p l e (rmG 2 43) s m [.ref a_t, .int p0].toArray below meth c s.heap [] 0 0 QQ (F0 m 41 ls []) := by
    intro x3 ls hl h
    rw [hk4] at h
    refine lv_iload_n hx hb dX9_paintAll_41 rfl (lv_at hl 0 rfl) ?_
    exact hret _ ls 42 dX9_paintAll_42 rfl (congrArg (fun z => some (Value.int z)) (Option.some.inj h))
  have L5 : ∀ (n5 : Nat) (x1 : Int32) (x2 : Int32) (ls : Array Slot), lv_has ls 4 [(3, .int x1), (2, .int x2), (0, .ref a_t), (1, .int p0)] → m_X9_paintAll_L4 t_now p0 k4 n5 x1 x2 = some out → W p l e (rmG 2 43) s m [.ref a_t, .int p0].toArray below meth c s.heap [] 0 0 QQ (F0 m 4 ls []) := by
    intro n5
    induction n5 with
    | zero => intro x1 x2 ls hl h; exact nomatch (show (none : Option (Int32)) = some out from h)
    | succ n5 ih =>
        intro x1 x2 ls hl h
        have h : m_X9_paintAll_L4s t_now p0 k4 (m_X9_paintAll_L4 t_now p0 k4 n5) x1 x2 = some out := h
        unfold m_X9_paintAll_L4s at h
        refine lv_iload_n hx hb dX9_paintAll_4 rfl (lv_at hl 0 rfl) ?_
        refine lv_aload_n hx hb dX9_paintAll_5 rfl (lv_at hl 2 rfl) ?_
        refine va_get (D := D) (ci := 9) (v := .ref a_t_now) (C := RX9) (T := TX9) (N := 21) hx hb hg inG_X9 hown hK hP 0 rfl rfl 0 (by decide) (hg _ q_945) (fun _ h9 => h9) rfl dX9_paintAll_6 ?_
        refine lv_iconst (v := 0) hx hb dX9_paintAll_9 kI_0 ?_
        refine ialdK hx hb hK hP 1 0 rfl rfl (vp_in_inb (by decide)) kN_0 dX9_paintAll_10 ?_
        refine lv_icmp_ge (tgt := 41) hx hb dX9_paintAll_11 (by decide) (fun c7 => ?_) (fun c7 => ?_)
        · have h := it_t c7 h
          exact J4 x2 _ (lv_sub hl [1] rfl) h
        · have h := it_f c7 h
          refine lv_iload_n hx hb dX9_paintAll_14 rfl (lv_at hl 1 rfl) ?_
          refine lv_iload_n hx hb dX9_paintAll_15 rfl (lv_at hl 3 rfl) ?_
          refine lv_iload_n hx hb dX9_paintAll_16 rfl (lv_at hl 0 rfl) ?_
          refine lv_ishr hx hb dX9_paintAll_17 ?_
          refine lv_iconst (v := 1) hx hb dX9_paintAll_18 kI_1 ?_
          refine lv_iand hx hb dX9_paintAll_19 ?_
          refine lv_iconst (v := 1) hx hb dX9_paintAll_20 kI_1 ?_
          refine lv_icmp_ne (tgt := 32) hx hb dX9_paintAll_21 (by decide) (fun c8 => ?_) (fun c8 => ?_)
          · have h := it_f c8 h
            refine lv_iconst (v := 0) hx hb dX9_paintAll_32 kI_0 ?_
            refine lv_iadd hx hb dX9_paintAll_33 ?_
            refine lv_topi (fun x9 ex9 => ?_)
            have h := bnd_e ex9 h
            refine lv_istore_n (lv' := [(2, .int x9), (3, .int x1), (0, .ref a_t), (1, .int p0)]) hx hb dX9_paintAll_34 rfl hl (by decide) rfl (fun ls hl => ?_)
            obtain ⟨x10, ex10⟩ : ∃ y : Int32, y = x1 + 1 := ⟨_, rfl⟩
            have h := bnd_e ex10 h
            refine lv_iinc (v := x10) (lv' := [(3, .int x10), (2, .int x9), (0, .ref a_t), (1, .int p0)]) hx hb dX9_paintAll_35 hl (k := 1) rfl (inc_e kI_1 ex10) (by decide) rfl (fun ls hl => ?_)
            refine lv_goto (tgt := 4) hx hb dX9_paintAll_38 (by decide) ?_
            exact ih x10 x9 _ (lv_sub hl [0, 1, 2, 3] rfl) h
          · have h := it_t c8 h
            refine lv_aload_n hx hb dX9_paintAll_24 rfl (lv_at hl 2 rfl) ?_
            refine lv_iload_n hx hb dX9_paintAll_25 rfl (lv_at hl 0 rfl) ?_
            obtain ⟨v11, hv11, h⟩ := bind_e h
            refine callRV (As := [.int x1]) (rest := [.int x2]) (v0 := .int v11) hx hb hml hown hg (c_X9_paintOf l D cy a_t a_t_now (g_t_tape) (g_t_typed) (g_t_place) (g_t_isFault) (g_t_readLaw) (g_t_read) (g_t_undone) (g_t_undos) (g_t_aside) (g_t_coat) (g_t_bestCoats) (g_t_bestStand) (g_t_bestPaint) (g_t_kept) (g_t_keptUndos) (g_t_isKept) (g_t_lanes) (g_t_sizes) (g_t_items) (g_t_moved) t_now x1 v11 hv11) q_1059 q_1056 q_63 q_1058 q_30 hd_X9_paintOf ⟨(Nat.le_of_ble_eq_true rfl), (Nat.le_of_ble_eq_true rfl)⟩ hK hP [0, 1] rfl 0 9 rfl rfl rfl rfl rfl rfl hl.1 rfl (Nat.le_of_ble_eq_true rfl) dX9_paintAll_26 ?_
            refine lv_goto (tgt := 33) hx hb dX9_paintAll_29 (by decide) ?_
            refine lv_iadd hx hb dX9_paintAll_33 ?_
            refine lv_topi (fun x12 ex12 => ?_)
            have h := bnd_e ex12 h
            refine lv_istore_n (lv' := [(2, .int x12), (3, .int x1), (0, .ref a_t), (1, .int p0)]) hx hb dX9_paintAll_34 rfl hl (by decide) rfl (fun ls hl => ?_)
            obtain ⟨x13, ex13⟩ : ∃ y : Int32, y = x1 + 1 := ⟨_, rfl⟩
            have h := bnd_e ex13 h
            refine lv_iinc (v := x13) (lv' := [(3, .int x13), (2, .int x12), (0, .ref a_t), (1, .int p0)]) hx hb dX9_paintAll_35 hl (k := 1) rfl (inc_e kI_1 ex13) (by decide) rfl (fun ls hl => ?_)
            refine lv_goto (tgt := 4) hx hb dX9_paintAll_38 (by decide) ?_
            exact ih x13 x12 _ (lv_sub hl [0, 1, 2, 3] rfl) h
  exact L5 F 0 0 _ (lv_sub hl [0, 1, 2, 3] rfl) h

def m_X9_count (F : Nat) (t_now : Nat → Int32) (t_undos : Int32) (p0 : Int32) : Option (Int32) := ((if p0 = 0 then some (t_now 0) else (if p0 = 1 then (m_X9_standing F t_now).bind (fun v3 => (m_X9_many F v3).bind (fun v4 => some v4)) else (if p0 = 2 then some (t_now 1) else (if p0 = 3 then (m_X9_standing F t_now).bind (fun v7 => some v7) else (if p0 = 4 then (m_X9_heldBy F t_now 63 0).bind (fun v9 => some v9) else (if p0 = 5 then (m_X9_paintAll F t_now 63).bind (fun v11 => some v11) else (if p0 = 6 then chk ((2 + p0) - 6) 24 (some (t_now ((2 + p0) - 6).toNatClampNeg)) else (if p0 = 7 then chk ((2 + p0) - 6) 24 (some (t_now ((2 + p0) - 6).toNatClampNeg)) else (if p0 = 8 then chk ((2 + p0) - 6) 24 (some (t_now ((2 + p0) - 6).toNatClampNeg)) else (if p0 = 9 then some t_undos else some (-1))))))))))))
set_option maxHeartbeats 4000000 in
set_option maxRecDepth 100000 in
theorem c_X9_count (l : Launch) (D : va_G) (cy : Nat → ClassId) (a_t : Nat) (a_t_now : Nat) (g_t_tape : Value) (g_t_typed : Value) (g_t_place : Value) (g_t_isFault : Value) (g_t_readLaw : Value) (g_t_read : Value) (g_t_undone : Value) (g_t_aside : Value) (g_t_coat : Value) (g_t_bestCoats : Value) (g_t_bestStand : Value) (g_t_bestPaint : Value) (g_t_kept : Value) (g_t_keptUndos : Value) (g_t_isKept : Value) (g_t_lanes : Value) (g_t_sizes : Value) (g_t_items : Value) (g_t_moved : Value) (t_now : Nat → Int32) (t_undos : Int32) (p0 : Int32) (F : Nat) (out : Int32) (h : m_X9_count F t_now t_undos p0 = some out) : MetR l D cy yX9_count cX9_count 2 (some .int) (rmG 4 89) [.ref a_t, .int p0] [(a_t, .inr (9, [.ref a_t_now, g_t_tape, g_t_typed, g_t_place, g_t_isFault, g_t_readLaw, g_t_read, g_t_undone, .int t_undos, g_t_aside, g_t_coat, g_t_bestCoats, g_t_bestStand, g_t_bestPaint, g_t_kept, g_t_keptUndos, g_t_isKept, g_t_lanes, g_t_sizes, g_t_items, g_t_moved])), (a_t_now, .inl (cy 0, 24, .inl t_now))] (some (.int out)) := by
  refine startR (own := RX9) (by decide) rfl (Nat.le_of_ble_eq_true rfl) ?_
  intro p e s m below meth c QQ hx hb hml hown hg hK hP hret ls hl
  have hl : lv_has ls 2 [(0, .ref a_t), (1, .int p0)] := hl
  unfold m_X9_count at h
  refine lv_iload_n hx hb dX9_count_0 rfl (lv_at hl 1 rfl) ?_
  by_cases c1 : p0 = 0
  · refine lv_tableIn (off := 55) (tgt := 56) hx hb dX9_count_1 (by rw [c1]; decide) (by rw [c1]; decide) (by rw [c1]; decide) (by decide) ?_
    have h := it_t c1 h
    refine lv_aload_n hx hb dX9_count_56 rfl (lv_at hl 0 rfl) ?_
    refine va_get (D := D) (ci := 9) (v := .ref a_t_now) (C := RX9) (T := TX9) (N := 21) hx hb hg inG_X9 hown hK hP 0 rfl rfl 0 (by decide) (hg _ q_945) (fun _ h9 => h9) rfl dX9_count_57 ?_
    refine lv_iconst (v := 0) hx hb dX9_count_60 kI_0 ?_
    refine ialdK hx hb hK hP 1 0 rfl rfl (vp_in_inb (by decide)) kN_0 dX9_count_61 ?_
    exact hret _ ls 62 dX9_count_62 rfl (congrArg (fun z => some (Value.int z)) (Option.some.inj h))
  have h := it_f c1 h
  by_cases c2 : p0 = 1
  · refine lv_tableIn (off := 62) (tgt := 63) hx hb dX9_count_1 (by rw [c2]; decide) (by rw [c2]; decide) (by rw [c2]; decide) (by decide) ?_
    have h := it_t c2 h
    refine lv_aload_n hx hb dX9_count_63 rfl (lv_at hl 0 rfl) ?_
    obtain ⟨v3, hv3, h⟩ := bind_e h
    refine callRV (As := []) (rest := []) (v0 := .int v3) hx hb hml hown hg (c_X9_standing l D cy a_t a_t_now (g_t_tape) (g_t_typed) (g_t_place) (g_t_isFault) (g_t_readLaw) (g_t_read) (g_t_undone) (.int t_undos) (g_t_aside) (g_t_coat) (g_t_bestCoats) (g_t_bestStand) (g_t_bestPaint) (g_t_kept) (g_t_keptUndos) (g_t_isKept) (g_t_lanes) (g_t_sizes) (g_t_items) (g_t_moved) t_now F v3 hv3) q_1077 q_1074 q_63 q_1076 q_33 hd_X9_standing ⟨(Nat.le_of_ble_eq_true rfl), (Nat.le_of_ble_eq_true rfl)⟩ hK hP [0, 1] rfl 0 9 rfl rfl rfl rfl rfl rfl hl.1 rfl (Nat.le_of_ble_eq_true rfl) dX9_count_64 ?_
    obtain ⟨v4, hv4, h⟩ := bind_e h
    refine callRS (As := [.int v3]) (rest := []) (v0 := .int v4) hx hb hml hown hg (c_X9_many l D cy v3 F v4 hv4) q_1073 q_1071 q_63 q_1072 hd_X9_many ⟨(Nat.le_of_ble_eq_true rfl), (Nat.le_of_ble_eq_true rfl)⟩ hK hP [] rfl rfl rfl rfl hl.1 rfl (Nat.le_of_ble_eq_true rfl) dX9_count_67 ?_
    exact hret _ ls 70 dX9_count_70 rfl (congrArg (fun z => some (Value.int z)) (Option.some.inj h))
  have h := it_f c2 h
  by_cases c5 : p0 = 2
  · refine lv_tableIn (off := 70) (tgt := 71) hx hb dX9_count_1 (by rw [c5]; decide) (by rw [c5]; decide) (by rw [c5]; decide) (by decide) ?_
    have h := it_t c5 h
    refine lv_aload_n hx hb dX9_count_71 rfl (lv_at hl 0 rfl) ?_
    refine va_get (D := D) (ci := 9) (v := .ref a_t_now) (C := RX9) (T := TX9) (N := 21) hx hb hg inG_X9 hown hK hP 0 rfl rfl 0 (by decide) (hg _ q_945) (fun _ h9 => h9) rfl dX9_count_72 ?_
    refine lv_iconst (v := 1) hx hb dX9_count_75 kI_1 ?_
    refine ialdK hx hb hK hP 1 0 rfl rfl (vp_in_inb (by decide)) kN_1 dX9_count_76 ?_
    exact hret _ ls 77 dX9_count_77 rfl (congrArg (fun z => some (Value.int z)) (Option.some.inj h))
  have h := it_f c5 h
  by_cases c6 : p0 = 3
  · refine lv_tableIn (off := 77) (tgt := 78) hx hb dX9_count_1 (by rw [c6]; decide) (by rw [c6]; decide) (by rw [c6]; decide) (by decide) ?_
    have h := it_t c6 h
    refine lv_aload_n hx hb dX9_count_78 rfl (lv_at hl 0 rfl) ?_
    obtain ⟨v7, hv7, h⟩ := bind_e h
    refine callRV (As := []) (rest := []) (v0 := .int v7) hx hb hml hown hg (c_X9_standing l D cy a_t a_t_now (g_t_tape) (g_t_typed) (g_t_place) (g_t_isFault) (g_t_readLaw) (g_t_read) (g_t_undone) (.int t_undos) (g_t_aside) (g_t_coat) (g_t_bestCoats) (g_t_bestStand) (g_t_bestPaint) (g_t_kept) (g_t_keptUndos) (g_t_isKept) (g_t_lanes) (g_t_sizes) (g_t_items) (g_t_moved) t_now F v7 hv7) q_1077 q_1074 q_63 q_1076 q_33 hd_X9_standing ⟨(Nat.le_of_ble_eq_true rfl), (Nat.le_of_ble_eq_true rfl)⟩ hK hP [0, 1] rfl 0 9 rfl rfl rfl rfl rfl rfl hl.1 rfl (Nat.le_of_ble_eq_true rfl) dX9_count_79 ?_
    exact hret _ ls 82 dX9_count_82 rfl (congrArg (fun z => some (Value.int z)) (Option.some.inj h))
  have h := it_f c6 h
  by_cases c8 : p0 = 4
  · refine lv_tableIn (off := 82) (tgt := 83) hx hb dX9_count_1 (by rw [c8]; decide) (by rw [c8]; decide) (by rw [c8]; decide) (by decide) ?_
    have h := it_t c8 h
    refine lv_aload_n hx hb dX9_count_83 rfl (lv_at hl 0 rfl) ?_
    refine lv_bipush (v := 63) hx hb dX9_count_84 kB_63 ?_
    refine lv_iconst (v := 0) hx hb dX9_count_86 kI_0 ?_
    obtain ⟨v9, hv9, h⟩ := bind_e h
    refine callRV (As := [.int 63, .int 0]) (rest := []) (v0 := .int v9) hx hb hml hown hg (c_X9_heldBy l D cy a_t a_t_now (g_t_tape) (g_t_typed) (g_t_place) (g_t_isFault) (g_t_readLaw) (g_t_read) (g_t_undone) (.int t_undos) (g_t_aside) (g_t_coat) (g_t_bestCoats) (g_t_bestStand) (g_t_bestPaint) (g_t_kept) (g_t_keptUndos) (g_t_isKept) (g_t_lanes) (g_t_sizes) (g_t_items) (g_t_moved) t_now 63 0 F v9 hv9) q_1099 q_1096 q_63 q_1098 q_35 hd_X9_heldBy ⟨(Nat.le_of_ble_eq_true rfl), (Nat.le_of_ble_eq_true rfl)⟩ hK hP [0, 1] rfl 0 9 rfl rfl rfl rfl rfl rfl hl.1 rfl (Nat.le_of_ble_eq_true rfl) dX9_count_87 ?_
    exact hret _ ls 90 dX9_count_90 rfl (congrArg (fun z => some (Value.int z)) (Option.some.inj h))
  have h := it_f c8 h
  by_cases c10 : p0 = 5
  · refine lv_tableIn (off := 90) (tgt := 91) hx hb dX9_count_1 (by rw [c10]; decide) (by rw [c10]; decide) (by rw [c10]; decide) (by decide) ?_
    have h := it_t c10 h
    refine lv_aload_n hx hb dX9_count_91 rfl (lv_at hl 0 rfl) ?_
    refine lv_bipush (v := 63) hx hb dX9_count_92 kB_63 ?_
    obtain ⟨v11, hv11, h⟩ := bind_e h
    refine callRV (As := [.int 63]) (rest := []) (v0 := .int v11) hx hb hml hown hg (c_X9_paintAll l D cy a_t a_t_now (g_t_tape) (g_t_typed) (g_t_place) (g_t_isFault) (g_t_readLaw) (g_t_read) (g_t_undone) (.int t_undos) (g_t_aside) (g_t_coat) (g_t_bestCoats) (g_t_bestStand) (g_t_bestPaint) (g_t_kept) (g_t_keptUndos) (g_t_isKept) (g_t_lanes) (g_t_sizes) (g_t_items) (g_t_moved) t_now 63 F v11 hv11) q_1107 q_1104 q_63 q_1106 q_36 hd_X9_paintAll ⟨(Nat.le_of_ble_eq_true rfl), (Nat.le_of_ble_eq_true rfl)⟩ hK hP [0, 1] rfl 0 9 rfl rfl rfl rfl rfl rfl hl.1 rfl (Nat.le_of_ble_eq_true rfl) dX9_count_94 ?_
    exact hret _ ls 97 dX9_count_97 rfl (congrArg (fun z => some (Value.int z)) (Option.some.inj h))
  have h := it_f c10 h
  by_cases c12 : p0 = 6
  · refine lv_tableIn (off := 97) (tgt := 98) hx hb dX9_count_1 (by rw [c12]; decide) (by rw [c12]; decide) (by rw [c12]; decide) (by decide) ?_
    have h := it_t c12 h
    refine lv_aload_n hx hb dX9_count_98 rfl (lv_at hl 0 rfl) ?_
    refine va_get (D := D) (ci := 9) (v := .ref a_t_now) (C := RX9) (T := TX9) (N := 21) hx hb hg inG_X9 hown hK hP 0 rfl rfl 0 (by decide) (hg _ q_945) (fun _ h9 => h9) rfl dX9_count_99 ?_
    refine lv_iconst (v := 2) hx hb dX9_count_102 kI_2 ?_
    refine lv_iload_n hx hb dX9_count_103 rfl (lv_at hl 1 rfl) ?_
    refine lv_iadd hx hb dX9_count_104 ?_
    refine lv_bipush (v := 6) hx hb dX9_count_105 kB_6 ?_
    refine lv_isub hx hb dX9_count_107 ?_
    obtain ⟨hi13, h⟩ := chk_e h
    refine va_iald hx hb hK hP 1 0 rfl rfl hi13 dX9_count_108 ?_
    exact hret _ ls 109 dX9_count_109 rfl (congrArg (fun z => some (Value.int z)) (Option.some.inj h))
  have h := it_f c12 h
  by_cases c14 : p0 = 7
  · refine lv_tableIn (off := 97) (tgt := 98) hx hb dX9_count_1 (by rw [c14]; decide) (by rw [c14]; decide) (by rw [c14]; decide) (by decide) ?_
    have h := it_t c14 h
    refine lv_aload_n hx hb dX9_count_98 rfl (lv_at hl 0 rfl) ?_
    refine va_get (D := D) (ci := 9) (v := .ref a_t_now) (C := RX9) (T := TX9) (N := 21) hx hb hg inG_X9 hown hK hP 0 rfl rfl 0 (by decide) (hg _ q_945) (fun _ h9 => h9) rfl dX9_count_99 ?_
    refine lv_iconst (v := 2) hx hb dX9_count_102 kI_2 ?_
    refine lv_iload_n hx hb dX9_count_103 rfl (lv_at hl 1 rfl) ?_
    refine lv_iadd hx hb dX9_count_104 ?_
    refine lv_bipush (v := 6) hx hb dX9_count_105 kB_6 ?_
    refine lv_isub hx hb dX9_count_107 ?_
    obtain ⟨hi15, h⟩ := chk_e h
    refine va_iald hx hb hK hP 1 0 rfl rfl hi15 dX9_count_108 ?_
    exact hret _ ls 109 dX9_count_109 rfl (congrArg (fun z => some (Value.int z)) (Option.some.inj h))
  have h := it_f c14 h
  by_cases c16 : p0 = 8
  · refine lv_tableIn (off := 97) (tgt := 98) hx hb dX9_count_1 (by rw [c16]; decide) (by rw [c16]; decide) (by rw [c16]; decide) (by decide) ?_
    have h := it_t c16 h
    refine lv_aload_n hx hb dX9_count_98 rfl (lv_at hl 0 rfl) ?_
    refine va_get (D := D) (ci := 9) (v := .ref a_t_now) (C := RX9) (T := TX9) (N := 21) hx hb hg inG_X9 hown hK hP 0 rfl rfl 0 (by decide) (hg _ q_945) (fun _ h9 => h9) rfl dX9_count_99 ?_
    refine lv_iconst (v := 2) hx hb dX9_count_102 kI_2 ?_
    refine lv_iload_n hx hb dX9_count_103 rfl (lv_at hl 1 rfl) ?_
    refine lv_iadd hx hb dX9_count_104 ?_
    refine lv_bipush (v := 6) hx hb dX9_count_105 kB_6 ?_
    refine lv_isub hx hb dX9_count_107 ?_
    obtain ⟨hi17, h⟩ := chk_e h
    refine va_iald hx hb hK hP 1 0 rfl rfl hi17 dX9_count_108 ?_
    exact hret _ ls 109 dX9_count_109 rfl (congrArg (fun z => some (Value.int z)) (Option.some.inj h))
  have h := it_f c16 h
  by_cases c18 : p0 = 9
  · refine lv_tableIn (off := 109) (tgt := 110) hx hb dX9_count_1 (by rw [c18]; decide) (by rw [c18]; decide) (by rw [c18]; decide) (by decide) ?_
    have h := it_t c18 h
    refine lv_aload_n hx hb dX9_count_110 rfl (lv_at hl 0 rfl) ?_
    refine va_get (D := D) (ci := 9) (v := .int t_undos) (C := RX9) (T := TX9) (N := 21) hx hb hg inG_X9 hown hK hP 0 rfl rfl 8 (by decide) (hg _ q_953) (fun _ h9 => h9) rfl dX9_count_111 ?_
    exact hret _ ls 114 dX9_count_114 rfl (congrArg (fun z => some (Value.int z)) (Option.some.inj h))
  have h := it_f c18 h
  refine lv_tableOut (tgt := 115) hx hb dX9_count_1 (by have := (And.intro (swn (k := 0) (by decide) c1) ((And.intro (swn (k := 1) (by decide) c2) ((And.intro (swn (k := 2) (by decide) c5) ((And.intro (swn (k := 3) (by decide) c6) ((And.intro (swn (k := 4) (by decide) c8) ((And.intro (swn (k := 5) (by decide) c10) ((And.intro (swn (k := 6) (by decide) c12) ((And.intro (swn (k := 7) (by decide) c14) ((And.intro (swn (k := 8) (by decide) c16) (swn (k := 9) (by decide) c18)))))))))))))))))); omega) (by decide) ?_
  refine lv_iconst (v := (-1)) hx hb dX9_count_115 kI_m1 ?_
  exact hret _ ls 116 dX9_count_116 rfl (congrArg (fun z => some (Value.int z)) (Option.some.inj h))

def m_X9_type (t_tape : Nat → Int32) (t_typed : Int32) (p0 : Int32) : Option (Int32 × (Nat → Int32) × Int32) := (m_X9_in (p0.toInt64) (32 : Int64) (126 : Int64)).bind (fun v1 => (if v1 = 0 then some ((-1), t_tape, t_typed) else (if t_typed = 60 then some ((-3), t_tape, t_typed) else chk t_typed 60 (some (t_typed + 1, upd t_tape t_typed.toNatClampNeg p0, t_typed + 1)))))
set_option maxHeartbeats 4000000 in
set_option maxRecDepth 100000 in
theorem c_X9_type (l : Launch) (D : va_G) (cy : Nat → ClassId) (a_t : Nat) (a_t_tape : Nat) (sz : Nat) (g_t_now : Value) (g_t_place : Value) (g_t_isFault : Value) (g_t_readLaw : Value) (g_t_read : Value) (g_t_undone : Value) (g_t_undos : Value) (g_t_aside : Value) (g_t_coat : Value) (g_t_bestCoats : Value) (g_t_bestStand : Value) (g_t_bestPaint : Value) (g_t_kept : Value) (g_t_keptUndos : Value) (g_t_isKept : Value) (g_t_lanes : Value) (g_t_sizes : Value) (g_t_items : Value) (g_t_moved : Value) (t_tape : Nat → Int32) (t_typed : Int32) (p0 : Int32) (out : Int32 × (Nat → Int32) × Int32) (h : m_X9_type t_tape t_typed p0 = some out) : MetM l D cy yX9_type cX9_type 2 (some .int) (rmG 1 25) [.ref a_t, .int p0] sz [(a_t, .inr (9, [g_t_now, .ref a_t_tape, .int t_typed, g_t_place, g_t_isFault, g_t_readLaw, g_t_read, g_t_undone, g_t_undos, g_t_aside, g_t_coat, g_t_bestCoats, g_t_bestStand, g_t_bestPaint, g_t_kept, g_t_keptUndos, g_t_isKept, g_t_lanes, g_t_sizes, g_t_items, g_t_moved])), (a_t_tape, .inl (cy 0, 60, .inl t_tape))] (some (.int out.1)) [(a_t, .inr (9, [g_t_now, .ref a_t_tape, .int out.2.2, g_t_place, g_t_isFault, g_t_readLaw, g_t_read, g_t_undone, g_t_undos, g_t_aside, g_t_coat, g_t_bestCoats, g_t_bestStand, g_t_bestPaint, g_t_kept, g_t_keptUndos, g_t_isKept, g_t_lanes, g_t_sizes, g_t_items, g_t_moved])), (a_t_tape, .inl (cy 0, 60, .inl out.2.1))] := by
  refine startMi (own := RX9) (by decide) rfl (Nat.le_of_ble_eq_true rfl) ?_
  intro p e s m below meth c QQ A hx hb hml hown hg hK hP hD hS hA hret ls hl
  have hl : lv_has ls 2 [(0, .ref a_t), (1, .int p0)] := hl
  unfold m_X9_type at h
  refine lv_iload_n hx hb dX9_type_0 rfl (lv_at hl 1 rfl) ?_
  refine lv_i2l (v := p0.toInt64) hx hb dX9_type_1 rfl ?_
  refine lv_ldc2 (v := 32) hx hb hown (hg _ q_1112) dX9_type_2 ?_
  refine lv_ldc2 (v := 126) hx hb hown (hg _ q_1113) dX9_type_5 ?_
  obtain ⟨v1, hv1, h⟩ := bind_e h
  refine callRS (As := [.long (p0.toInt64), .long 32, .long 126]) (rest := []) (v0 := .int v1) hx hb hml hown hg (c_X9_in l D cy (p0.toInt64) (32 : Int64) (126 : Int64) v1 hv1) q_1016 q_1014 q_63 q_1015 hd_X9_in ⟨(Nat.le_of_ble_eq_true rfl), (Nat.le_of_ble_eq_true rfl)⟩ hK hP [] rfl rfl rfl rfl hl.1 rfl (Nat.le_of_ble_eq_true rfl) dX9_type_8 ?_
  refine lv_if_ne (tgt := 16) hx hb dX9_type_11 (by decide) (fun c2 => ?_) (fun c2 => ?_)
  · have h := it_f c2 h
    refine lv_aload_n hx hb dX9_type_16 rfl (lv_at hl 0 rfl) ?_
    refine va_get (D := D) (ci := 9) (v := .int t_typed) (C := RX9) (T := TX9) (N := 21) hx hb hg inG_X9 hown hK hP 0 rfl rfl 2 (by decide) (hg _ q_947) (fun _ h9 => h9) rfl dX9_type_17 ?_
    refine lv_bipush (v := 60) hx hb dX9_type_20 kB_60 ?_
    refine lv_icmp_ne (tgt := 28) hx hb dX9_type_22 (by decide) (fun c3 => ?_) (fun c3 => ?_)
    · have h := it_f c3 h
      refine lv_aload_n hx hb dX9_type_28 rfl (lv_at hl 0 rfl) ?_
      refine va_get (D := D) (ci := 9) (v := .ref a_t_tape) (C := RX9) (T := TX9) (N := 21) hx hb hg inG_X9 hown hK hP 0 rfl rfl 1 (by decide) (hg _ q_946) (fun _ h9 => h9) rfl dX9_type_29 ?_
      refine lv_aload_n hx hb dX9_type_32 rfl (lv_at hl 0 rfl) ?_
      refine va_get (D := D) (ci := 9) (v := .int t_typed) (C := RX9) (T := TX9) (N := 21) hx hb hg inG_X9 hown hK hP 0 rfl rfl 2 (by decide) (hg _ q_947) (fun _ h9 => h9) rfl dX9_type_33 ?_
      refine lv_iload_n hx hb dX9_type_36 rfl (lv_at hl 1 rfl) ?_
      obtain ⟨hi4, h⟩ := chk_e h
      refine va_iast hx hb hK hP hD hS 1 0 rfl rfl hi4 dX9_type_37 (fun H locs hP hD hS => ?_)
      have hP : va_P D vwCl [(a_t, .inr (9, [g_t_now, .ref a_t_tape, .int t_typed, g_t_place, g_t_isFault, g_t_readLaw, g_t_read, g_t_undone, g_t_undos, g_t_aside, g_t_coat, g_t_bestCoats, g_t_bestStand, g_t_bestPaint, g_t_kept, g_t_keptUndos, g_t_isKept, g_t_lanes, g_t_sizes, g_t_items, g_t_moved])), (a_t_tape, .inl (cy 0, 60, .inl (upd t_tape t_typed.toNatClampNeg p0)))] H := hP
      have hD : va_D A [(a_t, .inr (9, [g_t_now, .ref a_t_tape, .int t_typed, g_t_place, g_t_isFault, g_t_readLaw, g_t_read, g_t_undone, g_t_undos, g_t_aside, g_t_coat, g_t_bestCoats, g_t_bestStand, g_t_bestPaint, g_t_kept, g_t_keptUndos, g_t_isKept, g_t_lanes, g_t_sizes, g_t_items, g_t_moved])), (a_t_tape, .inl (cy 0, 60, .inl (upd t_tape t_typed.toNatClampNeg p0)))] := hD
      refine lv_aload_n hx hb dX9_type_38 rfl (lv_at hl 0 rfl) ?_
      refine lv_dup hx hb dX9_type_39 rfl ?_
      refine va_get (D := D) (ci := 9) (v := .int t_typed) (C := RX9) (T := TX9) (N := 21) hx hb hg inG_X9 hown hK hP 0 rfl rfl 2 (by decide) (hg _ q_947) (fun _ h9 => h9) rfl dX9_type_40 ?_
      refine lv_iconst (v := 1) hx hb dX9_type_43 kI_1 ?_
      refine lv_iadd hx hb dX9_type_44 ?_
      refine va_put (D := D) (ci := 9) (v := .int (t_typed + 1)) (ty := .int) (C := RX9) (T := TX9) (N := 21) hx hb hg inG_X9 tyX9 tyX9_ok nmX9 hown hK hP hD hS 0 rfl rfl 2 (by decide) (hg _ q_947) (fun _ h9 => h9) rfl (tyX9_ok 2 (by decide)) rfl rfl (Nat.le_of_ble_eq_true rfl) dX9_type_45 (fun H locs hP hD hS => ?_)
      have hP : va_P D vwCl [(a_t, .inr (9, [g_t_now, .ref a_t_tape, .int (t_typed + 1), g_t_place, g_t_isFault, g_t_readLaw, g_t_read, g_t_undone, g_t_undos, g_t_aside, g_t_coat, g_t_bestCoats, g_t_bestStand, g_t_bestPaint, g_t_kept, g_t_keptUndos, g_t_isKept, g_t_lanes, g_t_sizes, g_t_items, g_t_moved])), (a_t_tape, .inl (cy 0, 60, .inl (upd t_tape t_typed.toNatClampNeg p0)))] H := hP
      have hD : va_D A [(a_t, .inr (9, [g_t_now, .ref a_t_tape, .int (t_typed + 1), g_t_place, g_t_isFault, g_t_readLaw, g_t_read, g_t_undone, g_t_undos, g_t_aside, g_t_coat, g_t_bestCoats, g_t_bestStand, g_t_bestPaint, g_t_kept, g_t_keptUndos, g_t_isKept, g_t_lanes, g_t_sizes, g_t_items, g_t_moved])), (a_t_tape, .inl (cy 0, 60, .inl (upd t_tape t_typed.toNatClampNeg p0)))] := hD
      refine lv_aload_n hx hb dX9_type_48 rfl (lv_at hl 0 rfl) ?_
      refine va_get (D := D) (ci := 9) (v := .int (t_typed + 1)) (C := RX9) (T := TX9) (N := 21) hx hb hg inG_X9 hown hK hP 0 rfl rfl 2 (by decide) (hg _ q_947) (fun _ h9 => h9) rfl dX9_type_49 ?_
      exact hret _ _ _ _ ls 52 dX9_type_52 rfl (by rw [← Option.some.inj h]) (by rw [← Option.some.inj h]) hP hD hS
    · have h := it_t c3 h
      refine lv_bipush (v := (-3)) hx hb dX9_type_25 kB_m3 ?_
      exact hret _ _ _ _ ls 27 dX9_type_27 rfl (by rw [← Option.some.inj h]) (by rw [← Option.some.inj h]) hP hD hS
  · have h := it_t c2 h
    refine lv_iconst (v := (-1)) hx hb dX9_type_14 kI_m1 ?_
    exact hret _ _ _ _ ls 15 dX9_type_15 rfl (by rw [← Option.some.inj h]) (by rw [← Option.some.inj h]) hP hD hS

def m_X9_here_L0s (t_tape : Nat → Int32) (t_typed : Int32) (k5 : Int32 → Option (Int32 × Int32)) (r7 : Int32 → Option (Int32 × Int32)) (w1 : Int32) : Option (Int32 × Int32) := (if t_typed ≤ w1 then k5 w1 else chk w1 60 ((if (t_tape w1.toNatClampNeg) = 32 then r7 (w1 + 1) else k5 w1)))
def m_X9_here_L0 (t_tape : Nat → Int32) (t_typed : Int32) (k5 : Int32 → Option (Int32 × Int32)) : Nat → Int32 → Option (Int32 × Int32)
  | 0 => fun _ => none
  | nF + 1 => m_X9_here_L0s t_tape t_typed k5 (m_X9_here_L0 t_tape t_typed k5 nF)
def m_X9_here (F : Nat) (t_tape : Nat → Int32) (t_typed : Int32) (t_place : Int32) : Option (Int32 × Int32) := m_X9_here_L0 t_tape t_typed (fun (w2 : Int32) => (if t_typed ≤ w2 then some (0, w2) else chk w2 60 (some (t_tape w2.toNatClampNeg, w2)))) F t_place
set_option maxHeartbeats 4000000 in
set_option maxRecDepth 100000 in
theorem c_X9_here (l : Launch) (D : va_G) (cy : Nat → ClassId) (a_t : Nat) (a_t_tape : Nat) (sz : Nat) (g_t_now : Value) (g_t_isFault : Value) (g_t_readLaw : Value) (g_t_read : Value) (g_t_undone : Value) (g_t_undos : Value) (g_t_aside : Value) (g_t_coat : Value) (g_t_bestCoats : Value) (g_t_bestStand : Value) (g_t_bestPaint : Value) (g_t_kept : Value) (g_t_keptUndos : Value) (g_t_isKept : Value) (g_t_lanes : Value) (g_t_sizes : Value) (g_t_items : Value) (g_t_moved : Value) (t_tape : Nat → Int32) (t_typed : Int32) (t_place : Int32) (F : Nat) (out : Int32 × Int32) (h : m_X9_here F t_tape t_typed t_place = some out) : MetM l D cy yX9_here cX9_here 1 (some .int) (rmG 0 0) [.ref a_t] sz [(a_t, .inr (9, [g_t_now, .ref a_t_tape, .int t_typed, .int t_place, g_t_isFault, g_t_readLaw, g_t_read, g_t_undone, g_t_undos, g_t_aside, g_t_coat, g_t_bestCoats, g_t_bestStand, g_t_bestPaint, g_t_kept, g_t_keptUndos, g_t_isKept, g_t_lanes, g_t_sizes, g_t_items, g_t_moved])), (a_t_tape, .inl (cy 0, 60, .inl t_tape))] (some (.int out.1)) [(a_t, .inr (9, [g_t_now, .ref a_t_tape, .int t_typed, .int out.2, g_t_isFault, g_t_readLaw, g_t_read, g_t_undone, g_t_undos, g_t_aside, g_t_coat, g_t_bestCoats, g_t_bestStand, g_t_bestPaint, g_t_kept, g_t_keptUndos, g_t_isKept, g_t_lanes, g_t_sizes, g_t_items, g_t_moved])), (a_t_tape, .inl (cy 0, 60, .inl t_tape))] := by
  refine startMi (own := RX9) (by decide) rfl (Nat.le_of_ble_eq_true rfl) ?_
  intro p e s m below meth c QQ A hx hb hml hown hg hK hP hD hS hA hret ls hl
  have hl : lv_has ls 1 [(0, .ref a_t)] := hl
  unfold m_X9_here at h
  obtain ⟨k5, hk5, h⟩ := kap (fun z => m_X9_here_L0 t_tape t_typed z F t_place) h
  have J5 : ∀ (w2 : Int32) (H : Heap) (locs : List Loc) (ls : Array Slot), va_P D vwCl [(a_t, .inr (9, [g_t_now, .ref a_t_tape, .int t_typed, .int w2, g_t_isFault, g_t_readLaw, g_t_read, g_t_undone, g_t_undos, g_t_aside, g_t_coat, g_t_bestCoats, g_t_bestStand, g_t_bestPaint, g_t_kept, g_t_keptUndos, g_t_isKept, g_t_lanes, g_t_sizes, g_t_items, g_t_moved])), (a_t_tape, .inl (cy 0, 60, .inl t_tape))] H → va_D A [(a_t, .inr (9, [g_t_now, .ref a_t_tape, .int t_typed, .int w2, g_t_isFault, g_t_readLaw, g_t_read, g_t_undone, g_t_undos, g_t_aside, g_t_coat, g_t_bestCoats, g_t_bestStand, g_t_bestPaint, g_t_kept, g_t_keptUndos, g_t_isKept, g_t_lanes, g_t_sizes, g_t_items, g_t_moved])), (a_t_tape, .inl (cy 0, 60, .inl t_tape))] → va_S A s.heap H locs → lv_has ls 1 [(0, .ref a_t)] → k5 w2 = some out → W p l e (rmG 0 0) s m [.ref a_t].toArray below meth c H locs 0 0 QQ (F0 m 38 ls []) := by
    intro w2 H locs ls hP hD hS hl h
    rw [hk5] at h
    refine lv_aload_n hx hb dX9_here_38 rfl (lv_at hl 0 rfl) ?_
    refine va_get (D := D) (ci := 9) (v := .int w2) (C := RX9) (T := TX9) (N := 21) hx hb hg inG_X9 hown hK hP 0 rfl rfl 3 (by decide) (hg _ q_948) (fun _ h9 => h9) rfl dX9_here_39 ?_
    refine lv_aload_n hx hb dX9_here_42 rfl (lv_at hl 0 rfl) ?_
    refine va_get (D := D) (ci := 9) (v := .int t_typed) (C := RX9) (T := TX9) (N := 21) hx hb hg inG_X9 hown hK hP 0 rfl rfl 2 (by decide) (hg _ q_947) (fun _ h9 => h9) rfl dX9_here_43 ?_
    refine lv_icmp_ge (tgt := 61) hx hb dX9_here_46 (by decide) (fun c3 => ?_) (fun c3 => ?_)
    · have h := it_t c3 h
      refine lv_iconst (v := 0) hx hb dX9_here_61 kI_0 ?_
      exact hret _ _ _ _ ls 62 dX9_here_62 rfl (by rw [← Option.some.inj h]) (by rw [← Option.some.inj h]) hP hD hS
    · have h := it_f c3 h
      refine lv_aload_n hx hb dX9_here_49 rfl (lv_at hl 0 rfl) ?_
      refine va_get (D := D) (ci := 9) (v := .ref a_t_tape) (C := RX9) (T := TX9) (N := 21) hx hb hg inG_X9 hown hK hP 0 rfl rfl 1 (by decide) (hg _ q_946) (fun _ h9 => h9) rfl dX9_here_50 ?_
      refine lv_aload_n hx hb dX9_here_53 rfl (lv_at hl 0 rfl) ?_
      refine va_get (D := D) (ci := 9) (v := .int w2) (C := RX9) (T := TX9) (N := 21) hx hb hg inG_X9 hown hK hP 0 rfl rfl 3 (by decide) (hg _ q_948) (fun _ h9 => h9) rfl dX9_here_54 ?_
      obtain ⟨hi4, h⟩ := chk_e h
      refine va_iald hx hb hK hP 1 0 rfl rfl hi4 dX9_here_57 ?_
      refine lv_goto (tgt := 62) hx hb dX9_here_58 (by decide) ?_
      exact hret _ _ _ _ ls 62 dX9_here_62 rfl (by rw [← Option.some.inj h]) (by rw [← Option.some.inj h]) hP hD hS
  have L6 : ∀ (n6 : Nat) (w1 : Int32) (H : Heap) (locs : List Loc) (ls : Array Slot), va_P D vwCl [(a_t, .inr (9, [g_t_now, .ref a_t_tape, .int t_typed, .int w1, g_t_isFault, g_t_readLaw, g_t_read, g_t_undone, g_t_undos, g_t_aside, g_t_coat, g_t_bestCoats, g_t_bestStand, g_t_bestPaint, g_t_kept, g_t_keptUndos, g_t_isKept, g_t_lanes, g_t_sizes, g_t_items, g_t_moved])), (a_t_tape, .inl (cy 0, 60, .inl t_tape))] H → va_D A [(a_t, .inr (9, [g_t_now, .ref a_t_tape, .int t_typed, .int w1, g_t_isFault, g_t_readLaw, g_t_read, g_t_undone, g_t_undos, g_t_aside, g_t_coat, g_t_bestCoats, g_t_bestStand, g_t_bestPaint, g_t_kept, g_t_keptUndos, g_t_isKept, g_t_lanes, g_t_sizes, g_t_items, g_t_moved])), (a_t_tape, .inl (cy 0, 60, .inl t_tape))] → va_S A s.heap H locs → lv_has ls 1 [(0, .ref a_t)] → m_X9_here_L0 t_tape t_typed k5 n6 w1 = some out → W p l e (rmG 0 0) s m [.ref a_t].toArray below meth c H locs 0 0 QQ (F0 m 0 ls []) := by
    intro n6
    induction n6 with
    | zero => intro w1 H locs ls hP hD hS hl h; exact nomatch (show (none : Option (Int32 × Int32)) = some out from h)
    | succ n6 ih =>
        intro w1 H locs ls hP hD hS hl h
        have h : m_X9_here_L0s t_tape t_typed k5 (m_X9_here_L0 t_tape t_typed k5 n6) w1 = some out := h
        unfold m_X9_here_L0s at h
        refine lv_aload_n hx hb dX9_here_0 rfl (lv_at hl 0 rfl) ?_
        refine va_get (D := D) (ci := 9) (v := .int w1) (C := RX9) (T := TX9) (N := 21) hx hb hg inG_X9 hown hK hP 0 rfl rfl 3 (by decide) (hg _ q_948) (fun _ h9 => h9) rfl dX9_here_1 ?_
        refine lv_aload_n hx hb dX9_here_4 rfl (lv_at hl 0 rfl) ?_
        refine va_get (D := D) (ci := 9) (v := .int t_typed) (C := RX9) (T := TX9) (N := 21) hx hb hg inG_X9 hown hK hP 0 rfl rfl 2 (by decide) (hg _ q_947) (fun _ h9 => h9) rfl dX9_here_5 ?_
        refine lv_icmp_ge (tgt := 38) hx hb dX9_here_8 (by decide) (fun c8 => ?_) (fun c8 => ?_)
        · have h := it_t c8 h
          exact J5 w1 _ _ _ hP hD hS (lv_sub hl [0] rfl) h
        · have h := it_f c8 h
          refine lv_aload_n hx hb dX9_here_11 rfl (lv_at hl 0 rfl) ?_
          refine va_get (D := D) (ci := 9) (v := .ref a_t_tape) (C := RX9) (T := TX9) (N := 21) hx hb hg inG_X9 hown hK hP 0 rfl rfl 1 (by decide) (hg _ q_946) (fun _ h9 => h9) rfl dX9_here_12 ?_
          refine lv_aload_n hx hb dX9_here_15 rfl (lv_at hl 0 rfl) ?_
          refine va_get (D := D) (ci := 9) (v := .int w1) (C := RX9) (T := TX9) (N := 21) hx hb hg inG_X9 hown hK hP 0 rfl rfl 3 (by decide) (hg _ q_948) (fun _ h9 => h9) rfl dX9_here_16 ?_
          obtain ⟨hi9, h⟩ := chk_e h
          refine va_iald hx hb hK hP 1 0 rfl rfl hi9 dX9_here_19 ?_
          refine lv_bipush (v := 32) hx hb dX9_here_20 kB_32 ?_
          refine lv_icmp_ne (tgt := 38) hx hb dX9_here_22 (by decide) (fun c10 => ?_) (fun c10 => ?_)
          · have h := it_f c10 h
            exact J5 w1 _ _ _ hP hD hS (lv_sub hl [0] rfl) h
          · have h := it_t c10 h
            refine lv_aload_n hx hb dX9_here_25 rfl (lv_at hl 0 rfl) ?_
            refine lv_dup hx hb dX9_here_26 rfl ?_
            refine va_get (D := D) (ci := 9) (v := .int w1) (C := RX9) (T := TX9) (N := 21) hx hb hg inG_X9 hown hK hP 0 rfl rfl 3 (by decide) (hg _ q_948) (fun _ h9 => h9) rfl dX9_here_27 ?_
            refine lv_iconst (v := 1) hx hb dX9_here_30 kI_1 ?_
            refine lv_iadd hx hb dX9_here_31 ?_
            refine va_put (D := D) (ci := 9) (v := .int (w1 + 1)) (ty := .int) (C := RX9) (T := TX9) (N := 21) hx hb hg inG_X9 tyX9 tyX9_ok nmX9 hown hK hP hD hS 0 rfl rfl 3 (by decide) (hg _ q_948) (fun _ h9 => h9) rfl (tyX9_ok 3 (by decide)) rfl rfl (Nat.le_of_ble_eq_true rfl) dX9_here_32 (fun H locs hP hD hS => ?_)
            have hP : va_P D vwCl [(a_t, .inr (9, [g_t_now, .ref a_t_tape, .int t_typed, .int (w1 + 1), g_t_isFault, g_t_readLaw, g_t_read, g_t_undone, g_t_undos, g_t_aside, g_t_coat, g_t_bestCoats, g_t_bestStand, g_t_bestPaint, g_t_kept, g_t_keptUndos, g_t_isKept, g_t_lanes, g_t_sizes, g_t_items, g_t_moved])), (a_t_tape, .inl (cy 0, 60, .inl t_tape))] H := hP
            have hD : va_D A [(a_t, .inr (9, [g_t_now, .ref a_t_tape, .int t_typed, .int (w1 + 1), g_t_isFault, g_t_readLaw, g_t_read, g_t_undone, g_t_undos, g_t_aside, g_t_coat, g_t_bestCoats, g_t_bestStand, g_t_bestPaint, g_t_kept, g_t_keptUndos, g_t_isKept, g_t_lanes, g_t_sizes, g_t_items, g_t_moved])), (a_t_tape, .inl (cy 0, 60, .inl t_tape))] := hD
            refine lv_goto (tgt := 0) hx hb dX9_here_35 (by decide) ?_
            exact ih (w1 + 1) _ _ _ hP hD hS (lv_sub hl [0] rfl) h
  exact L6 F t_place _ _ _ hP hD hS (lv_sub hl [0] rfl) h

def m_X9_must (t_place : Int32) (t_isFault : Int32) (p0 : Int32) : Option (Int32 × Int32) := jn (fun (x1 : Int32) => zb x1 ((if x1 = 0 then some (t_place + 1, x1) else some (t_place + 0, x1)))) (fun k4 => jn (k4 1) (fun k5 => (if t_isFault = 0 then (if p0 = 0 then k5 else k4 0) else k5)))
set_option maxHeartbeats 4000000 in
set_option maxRecDepth 100000 in
theorem c_X9_must (l : Launch) (D : va_G) (cy : Nat → ClassId) (a_t : Nat) (sz : Nat) (g_t_now : Value) (g_t_tape : Value) (g_t_typed : Value) (g_t_readLaw : Value) (g_t_read : Value) (g_t_undone : Value) (g_t_undos : Value) (g_t_aside : Value) (g_t_coat : Value) (g_t_bestCoats : Value) (g_t_bestStand : Value) (g_t_bestPaint : Value) (g_t_kept : Value) (g_t_keptUndos : Value) (g_t_isKept : Value) (g_t_lanes : Value) (g_t_sizes : Value) (g_t_items : Value) (g_t_moved : Value) (t_place : Int32) (t_isFault : Int32) (p0 : Int32) (out : Int32 × Int32) (h : m_X9_must t_place t_isFault p0 = some out) : MetM l D cy yX9_must cX9_must 2 none (rmG 0 0) [.ref a_t, .int p0] sz [(a_t, .inr (9, [g_t_now, g_t_tape, g_t_typed, .int t_place, .int t_isFault, g_t_readLaw, g_t_read, g_t_undone, g_t_undos, g_t_aside, g_t_coat, g_t_bestCoats, g_t_bestStand, g_t_bestPaint, g_t_kept, g_t_keptUndos, g_t_isKept, g_t_lanes, g_t_sizes, g_t_items, g_t_moved]))] none [(a_t, .inr (9, [g_t_now, g_t_tape, g_t_typed, .int out.1, .int out.2, g_t_readLaw, g_t_read, g_t_undone, g_t_undos, g_t_aside, g_t_coat, g_t_bestCoats, g_t_bestStand, g_t_bestPaint, g_t_kept, g_t_keptUndos, g_t_isKept, g_t_lanes, g_t_sizes, g_t_items, g_t_moved]))] := by
  refine startMv (own := RX9) (by decide) rfl (Nat.le_of_ble_eq_true rfl) ?_
  intro p e s m below meth c QQ A hx hb hml hown hg hK hP hD hS hA hret ls hl
  have hl : lv_has ls 2 [(0, .ref a_t), (1, .int p0)] := hl
  unfold m_X9_must at h
  refine lv_aload_n hx hb dX9_must_0 rfl (lv_at hl 0 rfl) ?_
  refine lv_aload_n hx hb dX9_must_1 rfl (lv_at hl 0 rfl) ?_
  refine va_get (D := D) (ci := 9) (v := .int t_isFault) (C := RX9) (T := TX9) (N := 21) hx hb hg inG_X9 hown hK hP 0 rfl rfl 4 (by decide) (hg _ q_949) (fun _ h9 => h9) rfl dX9_must_2 ?_
  obtain ⟨k4, hk4, h⟩ := jn_e h
  have J4 : ∀ (x1 : Int32) (H : Heap) (locs : List Loc) (ls : Array Slot), va_P D vwCl [(a_t, .inr (9, [g_t_now, g_t_tape, g_t_typed, .int t_place, .int t_isFault, g_t_readLaw, g_t_read, g_t_undone, g_t_undos, g_t_aside, g_t_coat, g_t_bestCoats, g_t_bestStand, g_t_bestPaint, g_t_kept, g_t_keptUndos, g_t_isKept, g_t_lanes, g_t_sizes, g_t_items, g_t_moved]))] H → va_D A [(a_t, .inr (9, [g_t_now, g_t_tape, g_t_typed, .int t_place, .int t_isFault, g_t_readLaw, g_t_read, g_t_undone, g_t_undos, g_t_aside, g_t_coat, g_t_bestCoats, g_t_bestStand, g_t_bestPaint, g_t_kept, g_t_keptUndos, g_t_isKept, g_t_lanes, g_t_sizes, g_t_items, g_t_moved]))] → va_S A s.heap H locs → lv_has ls 2 [(0, .ref a_t)] → k4 x1 = some out → W p l e (rmG 0 0) s m [.ref a_t, .int p0].toArray below meth c H locs 0 0 QQ (F0 m 17 ls [.int x1, .ref a_t]) := by
    intro x1 H locs ls hP hD hS hl h
    rw [hk4] at h
    obtain ⟨hz2, h⟩ := zb_e h
    refine va_put (D := D) (ci := 9) (v := .int x1) (ty := .boolean) (C := RX9) (T := TX9) (N := 21) hx hb hg inG_X9 tyX9 tyX9_ok nmX9 hown hK hP hD hS 0 rfl rfl 4 (by decide) (hg _ q_949) (fun _ h9 => h9) rfl (tyX9_ok 4 (by decide)) (nar_z hz2) (fit_z hz2) (Nat.le_of_ble_eq_true rfl) dX9_must_17 (fun H locs hP hD hS => ?_)
    have hP : va_P D vwCl [(a_t, .inr (9, [g_t_now, g_t_tape, g_t_typed, .int t_place, .int x1, g_t_readLaw, g_t_read, g_t_undone, g_t_undos, g_t_aside, g_t_coat, g_t_bestCoats, g_t_bestStand, g_t_bestPaint, g_t_kept, g_t_keptUndos, g_t_isKept, g_t_lanes, g_t_sizes, g_t_items, g_t_moved]))] H := hP
    have hD : va_D A [(a_t, .inr (9, [g_t_now, g_t_tape, g_t_typed, .int t_place, .int x1, g_t_readLaw, g_t_read, g_t_undone, g_t_undos, g_t_aside, g_t_coat, g_t_bestCoats, g_t_bestStand, g_t_bestPaint, g_t_kept, g_t_keptUndos, g_t_isKept, g_t_lanes, g_t_sizes, g_t_items, g_t_moved]))] := hD
    refine lv_aload_n hx hb dX9_must_20 rfl (lv_at hl 0 rfl) ?_
    refine lv_dup hx hb dX9_must_21 rfl ?_
    refine va_get (D := D) (ci := 9) (v := .int t_place) (C := RX9) (T := TX9) (N := 21) hx hb hg inG_X9 hown hK hP 0 rfl rfl 3 (by decide) (hg _ q_948) (fun _ h9 => h9) rfl dX9_must_22 ?_
    refine lv_aload_n hx hb dX9_must_25 rfl (lv_at hl 0 rfl) ?_
    refine va_get (D := D) (ci := 9) (v := .int x1) (C := RX9) (T := TX9) (N := 21) hx hb hg inG_X9 hown hK hP 0 rfl rfl 4 (by decide) (hg _ q_949) (fun _ h9 => h9) rfl dX9_must_26 ?_
    refine lv_if_eq (tgt := 36) hx hb dX9_must_29 (by decide) (fun c3 => ?_) (fun c3 => ?_)
    · have h := it_t c3 h
      refine lv_iconst (v := 1) hx hb dX9_must_36 kI_1 ?_
      refine lv_iadd hx hb dX9_must_37 ?_
      refine va_put (D := D) (ci := 9) (v := .int (t_place + 1)) (ty := .int) (C := RX9) (T := TX9) (N := 21) hx hb hg inG_X9 tyX9 tyX9_ok nmX9 hown hK hP hD hS 0 rfl rfl 3 (by decide) (hg _ q_948) (fun _ h9 => h9) rfl (tyX9_ok 3 (by decide)) rfl rfl (Nat.le_of_ble_eq_true rfl) dX9_must_38 (fun H locs hP hD hS => ?_)
      have hP : va_P D vwCl [(a_t, .inr (9, [g_t_now, g_t_tape, g_t_typed, .int (t_place + 1), .int x1, g_t_readLaw, g_t_read, g_t_undone, g_t_undos, g_t_aside, g_t_coat, g_t_bestCoats, g_t_bestStand, g_t_bestPaint, g_t_kept, g_t_keptUndos, g_t_isKept, g_t_lanes, g_t_sizes, g_t_items, g_t_moved]))] H := hP
      have hD : va_D A [(a_t, .inr (9, [g_t_now, g_t_tape, g_t_typed, .int (t_place + 1), .int x1, g_t_readLaw, g_t_read, g_t_undone, g_t_undos, g_t_aside, g_t_coat, g_t_bestCoats, g_t_bestStand, g_t_bestPaint, g_t_kept, g_t_keptUndos, g_t_isKept, g_t_lanes, g_t_sizes, g_t_items, g_t_moved]))] := hD
      exact hret _ _ _ ls 41 dX9_must_41 (by rw [← Option.some.inj h]) hP hD hS
    · have h := it_f c3 h
      refine lv_iconst (v := 0) hx hb dX9_must_32 kI_0 ?_
      refine lv_goto (tgt := 37) hx hb dX9_must_33 (by decide) ?_
      refine lv_iadd hx hb dX9_must_37 ?_
      refine va_put (D := D) (ci := 9) (v := .int (t_place + 0)) (ty := .int) (C := RX9) (T := TX9) (N := 21) hx hb hg inG_X9 tyX9 tyX9_ok nmX9 hown hK hP hD hS 0 rfl rfl 3 (by decide) (hg _ q_948) (fun _ h9 => h9) rfl (tyX9_ok 3 (by decide)) rfl rfl (Nat.le_of_ble_eq_true rfl) dX9_must_38 (fun H locs hP hD hS => ?_)
      have hP : va_P D vwCl [(a_t, .inr (9, [g_t_now, g_t_tape, g_t_typed, .int (t_place + 0), .int x1, g_t_readLaw, g_t_read, g_t_undone, g_t_undos, g_t_aside, g_t_coat, g_t_bestCoats, g_t_bestStand, g_t_bestPaint, g_t_kept, g_t_keptUndos, g_t_isKept, g_t_lanes, g_t_sizes, g_t_items, g_t_moved]))] H := hP
      have hD : va_D A [(a_t, .inr (9, [g_t_now, g_t_tape, g_t_typed, .int (t_place + 0), .int x1, g_t_readLaw, g_t_read, g_t_undone, g_t_undos, g_t_aside, g_t_coat, g_t_bestCoats, g_t_bestStand, g_t_bestPaint, g_t_kept, g_t_keptUndos, g_t_isKept, g_t_lanes, g_t_sizes, g_t_items, g_t_moved]))] := hD
      exact hret _ _ _ ls 41 dX9_must_41 (by rw [← Option.some.inj h]) hP hD hS
  obtain ⟨k5, hk5, h⟩ := jn_e h
  have J5 : ∀ (H : Heap) (locs : List Loc) (ls : Array Slot), va_P D vwCl [(a_t, .inr (9, [g_t_now, g_t_tape, g_t_typed, .int t_place, .int t_isFault, g_t_readLaw, g_t_read, g_t_undone, g_t_undos, g_t_aside, g_t_coat, g_t_bestCoats, g_t_bestStand, g_t_bestPaint, g_t_kept, g_t_keptUndos, g_t_isKept, g_t_lanes, g_t_sizes, g_t_items, g_t_moved]))] H → va_D A [(a_t, .inr (9, [g_t_now, g_t_tape, g_t_typed, .int t_place, .int t_isFault, g_t_readLaw, g_t_read, g_t_undone, g_t_undos, g_t_aside, g_t_coat, g_t_bestCoats, g_t_bestStand, g_t_bestPaint, g_t_kept, g_t_keptUndos, g_t_isKept, g_t_lanes, g_t_sizes, g_t_items, g_t_moved]))] → va_S A s.heap H locs → lv_has ls 2 [(0, .ref a_t)] → k5 = some out → W p l e (rmG 0 0) s m [.ref a_t, .int p0].toArray below meth c H locs 0 0 QQ (F0 m 12 ls [.ref a_t]) := by
    intro H locs ls hP hD hS hl h
    rw [hk5] at h
    refine lv_iconst (v := 1) hx hb dX9_must_12 kI_1 ?_
    refine lv_goto (tgt := 17) hx hb dX9_must_13 (by decide) ?_
    exact J4 1 _ _ _ hP hD hS (lv_sub hl [0] rfl) h
  refine lv_if_ne (tgt := 12) hx hb dX9_must_5 (by decide) (fun c6 => ?_) (fun c6 => ?_)
  · have h := it_f c6 h
    exact J5  _ _ _ hP hD hS (lv_sub hl [0] rfl) h
  · have h := it_t c6 h
    refine lv_iload_n hx hb dX9_must_8 rfl (lv_at hl 1 rfl) ?_
    refine lv_if_ne (tgt := 16) hx hb dX9_must_9 (by decide) (fun c7 => ?_) (fun c7 => ?_)
    · have h := it_f c7 h
      refine lv_iconst (v := 0) hx hb dX9_must_16 kI_0 ?_
      exact J4 0 _ _ _ hP hD hS (lv_sub hl [0] rfl) h
    · have h := it_t c7 h
      exact J5  _ _ _ hP hD hS (lv_sub hl [0] rfl) h

def m_X9_number_L55s (t_tape : Nat → Int32) (t_typed : Int32) (w1 : Int32) (x3 : Int32) (k12 : Int32 → Int32 → Option (Int32 × Int32 × Int32)) (r14 : Int32 → Int32 → Option (Int32 × Int32 × Int32)) (x5 : Int32) (w6 : Int32) : Option (Int32 × Int32 × Int32) := (if x3 = 0 then (if t_typed ≤ w6 then k12 x5 w6 else (if 2 ≤ (w6 - w1) then k12 x5 w6 else chk w6 60 ((m_X9_in ((t_tape w6.toNatClampNeg).toInt64) (48 : Int64) (57 : Int64)).bind (fun v19 => (if v19 = 0 then k12 x5 w6 else chk w6 60 (bnd (((10 * x5) + (t_tape w6.toNatClampNeg)) - 48) (fun x22 => r14 x22 (w6 + 1)))))))) else k12 x5 w6)
def m_X9_number_L55 (t_tape : Nat → Int32) (t_typed : Int32) (w1 : Int32) (x3 : Int32) (k12 : Int32 → Int32 → Option (Int32 × Int32 × Int32)) : Nat → Int32 → Int32 → Option (Int32 × Int32 × Int32)
  | 0 => fun _ _ => none
  | nF + 1 => m_X9_number_L55s t_tape t_typed w1 x3 k12 (m_X9_number_L55 t_tape t_typed w1 x3 k12 nF)
def m_X9_number (F : Nat) (t_tape : Nat → Int32) (t_typed : Int32) (t_place : Int32) (t_isFault : Int32) (p0 : Int32) (p1 : Int32) : Option (Int32 × Int32 × Int32) := jn (fun (w1 : Int32) (x2 : Int32) => jn (fun (x3 : Int32) => zb x3 (m_X9_number_L55 t_tape t_typed w1 x3 (fun (x7 : Int32) (w8 : Int32) => (if x3 = 0 then (if p0 < x7 then some (x7, w1, 1) else (if ((p1 >>> (x7 &&& 31)) &&& 1) = 1 then some (x7, w1, 1) else some (x7, w8, x3))) else some (x7, w8, x3))) F 0 w1)) (fun k23 => jn (k23 1) (fun k24 => (if t_isFault = 0 then (m_X9_in (x2.toInt64) (48 : Int64) (57 : Int64)).bind (fun v26 => (if v26 = 0 then k24 else k23 0)) else k24)))) (fun k28 => (if t_isFault = 0 then (m_X9_here F t_tape t_typed t_place).bind (fun v30 => k28 v30.2 v30.1) else k28 t_place 0))
set_option maxHeartbeats 4000000 in
set_option maxRecDepth 100000 in
theorem c_X9_number (l : Launch) (D : va_G) (cy : Nat → ClassId) (a_t : Nat) (a_t_tape : Nat) (sz : Nat) (g_t_now : Value) (g_t_readLaw : Value) (g_t_read : Value) (g_t_undone : Value) (g_t_undos : Value) (g_t_aside : Value) (g_t_coat : Value) (g_t_bestCoats : Value) (g_t_bestStand : Value) (g_t_bestPaint : Value) (g_t_kept : Value) (g_t_keptUndos : Value) (g_t_isKept : Value) (g_t_lanes : Value) (g_t_sizes : Value) (g_t_items : Value) (g_t_moved : Value) (t_tape : Nat → Int32) (t_typed : Int32) (t_place : Int32) (t_isFault : Int32) (p0 : Int32) (p1 : Int32) (F : Nat) (out : Int32 × Int32 × Int32) (h : m_X9_number F t_tape t_typed t_place t_isFault p0 p1 = some out) : MetM l D cy yX9_number cX9_number 6 (some .int) (rmG 1 25) [.ref a_t, .int p0, .int p1] sz [(a_t, .inr (9, [g_t_now, .ref a_t_tape, .int t_typed, .int t_place, .int t_isFault, g_t_readLaw, g_t_read, g_t_undone, g_t_undos, g_t_aside, g_t_coat, g_t_bestCoats, g_t_bestStand, g_t_bestPaint, g_t_kept, g_t_keptUndos, g_t_isKept, g_t_lanes, g_t_sizes, g_t_items, g_t_moved])), (a_t_tape, .inl (cy 0, 60, .inl t_tape))] (some (.int out.1)) [(a_t, .inr (9, [g_t_now, .ref a_t_tape, .int t_typed, .int out.2.1, .int out.2.2, g_t_readLaw, g_t_read, g_t_undone, g_t_undos, g_t_aside, g_t_coat, g_t_bestCoats, g_t_bestStand, g_t_bestPaint, g_t_kept, g_t_keptUndos, g_t_isKept, g_t_lanes, g_t_sizes, g_t_items, g_t_moved])), (a_t_tape, .inl (cy 0, 60, .inl t_tape))] := by
  refine startMi (own := RX9) (by decide) rfl (Nat.le_of_ble_eq_true rfl) ?_
  intro p e s m below meth c QQ A hx hb hml hown hg hK hP hD hS hA hret ls hl
  have hl : lv_has ls 6 [(0, .ref a_t), (1, .int p0), (2, .int p1)] := hl
  unfold m_X9_number at h
  refine lv_aload_n hx hb dX9_number_0 rfl (lv_at hl 0 rfl) ?_
  refine va_get (D := D) (ci := 9) (v := .int t_isFault) (C := RX9) (T := TX9) (N := 21) hx hb hg inG_X9 hown hK hP 0 rfl rfl 4 (by decide) (hg _ q_949) (fun _ h9 => h9) rfl dX9_number_1 ?_
  obtain ⟨k28, hk28, h⟩ := jn_e h
  have J28 : ∀ (w1 : Int32) (x2 : Int32) (H : Heap) (locs : List Loc) (ls : Array Slot), va_P D vwCl [(a_t, .inr (9, [g_t_now, .ref a_t_tape, .int t_typed, .int w1, .int t_isFault, g_t_readLaw, g_t_read, g_t_undone, g_t_undos, g_t_aside, g_t_coat, g_t_bestCoats, g_t_bestStand, g_t_bestPaint, g_t_kept, g_t_keptUndos, g_t_isKept, g_t_lanes, g_t_sizes, g_t_items, g_t_moved])), (a_t_tape, .inl (cy 0, 60, .inl t_tape))] H → va_D A [(a_t, .inr (9, [g_t_now, .ref a_t_tape, .int t_typed, .int w1, .int t_isFault, g_t_readLaw, g_t_read, g_t_undone, g_t_undos, g_t_aside, g_t_coat, g_t_bestCoats, g_t_bestStand, g_t_bestPaint, g_t_kept, g_t_keptUndos, g_t_isKept, g_t_lanes, g_t_sizes, g_t_items, g_t_moved])), (a_t_tape, .inl (cy 0, 60, .inl t_tape))] → va_S A s.heap H locs → lv_has ls 6 [(0, .ref a_t), (1, .int p0), (2, .int p1)] → k28 w1 x2 = some out → W p l e (rmG 1 25) s m [.ref a_t, .int p0, .int p1].toArray below meth c H locs 0 0 QQ (F0 m 15 ls [.int x2]) := by
    intro w1 x2 H locs ls hP hD hS hl h
    rw [hk28] at h
    refine lv_istore_n (lv' := [(3, .int x2), (0, .ref a_t), (1, .int p0), (2, .int p1)]) hx hb dX9_number_15 rfl hl (by decide) rfl (fun ls hl => ?_)
    refine lv_aload_n hx hb dX9_number_16 rfl (lv_at hl 1 rfl) ?_
    refine va_get (D := D) (ci := 9) (v := .int w1) (C := RX9) (T := TX9) (N := 21) hx hb hg inG_X9 hown hK hP 0 rfl rfl 3 (by decide) (hg _ q_948) (fun _ h9 => h9) rfl dX9_number_17 ?_
    refine lv_istore (lv' := [(4, .int w1), (3, .int x2), (0, .ref a_t), (1, .int p0), (2, .int p1)]) hx hb dX9_number_20 hl (by decide) rfl (fun ls hl => ?_)
    refine lv_iconst (v := 0) hx hb dX9_number_22 kI_0 ?_
    refine lv_istore (lv' := [(5, .int 0), (4, .int w1), (3, .int x2), (0, .ref a_t), (1, .int p0), (2, .int p1)]) hx hb dX9_number_23 hl (by decide) rfl (fun ls hl => ?_)
    refine lv_aload_n hx hb dX9_number_25 rfl (lv_at hl 3 rfl) ?_
    refine lv_aload_n hx hb dX9_number_26 rfl (lv_at hl 3 rfl) ?_
    refine va_get (D := D) (ci := 9) (v := .int t_isFault) (C := RX9) (T := TX9) (N := 21) hx hb hg inG_X9 hown hK hP 0 rfl rfl 4 (by decide) (hg _ q_949) (fun _ h9 => h9) rfl dX9_number_27 ?_
    obtain ⟨k23, hk23, h⟩ := jn_e h
    have J23 : ∀ (x3 : Int32) (H : Heap) (locs : List Loc) (ls : Array Slot), va_P D vwCl [(a_t, .inr (9, [g_t_now, .ref a_t_tape, .int t_typed, .int w1, .int t_isFault, g_t_readLaw, g_t_read, g_t_undone, g_t_undos, g_t_aside, g_t_coat, g_t_bestCoats, g_t_bestStand, g_t_bestPaint, g_t_kept, g_t_keptUndos, g_t_isKept, g_t_lanes, g_t_sizes, g_t_items, g_t_moved])), (a_t_tape, .inl (cy 0, 60, .inl t_tape))] H → va_D A [(a_t, .inr (9, [g_t_now, .ref a_t_tape, .int t_typed, .int w1, .int t_isFault, g_t_readLaw, g_t_read, g_t_undone, g_t_undos, g_t_aside, g_t_coat, g_t_bestCoats, g_t_bestStand, g_t_bestPaint, g_t_kept, g_t_keptUndos, g_t_isKept, g_t_lanes, g_t_sizes, g_t_items, g_t_moved])), (a_t_tape, .inl (cy 0, 60, .inl t_tape))] → va_S A s.heap H locs → lv_has ls 6 [(5, .int 0), (4, .int w1), (0, .ref a_t), (1, .int p0), (2, .int p1)] → k23 x3 = some out → W p l e (rmG 1 25) s m [.ref a_t, .int p0, .int p1].toArray below meth c H locs 0 0 QQ (F0 m 52 ls [.int x3, .ref a_t]) := by
      intro x3 H locs ls hP hD hS hl h
      rw [hk23] at h
      obtain ⟨hz4, h⟩ := zb_e h
      refine va_put (D := D) (ci := 9) (v := .int x3) (ty := .boolean) (C := RX9) (T := TX9) (N := 21) hx hb hg inG_X9 tyX9 tyX9_ok nmX9 hown hK hP hD hS 0 rfl rfl 4 (by decide) (hg _ q_949) (fun _ h9 => h9) rfl (tyX9_ok 4 (by decide)) (nar_z hz4) (fit_z hz4) (Nat.le_of_ble_eq_true rfl) dX9_number_52 (fun H locs hP hD hS => ?_)
      have hP : va_P D vwCl [(a_t, .inr (9, [g_t_now, .ref a_t_tape, .int t_typed, .int w1, .int x3, g_t_readLaw, g_t_read, g_t_undone, g_t_undos, g_t_aside, g_t_coat, g_t_bestCoats, g_t_bestStand, g_t_bestPaint, g_t_kept, g_t_keptUndos, g_t_isKept, g_t_lanes, g_t_sizes, g_t_items, g_t_moved])), (a_t_tape, .inl (cy 0, 60, .inl t_tape))] H := hP
      have hD : va_D A [(a_t, .inr (9, [g_t_now, .ref a_t_tape, .int t_typed, .int w1, .int x3, g_t_readLaw, g_t_read, g_t_undone, g_t_undos, g_t_aside, g_t_coat, g_t_bestCoats, g_t_bestStand, g_t_bestPaint, g_t_kept, g_t_keptUndos, g_t_isKept, g_t_lanes, g_t_sizes, g_t_items, g_t_moved])), (a_t_tape, .inl (cy 0, 60, .inl t_tape))] := hD
      obtain ⟨k12, hk12, h⟩ := kap (fun z => m_X9_number_L55 t_tape t_typed w1 x3 z F 0 w1) h
      have J12 : ∀ (x7 : Int32) (w8 : Int32) (H : Heap) (locs : List Loc) (ls : Array Slot), va_P D vwCl [(a_t, .inr (9, [g_t_now, .ref a_t_tape, .int t_typed, .int w8, .int x3, g_t_readLaw, g_t_read, g_t_undone, g_t_undos, g_t_aside, g_t_coat, g_t_bestCoats, g_t_bestStand, g_t_bestPaint, g_t_kept, g_t_keptUndos, g_t_isKept, g_t_lanes, g_t_sizes, g_t_items, g_t_moved])), (a_t_tape, .inl (cy 0, 60, .inl t_tape))] H → va_D A [(a_t, .inr (9, [g_t_now, .ref a_t_tape, .int t_typed, .int w8, .int x3, g_t_readLaw, g_t_read, g_t_undone, g_t_undos, g_t_aside, g_t_coat, g_t_bestCoats, g_t_bestStand, g_t_bestPaint, g_t_kept, g_t_keptUndos, g_t_isKept, g_t_lanes, g_t_sizes, g_t_items, g_t_moved])), (a_t_tape, .inl (cy 0, 60, .inl t_tape))] → va_S A s.heap H locs → lv_has ls 6 [(5, .int x7), (4, .int w1), (0, .ref a_t), (1, .int p0), (2, .int p1)] → k12 x7 w8 = some out → W p l e (rmG 1 25) s m [.ref a_t, .int p0, .int p1].toArray below meth c H locs 0 0 QQ (F0 m 139 ls []) := by
        intro x7 w8 H locs ls hP hD hS hl h
        rw [hk12] at h
        refine lv_aload_n hx hb dX9_number_139 rfl (lv_at hl 2 rfl) ?_
        refine va_get (D := D) (ci := 9) (v := .int x3) (C := RX9) (T := TX9) (N := 21) hx hb hg inG_X9 hown hK hP 0 rfl rfl 4 (by decide) (hg _ q_949) (fun _ h9 => h9) rfl dX9_number_140 ?_
        refine lv_if_ne (tgt := 173) hx hb dX9_number_143 (by decide) (fun c9 => ?_) (fun c9 => ?_)
        · have h := it_f c9 h
          refine lv_iload hx hb dX9_number_173 (lv_at hl 0 rfl) ?_
          exact hret _ _ _ _ ls 175 dX9_number_175 rfl (by rw [← Option.some.inj h]) (by rw [← Option.some.inj h]) hP hD hS
        · have h := it_t c9 h
          refine lv_iload hx hb dX9_number_146 (lv_at hl 0 rfl) ?_
          refine lv_iload_n hx hb dX9_number_148 rfl (lv_at hl 3 rfl) ?_
          refine lv_icmp_gt (tgt := 162) hx hb dX9_number_149 (by decide) (fun c10 => ?_) (fun c10 => ?_)
          · have h := it_t c10 h
            refine lv_aload_n hx hb dX9_number_162 rfl (lv_at hl 2 rfl) ?_
            refine lv_iconst (v := 1) hx hb dX9_number_163 kI_1 ?_
            refine va_put (D := D) (ci := 9) (v := .int 1) (ty := .boolean) (C := RX9) (T := TX9) (N := 21) hx hb hg inG_X9 tyX9 tyX9_ok nmX9 hown hK hP hD hS 0 rfl rfl 4 (by decide) (hg _ q_949) (fun _ h9 => h9) rfl (tyX9_ok 4 (by decide)) (nar_z (Or.inr rfl)) (fit_z (Or.inr rfl)) (Nat.le_of_ble_eq_true rfl) dX9_number_164 (fun H locs hP hD hS => ?_)
            have hP : va_P D vwCl [(a_t, .inr (9, [g_t_now, .ref a_t_tape, .int t_typed, .int w8, .int 1, g_t_readLaw, g_t_read, g_t_undone, g_t_undos, g_t_aside, g_t_coat, g_t_bestCoats, g_t_bestStand, g_t_bestPaint, g_t_kept, g_t_keptUndos, g_t_isKept, g_t_lanes, g_t_sizes, g_t_items, g_t_moved])), (a_t_tape, .inl (cy 0, 60, .inl t_tape))] H := hP
            have hD : va_D A [(a_t, .inr (9, [g_t_now, .ref a_t_tape, .int t_typed, .int w8, .int 1, g_t_readLaw, g_t_read, g_t_undone, g_t_undos, g_t_aside, g_t_coat, g_t_bestCoats, g_t_bestStand, g_t_bestPaint, g_t_kept, g_t_keptUndos, g_t_isKept, g_t_lanes, g_t_sizes, g_t_items, g_t_moved])), (a_t_tape, .inl (cy 0, 60, .inl t_tape))] := hD
            refine lv_aload_n hx hb dX9_number_167 rfl (lv_at hl 2 rfl) ?_
            refine lv_iload hx hb dX9_number_168 (lv_at hl 1 rfl) ?_
            refine va_put (D := D) (ci := 9) (v := .int w1) (ty := .int) (C := RX9) (T := TX9) (N := 21) hx hb hg inG_X9 tyX9 tyX9_ok nmX9 hown hK hP hD hS 0 rfl rfl 3 (by decide) (hg _ q_948) (fun _ h9 => h9) rfl (tyX9_ok 3 (by decide)) rfl rfl (Nat.le_of_ble_eq_true rfl) dX9_number_170 (fun H locs hP hD hS => ?_)
            have hP : va_P D vwCl [(a_t, .inr (9, [g_t_now, .ref a_t_tape, .int t_typed, .int w1, .int 1, g_t_readLaw, g_t_read, g_t_undone, g_t_undos, g_t_aside, g_t_coat, g_t_bestCoats, g_t_bestStand, g_t_bestPaint, g_t_kept, g_t_keptUndos, g_t_isKept, g_t_lanes, g_t_sizes, g_t_items, g_t_moved])), (a_t_tape, .inl (cy 0, 60, .inl t_tape))] H := hP
            have hD : va_D A [(a_t, .inr (9, [g_t_now, .ref a_t_tape, .int t_typed, .int w1, .int 1, g_t_readLaw, g_t_read, g_t_undone, g_t_undos, g_t_aside, g_t_coat, g_t_bestCoats, g_t_bestStand, g_t_bestPaint, g_t_kept, g_t_keptUndos, g_t_isKept, g_t_lanes, g_t_sizes, g_t_items, g_t_moved])), (a_t_tape, .inl (cy 0, 60, .inl t_tape))] := hD
            refine lv_iload hx hb dX9_number_173 (lv_at hl 0 rfl) ?_
            exact hret _ _ _ _ ls 175 dX9_number_175 rfl (by rw [← Option.some.inj h]) (by rw [← Option.some.inj h]) hP hD hS
          · have h := it_f c10 h
            refine lv_iload_n hx hb dX9_number_152 rfl (lv_at hl 4 rfl) ?_
            refine lv_iload hx hb dX9_number_153 (lv_at hl 0 rfl) ?_
            refine lv_ishr hx hb dX9_number_155 ?_
            refine lv_iconst (v := 1) hx hb dX9_number_156 kI_1 ?_
            refine lv_iand hx hb dX9_number_157 ?_
            refine lv_iconst (v := 1) hx hb dX9_number_158 kI_1 ?_
            refine lv_icmp_ne (tgt := 173) hx hb dX9_number_159 (by decide) (fun c11 => ?_) (fun c11 => ?_)
            · have h := it_f c11 h
              refine lv_iload hx hb dX9_number_173 (lv_at hl 0 rfl) ?_
              exact hret _ _ _ _ ls 175 dX9_number_175 rfl (by rw [← Option.some.inj h]) (by rw [← Option.some.inj h]) hP hD hS
            · have h := it_t c11 h
              refine lv_aload_n hx hb dX9_number_162 rfl (lv_at hl 2 rfl) ?_
              refine lv_iconst (v := 1) hx hb dX9_number_163 kI_1 ?_
              refine va_put (D := D) (ci := 9) (v := .int 1) (ty := .boolean) (C := RX9) (T := TX9) (N := 21) hx hb hg inG_X9 tyX9 tyX9_ok nmX9 hown hK hP hD hS 0 rfl rfl 4 (by decide) (hg _ q_949) (fun _ h9 => h9) rfl (tyX9_ok 4 (by decide)) (nar_z (Or.inr rfl)) (fit_z (Or.inr rfl)) (Nat.le_of_ble_eq_true rfl) dX9_number_164 (fun H locs hP hD hS => ?_)
              have hP : va_P D vwCl [(a_t, .inr (9, [g_t_now, .ref a_t_tape, .int t_typed, .int w8, .int 1, g_t_readLaw, g_t_read, g_t_undone, g_t_undos, g_t_aside, g_t_coat, g_t_bestCoats, g_t_bestStand, g_t_bestPaint, g_t_kept, g_t_keptUndos, g_t_isKept, g_t_lanes, g_t_sizes, g_t_items, g_t_moved])), (a_t_tape, .inl (cy 0, 60, .inl t_tape))] H := hP
              have hD : va_D A [(a_t, .inr (9, [g_t_now, .ref a_t_tape, .int t_typed, .int w8, .int 1, g_t_readLaw, g_t_read, g_t_undone, g_t_undos, g_t_aside, g_t_coat, g_t_bestCoats, g_t_bestStand, g_t_bestPaint, g_t_kept, g_t_keptUndos, g_t_isKept, g_t_lanes, g_t_sizes, g_t_items, g_t_moved])), (a_t_tape, .inl (cy 0, 60, .inl t_tape))] := hD
              refine lv_aload_n hx hb dX9_number_167 rfl (lv_at hl 2 rfl) ?_
              refine lv_iload hx hb dX9_number_168 (lv_at hl 1 rfl) ?_
              refine va_put (D := D) (ci := 9) (v := .int w1) (ty := .int) (C := RX9) (T := TX9) (N := 21) hx hb hg inG_X9 tyX9 tyX9_ok nmX9 hown hK hP hD hS 0 rfl rfl 3 (by decide) (hg _ q_948) (fun _ h9 => h9) rfl (tyX9_ok 3 (by decide)) rfl rfl (Nat.le_of_ble_eq_true rfl) dX9_number_170 (fun H locs hP hD hS => ?_)
              have hP : va_P D vwCl [(a_t, .inr (9, [g_t_now, .ref a_t_tape, .int t_typed, .int w1, .int 1, g_t_readLaw, g_t_read, g_t_undone, g_t_undos, g_t_aside, g_t_coat, g_t_bestCoats, g_t_bestStand, g_t_bestPaint, g_t_kept, g_t_keptUndos, g_t_isKept, g_t_lanes, g_t_sizes, g_t_items, g_t_moved])), (a_t_tape, .inl (cy 0, 60, .inl t_tape))] H := hP
              have hD : va_D A [(a_t, .inr (9, [g_t_now, .ref a_t_tape, .int t_typed, .int w1, .int 1, g_t_readLaw, g_t_read, g_t_undone, g_t_undos, g_t_aside, g_t_coat, g_t_bestCoats, g_t_bestStand, g_t_bestPaint, g_t_kept, g_t_keptUndos, g_t_isKept, g_t_lanes, g_t_sizes, g_t_items, g_t_moved])), (a_t_tape, .inl (cy 0, 60, .inl t_tape))] := hD
              refine lv_iload hx hb dX9_number_173 (lv_at hl 0 rfl) ?_
              exact hret _ _ _ _ ls 175 dX9_number_175 rfl (by rw [← Option.some.inj h]) (by rw [← Option.some.inj h]) hP hD hS
      have L13 : ∀ (n13 : Nat) (x5 : Int32) (w6 : Int32) (H : Heap) (locs : List Loc) (ls : Array Slot), va_P D vwCl [(a_t, .inr (9, [g_t_now, .ref a_t_tape, .int t_typed, .int w6, .int x3, g_t_readLaw, g_t_read, g_t_undone, g_t_undos, g_t_aside, g_t_coat, g_t_bestCoats, g_t_bestStand, g_t_bestPaint, g_t_kept, g_t_keptUndos, g_t_isKept, g_t_lanes, g_t_sizes, g_t_items, g_t_moved])), (a_t_tape, .inl (cy 0, 60, .inl t_tape))] H → va_D A [(a_t, .inr (9, [g_t_now, .ref a_t_tape, .int t_typed, .int w6, .int x3, g_t_readLaw, g_t_read, g_t_undone, g_t_undos, g_t_aside, g_t_coat, g_t_bestCoats, g_t_bestStand, g_t_bestPaint, g_t_kept, g_t_keptUndos, g_t_isKept, g_t_lanes, g_t_sizes, g_t_items, g_t_moved])), (a_t_tape, .inl (cy 0, 60, .inl t_tape))] → va_S A s.heap H locs → lv_has ls 6 [(5, .int x5), (4, .int w1), (0, .ref a_t), (1, .int p0), (2, .int p1)] → m_X9_number_L55 t_tape t_typed w1 x3 k12 n13 x5 w6 = some out → W p l e (rmG 1 25) s m [.ref a_t, .int p0, .int p1].toArray below meth c H locs 0 0 QQ (F0 m 55 ls []) := by
        intro n13
        induction n13 with
        | zero => intro x5 w6 H locs ls hP hD hS hl h; exact nomatch (show (none : Option (Int32 × Int32 × Int32)) = some out from h)
        | succ n13 ih =>
            intro x5 w6 H locs ls hP hD hS hl h
            have h : m_X9_number_L55s t_tape t_typed w1 x3 k12 (m_X9_number_L55 t_tape t_typed w1 x3 k12 n13) x5 w6 = some out := h
            unfold m_X9_number_L55s at h
            refine lv_aload_n hx hb dX9_number_55 rfl (lv_at hl 2 rfl) ?_
            refine va_get (D := D) (ci := 9) (v := .int x3) (C := RX9) (T := TX9) (N := 21) hx hb hg inG_X9 hown hK hP 0 rfl rfl 4 (by decide) (hg _ q_949) (fun _ h9 => h9) rfl dX9_number_56 ?_
            refine lv_if_ne (tgt := 139) hx hb dX9_number_59 (by decide) (fun c15 => ?_) (fun c15 => ?_)
            · have h := it_f c15 h
              exact J12 x5 w6 _ _ _ hP hD hS (lv_sub hl [0, 1, 2, 3, 4] rfl) h
            · have h := it_t c15 h
              refine lv_aload_n hx hb dX9_number_62 rfl (lv_at hl 2 rfl) ?_
              refine va_get (D := D) (ci := 9) (v := .int w6) (C := RX9) (T := TX9) (N := 21) hx hb hg inG_X9 hown hK hP 0 rfl rfl 3 (by decide) (hg _ q_948) (fun _ h9 => h9) rfl dX9_number_63 ?_
              refine lv_aload_n hx hb dX9_number_66 rfl (lv_at hl 2 rfl) ?_
              refine va_get (D := D) (ci := 9) (v := .int t_typed) (C := RX9) (T := TX9) (N := 21) hx hb hg inG_X9 hown hK hP 0 rfl rfl 2 (by decide) (hg _ q_947) (fun _ h9 => h9) rfl dX9_number_67 ?_
              refine lv_icmp_ge (tgt := 139) hx hb dX9_number_70 (by decide) (fun c16 => ?_) (fun c16 => ?_)
              · have h := it_t c16 h
                exact J12 x5 w6 _ _ _ hP hD hS (lv_sub hl [0, 1, 2, 3, 4] rfl) h
              · have h := it_f c16 h
                refine lv_aload_n hx hb dX9_number_73 rfl (lv_at hl 2 rfl) ?_
                refine va_get (D := D) (ci := 9) (v := .int w6) (C := RX9) (T := TX9) (N := 21) hx hb hg inG_X9 hown hK hP 0 rfl rfl 3 (by decide) (hg _ q_948) (fun _ h9 => h9) rfl dX9_number_74 ?_
                refine lv_iload hx hb dX9_number_77 (lv_at hl 1 rfl) ?_
                refine lv_isub hx hb dX9_number_79 ?_
                refine lv_iconst (v := 2) hx hb dX9_number_80 kI_2 ?_
                refine lv_icmp_ge (tgt := 139) hx hb dX9_number_81 (by decide) (fun c17 => ?_) (fun c17 => ?_)
                · have h := it_t c17 h
                  exact J12 x5 w6 _ _ _ hP hD hS (lv_sub hl [0, 1, 2, 3, 4] rfl) h
                · have h := it_f c17 h
                  refine lv_aload_n hx hb dX9_number_84 rfl (lv_at hl 2 rfl) ?_
                  refine va_get (D := D) (ci := 9) (v := .ref a_t_tape) (C := RX9) (T := TX9) (N := 21) hx hb hg inG_X9 hown hK hP 0 rfl rfl 1 (by decide) (hg _ q_946) (fun _ h9 => h9) rfl dX9_number_85 ?_
                  refine lv_aload_n hx hb dX9_number_88 rfl (lv_at hl 2 rfl) ?_
                  refine va_get (D := D) (ci := 9) (v := .int w6) (C := RX9) (T := TX9) (N := 21) hx hb hg inG_X9 hown hK hP 0 rfl rfl 3 (by decide) (hg _ q_948) (fun _ h9 => h9) rfl dX9_number_89 ?_
                  obtain ⟨hi18, h⟩ := chk_e h
                  refine va_iald hx hb hK hP 1 0 rfl rfl hi18 dX9_number_92 ?_
                  refine lv_i2l (v := (t_tape w6.toNatClampNeg).toInt64) hx hb dX9_number_93 rfl ?_
                  refine lv_ldc2 (v := 48) hx hb hown (hg _ q_1126) dX9_number_94 ?_
                  refine lv_ldc2 (v := 57) hx hb hown (hg _ q_1127) dX9_number_97 ?_
                  obtain ⟨v19, hv19, h⟩ := bind_e h
                  refine callRS (As := [.long ((t_tape w6.toNatClampNeg).toInt64), .long 48, .long 57]) (rest := []) (v0 := .int v19) hx hb hml hown hg (c_X9_in l D cy ((t_tape w6.toNatClampNeg).toInt64) (48 : Int64) (57 : Int64) v19 hv19) q_1016 q_1014 q_63 q_1015 hd_X9_in ⟨(Nat.le_of_ble_eq_true rfl), (Nat.le_of_ble_eq_true rfl)⟩ hK hP [] rfl rfl rfl rfl hl.1 rfl (Nat.le_of_ble_eq_true rfl) dX9_number_100 ?_
                  refine lv_if_eq (tgt := 139) hx hb dX9_number_103 (by decide) (fun c20 => ?_) (fun c20 => ?_)
                  · have h := it_t c20 h
                    exact J12 x5 w6 _ _ _ hP hD hS (lv_sub hl [0, 1, 2, 3, 4] rfl) h
                  · have h := it_f c20 h
                    refine lv_bipush (v := 10) hx hb dX9_number_106 kB_10 ?_
                    refine lv_iload hx hb dX9_number_108 (lv_at hl 0 rfl) ?_
                    refine lv_imul hx hb dX9_number_110 ?_
                    refine lv_aload_n hx hb dX9_number_111 rfl (lv_at hl 2 rfl) ?_
                    refine va_get (D := D) (ci := 9) (v := .ref a_t_tape) (C := RX9) (T := TX9) (N := 21) hx hb hg inG_X9 hown hK hP 0 rfl rfl 1 (by decide) (hg _ q_946) (fun _ h9 => h9) rfl dX9_number_112 ?_
                    refine lv_aload_n hx hb dX9_number_115 rfl (lv_at hl 2 rfl) ?_
                    refine va_get (D := D) (ci := 9) (v := .int w6) (C := RX9) (T := TX9) (N := 21) hx hb hg inG_X9 hown hK hP 0 rfl rfl 3 (by decide) (hg _ q_948) (fun _ h9 => h9) rfl dX9_number_116 ?_
                    obtain ⟨hi21, h⟩ := chk_e h
                    refine va_iald hx hb hK hP 1 0 rfl rfl hi21 dX9_number_119 ?_
                    refine lv_iadd hx hb dX9_number_120 ?_
                    refine lv_bipush (v := 48) hx hb dX9_number_121 kB_48 ?_
                    refine lv_isub hx hb dX9_number_123 ?_
                    refine lv_topi (fun x22 ex22 => ?_)
                    have h := bnd_e ex22 h
                    refine lv_istore (lv' := [(5, .int x22), (4, .int w1), (0, .ref a_t), (1, .int p0), (2, .int p1)]) hx hb dX9_number_124 hl (by decide) rfl (fun ls hl => ?_)
                    refine lv_aload_n hx hb dX9_number_126 rfl (lv_at hl 2 rfl) ?_
                    refine lv_dup hx hb dX9_number_127 rfl ?_
                    refine va_get (D := D) (ci := 9) (v := .int w6) (C := RX9) (T := TX9) (N := 21) hx hb hg inG_X9 hown hK hP 0 rfl rfl 3 (by decide) (hg _ q_948) (fun _ h9 => h9) rfl dX9_number_128 ?_
                    refine lv_iconst (v := 1) hx hb dX9_number_131 kI_1 ?_
                    refine lv_iadd hx hb dX9_number_132 ?_
                    refine va_put (D := D) (ci := 9) (v := .int (w6 + 1)) (ty := .int) (C := RX9) (T := TX9) (N := 21) hx hb hg inG_X9 tyX9 tyX9_ok nmX9 hown hK hP hD hS 0 rfl rfl 3 (by decide) (hg _ q_948) (fun _ h9 => h9) rfl (tyX9_ok 3 (by decide)) rfl rfl (Nat.le_of_ble_eq_true rfl) dX9_number_133 (fun H locs hP hD hS => ?_)
                    have hP : va_P D vwCl [(a_t, .inr (9, [g_t_now, .ref a_t_tape, .int t_typed, .int (w6 + 1), .int x3, g_t_readLaw, g_t_read, g_t_undone, g_t_undos, g_t_aside, g_t_coat, g_t_bestCoats, g_t_bestStand, g_t_bestPaint, g_t_kept, g_t_keptUndos, g_t_isKept, g_t_lanes, g_t_sizes, g_t_items, g_t_moved])), (a_t_tape, .inl (cy 0, 60, .inl t_tape))] H := hP
                    have hD : va_D A [(a_t, .inr (9, [g_t_now, .ref a_t_tape, .int t_typed, .int (w6 + 1), .int x3, g_t_readLaw, g_t_read, g_t_undone, g_t_undos, g_t_aside, g_t_coat, g_t_bestCoats, g_t_bestStand, g_t_bestPaint, g_t_kept, g_t_keptUndos, g_t_isKept, g_t_lanes, g_t_sizes, g_t_items, g_t_moved])), (a_t_tape, .inl (cy 0, 60, .inl t_tape))] := hD
                    refine lv_goto (tgt := 55) hx hb dX9_number_136 (by decide) ?_
                    exact ih x22 (w6 + 1) _ _ _ hP hD hS (lv_sub hl [0, 1, 2, 3, 4] rfl) h
      exact L13 F 0 w1 _ _ _ hP hD hS (lv_sub hl [0, 1, 2, 3, 4] rfl) h
    obtain ⟨k24, hk24, h⟩ := jn_e h
    have J24 : ∀ (H : Heap) (locs : List Loc) (ls : Array Slot), va_P D vwCl [(a_t, .inr (9, [g_t_now, .ref a_t_tape, .int t_typed, .int w1, .int t_isFault, g_t_readLaw, g_t_read, g_t_undone, g_t_undos, g_t_aside, g_t_coat, g_t_bestCoats, g_t_bestStand, g_t_bestPaint, g_t_kept, g_t_keptUndos, g_t_isKept, g_t_lanes, g_t_sizes, g_t_items, g_t_moved])), (a_t_tape, .inl (cy 0, 60, .inl t_tape))] H → va_D A [(a_t, .inr (9, [g_t_now, .ref a_t_tape, .int t_typed, .int w1, .int t_isFault, g_t_readLaw, g_t_read, g_t_undone, g_t_undos, g_t_aside, g_t_coat, g_t_bestCoats, g_t_bestStand, g_t_bestPaint, g_t_kept, g_t_keptUndos, g_t_isKept, g_t_lanes, g_t_sizes, g_t_items, g_t_moved])), (a_t_tape, .inl (cy 0, 60, .inl t_tape))] → va_S A s.heap H locs → lv_has ls 6 [(5, .int 0), (4, .int w1), (0, .ref a_t), (1, .int p0), (2, .int p1)] → k24 = some out → W p l e (rmG 1 25) s m [.ref a_t, .int p0, .int p1].toArray below meth c H locs 0 0 QQ (F0 m 47 ls [.ref a_t]) := by
      intro H locs ls hP hD hS hl h
      rw [hk24] at h
      refine lv_iconst (v := 1) hx hb dX9_number_47 kI_1 ?_
      refine lv_goto (tgt := 52) hx hb dX9_number_48 (by decide) ?_
      exact J23 1 _ _ _ hP hD hS (lv_sub hl [0, 1, 2, 3, 4] rfl) h
    refine lv_if_ne (tgt := 47) hx hb dX9_number_30 (by decide) (fun c25 => ?_) (fun c25 => ?_)
    · have h := it_f c25 h
      exact J24  _ _ _ hP hD hS (lv_sub hl [0, 1, 3, 4, 5] rfl) h
    · have h := it_t c25 h
      refine lv_iload_n hx hb dX9_number_33 rfl (lv_at hl 2 rfl) ?_
      refine lv_i2l (v := x2.toInt64) hx hb dX9_number_34 rfl ?_
      refine lv_ldc2 (v := 48) hx hb hown (hg _ q_1126) dX9_number_35 ?_
      refine lv_ldc2 (v := 57) hx hb hown (hg _ q_1127) dX9_number_38 ?_
      obtain ⟨v26, hv26, h⟩ := bind_e h
      refine callRS (As := [.long (x2.toInt64), .long 48, .long 57]) (rest := [.ref a_t]) (v0 := .int v26) hx hb hml hown hg (c_X9_in l D cy (x2.toInt64) (48 : Int64) (57 : Int64) v26 hv26) q_1016 q_1014 q_63 q_1015 hd_X9_in ⟨(Nat.le_of_ble_eq_true rfl), (Nat.le_of_ble_eq_true rfl)⟩ hK hP [] rfl rfl rfl rfl hl.1 rfl (Nat.le_of_ble_eq_true rfl) dX9_number_41 ?_
      refine lv_if_ne (tgt := 51) hx hb dX9_number_44 (by decide) (fun c27 => ?_) (fun c27 => ?_)
      · have h := it_f c27 h
        refine lv_iconst (v := 0) hx hb dX9_number_51 kI_0 ?_
        exact J23 0 _ _ _ hP hD hS (lv_sub hl [0, 1, 3, 4, 5] rfl) h
      · have h := it_t c27 h
        exact J24  _ _ _ hP hD hS (lv_sub hl [0, 1, 3, 4, 5] rfl) h
  refine lv_if_eq (tgt := 11) hx hb dX9_number_4 (by decide) (fun c29 => ?_) (fun c29 => ?_)
  · have h := it_t c29 h
    refine lv_aload_n hx hb dX9_number_11 rfl (lv_at hl 0 rfl) ?_
    obtain ⟨v30, hv30, h⟩ := bind_e h
    refine callMV (As := []) (rest := []) (wr := []) (w2 := [(a_t, .inr (9, [g_t_now, .ref a_t_tape, .int t_typed, .int v30.2, .int t_isFault, g_t_readLaw, g_t_read, g_t_undone, g_t_undos, g_t_aside, g_t_coat, g_t_bestCoats, g_t_bestStand, g_t_bestPaint, g_t_kept, g_t_keptUndos, g_t_isKept, g_t_lanes, g_t_sizes, g_t_items, g_t_moved])), (a_t_tape, .inl (cy 0, 60, .inl t_tape))]) hx hb hml hown hg (c_X9_here l D cy a_t a_t_tape _ (g_t_now) (.int t_isFault) (g_t_readLaw) (g_t_read) (g_t_undone) (g_t_undos) (g_t_aside) (g_t_coat) (g_t_bestCoats) (g_t_bestStand) (g_t_bestPaint) (g_t_kept) (g_t_keptUndos) (g_t_isKept) (g_t_lanes) (g_t_sizes) (g_t_items) (g_t_moved) t_tape t_typed t_place F v30 hv30) q_1125 q_1122 q_63 q_1124 q_38 hd_X9_here ⟨(Nat.le_of_ble_eq_true rfl), (Nat.le_of_ble_eq_true rfl)⟩ hK hP hD hS hA [0, 1] [] rfl rfl rfl rfl (by decide) [0, 1] rfl rfl 0 9 rfl rfl rfl rfl rfl rfl hl.1 rfl rfl (Nat.le_of_ble_eq_true rfl) dX9_number_12 (fun H locs hP hD hS => ?_)
    exact J28 v30.2 v30.1 _ _ _ hP hD hS (lv_sub hl [0, 1, 2] rfl) h
  · have h := it_f c29 h
    refine lv_iconst (v := 0) hx hb dX9_number_7 kI_0 ?_
    refine lv_goto (tgt := 15) hx hb dX9_number_8 (by decide) ?_
    exact J28 t_place 0 _ _ _ hP hD hS (lv_sub hl [0, 1, 2] rfl) h

def m_X9_menRead_L4s (t_tape : Nat → Int32) (t_typed : Int32) (F : Nat) (k10 : Int32 → Int32 → Int32 → (Nat → Int32) → Option (Int32 × Int32 × Int32 × (Nat → Int32))) (r12 : Int32 → Int32 → Int32 → Int32 → (Nat → Int32) → Option (Int32 × Int32 × Int32 × (Nat → Int32))) (x1 : Int32) (x2 : Int32) (w3 : Int32) (w4 : Int32) (w5 : Nat → Int32) : Option (Int32 × Int32 × Int32 × (Nat → Int32)) := (if w4 = 0 then jn (fun (w14 : Int32) => jn (fun (w15 : Int32) (w16 : Int32) => jn (fun (w17 : Int32) (x18 : Int32) => jn (fun (x19 : Int32) => jn (fun (x20 : Int32) => (m_X9_must w17 w16 x20).bind (fun v21 => jn (fun (w22 : Int32) (x23 : Int32) => (m_X9_in (x23.toInt64) (0 : Int64) (9 : Int64)).bind (fun v24 => (m_X9_must w22 v21.2 v24).bind (fun v25 => jn (fun (x26 : Int32) (x27 : Int32) (w28 : Int32) (w29 : Int32) => (if w29 = 0 then chk (3 * x2) 18 (chk ((3 * x2) + 1) 18 (chk ((3 * x2) + 2) 18 (bnd (x2 + 1) (fun x35 => r12 x27 x35 w28 w29 (upd (upd (upd w5 (3 * x2).toNatClampNeg x19) ((3 * x2) + 1).toNatClampNeg x23) ((3 * x2) + 2).toNatClampNeg x26))))) else bnd (x2 + 1) (fun x31 => r12 x27 x31 w28 w29 w5))) (fun k36 => (if v25.2 = 0 then (m_X9_here F t_tape t_typed v25.1).bind (fun v38 => (if v38.1 = 64 then (m_X9_number F t_tape t_typed (v38.2 + 1) v25.2 11 x1).bind (fun v40 => jn (fun (x41 : Int32) (x42 : Int32) => bnd (x41 ||| x42) (fun x43 => k36 v40.1 x43 v40.2.1 v40.2.2)) (fun k44 => (if v40.2.2 = 0 then k44 x1 (1 <<< (v40.1 &&& 31)) else k44 x1 0))) else k36 (-4) x1 v38.2 v25.2)) else k36 (-4) x1 v25.1 v25.2))))) (fun k46 => (if v21.2 = 0 then (m_X9_here F t_tape t_typed v21.1).bind (fun v48 => k46 v48.2 (v48.1 - 48)) else k46 v21.1 (-1))))) (fun k49 => (if x19 < 0 then k49 0 else k49 1))) (fun k51 => (if x18 = 112 then k51 0 else (if x18 = 108 then k51 1 else (if x18 = 103 then k51 2 else (if x18 = 100 then k51 3 else (if x18 = 118 then k51 4 else k51 (-1)))))))) (fun k57 => (if w16 = 0 then (m_X9_here F t_tape t_typed w15).bind (fun v59 => k57 v59.2 v59.1) else k57 w15 0))) (fun k60 => (if x2 ≤ 0 then k60 w14 w4 else jn (fun (x62 : Int32) => (m_X9_must w14 w4 x62).bind (fun v63 => k60 v63.1 v63.2)) (fun k64 => (if 6 ≤ x2 then k64 0 else k64 1))))) (fun k66 => (if x2 = 0 then k66 w3 else (m_X9_here F t_tape t_typed w3).bind (fun v68 => (if v68.1 = 44 then k66 v68.2 else k10 x2 v68.2 w4 w5)))) else k10 x2 w3 w4 w5)
def m_X9_menRead_L4 (t_tape : Nat → Int32) (t_typed : Int32) (F : Nat) (k10 : Int32 → Int32 → Int32 → (Nat → Int32) → Option (Int32 × Int32 × Int32 × (Nat → Int32))) : Nat → Int32 → Int32 → Int32 → Int32 → (Nat → Int32) → Option (Int32 × Int32 × Int32 × (Nat → Int32))
  | 0 => fun _ _ _ _ _ => none
  | nF + 1 => m_X9_menRead_L4s t_tape t_typed F k10 (m_X9_menRead_L4 t_tape t_typed F k10 nF)
def m_X9_menRead (F : Nat) (t_tape : Nat → Int32) (t_typed : Int32) (t_place : Int32) (t_isFault : Int32) (t_read : Nat → Int32) : Option (Int32 × Int32 × Int32 × (Nat → Int32)) := m_X9_menRead_L4 t_tape t_typed F (fun (x6 : Int32) (w7 : Int32) (w8 : Int32) (w9 : Nat → Int32) => some (x6, w7, w8, w9)) F 0 0 t_place t_isFault t_read
set_option maxHeartbeats 4000000 in
set_option maxRecDepth 100000 in
theorem c_X9_menRead (l : Launch) (D : va_G) (cy : Nat → ClassId) (a_t : Nat) (a_t_tape : Nat) (a_t_read : Nat) (sz : Nat) (g_t_now : Value) (g_t_readLaw : Value) (g_t_undone : Value) (g_t_undos : Value) (g_t_aside : Value) (g_t_coat : Value) (g_t_bestCoats : Value) (g_t_bestStand : Value) (g_t_bestPaint : Value) (g_t_kept : Value) (g_t_keptUndos : Value) (g_t_isKept : Value) (g_t_lanes : Value) (g_t_sizes : Value) (g_t_items : Value) (g_t_moved : Value) (t_tape : Nat → Int32) (t_typed : Int32) (t_place : Int32) (t_isFault : Int32) (t_read : Nat → Int32) (F : Nat) (out : Int32 × Int32 × Int32 × (Nat → Int32)) (h : m_X9_menRead F t_tape t_typed t_place t_isFault t_read = some out) : MetM l D cy yX9_menRead cX9_menRead 7 (some .int) (rmG 2 50) [.ref a_t] sz [(a_t, .inr (9, [g_t_now, .ref a_t_tape, .int t_typed, .int t_place, .int t_isFault, g_t_readLaw, .ref a_t_read, g_t_undone, g_t_undos, g_t_aside, g_t_coat, g_t_bestCoats, g_t_bestStand, g_t_bestPaint, g_t_kept, g_t_keptUndos, g_t_isKept, g_t_lanes, g_t_sizes, g_t_items, g_t_moved])), (a_t_tape, .inl (cy 0, 60, .inl t_tape)), (a_t_read, .inl (cy 0, 18, .inl t_read))] (some (.int out.1)) [(a_t, .inr (9, [g_t_now, .ref a_t_tape, .int t_typed, .int out.2.1, .int out.2.2.1, g_t_readLaw, .ref a_t_read, g_t_undone, g_t_undos, g_t_aside, g_t_coat, g_t_bestCoats, g_t_bestStand, g_t_bestPaint, g_t_kept, g_t_keptUndos, g_t_isKept, g_t_lanes, g_t_sizes, g_t_items, g_t_moved])), (a_t_tape, .inl (cy 0, 60, .inl t_tape)), (a_t_read, .inl (cy 0, 18, .inl out.2.2.2))] := by
  refine startMi (own := RX9) (by decide) rfl (Nat.le_of_ble_eq_true rfl) ?_
  intro p e s m below meth c QQ A hx hb hml hown hg hK hP hD hS hA hret ls hl
  have hl : lv_has ls 7 [(0, .ref a_t)] := hl
  unfold m_X9_menRead at h
  refine lv_iconst (v := 0) hx hb dX9_menRead_0 kI_0 ?_
  refine lv_istore_n (lv' := [(1, .int 0), (0, .ref a_t)]) hx hb dX9_menRead_1 rfl hl (by decide) rfl (fun ls hl => ?_)
  refine lv_iconst (v := 0) hx hb dX9_menRead_2 kI_0 ?_
  refine lv_istore_n (lv' := [(2, .int 0), (1, .int 0), (0, .ref a_t)]) hx hb dX9_menRead_3 rfl hl (by decide) rfl (fun ls hl => ?_)
  obtain ⟨k10, hk10, h⟩ := kap (fun z => m_X9_menRead_L4 t_tape t_typed F z F 0 0 t_place t_isFault t_read) h
  have J10 : ∀ (x6 : Int32) (w7 : Int32) (w8 : Int32) (w9 : Nat → Int32) (H : Heap) (locs : List Loc) (ls : Array Slot), va_P D vwCl [(a_t, .inr (9, [g_t_now, .ref a_t_tape, .int t_typed, .int w7, .int w8, g_t_readLaw, .ref a_t_read, g_t_undone, g_t_undos, g_t_aside, g_t_coat, g_t_bestCoats, g_t_bestStand, g_t_bestPaint, g_t_kept, g_t_keptUndos, g_t_isKept, g_t_lanes, g_t_sizes, g_t_items, g_t_moved])), (a_t_tape, .inl (cy 0, 60, .inl t_tape)), (a_t_read, .inl (cy 0, 18, .inl w9))] H → va_D A [(a_t, .inr (9, [g_t_now, .ref a_t_tape, .int t_typed, .int w7, .int w8, g_t_readLaw, .ref a_t_read, g_t_undone, g_t_undos, g_t_aside, g_t_coat, g_t_bestCoats, g_t_bestStand, g_t_bestPaint, g_t_kept, g_t_keptUndos, g_t_isKept, g_t_lanes, g_t_sizes, g_t_items, g_t_moved])), (a_t_tape, .inl (cy 0, 60, .inl t_tape)), (a_t_read, .inl (cy 0, 18, .inl w9))] → va_S A s.heap H locs → lv_has ls 7 [(1, .int x6)] → k10 x6 w7 w8 w9 = some out → W p l e (rmG 2 50) s m [.ref a_t].toArray below meth c H locs 0 0 QQ (F0 m 264 ls []) := by
    intro x6 w7 w8 w9 H locs ls hP hD hS hl h
    rw [hk10] at h
    refine lv_iload_n hx hb dX9_menRead_264 rfl (lv_at hl 0 rfl) ?_
    exact hret _ _ _ _ ls 265 dX9_menRead_265 rfl (by rw [← Option.some.inj h]) (by rw [← Option.some.inj h]) hP hD hS
  have L11 : ∀ (n11 : Nat) (x1 : Int32) (x2 : Int32) (w3 : Int32) (w4 : Int32) (w5 : Nat → Int32) (H : Heap) (locs : List Loc) (ls : Array Slot), va_P D vwCl [(a_t, .inr (9, [g_t_now, .ref a_t_tape, .int t_typed, .int w3, .int w4, g_t_readLaw, .ref a_t_read, g_t_undone, g_t_undos, g_t_aside, g_t_coat, g_t_bestCoats, g_t_bestStand, g_t_bestPaint, g_t_kept, g_t_keptUndos, g_t_isKept, g_t_lanes, g_t_sizes, g_t_items, g_t_moved])), (a_t_tape, .inl (cy 0, 60, .inl t_tape)), (a_t_read, .inl (cy 0, 18, .inl w5))] H → va_D A [(a_t, .inr (9, [g_t_now, .ref a_t_tape, .int t_typed, .int w3, .int w4, g_t_readLaw, .ref a_t_read, g_t_undone, g_t_undos, g_t_aside, g_t_coat, g_t_bestCoats, g_t_bestStand, g_t_bestPaint, g_t_kept, g_t_keptUndos, g_t_isKept, g_t_lanes, g_t_sizes, g_t_items, g_t_moved])), (a_t_tape, .inl (cy 0, 60, .inl t_tape)), (a_t_read, .inl (cy 0, 18, .inl w5))] → va_S A s.heap H locs → lv_has ls 7 [(2, .int x1), (1, .int x2), (0, .ref a_t)] → m_X9_menRead_L4 t_tape t_typed F k10 n11 x1 x2 w3 w4 w5 = some out → W p l e (rmG 2 50) s m [.ref a_t].toArray below meth c H locs 0 0 QQ (F0 m 4 ls []) := by
    intro n11
    induction n11 with
    | zero => intro x1 x2 w3 w4 w5 H locs ls hP hD hS hl h; exact nomatch (show (none : Option (Int32 × Int32 × Int32 × (Nat → Int32))) = some out from h)
    | succ n11 ih =>
        intro x1 x2 w3 w4 w5 H locs ls hP hD hS hl h
        have h : m_X9_menRead_L4s t_tape t_typed F k10 (m_X9_menRead_L4 t_tape t_typed F k10 n11) x1 x2 w3 w4 w5 = some out := h
        unfold m_X9_menRead_L4s at h
        refine lv_aload_n hx hb dX9_menRead_4 rfl (lv_at hl 2 rfl) ?_
        refine va_get (D := D) (ci := 9) (v := .int w4) (C := RX9) (T := TX9) (N := 21) hx hb hg inG_X9 hown hK hP 0 rfl rfl 4 (by decide) (hg _ q_949) (fun _ h9 => h9) rfl dX9_menRead_5 ?_
        refine lv_if_ne (tgt := 264) hx hb dX9_menRead_8 (by decide) (fun c13 => ?_) (fun c13 => ?_)
        · have h := it_f c13 h
          exact J10 x2 w3 w4 w5 _ _ _ hP hD hS (lv_sub hl [1] rfl) h
        · have h := it_t c13 h
          refine lv_iload_n hx hb dX9_menRead_11 rfl (lv_at hl 1 rfl) ?_
          obtain ⟨k66, hk66, h⟩ := jn_e h
          have J66 : ∀ (w14 : Int32) (H : Heap) (locs : List Loc) (ls : Array Slot), va_P D vwCl [(a_t, .inr (9, [g_t_now, .ref a_t_tape, .int t_typed, .int w14, .int w4, g_t_readLaw, .ref a_t_read, g_t_undone, g_t_undos, g_t_aside, g_t_coat, g_t_bestCoats, g_t_bestStand, g_t_bestPaint, g_t_kept, g_t_keptUndos, g_t_isKept, g_t_lanes, g_t_sizes, g_t_items, g_t_moved])), (a_t_tape, .inl (cy 0, 60, .inl t_tape)), (a_t_read, .inl (cy 0, 18, .inl w5))] H → va_D A [(a_t, .inr (9, [g_t_now, .ref a_t_tape, .int t_typed, .int w14, .int w4, g_t_readLaw, .ref a_t_read, g_t_undone, g_t_undos, g_t_aside, g_t_coat, g_t_bestCoats, g_t_bestStand, g_t_bestPaint, g_t_kept, g_t_keptUndos, g_t_isKept, g_t_lanes, g_t_sizes, g_t_items, g_t_moved])), (a_t_tape, .inl (cy 0, 60, .inl t_tape)), (a_t_read, .inl (cy 0, 18, .inl w5))] → va_S A s.heap H locs → lv_has ls 7 [(2, .int x1), (1, .int x2), (0, .ref a_t)] → k66 w14 = some out → W p l e (rmG 2 50) s m [.ref a_t].toArray below meth c H locs 0 0 QQ (F0 m 24 ls []) := by
            intro w14 H locs ls hP hD hS hl h
            rw [hk66] at h
            refine lv_iload_n hx hb dX9_menRead_24 rfl (lv_at hl 1 rfl) ?_
            obtain ⟨k60, hk60, h⟩ := jn_e h
            have J60 : ∀ (w15 : Int32) (w16 : Int32) (H : Heap) (locs : List Loc) (ls : Array Slot), va_P D vwCl [(a_t, .inr (9, [g_t_now, .ref a_t_tape, .int t_typed, .int w15, .int w16, g_t_readLaw, .ref a_t_read, g_t_undone, g_t_undos, g_t_aside, g_t_coat, g_t_bestCoats, g_t_bestStand, g_t_bestPaint, g_t_kept, g_t_keptUndos, g_t_isKept, g_t_lanes, g_t_sizes, g_t_items, g_t_moved])), (a_t_tape, .inl (cy 0, 60, .inl t_tape)), (a_t_read, .inl (cy 0, 18, .inl w5))] H → va_D A [(a_t, .inr (9, [g_t_now, .ref a_t_tape, .int t_typed, .int w15, .int w16, g_t_readLaw, .ref a_t_read, g_t_undone, g_t_undos, g_t_aside, g_t_coat, g_t_bestCoats, g_t_bestStand, g_t_bestPaint, g_t_kept, g_t_keptUndos, g_t_isKept, g_t_lanes, g_t_sizes, g_t_items, g_t_moved])), (a_t_tape, .inl (cy 0, 60, .inl t_tape)), (a_t_read, .inl (cy 0, 18, .inl w5))] → va_S A s.heap H locs → lv_has ls 7 [(2, .int x1), (1, .int x2), (0, .ref a_t)] → k60 w15 w16 = some out → W p l e (rmG 2 50) s m [.ref a_t].toArray below meth c H locs 0 0 QQ (F0 m 43 ls []) := by
              intro w15 w16 H locs ls hP hD hS hl h
              rw [hk60] at h
              refine lv_aload_n hx hb dX9_menRead_43 rfl (lv_at hl 2 rfl) ?_
              refine va_get (D := D) (ci := 9) (v := .int w16) (C := RX9) (T := TX9) (N := 21) hx hb hg inG_X9 hown hK hP 0 rfl rfl 4 (by decide) (hg _ q_949) (fun _ h9 => h9) rfl dX9_menRead_44 ?_
              obtain ⟨k57, hk57, h⟩ := jn_e h
              have J57 : ∀ (w17 : Int32) (x18 : Int32) (H : Heap) (locs : List Loc) (ls : Array Slot), va_P D vwCl [(a_t, .inr (9, [g_t_now, .ref a_t_tape, .int t_typed, .int w17, .int w16, g_t_readLaw, .ref a_t_read, g_t_undone, g_t_undos, g_t_aside, g_t_coat, g_t_bestCoats, g_t_bestStand, g_t_bestPaint, g_t_kept, g_t_keptUndos, g_t_isKept, g_t_lanes, g_t_sizes, g_t_items, g_t_moved])), (a_t_tape, .inl (cy 0, 60, .inl t_tape)), (a_t_read, .inl (cy 0, 18, .inl w5))] H → va_D A [(a_t, .inr (9, [g_t_now, .ref a_t_tape, .int t_typed, .int w17, .int w16, g_t_readLaw, .ref a_t_read, g_t_undone, g_t_undos, g_t_aside, g_t_coat, g_t_bestCoats, g_t_bestStand, g_t_bestPaint, g_t_kept, g_t_keptUndos, g_t_isKept, g_t_lanes, g_t_sizes, g_t_items, g_t_moved])), (a_t_tape, .inl (cy 0, 60, .inl t_tape)), (a_t_read, .inl (cy 0, 18, .inl w5))] → va_S A s.heap H locs → lv_has ls 7 [(2, .int x1), (1, .int x2), (0, .ref a_t)] → k57 w17 x18 = some out → W p l e (rmG 2 50) s m [.ref a_t].toArray below meth c H locs 0 0 QQ (F0 m 58 ls [.int x18]) := by
                intro w17 x18 H locs ls hP hD hS hl h
                rw [hk57] at h
                refine lv_istore_n (lv' := [(3, .int x18), (2, .int x1), (1, .int x2), (0, .ref a_t)]) hx hb dX9_menRead_58 rfl hl (by decide) rfl (fun ls hl => ?_)
                refine lv_iload_n hx hb dX9_menRead_59 rfl (lv_at hl 0 rfl) ?_
                refine lv_bipush (v := 112) hx hb dX9_menRead_60 kB_112 ?_
                obtain ⟨k51, hk51, h⟩ := jn_e h
                have J51 : ∀ (x19 : Int32) (H : Heap) (locs : List Loc) (ls : Array Slot), va_P D vwCl [(a_t, .inr (9, [g_t_now, .ref a_t_tape, .int t_typed, .int w17, .int w16, g_t_readLaw, .ref a_t_read, g_t_undone, g_t_undos, g_t_aside, g_t_coat, g_t_bestCoats, g_t_bestStand, g_t_bestPaint, g_t_kept, g_t_keptUndos, g_t_isKept, g_t_lanes, g_t_sizes, g_t_items, g_t_moved])), (a_t_tape, .inl (cy 0, 60, .inl t_tape)), (a_t_read, .inl (cy 0, 18, .inl w5))] H → va_D A [(a_t, .inr (9, [g_t_now, .ref a_t_tape, .int t_typed, .int w17, .int w16, g_t_readLaw, .ref a_t_read, g_t_undone, g_t_undos, g_t_aside, g_t_coat, g_t_bestCoats, g_t_bestStand, g_t_bestPaint, g_t_kept, g_t_keptUndos, g_t_isKept, g_t_lanes, g_t_sizes, g_t_items, g_t_moved])), (a_t_tape, .inl (cy 0, 60, .inl t_tape)), (a_t_read, .inl (cy 0, 18, .inl w5))] → va_S A s.heap H locs → lv_has ls 7 [(2, .int x1), (1, .int x2), (0, .ref a_t)] → k51 x19 = some out → W p l e (rmG 2 50) s m [.ref a_t].toArray below meth c H locs 0 0 QQ (F0 m 110 ls [.int x19]) := by
                  intro x19 H locs ls hP hD hS hl h
                  rw [hk51] at h
                  refine lv_istore (lv' := [(4, .int x19), (2, .int x1), (1, .int x2), (0, .ref a_t)]) hx hb dX9_menRead_110 hl (by decide) rfl (fun ls hl => ?_)
                  refine lv_aload_n hx hb dX9_menRead_112 rfl (lv_at hl 3 rfl) ?_
                  refine lv_iload hx hb dX9_menRead_113 (lv_at hl 0 rfl) ?_
                  obtain ⟨k49, hk49, h⟩ := jn_e h
                  have J49 : ∀ (x20 : Int32) (H : Heap) (locs : List Loc) (ls : Array Slot), va_P D vwCl [(a_t, .inr (9, [g_t_now, .ref a_t_tape, .int t_typed, .int w17, .int w16, g_t_readLaw, .ref a_t_read, g_t_undone, g_t_undos, g_t_aside, g_t_coat, g_t_bestCoats, g_t_bestStand, g_t_bestPaint, g_t_kept, g_t_keptUndos, g_t_isKept, g_t_lanes, g_t_sizes, g_t_items, g_t_moved])), (a_t_tape, .inl (cy 0, 60, .inl t_tape)), (a_t_read, .inl (cy 0, 18, .inl w5))] H → va_D A [(a_t, .inr (9, [g_t_now, .ref a_t_tape, .int t_typed, .int w17, .int w16, g_t_readLaw, .ref a_t_read, g_t_undone, g_t_undos, g_t_aside, g_t_coat, g_t_bestCoats, g_t_bestStand, g_t_bestPaint, g_t_kept, g_t_keptUndos, g_t_isKept, g_t_lanes, g_t_sizes, g_t_items, g_t_moved])), (a_t_tape, .inl (cy 0, 60, .inl t_tape)), (a_t_read, .inl (cy 0, 18, .inl w5))] → va_S A s.heap H locs → lv_has ls 7 [(4, .int x19), (2, .int x1), (1, .int x2), (0, .ref a_t)] → k49 x20 = some out → W p l e (rmG 2 50) s m [.ref a_t].toArray below meth c H locs 0 0 QQ (F0 m 123 ls [.int x20, .ref a_t]) := by
                    intro x20 H locs ls hP hD hS hl h
                    rw [hk49] at h
                    obtain ⟨v21, hv21, h⟩ := bind_e h
                    refine callMV (As := [.int x20]) (rest := []) (wr := [(a_t_tape, .inl (cy 0, 60, .inl t_tape)), (a_t_read, .inl (cy 0, 18, .inl w5))]) (w2 := [(a_t, .inr (9, [g_t_now, .ref a_t_tape, .int t_typed, .int v21.1, .int v21.2, g_t_readLaw, .ref a_t_read, g_t_undone, g_t_undos, g_t_aside, g_t_coat, g_t_bestCoats, g_t_bestStand, g_t_bestPaint, g_t_kept, g_t_keptUndos, g_t_isKept, g_t_lanes, g_t_sizes, g_t_items, g_t_moved])), (a_t_tape, .inl (cy 0, 60, .inl t_tape)), (a_t_read, .inl (cy 0, 18, .inl w5))]) hx hb hml hown hg (c_X9_must l D cy a_t _ (g_t_now) (.ref a_t_tape) (.int t_typed) (g_t_readLaw) (.ref a_t_read) (g_t_undone) (g_t_undos) (g_t_aside) (g_t_coat) (g_t_bestCoats) (g_t_bestStand) (g_t_bestPaint) (g_t_kept) (g_t_keptUndos) (g_t_isKept) (g_t_lanes) (g_t_sizes) (g_t_items) (g_t_moved) w17 w16 x20 v21 hv21) q_1131 q_1128 q_63 q_1130 q_39 hd_X9_must ⟨(Nat.le_of_ble_eq_true rfl), (Nat.le_of_ble_eq_true rfl)⟩ hK hP hD hS hA [0] [1, 2] rfl rfl rfl rfl (by decide) [2, 0, 1] rfl rfl 0 9 rfl rfl rfl rfl rfl rfl hl.1 rfl rfl (Nat.le_of_ble_eq_true rfl) dX9_menRead_123 (fun H locs hP hD hS => ?_)
                    refine lv_aload_n hx hb dX9_menRead_126 rfl (lv_at hl 3 rfl) ?_
                    refine va_get (D := D) (ci := 9) (v := .int v21.2) (C := RX9) (T := TX9) (N := 21) hx hb hg inG_X9 hown hK hP 0 rfl rfl 4 (by decide) (hg _ q_949) (fun _ h9 => h9) rfl dX9_menRead_127 ?_
                    obtain ⟨k46, hk46, h⟩ := jn_e h
                    have J46 : ∀ (w22 : Int32) (x23 : Int32) (H : Heap) (locs : List Loc) (ls : Array Slot), va_P D vwCl [(a_t, .inr (9, [g_t_now, .ref a_t_tape, .int t_typed, .int w22, .int v21.2, g_t_readLaw, .ref a_t_read, g_t_undone, g_t_undos, g_t_aside, g_t_coat, g_t_bestCoats, g_t_bestStand, g_t_bestPaint, g_t_kept, g_t_keptUndos, g_t_isKept, g_t_lanes, g_t_sizes, g_t_items, g_t_moved])), (a_t_tape, .inl (cy 0, 60, .inl t_tape)), (a_t_read, .inl (cy 0, 18, .inl w5))] H → va_D A [(a_t, .inr (9, [g_t_now, .ref a_t_tape, .int t_typed, .int w22, .int v21.2, g_t_readLaw, .ref a_t_read, g_t_undone, g_t_undos, g_t_aside, g_t_coat, g_t_bestCoats, g_t_bestStand, g_t_bestPaint, g_t_kept, g_t_keptUndos, g_t_isKept, g_t_lanes, g_t_sizes, g_t_items, g_t_moved])), (a_t_tape, .inl (cy 0, 60, .inl t_tape)), (a_t_read, .inl (cy 0, 18, .inl w5))] → va_S A s.heap H locs → lv_has ls 7 [(4, .int x19), (2, .int x1), (1, .int x2), (0, .ref a_t)] → k46 w22 x23 = some out → W p l e (rmG 2 50) s m [.ref a_t].toArray below meth c H locs 0 0 QQ (F0 m 144 ls [.int x23]) := by
                      intro w22 x23 H locs ls hP hD hS hl h
                      rw [hk46] at h
                      refine lv_istore (lv' := [(5, .int x23), (4, .int x19), (2, .int x1), (1, .int x2), (0, .ref a_t)]) hx hb dX9_menRead_144 hl (by decide) rfl (fun ls hl => ?_)
                      refine lv_aload_n hx hb dX9_menRead_146 rfl (lv_at hl 4 rfl) ?_
                      refine lv_iload hx hb dX9_menRead_147 (lv_at hl 0 rfl) ?_
                      refine lv_i2l (v := x23.toInt64) hx hb dX9_menRead_149 rfl ?_
                      refine lv_lconst (v := 0) hx hb dX9_menRead_150 kL_0 ?_
                      refine lv_ldc2 (v := 9) hx hb hown (hg _ q_1017) dX9_menRead_151 ?_
                      obtain ⟨v24, hv24, h⟩ := bind_e h
                      refine callRS (As := [.long (x23.toInt64), .long 0, .long 9]) (rest := [.ref a_t]) (v0 := .int v24) hx hb hml hown hg (c_X9_in l D cy (x23.toInt64) (0 : Int64) (9 : Int64) v24 hv24) q_1016 q_1014 q_63 q_1015 hd_X9_in ⟨(Nat.le_of_ble_eq_true rfl), (Nat.le_of_ble_eq_true rfl)⟩ hK hP [] rfl rfl rfl rfl hl.1 rfl (Nat.le_of_ble_eq_true rfl) dX9_menRead_154 ?_
                      obtain ⟨v25, hv25, h⟩ := bind_e h
                      refine callMV (As := [.int v24]) (rest := []) (wr := [(a_t_tape, .inl (cy 0, 60, .inl t_tape)), (a_t_read, .inl (cy 0, 18, .inl w5))]) (w2 := [(a_t, .inr (9, [g_t_now, .ref a_t_tape, .int t_typed, .int v25.1, .int v25.2, g_t_readLaw, .ref a_t_read, g_t_undone, g_t_undos, g_t_aside, g_t_coat, g_t_bestCoats, g_t_bestStand, g_t_bestPaint, g_t_kept, g_t_keptUndos, g_t_isKept, g_t_lanes, g_t_sizes, g_t_items, g_t_moved])), (a_t_tape, .inl (cy 0, 60, .inl t_tape)), (a_t_read, .inl (cy 0, 18, .inl w5))]) hx hb hml hown hg (c_X9_must l D cy a_t _ (g_t_now) (.ref a_t_tape) (.int t_typed) (g_t_readLaw) (.ref a_t_read) (g_t_undone) (g_t_undos) (g_t_aside) (g_t_coat) (g_t_bestCoats) (g_t_bestStand) (g_t_bestPaint) (g_t_kept) (g_t_keptUndos) (g_t_isKept) (g_t_lanes) (g_t_sizes) (g_t_items) (g_t_moved) w22 v21.2 v24 v25 hv25) q_1131 q_1128 q_63 q_1130 q_39 hd_X9_must ⟨(Nat.le_of_ble_eq_true rfl), (Nat.le_of_ble_eq_true rfl)⟩ hK hP hD hS hA [0] [1, 2] rfl rfl rfl rfl (by decide) [2, 0, 1] rfl rfl 0 9 rfl rfl rfl rfl rfl rfl hl.1 rfl rfl (Nat.le_of_ble_eq_true rfl) dX9_menRead_157 (fun H locs hP hD hS => ?_)
                      refine lv_bipush (v := (-4)) hx hb dX9_menRead_160 kB_m4 ?_
                      refine lv_istore (lv' := [(6, .int (-4)), (5, .int x23), (4, .int x19), (2, .int x1), (1, .int x2), (0, .ref a_t)]) hx hb dX9_menRead_162 hl (by decide) rfl (fun ls hl => ?_)
                      refine lv_aload_n hx hb dX9_menRead_164 rfl (lv_at hl 5 rfl) ?_
                      refine va_get (D := D) (ci := 9) (v := .int v25.2) (C := RX9) (T := TX9) (N := 21) hx hb hg inG_X9 hown hK hP 0 rfl rfl 4 (by decide) (hg _ q_949) (fun _ h9 => h9) rfl dX9_menRead_165 ?_
                      obtain ⟨k36, hk36, h⟩ := jn_e h
                      have J36 : ∀ (x26 : Int32) (x27 : Int32) (w28 : Int32) (w29 : Int32) (H : Heap) (locs : List Loc) (ls : Array Slot), va_P D vwCl [(a_t, .inr (9, [g_t_now, .ref a_t_tape, .int t_typed, .int w28, .int w29, g_t_readLaw, .ref a_t_read, g_t_undone, g_t_undos, g_t_aside, g_t_coat, g_t_bestCoats, g_t_bestStand, g_t_bestPaint, g_t_kept, g_t_keptUndos, g_t_isKept, g_t_lanes, g_t_sizes, g_t_items, g_t_moved])), (a_t_tape, .inl (cy 0, 60, .inl t_tape)), (a_t_read, .inl (cy 0, 18, .inl w5))] H → va_D A [(a_t, .inr (9, [g_t_now, .ref a_t_tape, .int t_typed, .int w28, .int w29, g_t_readLaw, .ref a_t_read, g_t_undone, g_t_undos, g_t_aside, g_t_coat, g_t_bestCoats, g_t_bestStand, g_t_bestPaint, g_t_kept, g_t_keptUndos, g_t_isKept, g_t_lanes, g_t_sizes, g_t_items, g_t_moved])), (a_t_tape, .inl (cy 0, 60, .inl t_tape)), (a_t_read, .inl (cy 0, 18, .inl w5))] → va_S A s.heap H locs → lv_has ls 7 [(6, .int x26), (5, .int x23), (4, .int x19), (2, .int x27), (1, .int x2), (0, .ref a_t)] → k36 x26 x27 w28 w29 = some out → W p l e (rmG 2 50) s m [.ref a_t].toArray below meth c H locs 0 0 QQ (F0 m 217 ls []) := by
                        intro x26 x27 w28 w29 H locs ls hP hD hS hl h
                        rw [hk36] at h
                        refine lv_aload_n hx hb dX9_menRead_217 rfl (lv_at hl 5 rfl) ?_
                        refine va_get (D := D) (ci := 9) (v := .int w29) (C := RX9) (T := TX9) (N := 21) hx hb hg inG_X9 hown hK hP 0 rfl rfl 4 (by decide) (hg _ q_949) (fun _ h9 => h9) rfl dX9_menRead_218 ?_
                        refine lv_if_ne (tgt := 258) hx hb dX9_menRead_221 (by decide) (fun c30 => ?_) (fun c30 => ?_)
                        · have h := it_f c30 h
                          obtain ⟨x31, ex31⟩ : ∃ y : Int32, y = x2 + 1 := ⟨_, rfl⟩
                          have h := bnd_e ex31 h
                          refine lv_iinc (v := x31) (lv' := [(1, .int x31), (6, .int x26), (5, .int x23), (4, .int x19), (2, .int x27), (0, .ref a_t)]) hx hb dX9_menRead_258 hl (k := 4) rfl (inc_e kI_1 ex31) (by decide) rfl (fun ls hl => ?_)
                          refine lv_goto (tgt := 4) hx hb dX9_menRead_261 (by decide) ?_
                          exact ih x27 x31 w28 w29 w5 _ _ _ hP hD hS (lv_sub hl [4, 0, 5] rfl) h
                        · have h := it_t c30 h
                          refine lv_aload_n hx hb dX9_menRead_224 rfl (lv_at hl 5 rfl) ?_
                          refine va_get (D := D) (ci := 9) (v := .ref a_t_read) (C := RX9) (T := TX9) (N := 21) hx hb hg inG_X9 hown hK hP 0 rfl rfl 6 (by decide) (hg _ q_951) (fun _ h9 => h9) rfl dX9_menRead_225 ?_
                          refine lv_iconst (v := 3) hx hb dX9_menRead_228 kI_3 ?_
                          refine lv_iload_n hx hb dX9_menRead_229 rfl (lv_at hl 4 rfl) ?_
                          refine lv_imul hx hb dX9_menRead_230 ?_
                          refine lv_iload hx hb dX9_menRead_231 (lv_at hl 2 rfl) ?_
                          obtain ⟨hi32, h⟩ := chk_e h
                          refine va_iast hx hb hK hP hD hS 2 0 rfl rfl hi32 dX9_menRead_233 (fun H locs hP hD hS => ?_)
                          have hP : va_P D vwCl [(a_t, .inr (9, [g_t_now, .ref a_t_tape, .int t_typed, .int w28, .int w29, g_t_readLaw, .ref a_t_read, g_t_undone, g_t_undos, g_t_aside, g_t_coat, g_t_bestCoats, g_t_bestStand, g_t_bestPaint, g_t_kept, g_t_keptUndos, g_t_isKept, g_t_lanes, g_t_sizes, g_t_items, g_t_moved])), (a_t_tape, .inl (cy 0, 60, .inl t_tape)), (a_t_read, .inl (cy 0, 18, .inl (upd w5 (3 * x2).toNatClampNeg x19)))] H := hP
                          have hD : va_D A [(a_t, .inr (9, [g_t_now, .ref a_t_tape, .int t_typed, .int w28, .int w29, g_t_readLaw, .ref a_t_read, g_t_undone, g_t_undos, g_t_aside, g_t_coat, g_t_bestCoats, g_t_bestStand, g_t_bestPaint, g_t_kept, g_t_keptUndos, g_t_isKept, g_t_lanes, g_t_sizes, g_t_items, g_t_moved])), (a_t_tape, .inl (cy 0, 60, .inl t_tape)), (a_t_read, .inl (cy 0, 18, .inl (upd w5 (3 * x2).toNatClampNeg x19)))] := hD
                          refine lv_aload_n hx hb dX9_menRead_234 rfl (lv_at hl 5 rfl) ?_
                          refine va_get (D := D) (ci := 9) (v := .ref a_t_read) (C := RX9) (T := TX9) (N := 21) hx hb hg inG_X9 hown hK hP 0 rfl rfl 6 (by decide) (hg _ q_951) (fun _ h9 => h9) rfl dX9_menRead_235 ?_
                          refine lv_iconst (v := 3) hx hb dX9_menRead_238 kI_3 ?_
                          refine lv_iload_n hx hb dX9_menRead_239 rfl (lv_at hl 4 rfl) ?_
                          refine lv_imul hx hb dX9_menRead_240 ?_
                          refine lv_iconst (v := 1) hx hb dX9_menRead_241 kI_1 ?_
                          refine lv_iadd hx hb dX9_menRead_242 ?_
                          refine lv_iload hx hb dX9_menRead_243 (lv_at hl 1 rfl) ?_
                          obtain ⟨hi33, h⟩ := chk_e h
                          refine va_iast hx hb hK hP hD hS 2 0 rfl rfl hi33 dX9_menRead_245 (fun H locs hP hD hS => ?_)
                          have hP : va_P D vwCl [(a_t, .inr (9, [g_t_now, .ref a_t_tape, .int t_typed, .int w28, .int w29, g_t_readLaw, .ref a_t_read, g_t_undone, g_t_undos, g_t_aside, g_t_coat, g_t_bestCoats, g_t_bestStand, g_t_bestPaint, g_t_kept, g_t_keptUndos, g_t_isKept, g_t_lanes, g_t_sizes, g_t_items, g_t_moved])), (a_t_tape, .inl (cy 0, 60, .inl t_tape)), (a_t_read, .inl (cy 0, 18, .inl (upd (upd w5 (3 * x2).toNatClampNeg x19) ((3 * x2) + 1).toNatClampNeg x23)))] H := hP
                          have hD : va_D A [(a_t, .inr (9, [g_t_now, .ref a_t_tape, .int t_typed, .int w28, .int w29, g_t_readLaw, .ref a_t_read, g_t_undone, g_t_undos, g_t_aside, g_t_coat, g_t_bestCoats, g_t_bestStand, g_t_bestPaint, g_t_kept, g_t_keptUndos, g_t_isKept, g_t_lanes, g_t_sizes, g_t_items, g_t_moved])), (a_t_tape, .inl (cy 0, 60, .inl t_tape)), (a_t_read, .inl (cy 0, 18, .inl (upd (upd w5 (3 * x2).toNatClampNeg x19) ((3 * x2) + 1).toNatClampNeg x23)))] := hD
                          refine lv_aload_n hx hb dX9_menRead_246 rfl (lv_at hl 5 rfl) ?_
                          refine va_get (D := D) (ci := 9) (v := .ref a_t_read) (C := RX9) (T := TX9) (N := 21) hx hb hg inG_X9 hown hK hP 0 rfl rfl 6 (by decide) (hg _ q_951) (fun _ h9 => h9) rfl dX9_menRead_247 ?_
                          refine lv_iconst (v := 3) hx hb dX9_menRead_250 kI_3 ?_
                          refine lv_iload_n hx hb dX9_menRead_251 rfl (lv_at hl 4 rfl) ?_
                          refine lv_imul hx hb dX9_menRead_252 ?_
                          refine lv_iconst (v := 2) hx hb dX9_menRead_253 kI_2 ?_
                          refine lv_iadd hx hb dX9_menRead_254 ?_
                          refine lv_iload hx hb dX9_menRead_255 (lv_at hl 0 rfl) ?_
                          obtain ⟨hi34, h⟩ := chk_e h
                          refine va_iast hx hb hK hP hD hS 2 0 rfl rfl hi34 dX9_menRead_257 (fun H locs hP hD hS => ?_)
                          have hP : va_P D vwCl [(a_t, .inr (9, [g_t_now, .ref a_t_tape, .int t_typed, .int w28, .int w29, g_t_readLaw, .ref a_t_read, g_t_undone, g_t_undos, g_t_aside, g_t_coat, g_t_bestCoats, g_t_bestStand, g_t_bestPaint, g_t_kept, g_t_keptUndos, g_t_isKept, g_t_lanes, g_t_sizes, g_t_items, g_t_moved])), (a_t_tape, .inl (cy 0, 60, .inl t_tape)), (a_t_read, .inl (cy 0, 18, .inl (upd (upd (upd w5 (3 * x2).toNatClampNeg x19) ((3 * x2) + 1).toNatClampNeg x23) ((3 * x2) + 2).toNatClampNeg x26)))] H := hP
                          have hD : va_D A [(a_t, .inr (9, [g_t_now, .ref a_t_tape, .int t_typed, .int w28, .int w29, g_t_readLaw, .ref a_t_read, g_t_undone, g_t_undos, g_t_aside, g_t_coat, g_t_bestCoats, g_t_bestStand, g_t_bestPaint, g_t_kept, g_t_keptUndos, g_t_isKept, g_t_lanes, g_t_sizes, g_t_items, g_t_moved])), (a_t_tape, .inl (cy 0, 60, .inl t_tape)), (a_t_read, .inl (cy 0, 18, .inl (upd (upd (upd w5 (3 * x2).toNatClampNeg x19) ((3 * x2) + 1).toNatClampNeg x23) ((3 * x2) + 2).toNatClampNeg x26)))] := hD
                          obtain ⟨x35, ex35⟩ : ∃ y : Int32, y = x2 + 1 := ⟨_, rfl⟩
                          have h := bnd_e ex35 h
                          refine lv_iinc (v := x35) (lv' := [(1, .int x35), (6, .int x26), (5, .int x23), (4, .int x19), (2, .int x27), (0, .ref a_t)]) hx hb dX9_menRead_258 hl (k := 4) rfl (inc_e kI_1 ex35) (by decide) rfl (fun ls hl => ?_)
                          refine lv_goto (tgt := 4) hx hb dX9_menRead_261 (by decide) ?_
                          exact ih x27 x35 w28 w29 (upd (upd (upd w5 (3 * x2).toNatClampNeg x19) ((3 * x2) + 1).toNatClampNeg x23) ((3 * x2) + 2).toNatClampNeg x26) _ _ _ hP hD hS (lv_sub hl [4, 0, 5] rfl) h
                      refine lv_if_ne (tgt := 217) hx hb dX9_menRead_168 (by decide) (fun c37 => ?_) (fun c37 => ?_)
                      · have h := it_f c37 h
                        exact J36 (-4) x1 v25.1 v25.2 _ _ _ hP hD hS (lv_sub hl [0, 1, 2, 3, 4, 5] rfl) h
                      · have h := it_t c37 h
                        refine lv_aload_n hx hb dX9_menRead_171 rfl (lv_at hl 5 rfl) ?_
                        obtain ⟨v38, hv38, h⟩ := bind_e h
                        refine callMV (As := []) (rest := []) (wr := [(a_t_read, .inl (cy 0, 18, .inl w5))]) (w2 := [(a_t, .inr (9, [g_t_now, .ref a_t_tape, .int t_typed, .int v38.2, .int v25.2, g_t_readLaw, .ref a_t_read, g_t_undone, g_t_undos, g_t_aside, g_t_coat, g_t_bestCoats, g_t_bestStand, g_t_bestPaint, g_t_kept, g_t_keptUndos, g_t_isKept, g_t_lanes, g_t_sizes, g_t_items, g_t_moved])), (a_t_tape, .inl (cy 0, 60, .inl t_tape)), (a_t_read, .inl (cy 0, 18, .inl w5))]) hx hb hml hown hg (c_X9_here l D cy a_t a_t_tape _ (g_t_now) (.int v25.2) (g_t_readLaw) (.ref a_t_read) (g_t_undone) (g_t_undos) (g_t_aside) (g_t_coat) (g_t_bestCoats) (g_t_bestStand) (g_t_bestPaint) (g_t_kept) (g_t_keptUndos) (g_t_isKept) (g_t_lanes) (g_t_sizes) (g_t_items) (g_t_moved) t_tape t_typed v25.1 F v38 hv38) q_1125 q_1122 q_63 q_1124 q_38 hd_X9_here ⟨(Nat.le_of_ble_eq_true rfl), (Nat.le_of_ble_eq_true rfl)⟩ hK hP hD hS hA [0, 1] [2] rfl rfl rfl rfl (by decide) [1, 2, 0] rfl rfl 0 9 rfl rfl rfl rfl rfl rfl hl.1 rfl rfl (Nat.le_of_ble_eq_true rfl) dX9_menRead_172 (fun H locs hP hD hS => ?_)
                        refine lv_bipush (v := 64) hx hb dX9_menRead_175 kB_64 ?_
                        refine lv_icmp_ne (tgt := 217) hx hb dX9_menRead_177 (by decide) (fun c39 => ?_) (fun c39 => ?_)
                        · have h := it_f c39 h
                          exact J36 (-4) x1 v38.2 v25.2 _ _ _ hP hD hS (lv_sub hl [0, 1, 2, 3, 4, 5] rfl) h
                        · have h := it_t c39 h
                          refine lv_aload_n hx hb dX9_menRead_180 rfl (lv_at hl 5 rfl) ?_
                          refine lv_dup hx hb dX9_menRead_181 rfl ?_
                          refine va_get (D := D) (ci := 9) (v := .int v38.2) (C := RX9) (T := TX9) (N := 21) hx hb hg inG_X9 hown hK hP 0 rfl rfl 3 (by decide) (hg _ q_948) (fun _ h9 => h9) rfl dX9_menRead_182 ?_
                          refine lv_iconst (v := 1) hx hb dX9_menRead_185 kI_1 ?_
                          refine lv_iadd hx hb dX9_menRead_186 ?_
                          refine va_put (D := D) (ci := 9) (v := .int (v38.2 + 1)) (ty := .int) (C := RX9) (T := TX9) (N := 21) hx hb hg inG_X9 tyX9 tyX9_ok nmX9 hown hK hP hD hS 0 rfl rfl 3 (by decide) (hg _ q_948) (fun _ h9 => h9) rfl (tyX9_ok 3 (by decide)) rfl rfl (Nat.le_of_ble_eq_true rfl) dX9_menRead_187 (fun H locs hP hD hS => ?_)
                          have hP : va_P D vwCl [(a_t, .inr (9, [g_t_now, .ref a_t_tape, .int t_typed, .int (v38.2 + 1), .int v25.2, g_t_readLaw, .ref a_t_read, g_t_undone, g_t_undos, g_t_aside, g_t_coat, g_t_bestCoats, g_t_bestStand, g_t_bestPaint, g_t_kept, g_t_keptUndos, g_t_isKept, g_t_lanes, g_t_sizes, g_t_items, g_t_moved])), (a_t_tape, .inl (cy 0, 60, .inl t_tape)), (a_t_read, .inl (cy 0, 18, .inl w5))] H := hP
                          have hD : va_D A [(a_t, .inr (9, [g_t_now, .ref a_t_tape, .int t_typed, .int (v38.2 + 1), .int v25.2, g_t_readLaw, .ref a_t_read, g_t_undone, g_t_undos, g_t_aside, g_t_coat, g_t_bestCoats, g_t_bestStand, g_t_bestPaint, g_t_kept, g_t_keptUndos, g_t_isKept, g_t_lanes, g_t_sizes, g_t_items, g_t_moved])), (a_t_tape, .inl (cy 0, 60, .inl t_tape)), (a_t_read, .inl (cy 0, 18, .inl w5))] := hD
                          refine lv_aload_n hx hb dX9_menRead_190 rfl (lv_at hl 5 rfl) ?_
                          refine lv_bipush (v := 11) hx hb dX9_menRead_191 kB_11 ?_
                          refine lv_iload_n hx hb dX9_menRead_193 rfl (lv_at hl 3 rfl) ?_
                          obtain ⟨v40, hv40, h⟩ := bind_e h
                          refine callMV (As := [.int 11, .int x1]) (rest := []) (wr := [(a_t_read, .inl (cy 0, 18, .inl w5))]) (w2 := [(a_t, .inr (9, [g_t_now, .ref a_t_tape, .int t_typed, .int v40.2.1, .int v40.2.2, g_t_readLaw, .ref a_t_read, g_t_undone, g_t_undos, g_t_aside, g_t_coat, g_t_bestCoats, g_t_bestStand, g_t_bestPaint, g_t_kept, g_t_keptUndos, g_t_isKept, g_t_lanes, g_t_sizes, g_t_items, g_t_moved])), (a_t_tape, .inl (cy 0, 60, .inl t_tape)), (a_t_read, .inl (cy 0, 18, .inl w5))]) hx hb hml hown hg (c_X9_number l D cy a_t a_t_tape _ (g_t_now) (g_t_readLaw) (.ref a_t_read) (g_t_undone) (g_t_undos) (g_t_aside) (g_t_coat) (g_t_bestCoats) (g_t_bestStand) (g_t_bestPaint) (g_t_kept) (g_t_keptUndos) (g_t_isKept) (g_t_lanes) (g_t_sizes) (g_t_items) (g_t_moved) t_tape t_typed (v38.2 + 1) v25.2 11 x1 F v40 hv40) q_1121 q_1118 q_63 q_1120 q_37 hd_X9_number ⟨(Nat.le_of_ble_eq_true rfl), (Nat.le_of_ble_eq_true rfl)⟩ hK hP hD hS hA [0, 1] [2] rfl rfl rfl rfl (by decide) [1, 2, 0] rfl rfl 0 9 rfl rfl rfl rfl rfl rfl hl.1 rfl rfl (Nat.le_of_ble_eq_true rfl) dX9_menRead_194 (fun H locs hP hD hS => ?_)
                          refine lv_istore (lv' := [(6, .int v40.1), (5, .int x23), (4, .int x19), (2, .int x1), (1, .int x2), (0, .ref a_t)]) hx hb dX9_menRead_197 hl (by decide) rfl (fun ls hl => ?_)
                          refine lv_iload_n hx hb dX9_menRead_199 rfl (lv_at hl 3 rfl) ?_
                          refine lv_aload_n hx hb dX9_menRead_200 rfl (lv_at hl 5 rfl) ?_
                          refine va_get (D := D) (ci := 9) (v := .int v40.2.2) (C := RX9) (T := TX9) (N := 21) hx hb hg inG_X9 hown hK hP 0 rfl rfl 4 (by decide) (hg _ q_949) (fun _ h9 => h9) rfl dX9_menRead_201 ?_
                          obtain ⟨k44, hk44, h⟩ := jn_e h
                          have J44 : ∀ (x41 : Int32) (x42 : Int32) (H : Heap) (locs : List Loc) (ls : Array Slot), va_P D vwCl [(a_t, .inr (9, [g_t_now, .ref a_t_tape, .int t_typed, .int v40.2.1, .int v40.2.2, g_t_readLaw, .ref a_t_read, g_t_undone, g_t_undos, g_t_aside, g_t_coat, g_t_bestCoats, g_t_bestStand, g_t_bestPaint, g_t_kept, g_t_keptUndos, g_t_isKept, g_t_lanes, g_t_sizes, g_t_items, g_t_moved])), (a_t_tape, .inl (cy 0, 60, .inl t_tape)), (a_t_read, .inl (cy 0, 18, .inl w5))] H → va_D A [(a_t, .inr (9, [g_t_now, .ref a_t_tape, .int t_typed, .int v40.2.1, .int v40.2.2, g_t_readLaw, .ref a_t_read, g_t_undone, g_t_undos, g_t_aside, g_t_coat, g_t_bestCoats, g_t_bestStand, g_t_bestPaint, g_t_kept, g_t_keptUndos, g_t_isKept, g_t_lanes, g_t_sizes, g_t_items, g_t_moved])), (a_t_tape, .inl (cy 0, 60, .inl t_tape)), (a_t_read, .inl (cy 0, 18, .inl w5))] → va_S A s.heap H locs → lv_has ls 7 [(6, .int v40.1), (5, .int x23), (4, .int x19), (1, .int x2), (0, .ref a_t)] → k44 x41 x42 = some out → W p l e (rmG 2 50) s m [.ref a_t].toArray below meth c H locs 0 0 QQ (F0 m 215 ls [.int x42, .int x41]) := by
                            intro x41 x42 H locs ls hP hD hS hl h
                            rw [hk44] at h
                            refine lv_ior hx hb dX9_menRead_215 ?_
                            refine lv_topi (fun x43 ex43 => ?_)
                            have h := bnd_e ex43 h
                            refine lv_istore_n (lv' := [(2, .int x43), (6, .int v40.1), (5, .int x23), (4, .int x19), (1, .int x2), (0, .ref a_t)]) hx hb dX9_menRead_216 rfl hl (by decide) rfl (fun ls hl => ?_)
                            exact J36 v40.1 x43 v40.2.1 v40.2.2 _ _ _ hP hD hS (lv_sub hl [1, 2, 3, 0, 4, 5] rfl) h
                          refine lv_if_eq (tgt := 211) hx hb dX9_menRead_204 (by decide) (fun c45 => ?_) (fun c45 => ?_)
                          · have h := it_t c45 h
                            refine lv_iconst (v := 1) hx hb dX9_menRead_211 kI_1 ?_
                            refine lv_iload hx hb dX9_menRead_212 (lv_at hl 0 rfl) ?_
                            refine lv_ishl hx hb dX9_menRead_214 ?_
                            exact J44 x1 (1 <<< (v40.1 &&& 31)) _ _ _ hP hD hS (lv_sub hl [0, 1, 2, 4, 5] rfl) h
                          · have h := it_f c45 h
                            refine lv_iconst (v := 0) hx hb dX9_menRead_207 kI_0 ?_
                            refine lv_goto (tgt := 215) hx hb dX9_menRead_208 (by decide) ?_
                            exact J44 x1 0 _ _ _ hP hD hS (lv_sub hl [0, 1, 2, 4, 5] rfl) h
                    refine lv_if_eq (tgt := 137) hx hb dX9_menRead_130 (by decide) (fun c47 => ?_) (fun c47 => ?_)
                    · have h := it_t c47 h
                      refine lv_aload_n hx hb dX9_menRead_137 rfl (lv_at hl 3 rfl) ?_
                      obtain ⟨v48, hv48, h⟩ := bind_e h
                      refine callMV (As := []) (rest := []) (wr := [(a_t_read, .inl (cy 0, 18, .inl w5))]) (w2 := [(a_t, .inr (9, [g_t_now, .ref a_t_tape, .int t_typed, .int v48.2, .int v21.2, g_t_readLaw, .ref a_t_read, g_t_undone, g_t_undos, g_t_aside, g_t_coat, g_t_bestCoats, g_t_bestStand, g_t_bestPaint, g_t_kept, g_t_keptUndos, g_t_isKept, g_t_lanes, g_t_sizes, g_t_items, g_t_moved])), (a_t_tape, .inl (cy 0, 60, .inl t_tape)), (a_t_read, .inl (cy 0, 18, .inl w5))]) hx hb hml hown hg (c_X9_here l D cy a_t a_t_tape _ (g_t_now) (.int v21.2) (g_t_readLaw) (.ref a_t_read) (g_t_undone) (g_t_undos) (g_t_aside) (g_t_coat) (g_t_bestCoats) (g_t_bestStand) (g_t_bestPaint) (g_t_kept) (g_t_keptUndos) (g_t_isKept) (g_t_lanes) (g_t_sizes) (g_t_items) (g_t_moved) t_tape t_typed v21.1 F v48 hv48) q_1125 q_1122 q_63 q_1124 q_38 hd_X9_here ⟨(Nat.le_of_ble_eq_true rfl), (Nat.le_of_ble_eq_true rfl)⟩ hK hP hD hS hA [0, 1] [2] rfl rfl rfl rfl (by decide) [1, 2, 0] rfl rfl 0 9 rfl rfl rfl rfl rfl rfl hl.1 rfl rfl (Nat.le_of_ble_eq_true rfl) dX9_menRead_138 (fun H locs hP hD hS => ?_)
                      refine lv_bipush (v := 48) hx hb dX9_menRead_141 kB_48 ?_
                      refine lv_isub hx hb dX9_menRead_143 ?_
                      exact J46 v48.2 (v48.1 - 48) _ _ _ hP hD hS (lv_sub hl [0, 1, 2, 3] rfl) h
                    · have h := it_f c47 h
                      refine lv_iconst (v := (-1)) hx hb dX9_menRead_133 kI_m1 ?_
                      refine lv_goto (tgt := 144) hx hb dX9_menRead_134 (by decide) ?_
                      exact J46 v21.1 (-1) _ _ _ hP hD hS (lv_sub hl [0, 1, 2, 3] rfl) h
                  refine lv_if_lt (tgt := 122) hx hb dX9_menRead_115 (by decide) (fun c50 => ?_) (fun c50 => ?_)
                  · have h := it_t c50 h
                    refine lv_iconst (v := 0) hx hb dX9_menRead_122 kI_0 ?_
                    exact J49 0 _ _ _ hP hD hS (lv_sub hl [0, 1, 2, 3] rfl) h
                  · have h := it_f c50 h
                    refine lv_iconst (v := 1) hx hb dX9_menRead_118 kI_1 ?_
                    refine lv_goto (tgt := 123) hx hb dX9_menRead_119 (by decide) ?_
                    exact J49 1 _ _ _ hP hD hS (lv_sub hl [0, 1, 2, 3] rfl) h
                refine lv_icmp_ne (tgt := 69) hx hb dX9_menRead_62 (by decide) (fun c52 => ?_) (fun c52 => ?_)
                · have h := it_f c52 h
                  refine lv_iload_n hx hb dX9_menRead_69 rfl (lv_at hl 0 rfl) ?_
                  refine lv_bipush (v := 108) hx hb dX9_menRead_70 kB_108 ?_
                  refine lv_icmp_ne (tgt := 79) hx hb dX9_menRead_72 (by decide) (fun c53 => ?_) (fun c53 => ?_)
                  · have h := it_f c53 h
                    refine lv_iload_n hx hb dX9_menRead_79 rfl (lv_at hl 0 rfl) ?_
                    refine lv_bipush (v := 103) hx hb dX9_menRead_80 kB_103 ?_
                    refine lv_icmp_ne (tgt := 89) hx hb dX9_menRead_82 (by decide) (fun c54 => ?_) (fun c54 => ?_)
                    · have h := it_f c54 h
                      refine lv_iload_n hx hb dX9_menRead_89 rfl (lv_at hl 0 rfl) ?_
                      refine lv_bipush (v := 100) hx hb dX9_menRead_90 kB_100 ?_
                      refine lv_icmp_ne (tgt := 99) hx hb dX9_menRead_92 (by decide) (fun c55 => ?_) (fun c55 => ?_)
                      · have h := it_f c55 h
                        refine lv_iload_n hx hb dX9_menRead_99 rfl (lv_at hl 0 rfl) ?_
                        refine lv_bipush (v := 118) hx hb dX9_menRead_100 kB_118 ?_
                        refine lv_icmp_ne (tgt := 109) hx hb dX9_menRead_102 (by decide) (fun c56 => ?_) (fun c56 => ?_)
                        · have h := it_f c56 h
                          refine lv_iconst (v := (-1)) hx hb dX9_menRead_109 kI_m1 ?_
                          exact J51 (-1) _ _ _ hP hD hS (lv_sub hl [1, 2, 3] rfl) h
                        · have h := it_t c56 h
                          refine lv_iconst (v := 4) hx hb dX9_menRead_105 kI_4 ?_
                          refine lv_goto (tgt := 110) hx hb dX9_menRead_106 (by decide) ?_
                          exact J51 4 _ _ _ hP hD hS (lv_sub hl [1, 2, 3] rfl) h
                      · have h := it_t c55 h
                        refine lv_iconst (v := 3) hx hb dX9_menRead_95 kI_3 ?_
                        refine lv_goto (tgt := 110) hx hb dX9_menRead_96 (by decide) ?_
                        exact J51 3 _ _ _ hP hD hS (lv_sub hl [1, 2, 3] rfl) h
                    · have h := it_t c54 h
                      refine lv_iconst (v := 2) hx hb dX9_menRead_85 kI_2 ?_
                      refine lv_goto (tgt := 110) hx hb dX9_menRead_86 (by decide) ?_
                      exact J51 2 _ _ _ hP hD hS (lv_sub hl [1, 2, 3] rfl) h
                  · have h := it_t c53 h
                    refine lv_iconst (v := 1) hx hb dX9_menRead_75 kI_1 ?_
                    refine lv_goto (tgt := 110) hx hb dX9_menRead_76 (by decide) ?_
                    exact J51 1 _ _ _ hP hD hS (lv_sub hl [1, 2, 3] rfl) h
                · have h := it_t c52 h
                  refine lv_iconst (v := 0) hx hb dX9_menRead_65 kI_0 ?_
                  refine lv_goto (tgt := 110) hx hb dX9_menRead_66 (by decide) ?_
                  exact J51 0 _ _ _ hP hD hS (lv_sub hl [1, 2, 3] rfl) h
              refine lv_if_eq (tgt := 54) hx hb dX9_menRead_47 (by decide) (fun c58 => ?_) (fun c58 => ?_)
              · have h := it_t c58 h
                refine lv_aload_n hx hb dX9_menRead_54 rfl (lv_at hl 2 rfl) ?_
                obtain ⟨v59, hv59, h⟩ := bind_e h
                refine callMV (As := []) (rest := []) (wr := [(a_t_read, .inl (cy 0, 18, .inl w5))]) (w2 := [(a_t, .inr (9, [g_t_now, .ref a_t_tape, .int t_typed, .int v59.2, .int w16, g_t_readLaw, .ref a_t_read, g_t_undone, g_t_undos, g_t_aside, g_t_coat, g_t_bestCoats, g_t_bestStand, g_t_bestPaint, g_t_kept, g_t_keptUndos, g_t_isKept, g_t_lanes, g_t_sizes, g_t_items, g_t_moved])), (a_t_tape, .inl (cy 0, 60, .inl t_tape)), (a_t_read, .inl (cy 0, 18, .inl w5))]) hx hb hml hown hg (c_X9_here l D cy a_t a_t_tape _ (g_t_now) (.int w16) (g_t_readLaw) (.ref a_t_read) (g_t_undone) (g_t_undos) (g_t_aside) (g_t_coat) (g_t_bestCoats) (g_t_bestStand) (g_t_bestPaint) (g_t_kept) (g_t_keptUndos) (g_t_isKept) (g_t_lanes) (g_t_sizes) (g_t_items) (g_t_moved) t_tape t_typed w15 F v59 hv59) q_1125 q_1122 q_63 q_1124 q_38 hd_X9_here ⟨(Nat.le_of_ble_eq_true rfl), (Nat.le_of_ble_eq_true rfl)⟩ hK hP hD hS hA [0, 1] [2] rfl rfl rfl rfl (by decide) [1, 2, 0] rfl rfl 0 9 rfl rfl rfl rfl rfl rfl hl.1 rfl rfl (Nat.le_of_ble_eq_true rfl) dX9_menRead_55 (fun H locs hP hD hS => ?_)
                exact J57 v59.2 v59.1 _ _ _ hP hD hS (lv_sub hl [0, 1, 2] rfl) h
              · have h := it_f c58 h
                refine lv_iconst (v := 0) hx hb dX9_menRead_50 kI_0 ?_
                refine lv_goto (tgt := 58) hx hb dX9_menRead_51 (by decide) ?_
                exact J57 w15 0 _ _ _ hP hD hS (lv_sub hl [0, 1, 2] rfl) h
            refine lv_if_le (tgt := 43) hx hb dX9_menRead_25 (by decide) (fun c61 => ?_) (fun c61 => ?_)
            · have h := it_t c61 h
              exact J60 w14 w4 _ _ _ hP hD hS (lv_sub hl [0, 1, 2] rfl) h
            · have h := it_f c61 h
              refine lv_aload_n hx hb dX9_menRead_28 rfl (lv_at hl 2 rfl) ?_
              refine lv_iload_n hx hb dX9_menRead_29 rfl (lv_at hl 1 rfl) ?_
              refine lv_bipush (v := 6) hx hb dX9_menRead_30 kB_6 ?_
              obtain ⟨k64, hk64, h⟩ := jn_e h
              have J64 : ∀ (x62 : Int32) (H : Heap) (locs : List Loc) (ls : Array Slot), va_P D vwCl [(a_t, .inr (9, [g_t_now, .ref a_t_tape, .int t_typed, .int w14, .int w4, g_t_readLaw, .ref a_t_read, g_t_undone, g_t_undos, g_t_aside, g_t_coat, g_t_bestCoats, g_t_bestStand, g_t_bestPaint, g_t_kept, g_t_keptUndos, g_t_isKept, g_t_lanes, g_t_sizes, g_t_items, g_t_moved])), (a_t_tape, .inl (cy 0, 60, .inl t_tape)), (a_t_read, .inl (cy 0, 18, .inl w5))] H → va_D A [(a_t, .inr (9, [g_t_now, .ref a_t_tape, .int t_typed, .int w14, .int w4, g_t_readLaw, .ref a_t_read, g_t_undone, g_t_undos, g_t_aside, g_t_coat, g_t_bestCoats, g_t_bestStand, g_t_bestPaint, g_t_kept, g_t_keptUndos, g_t_isKept, g_t_lanes, g_t_sizes, g_t_items, g_t_moved])), (a_t_tape, .inl (cy 0, 60, .inl t_tape)), (a_t_read, .inl (cy 0, 18, .inl w5))] → va_S A s.heap H locs → lv_has ls 7 [(2, .int x1), (1, .int x2), (0, .ref a_t)] → k64 x62 = some out → W p l e (rmG 2 50) s m [.ref a_t].toArray below meth c H locs 0 0 QQ (F0 m 40 ls [.int x62, .ref a_t]) := by
                intro x62 H locs ls hP hD hS hl h
                rw [hk64] at h
                obtain ⟨v63, hv63, h⟩ := bind_e h
                refine callMV (As := [.int x62]) (rest := []) (wr := [(a_t_tape, .inl (cy 0, 60, .inl t_tape)), (a_t_read, .inl (cy 0, 18, .inl w5))]) (w2 := [(a_t, .inr (9, [g_t_now, .ref a_t_tape, .int t_typed, .int v63.1, .int v63.2, g_t_readLaw, .ref a_t_read, g_t_undone, g_t_undos, g_t_aside, g_t_coat, g_t_bestCoats, g_t_bestStand, g_t_bestPaint, g_t_kept, g_t_keptUndos, g_t_isKept, g_t_lanes, g_t_sizes, g_t_items, g_t_moved])), (a_t_tape, .inl (cy 0, 60, .inl t_tape)), (a_t_read, .inl (cy 0, 18, .inl w5))]) hx hb hml hown hg (c_X9_must l D cy a_t _ (g_t_now) (.ref a_t_tape) (.int t_typed) (g_t_readLaw) (.ref a_t_read) (g_t_undone) (g_t_undos) (g_t_aside) (g_t_coat) (g_t_bestCoats) (g_t_bestStand) (g_t_bestPaint) (g_t_kept) (g_t_keptUndos) (g_t_isKept) (g_t_lanes) (g_t_sizes) (g_t_items) (g_t_moved) w14 w4 x62 v63 hv63) q_1131 q_1128 q_63 q_1130 q_39 hd_X9_must ⟨(Nat.le_of_ble_eq_true rfl), (Nat.le_of_ble_eq_true rfl)⟩ hK hP hD hS hA [0] [1, 2] rfl rfl rfl rfl (by decide) [2, 0, 1] rfl rfl 0 9 rfl rfl rfl rfl rfl rfl hl.1 rfl rfl (Nat.le_of_ble_eq_true rfl) dX9_menRead_40 (fun H locs hP hD hS => ?_)
                exact J60 v63.1 v63.2 _ _ _ hP hD hS (lv_sub hl [0, 1, 2] rfl) h
              refine lv_icmp_ge (tgt := 39) hx hb dX9_menRead_32 (by decide) (fun c65 => ?_) (fun c65 => ?_)
              · have h := it_t c65 h
                refine lv_iconst (v := 0) hx hb dX9_menRead_39 kI_0 ?_
                exact J64 0 _ _ _ hP hD hS (lv_sub hl [0, 1, 2] rfl) h
              · have h := it_f c65 h
                refine lv_iconst (v := 1) hx hb dX9_menRead_35 kI_1 ?_
                refine lv_goto (tgt := 40) hx hb dX9_menRead_36 (by decide) ?_
                exact J64 1 _ _ _ hP hD hS (lv_sub hl [0, 1, 2] rfl) h
          refine lv_if_eq (tgt := 24) hx hb dX9_menRead_12 (by decide) (fun c67 => ?_) (fun c67 => ?_)
          · have h := it_t c67 h
            exact J66 w3 _ _ _ hP hD hS (lv_sub hl [0, 1, 2] rfl) h
          · have h := it_f c67 h
            refine lv_aload_n hx hb dX9_menRead_15 rfl (lv_at hl 2 rfl) ?_
            obtain ⟨v68, hv68, h⟩ := bind_e h
            refine callMV (As := []) (rest := []) (wr := [(a_t_read, .inl (cy 0, 18, .inl w5))]) (w2 := [(a_t, .inr (9, [g_t_now, .ref a_t_tape, .int t_typed, .int v68.2, .int w4, g_t_readLaw, .ref a_t_read, g_t_undone, g_t_undos, g_t_aside, g_t_coat, g_t_bestCoats, g_t_bestStand, g_t_bestPaint, g_t_kept, g_t_keptUndos, g_t_isKept, g_t_lanes, g_t_sizes, g_t_items, g_t_moved])), (a_t_tape, .inl (cy 0, 60, .inl t_tape)), (a_t_read, .inl (cy 0, 18, .inl w5))]) hx hb hml hown hg (c_X9_here l D cy a_t a_t_tape _ (g_t_now) (.int w4) (g_t_readLaw) (.ref a_t_read) (g_t_undone) (g_t_undos) (g_t_aside) (g_t_coat) (g_t_bestCoats) (g_t_bestStand) (g_t_bestPaint) (g_t_kept) (g_t_keptUndos) (g_t_isKept) (g_t_lanes) (g_t_sizes) (g_t_items) (g_t_moved) t_tape t_typed w3 F v68 hv68) q_1125 q_1122 q_63 q_1124 q_38 hd_X9_here ⟨(Nat.le_of_ble_eq_true rfl), (Nat.le_of_ble_eq_true rfl)⟩ hK hP hD hS hA [0, 1] [2] rfl rfl rfl rfl (by decide) [1, 2, 0] rfl rfl 0 9 rfl rfl rfl rfl rfl rfl hl.1 rfl rfl (Nat.le_of_ble_eq_true rfl) dX9_menRead_16 (fun H locs hP hD hS => ?_)
            refine lv_bipush (v := 44) hx hb dX9_menRead_19 kB_44 ?_
            refine lv_icmp_ne (tgt := 264) hx hb dX9_menRead_21 (by decide) (fun c69 => ?_) (fun c69 => ?_)
            · have h := it_f c69 h
              exact J10 x2 v68.2 w4 w5 _ _ _ hP hD hS (lv_sub hl [1] rfl) h
            · have h := it_t c69 h
              exact J66 v68.2 _ _ _ hP hD hS (lv_sub hl [0, 1, 2] rfl) h
  exact L11 F 0 0 t_place t_isFault t_read _ _ _ hP hD hS (lv_sub hl [0, 1, 2] rfl) h

def m_X9_rim_L223s (x10 : Int32) (w13 : Nat → Int32) (k26 : (Nat → Int32) → Int32 → Option (Int32 × (Nat → Int32) × Int32 × Int32 × Int32 × (Nat → Int32) × (Nat → Int32) × Int32)) (r28 : Int32 → (Nat → Int32) → Int32 → Option (Int32 × (Nat → Int32) × Int32 × Int32 × Int32 × (Nat → Int32) × (Nat → Int32) × Int32)) (x21 : Int32) (w22 : Nat → Int32) (w23 : Int32) : Option (Int32 × (Nat → Int32) × Int32 × Int32 × Int32 × (Nat → Int32) × (Nat → Int32) × Int32) := (if x10 ≤ x21 then k26 w22 w23 else chk (3 * x21) 18 (chk ((3 * x21) + 1) 18 (chk ((3 * x21) + 2) 18 ((m_X9_manComes w22 w23 (w13 (3 * x21).toNatClampNeg) (w13 ((3 * x21) + 1).toNatClampNeg) (w13 ((3 * x21) + 2).toNatClampNeg)).bind (fun v33 => bnd (x21 + 1) (fun x34 => r28 x34 v33.1 v33.2))))))
def m_X9_rim_L223 (x10 : Int32) (w13 : Nat → Int32) (k26 : (Nat → Int32) → Int32 → Option (Int32 × (Nat → Int32) × Int32 × Int32 × Int32 × (Nat → Int32) × (Nat → Int32) × Int32)) : Nat → Int32 → (Nat → Int32) → Int32 → Option (Int32 × (Nat → Int32) × Int32 × Int32 × Int32 × (Nat → Int32) × (Nat → Int32) × Int32)
  | 0 => fun _ _ _ => none
  | nF + 1 => m_X9_rim_L223s x10 w13 k26 (m_X9_rim_L223 x10 w13 k26 nF)
def m_X9_rim_L196s (t_readLaw : Nat → Int32) (v1 : Int32 × Int32 × Int32) (v5 : Int32 × Int32 × Int32) (v9 : Int32 × Int32 × Int32) (k35 : (Nat → Int32) → Option (Int32 × (Nat → Int32) × Int32 × Int32 × Int32 × (Nat → Int32) × (Nat → Int32) × Int32)) (r37 : Int32 → (Nat → Int32) → Option (Int32 × (Nat → Int32) × Int32 × Int32 × Int32 × (Nat → Int32) × (Nat → Int32) × Int32)) (x18 : Int32) (w19 : Nat → Int32) : Option (Int32 × (Nat → Int32) × Int32 × Int32 × Int32 × (Nat → Int32) × (Nat → Int32) × Int32) := (if 3 ≤ x18 then k35 w19 else chk x18 3 (chk (2 + x18) 24 (bnd (x18 + 1) (fun x41 => r37 x41 (upd w19 (2 + x18).toNatClampNeg ((upd (upd (upd t_readLaw 0 v1.1) 1 v5.1) 2 v9.1) x18.toNatClampNeg))))))
def m_X9_rim_L196 (t_readLaw : Nat → Int32) (v1 : Int32 × Int32 × Int32) (v5 : Int32 × Int32 × Int32) (v9 : Int32 × Int32 × Int32) (k35 : (Nat → Int32) → Option (Int32 × (Nat → Int32) × Int32 × Int32 × Int32 × (Nat → Int32) × (Nat → Int32) × Int32)) : Nat → Int32 → (Nat → Int32) → Option (Int32 × (Nat → Int32) × Int32 × Int32 × Int32 × (Nat → Int32) × (Nat → Int32) × Int32)
  | 0 => fun _ _ => none
  | nF + 1 => m_X9_rim_L196s t_readLaw v1 v5 v9 k35 (m_X9_rim_L196 t_readLaw v1 v5 v9 k35 nF)
def m_X9_rim (F : Nat) (t_now : Nat → Int32) (t_tape : Nat → Int32) (t_typed : Int32) (t_place : Int32) (t_isFault : Int32) (t_readLaw : Nat → Int32) (t_read : Nat → Int32) (t_undos : Int32) : Option (Int32 × (Nat → Int32) × Int32 × Int32 × Int32 × (Nat → Int32) × (Nat → Int32) × Int32) := (m_X9_number F t_tape t_typed 0 0 11 0).bind (fun v1 => jn (fun (w2 : Int32) (x3 : Int32) => (m_X9_must w2 v1.2.2 x3).bind (fun v4 => (m_X9_number F t_tape t_typed v4.1 v4.2 11 0).bind (fun v5 => jn (fun (w6 : Int32) (x7 : Int32) => (m_X9_must w6 v5.2.2 x7).bind (fun v8 => (m_X9_number F t_tape t_typed v8.1 v8.2 12 0).bind (fun v9 => jn (fun (x10 : Int32) (w11 : Int32) (w12 : Int32) (w13 : Nat → Int32) => jn (fun (w14 : Int32) (x15 : Int32) => zb x15 ((if x15 = 0 then m_X9_rim_L196 t_readLaw v1 v5 v9 (fun (w20 : Nat → Int32) => m_X9_rim_L223 x10 w13 (fun (w24 : Nat → Int32) (w25 : Int32) => some (x10, w24, 0, w14, x15, upd (upd (upd t_readLaw 0 v1.1) 1 v5.1) 2 v9.1, w13, w25)) F 0 w20 0) F 0 (upd (upd t_now 0 0) 1 0) else some ((-20) - w14, t_now, 0, w14, x15, upd (upd (upd t_readLaw 0 v1.1) 1 v5.1) 2 v9.1, w13, t_undos)))) (fun k42 => jn (fun (w43 : Int32) => k42 w43 1) (fun k44 => (if w12 = 0 then (m_X9_here F t_tape t_typed w11).bind (fun v46 => (if v46.1 = 0 then k42 v46.2 0 else k44 v46.2)) else k44 w11)))) (fun k48 => (if v9.2.2 = 0 then (m_X9_here F t_tape t_typed v9.2.1).bind (fun v50 => (if v50.1 = 59 then (m_X9_menRead F t_tape t_typed (v50.2 + 1) v9.2.2 t_read).bind (fun v52 => k48 v52.1 v52.2.1 v52.2.2.1 v52.2.2.2) else k48 0 v50.2 v9.2.2 t_read)) else k48 0 v9.2.1 v9.2.2 t_read))))) (fun k53 => jn (fun (w54 : Int32) => k53 w54 0) (fun k55 => (if v5.2.2 = 0 then (m_X9_here F t_tape t_typed v5.2.1).bind (fun v57 => (if v57.1 = 94 then k53 v57.2 1 else k55 v57.2)) else k55 v5.2.1)))))) (fun k59 => jn (fun (w60 : Int32) => k59 w60 0) (fun k61 => (if v1.2.2 = 0 then (m_X9_here F t_tape t_typed v1.2.1).bind (fun v63 => (if v63.1 = 43 then k59 v63.2 1 else k61 v63.2)) else k61 v1.2.1))))
set_option maxHeartbeats 4000000 in
set_option maxRecDepth 100000 in
theorem c_X9_rim (l : Launch) (D : va_G) (cy : Nat → ClassId) (a_t : Nat) (a_t_now : Nat) (a_t_tape : Nat) (a_t_readLaw : Nat) (a_t_read : Nat) (sz : Nat) (g_t_undone : Value) (g_t_aside : Value) (g_t_coat : Value) (g_t_bestCoats : Value) (g_t_bestStand : Value) (g_t_bestPaint : Value) (g_t_kept : Value) (g_t_keptUndos : Value) (g_t_isKept : Value) (g_t_lanes : Value) (g_t_sizes : Value) (g_t_items : Value) (g_t_moved : Value) (t_now : Nat → Int32) (t_tape : Nat → Int32) (t_typed : Int32) (t_place : Int32) (t_isFault : Int32) (t_readLaw : Nat → Int32) (t_read : Nat → Int32) (t_undos : Int32) (F : Nat) (out : Int32 × (Nat → Int32) × Int32 × Int32 × Int32 × (Nat → Int32) × (Nat → Int32) × Int32) (h : m_X9_rim F t_now t_tape t_typed t_place t_isFault t_readLaw t_read t_undos = some out) : MetM l D cy yX9_rim cX9_rim 3 (some .int) (rmG 3 76) [.ref a_t] sz [(a_t, .inr (9, [.ref a_t_now, .ref a_t_tape, .int t_typed, .int t_place, .int t_isFault, .ref a_t_readLaw, .ref a_t_read, g_t_undone, .int t_undos, g_t_aside, g_t_coat, g_t_bestCoats, g_t_bestStand, g_t_bestPaint, g_t_kept, g_t_keptUndos, g_t_isKept, g_t_lanes, g_t_sizes, g_t_items, g_t_moved])), (a_t_now, .inl (cy 0, 24, .inl t_now)), (a_t_tape, .inl (cy 0, 60, .inl t_tape)), (a_t_readLaw, .inl (cy 0, 3, .inl t_readLaw)), (a_t_read, .inl (cy 0, 18, .inl t_read))] (some (.int out.1)) [(a_t, .inr (9, [.ref a_t_now, .ref a_t_tape, .int out.2.2.1, .int out.2.2.2.1, .int out.2.2.2.2.1, .ref a_t_readLaw, .ref a_t_read, g_t_undone, .int out.2.2.2.2.2.2.2, g_t_aside, g_t_coat, g_t_bestCoats, g_t_bestStand, g_t_bestPaint, g_t_kept, g_t_keptUndos, g_t_isKept, g_t_lanes, g_t_sizes, g_t_items, g_t_moved])), (a_t_now, .inl (cy 0, 24, .inl out.2.1)), (a_t_tape, .inl (cy 0, 60, .inl t_tape)), (a_t_readLaw, .inl (cy 0, 3, .inl out.2.2.2.2.2.1)), (a_t_read, .inl (cy 0, 18, .inl out.2.2.2.2.2.2.1))] := by
  refine startMi (own := RX9) (by decide) rfl (Nat.le_of_ble_eq_true rfl) ?_
  intro p e s m below meth c QQ A hx hb hml hown hg hK hP hD hS hA hret ls hl
  have hl : lv_has ls 3 [(0, .ref a_t)] := hl
  unfold m_X9_rim at h
  refine lv_aload_n hx hb dX9_rim_0 rfl (lv_at hl 0 rfl) ?_
  refine lv_iconst (v := 0) hx hb dX9_rim_1 kI_0 ?_
  refine va_put (D := D) (ci := 9) (v := .int 0) (ty := .int) (C := RX9) (T := TX9) (N := 21) hx hb hg inG_X9 tyX9 tyX9_ok nmX9 hown hK hP hD hS 0 rfl rfl 3 (by decide) (hg _ q_948) (fun _ h9 => h9) rfl (tyX9_ok 3 (by decide)) rfl rfl (Nat.le_of_ble_eq_true rfl) dX9_rim_2 (fun H locs hP hD hS => ?_)
  have hP : va_P D vwCl [(a_t, .inr (9, [.ref a_t_now, .ref a_t_tape, .int t_typed, .int 0, .int t_isFault, .ref a_t_readLaw, .ref a_t_read, g_t_undone, .int t_undos, g_t_aside, g_t_coat, g_t_bestCoats, g_t_bestStand, g_t_bestPaint, g_t_kept, g_t_keptUndos, g_t_isKept, g_t_lanes, g_t_sizes, g_t_items, g_t_moved])), (a_t_now, .inl (cy 0, 24, .inl t_now)), (a_t_tape, .inl (cy 0, 60, .inl t_tape)), (a_t_readLaw, .inl (cy 0, 3, .inl t_readLaw)), (a_t_read, .inl (cy 0, 18, .inl t_read))] H := hP
  have hD : va_D A [(a_t, .inr (9, [.ref a_t_now, .ref a_t_tape, .int t_typed, .int 0, .int t_isFault, .ref a_t_readLaw, .ref a_t_read, g_t_undone, .int t_undos, g_t_aside, g_t_coat, g_t_bestCoats, g_t_bestStand, g_t_bestPaint, g_t_kept, g_t_keptUndos, g_t_isKept, g_t_lanes, g_t_sizes, g_t_items, g_t_moved])), (a_t_now, .inl (cy 0, 24, .inl t_now)), (a_t_tape, .inl (cy 0, 60, .inl t_tape)), (a_t_readLaw, .inl (cy 0, 3, .inl t_readLaw)), (a_t_read, .inl (cy 0, 18, .inl t_read))] := hD
  refine lv_aload_n hx hb dX9_rim_5 rfl (lv_at hl 0 rfl) ?_
  refine lv_iconst (v := 0) hx hb dX9_rim_6 kI_0 ?_
  refine va_put (D := D) (ci := 9) (v := .int 0) (ty := .boolean) (C := RX9) (T := TX9) (N := 21) hx hb hg inG_X9 tyX9 tyX9_ok nmX9 hown hK hP hD hS 0 rfl rfl 4 (by decide) (hg _ q_949) (fun _ h9 => h9) rfl (tyX9_ok 4 (by decide)) (nar_z (Or.inl rfl)) (fit_z (Or.inl rfl)) (Nat.le_of_ble_eq_true rfl) dX9_rim_7 (fun H locs hP hD hS => ?_)
  have hP : va_P D vwCl [(a_t, .inr (9, [.ref a_t_now, .ref a_t_tape, .int t_typed, .int 0, .int 0, .ref a_t_readLaw, .ref a_t_read, g_t_undone, .int t_undos, g_t_aside, g_t_coat, g_t_bestCoats, g_t_bestStand, g_t_bestPaint, g_t_kept, g_t_keptUndos, g_t_isKept, g_t_lanes, g_t_sizes, g_t_items, g_t_moved])), (a_t_now, .inl (cy 0, 24, .inl t_now)), (a_t_tape, .inl (cy 0, 60, .inl t_tape)), (a_t_readLaw, .inl (cy 0, 3, .inl t_readLaw)), (a_t_read, .inl (cy 0, 18, .inl t_read))] H := hP
  have hD : va_D A [(a_t, .inr (9, [.ref a_t_now, .ref a_t_tape, .int t_typed, .int 0, .int 0, .ref a_t_readLaw, .ref a_t_read, g_t_undone, .int t_undos, g_t_aside, g_t_coat, g_t_bestCoats, g_t_bestStand, g_t_bestPaint, g_t_kept, g_t_keptUndos, g_t_isKept, g_t_lanes, g_t_sizes, g_t_items, g_t_moved])), (a_t_now, .inl (cy 0, 24, .inl t_now)), (a_t_tape, .inl (cy 0, 60, .inl t_tape)), (a_t_readLaw, .inl (cy 0, 3, .inl t_readLaw)), (a_t_read, .inl (cy 0, 18, .inl t_read))] := hD
  refine lv_aload_n hx hb dX9_rim_10 rfl (lv_at hl 0 rfl) ?_
  refine va_get (D := D) (ci := 9) (v := .ref a_t_readLaw) (C := RX9) (T := TX9) (N := 21) hx hb hg inG_X9 hown hK hP 0 rfl rfl 5 (by decide) (hg _ q_950) (fun _ h9 => h9) rfl dX9_rim_11 ?_
  refine lv_iconst (v := 0) hx hb dX9_rim_14 kI_0 ?_
  refine lv_aload_n hx hb dX9_rim_15 rfl (lv_at hl 0 rfl) ?_
  refine lv_bipush (v := 11) hx hb dX9_rim_16 kB_11 ?_
  refine lv_iconst (v := 0) hx hb dX9_rim_18 kI_0 ?_
  obtain ⟨v1, hv1, h⟩ := bind_e h
  refine callMV (As := [.int 11, .int 0]) (rest := [.int 0, .ref a_t_readLaw]) (wr := [(a_t_now, .inl (cy 0, 24, .inl t_now)), (a_t_readLaw, .inl (cy 0, 3, .inl t_readLaw)), (a_t_read, .inl (cy 0, 18, .inl t_read))]) (w2 := [(a_t, .inr (9, [.ref a_t_now, .ref a_t_tape, .int t_typed, .int v1.2.1, .int v1.2.2, .ref a_t_readLaw, .ref a_t_read, g_t_undone, .int t_undos, g_t_aside, g_t_coat, g_t_bestCoats, g_t_bestStand, g_t_bestPaint, g_t_kept, g_t_keptUndos, g_t_isKept, g_t_lanes, g_t_sizes, g_t_items, g_t_moved])), (a_t_now, .inl (cy 0, 24, .inl t_now)), (a_t_tape, .inl (cy 0, 60, .inl t_tape)), (a_t_readLaw, .inl (cy 0, 3, .inl t_readLaw)), (a_t_read, .inl (cy 0, 18, .inl t_read))]) hx hb hml hown hg (c_X9_number l D cy a_t a_t_tape _ (.ref a_t_now) (.ref a_t_readLaw) (.ref a_t_read) (g_t_undone) (.int t_undos) (g_t_aside) (g_t_coat) (g_t_bestCoats) (g_t_bestStand) (g_t_bestPaint) (g_t_kept) (g_t_keptUndos) (g_t_isKept) (g_t_lanes) (g_t_sizes) (g_t_items) (g_t_moved) t_tape t_typed 0 0 11 0 F v1 hv1) q_1121 q_1118 q_63 q_1120 q_37 hd_X9_number ⟨(Nat.le_of_ble_eq_true rfl), (Nat.le_of_ble_eq_true rfl)⟩ hK hP hD hS hA [0, 2] [1, 3, 4] rfl rfl rfl rfl (by decide) [3, 0, 4, 1, 2] rfl rfl 0 9 rfl rfl rfl rfl rfl rfl hl.1 rfl rfl (Nat.le_of_ble_eq_true rfl) dX9_rim_19 (fun H locs hP hD hS => ?_)
  refine iastK hx hb hK hP hD hS 3 0 rfl rfl (vp_in_inb (by decide)) kN_0 dX9_rim_22 (fun H locs hP hD hS => ?_)
  have hP : va_P D vwCl [(a_t, .inr (9, [.ref a_t_now, .ref a_t_tape, .int t_typed, .int v1.2.1, .int v1.2.2, .ref a_t_readLaw, .ref a_t_read, g_t_undone, .int t_undos, g_t_aside, g_t_coat, g_t_bestCoats, g_t_bestStand, g_t_bestPaint, g_t_kept, g_t_keptUndos, g_t_isKept, g_t_lanes, g_t_sizes, g_t_items, g_t_moved])), (a_t_now, .inl (cy 0, 24, .inl t_now)), (a_t_tape, .inl (cy 0, 60, .inl t_tape)), (a_t_readLaw, .inl (cy 0, 3, .inl (upd t_readLaw 0 v1.1))), (a_t_read, .inl (cy 0, 18, .inl t_read))] H := hP
  have hD : va_D A [(a_t, .inr (9, [.ref a_t_now, .ref a_t_tape, .int t_typed, .int v1.2.1, .int v1.2.2, .ref a_t_readLaw, .ref a_t_read, g_t_undone, .int t_undos, g_t_aside, g_t_coat, g_t_bestCoats, g_t_bestStand, g_t_bestPaint, g_t_kept, g_t_keptUndos, g_t_isKept, g_t_lanes, g_t_sizes, g_t_items, g_t_moved])), (a_t_now, .inl (cy 0, 24, .inl t_now)), (a_t_tape, .inl (cy 0, 60, .inl t_tape)), (a_t_readLaw, .inl (cy 0, 3, .inl (upd t_readLaw 0 v1.1))), (a_t_read, .inl (cy 0, 18, .inl t_read))] := hD
  refine lv_aload_n hx hb dX9_rim_23 rfl (lv_at hl 0 rfl) ?_
  refine lv_aload_n hx hb dX9_rim_24 rfl (lv_at hl 0 rfl) ?_
  refine va_get (D := D) (ci := 9) (v := .int v1.2.2) (C := RX9) (T := TX9) (N := 21) hx hb hg inG_X9 hown hK hP 0 rfl rfl 4 (by decide) (hg _ q_949) (fun _ h9 => h9) rfl dX9_rim_25 ?_
  obtain ⟨k59, hk59, h⟩ := jn_e h
  have J59 : ∀ (w2 : Int32) (x3 : Int32) (H : Heap) (locs : List Loc) (ls : Array Slot), va_P D vwCl [(a_t, .inr (9, [.ref a_t_now, .ref a_t_tape, .int t_typed, .int w2, .int v1.2.2, .ref a_t_readLaw, .ref a_t_read, g_t_undone, .int t_undos, g_t_aside, g_t_coat, g_t_bestCoats, g_t_bestStand, g_t_bestPaint, g_t_kept, g_t_keptUndos, g_t_isKept, g_t_lanes, g_t_sizes, g_t_items, g_t_moved])), (a_t_now, .inl (cy 0, 24, .inl t_now)), (a_t_tape, .inl (cy 0, 60, .inl t_tape)), (a_t_readLaw, .inl (cy 0, 3, .inl (upd t_readLaw 0 v1.1))), (a_t_read, .inl (cy 0, 18, .inl t_read))] H → va_D A [(a_t, .inr (9, [.ref a_t_now, .ref a_t_tape, .int t_typed, .int w2, .int v1.2.2, .ref a_t_readLaw, .ref a_t_read, g_t_undone, .int t_undos, g_t_aside, g_t_coat, g_t_bestCoats, g_t_bestStand, g_t_bestPaint, g_t_kept, g_t_keptUndos, g_t_isKept, g_t_lanes, g_t_sizes, g_t_items, g_t_moved])), (a_t_now, .inl (cy 0, 24, .inl t_now)), (a_t_tape, .inl (cy 0, 60, .inl t_tape)), (a_t_readLaw, .inl (cy 0, 3, .inl (upd t_readLaw 0 v1.1))), (a_t_read, .inl (cy 0, 18, .inl t_read))] → va_S A s.heap H locs → lv_has ls 3 [(0, .ref a_t)] → k59 w2 x3 = some out → W p l e (rmG 3 76) s m [.ref a_t].toArray below meth c H locs 0 0 QQ (F0 m 45 ls [.int x3, .ref a_t]) := by
    intro w2 x3 H locs ls hP hD hS hl h
    rw [hk59] at h
    obtain ⟨v4, hv4, h⟩ := bind_e h
    refine callMV (As := [.int x3]) (rest := []) (wr := [(a_t_now, .inl (cy 0, 24, .inl t_now)), (a_t_tape, .inl (cy 0, 60, .inl t_tape)), (a_t_readLaw, .inl (cy 0, 3, .inl (upd t_readLaw 0 v1.1))), (a_t_read, .inl (cy 0, 18, .inl t_read))]) (w2 := [(a_t, .inr (9, [.ref a_t_now, .ref a_t_tape, .int t_typed, .int v4.1, .int v4.2, .ref a_t_readLaw, .ref a_t_read, g_t_undone, .int t_undos, g_t_aside, g_t_coat, g_t_bestCoats, g_t_bestStand, g_t_bestPaint, g_t_kept, g_t_keptUndos, g_t_isKept, g_t_lanes, g_t_sizes, g_t_items, g_t_moved])), (a_t_now, .inl (cy 0, 24, .inl t_now)), (a_t_tape, .inl (cy 0, 60, .inl t_tape)), (a_t_readLaw, .inl (cy 0, 3, .inl (upd t_readLaw 0 v1.1))), (a_t_read, .inl (cy 0, 18, .inl t_read))]) hx hb hml hown hg (c_X9_must l D cy a_t _ (.ref a_t_now) (.ref a_t_tape) (.int t_typed) (.ref a_t_readLaw) (.ref a_t_read) (g_t_undone) (.int t_undos) (g_t_aside) (g_t_coat) (g_t_bestCoats) (g_t_bestStand) (g_t_bestPaint) (g_t_kept) (g_t_keptUndos) (g_t_isKept) (g_t_lanes) (g_t_sizes) (g_t_items) (g_t_moved) w2 v1.2.2 x3 v4 hv4) q_1131 q_1128 q_63 q_1130 q_39 hd_X9_must ⟨(Nat.le_of_ble_eq_true rfl), (Nat.le_of_ble_eq_true rfl)⟩ hK hP hD hS hA [0] [1, 2, 3, 4] rfl rfl rfl rfl (by decide) [4, 0, 1, 2, 3] rfl rfl 0 9 rfl rfl rfl rfl rfl rfl hl.1 rfl rfl (Nat.le_of_ble_eq_true rfl) dX9_rim_45 (fun H locs hP hD hS => ?_)
    refine lv_aload_n hx hb dX9_rim_48 rfl (lv_at hl 0 rfl) ?_
    refine va_get (D := D) (ci := 9) (v := .ref a_t_readLaw) (C := RX9) (T := TX9) (N := 21) hx hb hg inG_X9 hown hK hP 0 rfl rfl 5 (by decide) (hg _ q_950) (fun _ h9 => h9) rfl dX9_rim_49 ?_
    refine lv_iconst (v := 1) hx hb dX9_rim_52 kI_1 ?_
    refine lv_aload_n hx hb dX9_rim_53 rfl (lv_at hl 0 rfl) ?_
    refine lv_bipush (v := 11) hx hb dX9_rim_54 kB_11 ?_
    refine lv_iconst (v := 0) hx hb dX9_rim_56 kI_0 ?_
    obtain ⟨v5, hv5, h⟩ := bind_e h
    refine callMV (As := [.int 11, .int 0]) (rest := [.int 1, .ref a_t_readLaw]) (wr := [(a_t_now, .inl (cy 0, 24, .inl t_now)), (a_t_readLaw, .inl (cy 0, 3, .inl (upd t_readLaw 0 v1.1))), (a_t_read, .inl (cy 0, 18, .inl t_read))]) (w2 := [(a_t, .inr (9, [.ref a_t_now, .ref a_t_tape, .int t_typed, .int v5.2.1, .int v5.2.2, .ref a_t_readLaw, .ref a_t_read, g_t_undone, .int t_undos, g_t_aside, g_t_coat, g_t_bestCoats, g_t_bestStand, g_t_bestPaint, g_t_kept, g_t_keptUndos, g_t_isKept, g_t_lanes, g_t_sizes, g_t_items, g_t_moved])), (a_t_now, .inl (cy 0, 24, .inl t_now)), (a_t_tape, .inl (cy 0, 60, .inl t_tape)), (a_t_readLaw, .inl (cy 0, 3, .inl (upd t_readLaw 0 v1.1))), (a_t_read, .inl (cy 0, 18, .inl t_read))]) hx hb hml hown hg (c_X9_number l D cy a_t a_t_tape _ (.ref a_t_now) (.ref a_t_readLaw) (.ref a_t_read) (g_t_undone) (.int t_undos) (g_t_aside) (g_t_coat) (g_t_bestCoats) (g_t_bestStand) (g_t_bestPaint) (g_t_kept) (g_t_keptUndos) (g_t_isKept) (g_t_lanes) (g_t_sizes) (g_t_items) (g_t_moved) t_tape t_typed v4.1 v4.2 11 0 F v5 hv5) q_1121 q_1118 q_63 q_1120 q_37 hd_X9_number ⟨(Nat.le_of_ble_eq_true rfl), (Nat.le_of_ble_eq_true rfl)⟩ hK hP hD hS hA [0, 2] [1, 3, 4] rfl rfl rfl rfl (by decide) [3, 0, 4, 1, 2] rfl rfl 0 9 rfl rfl rfl rfl rfl rfl hl.1 rfl rfl (Nat.le_of_ble_eq_true rfl) dX9_rim_57 (fun H locs hP hD hS => ?_)
    refine iastK hx hb hK hP hD hS 3 0 rfl rfl (vp_in_inb (by decide)) kN_1 dX9_rim_60 (fun H locs hP hD hS => ?_)
    have hP : va_P D vwCl [(a_t, .inr (9, [.ref a_t_now, .ref a_t_tape, .int t_typed, .int v5.2.1, .int v5.2.2, .ref a_t_readLaw, .ref a_t_read, g_t_undone, .int t_undos, g_t_aside, g_t_coat, g_t_bestCoats, g_t_bestStand, g_t_bestPaint, g_t_kept, g_t_keptUndos, g_t_isKept, g_t_lanes, g_t_sizes, g_t_items, g_t_moved])), (a_t_now, .inl (cy 0, 24, .inl t_now)), (a_t_tape, .inl (cy 0, 60, .inl t_tape)), (a_t_readLaw, .inl (cy 0, 3, .inl (upd (upd t_readLaw 0 v1.1) 1 v5.1))), (a_t_read, .inl (cy 0, 18, .inl t_read))] H := hP
    have hD : va_D A [(a_t, .inr (9, [.ref a_t_now, .ref a_t_tape, .int t_typed, .int v5.2.1, .int v5.2.2, .ref a_t_readLaw, .ref a_t_read, g_t_undone, .int t_undos, g_t_aside, g_t_coat, g_t_bestCoats, g_t_bestStand, g_t_bestPaint, g_t_kept, g_t_keptUndos, g_t_isKept, g_t_lanes, g_t_sizes, g_t_items, g_t_moved])), (a_t_now, .inl (cy 0, 24, .inl t_now)), (a_t_tape, .inl (cy 0, 60, .inl t_tape)), (a_t_readLaw, .inl (cy 0, 3, .inl (upd (upd t_readLaw 0 v1.1) 1 v5.1))), (a_t_read, .inl (cy 0, 18, .inl t_read))] := hD
    refine lv_aload_n hx hb dX9_rim_61 rfl (lv_at hl 0 rfl) ?_
    refine lv_aload_n hx hb dX9_rim_62 rfl (lv_at hl 0 rfl) ?_
    refine va_get (D := D) (ci := 9) (v := .int v5.2.2) (C := RX9) (T := TX9) (N := 21) hx hb hg inG_X9 hown hK hP 0 rfl rfl 4 (by decide) (hg _ q_949) (fun _ h9 => h9) rfl dX9_rim_63 ?_
    obtain ⟨k53, hk53, h⟩ := jn_e h
    have J53 : ∀ (w6 : Int32) (x7 : Int32) (H : Heap) (locs : List Loc) (ls : Array Slot), va_P D vwCl [(a_t, .inr (9, [.ref a_t_now, .ref a_t_tape, .int t_typed, .int w6, .int v5.2.2, .ref a_t_readLaw, .ref a_t_read, g_t_undone, .int t_undos, g_t_aside, g_t_coat, g_t_bestCoats, g_t_bestStand, g_t_bestPaint, g_t_kept, g_t_keptUndos, g_t_isKept, g_t_lanes, g_t_sizes, g_t_items, g_t_moved])), (a_t_now, .inl (cy 0, 24, .inl t_now)), (a_t_tape, .inl (cy 0, 60, .inl t_tape)), (a_t_readLaw, .inl (cy 0, 3, .inl (upd (upd t_readLaw 0 v1.1) 1 v5.1))), (a_t_read, .inl (cy 0, 18, .inl t_read))] H → va_D A [(a_t, .inr (9, [.ref a_t_now, .ref a_t_tape, .int t_typed, .int w6, .int v5.2.2, .ref a_t_readLaw, .ref a_t_read, g_t_undone, .int t_undos, g_t_aside, g_t_coat, g_t_bestCoats, g_t_bestStand, g_t_bestPaint, g_t_kept, g_t_keptUndos, g_t_isKept, g_t_lanes, g_t_sizes, g_t_items, g_t_moved])), (a_t_now, .inl (cy 0, 24, .inl t_now)), (a_t_tape, .inl (cy 0, 60, .inl t_tape)), (a_t_readLaw, .inl (cy 0, 3, .inl (upd (upd t_readLaw 0 v1.1) 1 v5.1))), (a_t_read, .inl (cy 0, 18, .inl t_read))] → va_S A s.heap H locs → lv_has ls 3 [(0, .ref a_t)] → k53 w6 x7 = some out → W p l e (rmG 3 76) s m [.ref a_t].toArray below meth c H locs 0 0 QQ (F0 m 83 ls [.int x7, .ref a_t]) := by
      intro w6 x7 H locs ls hP hD hS hl h
      rw [hk53] at h
      obtain ⟨v8, hv8, h⟩ := bind_e h
      refine callMV (As := [.int x7]) (rest := []) (wr := [(a_t_now, .inl (cy 0, 24, .inl t_now)), (a_t_tape, .inl (cy 0, 60, .inl t_tape)), (a_t_readLaw, .inl (cy 0, 3, .inl (upd (upd t_readLaw 0 v1.1) 1 v5.1))), (a_t_read, .inl (cy 0, 18, .inl t_read))]) (w2 := [(a_t, .inr (9, [.ref a_t_now, .ref a_t_tape, .int t_typed, .int v8.1, .int v8.2, .ref a_t_readLaw, .ref a_t_read, g_t_undone, .int t_undos, g_t_aside, g_t_coat, g_t_bestCoats, g_t_bestStand, g_t_bestPaint, g_t_kept, g_t_keptUndos, g_t_isKept, g_t_lanes, g_t_sizes, g_t_items, g_t_moved])), (a_t_now, .inl (cy 0, 24, .inl t_now)), (a_t_tape, .inl (cy 0, 60, .inl t_tape)), (a_t_readLaw, .inl (cy 0, 3, .inl (upd (upd t_readLaw 0 v1.1) 1 v5.1))), (a_t_read, .inl (cy 0, 18, .inl t_read))]) hx hb hml hown hg (c_X9_must l D cy a_t _ (.ref a_t_now) (.ref a_t_tape) (.int t_typed) (.ref a_t_readLaw) (.ref a_t_read) (g_t_undone) (.int t_undos) (g_t_aside) (g_t_coat) (g_t_bestCoats) (g_t_bestStand) (g_t_bestPaint) (g_t_kept) (g_t_keptUndos) (g_t_isKept) (g_t_lanes) (g_t_sizes) (g_t_items) (g_t_moved) w6 v5.2.2 x7 v8 hv8) q_1131 q_1128 q_63 q_1130 q_39 hd_X9_must ⟨(Nat.le_of_ble_eq_true rfl), (Nat.le_of_ble_eq_true rfl)⟩ hK hP hD hS hA [0] [1, 2, 3, 4] rfl rfl rfl rfl (by decide) [4, 0, 1, 2, 3] rfl rfl 0 9 rfl rfl rfl rfl rfl rfl hl.1 rfl rfl (Nat.le_of_ble_eq_true rfl) dX9_rim_83 (fun H locs hP hD hS => ?_)
      refine lv_aload_n hx hb dX9_rim_86 rfl (lv_at hl 0 rfl) ?_
      refine va_get (D := D) (ci := 9) (v := .ref a_t_readLaw) (C := RX9) (T := TX9) (N := 21) hx hb hg inG_X9 hown hK hP 0 rfl rfl 5 (by decide) (hg _ q_950) (fun _ h9 => h9) rfl dX9_rim_87 ?_
      refine lv_iconst (v := 2) hx hb dX9_rim_90 kI_2 ?_
      refine lv_aload_n hx hb dX9_rim_91 rfl (lv_at hl 0 rfl) ?_
      refine lv_bipush (v := 12) hx hb dX9_rim_92 kB_12 ?_
      refine lv_iconst (v := 0) hx hb dX9_rim_94 kI_0 ?_
      obtain ⟨v9, hv9, h⟩ := bind_e h
      refine callMV (As := [.int 12, .int 0]) (rest := [.int 2, .ref a_t_readLaw]) (wr := [(a_t_now, .inl (cy 0, 24, .inl t_now)), (a_t_readLaw, .inl (cy 0, 3, .inl (upd (upd t_readLaw 0 v1.1) 1 v5.1))), (a_t_read, .inl (cy 0, 18, .inl t_read))]) (w2 := [(a_t, .inr (9, [.ref a_t_now, .ref a_t_tape, .int t_typed, .int v9.2.1, .int v9.2.2, .ref a_t_readLaw, .ref a_t_read, g_t_undone, .int t_undos, g_t_aside, g_t_coat, g_t_bestCoats, g_t_bestStand, g_t_bestPaint, g_t_kept, g_t_keptUndos, g_t_isKept, g_t_lanes, g_t_sizes, g_t_items, g_t_moved])), (a_t_now, .inl (cy 0, 24, .inl t_now)), (a_t_tape, .inl (cy 0, 60, .inl t_tape)), (a_t_readLaw, .inl (cy 0, 3, .inl (upd (upd t_readLaw 0 v1.1) 1 v5.1))), (a_t_read, .inl (cy 0, 18, .inl t_read))]) hx hb hml hown hg (c_X9_number l D cy a_t a_t_tape _ (.ref a_t_now) (.ref a_t_readLaw) (.ref a_t_read) (g_t_undone) (.int t_undos) (g_t_aside) (g_t_coat) (g_t_bestCoats) (g_t_bestStand) (g_t_bestPaint) (g_t_kept) (g_t_keptUndos) (g_t_isKept) (g_t_lanes) (g_t_sizes) (g_t_items) (g_t_moved) t_tape t_typed v8.1 v8.2 12 0 F v9 hv9) q_1121 q_1118 q_63 q_1120 q_37 hd_X9_number ⟨(Nat.le_of_ble_eq_true rfl), (Nat.le_of_ble_eq_true rfl)⟩ hK hP hD hS hA [0, 2] [1, 3, 4] rfl rfl rfl rfl (by decide) [3, 0, 4, 1, 2] rfl rfl 0 9 rfl rfl rfl rfl rfl rfl hl.1 rfl rfl (Nat.le_of_ble_eq_true rfl) dX9_rim_95 (fun H locs hP hD hS => ?_)
      refine iastK hx hb hK hP hD hS 3 0 rfl rfl (vp_in_inb (by decide)) kN_2 dX9_rim_98 (fun H locs hP hD hS => ?_)
      have hP : va_P D vwCl [(a_t, .inr (9, [.ref a_t_now, .ref a_t_tape, .int t_typed, .int v9.2.1, .int v9.2.2, .ref a_t_readLaw, .ref a_t_read, g_t_undone, .int t_undos, g_t_aside, g_t_coat, g_t_bestCoats, g_t_bestStand, g_t_bestPaint, g_t_kept, g_t_keptUndos, g_t_isKept, g_t_lanes, g_t_sizes, g_t_items, g_t_moved])), (a_t_now, .inl (cy 0, 24, .inl t_now)), (a_t_tape, .inl (cy 0, 60, .inl t_tape)), (a_t_readLaw, .inl (cy 0, 3, .inl (upd (upd (upd t_readLaw 0 v1.1) 1 v5.1) 2 v9.1))), (a_t_read, .inl (cy 0, 18, .inl t_read))] H := hP
      have hD : va_D A [(a_t, .inr (9, [.ref a_t_now, .ref a_t_tape, .int t_typed, .int v9.2.1, .int v9.2.2, .ref a_t_readLaw, .ref a_t_read, g_t_undone, .int t_undos, g_t_aside, g_t_coat, g_t_bestCoats, g_t_bestStand, g_t_bestPaint, g_t_kept, g_t_keptUndos, g_t_isKept, g_t_lanes, g_t_sizes, g_t_items, g_t_moved])), (a_t_now, .inl (cy 0, 24, .inl t_now)), (a_t_tape, .inl (cy 0, 60, .inl t_tape)), (a_t_readLaw, .inl (cy 0, 3, .inl (upd (upd (upd t_readLaw 0 v1.1) 1 v5.1) 2 v9.1))), (a_t_read, .inl (cy 0, 18, .inl t_read))] := hD
      refine lv_iconst (v := 0) hx hb dX9_rim_99 kI_0 ?_
      refine lv_istore_n (lv' := [(1, .int 0), (0, .ref a_t)]) hx hb dX9_rim_100 rfl hl (by decide) rfl (fun ls hl => ?_)
      refine lv_aload_n hx hb dX9_rim_101 rfl (lv_at hl 1 rfl) ?_
      refine va_get (D := D) (ci := 9) (v := .int v9.2.2) (C := RX9) (T := TX9) (N := 21) hx hb hg inG_X9 hown hK hP 0 rfl rfl 4 (by decide) (hg _ q_949) (fun _ h9 => h9) rfl dX9_rim_102 ?_
      obtain ⟨k48, hk48, h⟩ := jn_e h
      have J48 : ∀ (x10 : Int32) (w11 : Int32) (w12 : Int32) (w13 : Nat → Int32) (H : Heap) (locs : List Loc) (ls : Array Slot), va_P D vwCl [(a_t, .inr (9, [.ref a_t_now, .ref a_t_tape, .int t_typed, .int w11, .int w12, .ref a_t_readLaw, .ref a_t_read, g_t_undone, .int t_undos, g_t_aside, g_t_coat, g_t_bestCoats, g_t_bestStand, g_t_bestPaint, g_t_kept, g_t_keptUndos, g_t_isKept, g_t_lanes, g_t_sizes, g_t_items, g_t_moved])), (a_t_now, .inl (cy 0, 24, .inl t_now)), (a_t_tape, .inl (cy 0, 60, .inl t_tape)), (a_t_readLaw, .inl (cy 0, 3, .inl (upd (upd (upd t_readLaw 0 v1.1) 1 v5.1) 2 v9.1))), (a_t_read, .inl (cy 0, 18, .inl w13))] H → va_D A [(a_t, .inr (9, [.ref a_t_now, .ref a_t_tape, .int t_typed, .int w11, .int w12, .ref a_t_readLaw, .ref a_t_read, g_t_undone, .int t_undos, g_t_aside, g_t_coat, g_t_bestCoats, g_t_bestStand, g_t_bestPaint, g_t_kept, g_t_keptUndos, g_t_isKept, g_t_lanes, g_t_sizes, g_t_items, g_t_moved])), (a_t_now, .inl (cy 0, 24, .inl t_now)), (a_t_tape, .inl (cy 0, 60, .inl t_tape)), (a_t_readLaw, .inl (cy 0, 3, .inl (upd (upd (upd t_readLaw 0 v1.1) 1 v5.1) 2 v9.1))), (a_t_read, .inl (cy 0, 18, .inl w13))] → va_S A s.heap H locs → lv_has ls 3 [(1, .int x10), (0, .ref a_t)] → k48 x10 w11 w12 w13 = some out → W p l e (rmG 3 76) s m [.ref a_t].toArray below meth c H locs 0 0 QQ (F0 m 132 ls []) := by
        intro x10 w11 w12 w13 H locs ls hP hD hS hl h
        rw [hk48] at h
        refine lv_aload_n hx hb dX9_rim_132 rfl (lv_at hl 1 rfl) ?_
        refine lv_aload_n hx hb dX9_rim_133 rfl (lv_at hl 1 rfl) ?_
        refine va_get (D := D) (ci := 9) (v := .int w12) (C := RX9) (T := TX9) (N := 21) hx hb hg inG_X9 hown hK hP 0 rfl rfl 4 (by decide) (hg _ q_949) (fun _ h9 => h9) rfl dX9_rim_134 ?_
        obtain ⟨k42, hk42, h⟩ := jn_e h
        have J42 : ∀ (w14 : Int32) (x15 : Int32) (H : Heap) (locs : List Loc) (ls : Array Slot), va_P D vwCl [(a_t, .inr (9, [.ref a_t_now, .ref a_t_tape, .int t_typed, .int w14, .int w12, .ref a_t_readLaw, .ref a_t_read, g_t_undone, .int t_undos, g_t_aside, g_t_coat, g_t_bestCoats, g_t_bestStand, g_t_bestPaint, g_t_kept, g_t_keptUndos, g_t_isKept, g_t_lanes, g_t_sizes, g_t_items, g_t_moved])), (a_t_now, .inl (cy 0, 24, .inl t_now)), (a_t_tape, .inl (cy 0, 60, .inl t_tape)), (a_t_readLaw, .inl (cy 0, 3, .inl (upd (upd (upd t_readLaw 0 v1.1) 1 v5.1) 2 v9.1))), (a_t_read, .inl (cy 0, 18, .inl w13))] H → va_D A [(a_t, .inr (9, [.ref a_t_now, .ref a_t_tape, .int t_typed, .int w14, .int w12, .ref a_t_readLaw, .ref a_t_read, g_t_undone, .int t_undos, g_t_aside, g_t_coat, g_t_bestCoats, g_t_bestStand, g_t_bestPaint, g_t_kept, g_t_keptUndos, g_t_isKept, g_t_lanes, g_t_sizes, g_t_items, g_t_moved])), (a_t_now, .inl (cy 0, 24, .inl t_now)), (a_t_tape, .inl (cy 0, 60, .inl t_tape)), (a_t_readLaw, .inl (cy 0, 3, .inl (upd (upd (upd t_readLaw 0 v1.1) 1 v5.1) 2 v9.1))), (a_t_read, .inl (cy 0, 18, .inl w13))] → va_S A s.heap H locs → lv_has ls 3 [(1, .int x10), (0, .ref a_t)] → k42 w14 x15 = some out → W p l e (rmG 3 76) s m [.ref a_t].toArray below meth c H locs 0 0 QQ (F0 m 152 ls [.int x15, .ref a_t]) := by
          intro w14 x15 H locs ls hP hD hS hl h
          rw [hk42] at h
          obtain ⟨hz16, h⟩ := zb_e h
          refine va_put (D := D) (ci := 9) (v := .int x15) (ty := .boolean) (C := RX9) (T := TX9) (N := 21) hx hb hg inG_X9 tyX9 tyX9_ok nmX9 hown hK hP hD hS 0 rfl rfl 4 (by decide) (hg _ q_949) (fun _ h9 => h9) rfl (tyX9_ok 4 (by decide)) (nar_z hz16) (fit_z hz16) (Nat.le_of_ble_eq_true rfl) dX9_rim_152 (fun H locs hP hD hS => ?_)
          have hP : va_P D vwCl [(a_t, .inr (9, [.ref a_t_now, .ref a_t_tape, .int t_typed, .int w14, .int x15, .ref a_t_readLaw, .ref a_t_read, g_t_undone, .int t_undos, g_t_aside, g_t_coat, g_t_bestCoats, g_t_bestStand, g_t_bestPaint, g_t_kept, g_t_keptUndos, g_t_isKept, g_t_lanes, g_t_sizes, g_t_items, g_t_moved])), (a_t_now, .inl (cy 0, 24, .inl t_now)), (a_t_tape, .inl (cy 0, 60, .inl t_tape)), (a_t_readLaw, .inl (cy 0, 3, .inl (upd (upd (upd t_readLaw 0 v1.1) 1 v5.1) 2 v9.1))), (a_t_read, .inl (cy 0, 18, .inl w13))] H := hP
          have hD : va_D A [(a_t, .inr (9, [.ref a_t_now, .ref a_t_tape, .int t_typed, .int w14, .int x15, .ref a_t_readLaw, .ref a_t_read, g_t_undone, .int t_undos, g_t_aside, g_t_coat, g_t_bestCoats, g_t_bestStand, g_t_bestPaint, g_t_kept, g_t_keptUndos, g_t_isKept, g_t_lanes, g_t_sizes, g_t_items, g_t_moved])), (a_t_now, .inl (cy 0, 24, .inl t_now)), (a_t_tape, .inl (cy 0, 60, .inl t_tape)), (a_t_readLaw, .inl (cy 0, 3, .inl (upd (upd (upd t_readLaw 0 v1.1) 1 v5.1) 2 v9.1))), (a_t_read, .inl (cy 0, 18, .inl w13))] := hD
          refine lv_aload_n hx hb dX9_rim_155 rfl (lv_at hl 1 rfl) ?_
          refine lv_iconst (v := 0) hx hb dX9_rim_156 kI_0 ?_
          refine va_put (D := D) (ci := 9) (v := .int 0) (ty := .int) (C := RX9) (T := TX9) (N := 21) hx hb hg inG_X9 tyX9 tyX9_ok nmX9 hown hK hP hD hS 0 rfl rfl 2 (by decide) (hg _ q_947) (fun _ h9 => h9) rfl (tyX9_ok 2 (by decide)) rfl rfl (Nat.le_of_ble_eq_true rfl) dX9_rim_157 (fun H locs hP hD hS => ?_)
          have hP : va_P D vwCl [(a_t, .inr (9, [.ref a_t_now, .ref a_t_tape, .int 0, .int w14, .int x15, .ref a_t_readLaw, .ref a_t_read, g_t_undone, .int t_undos, g_t_aside, g_t_coat, g_t_bestCoats, g_t_bestStand, g_t_bestPaint, g_t_kept, g_t_keptUndos, g_t_isKept, g_t_lanes, g_t_sizes, g_t_items, g_t_moved])), (a_t_now, .inl (cy 0, 24, .inl t_now)), (a_t_tape, .inl (cy 0, 60, .inl t_tape)), (a_t_readLaw, .inl (cy 0, 3, .inl (upd (upd (upd t_readLaw 0 v1.1) 1 v5.1) 2 v9.1))), (a_t_read, .inl (cy 0, 18, .inl w13))] H := hP
          have hD : va_D A [(a_t, .inr (9, [.ref a_t_now, .ref a_t_tape, .int 0, .int w14, .int x15, .ref a_t_readLaw, .ref a_t_read, g_t_undone, .int t_undos, g_t_aside, g_t_coat, g_t_bestCoats, g_t_bestStand, g_t_bestPaint, g_t_kept, g_t_keptUndos, g_t_isKept, g_t_lanes, g_t_sizes, g_t_items, g_t_moved])), (a_t_now, .inl (cy 0, 24, .inl t_now)), (a_t_tape, .inl (cy 0, 60, .inl t_tape)), (a_t_readLaw, .inl (cy 0, 3, .inl (upd (upd (upd t_readLaw 0 v1.1) 1 v5.1) 2 v9.1))), (a_t_read, .inl (cy 0, 18, .inl w13))] := hD
          refine lv_aload_n hx hb dX9_rim_160 rfl (lv_at hl 1 rfl) ?_
          refine va_get (D := D) (ci := 9) (v := .int x15) (C := RX9) (T := TX9) (N := 21) hx hb hg inG_X9 hown hK hP 0 rfl rfl 4 (by decide) (hg _ q_949) (fun _ h9 => h9) rfl dX9_rim_161 ?_
          refine lv_if_eq (tgt := 175) hx hb dX9_rim_164 (by decide) (fun c17 => ?_) (fun c17 => ?_)
          · have h := it_t c17 h
            refine lv_aload_n hx hb dX9_rim_175 rfl (lv_at hl 1 rfl) ?_
            refine va_get (D := D) (ci := 9) (v := .ref a_t_now) (C := RX9) (T := TX9) (N := 21) hx hb hg inG_X9 hown hK hP 0 rfl rfl 0 (by decide) (hg _ q_945) (fun _ h9 => h9) rfl dX9_rim_176 ?_
            refine lv_iconst (v := 0) hx hb dX9_rim_179 kI_0 ?_
            refine lv_iconst (v := 0) hx hb dX9_rim_180 kI_0 ?_
            refine iastK hx hb hK hP hD hS 1 0 rfl rfl (vp_in_inb (by decide)) kN_0 dX9_rim_181 (fun H locs hP hD hS => ?_)
            have hP : va_P D vwCl [(a_t, .inr (9, [.ref a_t_now, .ref a_t_tape, .int 0, .int w14, .int x15, .ref a_t_readLaw, .ref a_t_read, g_t_undone, .int t_undos, g_t_aside, g_t_coat, g_t_bestCoats, g_t_bestStand, g_t_bestPaint, g_t_kept, g_t_keptUndos, g_t_isKept, g_t_lanes, g_t_sizes, g_t_items, g_t_moved])), (a_t_now, .inl (cy 0, 24, .inl (upd t_now 0 0))), (a_t_tape, .inl (cy 0, 60, .inl t_tape)), (a_t_readLaw, .inl (cy 0, 3, .inl (upd (upd (upd t_readLaw 0 v1.1) 1 v5.1) 2 v9.1))), (a_t_read, .inl (cy 0, 18, .inl w13))] H := hP
            have hD : va_D A [(a_t, .inr (9, [.ref a_t_now, .ref a_t_tape, .int 0, .int w14, .int x15, .ref a_t_readLaw, .ref a_t_read, g_t_undone, .int t_undos, g_t_aside, g_t_coat, g_t_bestCoats, g_t_bestStand, g_t_bestPaint, g_t_kept, g_t_keptUndos, g_t_isKept, g_t_lanes, g_t_sizes, g_t_items, g_t_moved])), (a_t_now, .inl (cy 0, 24, .inl (upd t_now 0 0))), (a_t_tape, .inl (cy 0, 60, .inl t_tape)), (a_t_readLaw, .inl (cy 0, 3, .inl (upd (upd (upd t_readLaw 0 v1.1) 1 v5.1) 2 v9.1))), (a_t_read, .inl (cy 0, 18, .inl w13))] := hD
            refine lv_aload_n hx hb dX9_rim_182 rfl (lv_at hl 1 rfl) ?_
            refine va_get (D := D) (ci := 9) (v := .ref a_t_now) (C := RX9) (T := TX9) (N := 21) hx hb hg inG_X9 hown hK hP 0 rfl rfl 0 (by decide) (hg _ q_945) (fun _ h9 => h9) rfl dX9_rim_183 ?_
            refine lv_iconst (v := 1) hx hb dX9_rim_186 kI_1 ?_
            refine lv_iconst (v := 0) hx hb dX9_rim_187 kI_0 ?_
            refine iastK hx hb hK hP hD hS 1 0 rfl rfl (vp_in_inb (by decide)) kN_1 dX9_rim_188 (fun H locs hP hD hS => ?_)
            have hP : va_P D vwCl [(a_t, .inr (9, [.ref a_t_now, .ref a_t_tape, .int 0, .int w14, .int x15, .ref a_t_readLaw, .ref a_t_read, g_t_undone, .int t_undos, g_t_aside, g_t_coat, g_t_bestCoats, g_t_bestStand, g_t_bestPaint, g_t_kept, g_t_keptUndos, g_t_isKept, g_t_lanes, g_t_sizes, g_t_items, g_t_moved])), (a_t_now, .inl (cy 0, 24, .inl (upd (upd t_now 0 0) 1 0))), (a_t_tape, .inl (cy 0, 60, .inl t_tape)), (a_t_readLaw, .inl (cy 0, 3, .inl (upd (upd (upd t_readLaw 0 v1.1) 1 v5.1) 2 v9.1))), (a_t_read, .inl (cy 0, 18, .inl w13))] H := hP
            have hD : va_D A [(a_t, .inr (9, [.ref a_t_now, .ref a_t_tape, .int 0, .int w14, .int x15, .ref a_t_readLaw, .ref a_t_read, g_t_undone, .int t_undos, g_t_aside, g_t_coat, g_t_bestCoats, g_t_bestStand, g_t_bestPaint, g_t_kept, g_t_keptUndos, g_t_isKept, g_t_lanes, g_t_sizes, g_t_items, g_t_moved])), (a_t_now, .inl (cy 0, 24, .inl (upd (upd t_now 0 0) 1 0))), (a_t_tape, .inl (cy 0, 60, .inl t_tape)), (a_t_readLaw, .inl (cy 0, 3, .inl (upd (upd (upd t_readLaw 0 v1.1) 1 v5.1) 2 v9.1))), (a_t_read, .inl (cy 0, 18, .inl w13))] := hD
            refine lv_aload_n hx hb dX9_rim_189 rfl (lv_at hl 1 rfl) ?_
            refine lv_iconst (v := 0) hx hb dX9_rim_190 kI_0 ?_
            refine va_put (D := D) (ci := 9) (v := .int 0) (ty := .int) (C := RX9) (T := TX9) (N := 21) hx hb hg inG_X9 tyX9 tyX9_ok nmX9 hown hK hP hD hS 0 rfl rfl 8 (by decide) (hg _ q_953) (fun _ h9 => h9) rfl (tyX9_ok 8 (by decide)) rfl rfl (Nat.le_of_ble_eq_true rfl) dX9_rim_191 (fun H locs hP hD hS => ?_)
            have hP : va_P D vwCl [(a_t, .inr (9, [.ref a_t_now, .ref a_t_tape, .int 0, .int w14, .int x15, .ref a_t_readLaw, .ref a_t_read, g_t_undone, .int 0, g_t_aside, g_t_coat, g_t_bestCoats, g_t_bestStand, g_t_bestPaint, g_t_kept, g_t_keptUndos, g_t_isKept, g_t_lanes, g_t_sizes, g_t_items, g_t_moved])), (a_t_now, .inl (cy 0, 24, .inl (upd (upd t_now 0 0) 1 0))), (a_t_tape, .inl (cy 0, 60, .inl t_tape)), (a_t_readLaw, .inl (cy 0, 3, .inl (upd (upd (upd t_readLaw 0 v1.1) 1 v5.1) 2 v9.1))), (a_t_read, .inl (cy 0, 18, .inl w13))] H := hP
            have hD : va_D A [(a_t, .inr (9, [.ref a_t_now, .ref a_t_tape, .int 0, .int w14, .int x15, .ref a_t_readLaw, .ref a_t_read, g_t_undone, .int 0, g_t_aside, g_t_coat, g_t_bestCoats, g_t_bestStand, g_t_bestPaint, g_t_kept, g_t_keptUndos, g_t_isKept, g_t_lanes, g_t_sizes, g_t_items, g_t_moved])), (a_t_now, .inl (cy 0, 24, .inl (upd (upd t_now 0 0) 1 0))), (a_t_tape, .inl (cy 0, 60, .inl t_tape)), (a_t_readLaw, .inl (cy 0, 3, .inl (upd (upd (upd t_readLaw 0 v1.1) 1 v5.1) 2 v9.1))), (a_t_read, .inl (cy 0, 18, .inl w13))] := hD
            refine lv_iconst (v := 0) hx hb dX9_rim_194 kI_0 ?_
            refine lv_istore_n (lv' := [(2, .int 0), (1, .int x10), (0, .ref a_t)]) hx hb dX9_rim_195 rfl hl (by decide) rfl (fun ls hl => ?_)
            obtain ⟨k35, hk35, h⟩ := kap (fun z => m_X9_rim_L196 t_readLaw v1 v5 v9 z F 0 (upd (upd t_now 0 0) 1 0)) h
            have J35 : ∀ (w20 : Nat → Int32) (H : Heap) (locs : List Loc) (ls : Array Slot), va_P D vwCl [(a_t, .inr (9, [.ref a_t_now, .ref a_t_tape, .int 0, .int w14, .int x15, .ref a_t_readLaw, .ref a_t_read, g_t_undone, .int 0, g_t_aside, g_t_coat, g_t_bestCoats, g_t_bestStand, g_t_bestPaint, g_t_kept, g_t_keptUndos, g_t_isKept, g_t_lanes, g_t_sizes, g_t_items, g_t_moved])), (a_t_now, .inl (cy 0, 24, .inl w20)), (a_t_tape, .inl (cy 0, 60, .inl t_tape)), (a_t_readLaw, .inl (cy 0, 3, .inl (upd (upd (upd t_readLaw 0 v1.1) 1 v5.1) 2 v9.1))), (a_t_read, .inl (cy 0, 18, .inl w13))] H → va_D A [(a_t, .inr (9, [.ref a_t_now, .ref a_t_tape, .int 0, .int w14, .int x15, .ref a_t_readLaw, .ref a_t_read, g_t_undone, .int 0, g_t_aside, g_t_coat, g_t_bestCoats, g_t_bestStand, g_t_bestPaint, g_t_kept, g_t_keptUndos, g_t_isKept, g_t_lanes, g_t_sizes, g_t_items, g_t_moved])), (a_t_now, .inl (cy 0, 24, .inl w20)), (a_t_tape, .inl (cy 0, 60, .inl t_tape)), (a_t_readLaw, .inl (cy 0, 3, .inl (upd (upd (upd t_readLaw 0 v1.1) 1 v5.1) 2 v9.1))), (a_t_read, .inl (cy 0, 18, .inl w13))] → va_S A s.heap H locs → lv_has ls 3 [(1, .int x10), (0, .ref a_t)] → k35 w20 = some out → W p l e (rmG 3 76) s m [.ref a_t].toArray below meth c H locs 0 0 QQ (F0 m 221 ls []) := by
              intro w20 H locs ls hP hD hS hl h
              rw [hk35] at h
              refine lv_iconst (v := 0) hx hb dX9_rim_221 kI_0 ?_
              refine lv_istore_n (lv' := [(2, .int 0), (1, .int x10), (0, .ref a_t)]) hx hb dX9_rim_222 rfl hl (by decide) rfl (fun ls hl => ?_)
              obtain ⟨k26, hk26, h⟩ := kap (fun z => m_X9_rim_L223 x10 w13 z F 0 w20 0) h
              have J26 : ∀ (w24 : Nat → Int32) (w25 : Int32) (H : Heap) (locs : List Loc) (ls : Array Slot), va_P D vwCl [(a_t, .inr (9, [.ref a_t_now, .ref a_t_tape, .int 0, .int w14, .int x15, .ref a_t_readLaw, .ref a_t_read, g_t_undone, .int w25, g_t_aside, g_t_coat, g_t_bestCoats, g_t_bestStand, g_t_bestPaint, g_t_kept, g_t_keptUndos, g_t_isKept, g_t_lanes, g_t_sizes, g_t_items, g_t_moved])), (a_t_now, .inl (cy 0, 24, .inl w24)), (a_t_tape, .inl (cy 0, 60, .inl t_tape)), (a_t_readLaw, .inl (cy 0, 3, .inl (upd (upd (upd t_readLaw 0 v1.1) 1 v5.1) 2 v9.1))), (a_t_read, .inl (cy 0, 18, .inl w13))] H → va_D A [(a_t, .inr (9, [.ref a_t_now, .ref a_t_tape, .int 0, .int w14, .int x15, .ref a_t_readLaw, .ref a_t_read, g_t_undone, .int w25, g_t_aside, g_t_coat, g_t_bestCoats, g_t_bestStand, g_t_bestPaint, g_t_kept, g_t_keptUndos, g_t_isKept, g_t_lanes, g_t_sizes, g_t_items, g_t_moved])), (a_t_now, .inl (cy 0, 24, .inl w24)), (a_t_tape, .inl (cy 0, 60, .inl t_tape)), (a_t_readLaw, .inl (cy 0, 3, .inl (upd (upd (upd t_readLaw 0 v1.1) 1 v5.1) 2 v9.1))), (a_t_read, .inl (cy 0, 18, .inl w13))] → va_S A s.heap H locs → lv_has ls 3 [(1, .int x10)] → k26 w24 w25 = some out → W p l e (rmG 3 76) s m [.ref a_t].toArray below meth c H locs 0 0 QQ (F0 m 266 ls []) := by
                intro w24 w25 H locs ls hP hD hS hl h
                rw [hk26] at h
                refine lv_iload_n hx hb dX9_rim_266 rfl (lv_at hl 0 rfl) ?_
                exact hret _ _ _ _ ls 267 dX9_rim_267 rfl (by rw [← Option.some.inj h]) (by rw [← Option.some.inj h]) hP hD hS
              have L27 : ∀ (n27 : Nat) (x21 : Int32) (w22 : Nat → Int32) (w23 : Int32) (H : Heap) (locs : List Loc) (ls : Array Slot), va_P D vwCl [(a_t, .inr (9, [.ref a_t_now, .ref a_t_tape, .int 0, .int w14, .int x15, .ref a_t_readLaw, .ref a_t_read, g_t_undone, .int w23, g_t_aside, g_t_coat, g_t_bestCoats, g_t_bestStand, g_t_bestPaint, g_t_kept, g_t_keptUndos, g_t_isKept, g_t_lanes, g_t_sizes, g_t_items, g_t_moved])), (a_t_now, .inl (cy 0, 24, .inl w22)), (a_t_tape, .inl (cy 0, 60, .inl t_tape)), (a_t_readLaw, .inl (cy 0, 3, .inl (upd (upd (upd t_readLaw 0 v1.1) 1 v5.1) 2 v9.1))), (a_t_read, .inl (cy 0, 18, .inl w13))] H → va_D A [(a_t, .inr (9, [.ref a_t_now, .ref a_t_tape, .int 0, .int w14, .int x15, .ref a_t_readLaw, .ref a_t_read, g_t_undone, .int w23, g_t_aside, g_t_coat, g_t_bestCoats, g_t_bestStand, g_t_bestPaint, g_t_kept, g_t_keptUndos, g_t_isKept, g_t_lanes, g_t_sizes, g_t_items, g_t_moved])), (a_t_now, .inl (cy 0, 24, .inl w22)), (a_t_tape, .inl (cy 0, 60, .inl t_tape)), (a_t_readLaw, .inl (cy 0, 3, .inl (upd (upd (upd t_readLaw 0 v1.1) 1 v5.1) 2 v9.1))), (a_t_read, .inl (cy 0, 18, .inl w13))] → va_S A s.heap H locs → lv_has ls 3 [(2, .int x21), (1, .int x10), (0, .ref a_t)] → m_X9_rim_L223 x10 w13 k26 n27 x21 w22 w23 = some out → W p l e (rmG 3 76) s m [.ref a_t].toArray below meth c H locs 0 0 QQ (F0 m 223 ls []) := by
                intro n27
                induction n27 with
                | zero => intro x21 w22 w23 H locs ls hP hD hS hl h; exact nomatch (show (none : Option (Int32 × (Nat → Int32) × Int32 × Int32 × Int32 × (Nat → Int32) × (Nat → Int32) × Int32)) = some out from h)
                | succ n27 ih =>
                    intro x21 w22 w23 H locs ls hP hD hS hl h
                    have h : m_X9_rim_L223s x10 w13 k26 (m_X9_rim_L223 x10 w13 k26 n27) x21 w22 w23 = some out := h
                    unfold m_X9_rim_L223s at h
                    refine lv_iload_n hx hb dX9_rim_223 rfl (lv_at hl 0 rfl) ?_
                    refine lv_iload_n hx hb dX9_rim_224 rfl (lv_at hl 1 rfl) ?_
                    refine lv_icmp_ge (tgt := 266) hx hb dX9_rim_225 (by decide) (fun c29 => ?_) (fun c29 => ?_)
                    · have h := it_t c29 h
                      exact J26 w22 w23 _ _ _ hP hD hS (lv_sub hl [1] rfl) h
                    · have h := it_f c29 h
                      refine lv_aload_n hx hb dX9_rim_228 rfl (lv_at hl 2 rfl) ?_
                      refine lv_aload_n hx hb dX9_rim_229 rfl (lv_at hl 2 rfl) ?_
                      refine va_get (D := D) (ci := 9) (v := .ref a_t_read) (C := RX9) (T := TX9) (N := 21) hx hb hg inG_X9 hown hK hP 0 rfl rfl 6 (by decide) (hg _ q_951) (fun _ h9 => h9) rfl dX9_rim_230 ?_
                      refine lv_iconst (v := 3) hx hb dX9_rim_233 kI_3 ?_
                      refine lv_iload_n hx hb dX9_rim_234 rfl (lv_at hl 0 rfl) ?_
                      refine lv_imul hx hb dX9_rim_235 ?_
                      obtain ⟨hi30, h⟩ := chk_e h
                      refine va_iald hx hb hK hP 4 0 rfl rfl hi30 dX9_rim_236 ?_
                      refine lv_aload_n hx hb dX9_rim_237 rfl (lv_at hl 2 rfl) ?_
                      refine va_get (D := D) (ci := 9) (v := .ref a_t_read) (C := RX9) (T := TX9) (N := 21) hx hb hg inG_X9 hown hK hP 0 rfl rfl 6 (by decide) (hg _ q_951) (fun _ h9 => h9) rfl dX9_rim_238 ?_
                      refine lv_iconst (v := 3) hx hb dX9_rim_241 kI_3 ?_
                      refine lv_iload_n hx hb dX9_rim_242 rfl (lv_at hl 0 rfl) ?_
                      refine lv_imul hx hb dX9_rim_243 ?_
                      refine lv_iconst (v := 1) hx hb dX9_rim_244 kI_1 ?_
                      refine lv_iadd hx hb dX9_rim_245 ?_
                      obtain ⟨hi31, h⟩ := chk_e h
                      refine va_iald hx hb hK hP 4 0 rfl rfl hi31 dX9_rim_246 ?_
                      refine lv_aload_n hx hb dX9_rim_247 rfl (lv_at hl 2 rfl) ?_
                      refine va_get (D := D) (ci := 9) (v := .ref a_t_read) (C := RX9) (T := TX9) (N := 21) hx hb hg inG_X9 hown hK hP 0 rfl rfl 6 (by decide) (hg _ q_951) (fun _ h9 => h9) rfl dX9_rim_248 ?_
                      refine lv_iconst (v := 3) hx hb dX9_rim_251 kI_3 ?_
                      refine lv_iload_n hx hb dX9_rim_252 rfl (lv_at hl 0 rfl) ?_
                      refine lv_imul hx hb dX9_rim_253 ?_
                      refine lv_iconst (v := 2) hx hb dX9_rim_254 kI_2 ?_
                      refine lv_iadd hx hb dX9_rim_255 ?_
                      obtain ⟨hi32, h⟩ := chk_e h
                      refine va_iald hx hb hK hP 4 0 rfl rfl hi32 dX9_rim_256 ?_
                      obtain ⟨v33, hv33, h⟩ := bind_e h
                      refine callMV (As := [.int (w13 (3 * x21).toNatClampNeg), .int (w13 ((3 * x21) + 1).toNatClampNeg), .int (w13 ((3 * x21) + 2).toNatClampNeg)]) (rest := []) (wr := [(a_t_tape, .inl (cy 0, 60, .inl t_tape)), (a_t_readLaw, .inl (cy 0, 3, .inl (upd (upd (upd t_readLaw 0 v1.1) 1 v5.1) 2 v9.1))), (a_t_read, .inl (cy 0, 18, .inl w13))]) (w2 := [(a_t, .inr (9, [.ref a_t_now, .ref a_t_tape, .int 0, .int w14, .int x15, .ref a_t_readLaw, .ref a_t_read, g_t_undone, .int v33.2, g_t_aside, g_t_coat, g_t_bestCoats, g_t_bestStand, g_t_bestPaint, g_t_kept, g_t_keptUndos, g_t_isKept, g_t_lanes, g_t_sizes, g_t_items, g_t_moved])), (a_t_now, .inl (cy 0, 24, .inl v33.1)), (a_t_tape, .inl (cy 0, 60, .inl t_tape)), (a_t_readLaw, .inl (cy 0, 3, .inl (upd (upd (upd t_readLaw 0 v1.1) 1 v5.1) 2 v9.1))), (a_t_read, .inl (cy 0, 18, .inl w13))]) hx hb hml hown hg (c_X9_manComes l D cy a_t a_t_now _ (.ref a_t_tape) (.int 0) (.int w14) (.int x15) (.ref a_t_readLaw) (.ref a_t_read) (g_t_undone) (g_t_aside) (g_t_coat) (g_t_bestCoats) (g_t_bestStand) (g_t_bestPaint) (g_t_kept) (g_t_keptUndos) (g_t_isKept) (g_t_lanes) (g_t_sizes) (g_t_items) (g_t_moved) w22 w23 (w13 (3 * x21).toNatClampNeg) (w13 ((3 * x21) + 1).toNatClampNeg) (w13 ((3 * x21) + 2).toNatClampNeg) v33 hv33) q_1037 q_1034 q_63 q_1036 q_27 hd_X9_manComes ⟨(Nat.le_of_ble_eq_true rfl), (Nat.le_of_ble_eq_true rfl)⟩ hK hP hD hS hA [0, 1] [2, 3, 4] rfl rfl rfl rfl (by decide) [3, 4, 0, 1, 2] rfl rfl 0 9 rfl rfl rfl rfl rfl rfl hl.1 rfl rfl (Nat.le_of_ble_eq_true rfl) dX9_rim_257 (fun H locs hP hD hS => ?_)
                      obtain ⟨x34, ex34⟩ : ∃ y : Int32, y = x21 + 1 := ⟨_, rfl⟩
                      have h := bnd_e ex34 h
                      refine lv_iinc (v := x34) (lv' := [(2, .int x34), (1, .int x10), (0, .ref a_t)]) hx hb dX9_rim_260 hl (k := 0) rfl (inc_e kI_1 ex34) (by decide) rfl (fun ls hl => ?_)
                      refine lv_goto (tgt := 223) hx hb dX9_rim_263 (by decide) ?_
                      exact ih x34 v33.1 v33.2 _ _ _ hP hD hS (lv_sub hl [0, 1, 2] rfl) h
              exact L27 F 0 w20 0 _ _ _ hP hD hS (lv_sub hl [0, 1, 2] rfl) h
            have L36 : ∀ (n36 : Nat) (x18 : Int32) (w19 : Nat → Int32) (H : Heap) (locs : List Loc) (ls : Array Slot), va_P D vwCl [(a_t, .inr (9, [.ref a_t_now, .ref a_t_tape, .int 0, .int w14, .int x15, .ref a_t_readLaw, .ref a_t_read, g_t_undone, .int 0, g_t_aside, g_t_coat, g_t_bestCoats, g_t_bestStand, g_t_bestPaint, g_t_kept, g_t_keptUndos, g_t_isKept, g_t_lanes, g_t_sizes, g_t_items, g_t_moved])), (a_t_now, .inl (cy 0, 24, .inl w19)), (a_t_tape, .inl (cy 0, 60, .inl t_tape)), (a_t_readLaw, .inl (cy 0, 3, .inl (upd (upd (upd t_readLaw 0 v1.1) 1 v5.1) 2 v9.1))), (a_t_read, .inl (cy 0, 18, .inl w13))] H → va_D A [(a_t, .inr (9, [.ref a_t_now, .ref a_t_tape, .int 0, .int w14, .int x15, .ref a_t_readLaw, .ref a_t_read, g_t_undone, .int 0, g_t_aside, g_t_coat, g_t_bestCoats, g_t_bestStand, g_t_bestPaint, g_t_kept, g_t_keptUndos, g_t_isKept, g_t_lanes, g_t_sizes, g_t_items, g_t_moved])), (a_t_now, .inl (cy 0, 24, .inl w19)), (a_t_tape, .inl (cy 0, 60, .inl t_tape)), (a_t_readLaw, .inl (cy 0, 3, .inl (upd (upd (upd t_readLaw 0 v1.1) 1 v5.1) 2 v9.1))), (a_t_read, .inl (cy 0, 18, .inl w13))] → va_S A s.heap H locs → lv_has ls 3 [(2, .int x18), (1, .int x10), (0, .ref a_t)] → m_X9_rim_L196 t_readLaw v1 v5 v9 k35 n36 x18 w19 = some out → W p l e (rmG 3 76) s m [.ref a_t].toArray below meth c H locs 0 0 QQ (F0 m 196 ls []) := by
              intro n36
              induction n36 with
              | zero => intro x18 w19 H locs ls hP hD hS hl h; exact nomatch (show (none : Option (Int32 × (Nat → Int32) × Int32 × Int32 × Int32 × (Nat → Int32) × (Nat → Int32) × Int32)) = some out from h)
              | succ n36 ih =>
                  intro x18 w19 H locs ls hP hD hS hl h
                  have h : m_X9_rim_L196s t_readLaw v1 v5 v9 k35 (m_X9_rim_L196 t_readLaw v1 v5 v9 k35 n36) x18 w19 = some out := h
                  unfold m_X9_rim_L196s at h
                  refine lv_iload_n hx hb dX9_rim_196 rfl (lv_at hl 0 rfl) ?_
                  refine lv_iconst (v := 3) hx hb dX9_rim_197 kI_3 ?_
                  refine lv_icmp_ge (tgt := 221) hx hb dX9_rim_198 (by decide) (fun c38 => ?_) (fun c38 => ?_)
                  · have h := it_t c38 h
                    exact J35 w19 _ _ _ hP hD hS (lv_sub hl [1, 2] rfl) h
                  · have h := it_f c38 h
                    refine lv_aload_n hx hb dX9_rim_201 rfl (lv_at hl 2 rfl) ?_
                    refine va_get (D := D) (ci := 9) (v := .ref a_t_now) (C := RX9) (T := TX9) (N := 21) hx hb hg inG_X9 hown hK hP 0 rfl rfl 0 (by decide) (hg _ q_945) (fun _ h9 => h9) rfl dX9_rim_202 ?_
                    refine lv_iconst (v := 2) hx hb dX9_rim_205 kI_2 ?_
                    refine lv_iload_n hx hb dX9_rim_206 rfl (lv_at hl 0 rfl) ?_
                    refine lv_iadd hx hb dX9_rim_207 ?_
                    refine lv_aload_n hx hb dX9_rim_208 rfl (lv_at hl 2 rfl) ?_
                    refine va_get (D := D) (ci := 9) (v := .ref a_t_readLaw) (C := RX9) (T := TX9) (N := 21) hx hb hg inG_X9 hown hK hP 0 rfl rfl 5 (by decide) (hg _ q_950) (fun _ h9 => h9) rfl dX9_rim_209 ?_
                    refine lv_iload_n hx hb dX9_rim_212 rfl (lv_at hl 0 rfl) ?_
                    obtain ⟨hi39, h⟩ := chk_e h
                    refine va_iald hx hb hK hP 3 0 rfl rfl hi39 dX9_rim_213 ?_
                    obtain ⟨hi40, h⟩ := chk_e h
                    refine va_iast hx hb hK hP hD hS 1 0 rfl rfl hi40 dX9_rim_214 (fun H locs hP hD hS => ?_)
                    have hP : va_P D vwCl [(a_t, .inr (9, [.ref a_t_now, .ref a_t_tape, .int 0, .int w14, .int x15, .ref a_t_readLaw, .ref a_t_read, g_t_undone, .int 0, g_t_aside, g_t_coat, g_t_bestCoats, g_t_bestStand, g_t_bestPaint, g_t_kept, g_t_keptUndos, g_t_isKept, g_t_lanes, g_t_sizes, g_t_items, g_t_moved])), (a_t_now, .inl (cy 0, 24, .inl (upd w19 (2 + x18).toNatClampNeg ((upd (upd (upd t_readLaw 0 v1.1) 1 v5.1) 2 v9.1) x18.toNatClampNeg)))), (a_t_tape, .inl (cy 0, 60, .inl t_tape)), (a_t_readLaw, .inl (cy 0, 3, .inl (upd (upd (upd t_readLaw 0 v1.1) 1 v5.1) 2 v9.1))), (a_t_read, .inl (cy 0, 18, .inl w13))] H := hP
                    have hD : va_D A [(a_t, .inr (9, [.ref a_t_now, .ref a_t_tape, .int 0, .int w14, .int x15, .ref a_t_readLaw, .ref a_t_read, g_t_undone, .int 0, g_t_aside, g_t_coat, g_t_bestCoats, g_t_bestStand, g_t_bestPaint, g_t_kept, g_t_keptUndos, g_t_isKept, g_t_lanes, g_t_sizes, g_t_items, g_t_moved])), (a_t_now, .inl (cy 0, 24, .inl (upd w19 (2 + x18).toNatClampNeg ((upd (upd (upd t_readLaw 0 v1.1) 1 v5.1) 2 v9.1) x18.toNatClampNeg)))), (a_t_tape, .inl (cy 0, 60, .inl t_tape)), (a_t_readLaw, .inl (cy 0, 3, .inl (upd (upd (upd t_readLaw 0 v1.1) 1 v5.1) 2 v9.1))), (a_t_read, .inl (cy 0, 18, .inl w13))] := hD
                    obtain ⟨x41, ex41⟩ : ∃ y : Int32, y = x18 + 1 := ⟨_, rfl⟩
                    have h := bnd_e ex41 h
                    refine lv_iinc (v := x41) (lv' := [(2, .int x41), (1, .int x10), (0, .ref a_t)]) hx hb dX9_rim_215 hl (k := 0) rfl (inc_e kI_1 ex41) (by decide) rfl (fun ls hl => ?_)
                    refine lv_goto (tgt := 196) hx hb dX9_rim_218 (by decide) ?_
                    exact ih x41 (upd w19 (2 + x18).toNatClampNeg ((upd (upd (upd t_readLaw 0 v1.1) 1 v5.1) 2 v9.1) x18.toNatClampNeg)) _ _ _ hP hD hS (lv_sub hl [0, 1, 2] rfl) h
            exact L36 F 0 (upd (upd t_now 0 0) 1 0) _ _ _ hP hD hS (lv_sub hl [0, 1, 2] rfl) h
          · have h := it_f c17 h
            refine lv_bipush (v := (-20)) hx hb dX9_rim_167 kB_m20 ?_
            refine lv_aload_n hx hb dX9_rim_169 rfl (lv_at hl 1 rfl) ?_
            refine va_get (D := D) (ci := 9) (v := .int w14) (C := RX9) (T := TX9) (N := 21) hx hb hg inG_X9 hown hK hP 0 rfl rfl 3 (by decide) (hg _ q_948) (fun _ h9 => h9) rfl dX9_rim_170 ?_
            refine lv_isub hx hb dX9_rim_173 ?_
            exact hret _ _ _ _ ls 174 dX9_rim_174 rfl (by rw [← Option.some.inj h]) (by rw [← Option.some.inj h]) hP hD hS
        obtain ⟨k44, hk44, h⟩ := jn_e h
        have J44 : ∀ (w43 : Int32) (H : Heap) (locs : List Loc) (ls : Array Slot), va_P D vwCl [(a_t, .inr (9, [.ref a_t_now, .ref a_t_tape, .int t_typed, .int w43, .int w12, .ref a_t_readLaw, .ref a_t_read, g_t_undone, .int t_undos, g_t_aside, g_t_coat, g_t_bestCoats, g_t_bestStand, g_t_bestPaint, g_t_kept, g_t_keptUndos, g_t_isKept, g_t_lanes, g_t_sizes, g_t_items, g_t_moved])), (a_t_now, .inl (cy 0, 24, .inl t_now)), (a_t_tape, .inl (cy 0, 60, .inl t_tape)), (a_t_readLaw, .inl (cy 0, 3, .inl (upd (upd (upd t_readLaw 0 v1.1) 1 v5.1) 2 v9.1))), (a_t_read, .inl (cy 0, 18, .inl w13))] H → va_D A [(a_t, .inr (9, [.ref a_t_now, .ref a_t_tape, .int t_typed, .int w43, .int w12, .ref a_t_readLaw, .ref a_t_read, g_t_undone, .int t_undos, g_t_aside, g_t_coat, g_t_bestCoats, g_t_bestStand, g_t_bestPaint, g_t_kept, g_t_keptUndos, g_t_isKept, g_t_lanes, g_t_sizes, g_t_items, g_t_moved])), (a_t_now, .inl (cy 0, 24, .inl t_now)), (a_t_tape, .inl (cy 0, 60, .inl t_tape)), (a_t_readLaw, .inl (cy 0, 3, .inl (upd (upd (upd t_readLaw 0 v1.1) 1 v5.1) 2 v9.1))), (a_t_read, .inl (cy 0, 18, .inl w13))] → va_S A s.heap H locs → lv_has ls 3 [(1, .int x10), (0, .ref a_t)] → k44 w43 = some out → W p l e (rmG 3 76) s m [.ref a_t].toArray below meth c H locs 0 0 QQ (F0 m 147 ls [.ref a_t]) := by
          intro w43 H locs ls hP hD hS hl h
          rw [hk44] at h
          refine lv_iconst (v := 1) hx hb dX9_rim_147 kI_1 ?_
          refine lv_goto (tgt := 152) hx hb dX9_rim_148 (by decide) ?_
          exact J42 w43 1 _ _ _ hP hD hS (lv_sub hl [0, 1] rfl) h
        refine lv_if_ne (tgt := 147) hx hb dX9_rim_137 (by decide) (fun c45 => ?_) (fun c45 => ?_)
        · have h := it_f c45 h
          exact J44 w11 _ _ _ hP hD hS (lv_sub hl [0, 1] rfl) h
        · have h := it_t c45 h
          refine lv_aload_n hx hb dX9_rim_140 rfl (lv_at hl 1 rfl) ?_
          obtain ⟨v46, hv46, h⟩ := bind_e h
          refine callMV (As := []) (rest := [.ref a_t]) (wr := [(a_t_now, .inl (cy 0, 24, .inl t_now)), (a_t_readLaw, .inl (cy 0, 3, .inl (upd (upd (upd t_readLaw 0 v1.1) 1 v5.1) 2 v9.1))), (a_t_read, .inl (cy 0, 18, .inl w13))]) (w2 := [(a_t, .inr (9, [.ref a_t_now, .ref a_t_tape, .int t_typed, .int v46.2, .int w12, .ref a_t_readLaw, .ref a_t_read, g_t_undone, .int t_undos, g_t_aside, g_t_coat, g_t_bestCoats, g_t_bestStand, g_t_bestPaint, g_t_kept, g_t_keptUndos, g_t_isKept, g_t_lanes, g_t_sizes, g_t_items, g_t_moved])), (a_t_now, .inl (cy 0, 24, .inl t_now)), (a_t_tape, .inl (cy 0, 60, .inl t_tape)), (a_t_readLaw, .inl (cy 0, 3, .inl (upd (upd (upd t_readLaw 0 v1.1) 1 v5.1) 2 v9.1))), (a_t_read, .inl (cy 0, 18, .inl w13))]) hx hb hml hown hg (c_X9_here l D cy a_t a_t_tape _ (.ref a_t_now) (.int w12) (.ref a_t_readLaw) (.ref a_t_read) (g_t_undone) (.int t_undos) (g_t_aside) (g_t_coat) (g_t_bestCoats) (g_t_bestStand) (g_t_bestPaint) (g_t_kept) (g_t_keptUndos) (g_t_isKept) (g_t_lanes) (g_t_sizes) (g_t_items) (g_t_moved) t_tape t_typed w11 F v46 hv46) q_1125 q_1122 q_63 q_1124 q_38 hd_X9_here ⟨(Nat.le_of_ble_eq_true rfl), (Nat.le_of_ble_eq_true rfl)⟩ hK hP hD hS hA [0, 2] [1, 3, 4] rfl rfl rfl rfl (by decide) [3, 0, 4, 1, 2] rfl rfl 0 9 rfl rfl rfl rfl rfl rfl hl.1 rfl rfl (Nat.le_of_ble_eq_true rfl) dX9_rim_141 (fun H locs hP hD hS => ?_)
          refine lv_if_eq (tgt := 151) hx hb dX9_rim_144 (by decide) (fun c47 => ?_) (fun c47 => ?_)
          · have h := it_t c47 h
            refine lv_iconst (v := 0) hx hb dX9_rim_151 kI_0 ?_
            exact J42 v46.2 0 _ _ _ hP hD hS (lv_sub hl [0, 1] rfl) h
          · have h := it_f c47 h
            exact J44 v46.2 _ _ _ hP hD hS (lv_sub hl [0, 1] rfl) h
      refine lv_if_ne (tgt := 132) hx hb dX9_rim_105 (by decide) (fun c49 => ?_) (fun c49 => ?_)
      · have h := it_f c49 h
        exact J48 0 v9.2.1 v9.2.2 t_read _ _ _ hP hD hS (lv_sub hl [0, 1] rfl) h
      · have h := it_t c49 h
        refine lv_aload_n hx hb dX9_rim_108 rfl (lv_at hl 1 rfl) ?_
        obtain ⟨v50, hv50, h⟩ := bind_e h
        refine callMV (As := []) (rest := []) (wr := [(a_t_now, .inl (cy 0, 24, .inl t_now)), (a_t_readLaw, .inl (cy 0, 3, .inl (upd (upd (upd t_readLaw 0 v1.1) 1 v5.1) 2 v9.1))), (a_t_read, .inl (cy 0, 18, .inl t_read))]) (w2 := [(a_t, .inr (9, [.ref a_t_now, .ref a_t_tape, .int t_typed, .int v50.2, .int v9.2.2, .ref a_t_readLaw, .ref a_t_read, g_t_undone, .int t_undos, g_t_aside, g_t_coat, g_t_bestCoats, g_t_bestStand, g_t_bestPaint, g_t_kept, g_t_keptUndos, g_t_isKept, g_t_lanes, g_t_sizes, g_t_items, g_t_moved])), (a_t_now, .inl (cy 0, 24, .inl t_now)), (a_t_tape, .inl (cy 0, 60, .inl t_tape)), (a_t_readLaw, .inl (cy 0, 3, .inl (upd (upd (upd t_readLaw 0 v1.1) 1 v5.1) 2 v9.1))), (a_t_read, .inl (cy 0, 18, .inl t_read))]) hx hb hml hown hg (c_X9_here l D cy a_t a_t_tape _ (.ref a_t_now) (.int v9.2.2) (.ref a_t_readLaw) (.ref a_t_read) (g_t_undone) (.int t_undos) (g_t_aside) (g_t_coat) (g_t_bestCoats) (g_t_bestStand) (g_t_bestPaint) (g_t_kept) (g_t_keptUndos) (g_t_isKept) (g_t_lanes) (g_t_sizes) (g_t_items) (g_t_moved) t_tape t_typed v9.2.1 F v50 hv50) q_1125 q_1122 q_63 q_1124 q_38 hd_X9_here ⟨(Nat.le_of_ble_eq_true rfl), (Nat.le_of_ble_eq_true rfl)⟩ hK hP hD hS hA [0, 2] [1, 3, 4] rfl rfl rfl rfl (by decide) [3, 0, 4, 1, 2] rfl rfl 0 9 rfl rfl rfl rfl rfl rfl hl.1 rfl rfl (Nat.le_of_ble_eq_true rfl) dX9_rim_109 (fun H locs hP hD hS => ?_)
        refine lv_bipush (v := 59) hx hb dX9_rim_112 kB_59 ?_
        refine lv_icmp_ne (tgt := 132) hx hb dX9_rim_114 (by decide) (fun c51 => ?_) (fun c51 => ?_)
        · have h := it_f c51 h
          exact J48 0 v50.2 v9.2.2 t_read _ _ _ hP hD hS (lv_sub hl [0, 1] rfl) h
        · have h := it_t c51 h
          refine lv_aload_n hx hb dX9_rim_117 rfl (lv_at hl 1 rfl) ?_
          refine lv_dup hx hb dX9_rim_118 rfl ?_
          refine va_get (D := D) (ci := 9) (v := .int v50.2) (C := RX9) (T := TX9) (N := 21) hx hb hg inG_X9 hown hK hP 0 rfl rfl 3 (by decide) (hg _ q_948) (fun _ h9 => h9) rfl dX9_rim_119 ?_
          refine lv_iconst (v := 1) hx hb dX9_rim_122 kI_1 ?_
          refine lv_iadd hx hb dX9_rim_123 ?_
          refine va_put (D := D) (ci := 9) (v := .int (v50.2 + 1)) (ty := .int) (C := RX9) (T := TX9) (N := 21) hx hb hg inG_X9 tyX9 tyX9_ok nmX9 hown hK hP hD hS 0 rfl rfl 3 (by decide) (hg _ q_948) (fun _ h9 => h9) rfl (tyX9_ok 3 (by decide)) rfl rfl (Nat.le_of_ble_eq_true rfl) dX9_rim_124 (fun H locs hP hD hS => ?_)
          have hP : va_P D vwCl [(a_t, .inr (9, [.ref a_t_now, .ref a_t_tape, .int t_typed, .int (v50.2 + 1), .int v9.2.2, .ref a_t_readLaw, .ref a_t_read, g_t_undone, .int t_undos, g_t_aside, g_t_coat, g_t_bestCoats, g_t_bestStand, g_t_bestPaint, g_t_kept, g_t_keptUndos, g_t_isKept, g_t_lanes, g_t_sizes, g_t_items, g_t_moved])), (a_t_now, .inl (cy 0, 24, .inl t_now)), (a_t_tape, .inl (cy 0, 60, .inl t_tape)), (a_t_readLaw, .inl (cy 0, 3, .inl (upd (upd (upd t_readLaw 0 v1.1) 1 v5.1) 2 v9.1))), (a_t_read, .inl (cy 0, 18, .inl t_read))] H := hP
          have hD : va_D A [(a_t, .inr (9, [.ref a_t_now, .ref a_t_tape, .int t_typed, .int (v50.2 + 1), .int v9.2.2, .ref a_t_readLaw, .ref a_t_read, g_t_undone, .int t_undos, g_t_aside, g_t_coat, g_t_bestCoats, g_t_bestStand, g_t_bestPaint, g_t_kept, g_t_keptUndos, g_t_isKept, g_t_lanes, g_t_sizes, g_t_items, g_t_moved])), (a_t_now, .inl (cy 0, 24, .inl t_now)), (a_t_tape, .inl (cy 0, 60, .inl t_tape)), (a_t_readLaw, .inl (cy 0, 3, .inl (upd (upd (upd t_readLaw 0 v1.1) 1 v5.1) 2 v9.1))), (a_t_read, .inl (cy 0, 18, .inl t_read))] := hD
          refine lv_aload_n hx hb dX9_rim_127 rfl (lv_at hl 1 rfl) ?_
          obtain ⟨v52, hv52, h⟩ := bind_e h
          refine callMV (As := []) (rest := []) (wr := [(a_t_now, .inl (cy 0, 24, .inl t_now)), (a_t_readLaw, .inl (cy 0, 3, .inl (upd (upd (upd t_readLaw 0 v1.1) 1 v5.1) 2 v9.1)))]) (w2 := [(a_t, .inr (9, [.ref a_t_now, .ref a_t_tape, .int t_typed, .int v52.2.1, .int v52.2.2.1, .ref a_t_readLaw, .ref a_t_read, g_t_undone, .int t_undos, g_t_aside, g_t_coat, g_t_bestCoats, g_t_bestStand, g_t_bestPaint, g_t_kept, g_t_keptUndos, g_t_isKept, g_t_lanes, g_t_sizes, g_t_items, g_t_moved])), (a_t_now, .inl (cy 0, 24, .inl t_now)), (a_t_tape, .inl (cy 0, 60, .inl t_tape)), (a_t_readLaw, .inl (cy 0, 3, .inl (upd (upd (upd t_readLaw 0 v1.1) 1 v5.1) 2 v9.1))), (a_t_read, .inl (cy 0, 18, .inl v52.2.2.2))]) hx hb hml hown hg (c_X9_menRead l D cy a_t a_t_tape a_t_read _ (.ref a_t_now) (.ref a_t_readLaw) (g_t_undone) (.int t_undos) (g_t_aside) (g_t_coat) (g_t_bestCoats) (g_t_bestStand) (g_t_bestPaint) (g_t_kept) (g_t_keptUndos) (g_t_isKept) (g_t_lanes) (g_t_sizes) (g_t_items) (g_t_moved) t_tape t_typed (v50.2 + 1) v9.2.2 t_read F v52 hv52) q_1135 q_1132 q_63 q_1134 q_40 hd_X9_menRead ⟨(Nat.le_of_ble_eq_true rfl), (Nat.le_of_ble_eq_true rfl)⟩ hK hP hD hS hA [0, 2, 4] [1, 3] rfl rfl rfl rfl (by decide) [2, 0, 3, 1, 4] rfl rfl 0 9 rfl rfl rfl rfl rfl rfl hl.1 rfl rfl (Nat.le_of_ble_eq_true rfl) dX9_rim_128 (fun H locs hP hD hS => ?_)
          refine lv_istore_n (lv' := [(1, .int v52.1), (0, .ref a_t)]) hx hb dX9_rim_131 rfl hl (by decide) rfl (fun ls hl => ?_)
          exact J48 v52.1 v52.2.1 v52.2.2.1 v52.2.2.2 _ _ _ hP hD hS (lv_sub hl [0, 1] rfl) h
    obtain ⟨k55, hk55, h⟩ := jn_e h
    have J55 : ∀ (w54 : Int32) (H : Heap) (locs : List Loc) (ls : Array Slot), va_P D vwCl [(a_t, .inr (9, [.ref a_t_now, .ref a_t_tape, .int t_typed, .int w54, .int v5.2.2, .ref a_t_readLaw, .ref a_t_read, g_t_undone, .int t_undos, g_t_aside, g_t_coat, g_t_bestCoats, g_t_bestStand, g_t_bestPaint, g_t_kept, g_t_keptUndos, g_t_isKept, g_t_lanes, g_t_sizes, g_t_items, g_t_moved])), (a_t_now, .inl (cy 0, 24, .inl t_now)), (a_t_tape, .inl (cy 0, 60, .inl t_tape)), (a_t_readLaw, .inl (cy 0, 3, .inl (upd (upd t_readLaw 0 v1.1) 1 v5.1))), (a_t_read, .inl (cy 0, 18, .inl t_read))] H → va_D A [(a_t, .inr (9, [.ref a_t_now, .ref a_t_tape, .int t_typed, .int w54, .int v5.2.2, .ref a_t_readLaw, .ref a_t_read, g_t_undone, .int t_undos, g_t_aside, g_t_coat, g_t_bestCoats, g_t_bestStand, g_t_bestPaint, g_t_kept, g_t_keptUndos, g_t_isKept, g_t_lanes, g_t_sizes, g_t_items, g_t_moved])), (a_t_now, .inl (cy 0, 24, .inl t_now)), (a_t_tape, .inl (cy 0, 60, .inl t_tape)), (a_t_readLaw, .inl (cy 0, 3, .inl (upd (upd t_readLaw 0 v1.1) 1 v5.1))), (a_t_read, .inl (cy 0, 18, .inl t_read))] → va_S A s.heap H locs → lv_has ls 3 [(0, .ref a_t)] → k55 w54 = some out → W p l e (rmG 3 76) s m [.ref a_t].toArray below meth c H locs 0 0 QQ (F0 m 82 ls [.ref a_t]) := by
      intro w54 H locs ls hP hD hS hl h
      rw [hk55] at h
      refine lv_iconst (v := 0) hx hb dX9_rim_82 kI_0 ?_
      exact J53 w54 0 _ _ _ hP hD hS (lv_sub hl [0] rfl) h
    refine lv_if_ne (tgt := 82) hx hb dX9_rim_66 (by decide) (fun c56 => ?_) (fun c56 => ?_)
    · have h := it_f c56 h
      exact J55 v5.2.1 _ _ _ hP hD hS (lv_sub hl [0] rfl) h
    · have h := it_t c56 h
      refine lv_aload_n hx hb dX9_rim_69 rfl (lv_at hl 0 rfl) ?_
      obtain ⟨v57, hv57, h⟩ := bind_e h
      refine callMV (As := []) (rest := [.ref a_t]) (wr := [(a_t_now, .inl (cy 0, 24, .inl t_now)), (a_t_readLaw, .inl (cy 0, 3, .inl (upd (upd t_readLaw 0 v1.1) 1 v5.1))), (a_t_read, .inl (cy 0, 18, .inl t_read))]) (w2 := [(a_t, .inr (9, [.ref a_t_now, .ref a_t_tape, .int t_typed, .int v57.2, .int v5.2.2, .ref a_t_readLaw, .ref a_t_read, g_t_undone, .int t_undos, g_t_aside, g_t_coat, g_t_bestCoats, g_t_bestStand, g_t_bestPaint, g_t_kept, g_t_keptUndos, g_t_isKept, g_t_lanes, g_t_sizes, g_t_items, g_t_moved])), (a_t_now, .inl (cy 0, 24, .inl t_now)), (a_t_tape, .inl (cy 0, 60, .inl t_tape)), (a_t_readLaw, .inl (cy 0, 3, .inl (upd (upd t_readLaw 0 v1.1) 1 v5.1))), (a_t_read, .inl (cy 0, 18, .inl t_read))]) hx hb hml hown hg (c_X9_here l D cy a_t a_t_tape _ (.ref a_t_now) (.int v5.2.2) (.ref a_t_readLaw) (.ref a_t_read) (g_t_undone) (.int t_undos) (g_t_aside) (g_t_coat) (g_t_bestCoats) (g_t_bestStand) (g_t_bestPaint) (g_t_kept) (g_t_keptUndos) (g_t_isKept) (g_t_lanes) (g_t_sizes) (g_t_items) (g_t_moved) t_tape t_typed v5.2.1 F v57 hv57) q_1125 q_1122 q_63 q_1124 q_38 hd_X9_here ⟨(Nat.le_of_ble_eq_true rfl), (Nat.le_of_ble_eq_true rfl)⟩ hK hP hD hS hA [0, 2] [1, 3, 4] rfl rfl rfl rfl (by decide) [3, 0, 4, 1, 2] rfl rfl 0 9 rfl rfl rfl rfl rfl rfl hl.1 rfl rfl (Nat.le_of_ble_eq_true rfl) dX9_rim_70 (fun H locs hP hD hS => ?_)
      refine lv_bipush (v := 94) hx hb dX9_rim_73 kB_94 ?_
      refine lv_icmp_ne (tgt := 82) hx hb dX9_rim_75 (by decide) (fun c58 => ?_) (fun c58 => ?_)
      · have h := it_f c58 h
        exact J55 v57.2 _ _ _ hP hD hS (lv_sub hl [0] rfl) h
      · have h := it_t c58 h
        refine lv_iconst (v := 1) hx hb dX9_rim_78 kI_1 ?_
        refine lv_goto (tgt := 83) hx hb dX9_rim_79 (by decide) ?_
        exact J53 v57.2 1 _ _ _ hP hD hS (lv_sub hl [0] rfl) h
  obtain ⟨k61, hk61, h⟩ := jn_e h
  have J61 : ∀ (w60 : Int32) (H : Heap) (locs : List Loc) (ls : Array Slot), va_P D vwCl [(a_t, .inr (9, [.ref a_t_now, .ref a_t_tape, .int t_typed, .int w60, .int v1.2.2, .ref a_t_readLaw, .ref a_t_read, g_t_undone, .int t_undos, g_t_aside, g_t_coat, g_t_bestCoats, g_t_bestStand, g_t_bestPaint, g_t_kept, g_t_keptUndos, g_t_isKept, g_t_lanes, g_t_sizes, g_t_items, g_t_moved])), (a_t_now, .inl (cy 0, 24, .inl t_now)), (a_t_tape, .inl (cy 0, 60, .inl t_tape)), (a_t_readLaw, .inl (cy 0, 3, .inl (upd t_readLaw 0 v1.1))), (a_t_read, .inl (cy 0, 18, .inl t_read))] H → va_D A [(a_t, .inr (9, [.ref a_t_now, .ref a_t_tape, .int t_typed, .int w60, .int v1.2.2, .ref a_t_readLaw, .ref a_t_read, g_t_undone, .int t_undos, g_t_aside, g_t_coat, g_t_bestCoats, g_t_bestStand, g_t_bestPaint, g_t_kept, g_t_keptUndos, g_t_isKept, g_t_lanes, g_t_sizes, g_t_items, g_t_moved])), (a_t_now, .inl (cy 0, 24, .inl t_now)), (a_t_tape, .inl (cy 0, 60, .inl t_tape)), (a_t_readLaw, .inl (cy 0, 3, .inl (upd t_readLaw 0 v1.1))), (a_t_read, .inl (cy 0, 18, .inl t_read))] → va_S A s.heap H locs → lv_has ls 3 [(0, .ref a_t)] → k61 w60 = some out → W p l e (rmG 3 76) s m [.ref a_t].toArray below meth c H locs 0 0 QQ (F0 m 44 ls [.ref a_t]) := by
    intro w60 H locs ls hP hD hS hl h
    rw [hk61] at h
    refine lv_iconst (v := 0) hx hb dX9_rim_44 kI_0 ?_
    exact J59 w60 0 _ _ _ hP hD hS (lv_sub hl [0] rfl) h
  refine lv_if_ne (tgt := 44) hx hb dX9_rim_28 (by decide) (fun c62 => ?_) (fun c62 => ?_)
  · have h := it_f c62 h
    exact J61 v1.2.1 _ _ _ hP hD hS (lv_sub hl [0] rfl) h
  · have h := it_t c62 h
    refine lv_aload_n hx hb dX9_rim_31 rfl (lv_at hl 0 rfl) ?_
    obtain ⟨v63, hv63, h⟩ := bind_e h
    refine callMV (As := []) (rest := [.ref a_t]) (wr := [(a_t_now, .inl (cy 0, 24, .inl t_now)), (a_t_readLaw, .inl (cy 0, 3, .inl (upd t_readLaw 0 v1.1))), (a_t_read, .inl (cy 0, 18, .inl t_read))]) (w2 := [(a_t, .inr (9, [.ref a_t_now, .ref a_t_tape, .int t_typed, .int v63.2, .int v1.2.2, .ref a_t_readLaw, .ref a_t_read, g_t_undone, .int t_undos, g_t_aside, g_t_coat, g_t_bestCoats, g_t_bestStand, g_t_bestPaint, g_t_kept, g_t_keptUndos, g_t_isKept, g_t_lanes, g_t_sizes, g_t_items, g_t_moved])), (a_t_now, .inl (cy 0, 24, .inl t_now)), (a_t_tape, .inl (cy 0, 60, .inl t_tape)), (a_t_readLaw, .inl (cy 0, 3, .inl (upd t_readLaw 0 v1.1))), (a_t_read, .inl (cy 0, 18, .inl t_read))]) hx hb hml hown hg (c_X9_here l D cy a_t a_t_tape _ (.ref a_t_now) (.int v1.2.2) (.ref a_t_readLaw) (.ref a_t_read) (g_t_undone) (.int t_undos) (g_t_aside) (g_t_coat) (g_t_bestCoats) (g_t_bestStand) (g_t_bestPaint) (g_t_kept) (g_t_keptUndos) (g_t_isKept) (g_t_lanes) (g_t_sizes) (g_t_items) (g_t_moved) t_tape t_typed v1.2.1 F v63 hv63) q_1125 q_1122 q_63 q_1124 q_38 hd_X9_here ⟨(Nat.le_of_ble_eq_true rfl), (Nat.le_of_ble_eq_true rfl)⟩ hK hP hD hS hA [0, 2] [1, 3, 4] rfl rfl rfl rfl (by decide) [3, 0, 4, 1, 2] rfl rfl 0 9 rfl rfl rfl rfl rfl rfl hl.1 rfl rfl (Nat.le_of_ble_eq_true rfl) dX9_rim_32 (fun H locs hP hD hS => ?_)
    refine lv_bipush (v := 43) hx hb dX9_rim_35 kB_43 ?_
    refine lv_icmp_ne (tgt := 44) hx hb dX9_rim_37 (by decide) (fun c64 => ?_) (fun c64 => ?_)
    · have h := it_f c64 h
      exact J61 v63.2 _ _ _ hP hD hS (lv_sub hl [0] rfl) h
    · have h := it_t c64 h
      refine lv_iconst (v := 1) hx hb dX9_rim_40 kI_1 ?_
      refine lv_goto (tgt := 45) hx hb dX9_rim_41 (by decide) ?_
      exact J59 v63.2 1 _ _ _ hP hD hS (lv_sub hl [0] rfl) h

def m_X9_notes_L81s (t_now : Nat → Int32) (x3 : Int32) (k9 : (Nat → Int32) → Option ((Nat → Int32) × Int32)) (r11 : Int32 → (Nat → Int32) → Option ((Nat → Int32) × Int32)) (x6 : Int32) (w7 : Nat → Int32) : Option ((Nat → Int32) × Int32) := (if 6 ≤ x6 then k9 w7 else (m_X9_paintOf t_now x6).bind (fun v13 => chk ((x3 + 2) + x6) 112 ((m_X9_inchOf t_now x6).bind (fun v15 => chk ((x3 + 8) + x6) 112 (bnd (x6 + 1) (fun x17 => r11 x17 (upd (upd w7 ((x3 + 2) + x6).toNatClampNeg v13) ((x3 + 8) + x6).toNatClampNeg v15)))))))
def m_X9_notes_L81 (t_now : Nat → Int32) (x3 : Int32) (k9 : (Nat → Int32) → Option ((Nat → Int32) × Int32)) : Nat → Int32 → (Nat → Int32) → Option ((Nat → Int32) × Int32)
  | 0 => fun _ _ => none
  | nF + 1 => m_X9_notes_L81s t_now x3 k9 (m_X9_notes_L81 t_now x3 k9 nF)
def m_X9_notes_L12s (k23 : (Nat → Int32) → Option ((Nat → Int32) × Int32)) (r25 : Int32 → (Nat → Int32) → Option ((Nat → Int32) × Int32)) (x20 : Int32) (w21 : Nat → Int32) : Option ((Nat → Int32) × Int32) := (if 112 ≤ x20 then k23 w21 else chk x20 112 (chk (x20 - 14) 112 (bnd (x20 + 1) (fun x29 => r25 x29 (upd w21 (x20 - 14).toNatClampNeg (w21 x20.toNatClampNeg))))))
def m_X9_notes_L12 (k23 : (Nat → Int32) → Option ((Nat → Int32) × Int32)) : Nat → Int32 → (Nat → Int32) → Option ((Nat → Int32) × Int32)
  | 0 => fun _ _ => none
  | nF + 1 => m_X9_notes_L12s k23 (m_X9_notes_L12 k23 nF)
def m_X9_notes (F : Nat) (t_now : Nat → Int32) (t_undone : Nat → Int32) (t_undos : Int32) : Option ((Nat → Int32) × Int32) := jn (fun (w1 : Nat → Int32) (w2 : Int32) => bnd (14 * w2) (fun x3 => chk x3 112 (chk (x3 + 1) 112 (m_X9_notes_L81 t_now x3 (fun (w8 : Nat → Int32) => some (w8, w2 + 1)) F 0 (upd (upd w1 x3.toNatClampNeg (t_now 1)) (x3 + 1).toNatClampNeg (t_now 5)))))) (fun k18 => (if t_undos = 8 then m_X9_notes_L12 (fun (w22 : Nat → Int32) => k18 w22 7) F 14 t_undone else k18 t_undone t_undos))
set_option maxHeartbeats 4000000 in
set_option maxRecDepth 100000 in
theorem c_X9_notes (l : Launch) (D : va_G) (cy : Nat → ClassId) (a_t : Nat) (a_t_now : Nat) (a_t_undone : Nat) (sz : Nat) (g_t_tape : Value) (g_t_typed : Value) (g_t_place : Value) (g_t_isFault : Value) (g_t_readLaw : Value) (g_t_read : Value) (g_t_aside : Value) (g_t_coat : Value) (g_t_bestCoats : Value) (g_t_bestStand : Value) (g_t_bestPaint : Value) (g_t_kept : Value) (g_t_keptUndos : Value) (g_t_isKept : Value) (g_t_lanes : Value) (g_t_sizes : Value) (g_t_items : Value) (g_t_moved : Value) (t_now : Nat → Int32) (t_undone : Nat → Int32) (t_undos : Int32) (F : Nat) (out : (Nat → Int32) × Int32) (h : m_X9_notes F t_now t_undone t_undos = some out) : MetM l D cy yX9_notes cX9_notes 3 none (rmG 2 43) [.ref a_t] sz [(a_t, .inr (9, [.ref a_t_now, g_t_tape, g_t_typed, g_t_place, g_t_isFault, g_t_readLaw, g_t_read, .ref a_t_undone, .int t_undos, g_t_aside, g_t_coat, g_t_bestCoats, g_t_bestStand, g_t_bestPaint, g_t_kept, g_t_keptUndos, g_t_isKept, g_t_lanes, g_t_sizes, g_t_items, g_t_moved])), (a_t_now, .inl (cy 0, 24, .inl t_now)), (a_t_undone, .inl (cy 0, 112, .inl t_undone))] none [(a_t, .inr (9, [.ref a_t_now, g_t_tape, g_t_typed, g_t_place, g_t_isFault, g_t_readLaw, g_t_read, .ref a_t_undone, .int out.2, g_t_aside, g_t_coat, g_t_bestCoats, g_t_bestStand, g_t_bestPaint, g_t_kept, g_t_keptUndos, g_t_isKept, g_t_lanes, g_t_sizes, g_t_items, g_t_moved])), (a_t_now, .inl (cy 0, 24, .inl t_now)), (a_t_undone, .inl (cy 0, 112, .inl out.1))] := by
  refine startMv (own := RX9) (by decide) rfl (Nat.le_of_ble_eq_true rfl) ?_
  intro p e s m below meth c QQ A hx hb hml hown hg hK hP hD hS hA hret ls hl
  have hl : lv_has ls 3 [(0, .ref a_t)] := hl
  unfold m_X9_notes at h
  refine lv_aload_n hx hb dX9_notes_0 rfl (lv_at hl 0 rfl) ?_
  refine va_get (D := D) (ci := 9) (v := .int t_undos) (C := RX9) (T := TX9) (N := 21) hx hb hg inG_X9 hown hK hP 0 rfl rfl 8 (by decide) (hg _ q_953) (fun _ h9 => h9) rfl dX9_notes_1 ?_
  refine lv_bipush (v := 8) hx hb dX9_notes_4 kB_8 ?_
  obtain ⟨k18, hk18, h⟩ := jn_e h
  have J18 : ∀ (w1 : Nat → Int32) (w2 : Int32) (H : Heap) (locs : List Loc) (ls : Array Slot), va_P D vwCl [(a_t, .inr (9, [.ref a_t_now, g_t_tape, g_t_typed, g_t_place, g_t_isFault, g_t_readLaw, g_t_read, .ref a_t_undone, .int w2, g_t_aside, g_t_coat, g_t_bestCoats, g_t_bestStand, g_t_bestPaint, g_t_kept, g_t_keptUndos, g_t_isKept, g_t_lanes, g_t_sizes, g_t_items, g_t_moved])), (a_t_now, .inl (cy 0, 24, .inl t_now)), (a_t_undone, .inl (cy 0, 112, .inl w1))] H → va_D A [(a_t, .inr (9, [.ref a_t_now, g_t_tape, g_t_typed, g_t_place, g_t_isFault, g_t_readLaw, g_t_read, .ref a_t_undone, .int w2, g_t_aside, g_t_coat, g_t_bestCoats, g_t_bestStand, g_t_bestPaint, g_t_kept, g_t_keptUndos, g_t_isKept, g_t_lanes, g_t_sizes, g_t_items, g_t_moved])), (a_t_now, .inl (cy 0, 24, .inl t_now)), (a_t_undone, .inl (cy 0, 112, .inl w1))] → va_S A s.heap H locs → lv_has ls 3 [(0, .ref a_t)] → k18 w1 w2 = some out → W p l e (rmG 2 43) s m [.ref a_t].toArray below meth c H locs 0 0 QQ (F0 m 45 ls []) := by
    intro w1 w2 H locs ls hP hD hS hl h
    rw [hk18] at h
    refine lv_bipush (v := 14) hx hb dX9_notes_45 kB_14 ?_
    refine lv_aload_n hx hb dX9_notes_47 rfl (lv_at hl 0 rfl) ?_
    refine va_get (D := D) (ci := 9) (v := .int w2) (C := RX9) (T := TX9) (N := 21) hx hb hg inG_X9 hown hK hP 0 rfl rfl 8 (by decide) (hg _ q_953) (fun _ h9 => h9) rfl dX9_notes_48 ?_
    refine lv_imul hx hb dX9_notes_51 ?_
    refine lv_topi (fun x3 ex3 => ?_)
    have h := bnd_e ex3 h
    refine lv_istore_n (lv' := [(1, .int x3), (0, .ref a_t)]) hx hb dX9_notes_52 rfl hl (by decide) rfl (fun ls hl => ?_)
    refine lv_aload_n hx hb dX9_notes_53 rfl (lv_at hl 1 rfl) ?_
    refine va_get (D := D) (ci := 9) (v := .ref a_t_undone) (C := RX9) (T := TX9) (N := 21) hx hb hg inG_X9 hown hK hP 0 rfl rfl 7 (by decide) (hg _ q_952) (fun _ h9 => h9) rfl dX9_notes_54 ?_
    refine lv_iload_n hx hb dX9_notes_57 rfl (lv_at hl 0 rfl) ?_
    refine lv_aload_n hx hb dX9_notes_58 rfl (lv_at hl 1 rfl) ?_
    refine va_get (D := D) (ci := 9) (v := .ref a_t_now) (C := RX9) (T := TX9) (N := 21) hx hb hg inG_X9 hown hK hP 0 rfl rfl 0 (by decide) (hg _ q_945) (fun _ h9 => h9) rfl dX9_notes_59 ?_
    refine lv_iconst (v := 1) hx hb dX9_notes_62 kI_1 ?_
    refine ialdK hx hb hK hP 1 0 rfl rfl (vp_in_inb (by decide)) kN_1 dX9_notes_63 ?_
    obtain ⟨hi4, h⟩ := chk_e h
    refine va_iast hx hb hK hP hD hS 2 0 rfl rfl hi4 dX9_notes_64 (fun H locs hP hD hS => ?_)
    have hP : va_P D vwCl [(a_t, .inr (9, [.ref a_t_now, g_t_tape, g_t_typed, g_t_place, g_t_isFault, g_t_readLaw, g_t_read, .ref a_t_undone, .int w2, g_t_aside, g_t_coat, g_t_bestCoats, g_t_bestStand, g_t_bestPaint, g_t_kept, g_t_keptUndos, g_t_isKept, g_t_lanes, g_t_sizes, g_t_items, g_t_moved])), (a_t_now, .inl (cy 0, 24, .inl t_now)), (a_t_undone, .inl (cy 0, 112, .inl (upd w1 x3.toNatClampNeg (t_now 1))))] H := hP
    have hD : va_D A [(a_t, .inr (9, [.ref a_t_now, g_t_tape, g_t_typed, g_t_place, g_t_isFault, g_t_readLaw, g_t_read, .ref a_t_undone, .int w2, g_t_aside, g_t_coat, g_t_bestCoats, g_t_bestStand, g_t_bestPaint, g_t_kept, g_t_keptUndos, g_t_isKept, g_t_lanes, g_t_sizes, g_t_items, g_t_moved])), (a_t_now, .inl (cy 0, 24, .inl t_now)), (a_t_undone, .inl (cy 0, 112, .inl (upd w1 x3.toNatClampNeg (t_now 1))))] := hD
    refine lv_aload_n hx hb dX9_notes_65 rfl (lv_at hl 1 rfl) ?_
    refine va_get (D := D) (ci := 9) (v := .ref a_t_undone) (C := RX9) (T := TX9) (N := 21) hx hb hg inG_X9 hown hK hP 0 rfl rfl 7 (by decide) (hg _ q_952) (fun _ h9 => h9) rfl dX9_notes_66 ?_
    refine lv_iload_n hx hb dX9_notes_69 rfl (lv_at hl 0 rfl) ?_
    refine lv_iconst (v := 1) hx hb dX9_notes_70 kI_1 ?_
    refine lv_iadd hx hb dX9_notes_71 ?_
    refine lv_aload_n hx hb dX9_notes_72 rfl (lv_at hl 1 rfl) ?_
    refine va_get (D := D) (ci := 9) (v := .ref a_t_now) (C := RX9) (T := TX9) (N := 21) hx hb hg inG_X9 hown hK hP 0 rfl rfl 0 (by decide) (hg _ q_945) (fun _ h9 => h9) rfl dX9_notes_73 ?_
    refine lv_iconst (v := 5) hx hb dX9_notes_76 kI_5 ?_
    refine ialdK hx hb hK hP 1 0 rfl rfl (vp_in_inb (by decide)) kN_5 dX9_notes_77 ?_
    obtain ⟨hi5, h⟩ := chk_e h
    refine va_iast hx hb hK hP hD hS 2 0 rfl rfl hi5 dX9_notes_78 (fun H locs hP hD hS => ?_)
    have hP : va_P D vwCl [(a_t, .inr (9, [.ref a_t_now, g_t_tape, g_t_typed, g_t_place, g_t_isFault, g_t_readLaw, g_t_read, .ref a_t_undone, .int w2, g_t_aside, g_t_coat, g_t_bestCoats, g_t_bestStand, g_t_bestPaint, g_t_kept, g_t_keptUndos, g_t_isKept, g_t_lanes, g_t_sizes, g_t_items, g_t_moved])), (a_t_now, .inl (cy 0, 24, .inl t_now)), (a_t_undone, .inl (cy 0, 112, .inl (upd (upd w1 x3.toNatClampNeg (t_now 1)) (x3 + 1).toNatClampNeg (t_now 5))))] H := hP
    have hD : va_D A [(a_t, .inr (9, [.ref a_t_now, g_t_tape, g_t_typed, g_t_place, g_t_isFault, g_t_readLaw, g_t_read, .ref a_t_undone, .int w2, g_t_aside, g_t_coat, g_t_bestCoats, g_t_bestStand, g_t_bestPaint, g_t_kept, g_t_keptUndos, g_t_isKept, g_t_lanes, g_t_sizes, g_t_items, g_t_moved])), (a_t_now, .inl (cy 0, 24, .inl t_now)), (a_t_undone, .inl (cy 0, 112, .inl (upd (upd w1 x3.toNatClampNeg (t_now 1)) (x3 + 1).toNatClampNeg (t_now 5))))] := hD
    refine lv_iconst (v := 0) hx hb dX9_notes_79 kI_0 ?_
    refine lv_istore_n (lv' := [(2, .int 0), (1, .int x3), (0, .ref a_t)]) hx hb dX9_notes_80 rfl hl (by decide) rfl (fun ls hl => ?_)
    obtain ⟨k9, hk9, h⟩ := kap (fun z => m_X9_notes_L81 t_now x3 z F 0 (upd (upd w1 x3.toNatClampNeg (t_now 1)) (x3 + 1).toNatClampNeg (t_now 5))) h
    have J9 : ∀ (w8 : Nat → Int32) (H : Heap) (locs : List Loc) (ls : Array Slot), va_P D vwCl [(a_t, .inr (9, [.ref a_t_now, g_t_tape, g_t_typed, g_t_place, g_t_isFault, g_t_readLaw, g_t_read, .ref a_t_undone, .int w2, g_t_aside, g_t_coat, g_t_bestCoats, g_t_bestStand, g_t_bestPaint, g_t_kept, g_t_keptUndos, g_t_isKept, g_t_lanes, g_t_sizes, g_t_items, g_t_moved])), (a_t_now, .inl (cy 0, 24, .inl t_now)), (a_t_undone, .inl (cy 0, 112, .inl w8))] H → va_D A [(a_t, .inr (9, [.ref a_t_now, g_t_tape, g_t_typed, g_t_place, g_t_isFault, g_t_readLaw, g_t_read, .ref a_t_undone, .int w2, g_t_aside, g_t_coat, g_t_bestCoats, g_t_bestStand, g_t_bestPaint, g_t_kept, g_t_keptUndos, g_t_isKept, g_t_lanes, g_t_sizes, g_t_items, g_t_moved])), (a_t_now, .inl (cy 0, 24, .inl t_now)), (a_t_undone, .inl (cy 0, 112, .inl w8))] → va_S A s.heap H locs → lv_has ls 3 [(0, .ref a_t)] → k9 w8 = some out → W p l e (rmG 2 43) s m [.ref a_t].toArray below meth c H locs 0 0 QQ (F0 m 124 ls []) := by
      intro w8 H locs ls hP hD hS hl h
      rw [hk9] at h
      refine lv_aload_n hx hb dX9_notes_124 rfl (lv_at hl 0 rfl) ?_
      refine lv_dup hx hb dX9_notes_125 rfl ?_
      refine va_get (D := D) (ci := 9) (v := .int w2) (C := RX9) (T := TX9) (N := 21) hx hb hg inG_X9 hown hK hP 0 rfl rfl 8 (by decide) (hg _ q_953) (fun _ h9 => h9) rfl dX9_notes_126 ?_
      refine lv_iconst (v := 1) hx hb dX9_notes_129 kI_1 ?_
      refine lv_iadd hx hb dX9_notes_130 ?_
      refine va_put (D := D) (ci := 9) (v := .int (w2 + 1)) (ty := .int) (C := RX9) (T := TX9) (N := 21) hx hb hg inG_X9 tyX9 tyX9_ok nmX9 hown hK hP hD hS 0 rfl rfl 8 (by decide) (hg _ q_953) (fun _ h9 => h9) rfl (tyX9_ok 8 (by decide)) rfl rfl (Nat.le_of_ble_eq_true rfl) dX9_notes_131 (fun H locs hP hD hS => ?_)
      have hP : va_P D vwCl [(a_t, .inr (9, [.ref a_t_now, g_t_tape, g_t_typed, g_t_place, g_t_isFault, g_t_readLaw, g_t_read, .ref a_t_undone, .int (w2 + 1), g_t_aside, g_t_coat, g_t_bestCoats, g_t_bestStand, g_t_bestPaint, g_t_kept, g_t_keptUndos, g_t_isKept, g_t_lanes, g_t_sizes, g_t_items, g_t_moved])), (a_t_now, .inl (cy 0, 24, .inl t_now)), (a_t_undone, .inl (cy 0, 112, .inl w8))] H := hP
      have hD : va_D A [(a_t, .inr (9, [.ref a_t_now, g_t_tape, g_t_typed, g_t_place, g_t_isFault, g_t_readLaw, g_t_read, .ref a_t_undone, .int (w2 + 1), g_t_aside, g_t_coat, g_t_bestCoats, g_t_bestStand, g_t_bestPaint, g_t_kept, g_t_keptUndos, g_t_isKept, g_t_lanes, g_t_sizes, g_t_items, g_t_moved])), (a_t_now, .inl (cy 0, 24, .inl t_now)), (a_t_undone, .inl (cy 0, 112, .inl w8))] := hD
      exact hret _ _ _ ls 134 dX9_notes_134 (by rw [← Option.some.inj h]) hP hD hS
    have L10 : ∀ (n10 : Nat) (x6 : Int32) (w7 : Nat → Int32) (H : Heap) (locs : List Loc) (ls : Array Slot), va_P D vwCl [(a_t, .inr (9, [.ref a_t_now, g_t_tape, g_t_typed, g_t_place, g_t_isFault, g_t_readLaw, g_t_read, .ref a_t_undone, .int w2, g_t_aside, g_t_coat, g_t_bestCoats, g_t_bestStand, g_t_bestPaint, g_t_kept, g_t_keptUndos, g_t_isKept, g_t_lanes, g_t_sizes, g_t_items, g_t_moved])), (a_t_now, .inl (cy 0, 24, .inl t_now)), (a_t_undone, .inl (cy 0, 112, .inl w7))] H → va_D A [(a_t, .inr (9, [.ref a_t_now, g_t_tape, g_t_typed, g_t_place, g_t_isFault, g_t_readLaw, g_t_read, .ref a_t_undone, .int w2, g_t_aside, g_t_coat, g_t_bestCoats, g_t_bestStand, g_t_bestPaint, g_t_kept, g_t_keptUndos, g_t_isKept, g_t_lanes, g_t_sizes, g_t_items, g_t_moved])), (a_t_now, .inl (cy 0, 24, .inl t_now)), (a_t_undone, .inl (cy 0, 112, .inl w7))] → va_S A s.heap H locs → lv_has ls 3 [(2, .int x6), (1, .int x3), (0, .ref a_t)] → m_X9_notes_L81 t_now x3 k9 n10 x6 w7 = some out → W p l e (rmG 2 43) s m [.ref a_t].toArray below meth c H locs 0 0 QQ (F0 m 81 ls []) := by
      intro n10
      induction n10 with
      | zero => intro x6 w7 H locs ls hP hD hS hl h; exact nomatch (show (none : Option ((Nat → Int32) × Int32)) = some out from h)
      | succ n10 ih =>
          intro x6 w7 H locs ls hP hD hS hl h
          have h : m_X9_notes_L81s t_now x3 k9 (m_X9_notes_L81 t_now x3 k9 n10) x6 w7 = some out := h
          unfold m_X9_notes_L81s at h
          refine lv_iload_n hx hb dX9_notes_81 rfl (lv_at hl 0 rfl) ?_
          refine lv_bipush (v := 6) hx hb dX9_notes_82 kB_6 ?_
          refine lv_icmp_ge (tgt := 124) hx hb dX9_notes_84 (by decide) (fun c12 => ?_) (fun c12 => ?_)
          · have h := it_t c12 h
            exact J9 w7 _ _ _ hP hD hS (lv_sub hl [2] rfl) h
          · have h := it_f c12 h
            refine lv_aload_n hx hb dX9_notes_87 rfl (lv_at hl 2 rfl) ?_
            refine va_get (D := D) (ci := 9) (v := .ref a_t_undone) (C := RX9) (T := TX9) (N := 21) hx hb hg inG_X9 hown hK hP 0 rfl rfl 7 (by decide) (hg _ q_952) (fun _ h9 => h9) rfl dX9_notes_88 ?_
            refine lv_iload_n hx hb dX9_notes_91 rfl (lv_at hl 1 rfl) ?_
            refine lv_iconst (v := 2) hx hb dX9_notes_92 kI_2 ?_
            refine lv_iadd hx hb dX9_notes_93 ?_
            refine lv_iload_n hx hb dX9_notes_94 rfl (lv_at hl 0 rfl) ?_
            refine lv_iadd hx hb dX9_notes_95 ?_
            refine lv_aload_n hx hb dX9_notes_96 rfl (lv_at hl 2 rfl) ?_
            refine lv_iload_n hx hb dX9_notes_97 rfl (lv_at hl 0 rfl) ?_
            obtain ⟨v13, hv13, h⟩ := bind_e h
            refine callRV (As := [.int x6]) (rest := [.int ((x3 + 2) + x6), .ref a_t_undone]) (v0 := .int v13) hx hb hml hown hg (c_X9_paintOf l D cy a_t a_t_now (g_t_tape) (g_t_typed) (g_t_place) (g_t_isFault) (g_t_readLaw) (g_t_read) (.ref a_t_undone) (.int w2) (g_t_aside) (g_t_coat) (g_t_bestCoats) (g_t_bestStand) (g_t_bestPaint) (g_t_kept) (g_t_keptUndos) (g_t_isKept) (g_t_lanes) (g_t_sizes) (g_t_items) (g_t_moved) t_now x6 v13 hv13) q_1059 q_1056 q_63 q_1058 q_30 hd_X9_paintOf ⟨(Nat.le_of_ble_eq_true rfl), (Nat.le_of_ble_eq_true rfl)⟩ hK hP [0, 1] rfl 0 9 rfl rfl rfl rfl rfl rfl hl.1 rfl (Nat.le_of_ble_eq_true rfl) dX9_notes_98 ?_
            obtain ⟨hi14, h⟩ := chk_e h
            refine va_iast hx hb hK hP hD hS 2 0 rfl rfl hi14 dX9_notes_101 (fun H locs hP hD hS => ?_)
            have hP : va_P D vwCl [(a_t, .inr (9, [.ref a_t_now, g_t_tape, g_t_typed, g_t_place, g_t_isFault, g_t_readLaw, g_t_read, .ref a_t_undone, .int w2, g_t_aside, g_t_coat, g_t_bestCoats, g_t_bestStand, g_t_bestPaint, g_t_kept, g_t_keptUndos, g_t_isKept, g_t_lanes, g_t_sizes, g_t_items, g_t_moved])), (a_t_now, .inl (cy 0, 24, .inl t_now)), (a_t_undone, .inl (cy 0, 112, .inl (upd w7 ((x3 + 2) + x6).toNatClampNeg v13)))] H := hP
            have hD : va_D A [(a_t, .inr (9, [.ref a_t_now, g_t_tape, g_t_typed, g_t_place, g_t_isFault, g_t_readLaw, g_t_read, .ref a_t_undone, .int w2, g_t_aside, g_t_coat, g_t_bestCoats, g_t_bestStand, g_t_bestPaint, g_t_kept, g_t_keptUndos, g_t_isKept, g_t_lanes, g_t_sizes, g_t_items, g_t_moved])), (a_t_now, .inl (cy 0, 24, .inl t_now)), (a_t_undone, .inl (cy 0, 112, .inl (upd w7 ((x3 + 2) + x6).toNatClampNeg v13)))] := hD
            refine lv_aload_n hx hb dX9_notes_102 rfl (lv_at hl 2 rfl) ?_
            refine va_get (D := D) (ci := 9) (v := .ref a_t_undone) (C := RX9) (T := TX9) (N := 21) hx hb hg inG_X9 hown hK hP 0 rfl rfl 7 (by decide) (hg _ q_952) (fun _ h9 => h9) rfl dX9_notes_103 ?_
            refine lv_iload_n hx hb dX9_notes_106 rfl (lv_at hl 1 rfl) ?_
            refine lv_bipush (v := 8) hx hb dX9_notes_107 kB_8 ?_
            refine lv_iadd hx hb dX9_notes_109 ?_
            refine lv_iload_n hx hb dX9_notes_110 rfl (lv_at hl 0 rfl) ?_
            refine lv_iadd hx hb dX9_notes_111 ?_
            refine lv_aload_n hx hb dX9_notes_112 rfl (lv_at hl 2 rfl) ?_
            refine lv_iload_n hx hb dX9_notes_113 rfl (lv_at hl 0 rfl) ?_
            obtain ⟨v15, hv15, h⟩ := bind_e h
            refine callRV (As := [.int x6]) (rest := [.int ((x3 + 8) + x6), .ref a_t_undone]) (v0 := .int v15) hx hb hml hown hg (c_X9_inchOf l D cy a_t a_t_now (g_t_tape) (g_t_typed) (g_t_place) (g_t_isFault) (g_t_readLaw) (g_t_read) (.ref a_t_undone) (.int w2) (g_t_aside) (g_t_coat) (g_t_bestCoats) (g_t_bestStand) (g_t_bestPaint) (g_t_kept) (g_t_keptUndos) (g_t_isKept) (g_t_lanes) (g_t_sizes) (g_t_items) (g_t_moved) t_now x6 v15 hv15) q_1029 q_1026 q_63 q_1028 q_25 hd_X9_inchOf ⟨(Nat.le_of_ble_eq_true rfl), (Nat.le_of_ble_eq_true rfl)⟩ hK hP [0, 1] rfl 0 9 rfl rfl rfl rfl rfl rfl hl.1 rfl (Nat.le_of_ble_eq_true rfl) dX9_notes_114 ?_
            obtain ⟨hi16, h⟩ := chk_e h
            refine va_iast hx hb hK hP hD hS 2 0 rfl rfl hi16 dX9_notes_117 (fun H locs hP hD hS => ?_)
            have hP : va_P D vwCl [(a_t, .inr (9, [.ref a_t_now, g_t_tape, g_t_typed, g_t_place, g_t_isFault, g_t_readLaw, g_t_read, .ref a_t_undone, .int w2, g_t_aside, g_t_coat, g_t_bestCoats, g_t_bestStand, g_t_bestPaint, g_t_kept, g_t_keptUndos, g_t_isKept, g_t_lanes, g_t_sizes, g_t_items, g_t_moved])), (a_t_now, .inl (cy 0, 24, .inl t_now)), (a_t_undone, .inl (cy 0, 112, .inl (upd (upd w7 ((x3 + 2) + x6).toNatClampNeg v13) ((x3 + 8) + x6).toNatClampNeg v15)))] H := hP
            have hD : va_D A [(a_t, .inr (9, [.ref a_t_now, g_t_tape, g_t_typed, g_t_place, g_t_isFault, g_t_readLaw, g_t_read, .ref a_t_undone, .int w2, g_t_aside, g_t_coat, g_t_bestCoats, g_t_bestStand, g_t_bestPaint, g_t_kept, g_t_keptUndos, g_t_isKept, g_t_lanes, g_t_sizes, g_t_items, g_t_moved])), (a_t_now, .inl (cy 0, 24, .inl t_now)), (a_t_undone, .inl (cy 0, 112, .inl (upd (upd w7 ((x3 + 2) + x6).toNatClampNeg v13) ((x3 + 8) + x6).toNatClampNeg v15)))] := hD
            obtain ⟨x17, ex17⟩ : ∃ y : Int32, y = x6 + 1 := ⟨_, rfl⟩
            have h := bnd_e ex17 h
            refine lv_iinc (v := x17) (lv' := [(2, .int x17), (1, .int x3), (0, .ref a_t)]) hx hb dX9_notes_118 hl (k := 0) rfl (inc_e kI_1 ex17) (by decide) rfl (fun ls hl => ?_)
            refine lv_goto (tgt := 81) hx hb dX9_notes_121 (by decide) ?_
            exact ih x17 (upd (upd w7 ((x3 + 2) + x6).toNatClampNeg v13) ((x3 + 8) + x6).toNatClampNeg v15) _ _ _ hP hD hS (lv_sub hl [0, 1, 2] rfl) h
    exact L10 F 0 (upd (upd w1 x3.toNatClampNeg (t_now 1)) (x3 + 1).toNatClampNeg (t_now 5)) _ _ _ hP hD hS (lv_sub hl [0, 1, 2] rfl) h
  refine lv_icmp_ne (tgt := 45) hx hb dX9_notes_6 (by decide) (fun c19 => ?_) (fun c19 => ?_)
  · have h := it_f c19 h
    exact J18 t_undone t_undos _ _ _ hP hD hS (lv_sub hl [0] rfl) h
  · have h := it_t c19 h
    refine lv_bipush (v := 14) hx hb dX9_notes_9 kB_14 ?_
    refine lv_istore_n (lv' := [(1, .int 14), (0, .ref a_t)]) hx hb dX9_notes_11 rfl hl (by decide) rfl (fun ls hl => ?_)
    obtain ⟨k23, hk23, h⟩ := kap (fun z => m_X9_notes_L12 z F 14 t_undone) h
    have J23 : ∀ (w22 : Nat → Int32) (H : Heap) (locs : List Loc) (ls : Array Slot), va_P D vwCl [(a_t, .inr (9, [.ref a_t_now, g_t_tape, g_t_typed, g_t_place, g_t_isFault, g_t_readLaw, g_t_read, .ref a_t_undone, .int t_undos, g_t_aside, g_t_coat, g_t_bestCoats, g_t_bestStand, g_t_bestPaint, g_t_kept, g_t_keptUndos, g_t_isKept, g_t_lanes, g_t_sizes, g_t_items, g_t_moved])), (a_t_now, .inl (cy 0, 24, .inl t_now)), (a_t_undone, .inl (cy 0, 112, .inl w22))] H → va_D A [(a_t, .inr (9, [.ref a_t_now, g_t_tape, g_t_typed, g_t_place, g_t_isFault, g_t_readLaw, g_t_read, .ref a_t_undone, .int t_undos, g_t_aside, g_t_coat, g_t_bestCoats, g_t_bestStand, g_t_bestPaint, g_t_kept, g_t_keptUndos, g_t_isKept, g_t_lanes, g_t_sizes, g_t_items, g_t_moved])), (a_t_now, .inl (cy 0, 24, .inl t_now)), (a_t_undone, .inl (cy 0, 112, .inl w22))] → va_S A s.heap H locs → lv_has ls 3 [(0, .ref a_t)] → k23 w22 = some out → W p l e (rmG 2 43) s m [.ref a_t].toArray below meth c H locs 0 0 QQ (F0 m 39 ls []) := by
      intro w22 H locs ls hP hD hS hl h
      rw [hk23] at h
      refine lv_aload_n hx hb dX9_notes_39 rfl (lv_at hl 0 rfl) ?_
      refine lv_bipush (v := 7) hx hb dX9_notes_40 kB_7 ?_
      refine va_put (D := D) (ci := 9) (v := .int 7) (ty := .int) (C := RX9) (T := TX9) (N := 21) hx hb hg inG_X9 tyX9 tyX9_ok nmX9 hown hK hP hD hS 0 rfl rfl 8 (by decide) (hg _ q_953) (fun _ h9 => h9) rfl (tyX9_ok 8 (by decide)) rfl rfl (Nat.le_of_ble_eq_true rfl) dX9_notes_42 (fun H locs hP hD hS => ?_)
      have hP : va_P D vwCl [(a_t, .inr (9, [.ref a_t_now, g_t_tape, g_t_typed, g_t_place, g_t_isFault, g_t_readLaw, g_t_read, .ref a_t_undone, .int 7, g_t_aside, g_t_coat, g_t_bestCoats, g_t_bestStand, g_t_bestPaint, g_t_kept, g_t_keptUndos, g_t_isKept, g_t_lanes, g_t_sizes, g_t_items, g_t_moved])), (a_t_now, .inl (cy 0, 24, .inl t_now)), (a_t_undone, .inl (cy 0, 112, .inl w22))] H := hP
      have hD : va_D A [(a_t, .inr (9, [.ref a_t_now, g_t_tape, g_t_typed, g_t_place, g_t_isFault, g_t_readLaw, g_t_read, .ref a_t_undone, .int 7, g_t_aside, g_t_coat, g_t_bestCoats, g_t_bestStand, g_t_bestPaint, g_t_kept, g_t_keptUndos, g_t_isKept, g_t_lanes, g_t_sizes, g_t_items, g_t_moved])), (a_t_now, .inl (cy 0, 24, .inl t_now)), (a_t_undone, .inl (cy 0, 112, .inl w22))] := hD
      exact J18 w22 7 _ _ _ hP hD hS (lv_sub hl [0] rfl) h
    have L24 : ∀ (n24 : Nat) (x20 : Int32) (w21 : Nat → Int32) (H : Heap) (locs : List Loc) (ls : Array Slot), va_P D vwCl [(a_t, .inr (9, [.ref a_t_now, g_t_tape, g_t_typed, g_t_place, g_t_isFault, g_t_readLaw, g_t_read, .ref a_t_undone, .int t_undos, g_t_aside, g_t_coat, g_t_bestCoats, g_t_bestStand, g_t_bestPaint, g_t_kept, g_t_keptUndos, g_t_isKept, g_t_lanes, g_t_sizes, g_t_items, g_t_moved])), (a_t_now, .inl (cy 0, 24, .inl t_now)), (a_t_undone, .inl (cy 0, 112, .inl w21))] H → va_D A [(a_t, .inr (9, [.ref a_t_now, g_t_tape, g_t_typed, g_t_place, g_t_isFault, g_t_readLaw, g_t_read, .ref a_t_undone, .int t_undos, g_t_aside, g_t_coat, g_t_bestCoats, g_t_bestStand, g_t_bestPaint, g_t_kept, g_t_keptUndos, g_t_isKept, g_t_lanes, g_t_sizes, g_t_items, g_t_moved])), (a_t_now, .inl (cy 0, 24, .inl t_now)), (a_t_undone, .inl (cy 0, 112, .inl w21))] → va_S A s.heap H locs → lv_has ls 3 [(1, .int x20), (0, .ref a_t)] → m_X9_notes_L12 k23 n24 x20 w21 = some out → W p l e (rmG 2 43) s m [.ref a_t].toArray below meth c H locs 0 0 QQ (F0 m 12 ls []) := by
      intro n24
      induction n24 with
      | zero => intro x20 w21 H locs ls hP hD hS hl h; exact nomatch (show (none : Option ((Nat → Int32) × Int32)) = some out from h)
      | succ n24 ih =>
          intro x20 w21 H locs ls hP hD hS hl h
          have h : m_X9_notes_L12s k23 (m_X9_notes_L12 k23 n24) x20 w21 = some out := h
          unfold m_X9_notes_L12s at h
          refine lv_iload_n hx hb dX9_notes_12 rfl (lv_at hl 0 rfl) ?_
          refine lv_bipush (v := 112) hx hb dX9_notes_13 kB_112 ?_
          refine lv_icmp_ge (tgt := 39) hx hb dX9_notes_15 (by decide) (fun c26 => ?_) (fun c26 => ?_)
          · have h := it_t c26 h
            exact J23 w21 _ _ _ hP hD hS (lv_sub hl [1] rfl) h
          · have h := it_f c26 h
            refine lv_aload_n hx hb dX9_notes_18 rfl (lv_at hl 1 rfl) ?_
            refine va_get (D := D) (ci := 9) (v := .ref a_t_undone) (C := RX9) (T := TX9) (N := 21) hx hb hg inG_X9 hown hK hP 0 rfl rfl 7 (by decide) (hg _ q_952) (fun _ h9 => h9) rfl dX9_notes_19 ?_
            refine lv_iload_n hx hb dX9_notes_22 rfl (lv_at hl 0 rfl) ?_
            refine lv_bipush (v := 14) hx hb dX9_notes_23 kB_14 ?_
            refine lv_isub hx hb dX9_notes_25 ?_
            refine lv_aload_n hx hb dX9_notes_26 rfl (lv_at hl 1 rfl) ?_
            refine va_get (D := D) (ci := 9) (v := .ref a_t_undone) (C := RX9) (T := TX9) (N := 21) hx hb hg inG_X9 hown hK hP 0 rfl rfl 7 (by decide) (hg _ q_952) (fun _ h9 => h9) rfl dX9_notes_27 ?_
            refine lv_iload_n hx hb dX9_notes_30 rfl (lv_at hl 0 rfl) ?_
            obtain ⟨hi27, h⟩ := chk_e h
            refine va_iald hx hb hK hP 2 0 rfl rfl hi27 dX9_notes_31 ?_
            obtain ⟨hi28, h⟩ := chk_e h
            refine va_iast hx hb hK hP hD hS 2 0 rfl rfl hi28 dX9_notes_32 (fun H locs hP hD hS => ?_)
            have hP : va_P D vwCl [(a_t, .inr (9, [.ref a_t_now, g_t_tape, g_t_typed, g_t_place, g_t_isFault, g_t_readLaw, g_t_read, .ref a_t_undone, .int t_undos, g_t_aside, g_t_coat, g_t_bestCoats, g_t_bestStand, g_t_bestPaint, g_t_kept, g_t_keptUndos, g_t_isKept, g_t_lanes, g_t_sizes, g_t_items, g_t_moved])), (a_t_now, .inl (cy 0, 24, .inl t_now)), (a_t_undone, .inl (cy 0, 112, .inl (upd w21 (x20 - 14).toNatClampNeg (w21 x20.toNatClampNeg))))] H := hP
            have hD : va_D A [(a_t, .inr (9, [.ref a_t_now, g_t_tape, g_t_typed, g_t_place, g_t_isFault, g_t_readLaw, g_t_read, .ref a_t_undone, .int t_undos, g_t_aside, g_t_coat, g_t_bestCoats, g_t_bestStand, g_t_bestPaint, g_t_kept, g_t_keptUndos, g_t_isKept, g_t_lanes, g_t_sizes, g_t_items, g_t_moved])), (a_t_now, .inl (cy 0, 24, .inl t_now)), (a_t_undone, .inl (cy 0, 112, .inl (upd w21 (x20 - 14).toNatClampNeg (w21 x20.toNatClampNeg))))] := hD
            obtain ⟨x29, ex29⟩ : ∃ y : Int32, y = x20 + 1 := ⟨_, rfl⟩
            have h := bnd_e ex29 h
            refine lv_iinc (v := x29) (lv' := [(1, .int x29), (0, .ref a_t)]) hx hb dX9_notes_33 hl (k := 0) rfl (inc_e kI_1 ex29) (by decide) rfl (fun ls hl => ?_)
            refine lv_goto (tgt := 12) hx hb dX9_notes_36 (by decide) ?_
            exact ih x29 (upd w21 (x20 - 14).toNatClampNeg (w21 x20.toNatClampNeg)) _ _ _ hP hD hS (lv_sub hl [0, 1] rfl) h
    exact L24 F 14 t_undone _ _ _ hP hD hS (lv_sub hl [0, 1] rfl) h

def m_X9_nights_L33s (p0 : Int32) (F : Nat) (k12 : (Nat → Int32) → (Nat → Int32) → Int32 → Option (Int32 × (Nat → Int32) × (Nat → Int32) × Int32)) (r14 : Int32 → (Nat → Int32) → (Nat → Int32) → Int32 → Option (Int32 × (Nat → Int32) × (Nat → Int32) × Int32)) (x4 : Int32) (w5 : Nat → Int32) (w6 : Nat → Int32) (w7 : Int32) : Option (Int32 × (Nat → Int32) × (Nat → Int32) × Int32) := (if p0 ≤ x4 then k12 w5 w6 w7 else (m_X9_notes F w5 w6 w7).bind (fun v16 => (m_X9_goesBy F w5 0).bind (fun v17 => bnd (x4 + 1) (fun x18 => r14 x18 v17 v16.1 v16.2))))
def m_X9_nights_L33 (p0 : Int32) (F : Nat) (k12 : (Nat → Int32) → (Nat → Int32) → Int32 → Option (Int32 × (Nat → Int32) × (Nat → Int32) × Int32)) : Nat → Int32 → (Nat → Int32) → (Nat → Int32) → Int32 → Option (Int32 × (Nat → Int32) × (Nat → Int32) × Int32)
  | 0 => fun _ _ _ _ => none
  | nF + 1 => m_X9_nights_L33s p0 F k12 (m_X9_nights_L33 p0 F k12 nF)
def m_X9_nights (F : Nat) (t_now : Nat → Int32) (t_undone : Nat → Int32) (t_undos : Int32) (p0 : Int32) : Option (Int32 × (Nat → Int32) × (Nat → Int32) × Int32) := (m_X9_in (p0.toInt64) (1 : Int64) (40 : Int64)).bind (fun v1 => (if v1 = 0 then some ((-1), t_now, t_undone, t_undos) else (if ((t_now 1) + p0) ≤ 9999 then m_X9_nights_L33 p0 F (fun (w8 : Nat → Int32) (w9 : Nat → Int32) (w10 : Int32) => (m_X9_standing F w8).bind (fun v11 => some (v11, w8, w9, w10))) F 0 t_now t_undone t_undos else some ((-3), t_now, t_undone, t_undos))))
set_option maxHeartbeats 4000000 in
set_option maxRecDepth 100000 in
theorem c_X9_nights (l : Launch) (D : va_G) (cy : Nat → ClassId) (a_t : Nat) (a_t_now : Nat) (a_t_undone : Nat) (sz : Nat) (g_t_tape : Value) (g_t_typed : Value) (g_t_place : Value) (g_t_isFault : Value) (g_t_readLaw : Value) (g_t_read : Value) (g_t_aside : Value) (g_t_coat : Value) (g_t_bestCoats : Value) (g_t_bestStand : Value) (g_t_bestPaint : Value) (g_t_kept : Value) (g_t_keptUndos : Value) (g_t_isKept : Value) (g_t_lanes : Value) (g_t_sizes : Value) (g_t_items : Value) (g_t_moved : Value) (t_now : Nat → Int32) (t_undone : Nat → Int32) (t_undos : Int32) (p0 : Int32) (F : Nat) (out : Int32 × (Nat → Int32) × (Nat → Int32) × Int32) (h : m_X9_nights F t_now t_undone t_undos p0 = some out) : MetM l D cy yX9_nights cX9_nights 3 (some .int) (rmG 6 134) [.ref a_t, .int p0] sz [(a_t, .inr (9, [.ref a_t_now, g_t_tape, g_t_typed, g_t_place, g_t_isFault, g_t_readLaw, g_t_read, .ref a_t_undone, .int t_undos, g_t_aside, g_t_coat, g_t_bestCoats, g_t_bestStand, g_t_bestPaint, g_t_kept, g_t_keptUndos, g_t_isKept, g_t_lanes, g_t_sizes, g_t_items, g_t_moved])), (a_t_now, .inl (cy 0, 24, .inl t_now)), (a_t_undone, .inl (cy 0, 112, .inl t_undone))] (some (.int out.1)) [(a_t, .inr (9, [.ref a_t_now, g_t_tape, g_t_typed, g_t_place, g_t_isFault, g_t_readLaw, g_t_read, .ref a_t_undone, .int out.2.2.2, g_t_aside, g_t_coat, g_t_bestCoats, g_t_bestStand, g_t_bestPaint, g_t_kept, g_t_keptUndos, g_t_isKept, g_t_lanes, g_t_sizes, g_t_items, g_t_moved])), (a_t_now, .inl (cy 0, 24, .inl out.2.1)), (a_t_undone, .inl (cy 0, 112, .inl out.2.2.1))] := by
  refine startMi (own := RX9) (by decide) rfl (Nat.le_of_ble_eq_true rfl) ?_
  intro p e s m below meth c QQ A hx hb hml hown hg hK hP hD hS hA hret ls hl
  have hl : lv_has ls 3 [(0, .ref a_t), (1, .int p0)] := hl
  unfold m_X9_nights at h
  refine lv_iload_n hx hb dX9_nights_0 rfl (lv_at hl 1 rfl) ?_
  refine lv_i2l (v := p0.toInt64) hx hb dX9_nights_1 rfl ?_
  refine lv_lconst (v := 1) hx hb dX9_nights_2 kL_1 ?_
  refine lv_ldc2 (v := 40) hx hb hown (hg _ q_1140) dX9_nights_3 ?_
  obtain ⟨v1, hv1, h⟩ := bind_e h
  refine callRS (As := [.long (p0.toInt64), .long 1, .long 40]) (rest := []) (v0 := .int v1) hx hb hml hown hg (c_X9_in l D cy (p0.toInt64) (1 : Int64) (40 : Int64) v1 hv1) q_1016 q_1014 q_63 q_1015 hd_X9_in ⟨(Nat.le_of_ble_eq_true rfl), (Nat.le_of_ble_eq_true rfl)⟩ hK hP [] rfl rfl rfl rfl hl.1 rfl (Nat.le_of_ble_eq_true rfl) dX9_nights_6 ?_
  refine lv_if_ne (tgt := 14) hx hb dX9_nights_9 (by decide) (fun c2 => ?_) (fun c2 => ?_)
  · have h := it_f c2 h
    refine lv_aload_n hx hb dX9_nights_14 rfl (lv_at hl 0 rfl) ?_
    refine va_get (D := D) (ci := 9) (v := .ref a_t_now) (C := RX9) (T := TX9) (N := 21) hx hb hg inG_X9 hown hK hP 0 rfl rfl 0 (by decide) (hg _ q_945) (fun _ h9 => h9) rfl dX9_nights_15 ?_
    refine lv_iconst (v := 1) hx hb dX9_nights_18 kI_1 ?_
    refine ialdK hx hb hK hP 1 0 rfl rfl (vp_in_inb (by decide)) kN_1 dX9_nights_19 ?_
    refine lv_iload_n hx hb dX9_nights_20 rfl (lv_at hl 1 rfl) ?_
    refine lv_iadd hx hb dX9_nights_21 ?_
    refine lv_sipush (v := 9999) hx hb dX9_nights_22 kS_9999 ?_
    refine lv_icmp_le (tgt := 31) hx hb dX9_nights_25 (by decide) (fun c3 => ?_) (fun c3 => ?_)
    · have h := it_t c3 h
      refine lv_iconst (v := 0) hx hb dX9_nights_31 kI_0 ?_
      refine lv_istore_n (lv' := [(2, .int 0), (0, .ref a_t), (1, .int p0)]) hx hb dX9_nights_32 rfl hl (by decide) rfl (fun ls hl => ?_)
      obtain ⟨k12, hk12, h⟩ := kap (fun z => m_X9_nights_L33 p0 F z F 0 t_now t_undone t_undos) h
      have J12 : ∀ (w8 : Nat → Int32) (w9 : Nat → Int32) (w10 : Int32) (H : Heap) (locs : List Loc) (ls : Array Slot), va_P D vwCl [(a_t, .inr (9, [.ref a_t_now, g_t_tape, g_t_typed, g_t_place, g_t_isFault, g_t_readLaw, g_t_read, .ref a_t_undone, .int w10, g_t_aside, g_t_coat, g_t_bestCoats, g_t_bestStand, g_t_bestPaint, g_t_kept, g_t_keptUndos, g_t_isKept, g_t_lanes, g_t_sizes, g_t_items, g_t_moved])), (a_t_now, .inl (cy 0, 24, .inl w8)), (a_t_undone, .inl (cy 0, 112, .inl w9))] H → va_D A [(a_t, .inr (9, [.ref a_t_now, g_t_tape, g_t_typed, g_t_place, g_t_isFault, g_t_readLaw, g_t_read, .ref a_t_undone, .int w10, g_t_aside, g_t_coat, g_t_bestCoats, g_t_bestStand, g_t_bestPaint, g_t_kept, g_t_keptUndos, g_t_isKept, g_t_lanes, g_t_sizes, g_t_items, g_t_moved])), (a_t_now, .inl (cy 0, 24, .inl w8)), (a_t_undone, .inl (cy 0, 112, .inl w9))] → va_S A s.heap H locs → lv_has ls 3 [(0, .ref a_t)] → k12 w8 w9 w10 = some out → W p l e (rmG 6 134) s m [.ref a_t, .int p0].toArray below meth c H locs 0 0 QQ (F0 m 53 ls []) := by
        intro w8 w9 w10 H locs ls hP hD hS hl h
        rw [hk12] at h
        refine lv_aload_n hx hb dX9_nights_53 rfl (lv_at hl 0 rfl) ?_
        obtain ⟨v11, hv11, h⟩ := bind_e h
        refine callRV (As := []) (rest := []) (v0 := .int v11) hx hb hml hown hg (c_X9_standing l D cy a_t a_t_now (g_t_tape) (g_t_typed) (g_t_place) (g_t_isFault) (g_t_readLaw) (g_t_read) (.ref a_t_undone) (.int w10) (g_t_aside) (g_t_coat) (g_t_bestCoats) (g_t_bestStand) (g_t_bestPaint) (g_t_kept) (g_t_keptUndos) (g_t_isKept) (g_t_lanes) (g_t_sizes) (g_t_items) (g_t_moved) w8 F v11 hv11) q_1077 q_1074 q_63 q_1076 q_33 hd_X9_standing ⟨(Nat.le_of_ble_eq_true rfl), (Nat.le_of_ble_eq_true rfl)⟩ hK hP [0, 1] rfl 0 9 rfl rfl rfl rfl rfl rfl hl.1 rfl (Nat.le_of_ble_eq_true rfl) dX9_nights_54 ?_
        exact hret _ _ _ _ ls 57 dX9_nights_57 rfl (by rw [← Option.some.inj h]) (by rw [← Option.some.inj h]) hP hD hS
      have L13 : ∀ (n13 : Nat) (x4 : Int32) (w5 : Nat → Int32) (w6 : Nat → Int32) (w7 : Int32) (H : Heap) (locs : List Loc) (ls : Array Slot), va_P D vwCl [(a_t, .inr (9, [.ref a_t_now, g_t_tape, g_t_typed, g_t_place, g_t_isFault, g_t_readLaw, g_t_read, .ref a_t_undone, .int w7, g_t_aside, g_t_coat, g_t_bestCoats, g_t_bestStand, g_t_bestPaint, g_t_kept, g_t_keptUndos, g_t_isKept, g_t_lanes, g_t_sizes, g_t_items, g_t_moved])), (a_t_now, .inl (cy 0, 24, .inl w5)), (a_t_undone, .inl (cy 0, 112, .inl w6))] H → va_D A [(a_t, .inr (9, [.ref a_t_now, g_t_tape, g_t_typed, g_t_place, g_t_isFault, g_t_readLaw, g_t_read, .ref a_t_undone, .int w7, g_t_aside, g_t_coat, g_t_bestCoats, g_t_bestStand, g_t_bestPaint, g_t_kept, g_t_keptUndos, g_t_isKept, g_t_lanes, g_t_sizes, g_t_items, g_t_moved])), (a_t_now, .inl (cy 0, 24, .inl w5)), (a_t_undone, .inl (cy 0, 112, .inl w6))] → va_S A s.heap H locs → lv_has ls 3 [(2, .int x4), (0, .ref a_t), (1, .int p0)] → m_X9_nights_L33 p0 F k12 n13 x4 w5 w6 w7 = some out → W p l e (rmG 6 134) s m [.ref a_t, .int p0].toArray below meth c H locs 0 0 QQ (F0 m 33 ls []) := by
        intro n13
        induction n13 with
        | zero => intro x4 w5 w6 w7 H locs ls hP hD hS hl h; exact nomatch (show (none : Option (Int32 × (Nat → Int32) × (Nat → Int32) × Int32)) = some out from h)
        | succ n13 ih =>
            intro x4 w5 w6 w7 H locs ls hP hD hS hl h
            have h : m_X9_nights_L33s p0 F k12 (m_X9_nights_L33 p0 F k12 n13) x4 w5 w6 w7 = some out := h
            unfold m_X9_nights_L33s at h
            refine lv_iload_n hx hb dX9_nights_33 rfl (lv_at hl 0 rfl) ?_
            refine lv_iload_n hx hb dX9_nights_34 rfl (lv_at hl 2 rfl) ?_
            refine lv_icmp_ge (tgt := 53) hx hb dX9_nights_35 (by decide) (fun c15 => ?_) (fun c15 => ?_)
            · have h := it_t c15 h
              exact J12 w5 w6 w7 _ _ _ hP hD hS (lv_sub hl [1] rfl) h
            · have h := it_f c15 h
              refine lv_aload_n hx hb dX9_nights_38 rfl (lv_at hl 1 rfl) ?_
              obtain ⟨v16, hv16, h⟩ := bind_e h
              refine callMV (As := []) (rest := []) (wr := []) (w2 := [(a_t, .inr (9, [.ref a_t_now, g_t_tape, g_t_typed, g_t_place, g_t_isFault, g_t_readLaw, g_t_read, .ref a_t_undone, .int v16.2, g_t_aside, g_t_coat, g_t_bestCoats, g_t_bestStand, g_t_bestPaint, g_t_kept, g_t_keptUndos, g_t_isKept, g_t_lanes, g_t_sizes, g_t_items, g_t_moved])), (a_t_now, .inl (cy 0, 24, .inl w5)), (a_t_undone, .inl (cy 0, 112, .inl v16.1))]) hx hb hml hown hg (c_X9_notes l D cy a_t a_t_now a_t_undone _ (g_t_tape) (g_t_typed) (g_t_place) (g_t_isFault) (g_t_readLaw) (g_t_read) (g_t_aside) (g_t_coat) (g_t_bestCoats) (g_t_bestStand) (g_t_bestPaint) (g_t_kept) (g_t_keptUndos) (g_t_isKept) (g_t_lanes) (g_t_sizes) (g_t_items) (g_t_moved) w5 w6 w7 F v16 hv16) q_1144 q_1141 q_63 q_1143 q_41 hd_X9_notes ⟨(Nat.le_of_ble_eq_true rfl), (Nat.le_of_ble_eq_true rfl)⟩ hK hP hD hS hA [0, 1, 2] [] rfl rfl rfl rfl (by decide) [0, 1, 2] rfl rfl 0 9 rfl rfl rfl rfl rfl rfl hl.1 rfl rfl (Nat.le_of_ble_eq_true rfl) dX9_nights_39 (fun H locs hP hD hS => ?_)
              refine lv_aload_n hx hb dX9_nights_42 rfl (lv_at hl 1 rfl) ?_
              refine lv_iconst (v := 0) hx hb dX9_nights_43 kI_0 ?_
              obtain ⟨v17, hv17, h⟩ := bind_e h
              refine callMV (As := [.int 0]) (rest := []) (wr := [(a_t_undone, .inl (cy 0, 112, .inl v16.1))]) (w2 := [(a_t, .inr (9, [.ref a_t_now, g_t_tape, g_t_typed, g_t_place, g_t_isFault, g_t_readLaw, g_t_read, .ref a_t_undone, .int v16.2, g_t_aside, g_t_coat, g_t_bestCoats, g_t_bestStand, g_t_bestPaint, g_t_kept, g_t_keptUndos, g_t_isKept, g_t_lanes, g_t_sizes, g_t_items, g_t_moved])), (a_t_now, .inl (cy 0, 24, .inl v17)), (a_t_undone, .inl (cy 0, 112, .inl v16.1))]) hx hb hml hown hg (c_X9_goesBy l D cy a_t a_t_now _ (g_t_tape) (g_t_typed) (g_t_place) (g_t_isFault) (g_t_readLaw) (g_t_read) (.ref a_t_undone) (.int v16.2) (g_t_aside) (g_t_coat) (g_t_bestCoats) (g_t_bestStand) (g_t_bestPaint) (g_t_kept) (g_t_keptUndos) (g_t_isKept) (g_t_lanes) (g_t_sizes) (g_t_items) (g_t_moved) w5 0 F v17 hv17) q_1148 q_1145 q_63 q_1147 q_42 hd_X9_goesBy ⟨(Nat.le_of_ble_eq_true rfl), (Nat.le_of_ble_eq_true rfl)⟩ hK hP hD hS hA [0, 1] [2] rfl rfl rfl rfl (by decide) [1, 2, 0] rfl rfl 0 9 rfl rfl rfl rfl rfl rfl hl.1 rfl rfl (Nat.le_of_ble_eq_true rfl) dX9_nights_44 (fun H locs hP hD hS => ?_)
              obtain ⟨x18, ex18⟩ : ∃ y : Int32, y = x4 + 1 := ⟨_, rfl⟩
              have h := bnd_e ex18 h
              refine lv_iinc (v := x18) (lv' := [(2, .int x18), (0, .ref a_t), (1, .int p0)]) hx hb dX9_nights_47 hl (k := 0) rfl (inc_e kI_1 ex18) (by decide) rfl (fun ls hl => ?_)
              refine lv_goto (tgt := 33) hx hb dX9_nights_50 (by decide) ?_
              exact ih x18 v17 v16.1 v16.2 _ _ _ hP hD hS (lv_sub hl [0, 1, 2] rfl) h
      exact L13 F 0 t_now t_undone t_undos _ _ _ hP hD hS (lv_sub hl [0, 1, 2] rfl) h
    · have h := it_f c3 h
      refine lv_bipush (v := (-3)) hx hb dX9_nights_28 kB_m3 ?_
      exact hret _ _ _ _ ls 30 dX9_nights_30 rfl (by rw [← Option.some.inj h]) (by rw [← Option.some.inj h]) hP hD hS
  · have h := it_t c2 h
    refine lv_iconst (v := (-1)) hx hb dX9_nights_12 kI_m1 ?_
    exact hret _ _ _ _ ls 13 dX9_nights_13 rfl (by rw [← Option.some.inj h]) (by rw [← Option.some.inj h]) hP hD hS

def m_X9_march (F : Nat) (t_now : Nat → Int32) (t_undone : Nat → Int32) (t_undos : Int32) (p0 : Int32) (p1 : Int32) : Option (Int32 × (Nat → Int32) × (Nat → Int32) × Int32) := (m_X9_isMan t_now p0).bind (fun v1 => (if v1 = 0 then some ((-1), t_now, t_undone, t_undos) else (m_X9_isInch p1).bind (fun v3 => (if v3 = 0 then some ((-1), t_now, t_undone, t_undos) else (m_X9_stands t_now p0).bind (fun v5 => (if v5 = 0 then some ((-2), t_now, t_undone, t_undos) else (m_X9_whoAt F t_now p1).bind (fun v7 => (if v7 = (-4) then (m_X9_notes F t_now t_undone t_undos).bind (fun v9 => (m_X9_inchOf t_now p0).bind (fun v10 => (m_X9_goesTo t_now p0 p1).bind (fun v11 => some (v10, v11, v9.1, v9.2)))) else some ((-2), t_now, t_undone, t_undos)))))))))
set_option maxHeartbeats 4000000 in
set_option maxRecDepth 100000 in
theorem c_X9_march (l : Launch) (D : va_G) (cy : Nat → ClassId) (a_t : Nat) (a_t_now : Nat) (a_t_undone : Nat) (sz : Nat) (g_t_tape : Value) (g_t_typed : Value) (g_t_place : Value) (g_t_isFault : Value) (g_t_readLaw : Value) (g_t_read : Value) (g_t_aside : Value) (g_t_coat : Value) (g_t_bestCoats : Value) (g_t_bestStand : Value) (g_t_bestPaint : Value) (g_t_kept : Value) (g_t_keptUndos : Value) (g_t_isKept : Value) (g_t_lanes : Value) (g_t_sizes : Value) (g_t_items : Value) (g_t_moved : Value) (t_now : Nat → Int32) (t_undone : Nat → Int32) (t_undos : Int32) (p0 : Int32) (p1 : Int32) (F : Nat) (out : Int32 × (Nat → Int32) × (Nat → Int32) × Int32) (h : m_X9_march F t_now t_undone t_undos p0 p1 = some out) : MetM l D cy yX9_march cX9_march 4 (some .int) (rmG 3 66) [.ref a_t, .int p0, .int p1] sz [(a_t, .inr (9, [.ref a_t_now, g_t_tape, g_t_typed, g_t_place, g_t_isFault, g_t_readLaw, g_t_read, .ref a_t_undone, .int t_undos, g_t_aside, g_t_coat, g_t_bestCoats, g_t_bestStand, g_t_bestPaint, g_t_kept, g_t_keptUndos, g_t_isKept, g_t_lanes, g_t_sizes, g_t_items, g_t_moved])), (a_t_now, .inl (cy 0, 24, .inl t_now)), (a_t_undone, .inl (cy 0, 112, .inl t_undone))] (some (.int out.1)) [(a_t, .inr (9, [.ref a_t_now, g_t_tape, g_t_typed, g_t_place, g_t_isFault, g_t_readLaw, g_t_read, .ref a_t_undone, .int out.2.2.2, g_t_aside, g_t_coat, g_t_bestCoats, g_t_bestStand, g_t_bestPaint, g_t_kept, g_t_keptUndos, g_t_isKept, g_t_lanes, g_t_sizes, g_t_items, g_t_moved])), (a_t_now, .inl (cy 0, 24, .inl out.2.1)), (a_t_undone, .inl (cy 0, 112, .inl out.2.2.1))] := by
  refine startMi (own := RX9) (by decide) rfl (Nat.le_of_ble_eq_true rfl) ?_
  intro p e s m below meth c QQ A hx hb hml hown hg hK hP hD hS hA hret ls hl
  have hl : lv_has ls 4 [(0, .ref a_t), (1, .int p0), (2, .int p1)] := hl
  unfold m_X9_march at h
  refine lv_aload_n hx hb dX9_march_0 rfl (lv_at hl 0 rfl) ?_
  refine lv_iload_n hx hb dX9_march_1 rfl (lv_at hl 1 rfl) ?_
  obtain ⟨v1, hv1, h⟩ := bind_e h
  refine callRV (As := [.int p0]) (rest := []) (v0 := .int v1) hx hb hml hown hg (c_X9_isMan l D cy a_t a_t_now (g_t_tape) (g_t_typed) (g_t_place) (g_t_isFault) (g_t_readLaw) (g_t_read) (.ref a_t_undone) (.int t_undos) (g_t_aside) (g_t_coat) (g_t_bestCoats) (g_t_bestStand) (g_t_bestPaint) (g_t_kept) (g_t_keptUndos) (g_t_isKept) (g_t_lanes) (g_t_sizes) (g_t_items) (g_t_moved) t_now p0 v1 hv1) q_1051 q_1048 q_63 q_1050 q_28 hd_X9_isMan ⟨(Nat.le_of_ble_eq_true rfl), (Nat.le_of_ble_eq_true rfl)⟩ hK hP [0, 1] rfl 0 9 rfl rfl rfl rfl rfl rfl hl.1 rfl (Nat.le_of_ble_eq_true rfl) dX9_march_2 ?_
  refine lv_if_eq (tgt := 15) hx hb dX9_march_5 (by decide) (fun c2 => ?_) (fun c2 => ?_)
  · have h := it_t c2 h
    refine lv_iconst (v := (-1)) hx hb dX9_march_15 kI_m1 ?_
    exact hret _ _ _ _ ls 16 dX9_march_16 rfl (by rw [← Option.some.inj h]) (by rw [← Option.some.inj h]) hP hD hS
  · have h := it_f c2 h
    refine lv_iload_n hx hb dX9_march_8 rfl (lv_at hl 2 rfl) ?_
    obtain ⟨v3, hv3, h⟩ := bind_e h
    refine callRS (As := [.int p1]) (rest := []) (v0 := .int v3) hx hb hml hown hg (c_X9_isInch l D cy p1 v3 hv3) q_1020 q_1018 q_63 q_1019 hd_X9_isInch ⟨(Nat.le_of_ble_eq_true rfl), (Nat.le_of_ble_eq_true rfl)⟩ hK hP [] rfl rfl rfl rfl hl.1 rfl (Nat.le_of_ble_eq_true rfl) dX9_march_9 ?_
    refine lv_if_ne (tgt := 17) hx hb dX9_march_12 (by decide) (fun c4 => ?_) (fun c4 => ?_)
    · have h := it_f c4 h
      refine lv_aload_n hx hb dX9_march_17 rfl (lv_at hl 0 rfl) ?_
      refine lv_iload_n hx hb dX9_march_18 rfl (lv_at hl 1 rfl) ?_
      obtain ⟨v5, hv5, h⟩ := bind_e h
      refine callRV (As := [.int p0]) (rest := []) (v0 := .int v5) hx hb hml hown hg (c_X9_stands l D cy a_t a_t_now (g_t_tape) (g_t_typed) (g_t_place) (g_t_isFault) (g_t_readLaw) (g_t_read) (.ref a_t_undone) (.int t_undos) (g_t_aside) (g_t_coat) (g_t_bestCoats) (g_t_bestStand) (g_t_bestPaint) (g_t_kept) (g_t_keptUndos) (g_t_isKept) (g_t_lanes) (g_t_sizes) (g_t_items) (g_t_moved) t_now p0 v5 hv5) q_1067 q_1064 q_63 q_1066 q_32 hd_X9_stands ⟨(Nat.le_of_ble_eq_true rfl), (Nat.le_of_ble_eq_true rfl)⟩ hK hP [0, 1] rfl 0 9 rfl rfl rfl rfl rfl rfl hl.1 rfl (Nat.le_of_ble_eq_true rfl) dX9_march_19 ?_
      refine lv_if_eq (tgt := 35) hx hb dX9_march_22 (by decide) (fun c6 => ?_) (fun c6 => ?_)
      · have h := it_t c6 h
        refine lv_bipush (v := (-2)) hx hb dX9_march_35 kB_m2 ?_
        exact hret _ _ _ _ ls 37 dX9_march_37 rfl (by rw [← Option.some.inj h]) (by rw [← Option.some.inj h]) hP hD hS
      · have h := it_f c6 h
        refine lv_aload_n hx hb dX9_march_25 rfl (lv_at hl 0 rfl) ?_
        refine lv_iload_n hx hb dX9_march_26 rfl (lv_at hl 2 rfl) ?_
        obtain ⟨v7, hv7, h⟩ := bind_e h
        refine callRV (As := [.int p1]) (rest := []) (v0 := .int v7) hx hb hml hown hg (c_X9_whoAt l D cy a_t a_t_now (g_t_tape) (g_t_typed) (g_t_place) (g_t_isFault) (g_t_readLaw) (g_t_read) (.ref a_t_undone) (.int t_undos) (g_t_aside) (g_t_coat) (g_t_bestCoats) (g_t_bestStand) (g_t_bestPaint) (g_t_kept) (g_t_keptUndos) (g_t_isKept) (g_t_lanes) (g_t_sizes) (g_t_items) (g_t_moved) t_now p1 F v7 hv7) q_1025 q_1022 q_63 q_1024 q_24 hd_X9_whoAt ⟨(Nat.le_of_ble_eq_true rfl), (Nat.le_of_ble_eq_true rfl)⟩ hK hP [0, 1] rfl 0 9 rfl rfl rfl rfl rfl rfl hl.1 rfl (Nat.le_of_ble_eq_true rfl) dX9_march_27 ?_
        refine lv_bipush (v := (-4)) hx hb dX9_march_30 kB_m4 ?_
        refine lv_icmp_eq (tgt := 38) hx hb dX9_march_32 (by decide) (fun c8 => ?_) (fun c8 => ?_)
        · have h := it_t c8 h
          refine lv_aload_n hx hb dX9_march_38 rfl (lv_at hl 0 rfl) ?_
          obtain ⟨v9, hv9, h⟩ := bind_e h
          refine callMV (As := []) (rest := []) (wr := []) (w2 := [(a_t, .inr (9, [.ref a_t_now, g_t_tape, g_t_typed, g_t_place, g_t_isFault, g_t_readLaw, g_t_read, .ref a_t_undone, .int v9.2, g_t_aside, g_t_coat, g_t_bestCoats, g_t_bestStand, g_t_bestPaint, g_t_kept, g_t_keptUndos, g_t_isKept, g_t_lanes, g_t_sizes, g_t_items, g_t_moved])), (a_t_now, .inl (cy 0, 24, .inl t_now)), (a_t_undone, .inl (cy 0, 112, .inl v9.1))]) hx hb hml hown hg (c_X9_notes l D cy a_t a_t_now a_t_undone _ (g_t_tape) (g_t_typed) (g_t_place) (g_t_isFault) (g_t_readLaw) (g_t_read) (g_t_aside) (g_t_coat) (g_t_bestCoats) (g_t_bestStand) (g_t_bestPaint) (g_t_kept) (g_t_keptUndos) (g_t_isKept) (g_t_lanes) (g_t_sizes) (g_t_items) (g_t_moved) t_now t_undone t_undos F v9 hv9) q_1144 q_1141 q_63 q_1143 q_41 hd_X9_notes ⟨(Nat.le_of_ble_eq_true rfl), (Nat.le_of_ble_eq_true rfl)⟩ hK hP hD hS hA [0, 1, 2] [] rfl rfl rfl rfl (by decide) [0, 1, 2] rfl rfl 0 9 rfl rfl rfl rfl rfl rfl hl.1 rfl rfl (Nat.le_of_ble_eq_true rfl) dX9_march_39 (fun H locs hP hD hS => ?_)
          refine lv_aload_n hx hb dX9_march_42 rfl (lv_at hl 0 rfl) ?_
          refine lv_iload_n hx hb dX9_march_43 rfl (lv_at hl 1 rfl) ?_
          obtain ⟨v10, hv10, h⟩ := bind_e h
          refine callRV (As := [.int p0]) (rest := []) (v0 := .int v10) hx hb hml hown hg (c_X9_inchOf l D cy a_t a_t_now (g_t_tape) (g_t_typed) (g_t_place) (g_t_isFault) (g_t_readLaw) (g_t_read) (.ref a_t_undone) (.int v9.2) (g_t_aside) (g_t_coat) (g_t_bestCoats) (g_t_bestStand) (g_t_bestPaint) (g_t_kept) (g_t_keptUndos) (g_t_isKept) (g_t_lanes) (g_t_sizes) (g_t_items) (g_t_moved) t_now p0 v10 hv10) q_1029 q_1026 q_63 q_1028 q_25 hd_X9_inchOf ⟨(Nat.le_of_ble_eq_true rfl), (Nat.le_of_ble_eq_true rfl)⟩ hK hP [0, 1] rfl 0 9 rfl rfl rfl rfl rfl rfl hl.1 rfl (Nat.le_of_ble_eq_true rfl) dX9_march_44 ?_
          refine lv_istore_n (lv' := [(3, .int v10), (0, .ref a_t), (1, .int p0), (2, .int p1)]) hx hb dX9_march_47 rfl hl (by decide) rfl (fun ls hl => ?_)
          refine lv_aload_n hx hb dX9_march_48 rfl (lv_at hl 1 rfl) ?_
          refine lv_iload_n hx hb dX9_march_49 rfl (lv_at hl 2 rfl) ?_
          refine lv_iload_n hx hb dX9_march_50 rfl (lv_at hl 3 rfl) ?_
          obtain ⟨v11, hv11, h⟩ := bind_e h
          refine callMV (As := [.int p0, .int p1]) (rest := []) (wr := [(a_t_undone, .inl (cy 0, 112, .inl v9.1))]) (w2 := [(a_t, .inr (9, [.ref a_t_now, g_t_tape, g_t_typed, g_t_place, g_t_isFault, g_t_readLaw, g_t_read, .ref a_t_undone, .int v9.2, g_t_aside, g_t_coat, g_t_bestCoats, g_t_bestStand, g_t_bestPaint, g_t_kept, g_t_keptUndos, g_t_isKept, g_t_lanes, g_t_sizes, g_t_items, g_t_moved])), (a_t_now, .inl (cy 0, 24, .inl v11)), (a_t_undone, .inl (cy 0, 112, .inl v9.1))]) hx hb hml hown hg (c_X9_goesTo l D cy a_t a_t_now _ (g_t_tape) (g_t_typed) (g_t_place) (g_t_isFault) (g_t_readLaw) (g_t_read) (.ref a_t_undone) (.int v9.2) (g_t_aside) (g_t_coat) (g_t_bestCoats) (g_t_bestStand) (g_t_bestPaint) (g_t_kept) (g_t_keptUndos) (g_t_isKept) (g_t_lanes) (g_t_sizes) (g_t_items) (g_t_moved) t_now p0 p1 v11 hv11) q_1152 q_1149 q_63 q_1151 q_43 hd_X9_goesTo ⟨(Nat.le_of_ble_eq_true rfl), (Nat.le_of_ble_eq_true rfl)⟩ hK hP hD hS hA [0, 1] [2] rfl rfl rfl rfl (by decide) [1, 2, 0] rfl rfl 0 9 rfl rfl rfl rfl rfl rfl hl.1 rfl rfl (Nat.le_of_ble_eq_true rfl) dX9_march_51 (fun H locs hP hD hS => ?_)
          refine lv_iload_n hx hb dX9_march_54 rfl (lv_at hl 0 rfl) ?_
          exact hret _ _ _ _ ls 55 dX9_march_55 rfl (by rw [← Option.some.inj h]) (by rw [← Option.some.inj h]) hP hD hS
        · have h := it_f c8 h
          refine lv_bipush (v := (-2)) hx hb dX9_march_35 kB_m2 ?_
          exact hret _ _ _ _ ls 37 dX9_march_37 rfl (by rw [← Option.some.inj h]) (by rw [← Option.some.inj h]) hP hD hS
    · have h := it_t c4 h
      refine lv_iconst (v := (-1)) hx hb dX9_march_15 kI_m1 ?_
      exact hret _ _ _ _ ls 16 dX9_march_16 rfl (by rw [← Option.some.inj h]) (by rw [← Option.some.inj h]) hP hD hS

def m_X9_put (F : Nat) (t_now : Nat → Int32) (t_undone : Nat → Int32) (t_undos : Int32) (p0 : Int32) (p1 : Int32) : Option (Int32 × (Nat → Int32) × (Nat → Int32) × Int32) := (m_X9_isMan t_now p0).bind (fun v1 => (if v1 = 0 then some ((-1), t_now, t_undone, t_undos) else (m_X9_isInch p1).bind (fun v3 => (if v3 = 0 then some ((-1), t_now, t_undone, t_undos) else (m_X9_stands t_now p0).bind (fun v5 => (if v5 = 0 then (m_X9_whoAt F t_now p1).bind (fun v7 => (if v7 = (-4) then (m_X9_notes F t_now t_undone t_undos).bind (fun v9 => (m_X9_goesTo t_now p0 p1).bind (fun v10 => (m_X9_standing F v10).bind (fun v11 => (m_X9_many F v11).bind (fun v12 => some (v12, v10, v9.1, v9.2))))) else some ((-2), t_now, t_undone, t_undos))) else some ((-2), t_now, t_undone, t_undos)))))))
set_option maxHeartbeats 4000000 in
set_option maxRecDepth 100000 in
theorem c_X9_put (l : Launch) (D : va_G) (cy : Nat → ClassId) (a_t : Nat) (a_t_now : Nat) (a_t_undone : Nat) (sz : Nat) (g_t_tape : Value) (g_t_typed : Value) (g_t_place : Value) (g_t_isFault : Value) (g_t_readLaw : Value) (g_t_read : Value) (g_t_aside : Value) (g_t_coat : Value) (g_t_bestCoats : Value) (g_t_bestStand : Value) (g_t_bestPaint : Value) (g_t_kept : Value) (g_t_keptUndos : Value) (g_t_isKept : Value) (g_t_lanes : Value) (g_t_sizes : Value) (g_t_items : Value) (g_t_moved : Value) (t_now : Nat → Int32) (t_undone : Nat → Int32) (t_undos : Int32) (p0 : Int32) (p1 : Int32) (F : Nat) (out : Int32 × (Nat → Int32) × (Nat → Int32) × Int32) (h : m_X9_put F t_now t_undone t_undos p0 p1 = some out) : MetM l D cy yX9_put cX9_put 3 (some .int) (rmG 4 86) [.ref a_t, .int p0, .int p1] sz [(a_t, .inr (9, [.ref a_t_now, g_t_tape, g_t_typed, g_t_place, g_t_isFault, g_t_readLaw, g_t_read, .ref a_t_undone, .int t_undos, g_t_aside, g_t_coat, g_t_bestCoats, g_t_bestStand, g_t_bestPaint, g_t_kept, g_t_keptUndos, g_t_isKept, g_t_lanes, g_t_sizes, g_t_items, g_t_moved])), (a_t_now, .inl (cy 0, 24, .inl t_now)), (a_t_undone, .inl (cy 0, 112, .inl t_undone))] (some (.int out.1)) [(a_t, .inr (9, [.ref a_t_now, g_t_tape, g_t_typed, g_t_place, g_t_isFault, g_t_readLaw, g_t_read, .ref a_t_undone, .int out.2.2.2, g_t_aside, g_t_coat, g_t_bestCoats, g_t_bestStand, g_t_bestPaint, g_t_kept, g_t_keptUndos, g_t_isKept, g_t_lanes, g_t_sizes, g_t_items, g_t_moved])), (a_t_now, .inl (cy 0, 24, .inl out.2.1)), (a_t_undone, .inl (cy 0, 112, .inl out.2.2.1))] := by
  refine startMi (own := RX9) (by decide) rfl (Nat.le_of_ble_eq_true rfl) ?_
  intro p e s m below meth c QQ A hx hb hml hown hg hK hP hD hS hA hret ls hl
  have hl : lv_has ls 3 [(0, .ref a_t), (1, .int p0), (2, .int p1)] := hl
  unfold m_X9_put at h
  refine lv_aload_n hx hb dX9_put_0 rfl (lv_at hl 0 rfl) ?_
  refine lv_iload_n hx hb dX9_put_1 rfl (lv_at hl 1 rfl) ?_
  obtain ⟨v1, hv1, h⟩ := bind_e h
  refine callRV (As := [.int p0]) (rest := []) (v0 := .int v1) hx hb hml hown hg (c_X9_isMan l D cy a_t a_t_now (g_t_tape) (g_t_typed) (g_t_place) (g_t_isFault) (g_t_readLaw) (g_t_read) (.ref a_t_undone) (.int t_undos) (g_t_aside) (g_t_coat) (g_t_bestCoats) (g_t_bestStand) (g_t_bestPaint) (g_t_kept) (g_t_keptUndos) (g_t_isKept) (g_t_lanes) (g_t_sizes) (g_t_items) (g_t_moved) t_now p0 v1 hv1) q_1051 q_1048 q_63 q_1050 q_28 hd_X9_isMan ⟨(Nat.le_of_ble_eq_true rfl), (Nat.le_of_ble_eq_true rfl)⟩ hK hP [0, 1] rfl 0 9 rfl rfl rfl rfl rfl rfl hl.1 rfl (Nat.le_of_ble_eq_true rfl) dX9_put_2 ?_
  refine lv_if_eq (tgt := 15) hx hb dX9_put_5 (by decide) (fun c2 => ?_) (fun c2 => ?_)
  · have h := it_t c2 h
    refine lv_iconst (v := (-1)) hx hb dX9_put_15 kI_m1 ?_
    exact hret _ _ _ _ ls 16 dX9_put_16 rfl (by rw [← Option.some.inj h]) (by rw [← Option.some.inj h]) hP hD hS
  · have h := it_f c2 h
    refine lv_iload_n hx hb dX9_put_8 rfl (lv_at hl 2 rfl) ?_
    obtain ⟨v3, hv3, h⟩ := bind_e h
    refine callRS (As := [.int p1]) (rest := []) (v0 := .int v3) hx hb hml hown hg (c_X9_isInch l D cy p1 v3 hv3) q_1020 q_1018 q_63 q_1019 hd_X9_isInch ⟨(Nat.le_of_ble_eq_true rfl), (Nat.le_of_ble_eq_true rfl)⟩ hK hP [] rfl rfl rfl rfl hl.1 rfl (Nat.le_of_ble_eq_true rfl) dX9_put_9 ?_
    refine lv_if_ne (tgt := 17) hx hb dX9_put_12 (by decide) (fun c4 => ?_) (fun c4 => ?_)
    · have h := it_f c4 h
      refine lv_aload_n hx hb dX9_put_17 rfl (lv_at hl 0 rfl) ?_
      refine lv_iload_n hx hb dX9_put_18 rfl (lv_at hl 1 rfl) ?_
      obtain ⟨v5, hv5, h⟩ := bind_e h
      refine callRV (As := [.int p0]) (rest := []) (v0 := .int v5) hx hb hml hown hg (c_X9_stands l D cy a_t a_t_now (g_t_tape) (g_t_typed) (g_t_place) (g_t_isFault) (g_t_readLaw) (g_t_read) (.ref a_t_undone) (.int t_undos) (g_t_aside) (g_t_coat) (g_t_bestCoats) (g_t_bestStand) (g_t_bestPaint) (g_t_kept) (g_t_keptUndos) (g_t_isKept) (g_t_lanes) (g_t_sizes) (g_t_items) (g_t_moved) t_now p0 v5 hv5) q_1067 q_1064 q_63 q_1066 q_32 hd_X9_stands ⟨(Nat.le_of_ble_eq_true rfl), (Nat.le_of_ble_eq_true rfl)⟩ hK hP [0, 1] rfl 0 9 rfl rfl rfl rfl rfl rfl hl.1 rfl (Nat.le_of_ble_eq_true rfl) dX9_put_19 ?_
      refine lv_if_ne (tgt := 35) hx hb dX9_put_22 (by decide) (fun c6 => ?_) (fun c6 => ?_)
      · have h := it_f c6 h
        refine lv_bipush (v := (-2)) hx hb dX9_put_35 kB_m2 ?_
        exact hret _ _ _ _ ls 37 dX9_put_37 rfl (by rw [← Option.some.inj h]) (by rw [← Option.some.inj h]) hP hD hS
      · have h := it_t c6 h
        refine lv_aload_n hx hb dX9_put_25 rfl (lv_at hl 0 rfl) ?_
        refine lv_iload_n hx hb dX9_put_26 rfl (lv_at hl 2 rfl) ?_
        obtain ⟨v7, hv7, h⟩ := bind_e h
        refine callRV (As := [.int p1]) (rest := []) (v0 := .int v7) hx hb hml hown hg (c_X9_whoAt l D cy a_t a_t_now (g_t_tape) (g_t_typed) (g_t_place) (g_t_isFault) (g_t_readLaw) (g_t_read) (.ref a_t_undone) (.int t_undos) (g_t_aside) (g_t_coat) (g_t_bestCoats) (g_t_bestStand) (g_t_bestPaint) (g_t_kept) (g_t_keptUndos) (g_t_isKept) (g_t_lanes) (g_t_sizes) (g_t_items) (g_t_moved) t_now p1 F v7 hv7) q_1025 q_1022 q_63 q_1024 q_24 hd_X9_whoAt ⟨(Nat.le_of_ble_eq_true rfl), (Nat.le_of_ble_eq_true rfl)⟩ hK hP [0, 1] rfl 0 9 rfl rfl rfl rfl rfl rfl hl.1 rfl (Nat.le_of_ble_eq_true rfl) dX9_put_27 ?_
        refine lv_bipush (v := (-4)) hx hb dX9_put_30 kB_m4 ?_
        refine lv_icmp_eq (tgt := 38) hx hb dX9_put_32 (by decide) (fun c8 => ?_) (fun c8 => ?_)
        · have h := it_t c8 h
          refine lv_aload_n hx hb dX9_put_38 rfl (lv_at hl 0 rfl) ?_
          obtain ⟨v9, hv9, h⟩ := bind_e h
          refine callMV (As := []) (rest := []) (wr := []) (w2 := [(a_t, .inr (9, [.ref a_t_now, g_t_tape, g_t_typed, g_t_place, g_t_isFault, g_t_readLaw, g_t_read, .ref a_t_undone, .int v9.2, g_t_aside, g_t_coat, g_t_bestCoats, g_t_bestStand, g_t_bestPaint, g_t_kept, g_t_keptUndos, g_t_isKept, g_t_lanes, g_t_sizes, g_t_items, g_t_moved])), (a_t_now, .inl (cy 0, 24, .inl t_now)), (a_t_undone, .inl (cy 0, 112, .inl v9.1))]) hx hb hml hown hg (c_X9_notes l D cy a_t a_t_now a_t_undone _ (g_t_tape) (g_t_typed) (g_t_place) (g_t_isFault) (g_t_readLaw) (g_t_read) (g_t_aside) (g_t_coat) (g_t_bestCoats) (g_t_bestStand) (g_t_bestPaint) (g_t_kept) (g_t_keptUndos) (g_t_isKept) (g_t_lanes) (g_t_sizes) (g_t_items) (g_t_moved) t_now t_undone t_undos F v9 hv9) q_1144 q_1141 q_63 q_1143 q_41 hd_X9_notes ⟨(Nat.le_of_ble_eq_true rfl), (Nat.le_of_ble_eq_true rfl)⟩ hK hP hD hS hA [0, 1, 2] [] rfl rfl rfl rfl (by decide) [0, 1, 2] rfl rfl 0 9 rfl rfl rfl rfl rfl rfl hl.1 rfl rfl (Nat.le_of_ble_eq_true rfl) dX9_put_39 (fun H locs hP hD hS => ?_)
          refine lv_aload_n hx hb dX9_put_42 rfl (lv_at hl 0 rfl) ?_
          refine lv_iload_n hx hb dX9_put_43 rfl (lv_at hl 1 rfl) ?_
          refine lv_iload_n hx hb dX9_put_44 rfl (lv_at hl 2 rfl) ?_
          obtain ⟨v10, hv10, h⟩ := bind_e h
          refine callMV (As := [.int p0, .int p1]) (rest := []) (wr := [(a_t_undone, .inl (cy 0, 112, .inl v9.1))]) (w2 := [(a_t, .inr (9, [.ref a_t_now, g_t_tape, g_t_typed, g_t_place, g_t_isFault, g_t_readLaw, g_t_read, .ref a_t_undone, .int v9.2, g_t_aside, g_t_coat, g_t_bestCoats, g_t_bestStand, g_t_bestPaint, g_t_kept, g_t_keptUndos, g_t_isKept, g_t_lanes, g_t_sizes, g_t_items, g_t_moved])), (a_t_now, .inl (cy 0, 24, .inl v10)), (a_t_undone, .inl (cy 0, 112, .inl v9.1))]) hx hb hml hown hg (c_X9_goesTo l D cy a_t a_t_now _ (g_t_tape) (g_t_typed) (g_t_place) (g_t_isFault) (g_t_readLaw) (g_t_read) (.ref a_t_undone) (.int v9.2) (g_t_aside) (g_t_coat) (g_t_bestCoats) (g_t_bestStand) (g_t_bestPaint) (g_t_kept) (g_t_keptUndos) (g_t_isKept) (g_t_lanes) (g_t_sizes) (g_t_items) (g_t_moved) t_now p0 p1 v10 hv10) q_1152 q_1149 q_63 q_1151 q_43 hd_X9_goesTo ⟨(Nat.le_of_ble_eq_true rfl), (Nat.le_of_ble_eq_true rfl)⟩ hK hP hD hS hA [0, 1] [2] rfl rfl rfl rfl (by decide) [1, 2, 0] rfl rfl 0 9 rfl rfl rfl rfl rfl rfl hl.1 rfl rfl (Nat.le_of_ble_eq_true rfl) dX9_put_45 (fun H locs hP hD hS => ?_)
          refine lv_aload_n hx hb dX9_put_48 rfl (lv_at hl 0 rfl) ?_
          obtain ⟨v11, hv11, h⟩ := bind_e h
          refine callRV (As := []) (rest := []) (v0 := .int v11) hx hb hml hown hg (c_X9_standing l D cy a_t a_t_now (g_t_tape) (g_t_typed) (g_t_place) (g_t_isFault) (g_t_readLaw) (g_t_read) (.ref a_t_undone) (.int v9.2) (g_t_aside) (g_t_coat) (g_t_bestCoats) (g_t_bestStand) (g_t_bestPaint) (g_t_kept) (g_t_keptUndos) (g_t_isKept) (g_t_lanes) (g_t_sizes) (g_t_items) (g_t_moved) v10 F v11 hv11) q_1077 q_1074 q_63 q_1076 q_33 hd_X9_standing ⟨(Nat.le_of_ble_eq_true rfl), (Nat.le_of_ble_eq_true rfl)⟩ hK hP [0, 1] rfl 0 9 rfl rfl rfl rfl rfl rfl hl.1 rfl (Nat.le_of_ble_eq_true rfl) dX9_put_49 ?_
          obtain ⟨v12, hv12, h⟩ := bind_e h
          refine callRS (As := [.int v11]) (rest := []) (v0 := .int v12) hx hb hml hown hg (c_X9_many l D cy v11 F v12 hv12) q_1073 q_1071 q_63 q_1072 hd_X9_many ⟨(Nat.le_of_ble_eq_true rfl), (Nat.le_of_ble_eq_true rfl)⟩ hK hP [] rfl rfl rfl rfl hl.1 rfl (Nat.le_of_ble_eq_true rfl) dX9_put_52 ?_
          exact hret _ _ _ _ ls 55 dX9_put_55 rfl (by rw [← Option.some.inj h]) (by rw [← Option.some.inj h]) hP hD hS
        · have h := it_f c8 h
          refine lv_bipush (v := (-2)) hx hb dX9_put_35 kB_m2 ?_
          exact hret _ _ _ _ ls 37 dX9_put_37 rfl (by rw [← Option.some.inj h]) (by rw [← Option.some.inj h]) hP hD hS
    · have h := it_t c4 h
      refine lv_iconst (v := (-1)) hx hb dX9_put_15 kI_m1 ?_
      exact hret _ _ _ _ ls 16 dX9_put_16 rfl (by rw [← Option.some.inj h]) (by rw [← Option.some.inj h]) hP hD hS

def m_X9_paint (F : Nat) (t_now : Nat → Int32) (t_undone : Nat → Int32) (t_undos : Int32) (p0 : Int32) (p1 : Int32) : Option (Int32 × (Nat → Int32) × (Nat → Int32) × Int32) := (m_X9_isMan t_now p0).bind (fun v1 => (if v1 = 0 then some ((-1), t_now, t_undone, t_undos) else (m_X9_in (p1.toInt64) (1 : Int64) (9 : Int64)).bind (fun v3 => (if v3 = 0 then some ((-1), t_now, t_undone, t_undos) else (m_X9_paintOf t_now p0).bind (fun v5 => (if v5 = 9 then some ((-2), t_now, t_undone, t_undos) else (m_X9_notes F t_now t_undone t_undos).bind (fun v7 => (m_X9_paintOf t_now p0).bind (fun v8 => (m_X9_paints t_now p0 (v8 + p1)).bind (fun v9 => (m_X9_paintOf v9 p0).bind (fun v10 => some (v10, v9, v7.1, v7.2)))))))))))
set_option maxHeartbeats 4000000 in
set_option maxRecDepth 100000 in
theorem c_X9_paint (l : Launch) (D : va_G) (cy : Nat → ClassId) (a_t : Nat) (a_t_now : Nat) (a_t_undone : Nat) (sz : Nat) (g_t_tape : Value) (g_t_typed : Value) (g_t_place : Value) (g_t_isFault : Value) (g_t_readLaw : Value) (g_t_read : Value) (g_t_aside : Value) (g_t_coat : Value) (g_t_bestCoats : Value) (g_t_bestStand : Value) (g_t_bestPaint : Value) (g_t_kept : Value) (g_t_keptUndos : Value) (g_t_isKept : Value) (g_t_lanes : Value) (g_t_sizes : Value) (g_t_items : Value) (g_t_moved : Value) (t_now : Nat → Int32) (t_undone : Nat → Int32) (t_undos : Int32) (p0 : Int32) (p1 : Int32) (F : Nat) (out : Int32 × (Nat → Int32) × (Nat → Int32) × Int32) (h : m_X9_paint F t_now t_undone t_undos p0 p1 = some out) : MetM l D cy yX9_paint cX9_paint 3 (some .int) (rmG 3 65) [.ref a_t, .int p0, .int p1] sz [(a_t, .inr (9, [.ref a_t_now, g_t_tape, g_t_typed, g_t_place, g_t_isFault, g_t_readLaw, g_t_read, .ref a_t_undone, .int t_undos, g_t_aside, g_t_coat, g_t_bestCoats, g_t_bestStand, g_t_bestPaint, g_t_kept, g_t_keptUndos, g_t_isKept, g_t_lanes, g_t_sizes, g_t_items, g_t_moved])), (a_t_now, .inl (cy 0, 24, .inl t_now)), (a_t_undone, .inl (cy 0, 112, .inl t_undone))] (some (.int out.1)) [(a_t, .inr (9, [.ref a_t_now, g_t_tape, g_t_typed, g_t_place, g_t_isFault, g_t_readLaw, g_t_read, .ref a_t_undone, .int out.2.2.2, g_t_aside, g_t_coat, g_t_bestCoats, g_t_bestStand, g_t_bestPaint, g_t_kept, g_t_keptUndos, g_t_isKept, g_t_lanes, g_t_sizes, g_t_items, g_t_moved])), (a_t_now, .inl (cy 0, 24, .inl out.2.1)), (a_t_undone, .inl (cy 0, 112, .inl out.2.2.1))] := by
  refine startMi (own := RX9) (by decide) rfl (Nat.le_of_ble_eq_true rfl) ?_
  intro p e s m below meth c QQ A hx hb hml hown hg hK hP hD hS hA hret ls hl
  have hl : lv_has ls 3 [(0, .ref a_t), (1, .int p0), (2, .int p1)] := hl
  unfold m_X9_paint at h
  refine lv_aload_n hx hb dX9_paint_0 rfl (lv_at hl 0 rfl) ?_
  refine lv_iload_n hx hb dX9_paint_1 rfl (lv_at hl 1 rfl) ?_
  obtain ⟨v1, hv1, h⟩ := bind_e h
  refine callRV (As := [.int p0]) (rest := []) (v0 := .int v1) hx hb hml hown hg (c_X9_isMan l D cy a_t a_t_now (g_t_tape) (g_t_typed) (g_t_place) (g_t_isFault) (g_t_readLaw) (g_t_read) (.ref a_t_undone) (.int t_undos) (g_t_aside) (g_t_coat) (g_t_bestCoats) (g_t_bestStand) (g_t_bestPaint) (g_t_kept) (g_t_keptUndos) (g_t_isKept) (g_t_lanes) (g_t_sizes) (g_t_items) (g_t_moved) t_now p0 v1 hv1) q_1051 q_1048 q_63 q_1050 q_28 hd_X9_isMan ⟨(Nat.le_of_ble_eq_true rfl), (Nat.le_of_ble_eq_true rfl)⟩ hK hP [0, 1] rfl 0 9 rfl rfl rfl rfl rfl rfl hl.1 rfl (Nat.le_of_ble_eq_true rfl) dX9_paint_2 ?_
  refine lv_if_eq (tgt := 20) hx hb dX9_paint_5 (by decide) (fun c2 => ?_) (fun c2 => ?_)
  · have h := it_t c2 h
    refine lv_iconst (v := (-1)) hx hb dX9_paint_20 kI_m1 ?_
    exact hret _ _ _ _ ls 21 dX9_paint_21 rfl (by rw [← Option.some.inj h]) (by rw [← Option.some.inj h]) hP hD hS
  · have h := it_f c2 h
    refine lv_iload_n hx hb dX9_paint_8 rfl (lv_at hl 2 rfl) ?_
    refine lv_i2l (v := p1.toInt64) hx hb dX9_paint_9 rfl ?_
    refine lv_lconst (v := 1) hx hb dX9_paint_10 kL_1 ?_
    refine lv_ldc2 (v := 9) hx hb hown (hg _ q_1017) dX9_paint_11 ?_
    obtain ⟨v3, hv3, h⟩ := bind_e h
    refine callRS (As := [.long (p1.toInt64), .long 1, .long 9]) (rest := []) (v0 := .int v3) hx hb hml hown hg (c_X9_in l D cy (p1.toInt64) (1 : Int64) (9 : Int64) v3 hv3) q_1016 q_1014 q_63 q_1015 hd_X9_in ⟨(Nat.le_of_ble_eq_true rfl), (Nat.le_of_ble_eq_true rfl)⟩ hK hP [] rfl rfl rfl rfl hl.1 rfl (Nat.le_of_ble_eq_true rfl) dX9_paint_14 ?_
    refine lv_if_ne (tgt := 22) hx hb dX9_paint_17 (by decide) (fun c4 => ?_) (fun c4 => ?_)
    · have h := it_f c4 h
      refine lv_aload_n hx hb dX9_paint_22 rfl (lv_at hl 0 rfl) ?_
      refine lv_iload_n hx hb dX9_paint_23 rfl (lv_at hl 1 rfl) ?_
      obtain ⟨v5, hv5, h⟩ := bind_e h
      refine callRV (As := [.int p0]) (rest := []) (v0 := .int v5) hx hb hml hown hg (c_X9_paintOf l D cy a_t a_t_now (g_t_tape) (g_t_typed) (g_t_place) (g_t_isFault) (g_t_readLaw) (g_t_read) (.ref a_t_undone) (.int t_undos) (g_t_aside) (g_t_coat) (g_t_bestCoats) (g_t_bestStand) (g_t_bestPaint) (g_t_kept) (g_t_keptUndos) (g_t_isKept) (g_t_lanes) (g_t_sizes) (g_t_items) (g_t_moved) t_now p0 v5 hv5) q_1059 q_1056 q_63 q_1058 q_30 hd_X9_paintOf ⟨(Nat.le_of_ble_eq_true rfl), (Nat.le_of_ble_eq_true rfl)⟩ hK hP [0, 1] rfl 0 9 rfl rfl rfl rfl rfl rfl hl.1 rfl (Nat.le_of_ble_eq_true rfl) dX9_paint_24 ?_
      refine lv_bipush (v := 9) hx hb dX9_paint_27 kB_9 ?_
      refine lv_icmp_ne (tgt := 35) hx hb dX9_paint_29 (by decide) (fun c6 => ?_) (fun c6 => ?_)
      · have h := it_f c6 h
        refine lv_aload_n hx hb dX9_paint_35 rfl (lv_at hl 0 rfl) ?_
        obtain ⟨v7, hv7, h⟩ := bind_e h
        refine callMV (As := []) (rest := []) (wr := []) (w2 := [(a_t, .inr (9, [.ref a_t_now, g_t_tape, g_t_typed, g_t_place, g_t_isFault, g_t_readLaw, g_t_read, .ref a_t_undone, .int v7.2, g_t_aside, g_t_coat, g_t_bestCoats, g_t_bestStand, g_t_bestPaint, g_t_kept, g_t_keptUndos, g_t_isKept, g_t_lanes, g_t_sizes, g_t_items, g_t_moved])), (a_t_now, .inl (cy 0, 24, .inl t_now)), (a_t_undone, .inl (cy 0, 112, .inl v7.1))]) hx hb hml hown hg (c_X9_notes l D cy a_t a_t_now a_t_undone _ (g_t_tape) (g_t_typed) (g_t_place) (g_t_isFault) (g_t_readLaw) (g_t_read) (g_t_aside) (g_t_coat) (g_t_bestCoats) (g_t_bestStand) (g_t_bestPaint) (g_t_kept) (g_t_keptUndos) (g_t_isKept) (g_t_lanes) (g_t_sizes) (g_t_items) (g_t_moved) t_now t_undone t_undos F v7 hv7) q_1144 q_1141 q_63 q_1143 q_41 hd_X9_notes ⟨(Nat.le_of_ble_eq_true rfl), (Nat.le_of_ble_eq_true rfl)⟩ hK hP hD hS hA [0, 1, 2] [] rfl rfl rfl rfl (by decide) [0, 1, 2] rfl rfl 0 9 rfl rfl rfl rfl rfl rfl hl.1 rfl rfl (Nat.le_of_ble_eq_true rfl) dX9_paint_36 (fun H locs hP hD hS => ?_)
        refine lv_aload_n hx hb dX9_paint_39 rfl (lv_at hl 0 rfl) ?_
        refine lv_iload_n hx hb dX9_paint_40 rfl (lv_at hl 1 rfl) ?_
        refine lv_aload_n hx hb dX9_paint_41 rfl (lv_at hl 0 rfl) ?_
        refine lv_iload_n hx hb dX9_paint_42 rfl (lv_at hl 1 rfl) ?_
        obtain ⟨v8, hv8, h⟩ := bind_e h
        refine callRV (As := [.int p0]) (rest := [.int p0, .ref a_t]) (v0 := .int v8) hx hb hml hown hg (c_X9_paintOf l D cy a_t a_t_now (g_t_tape) (g_t_typed) (g_t_place) (g_t_isFault) (g_t_readLaw) (g_t_read) (.ref a_t_undone) (.int v7.2) (g_t_aside) (g_t_coat) (g_t_bestCoats) (g_t_bestStand) (g_t_bestPaint) (g_t_kept) (g_t_keptUndos) (g_t_isKept) (g_t_lanes) (g_t_sizes) (g_t_items) (g_t_moved) t_now p0 v8 hv8) q_1059 q_1056 q_63 q_1058 q_30 hd_X9_paintOf ⟨(Nat.le_of_ble_eq_true rfl), (Nat.le_of_ble_eq_true rfl)⟩ hK hP [0, 1] rfl 0 9 rfl rfl rfl rfl rfl rfl hl.1 rfl (Nat.le_of_ble_eq_true rfl) dX9_paint_43 ?_
        refine lv_iload_n hx hb dX9_paint_46 rfl (lv_at hl 2 rfl) ?_
        refine lv_iadd hx hb dX9_paint_47 ?_
        obtain ⟨v9, hv9, h⟩ := bind_e h
        refine callMV (As := [.int p0, .int (v8 + p1)]) (rest := []) (wr := [(a_t_undone, .inl (cy 0, 112, .inl v7.1))]) (w2 := [(a_t, .inr (9, [.ref a_t_now, g_t_tape, g_t_typed, g_t_place, g_t_isFault, g_t_readLaw, g_t_read, .ref a_t_undone, .int v7.2, g_t_aside, g_t_coat, g_t_bestCoats, g_t_bestStand, g_t_bestPaint, g_t_kept, g_t_keptUndos, g_t_isKept, g_t_lanes, g_t_sizes, g_t_items, g_t_moved])), (a_t_now, .inl (cy 0, 24, .inl v9)), (a_t_undone, .inl (cy 0, 112, .inl v7.1))]) hx hb hml hown hg (c_X9_paints l D cy a_t a_t_now _ (g_t_tape) (g_t_typed) (g_t_place) (g_t_isFault) (g_t_readLaw) (g_t_read) (.ref a_t_undone) (.int v7.2) (g_t_aside) (g_t_coat) (g_t_bestCoats) (g_t_bestStand) (g_t_bestPaint) (g_t_kept) (g_t_keptUndos) (g_t_isKept) (g_t_lanes) (g_t_sizes) (g_t_items) (g_t_moved) t_now p0 (v8 + p1) v9 hv9) q_1156 q_1153 q_63 q_1155 q_44 hd_X9_paints ⟨(Nat.le_of_ble_eq_true rfl), (Nat.le_of_ble_eq_true rfl)⟩ hK hP hD hS hA [0, 1] [2] rfl rfl rfl rfl (by decide) [1, 2, 0] rfl rfl 0 9 rfl rfl rfl rfl rfl rfl hl.1 rfl rfl (Nat.le_of_ble_eq_true rfl) dX9_paint_48 (fun H locs hP hD hS => ?_)
        refine lv_aload_n hx hb dX9_paint_51 rfl (lv_at hl 0 rfl) ?_
        refine lv_iload_n hx hb dX9_paint_52 rfl (lv_at hl 1 rfl) ?_
        obtain ⟨v10, hv10, h⟩ := bind_e h
        refine callRV (As := [.int p0]) (rest := []) (v0 := .int v10) hx hb hml hown hg (c_X9_paintOf l D cy a_t a_t_now (g_t_tape) (g_t_typed) (g_t_place) (g_t_isFault) (g_t_readLaw) (g_t_read) (.ref a_t_undone) (.int v7.2) (g_t_aside) (g_t_coat) (g_t_bestCoats) (g_t_bestStand) (g_t_bestPaint) (g_t_kept) (g_t_keptUndos) (g_t_isKept) (g_t_lanes) (g_t_sizes) (g_t_items) (g_t_moved) v9 p0 v10 hv10) q_1059 q_1056 q_63 q_1058 q_30 hd_X9_paintOf ⟨(Nat.le_of_ble_eq_true rfl), (Nat.le_of_ble_eq_true rfl)⟩ hK hP [0, 1] rfl 0 9 rfl rfl rfl rfl rfl rfl hl.1 rfl (Nat.le_of_ble_eq_true rfl) dX9_paint_53 ?_
        exact hret _ _ _ _ ls 56 dX9_paint_56 rfl (by rw [← Option.some.inj h]) (by rw [← Option.some.inj h]) hP hD hS
      · have h := it_t c6 h
        refine lv_bipush (v := (-2)) hx hb dX9_paint_32 kB_m2 ?_
        exact hret _ _ _ _ ls 34 dX9_paint_34 rfl (by rw [← Option.some.inj h]) (by rw [← Option.some.inj h]) hP hD hS
    · have h := it_t c4 h
      refine lv_iconst (v := (-1)) hx hb dX9_paint_20 kI_m1 ?_
      exact hret _ _ _ _ ls 21 dX9_paint_21 rfl (by rw [← Option.some.inj h]) (by rw [← Option.some.inj h]) hP hD hS

def m_X9_drift_L33s (p0 : Int32) (F : Nat) (k12 : (Nat → Int32) → (Nat → Int32) → Int32 → Option (Int32 × (Nat → Int32) × (Nat → Int32) × Int32)) (r14 : Int32 → (Nat → Int32) → (Nat → Int32) → Int32 → Option (Int32 × (Nat → Int32) × (Nat → Int32) × Int32)) (x4 : Int32) (w5 : Nat → Int32) (w6 : Nat → Int32) (w7 : Int32) : Option (Int32 × (Nat → Int32) × (Nat → Int32) × Int32) := (if p0 ≤ x4 then k12 w5 w6 w7 else (m_X9_notes F w5 w6 w7).bind (fun v16 => (if ((upd w5 5 ((((((w5 5).toInt64) * 1103515245) + 12345) &&& 2147483647).toInt32)) 0) ≤ 0 then (m_X9_goesBy F (upd w5 5 ((((((w5 5).toInt64) * 1103515245) + 12345) &&& 2147483647).toInt32)) 0).bind (fun v18 => bnd (x4 + 1) (fun x19 => r14 x19 v18 v16.1 v16.2)) else nzI ((upd w5 5 ((((((w5 5).toInt64) * 1103515245) + 12345) &&& 2147483647).toInt32)) 0) (bnd ((((upd w5 5 ((((((w5 5).toInt64) * 1103515245) + 12345) &&& 2147483647).toInt32)) 5) / 65536) - (((upd w5 5 ((((((w5 5).toInt64) * 1103515245) + 12345) &&& 2147483647).toInt32)) 5) / 65536) / ((upd w5 5 ((((((w5 5).toInt64) * 1103515245) + 12345) &&& 2147483647).toInt32)) 0) * ((upd w5 5 ((((((w5 5).toInt64) * 1103515245) + 12345) &&& 2147483647).toInt32)) 0)) (fun x21 => bnd ((((upd w5 5 ((((((w5 5).toInt64) * 1103515245) + 12345) &&& 2147483647).toInt32)) 5) / 128) - (((upd w5 5 ((((((w5 5).toInt64) * 1103515245) + 12345) &&& 2147483647).toInt32)) 5) / 128) / 12 * 12) (fun x22 => (m_X9_stands (upd w5 5 ((((((w5 5).toInt64) * 1103515245) + 12345) &&& 2147483647).toInt32)) x21).bind (fun v23 => (if v23 = 0 then (m_X9_goesBy F (upd w5 5 ((((((w5 5).toInt64) * 1103515245) + 12345) &&& 2147483647).toInt32)) 0).bind (fun v25 => bnd (x4 + 1) (fun x26 => r14 x26 v25 v16.1 v16.2)) else (m_X9_whoAt F (upd w5 5 ((((((w5 5).toInt64) * 1103515245) + 12345) &&& 2147483647).toInt32)) x22).bind (fun v27 => (if v27 = (-4) then (m_X9_goesTo (upd w5 5 ((((((w5 5).toInt64) * 1103515245) + 12345) &&& 2147483647).toInt32)) x21 x22).bind (fun v31 => (m_X9_goesBy F v31 0).bind (fun v32 => bnd (x4 + 1) (fun x33 => r14 x33 v32 v16.1 v16.2))) else (m_X9_goesBy F (upd w5 5 ((((((w5 5).toInt64) * 1103515245) + 12345) &&& 2147483647).toInt32)) 0).bind (fun v29 => bnd (x4 + 1) (fun x30 => r14 x30 v29 v16.1 v16.2))))))))))))
def m_X9_drift_L33 (p0 : Int32) (F : Nat) (k12 : (Nat → Int32) → (Nat → Int32) → Int32 → Option (Int32 × (Nat → Int32) × (Nat → Int32) × Int32)) : Nat → Int32 → (Nat → Int32) → (Nat → Int32) → Int32 → Option (Int32 × (Nat → Int32) × (Nat → Int32) × Int32)
  | 0 => fun _ _ _ _ => none
  | nF + 1 => m_X9_drift_L33s p0 F k12 (m_X9_drift_L33 p0 F k12 nF)
def m_X9_drift (F : Nat) (t_now : Nat → Int32) (t_undone : Nat → Int32) (t_undos : Int32) (p0 : Int32) : Option (Int32 × (Nat → Int32) × (Nat → Int32) × Int32) := (m_X9_in (p0.toInt64) (1 : Int64) (40 : Int64)).bind (fun v1 => (if v1 = 0 then some ((-1), t_now, t_undone, t_undos) else (if ((t_now 1) + p0) ≤ 9999 then m_X9_drift_L33 p0 F (fun (w8 : Nat → Int32) (w9 : Nat → Int32) (w10 : Int32) => (m_X9_standing F w8).bind (fun v11 => some (v11, w8, w9, w10))) F 0 t_now t_undone t_undos else some ((-3), t_now, t_undone, t_undos))))
set_option maxHeartbeats 4000000 in
set_option maxRecDepth 100000 in
theorem c_X9_drift (l : Launch) (D : va_G) (cy : Nat → ClassId) (a_t : Nat) (a_t_now : Nat) (a_t_undone : Nat) (sz : Nat) (g_t_tape : Value) (g_t_typed : Value) (g_t_place : Value) (g_t_isFault : Value) (g_t_readLaw : Value) (g_t_read : Value) (g_t_aside : Value) (g_t_coat : Value) (g_t_bestCoats : Value) (g_t_bestStand : Value) (g_t_bestPaint : Value) (g_t_kept : Value) (g_t_keptUndos : Value) (g_t_isKept : Value) (g_t_lanes : Value) (g_t_sizes : Value) (g_t_items : Value) (g_t_moved : Value) (t_now : Nat → Int32) (t_undone : Nat → Int32) (t_undos : Int32) (p0 : Int32) (F : Nat) (out : Int32 × (Nat → Int32) × (Nat → Int32) × Int32) (h : m_X9_drift F t_now t_undone t_undos p0 = some out) : MetM l D cy yX9_drift cX9_drift 5 (some .int) (rmG 6 134) [.ref a_t, .int p0] sz [(a_t, .inr (9, [.ref a_t_now, g_t_tape, g_t_typed, g_t_place, g_t_isFault, g_t_readLaw, g_t_read, .ref a_t_undone, .int t_undos, g_t_aside, g_t_coat, g_t_bestCoats, g_t_bestStand, g_t_bestPaint, g_t_kept, g_t_keptUndos, g_t_isKept, g_t_lanes, g_t_sizes, g_t_items, g_t_moved])), (a_t_now, .inl (cy 0, 24, .inl t_now)), (a_t_undone, .inl (cy 0, 112, .inl t_undone))] (some (.int out.1)) [(a_t, .inr (9, [.ref a_t_now, g_t_tape, g_t_typed, g_t_place, g_t_isFault, g_t_readLaw, g_t_read, .ref a_t_undone, .int out.2.2.2, g_t_aside, g_t_coat, g_t_bestCoats, g_t_bestStand, g_t_bestPaint, g_t_kept, g_t_keptUndos, g_t_isKept, g_t_lanes, g_t_sizes, g_t_items, g_t_moved])), (a_t_now, .inl (cy 0, 24, .inl out.2.1)), (a_t_undone, .inl (cy 0, 112, .inl out.2.2.1))] := by
  refine startMi (own := RX9) (by decide) rfl (Nat.le_of_ble_eq_true rfl) ?_
  intro p e s m below meth c QQ A hx hb hml hown hg hK hP hD hS hA hret ls hl
  have hl : lv_has ls 5 [(0, .ref a_t), (1, .int p0)] := hl
  unfold m_X9_drift at h
  refine lv_iload_n hx hb dX9_drift_0 rfl (lv_at hl 1 rfl) ?_
  refine lv_i2l (v := p0.toInt64) hx hb dX9_drift_1 rfl ?_
  refine lv_lconst (v := 1) hx hb dX9_drift_2 kL_1 ?_
  refine lv_ldc2 (v := 40) hx hb hown (hg _ q_1140) dX9_drift_3 ?_
  obtain ⟨v1, hv1, h⟩ := bind_e h
  refine callRS (As := [.long (p0.toInt64), .long 1, .long 40]) (rest := []) (v0 := .int v1) hx hb hml hown hg (c_X9_in l D cy (p0.toInt64) (1 : Int64) (40 : Int64) v1 hv1) q_1016 q_1014 q_63 q_1015 hd_X9_in ⟨(Nat.le_of_ble_eq_true rfl), (Nat.le_of_ble_eq_true rfl)⟩ hK hP [] rfl rfl rfl rfl hl.1 rfl (Nat.le_of_ble_eq_true rfl) dX9_drift_6 ?_
  refine lv_if_ne (tgt := 14) hx hb dX9_drift_9 (by decide) (fun c2 => ?_) (fun c2 => ?_)
  · have h := it_f c2 h
    refine lv_aload_n hx hb dX9_drift_14 rfl (lv_at hl 0 rfl) ?_
    refine va_get (D := D) (ci := 9) (v := .ref a_t_now) (C := RX9) (T := TX9) (N := 21) hx hb hg inG_X9 hown hK hP 0 rfl rfl 0 (by decide) (hg _ q_945) (fun _ h9 => h9) rfl dX9_drift_15 ?_
    refine lv_iconst (v := 1) hx hb dX9_drift_18 kI_1 ?_
    refine ialdK hx hb hK hP 1 0 rfl rfl (vp_in_inb (by decide)) kN_1 dX9_drift_19 ?_
    refine lv_iload_n hx hb dX9_drift_20 rfl (lv_at hl 1 rfl) ?_
    refine lv_iadd hx hb dX9_drift_21 ?_
    refine lv_sipush (v := 9999) hx hb dX9_drift_22 kS_9999 ?_
    refine lv_icmp_le (tgt := 31) hx hb dX9_drift_25 (by decide) (fun c3 => ?_) (fun c3 => ?_)
    · have h := it_t c3 h
      refine lv_iconst (v := 0) hx hb dX9_drift_31 kI_0 ?_
      refine lv_istore_n (lv' := [(2, .int 0), (0, .ref a_t), (1, .int p0)]) hx hb dX9_drift_32 rfl hl (by decide) rfl (fun ls hl => ?_)
      obtain ⟨k12, hk12, h⟩ := kap (fun z => m_X9_drift_L33 p0 F z F 0 t_now t_undone t_undos) h
      have J12 : ∀ (w8 : Nat → Int32) (w9 : Nat → Int32) (w10 : Int32) (H : Heap) (locs : List Loc) (ls : Array Slot), va_P D vwCl [(a_t, .inr (9, [.ref a_t_now, g_t_tape, g_t_typed, g_t_place, g_t_isFault, g_t_readLaw, g_t_read, .ref a_t_undone, .int w10, g_t_aside, g_t_coat, g_t_bestCoats, g_t_bestStand, g_t_bestPaint, g_t_kept, g_t_keptUndos, g_t_isKept, g_t_lanes, g_t_sizes, g_t_items, g_t_moved])), (a_t_now, .inl (cy 0, 24, .inl w8)), (a_t_undone, .inl (cy 0, 112, .inl w9))] H → va_D A [(a_t, .inr (9, [.ref a_t_now, g_t_tape, g_t_typed, g_t_place, g_t_isFault, g_t_readLaw, g_t_read, .ref a_t_undone, .int w10, g_t_aside, g_t_coat, g_t_bestCoats, g_t_bestStand, g_t_bestPaint, g_t_kept, g_t_keptUndos, g_t_isKept, g_t_lanes, g_t_sizes, g_t_items, g_t_moved])), (a_t_now, .inl (cy 0, 24, .inl w8)), (a_t_undone, .inl (cy 0, 112, .inl w9))] → va_S A s.heap H locs → lv_has ls 5 [(0, .ref a_t)] → k12 w8 w9 w10 = some out → W p l e (rmG 6 134) s m [.ref a_t, .int p0].toArray below meth c H locs 0 0 QQ (F0 m 146 ls []) := by
        intro w8 w9 w10 H locs ls hP hD hS hl h
        rw [hk12] at h
        refine lv_aload_n hx hb dX9_drift_146 rfl (lv_at hl 0 rfl) ?_
        obtain ⟨v11, hv11, h⟩ := bind_e h
        refine callRV (As := []) (rest := []) (v0 := .int v11) hx hb hml hown hg (c_X9_standing l D cy a_t a_t_now (g_t_tape) (g_t_typed) (g_t_place) (g_t_isFault) (g_t_readLaw) (g_t_read) (.ref a_t_undone) (.int w10) (g_t_aside) (g_t_coat) (g_t_bestCoats) (g_t_bestStand) (g_t_bestPaint) (g_t_kept) (g_t_keptUndos) (g_t_isKept) (g_t_lanes) (g_t_sizes) (g_t_items) (g_t_moved) w8 F v11 hv11) q_1077 q_1074 q_63 q_1076 q_33 hd_X9_standing ⟨(Nat.le_of_ble_eq_true rfl), (Nat.le_of_ble_eq_true rfl)⟩ hK hP [0, 1] rfl 0 9 rfl rfl rfl rfl rfl rfl hl.1 rfl (Nat.le_of_ble_eq_true rfl) dX9_drift_147 ?_
        exact hret _ _ _ _ ls 150 dX9_drift_150 rfl (by rw [← Option.some.inj h]) (by rw [← Option.some.inj h]) hP hD hS
      have L13 : ∀ (n13 : Nat) (x4 : Int32) (w5 : Nat → Int32) (w6 : Nat → Int32) (w7 : Int32) (H : Heap) (locs : List Loc) (ls : Array Slot), va_P D vwCl [(a_t, .inr (9, [.ref a_t_now, g_t_tape, g_t_typed, g_t_place, g_t_isFault, g_t_readLaw, g_t_read, .ref a_t_undone, .int w7, g_t_aside, g_t_coat, g_t_bestCoats, g_t_bestStand, g_t_bestPaint, g_t_kept, g_t_keptUndos, g_t_isKept, g_t_lanes, g_t_sizes, g_t_items, g_t_moved])), (a_t_now, .inl (cy 0, 24, .inl w5)), (a_t_undone, .inl (cy 0, 112, .inl w6))] H → va_D A [(a_t, .inr (9, [.ref a_t_now, g_t_tape, g_t_typed, g_t_place, g_t_isFault, g_t_readLaw, g_t_read, .ref a_t_undone, .int w7, g_t_aside, g_t_coat, g_t_bestCoats, g_t_bestStand, g_t_bestPaint, g_t_kept, g_t_keptUndos, g_t_isKept, g_t_lanes, g_t_sizes, g_t_items, g_t_moved])), (a_t_now, .inl (cy 0, 24, .inl w5)), (a_t_undone, .inl (cy 0, 112, .inl w6))] → va_S A s.heap H locs → lv_has ls 5 [(2, .int x4), (0, .ref a_t), (1, .int p0)] → m_X9_drift_L33 p0 F k12 n13 x4 w5 w6 w7 = some out → W p l e (rmG 6 134) s m [.ref a_t, .int p0].toArray below meth c H locs 0 0 QQ (F0 m 33 ls []) := by
        intro n13
        induction n13 with
        | zero => intro x4 w5 w6 w7 H locs ls hP hD hS hl h; exact nomatch (show (none : Option (Int32 × (Nat → Int32) × (Nat → Int32) × Int32)) = some out from h)
        | succ n13 ih =>
            intro x4 w5 w6 w7 H locs ls hP hD hS hl h
            have h : m_X9_drift_L33s p0 F k12 (m_X9_drift_L33 p0 F k12 n13) x4 w5 w6 w7 = some out := h
            unfold m_X9_drift_L33s at h
            refine lv_iload_n hx hb dX9_drift_33 rfl (lv_at hl 0 rfl) ?_
            refine lv_iload_n hx hb dX9_drift_34 rfl (lv_at hl 2 rfl) ?_
            refine lv_icmp_ge (tgt := 146) hx hb dX9_drift_35 (by decide) (fun c15 => ?_) (fun c15 => ?_)
            · have h := it_t c15 h
              exact J12 w5 w6 w7 _ _ _ hP hD hS (lv_sub hl [1] rfl) h
            · have h := it_f c15 h
              refine lv_aload_n hx hb dX9_drift_38 rfl (lv_at hl 1 rfl) ?_
              obtain ⟨v16, hv16, h⟩ := bind_e h
              refine callMV (As := []) (rest := []) (wr := []) (w2 := [(a_t, .inr (9, [.ref a_t_now, g_t_tape, g_t_typed, g_t_place, g_t_isFault, g_t_readLaw, g_t_read, .ref a_t_undone, .int v16.2, g_t_aside, g_t_coat, g_t_bestCoats, g_t_bestStand, g_t_bestPaint, g_t_kept, g_t_keptUndos, g_t_isKept, g_t_lanes, g_t_sizes, g_t_items, g_t_moved])), (a_t_now, .inl (cy 0, 24, .inl w5)), (a_t_undone, .inl (cy 0, 112, .inl v16.1))]) hx hb hml hown hg (c_X9_notes l D cy a_t a_t_now a_t_undone _ (g_t_tape) (g_t_typed) (g_t_place) (g_t_isFault) (g_t_readLaw) (g_t_read) (g_t_aside) (g_t_coat) (g_t_bestCoats) (g_t_bestStand) (g_t_bestPaint) (g_t_kept) (g_t_keptUndos) (g_t_isKept) (g_t_lanes) (g_t_sizes) (g_t_items) (g_t_moved) w5 w6 w7 F v16 hv16) q_1144 q_1141 q_63 q_1143 q_41 hd_X9_notes ⟨(Nat.le_of_ble_eq_true rfl), (Nat.le_of_ble_eq_true rfl)⟩ hK hP hD hS hA [0, 1, 2] [] rfl rfl rfl rfl (by decide) [0, 1, 2] rfl rfl 0 9 rfl rfl rfl rfl rfl rfl hl.1 rfl rfl (Nat.le_of_ble_eq_true rfl) dX9_drift_39 (fun H locs hP hD hS => ?_)
              refine lv_aload_n hx hb dX9_drift_42 rfl (lv_at hl 1 rfl) ?_
              refine va_get (D := D) (ci := 9) (v := .ref a_t_now) (C := RX9) (T := TX9) (N := 21) hx hb hg inG_X9 hown hK hP 0 rfl rfl 0 (by decide) (hg _ q_945) (fun _ h9 => h9) rfl dX9_drift_43 ?_
              refine lv_iconst (v := 5) hx hb dX9_drift_46 kI_5 ?_
              refine lv_aload_n hx hb dX9_drift_47 rfl (lv_at hl 1 rfl) ?_
              refine va_get (D := D) (ci := 9) (v := .ref a_t_now) (C := RX9) (T := TX9) (N := 21) hx hb hg inG_X9 hown hK hP 0 rfl rfl 0 (by decide) (hg _ q_945) (fun _ h9 => h9) rfl dX9_drift_48 ?_
              refine lv_iconst (v := 5) hx hb dX9_drift_51 kI_5 ?_
              refine ialdK hx hb hK hP 1 0 rfl rfl (vp_in_inb (by decide)) kN_5 dX9_drift_52 ?_
              refine lv_i2l (v := (w5 5).toInt64) hx hb dX9_drift_53 rfl ?_
              refine lv_ldc2 (v := 1103515245) hx hb hown (hg _ q_1173) dX9_drift_54 ?_
              refine lv_lmul hx hb dX9_drift_57 ?_
              refine lv_ldc2 (v := 12345) hx hb hown (hg _ q_1174) dX9_drift_58 ?_
              refine lv_ladd hx hb dX9_drift_61 ?_
              refine lv_ldc2 (v := 2147483647) hx hb hown (hg _ q_1175) dX9_drift_62 ?_
              refine lv_land hx hb dX9_drift_65 ?_
              refine lv_l2i (v := (((((w5 5).toInt64) * 1103515245) + 12345) &&& 2147483647).toInt32) hx hb dX9_drift_66 rfl ?_
              refine iastK hx hb hK hP hD hS 1 0 rfl rfl (vp_in_inb (by decide)) kN_5 dX9_drift_67 (fun H locs hP hD hS => ?_)
              have hP : va_P D vwCl [(a_t, .inr (9, [.ref a_t_now, g_t_tape, g_t_typed, g_t_place, g_t_isFault, g_t_readLaw, g_t_read, .ref a_t_undone, .int v16.2, g_t_aside, g_t_coat, g_t_bestCoats, g_t_bestStand, g_t_bestPaint, g_t_kept, g_t_keptUndos, g_t_isKept, g_t_lanes, g_t_sizes, g_t_items, g_t_moved])), (a_t_now, .inl (cy 0, 24, .inl (upd w5 5 ((((((w5 5).toInt64) * 1103515245) + 12345) &&& 2147483647).toInt32)))), (a_t_undone, .inl (cy 0, 112, .inl v16.1))] H := hP
              have hD : va_D A [(a_t, .inr (9, [.ref a_t_now, g_t_tape, g_t_typed, g_t_place, g_t_isFault, g_t_readLaw, g_t_read, .ref a_t_undone, .int v16.2, g_t_aside, g_t_coat, g_t_bestCoats, g_t_bestStand, g_t_bestPaint, g_t_kept, g_t_keptUndos, g_t_isKept, g_t_lanes, g_t_sizes, g_t_items, g_t_moved])), (a_t_now, .inl (cy 0, 24, .inl (upd w5 5 ((((((w5 5).toInt64) * 1103515245) + 12345) &&& 2147483647).toInt32)))), (a_t_undone, .inl (cy 0, 112, .inl v16.1))] := hD
              refine lv_aload_n hx hb dX9_drift_68 rfl (lv_at hl 1 rfl) ?_
              refine va_get (D := D) (ci := 9) (v := .ref a_t_now) (C := RX9) (T := TX9) (N := 21) hx hb hg inG_X9 hown hK hP 0 rfl rfl 0 (by decide) (hg _ q_945) (fun _ h9 => h9) rfl dX9_drift_69 ?_
              refine lv_iconst (v := 0) hx hb dX9_drift_72 kI_0 ?_
              refine ialdK hx hb hK hP 1 0 rfl rfl (vp_in_inb (by decide)) kN_0 dX9_drift_73 ?_
              refine lv_if_le (tgt := 135) hx hb dX9_drift_74 (by decide) (fun c17 => ?_) (fun c17 => ?_)
              · have h := it_t c17 h
                refine lv_aload_n hx hb dX9_drift_135 rfl (lv_at hl 1 rfl) ?_
                refine lv_iconst (v := 0) hx hb dX9_drift_136 kI_0 ?_
                obtain ⟨v18, hv18, h⟩ := bind_e h
                refine callMV (As := [.int 0]) (rest := []) (wr := [(a_t_undone, .inl (cy 0, 112, .inl v16.1))]) (w2 := [(a_t, .inr (9, [.ref a_t_now, g_t_tape, g_t_typed, g_t_place, g_t_isFault, g_t_readLaw, g_t_read, .ref a_t_undone, .int v16.2, g_t_aside, g_t_coat, g_t_bestCoats, g_t_bestStand, g_t_bestPaint, g_t_kept, g_t_keptUndos, g_t_isKept, g_t_lanes, g_t_sizes, g_t_items, g_t_moved])), (a_t_now, .inl (cy 0, 24, .inl v18)), (a_t_undone, .inl (cy 0, 112, .inl v16.1))]) hx hb hml hown hg (c_X9_goesBy l D cy a_t a_t_now _ (g_t_tape) (g_t_typed) (g_t_place) (g_t_isFault) (g_t_readLaw) (g_t_read) (.ref a_t_undone) (.int v16.2) (g_t_aside) (g_t_coat) (g_t_bestCoats) (g_t_bestStand) (g_t_bestPaint) (g_t_kept) (g_t_keptUndos) (g_t_isKept) (g_t_lanes) (g_t_sizes) (g_t_items) (g_t_moved) (upd w5 5 ((((((w5 5).toInt64) * 1103515245) + 12345) &&& 2147483647).toInt32)) 0 F v18 hv18) q_1148 q_1145 q_63 q_1147 q_42 hd_X9_goesBy ⟨(Nat.le_of_ble_eq_true rfl), (Nat.le_of_ble_eq_true rfl)⟩ hK hP hD hS hA [0, 1] [2] rfl rfl rfl rfl (by decide) [1, 2, 0] rfl rfl 0 9 rfl rfl rfl rfl rfl rfl hl.1 rfl rfl (Nat.le_of_ble_eq_true rfl) dX9_drift_137 (fun H locs hP hD hS => ?_)
                obtain ⟨x19, ex19⟩ : ∃ y : Int32, y = x4 + 1 := ⟨_, rfl⟩
                have h := bnd_e ex19 h
                refine lv_iinc (v := x19) (lv' := [(2, .int x19), (0, .ref a_t), (1, .int p0)]) hx hb dX9_drift_140 hl (k := 0) rfl (inc_e kI_1 ex19) (by decide) rfl (fun ls hl => ?_)
                refine lv_goto (tgt := 33) hx hb dX9_drift_143 (by decide) ?_
                exact ih x19 v18 v16.1 v16.2 _ _ _ hP hD hS (lv_sub hl [0, 1, 2] rfl) h
              · have h := it_f c17 h
                refine lv_aload_n hx hb dX9_drift_77 rfl (lv_at hl 1 rfl) ?_
                refine va_get (D := D) (ci := 9) (v := .ref a_t_now) (C := RX9) (T := TX9) (N := 21) hx hb hg inG_X9 hown hK hP 0 rfl rfl 0 (by decide) (hg _ q_945) (fun _ h9 => h9) rfl dX9_drift_78 ?_
                refine lv_iconst (v := 5) hx hb dX9_drift_81 kI_5 ?_
                refine ialdK hx hb hK hP 1 0 rfl rfl (vp_in_inb (by decide)) kN_5 dX9_drift_82 ?_
                refine lv_ldc (v := 65536) hx hb hown (hg _ q_1176) dX9_drift_83 ?_
                refine lv_idiv hx hb dX9_drift_85 (by decide) ?_
                refine lv_aload_n hx hb dX9_drift_86 rfl (lv_at hl 1 rfl) ?_
                refine va_get (D := D) (ci := 9) (v := .ref a_t_now) (C := RX9) (T := TX9) (N := 21) hx hb hg inG_X9 hown hK hP 0 rfl rfl 0 (by decide) (hg _ q_945) (fun _ h9 => h9) rfl dX9_drift_87 ?_
                refine lv_iconst (v := 0) hx hb dX9_drift_90 kI_0 ?_
                refine ialdK hx hb hK hP 1 0 rfl rfl (vp_in_inb (by decide)) kN_0 dX9_drift_91 ?_
                obtain ⟨hz20, h⟩ := nzI_e h
                refine lv_irem hx hb dX9_drift_92 hz20 ?_
                refine lv_topi (fun x21 ex21 => ?_)
                have h := bnd_e ex21 h
                refine lv_istore_n (lv' := [(3, .int x21), (2, .int x4), (0, .ref a_t), (1, .int p0)]) hx hb dX9_drift_93 rfl hl (by decide) rfl (fun ls hl => ?_)
                refine lv_aload_n hx hb dX9_drift_94 rfl (lv_at hl 2 rfl) ?_
                refine va_get (D := D) (ci := 9) (v := .ref a_t_now) (C := RX9) (T := TX9) (N := 21) hx hb hg inG_X9 hown hK hP 0 rfl rfl 0 (by decide) (hg _ q_945) (fun _ h9 => h9) rfl dX9_drift_95 ?_
                refine lv_iconst (v := 5) hx hb dX9_drift_98 kI_5 ?_
                refine ialdK hx hb hK hP 1 0 rfl rfl (vp_in_inb (by decide)) kN_5 dX9_drift_99 ?_
                refine lv_sipush (v := 128) hx hb dX9_drift_100 kS_128 ?_
                refine lv_idiv hx hb dX9_drift_103 (by decide) ?_
                refine lv_bipush (v := 12) hx hb dX9_drift_104 kB_12 ?_
                refine lv_irem hx hb dX9_drift_106 (by decide) ?_
                refine lv_topi (fun x22 ex22 => ?_)
                have h := bnd_e ex22 h
                refine lv_istore (lv' := [(4, .int x22), (3, .int x21), (2, .int x4), (0, .ref a_t), (1, .int p0)]) hx hb dX9_drift_107 hl (by decide) rfl (fun ls hl => ?_)
                refine lv_aload_n hx hb dX9_drift_109 rfl (lv_at hl 3 rfl) ?_
                refine lv_iload_n hx hb dX9_drift_110 rfl (lv_at hl 1 rfl) ?_
                obtain ⟨v23, hv23, h⟩ := bind_e h
                refine callRV (As := [.int x21]) (rest := []) (v0 := .int v23) hx hb hml hown hg (c_X9_stands l D cy a_t a_t_now (g_t_tape) (g_t_typed) (g_t_place) (g_t_isFault) (g_t_readLaw) (g_t_read) (.ref a_t_undone) (.int v16.2) (g_t_aside) (g_t_coat) (g_t_bestCoats) (g_t_bestStand) (g_t_bestPaint) (g_t_kept) (g_t_keptUndos) (g_t_isKept) (g_t_lanes) (g_t_sizes) (g_t_items) (g_t_moved) (upd w5 5 ((((((w5 5).toInt64) * 1103515245) + 12345) &&& 2147483647).toInt32)) x21 v23 hv23) q_1067 q_1064 q_63 q_1066 q_32 hd_X9_stands ⟨(Nat.le_of_ble_eq_true rfl), (Nat.le_of_ble_eq_true rfl)⟩ hK hP [0, 1] rfl 0 9 rfl rfl rfl rfl rfl rfl hl.1 rfl (Nat.le_of_ble_eq_true rfl) dX9_drift_111 ?_
                refine lv_if_eq (tgt := 135) hx hb dX9_drift_114 (by decide) (fun c24 => ?_) (fun c24 => ?_)
                · have h := it_t c24 h
                  refine lv_aload_n hx hb dX9_drift_135 rfl (lv_at hl 3 rfl) ?_
                  refine lv_iconst (v := 0) hx hb dX9_drift_136 kI_0 ?_
                  obtain ⟨v25, hv25, h⟩ := bind_e h
                  refine callMV (As := [.int 0]) (rest := []) (wr := [(a_t_undone, .inl (cy 0, 112, .inl v16.1))]) (w2 := [(a_t, .inr (9, [.ref a_t_now, g_t_tape, g_t_typed, g_t_place, g_t_isFault, g_t_readLaw, g_t_read, .ref a_t_undone, .int v16.2, g_t_aside, g_t_coat, g_t_bestCoats, g_t_bestStand, g_t_bestPaint, g_t_kept, g_t_keptUndos, g_t_isKept, g_t_lanes, g_t_sizes, g_t_items, g_t_moved])), (a_t_now, .inl (cy 0, 24, .inl v25)), (a_t_undone, .inl (cy 0, 112, .inl v16.1))]) hx hb hml hown hg (c_X9_goesBy l D cy a_t a_t_now _ (g_t_tape) (g_t_typed) (g_t_place) (g_t_isFault) (g_t_readLaw) (g_t_read) (.ref a_t_undone) (.int v16.2) (g_t_aside) (g_t_coat) (g_t_bestCoats) (g_t_bestStand) (g_t_bestPaint) (g_t_kept) (g_t_keptUndos) (g_t_isKept) (g_t_lanes) (g_t_sizes) (g_t_items) (g_t_moved) (upd w5 5 ((((((w5 5).toInt64) * 1103515245) + 12345) &&& 2147483647).toInt32)) 0 F v25 hv25) q_1148 q_1145 q_63 q_1147 q_42 hd_X9_goesBy ⟨(Nat.le_of_ble_eq_true rfl), (Nat.le_of_ble_eq_true rfl)⟩ hK hP hD hS hA [0, 1] [2] rfl rfl rfl rfl (by decide) [1, 2, 0] rfl rfl 0 9 rfl rfl rfl rfl rfl rfl hl.1 rfl rfl (Nat.le_of_ble_eq_true rfl) dX9_drift_137 (fun H locs hP hD hS => ?_)
                  obtain ⟨x26, ex26⟩ : ∃ y : Int32, y = x4 + 1 := ⟨_, rfl⟩
                  have h := bnd_e ex26 h
                  refine lv_iinc (v := x26) (lv' := [(2, .int x26), (4, .int x22), (3, .int x21), (0, .ref a_t), (1, .int p0)]) hx hb dX9_drift_140 hl (k := 2) rfl (inc_e kI_1 ex26) (by decide) rfl (fun ls hl => ?_)
                  refine lv_goto (tgt := 33) hx hb dX9_drift_143 (by decide) ?_
                  exact ih x26 v25 v16.1 v16.2 _ _ _ hP hD hS (lv_sub hl [0, 3, 4] rfl) h
                · have h := it_f c24 h
                  refine lv_aload_n hx hb dX9_drift_117 rfl (lv_at hl 3 rfl) ?_
                  refine lv_iload hx hb dX9_drift_118 (lv_at hl 0 rfl) ?_
                  obtain ⟨v27, hv27, h⟩ := bind_e h
                  refine callRV (As := [.int x22]) (rest := []) (v0 := .int v27) hx hb hml hown hg (c_X9_whoAt l D cy a_t a_t_now (g_t_tape) (g_t_typed) (g_t_place) (g_t_isFault) (g_t_readLaw) (g_t_read) (.ref a_t_undone) (.int v16.2) (g_t_aside) (g_t_coat) (g_t_bestCoats) (g_t_bestStand) (g_t_bestPaint) (g_t_kept) (g_t_keptUndos) (g_t_isKept) (g_t_lanes) (g_t_sizes) (g_t_items) (g_t_moved) (upd w5 5 ((((((w5 5).toInt64) * 1103515245) + 12345) &&& 2147483647).toInt32)) x22 F v27 hv27) q_1025 q_1022 q_63 q_1024 q_24 hd_X9_whoAt ⟨(Nat.le_of_ble_eq_true rfl), (Nat.le_of_ble_eq_true rfl)⟩ hK hP [0, 1] rfl 0 9 rfl rfl rfl rfl rfl rfl hl.1 rfl (Nat.le_of_ble_eq_true rfl) dX9_drift_120 ?_
                  refine lv_bipush (v := (-4)) hx hb dX9_drift_123 kB_m4 ?_
                  refine lv_icmp_ne (tgt := 135) hx hb dX9_drift_125 (by decide) (fun c28 => ?_) (fun c28 => ?_)
                  · have h := it_f c28 h
                    refine lv_aload_n hx hb dX9_drift_135 rfl (lv_at hl 3 rfl) ?_
                    refine lv_iconst (v := 0) hx hb dX9_drift_136 kI_0 ?_
                    obtain ⟨v29, hv29, h⟩ := bind_e h
                    refine callMV (As := [.int 0]) (rest := []) (wr := [(a_t_undone, .inl (cy 0, 112, .inl v16.1))]) (w2 := [(a_t, .inr (9, [.ref a_t_now, g_t_tape, g_t_typed, g_t_place, g_t_isFault, g_t_readLaw, g_t_read, .ref a_t_undone, .int v16.2, g_t_aside, g_t_coat, g_t_bestCoats, g_t_bestStand, g_t_bestPaint, g_t_kept, g_t_keptUndos, g_t_isKept, g_t_lanes, g_t_sizes, g_t_items, g_t_moved])), (a_t_now, .inl (cy 0, 24, .inl v29)), (a_t_undone, .inl (cy 0, 112, .inl v16.1))]) hx hb hml hown hg (c_X9_goesBy l D cy a_t a_t_now _ (g_t_tape) (g_t_typed) (g_t_place) (g_t_isFault) (g_t_readLaw) (g_t_read) (.ref a_t_undone) (.int v16.2) (g_t_aside) (g_t_coat) (g_t_bestCoats) (g_t_bestStand) (g_t_bestPaint) (g_t_kept) (g_t_keptUndos) (g_t_isKept) (g_t_lanes) (g_t_sizes) (g_t_items) (g_t_moved) (upd w5 5 ((((((w5 5).toInt64) * 1103515245) + 12345) &&& 2147483647).toInt32)) 0 F v29 hv29) q_1148 q_1145 q_63 q_1147 q_42 hd_X9_goesBy ⟨(Nat.le_of_ble_eq_true rfl), (Nat.le_of_ble_eq_true rfl)⟩ hK hP hD hS hA [0, 1] [2] rfl rfl rfl rfl (by decide) [1, 2, 0] rfl rfl 0 9 rfl rfl rfl rfl rfl rfl hl.1 rfl rfl (Nat.le_of_ble_eq_true rfl) dX9_drift_137 (fun H locs hP hD hS => ?_)
                    obtain ⟨x30, ex30⟩ : ∃ y : Int32, y = x4 + 1 := ⟨_, rfl⟩
                    have h := bnd_e ex30 h
                    refine lv_iinc (v := x30) (lv' := [(2, .int x30), (4, .int x22), (3, .int x21), (0, .ref a_t), (1, .int p0)]) hx hb dX9_drift_140 hl (k := 2) rfl (inc_e kI_1 ex30) (by decide) rfl (fun ls hl => ?_)
                    refine lv_goto (tgt := 33) hx hb dX9_drift_143 (by decide) ?_
                    exact ih x30 v29 v16.1 v16.2 _ _ _ hP hD hS (lv_sub hl [0, 3, 4] rfl) h
                  · have h := it_t c28 h
                    refine lv_aload_n hx hb dX9_drift_128 rfl (lv_at hl 3 rfl) ?_
                    refine lv_iload_n hx hb dX9_drift_129 rfl (lv_at hl 1 rfl) ?_
                    refine lv_iload hx hb dX9_drift_130 (lv_at hl 0 rfl) ?_
                    obtain ⟨v31, hv31, h⟩ := bind_e h
                    refine callMV (As := [.int x21, .int x22]) (rest := []) (wr := [(a_t_undone, .inl (cy 0, 112, .inl v16.1))]) (w2 := [(a_t, .inr (9, [.ref a_t_now, g_t_tape, g_t_typed, g_t_place, g_t_isFault, g_t_readLaw, g_t_read, .ref a_t_undone, .int v16.2, g_t_aside, g_t_coat, g_t_bestCoats, g_t_bestStand, g_t_bestPaint, g_t_kept, g_t_keptUndos, g_t_isKept, g_t_lanes, g_t_sizes, g_t_items, g_t_moved])), (a_t_now, .inl (cy 0, 24, .inl v31)), (a_t_undone, .inl (cy 0, 112, .inl v16.1))]) hx hb hml hown hg (c_X9_goesTo l D cy a_t a_t_now _ (g_t_tape) (g_t_typed) (g_t_place) (g_t_isFault) (g_t_readLaw) (g_t_read) (.ref a_t_undone) (.int v16.2) (g_t_aside) (g_t_coat) (g_t_bestCoats) (g_t_bestStand) (g_t_bestPaint) (g_t_kept) (g_t_keptUndos) (g_t_isKept) (g_t_lanes) (g_t_sizes) (g_t_items) (g_t_moved) (upd w5 5 ((((((w5 5).toInt64) * 1103515245) + 12345) &&& 2147483647).toInt32)) x21 x22 v31 hv31) q_1152 q_1149 q_63 q_1151 q_43 hd_X9_goesTo ⟨(Nat.le_of_ble_eq_true rfl), (Nat.le_of_ble_eq_true rfl)⟩ hK hP hD hS hA [0, 1] [2] rfl rfl rfl rfl (by decide) [1, 2, 0] rfl rfl 0 9 rfl rfl rfl rfl rfl rfl hl.1 rfl rfl (Nat.le_of_ble_eq_true rfl) dX9_drift_132 (fun H locs hP hD hS => ?_)
                    refine lv_aload_n hx hb dX9_drift_135 rfl (lv_at hl 3 rfl) ?_
                    refine lv_iconst (v := 0) hx hb dX9_drift_136 kI_0 ?_
                    obtain ⟨v32, hv32, h⟩ := bind_e h
                    refine callMV (As := [.int 0]) (rest := []) (wr := [(a_t_undone, .inl (cy 0, 112, .inl v16.1))]) (w2 := [(a_t, .inr (9, [.ref a_t_now, g_t_tape, g_t_typed, g_t_place, g_t_isFault, g_t_readLaw, g_t_read, .ref a_t_undone, .int v16.2, g_t_aside, g_t_coat, g_t_bestCoats, g_t_bestStand, g_t_bestPaint, g_t_kept, g_t_keptUndos, g_t_isKept, g_t_lanes, g_t_sizes, g_t_items, g_t_moved])), (a_t_now, .inl (cy 0, 24, .inl v32)), (a_t_undone, .inl (cy 0, 112, .inl v16.1))]) hx hb hml hown hg (c_X9_goesBy l D cy a_t a_t_now _ (g_t_tape) (g_t_typed) (g_t_place) (g_t_isFault) (g_t_readLaw) (g_t_read) (.ref a_t_undone) (.int v16.2) (g_t_aside) (g_t_coat) (g_t_bestCoats) (g_t_bestStand) (g_t_bestPaint) (g_t_kept) (g_t_keptUndos) (g_t_isKept) (g_t_lanes) (g_t_sizes) (g_t_items) (g_t_moved) v31 0 F v32 hv32) q_1148 q_1145 q_63 q_1147 q_42 hd_X9_goesBy ⟨(Nat.le_of_ble_eq_true rfl), (Nat.le_of_ble_eq_true rfl)⟩ hK hP hD hS hA [0, 1] [2] rfl rfl rfl rfl (by decide) [1, 2, 0] rfl rfl 0 9 rfl rfl rfl rfl rfl rfl hl.1 rfl rfl (Nat.le_of_ble_eq_true rfl) dX9_drift_137 (fun H locs hP hD hS => ?_)
                    obtain ⟨x33, ex33⟩ : ∃ y : Int32, y = x4 + 1 := ⟨_, rfl⟩
                    have h := bnd_e ex33 h
                    refine lv_iinc (v := x33) (lv' := [(2, .int x33), (4, .int x22), (3, .int x21), (0, .ref a_t), (1, .int p0)]) hx hb dX9_drift_140 hl (k := 2) rfl (inc_e kI_1 ex33) (by decide) rfl (fun ls hl => ?_)
                    refine lv_goto (tgt := 33) hx hb dX9_drift_143 (by decide) ?_
                    exact ih x33 v32 v16.1 v16.2 _ _ _ hP hD hS (lv_sub hl [0, 3, 4] rfl) h
      exact L13 F 0 t_now t_undone t_undos _ _ _ hP hD hS (lv_sub hl [0, 1, 2] rfl) h
    · have h := it_f c3 h
      refine lv_bipush (v := (-3)) hx hb dX9_drift_28 kB_m3 ?_
      exact hret _ _ _ _ ls 30 dX9_drift_30 rfl (by rw [← Option.some.inj h]) (by rw [← Option.some.inj h]) hP hD hS
  · have h := it_t c2 h
    refine lv_iconst (v := (-1)) hx hb dX9_drift_12 kI_m1 ?_
    exact hret _ _ _ _ ls 13 dX9_drift_13 rfl (by rw [← Option.some.inj h]) (by rw [← Option.some.inj h]) hP hD hS

def m_X9_undo_L56s (t_undone : Nat → Int32) (x2 : Int32) (k8 : (Nat → Int32) → Option (Int32 × (Nat → Int32) × Int32)) (r10 : Int32 → (Nat → Int32) → Option (Int32 × (Nat → Int32) × Int32)) (x5 : Int32) (w6 : Nat → Int32) : Option (Int32 × (Nat → Int32) × Int32) := (if 6 ≤ x5 then k8 w6 else chk ((x2 + 2) + x5) 112 (chk ((6 + (3 * x5)) + 1) 24 (chk ((x2 + 8) + x5) 112 (chk ((6 + (3 * x5)) + 2) 24 (bnd (x5 + 1) (fun x16 => r10 x16 (upd (upd w6 ((6 + (3 * x5)) + 1).toNatClampNeg (t_undone ((x2 + 2) + x5).toNatClampNeg)) ((6 + (3 * x5)) + 2).toNatClampNeg (t_undone ((x2 + 8) + x5).toNatClampNeg))))))))
def m_X9_undo_L56 (t_undone : Nat → Int32) (x2 : Int32) (k8 : (Nat → Int32) → Option (Int32 × (Nat → Int32) × Int32)) : Nat → Int32 → (Nat → Int32) → Option (Int32 × (Nat → Int32) × Int32)
  | 0 => fun _ _ => none
  | nF + 1 => m_X9_undo_L56s t_undone x2 k8 (m_X9_undo_L56 t_undone x2 k8 nF)
def m_X9_undo (F : Nat) (t_now : Nat → Int32) (t_undone : Nat → Int32) (t_undos : Int32) : Option (Int32 × (Nat → Int32) × Int32) := (if t_undos = 0 then some ((-4), t_now, t_undos) else bnd (14 * (t_undos - 1)) (fun x2 => chk x2 112 (chk (x2 + 1) 112 (m_X9_undo_L56 t_undone x2 (fun (w7 : Nat → Int32) => some (t_undos - 1, w7, t_undos - 1)) F 0 (upd (upd t_now 1 (t_undone x2.toNatClampNeg)) 5 (t_undone (x2 + 1).toNatClampNeg))))))
set_option maxHeartbeats 4000000 in
set_option maxRecDepth 100000 in
theorem c_X9_undo (l : Launch) (D : va_G) (cy : Nat → ClassId) (a_t : Nat) (a_t_now : Nat) (a_t_undone : Nat) (sz : Nat) (g_t_tape : Value) (g_t_typed : Value) (g_t_place : Value) (g_t_isFault : Value) (g_t_readLaw : Value) (g_t_read : Value) (g_t_aside : Value) (g_t_coat : Value) (g_t_bestCoats : Value) (g_t_bestStand : Value) (g_t_bestPaint : Value) (g_t_kept : Value) (g_t_keptUndos : Value) (g_t_isKept : Value) (g_t_lanes : Value) (g_t_sizes : Value) (g_t_items : Value) (g_t_moved : Value) (t_now : Nat → Int32) (t_undone : Nat → Int32) (t_undos : Int32) (F : Nat) (out : Int32 × (Nat → Int32) × Int32) (h : m_X9_undo F t_now t_undone t_undos = some out) : MetM l D cy yX9_undo cX9_undo 3 (some .int) (rmG 0 0) [.ref a_t] sz [(a_t, .inr (9, [.ref a_t_now, g_t_tape, g_t_typed, g_t_place, g_t_isFault, g_t_readLaw, g_t_read, .ref a_t_undone, .int t_undos, g_t_aside, g_t_coat, g_t_bestCoats, g_t_bestStand, g_t_bestPaint, g_t_kept, g_t_keptUndos, g_t_isKept, g_t_lanes, g_t_sizes, g_t_items, g_t_moved])), (a_t_now, .inl (cy 0, 24, .inl t_now)), (a_t_undone, .inl (cy 0, 112, .inl t_undone))] (some (.int out.1)) [(a_t, .inr (9, [.ref a_t_now, g_t_tape, g_t_typed, g_t_place, g_t_isFault, g_t_readLaw, g_t_read, .ref a_t_undone, .int out.2.2, g_t_aside, g_t_coat, g_t_bestCoats, g_t_bestStand, g_t_bestPaint, g_t_kept, g_t_keptUndos, g_t_isKept, g_t_lanes, g_t_sizes, g_t_items, g_t_moved])), (a_t_now, .inl (cy 0, 24, .inl out.2.1)), (a_t_undone, .inl (cy 0, 112, .inl t_undone))] := by
  refine startMi (own := RX9) (by decide) rfl (Nat.le_of_ble_eq_true rfl) ?_
  intro p e s m below meth c QQ A hx hb hml hown hg hK hP hD hS hA hret ls hl
  have hl : lv_has ls 3 [(0, .ref a_t)] := hl
  unfold m_X9_undo at h
  refine lv_aload_n hx hb dX9_undo_0 rfl (lv_at hl 0 rfl) ?_
  refine va_get (D := D) (ci := 9) (v := .int t_undos) (C := RX9) (T := TX9) (N := 21) hx hb hg inG_X9 hown hK hP 0 rfl rfl 8 (by decide) (hg _ q_953) (fun _ h9 => h9) rfl dX9_undo_1 ?_
  refine lv_if_ne (tgt := 10) hx hb dX9_undo_4 (by decide) (fun c1 => ?_) (fun c1 => ?_)
  · have h := it_f c1 h
    refine lv_aload_n hx hb dX9_undo_10 rfl (lv_at hl 0 rfl) ?_
    refine lv_dup hx hb dX9_undo_11 rfl ?_
    refine va_get (D := D) (ci := 9) (v := .int t_undos) (C := RX9) (T := TX9) (N := 21) hx hb hg inG_X9 hown hK hP 0 rfl rfl 8 (by decide) (hg _ q_953) (fun _ h9 => h9) rfl dX9_undo_12 ?_
    refine lv_iconst (v := 1) hx hb dX9_undo_15 kI_1 ?_
    refine lv_isub hx hb dX9_undo_16 ?_
    refine va_put (D := D) (ci := 9) (v := .int (t_undos - 1)) (ty := .int) (C := RX9) (T := TX9) (N := 21) hx hb hg inG_X9 tyX9 tyX9_ok nmX9 hown hK hP hD hS 0 rfl rfl 8 (by decide) (hg _ q_953) (fun _ h9 => h9) rfl (tyX9_ok 8 (by decide)) rfl rfl (Nat.le_of_ble_eq_true rfl) dX9_undo_17 (fun H locs hP hD hS => ?_)
    have hP : va_P D vwCl [(a_t, .inr (9, [.ref a_t_now, g_t_tape, g_t_typed, g_t_place, g_t_isFault, g_t_readLaw, g_t_read, .ref a_t_undone, .int (t_undos - 1), g_t_aside, g_t_coat, g_t_bestCoats, g_t_bestStand, g_t_bestPaint, g_t_kept, g_t_keptUndos, g_t_isKept, g_t_lanes, g_t_sizes, g_t_items, g_t_moved])), (a_t_now, .inl (cy 0, 24, .inl t_now)), (a_t_undone, .inl (cy 0, 112, .inl t_undone))] H := hP
    have hD : va_D A [(a_t, .inr (9, [.ref a_t_now, g_t_tape, g_t_typed, g_t_place, g_t_isFault, g_t_readLaw, g_t_read, .ref a_t_undone, .int (t_undos - 1), g_t_aside, g_t_coat, g_t_bestCoats, g_t_bestStand, g_t_bestPaint, g_t_kept, g_t_keptUndos, g_t_isKept, g_t_lanes, g_t_sizes, g_t_items, g_t_moved])), (a_t_now, .inl (cy 0, 24, .inl t_now)), (a_t_undone, .inl (cy 0, 112, .inl t_undone))] := hD
    refine lv_bipush (v := 14) hx hb dX9_undo_20 kB_14 ?_
    refine lv_aload_n hx hb dX9_undo_22 rfl (lv_at hl 0 rfl) ?_
    refine va_get (D := D) (ci := 9) (v := .int (t_undos - 1)) (C := RX9) (T := TX9) (N := 21) hx hb hg inG_X9 hown hK hP 0 rfl rfl 8 (by decide) (hg _ q_953) (fun _ h9 => h9) rfl dX9_undo_23 ?_
    refine lv_imul hx hb dX9_undo_26 ?_
    refine lv_topi (fun x2 ex2 => ?_)
    have h := bnd_e ex2 h
    refine lv_istore_n (lv' := [(1, .int x2), (0, .ref a_t)]) hx hb dX9_undo_27 rfl hl (by decide) rfl (fun ls hl => ?_)
    refine lv_aload_n hx hb dX9_undo_28 rfl (lv_at hl 1 rfl) ?_
    refine va_get (D := D) (ci := 9) (v := .ref a_t_now) (C := RX9) (T := TX9) (N := 21) hx hb hg inG_X9 hown hK hP 0 rfl rfl 0 (by decide) (hg _ q_945) (fun _ h9 => h9) rfl dX9_undo_29 ?_
    refine lv_iconst (v := 1) hx hb dX9_undo_32 kI_1 ?_
    refine lv_aload_n hx hb dX9_undo_33 rfl (lv_at hl 1 rfl) ?_
    refine va_get (D := D) (ci := 9) (v := .ref a_t_undone) (C := RX9) (T := TX9) (N := 21) hx hb hg inG_X9 hown hK hP 0 rfl rfl 7 (by decide) (hg _ q_952) (fun _ h9 => h9) rfl dX9_undo_34 ?_
    refine lv_iload_n hx hb dX9_undo_37 rfl (lv_at hl 0 rfl) ?_
    obtain ⟨hi3, h⟩ := chk_e h
    refine va_iald hx hb hK hP 2 0 rfl rfl hi3 dX9_undo_38 ?_
    refine iastK hx hb hK hP hD hS 1 0 rfl rfl (vp_in_inb (by decide)) kN_1 dX9_undo_39 (fun H locs hP hD hS => ?_)
    have hP : va_P D vwCl [(a_t, .inr (9, [.ref a_t_now, g_t_tape, g_t_typed, g_t_place, g_t_isFault, g_t_readLaw, g_t_read, .ref a_t_undone, .int (t_undos - 1), g_t_aside, g_t_coat, g_t_bestCoats, g_t_bestStand, g_t_bestPaint, g_t_kept, g_t_keptUndos, g_t_isKept, g_t_lanes, g_t_sizes, g_t_items, g_t_moved])), (a_t_now, .inl (cy 0, 24, .inl (upd t_now 1 (t_undone x2.toNatClampNeg)))), (a_t_undone, .inl (cy 0, 112, .inl t_undone))] H := hP
    have hD : va_D A [(a_t, .inr (9, [.ref a_t_now, g_t_tape, g_t_typed, g_t_place, g_t_isFault, g_t_readLaw, g_t_read, .ref a_t_undone, .int (t_undos - 1), g_t_aside, g_t_coat, g_t_bestCoats, g_t_bestStand, g_t_bestPaint, g_t_kept, g_t_keptUndos, g_t_isKept, g_t_lanes, g_t_sizes, g_t_items, g_t_moved])), (a_t_now, .inl (cy 0, 24, .inl (upd t_now 1 (t_undone x2.toNatClampNeg)))), (a_t_undone, .inl (cy 0, 112, .inl t_undone))] := hD
    refine lv_aload_n hx hb dX9_undo_40 rfl (lv_at hl 1 rfl) ?_
    refine va_get (D := D) (ci := 9) (v := .ref a_t_now) (C := RX9) (T := TX9) (N := 21) hx hb hg inG_X9 hown hK hP 0 rfl rfl 0 (by decide) (hg _ q_945) (fun _ h9 => h9) rfl dX9_undo_41 ?_
    refine lv_iconst (v := 5) hx hb dX9_undo_44 kI_5 ?_
    refine lv_aload_n hx hb dX9_undo_45 rfl (lv_at hl 1 rfl) ?_
    refine va_get (D := D) (ci := 9) (v := .ref a_t_undone) (C := RX9) (T := TX9) (N := 21) hx hb hg inG_X9 hown hK hP 0 rfl rfl 7 (by decide) (hg _ q_952) (fun _ h9 => h9) rfl dX9_undo_46 ?_
    refine lv_iload_n hx hb dX9_undo_49 rfl (lv_at hl 0 rfl) ?_
    refine lv_iconst (v := 1) hx hb dX9_undo_50 kI_1 ?_
    refine lv_iadd hx hb dX9_undo_51 ?_
    obtain ⟨hi4, h⟩ := chk_e h
    refine va_iald hx hb hK hP 2 0 rfl rfl hi4 dX9_undo_52 ?_
    refine iastK hx hb hK hP hD hS 1 0 rfl rfl (vp_in_inb (by decide)) kN_5 dX9_undo_53 (fun H locs hP hD hS => ?_)
    have hP : va_P D vwCl [(a_t, .inr (9, [.ref a_t_now, g_t_tape, g_t_typed, g_t_place, g_t_isFault, g_t_readLaw, g_t_read, .ref a_t_undone, .int (t_undos - 1), g_t_aside, g_t_coat, g_t_bestCoats, g_t_bestStand, g_t_bestPaint, g_t_kept, g_t_keptUndos, g_t_isKept, g_t_lanes, g_t_sizes, g_t_items, g_t_moved])), (a_t_now, .inl (cy 0, 24, .inl (upd (upd t_now 1 (t_undone x2.toNatClampNeg)) 5 (t_undone (x2 + 1).toNatClampNeg)))), (a_t_undone, .inl (cy 0, 112, .inl t_undone))] H := hP
    have hD : va_D A [(a_t, .inr (9, [.ref a_t_now, g_t_tape, g_t_typed, g_t_place, g_t_isFault, g_t_readLaw, g_t_read, .ref a_t_undone, .int (t_undos - 1), g_t_aside, g_t_coat, g_t_bestCoats, g_t_bestStand, g_t_bestPaint, g_t_kept, g_t_keptUndos, g_t_isKept, g_t_lanes, g_t_sizes, g_t_items, g_t_moved])), (a_t_now, .inl (cy 0, 24, .inl (upd (upd t_now 1 (t_undone x2.toNatClampNeg)) 5 (t_undone (x2 + 1).toNatClampNeg)))), (a_t_undone, .inl (cy 0, 112, .inl t_undone))] := hD
    refine lv_iconst (v := 0) hx hb dX9_undo_54 kI_0 ?_
    refine lv_istore_n (lv' := [(2, .int 0), (1, .int x2), (0, .ref a_t)]) hx hb dX9_undo_55 rfl hl (by decide) rfl (fun ls hl => ?_)
    obtain ⟨k8, hk8, h⟩ := kap (fun z => m_X9_undo_L56 t_undone x2 z F 0 (upd (upd t_now 1 (t_undone x2.toNatClampNeg)) 5 (t_undone (x2 + 1).toNatClampNeg))) h
    have J8 : ∀ (w7 : Nat → Int32) (H : Heap) (locs : List Loc) (ls : Array Slot), va_P D vwCl [(a_t, .inr (9, [.ref a_t_now, g_t_tape, g_t_typed, g_t_place, g_t_isFault, g_t_readLaw, g_t_read, .ref a_t_undone, .int (t_undos - 1), g_t_aside, g_t_coat, g_t_bestCoats, g_t_bestStand, g_t_bestPaint, g_t_kept, g_t_keptUndos, g_t_isKept, g_t_lanes, g_t_sizes, g_t_items, g_t_moved])), (a_t_now, .inl (cy 0, 24, .inl w7)), (a_t_undone, .inl (cy 0, 112, .inl t_undone))] H → va_D A [(a_t, .inr (9, [.ref a_t_now, g_t_tape, g_t_typed, g_t_place, g_t_isFault, g_t_readLaw, g_t_read, .ref a_t_undone, .int (t_undos - 1), g_t_aside, g_t_coat, g_t_bestCoats, g_t_bestStand, g_t_bestPaint, g_t_kept, g_t_keptUndos, g_t_isKept, g_t_lanes, g_t_sizes, g_t_items, g_t_moved])), (a_t_now, .inl (cy 0, 24, .inl w7)), (a_t_undone, .inl (cy 0, 112, .inl t_undone))] → va_S A s.heap H locs → lv_has ls 3 [(0, .ref a_t)] → k8 w7 = some out → W p l e (rmG 0 0) s m [.ref a_t].toArray below meth c H locs 0 0 QQ (F0 m 115 ls []) := by
      intro w7 H locs ls hP hD hS hl h
      rw [hk8] at h
      refine lv_aload_n hx hb dX9_undo_115 rfl (lv_at hl 0 rfl) ?_
      refine va_get (D := D) (ci := 9) (v := .int (t_undos - 1)) (C := RX9) (T := TX9) (N := 21) hx hb hg inG_X9 hown hK hP 0 rfl rfl 8 (by decide) (hg _ q_953) (fun _ h9 => h9) rfl dX9_undo_116 ?_
      exact hret _ _ _ _ ls 119 dX9_undo_119 rfl (by rw [← Option.some.inj h]) (by rw [← Option.some.inj h]) hP hD hS
    have L9 : ∀ (n9 : Nat) (x5 : Int32) (w6 : Nat → Int32) (H : Heap) (locs : List Loc) (ls : Array Slot), va_P D vwCl [(a_t, .inr (9, [.ref a_t_now, g_t_tape, g_t_typed, g_t_place, g_t_isFault, g_t_readLaw, g_t_read, .ref a_t_undone, .int (t_undos - 1), g_t_aside, g_t_coat, g_t_bestCoats, g_t_bestStand, g_t_bestPaint, g_t_kept, g_t_keptUndos, g_t_isKept, g_t_lanes, g_t_sizes, g_t_items, g_t_moved])), (a_t_now, .inl (cy 0, 24, .inl w6)), (a_t_undone, .inl (cy 0, 112, .inl t_undone))] H → va_D A [(a_t, .inr (9, [.ref a_t_now, g_t_tape, g_t_typed, g_t_place, g_t_isFault, g_t_readLaw, g_t_read, .ref a_t_undone, .int (t_undos - 1), g_t_aside, g_t_coat, g_t_bestCoats, g_t_bestStand, g_t_bestPaint, g_t_kept, g_t_keptUndos, g_t_isKept, g_t_lanes, g_t_sizes, g_t_items, g_t_moved])), (a_t_now, .inl (cy 0, 24, .inl w6)), (a_t_undone, .inl (cy 0, 112, .inl t_undone))] → va_S A s.heap H locs → lv_has ls 3 [(2, .int x5), (1, .int x2), (0, .ref a_t)] → m_X9_undo_L56 t_undone x2 k8 n9 x5 w6 = some out → W p l e (rmG 0 0) s m [.ref a_t].toArray below meth c H locs 0 0 QQ (F0 m 56 ls []) := by
      intro n9
      induction n9 with
      | zero => intro x5 w6 H locs ls hP hD hS hl h; exact nomatch (show (none : Option (Int32 × (Nat → Int32) × Int32)) = some out from h)
      | succ n9 ih =>
          intro x5 w6 H locs ls hP hD hS hl h
          have h : m_X9_undo_L56s t_undone x2 k8 (m_X9_undo_L56 t_undone x2 k8 n9) x5 w6 = some out := h
          unfold m_X9_undo_L56s at h
          refine lv_iload_n hx hb dX9_undo_56 rfl (lv_at hl 0 rfl) ?_
          refine lv_bipush (v := 6) hx hb dX9_undo_57 kB_6 ?_
          refine lv_icmp_ge (tgt := 115) hx hb dX9_undo_59 (by decide) (fun c11 => ?_) (fun c11 => ?_)
          · have h := it_t c11 h
            exact J8 w6 _ _ _ hP hD hS (lv_sub hl [2] rfl) h
          · have h := it_f c11 h
            refine lv_aload_n hx hb dX9_undo_62 rfl (lv_at hl 2 rfl) ?_
            refine va_get (D := D) (ci := 9) (v := .ref a_t_now) (C := RX9) (T := TX9) (N := 21) hx hb hg inG_X9 hown hK hP 0 rfl rfl 0 (by decide) (hg _ q_945) (fun _ h9 => h9) rfl dX9_undo_63 ?_
            refine lv_bipush (v := 6) hx hb dX9_undo_66 kB_6 ?_
            refine lv_iconst (v := 3) hx hb dX9_undo_68 kI_3 ?_
            refine lv_iload_n hx hb dX9_undo_69 rfl (lv_at hl 0 rfl) ?_
            refine lv_imul hx hb dX9_undo_70 ?_
            refine lv_iadd hx hb dX9_undo_71 ?_
            refine lv_iconst (v := 1) hx hb dX9_undo_72 kI_1 ?_
            refine lv_iadd hx hb dX9_undo_73 ?_
            refine lv_aload_n hx hb dX9_undo_74 rfl (lv_at hl 2 rfl) ?_
            refine va_get (D := D) (ci := 9) (v := .ref a_t_undone) (C := RX9) (T := TX9) (N := 21) hx hb hg inG_X9 hown hK hP 0 rfl rfl 7 (by decide) (hg _ q_952) (fun _ h9 => h9) rfl dX9_undo_75 ?_
            refine lv_iload_n hx hb dX9_undo_78 rfl (lv_at hl 1 rfl) ?_
            refine lv_iconst (v := 2) hx hb dX9_undo_79 kI_2 ?_
            refine lv_iadd hx hb dX9_undo_80 ?_
            refine lv_iload_n hx hb dX9_undo_81 rfl (lv_at hl 0 rfl) ?_
            refine lv_iadd hx hb dX9_undo_82 ?_
            obtain ⟨hi12, h⟩ := chk_e h
            refine va_iald hx hb hK hP 2 0 rfl rfl hi12 dX9_undo_83 ?_
            obtain ⟨hi13, h⟩ := chk_e h
            refine va_iast hx hb hK hP hD hS 1 0 rfl rfl hi13 dX9_undo_84 (fun H locs hP hD hS => ?_)
            have hP : va_P D vwCl [(a_t, .inr (9, [.ref a_t_now, g_t_tape, g_t_typed, g_t_place, g_t_isFault, g_t_readLaw, g_t_read, .ref a_t_undone, .int (t_undos - 1), g_t_aside, g_t_coat, g_t_bestCoats, g_t_bestStand, g_t_bestPaint, g_t_kept, g_t_keptUndos, g_t_isKept, g_t_lanes, g_t_sizes, g_t_items, g_t_moved])), (a_t_now, .inl (cy 0, 24, .inl (upd w6 ((6 + (3 * x5)) + 1).toNatClampNeg (t_undone ((x2 + 2) + x5).toNatClampNeg)))), (a_t_undone, .inl (cy 0, 112, .inl t_undone))] H := hP
            have hD : va_D A [(a_t, .inr (9, [.ref a_t_now, g_t_tape, g_t_typed, g_t_place, g_t_isFault, g_t_readLaw, g_t_read, .ref a_t_undone, .int (t_undos - 1), g_t_aside, g_t_coat, g_t_bestCoats, g_t_bestStand, g_t_bestPaint, g_t_kept, g_t_keptUndos, g_t_isKept, g_t_lanes, g_t_sizes, g_t_items, g_t_moved])), (a_t_now, .inl (cy 0, 24, .inl (upd w6 ((6 + (3 * x5)) + 1).toNatClampNeg (t_undone ((x2 + 2) + x5).toNatClampNeg)))), (a_t_undone, .inl (cy 0, 112, .inl t_undone))] := hD
            refine lv_aload_n hx hb dX9_undo_85 rfl (lv_at hl 2 rfl) ?_
            refine va_get (D := D) (ci := 9) (v := .ref a_t_now) (C := RX9) (T := TX9) (N := 21) hx hb hg inG_X9 hown hK hP 0 rfl rfl 0 (by decide) (hg _ q_945) (fun _ h9 => h9) rfl dX9_undo_86 ?_
            refine lv_bipush (v := 6) hx hb dX9_undo_89 kB_6 ?_
            refine lv_iconst (v := 3) hx hb dX9_undo_91 kI_3 ?_
            refine lv_iload_n hx hb dX9_undo_92 rfl (lv_at hl 0 rfl) ?_
            refine lv_imul hx hb dX9_undo_93 ?_
            refine lv_iadd hx hb dX9_undo_94 ?_
            refine lv_iconst (v := 2) hx hb dX9_undo_95 kI_2 ?_
            refine lv_iadd hx hb dX9_undo_96 ?_
            refine lv_aload_n hx hb dX9_undo_97 rfl (lv_at hl 2 rfl) ?_
            refine va_get (D := D) (ci := 9) (v := .ref a_t_undone) (C := RX9) (T := TX9) (N := 21) hx hb hg inG_X9 hown hK hP 0 rfl rfl 7 (by decide) (hg _ q_952) (fun _ h9 => h9) rfl dX9_undo_98 ?_
            refine lv_iload_n hx hb dX9_undo_101 rfl (lv_at hl 1 rfl) ?_
            refine lv_bipush (v := 8) hx hb dX9_undo_102 kB_8 ?_
            refine lv_iadd hx hb dX9_undo_104 ?_
            refine lv_iload_n hx hb dX9_undo_105 rfl (lv_at hl 0 rfl) ?_
            refine lv_iadd hx hb dX9_undo_106 ?_
            obtain ⟨hi14, h⟩ := chk_e h
            refine va_iald hx hb hK hP 2 0 rfl rfl hi14 dX9_undo_107 ?_
            obtain ⟨hi15, h⟩ := chk_e h
            refine va_iast hx hb hK hP hD hS 1 0 rfl rfl hi15 dX9_undo_108 (fun H locs hP hD hS => ?_)
            have hP : va_P D vwCl [(a_t, .inr (9, [.ref a_t_now, g_t_tape, g_t_typed, g_t_place, g_t_isFault, g_t_readLaw, g_t_read, .ref a_t_undone, .int (t_undos - 1), g_t_aside, g_t_coat, g_t_bestCoats, g_t_bestStand, g_t_bestPaint, g_t_kept, g_t_keptUndos, g_t_isKept, g_t_lanes, g_t_sizes, g_t_items, g_t_moved])), (a_t_now, .inl (cy 0, 24, .inl (upd (upd w6 ((6 + (3 * x5)) + 1).toNatClampNeg (t_undone ((x2 + 2) + x5).toNatClampNeg)) ((6 + (3 * x5)) + 2).toNatClampNeg (t_undone ((x2 + 8) + x5).toNatClampNeg)))), (a_t_undone, .inl (cy 0, 112, .inl t_undone))] H := hP
            have hD : va_D A [(a_t, .inr (9, [.ref a_t_now, g_t_tape, g_t_typed, g_t_place, g_t_isFault, g_t_readLaw, g_t_read, .ref a_t_undone, .int (t_undos - 1), g_t_aside, g_t_coat, g_t_bestCoats, g_t_bestStand, g_t_bestPaint, g_t_kept, g_t_keptUndos, g_t_isKept, g_t_lanes, g_t_sizes, g_t_items, g_t_moved])), (a_t_now, .inl (cy 0, 24, .inl (upd (upd w6 ((6 + (3 * x5)) + 1).toNatClampNeg (t_undone ((x2 + 2) + x5).toNatClampNeg)) ((6 + (3 * x5)) + 2).toNatClampNeg (t_undone ((x2 + 8) + x5).toNatClampNeg)))), (a_t_undone, .inl (cy 0, 112, .inl t_undone))] := hD
            obtain ⟨x16, ex16⟩ : ∃ y : Int32, y = x5 + 1 := ⟨_, rfl⟩
            have h := bnd_e ex16 h
            refine lv_iinc (v := x16) (lv' := [(2, .int x16), (1, .int x2), (0, .ref a_t)]) hx hb dX9_undo_109 hl (k := 0) rfl (inc_e kI_1 ex16) (by decide) rfl (fun ls hl => ?_)
            refine lv_goto (tgt := 56) hx hb dX9_undo_112 (by decide) ?_
            exact ih x16 (upd (upd w6 ((6 + (3 * x5)) + 1).toNatClampNeg (t_undone ((x2 + 2) + x5).toNatClampNeg)) ((6 + (3 * x5)) + 2).toNatClampNeg (t_undone ((x2 + 8) + x5).toNatClampNeg)) _ _ _ hP hD hS (lv_sub hl [0, 1, 2] rfl) h
    exact L9 F 0 (upd (upd t_now 1 (t_undone x2.toNatClampNeg)) 5 (t_undone (x2 + 1).toNatClampNeg)) _ _ _ hP hD hS (lv_sub hl [0, 1, 2] rfl) h
  · have h := it_t c1 h
    refine lv_bipush (v := (-4)) hx hb dX9_undo_7 kB_m4 ?_
    exact hret _ _ _ _ ls 9 dX9_undo_9 rfl (by rw [← Option.some.inj h]) (by rw [← Option.some.inj h]) hP hD hS

def m_X9_seed (t_now : Nat → Int32) (p0 : Int32) : Option (Int32 × (Nat → Int32)) := (if 0 ≤ p0 then bnd (t_now 5) (fun x2 => some (x2, upd t_now 5 p0)) else some ((-1), t_now))
set_option maxHeartbeats 4000000 in
set_option maxRecDepth 100000 in
theorem c_X9_seed (l : Launch) (D : va_G) (cy : Nat → ClassId) (a_t : Nat) (a_t_now : Nat) (sz : Nat) (g_t_tape : Value) (g_t_typed : Value) (g_t_place : Value) (g_t_isFault : Value) (g_t_readLaw : Value) (g_t_read : Value) (g_t_undone : Value) (g_t_undos : Value) (g_t_aside : Value) (g_t_coat : Value) (g_t_bestCoats : Value) (g_t_bestStand : Value) (g_t_bestPaint : Value) (g_t_kept : Value) (g_t_keptUndos : Value) (g_t_isKept : Value) (g_t_lanes : Value) (g_t_sizes : Value) (g_t_items : Value) (g_t_moved : Value) (t_now : Nat → Int32) (p0 : Int32) (out : Int32 × (Nat → Int32)) (h : m_X9_seed t_now p0 = some out) : MetM l D cy yX9_seed cX9_seed 3 (some .int) (rmG 0 0) [.ref a_t, .int p0] sz [(a_t, .inr (9, [.ref a_t_now, g_t_tape, g_t_typed, g_t_place, g_t_isFault, g_t_readLaw, g_t_read, g_t_undone, g_t_undos, g_t_aside, g_t_coat, g_t_bestCoats, g_t_bestStand, g_t_bestPaint, g_t_kept, g_t_keptUndos, g_t_isKept, g_t_lanes, g_t_sizes, g_t_items, g_t_moved])), (a_t_now, .inl (cy 0, 24, .inl t_now))] (some (.int out.1)) [(a_t, .inr (9, [.ref a_t_now, g_t_tape, g_t_typed, g_t_place, g_t_isFault, g_t_readLaw, g_t_read, g_t_undone, g_t_undos, g_t_aside, g_t_coat, g_t_bestCoats, g_t_bestStand, g_t_bestPaint, g_t_kept, g_t_keptUndos, g_t_isKept, g_t_lanes, g_t_sizes, g_t_items, g_t_moved])), (a_t_now, .inl (cy 0, 24, .inl out.2))] := by
  refine startMi (own := RX9) (by decide) rfl (Nat.le_of_ble_eq_true rfl) ?_
  intro p e s m below meth c QQ A hx hb hml hown hg hK hP hD hS hA hret ls hl
  have hl : lv_has ls 3 [(0, .ref a_t), (1, .int p0)] := hl
  unfold m_X9_seed at h
  refine lv_iload_n hx hb dX9_seed_0 rfl (lv_at hl 1 rfl) ?_
  refine lv_if_ge (tgt := 6) hx hb dX9_seed_1 (by decide) (fun c1 => ?_) (fun c1 => ?_)
  · have h := it_t c1 h
    refine lv_aload_n hx hb dX9_seed_6 rfl (lv_at hl 0 rfl) ?_
    refine va_get (D := D) (ci := 9) (v := .ref a_t_now) (C := RX9) (T := TX9) (N := 21) hx hb hg inG_X9 hown hK hP 0 rfl rfl 0 (by decide) (hg _ q_945) (fun _ h9 => h9) rfl dX9_seed_7 ?_
    refine lv_iconst (v := 5) hx hb dX9_seed_10 kI_5 ?_
    refine ialdK hx hb hK hP 1 0 rfl rfl (vp_in_inb (by decide)) kN_5 dX9_seed_11 ?_
    refine lv_topi (fun x2 ex2 => ?_)
    have h := bnd_e ex2 h
    refine lv_istore_n (lv' := [(2, .int x2), (0, .ref a_t), (1, .int p0)]) hx hb dX9_seed_12 rfl hl (by decide) rfl (fun ls hl => ?_)
    refine lv_aload_n hx hb dX9_seed_13 rfl (lv_at hl 1 rfl) ?_
    refine va_get (D := D) (ci := 9) (v := .ref a_t_now) (C := RX9) (T := TX9) (N := 21) hx hb hg inG_X9 hown hK hP 0 rfl rfl 0 (by decide) (hg _ q_945) (fun _ h9 => h9) rfl dX9_seed_14 ?_
    refine lv_iconst (v := 5) hx hb dX9_seed_17 kI_5 ?_
    refine lv_iload_n hx hb dX9_seed_18 rfl (lv_at hl 2 rfl) ?_
    refine iastK hx hb hK hP hD hS 1 0 rfl rfl (vp_in_inb (by decide)) kN_5 dX9_seed_19 (fun H locs hP hD hS => ?_)
    have hP : va_P D vwCl [(a_t, .inr (9, [.ref a_t_now, g_t_tape, g_t_typed, g_t_place, g_t_isFault, g_t_readLaw, g_t_read, g_t_undone, g_t_undos, g_t_aside, g_t_coat, g_t_bestCoats, g_t_bestStand, g_t_bestPaint, g_t_kept, g_t_keptUndos, g_t_isKept, g_t_lanes, g_t_sizes, g_t_items, g_t_moved])), (a_t_now, .inl (cy 0, 24, .inl (upd t_now 5 p0)))] H := hP
    have hD : va_D A [(a_t, .inr (9, [.ref a_t_now, g_t_tape, g_t_typed, g_t_place, g_t_isFault, g_t_readLaw, g_t_read, g_t_undone, g_t_undos, g_t_aside, g_t_coat, g_t_bestCoats, g_t_bestStand, g_t_bestPaint, g_t_kept, g_t_keptUndos, g_t_isKept, g_t_lanes, g_t_sizes, g_t_items, g_t_moved])), (a_t_now, .inl (cy 0, 24, .inl (upd t_now 5 p0)))] := hD
    refine lv_iload_n hx hb dX9_seed_20 rfl (lv_at hl 0 rfl) ?_
    exact hret _ _ _ _ ls 21 dX9_seed_21 rfl (by rw [← Option.some.inj h]) (by rw [← Option.some.inj h]) hP hD hS
  · have h := it_f c1 h
    refine lv_iconst (v := (-1)) hx hb dX9_seed_4 kI_m1 ?_
    exact hret _ _ _ _ ls 5 dX9_seed_5 rfl (by rw [← Option.some.inj h]) (by rw [← Option.some.inj h]) hP hD hS

def m_X9_asides_L2s (t_now : Nat → Int32) (k4 : (Nat → Int32) → Option ((Nat → Int32))) (r6 : Int32 → (Nat → Int32) → Option ((Nat → Int32))) (x1 : Int32) (w2 : Nat → Int32) : Option ((Nat → Int32)) := (if 24 ≤ x1 then k4 w2 else chk x1 24 (chk x1 24 (bnd (x1 + 1) (fun x10 => r6 x10 (upd w2 x1.toNatClampNeg (t_now x1.toNatClampNeg))))))
def m_X9_asides_L2 (t_now : Nat → Int32) (k4 : (Nat → Int32) → Option ((Nat → Int32))) : Nat → Int32 → (Nat → Int32) → Option ((Nat → Int32))
  | 0 => fun _ _ => none
  | nF + 1 => m_X9_asides_L2s t_now k4 (m_X9_asides_L2 t_now k4 nF)
def m_X9_asides (F : Nat) (t_now : Nat → Int32) (t_aside : Nat → Int32) : Option ((Nat → Int32)) := m_X9_asides_L2 t_now (fun (w3 : Nat → Int32) => some w3) F 0 t_aside
set_option maxHeartbeats 4000000 in
set_option maxRecDepth 100000 in
theorem c_X9_asides (l : Launch) (D : va_G) (cy : Nat → ClassId) (a_t : Nat) (a_t_now : Nat) (a_t_aside : Nat) (sz : Nat) (g_t_tape : Value) (g_t_typed : Value) (g_t_place : Value) (g_t_isFault : Value) (g_t_readLaw : Value) (g_t_read : Value) (g_t_undone : Value) (g_t_undos : Value) (g_t_coat : Value) (g_t_bestCoats : Value) (g_t_bestStand : Value) (g_t_bestPaint : Value) (g_t_kept : Value) (g_t_keptUndos : Value) (g_t_isKept : Value) (g_t_lanes : Value) (g_t_sizes : Value) (g_t_items : Value) (g_t_moved : Value) (t_now : Nat → Int32) (t_aside : Nat → Int32) (F : Nat) (out : (Nat → Int32)) (h : m_X9_asides F t_now t_aside = some out) : MetM l D cy yX9_asides cX9_asides 2 none (rmG 0 0) [.ref a_t] sz [(a_t, .inr (9, [.ref a_t_now, g_t_tape, g_t_typed, g_t_place, g_t_isFault, g_t_readLaw, g_t_read, g_t_undone, g_t_undos, .ref a_t_aside, g_t_coat, g_t_bestCoats, g_t_bestStand, g_t_bestPaint, g_t_kept, g_t_keptUndos, g_t_isKept, g_t_lanes, g_t_sizes, g_t_items, g_t_moved])), (a_t_now, .inl (cy 0, 24, .inl t_now)), (a_t_aside, .inl (cy 0, 24, .inl t_aside))] none [(a_t, .inr (9, [.ref a_t_now, g_t_tape, g_t_typed, g_t_place, g_t_isFault, g_t_readLaw, g_t_read, g_t_undone, g_t_undos, .ref a_t_aside, g_t_coat, g_t_bestCoats, g_t_bestStand, g_t_bestPaint, g_t_kept, g_t_keptUndos, g_t_isKept, g_t_lanes, g_t_sizes, g_t_items, g_t_moved])), (a_t_now, .inl (cy 0, 24, .inl t_now)), (a_t_aside, .inl (cy 0, 24, .inl out))] := by
  refine startMv (own := RX9) (by decide) rfl (Nat.le_of_ble_eq_true rfl) ?_
  intro p e s m below meth c QQ A hx hb hml hown hg hK hP hD hS hA hret ls hl
  have hl : lv_has ls 2 [(0, .ref a_t)] := hl
  unfold m_X9_asides at h
  refine lv_iconst (v := 0) hx hb dX9_asides_0 kI_0 ?_
  refine lv_istore_n (lv' := [(1, .int 0), (0, .ref a_t)]) hx hb dX9_asides_1 rfl hl (by decide) rfl (fun ls hl => ?_)
  obtain ⟨k4, hk4, h⟩ := kap (fun z => m_X9_asides_L2 t_now z F 0 t_aside) h
  have J4 : ∀ (w3 : Nat → Int32) (H : Heap) (locs : List Loc) (ls : Array Slot), va_P D vwCl [(a_t, .inr (9, [.ref a_t_now, g_t_tape, g_t_typed, g_t_place, g_t_isFault, g_t_readLaw, g_t_read, g_t_undone, g_t_undos, .ref a_t_aside, g_t_coat, g_t_bestCoats, g_t_bestStand, g_t_bestPaint, g_t_kept, g_t_keptUndos, g_t_isKept, g_t_lanes, g_t_sizes, g_t_items, g_t_moved])), (a_t_now, .inl (cy 0, 24, .inl t_now)), (a_t_aside, .inl (cy 0, 24, .inl w3))] H → va_D A [(a_t, .inr (9, [.ref a_t_now, g_t_tape, g_t_typed, g_t_place, g_t_isFault, g_t_readLaw, g_t_read, g_t_undone, g_t_undos, .ref a_t_aside, g_t_coat, g_t_bestCoats, g_t_bestStand, g_t_bestPaint, g_t_kept, g_t_keptUndos, g_t_isKept, g_t_lanes, g_t_sizes, g_t_items, g_t_moved])), (a_t_now, .inl (cy 0, 24, .inl t_now)), (a_t_aside, .inl (cy 0, 24, .inl w3))] → va_S A s.heap H locs → lv_has ls 2 [] → k4 w3 = some out → W p l e (rmG 0 0) s m [.ref a_t].toArray below meth c H locs 0 0 QQ (F0 m 26 ls []) := by
    intro w3 H locs ls hP hD hS hl h
    rw [hk4] at h
    exact hret _ _ _ ls 26 dX9_asides_26 (by rw [← Option.some.inj h]) hP hD hS
  have L5 : ∀ (n5 : Nat) (x1 : Int32) (w2 : Nat → Int32) (H : Heap) (locs : List Loc) (ls : Array Slot), va_P D vwCl [(a_t, .inr (9, [.ref a_t_now, g_t_tape, g_t_typed, g_t_place, g_t_isFault, g_t_readLaw, g_t_read, g_t_undone, g_t_undos, .ref a_t_aside, g_t_coat, g_t_bestCoats, g_t_bestStand, g_t_bestPaint, g_t_kept, g_t_keptUndos, g_t_isKept, g_t_lanes, g_t_sizes, g_t_items, g_t_moved])), (a_t_now, .inl (cy 0, 24, .inl t_now)), (a_t_aside, .inl (cy 0, 24, .inl w2))] H → va_D A [(a_t, .inr (9, [.ref a_t_now, g_t_tape, g_t_typed, g_t_place, g_t_isFault, g_t_readLaw, g_t_read, g_t_undone, g_t_undos, .ref a_t_aside, g_t_coat, g_t_bestCoats, g_t_bestStand, g_t_bestPaint, g_t_kept, g_t_keptUndos, g_t_isKept, g_t_lanes, g_t_sizes, g_t_items, g_t_moved])), (a_t_now, .inl (cy 0, 24, .inl t_now)), (a_t_aside, .inl (cy 0, 24, .inl w2))] → va_S A s.heap H locs → lv_has ls 2 [(1, .int x1), (0, .ref a_t)] → m_X9_asides_L2 t_now k4 n5 x1 w2 = some out → W p l e (rmG 0 0) s m [.ref a_t].toArray below meth c H locs 0 0 QQ (F0 m 2 ls []) := by
    intro n5
    induction n5 with
    | zero => intro x1 w2 H locs ls hP hD hS hl h; exact nomatch (show (none : Option ((Nat → Int32))) = some out from h)
    | succ n5 ih =>
        intro x1 w2 H locs ls hP hD hS hl h
        have h : m_X9_asides_L2s t_now k4 (m_X9_asides_L2 t_now k4 n5) x1 w2 = some out := h
        unfold m_X9_asides_L2s at h
        refine lv_iload_n hx hb dX9_asides_2 rfl (lv_at hl 0 rfl) ?_
        refine lv_bipush (v := 24) hx hb dX9_asides_3 kB_24 ?_
        refine lv_icmp_ge (tgt := 26) hx hb dX9_asides_5 (by decide) (fun c7 => ?_) (fun c7 => ?_)
        · have h := it_t c7 h
          exact J4 w2 _ _ _ hP hD hS (lv_sub hl [] rfl) h
        · have h := it_f c7 h
          refine lv_aload_n hx hb dX9_asides_8 rfl (lv_at hl 1 rfl) ?_
          refine va_get (D := D) (ci := 9) (v := .ref a_t_aside) (C := RX9) (T := TX9) (N := 21) hx hb hg inG_X9 hown hK hP 0 rfl rfl 9 (by decide) (hg _ q_954) (fun _ h9 => h9) rfl dX9_asides_9 ?_
          refine lv_iload_n hx hb dX9_asides_12 rfl (lv_at hl 0 rfl) ?_
          refine lv_aload_n hx hb dX9_asides_13 rfl (lv_at hl 1 rfl) ?_
          refine va_get (D := D) (ci := 9) (v := .ref a_t_now) (C := RX9) (T := TX9) (N := 21) hx hb hg inG_X9 hown hK hP 0 rfl rfl 0 (by decide) (hg _ q_945) (fun _ h9 => h9) rfl dX9_asides_14 ?_
          refine lv_iload_n hx hb dX9_asides_17 rfl (lv_at hl 0 rfl) ?_
          obtain ⟨hi8, h⟩ := chk_e h
          refine va_iald hx hb hK hP 1 0 rfl rfl hi8 dX9_asides_18 ?_
          obtain ⟨hi9, h⟩ := chk_e h
          refine va_iast hx hb hK hP hD hS 2 0 rfl rfl hi9 dX9_asides_19 (fun H locs hP hD hS => ?_)
          have hP : va_P D vwCl [(a_t, .inr (9, [.ref a_t_now, g_t_tape, g_t_typed, g_t_place, g_t_isFault, g_t_readLaw, g_t_read, g_t_undone, g_t_undos, .ref a_t_aside, g_t_coat, g_t_bestCoats, g_t_bestStand, g_t_bestPaint, g_t_kept, g_t_keptUndos, g_t_isKept, g_t_lanes, g_t_sizes, g_t_items, g_t_moved])), (a_t_now, .inl (cy 0, 24, .inl t_now)), (a_t_aside, .inl (cy 0, 24, .inl (upd w2 x1.toNatClampNeg (t_now x1.toNatClampNeg))))] H := hP
          have hD : va_D A [(a_t, .inr (9, [.ref a_t_now, g_t_tape, g_t_typed, g_t_place, g_t_isFault, g_t_readLaw, g_t_read, g_t_undone, g_t_undos, .ref a_t_aside, g_t_coat, g_t_bestCoats, g_t_bestStand, g_t_bestPaint, g_t_kept, g_t_keptUndos, g_t_isKept, g_t_lanes, g_t_sizes, g_t_items, g_t_moved])), (a_t_now, .inl (cy 0, 24, .inl t_now)), (a_t_aside, .inl (cy 0, 24, .inl (upd w2 x1.toNatClampNeg (t_now x1.toNatClampNeg))))] := hD
          obtain ⟨x10, ex10⟩ : ∃ y : Int32, y = x1 + 1 := ⟨_, rfl⟩
          have h := bnd_e ex10 h
          refine lv_iinc (v := x10) (lv' := [(1, .int x10), (0, .ref a_t)]) hx hb dX9_asides_20 hl (k := 0) rfl (inc_e kI_1 ex10) (by decide) rfl (fun ls hl => ?_)
          refine lv_goto (tgt := 2) hx hb dX9_asides_23 (by decide) ?_
          exact ih x10 (upd w2 x1.toNatClampNeg (t_now x1.toNatClampNeg)) _ _ _ hP hD hS (lv_sub hl [0, 1] rfl) h
  exact L5 F 0 t_aside _ _ _ hP hD hS (lv_sub hl [0, 1] rfl) h

def m_X9_backs_L2s (t_aside : Nat → Int32) (k4 : (Nat → Int32) → Option ((Nat → Int32))) (r6 : Int32 → (Nat → Int32) → Option ((Nat → Int32))) (x1 : Int32) (w2 : Nat → Int32) : Option ((Nat → Int32)) := (if 24 ≤ x1 then k4 w2 else chk x1 24 (chk x1 24 (bnd (x1 + 1) (fun x10 => r6 x10 (upd w2 x1.toNatClampNeg (t_aside x1.toNatClampNeg))))))
def m_X9_backs_L2 (t_aside : Nat → Int32) (k4 : (Nat → Int32) → Option ((Nat → Int32))) : Nat → Int32 → (Nat → Int32) → Option ((Nat → Int32))
  | 0 => fun _ _ => none
  | nF + 1 => m_X9_backs_L2s t_aside k4 (m_X9_backs_L2 t_aside k4 nF)
def m_X9_backs (F : Nat) (t_now : Nat → Int32) (t_aside : Nat → Int32) : Option ((Nat → Int32)) := m_X9_backs_L2 t_aside (fun (w3 : Nat → Int32) => some w3) F 0 t_now
set_option maxHeartbeats 4000000 in
set_option maxRecDepth 100000 in
theorem c_X9_backs (l : Launch) (D : va_G) (cy : Nat → ClassId) (a_t : Nat) (a_t_now : Nat) (a_t_aside : Nat) (sz : Nat) (g_t_tape : Value) (g_t_typed : Value) (g_t_place : Value) (g_t_isFault : Value) (g_t_readLaw : Value) (g_t_read : Value) (g_t_undone : Value) (g_t_undos : Value) (g_t_coat : Value) (g_t_bestCoats : Value) (g_t_bestStand : Value) (g_t_bestPaint : Value) (g_t_kept : Value) (g_t_keptUndos : Value) (g_t_isKept : Value) (g_t_lanes : Value) (g_t_sizes : Value) (g_t_items : Value) (g_t_moved : Value) (t_now : Nat → Int32) (t_aside : Nat → Int32) (F : Nat) (out : (Nat → Int32)) (h : m_X9_backs F t_now t_aside = some out) : MetM l D cy yX9_backs cX9_backs 2 none (rmG 0 0) [.ref a_t] sz [(a_t, .inr (9, [.ref a_t_now, g_t_tape, g_t_typed, g_t_place, g_t_isFault, g_t_readLaw, g_t_read, g_t_undone, g_t_undos, .ref a_t_aside, g_t_coat, g_t_bestCoats, g_t_bestStand, g_t_bestPaint, g_t_kept, g_t_keptUndos, g_t_isKept, g_t_lanes, g_t_sizes, g_t_items, g_t_moved])), (a_t_now, .inl (cy 0, 24, .inl t_now)), (a_t_aside, .inl (cy 0, 24, .inl t_aside))] none [(a_t, .inr (9, [.ref a_t_now, g_t_tape, g_t_typed, g_t_place, g_t_isFault, g_t_readLaw, g_t_read, g_t_undone, g_t_undos, .ref a_t_aside, g_t_coat, g_t_bestCoats, g_t_bestStand, g_t_bestPaint, g_t_kept, g_t_keptUndos, g_t_isKept, g_t_lanes, g_t_sizes, g_t_items, g_t_moved])), (a_t_now, .inl (cy 0, 24, .inl out)), (a_t_aside, .inl (cy 0, 24, .inl t_aside))] := by
  refine startMv (own := RX9) (by decide) rfl (Nat.le_of_ble_eq_true rfl) ?_
  intro p e s m below meth c QQ A hx hb hml hown hg hK hP hD hS hA hret ls hl
  have hl : lv_has ls 2 [(0, .ref a_t)] := hl
  unfold m_X9_backs at h
  refine lv_iconst (v := 0) hx hb dX9_backs_0 kI_0 ?_
  refine lv_istore_n (lv' := [(1, .int 0), (0, .ref a_t)]) hx hb dX9_backs_1 rfl hl (by decide) rfl (fun ls hl => ?_)
  obtain ⟨k4, hk4, h⟩ := kap (fun z => m_X9_backs_L2 t_aside z F 0 t_now) h
  have J4 : ∀ (w3 : Nat → Int32) (H : Heap) (locs : List Loc) (ls : Array Slot), va_P D vwCl [(a_t, .inr (9, [.ref a_t_now, g_t_tape, g_t_typed, g_t_place, g_t_isFault, g_t_readLaw, g_t_read, g_t_undone, g_t_undos, .ref a_t_aside, g_t_coat, g_t_bestCoats, g_t_bestStand, g_t_bestPaint, g_t_kept, g_t_keptUndos, g_t_isKept, g_t_lanes, g_t_sizes, g_t_items, g_t_moved])), (a_t_now, .inl (cy 0, 24, .inl w3)), (a_t_aside, .inl (cy 0, 24, .inl t_aside))] H → va_D A [(a_t, .inr (9, [.ref a_t_now, g_t_tape, g_t_typed, g_t_place, g_t_isFault, g_t_readLaw, g_t_read, g_t_undone, g_t_undos, .ref a_t_aside, g_t_coat, g_t_bestCoats, g_t_bestStand, g_t_bestPaint, g_t_kept, g_t_keptUndos, g_t_isKept, g_t_lanes, g_t_sizes, g_t_items, g_t_moved])), (a_t_now, .inl (cy 0, 24, .inl w3)), (a_t_aside, .inl (cy 0, 24, .inl t_aside))] → va_S A s.heap H locs → lv_has ls 2 [] → k4 w3 = some out → W p l e (rmG 0 0) s m [.ref a_t].toArray below meth c H locs 0 0 QQ (F0 m 26 ls []) := by
    intro w3 H locs ls hP hD hS hl h
    rw [hk4] at h
    exact hret _ _ _ ls 26 dX9_backs_26 (by rw [← Option.some.inj h]) hP hD hS
  have L5 : ∀ (n5 : Nat) (x1 : Int32) (w2 : Nat → Int32) (H : Heap) (locs : List Loc) (ls : Array Slot), va_P D vwCl [(a_t, .inr (9, [.ref a_t_now, g_t_tape, g_t_typed, g_t_place, g_t_isFault, g_t_readLaw, g_t_read, g_t_undone, g_t_undos, .ref a_t_aside, g_t_coat, g_t_bestCoats, g_t_bestStand, g_t_bestPaint, g_t_kept, g_t_keptUndos, g_t_isKept, g_t_lanes, g_t_sizes, g_t_items, g_t_moved])), (a_t_now, .inl (cy 0, 24, .inl w2)), (a_t_aside, .inl (cy 0, 24, .inl t_aside))] H → va_D A [(a_t, .inr (9, [.ref a_t_now, g_t_tape, g_t_typed, g_t_place, g_t_isFault, g_t_readLaw, g_t_read, g_t_undone, g_t_undos, .ref a_t_aside, g_t_coat, g_t_bestCoats, g_t_bestStand, g_t_bestPaint, g_t_kept, g_t_keptUndos, g_t_isKept, g_t_lanes, g_t_sizes, g_t_items, g_t_moved])), (a_t_now, .inl (cy 0, 24, .inl w2)), (a_t_aside, .inl (cy 0, 24, .inl t_aside))] → va_S A s.heap H locs → lv_has ls 2 [(1, .int x1), (0, .ref a_t)] → m_X9_backs_L2 t_aside k4 n5 x1 w2 = some out → W p l e (rmG 0 0) s m [.ref a_t].toArray below meth c H locs 0 0 QQ (F0 m 2 ls []) := by
    intro n5
    induction n5 with
    | zero => intro x1 w2 H locs ls hP hD hS hl h; exact nomatch (show (none : Option ((Nat → Int32))) = some out from h)
    | succ n5 ih =>
        intro x1 w2 H locs ls hP hD hS hl h
        have h : m_X9_backs_L2s t_aside k4 (m_X9_backs_L2 t_aside k4 n5) x1 w2 = some out := h
        unfold m_X9_backs_L2s at h
        refine lv_iload_n hx hb dX9_backs_2 rfl (lv_at hl 0 rfl) ?_
        refine lv_bipush (v := 24) hx hb dX9_backs_3 kB_24 ?_
        refine lv_icmp_ge (tgt := 26) hx hb dX9_backs_5 (by decide) (fun c7 => ?_) (fun c7 => ?_)
        · have h := it_t c7 h
          exact J4 w2 _ _ _ hP hD hS (lv_sub hl [] rfl) h
        · have h := it_f c7 h
          refine lv_aload_n hx hb dX9_backs_8 rfl (lv_at hl 1 rfl) ?_
          refine va_get (D := D) (ci := 9) (v := .ref a_t_now) (C := RX9) (T := TX9) (N := 21) hx hb hg inG_X9 hown hK hP 0 rfl rfl 0 (by decide) (hg _ q_945) (fun _ h9 => h9) rfl dX9_backs_9 ?_
          refine lv_iload_n hx hb dX9_backs_12 rfl (lv_at hl 0 rfl) ?_
          refine lv_aload_n hx hb dX9_backs_13 rfl (lv_at hl 1 rfl) ?_
          refine va_get (D := D) (ci := 9) (v := .ref a_t_aside) (C := RX9) (T := TX9) (N := 21) hx hb hg inG_X9 hown hK hP 0 rfl rfl 9 (by decide) (hg _ q_954) (fun _ h9 => h9) rfl dX9_backs_14 ?_
          refine lv_iload_n hx hb dX9_backs_17 rfl (lv_at hl 0 rfl) ?_
          obtain ⟨hi8, h⟩ := chk_e h
          refine va_iald hx hb hK hP 2 0 rfl rfl hi8 dX9_backs_18 ?_
          obtain ⟨hi9, h⟩ := chk_e h
          refine va_iast hx hb hK hP hD hS 1 0 rfl rfl hi9 dX9_backs_19 (fun H locs hP hD hS => ?_)
          have hP : va_P D vwCl [(a_t, .inr (9, [.ref a_t_now, g_t_tape, g_t_typed, g_t_place, g_t_isFault, g_t_readLaw, g_t_read, g_t_undone, g_t_undos, .ref a_t_aside, g_t_coat, g_t_bestCoats, g_t_bestStand, g_t_bestPaint, g_t_kept, g_t_keptUndos, g_t_isKept, g_t_lanes, g_t_sizes, g_t_items, g_t_moved])), (a_t_now, .inl (cy 0, 24, .inl (upd w2 x1.toNatClampNeg (t_aside x1.toNatClampNeg)))), (a_t_aside, .inl (cy 0, 24, .inl t_aside))] H := hP
          have hD : va_D A [(a_t, .inr (9, [.ref a_t_now, g_t_tape, g_t_typed, g_t_place, g_t_isFault, g_t_readLaw, g_t_read, g_t_undone, g_t_undos, .ref a_t_aside, g_t_coat, g_t_bestCoats, g_t_bestStand, g_t_bestPaint, g_t_kept, g_t_keptUndos, g_t_isKept, g_t_lanes, g_t_sizes, g_t_items, g_t_moved])), (a_t_now, .inl (cy 0, 24, .inl (upd w2 x1.toNatClampNeg (t_aside x1.toNatClampNeg)))), (a_t_aside, .inl (cy 0, 24, .inl t_aside))] := hD
          obtain ⟨x10, ex10⟩ : ∃ y : Int32, y = x1 + 1 := ⟨_, rfl⟩
          have h := bnd_e ex10 h
          refine lv_iinc (v := x10) (lv' := [(1, .int x10), (0, .ref a_t)]) hx hb dX9_backs_20 hl (k := 0) rfl (inc_e kI_1 ex10) (by decide) rfl (fun ls hl => ?_)
          refine lv_goto (tgt := 2) hx hb dX9_backs_23 (by decide) ?_
          exact ih x10 (upd w2 x1.toNatClampNeg (t_aside x1.toNatClampNeg)) _ _ _ hP hD hS (lv_sub hl [0, 1] rfl) h
  exact L5 F 0 t_now _ _ _ hP hD hS (lv_sub hl [0, 1] rfl) h

def m_X9_ahead (F : Nat) (t_now : Nat → Int32) (t_aside : Nat → Int32) (p0 : Int32) (p1 : Int32) (p2 : Int32) : Option (Int32 × (Nat → Int32) × (Nat → Int32)) := (m_X9_isMan t_now p0).bind (fun v1 => (if v1 = 0 then some ((-1), t_now, t_aside) else (m_X9_in (p1.toInt64) (0 : Int64) (60 : Int64)).bind (fun v3 => (if v3 = 0 then some ((-1), t_now, t_aside) else (m_X9_in (p2.toInt64) (0 : Int64) (1 : Int64)).bind (fun v5 => (if v5 = 0 then some ((-1), t_now, t_aside) else (m_X9_asides F t_now t_aside).bind (fun v7 => (m_X9_goesOn F t_now p1).bind (fun v8 => (if p2 = 0 then (m_X9_inchOf v8 p0).bind (fun v12 => (m_X9_backs F v8 v7).bind (fun v13 => some (v12, v13, v7))) else (m_X9_paintOf v8 p0).bind (fun v10 => (m_X9_backs F v8 v7).bind (fun v11 => some (v10, v11, v7))))))))))))
set_option maxHeartbeats 4000000 in
set_option maxRecDepth 100000 in
theorem c_X9_ahead (l : Launch) (D : va_G) (cy : Nat → ClassId) (a_t : Nat) (a_t_now : Nat) (a_t_aside : Nat) (sz : Nat) (g_t_tape : Value) (g_t_typed : Value) (g_t_place : Value) (g_t_isFault : Value) (g_t_readLaw : Value) (g_t_read : Value) (g_t_undone : Value) (g_t_undos : Value) (g_t_coat : Value) (g_t_bestCoats : Value) (g_t_bestStand : Value) (g_t_bestPaint : Value) (g_t_kept : Value) (g_t_keptUndos : Value) (g_t_isKept : Value) (g_t_lanes : Value) (g_t_sizes : Value) (g_t_items : Value) (g_t_moved : Value) (t_now : Nat → Int32) (t_aside : Nat → Int32) (p0 : Int32) (p1 : Int32) (p2 : Int32) (F : Nat) (out : Int32 × (Nat → Int32) × (Nat → Int32)) (h : m_X9_ahead F t_now t_aside p0 p1 p2 = some out) : MetM l D cy yX9_ahead cX9_ahead 5 (some .int) (rmG 7 156) [.ref a_t, .int p0, .int p1, .int p2] sz [(a_t, .inr (9, [.ref a_t_now, g_t_tape, g_t_typed, g_t_place, g_t_isFault, g_t_readLaw, g_t_read, g_t_undone, g_t_undos, .ref a_t_aside, g_t_coat, g_t_bestCoats, g_t_bestStand, g_t_bestPaint, g_t_kept, g_t_keptUndos, g_t_isKept, g_t_lanes, g_t_sizes, g_t_items, g_t_moved])), (a_t_now, .inl (cy 0, 24, .inl t_now)), (a_t_aside, .inl (cy 0, 24, .inl t_aside))] (some (.int out.1)) [(a_t, .inr (9, [.ref a_t_now, g_t_tape, g_t_typed, g_t_place, g_t_isFault, g_t_readLaw, g_t_read, g_t_undone, g_t_undos, .ref a_t_aside, g_t_coat, g_t_bestCoats, g_t_bestStand, g_t_bestPaint, g_t_kept, g_t_keptUndos, g_t_isKept, g_t_lanes, g_t_sizes, g_t_items, g_t_moved])), (a_t_now, .inl (cy 0, 24, .inl out.2.1)), (a_t_aside, .inl (cy 0, 24, .inl out.2.2))] := by
  refine startMi (own := RX9) (by decide) rfl (Nat.le_of_ble_eq_true rfl) ?_
  intro p e s m below meth c QQ A hx hb hml hown hg hK hP hD hS hA hret ls hl
  have hl : lv_has ls 5 [(0, .ref a_t), (1, .int p0), (2, .int p1), (3, .int p2)] := hl
  unfold m_X9_ahead at h
  refine lv_aload_n hx hb dX9_ahead_0 rfl (lv_at hl 0 rfl) ?_
  refine lv_iload_n hx hb dX9_ahead_1 rfl (lv_at hl 1 rfl) ?_
  obtain ⟨v1, hv1, h⟩ := bind_e h
  refine callRV (As := [.int p0]) (rest := []) (v0 := .int v1) hx hb hml hown hg (c_X9_isMan l D cy a_t a_t_now (g_t_tape) (g_t_typed) (g_t_place) (g_t_isFault) (g_t_readLaw) (g_t_read) (g_t_undone) (g_t_undos) (.ref a_t_aside) (g_t_coat) (g_t_bestCoats) (g_t_bestStand) (g_t_bestPaint) (g_t_kept) (g_t_keptUndos) (g_t_isKept) (g_t_lanes) (g_t_sizes) (g_t_items) (g_t_moved) t_now p0 v1 hv1) q_1051 q_1048 q_63 q_1050 q_28 hd_X9_isMan ⟨(Nat.le_of_ble_eq_true rfl), (Nat.le_of_ble_eq_true rfl)⟩ hK hP [0, 1] rfl 0 9 rfl rfl rfl rfl rfl rfl hl.1 rfl (Nat.le_of_ble_eq_true rfl) dX9_ahead_2 ?_
  refine lv_if_eq (tgt := 30) hx hb dX9_ahead_5 (by decide) (fun c2 => ?_) (fun c2 => ?_)
  · have h := it_t c2 h
    refine lv_iconst (v := (-1)) hx hb dX9_ahead_30 kI_m1 ?_
    exact hret _ _ _ _ ls 31 dX9_ahead_31 rfl (by rw [← Option.some.inj h]) (by rw [← Option.some.inj h]) hP hD hS
  · have h := it_f c2 h
    refine lv_iload_n hx hb dX9_ahead_8 rfl (lv_at hl 2 rfl) ?_
    refine lv_i2l (v := p1.toInt64) hx hb dX9_ahead_9 rfl ?_
    refine lv_lconst (v := 0) hx hb dX9_ahead_10 kL_0 ?_
    refine lv_ldc2 (v := 60) hx hb hown (hg _ q_1090) dX9_ahead_11 ?_
    obtain ⟨v3, hv3, h⟩ := bind_e h
    refine callRS (As := [.long (p1.toInt64), .long 0, .long 60]) (rest := []) (v0 := .int v3) hx hb hml hown hg (c_X9_in l D cy (p1.toInt64) (0 : Int64) (60 : Int64) v3 hv3) q_1016 q_1014 q_63 q_1015 hd_X9_in ⟨(Nat.le_of_ble_eq_true rfl), (Nat.le_of_ble_eq_true rfl)⟩ hK hP [] rfl rfl rfl rfl hl.1 rfl (Nat.le_of_ble_eq_true rfl) dX9_ahead_14 ?_
    refine lv_if_eq (tgt := 30) hx hb dX9_ahead_17 (by decide) (fun c4 => ?_) (fun c4 => ?_)
    · have h := it_t c4 h
      refine lv_iconst (v := (-1)) hx hb dX9_ahead_30 kI_m1 ?_
      exact hret _ _ _ _ ls 31 dX9_ahead_31 rfl (by rw [← Option.some.inj h]) (by rw [← Option.some.inj h]) hP hD hS
    · have h := it_f c4 h
      refine lv_iload_n hx hb dX9_ahead_20 rfl (lv_at hl 3 rfl) ?_
      refine lv_i2l (v := p2.toInt64) hx hb dX9_ahead_21 rfl ?_
      refine lv_lconst (v := 0) hx hb dX9_ahead_22 kL_0 ?_
      refine lv_lconst (v := 1) hx hb dX9_ahead_23 kL_1 ?_
      obtain ⟨v5, hv5, h⟩ := bind_e h
      refine callRS (As := [.long (p2.toInt64), .long 0, .long 1]) (rest := []) (v0 := .int v5) hx hb hml hown hg (c_X9_in l D cy (p2.toInt64) (0 : Int64) (1 : Int64) v5 hv5) q_1016 q_1014 q_63 q_1015 hd_X9_in ⟨(Nat.le_of_ble_eq_true rfl), (Nat.le_of_ble_eq_true rfl)⟩ hK hP [] rfl rfl rfl rfl hl.1 rfl (Nat.le_of_ble_eq_true rfl) dX9_ahead_24 ?_
      refine lv_if_ne (tgt := 32) hx hb dX9_ahead_27 (by decide) (fun c6 => ?_) (fun c6 => ?_)
      · have h := it_f c6 h
        refine lv_aload_n hx hb dX9_ahead_32 rfl (lv_at hl 0 rfl) ?_
        obtain ⟨v7, hv7, h⟩ := bind_e h
        refine callMV (As := []) (rest := []) (wr := []) (w2 := [(a_t, .inr (9, [.ref a_t_now, g_t_tape, g_t_typed, g_t_place, g_t_isFault, g_t_readLaw, g_t_read, g_t_undone, g_t_undos, .ref a_t_aside, g_t_coat, g_t_bestCoats, g_t_bestStand, g_t_bestPaint, g_t_kept, g_t_keptUndos, g_t_isKept, g_t_lanes, g_t_sizes, g_t_items, g_t_moved])), (a_t_now, .inl (cy 0, 24, .inl t_now)), (a_t_aside, .inl (cy 0, 24, .inl v7))]) hx hb hml hown hg (c_X9_asides l D cy a_t a_t_now a_t_aside _ (g_t_tape) (g_t_typed) (g_t_place) (g_t_isFault) (g_t_readLaw) (g_t_read) (g_t_undone) (g_t_undos) (g_t_coat) (g_t_bestCoats) (g_t_bestStand) (g_t_bestPaint) (g_t_kept) (g_t_keptUndos) (g_t_isKept) (g_t_lanes) (g_t_sizes) (g_t_items) (g_t_moved) t_now t_aside F v7 hv7) q_1192 q_1189 q_63 q_1191 q_45 hd_X9_asides ⟨(Nat.le_of_ble_eq_true rfl), (Nat.le_of_ble_eq_true rfl)⟩ hK hP hD hS hA [0, 1, 2] [] rfl rfl rfl rfl (by decide) [0, 1, 2] rfl rfl 0 9 rfl rfl rfl rfl rfl rfl hl.1 rfl rfl (Nat.le_of_ble_eq_true rfl) dX9_ahead_33 (fun H locs hP hD hS => ?_)
        refine lv_aload_n hx hb dX9_ahead_36 rfl (lv_at hl 0 rfl) ?_
        refine lv_iload_n hx hb dX9_ahead_37 rfl (lv_at hl 2 rfl) ?_
        obtain ⟨v8, hv8, h⟩ := bind_e h
        refine callMV (As := [.int p1]) (rest := []) (wr := [(a_t_aside, .inl (cy 0, 24, .inl v7))]) (w2 := [(a_t, .inr (9, [.ref a_t_now, g_t_tape, g_t_typed, g_t_place, g_t_isFault, g_t_readLaw, g_t_read, g_t_undone, g_t_undos, .ref a_t_aside, g_t_coat, g_t_bestCoats, g_t_bestStand, g_t_bestPaint, g_t_kept, g_t_keptUndos, g_t_isKept, g_t_lanes, g_t_sizes, g_t_items, g_t_moved])), (a_t_now, .inl (cy 0, 24, .inl v8)), (a_t_aside, .inl (cy 0, 24, .inl v7))]) hx hb hml hown hg (c_X9_goesOn l D cy a_t a_t_now _ (g_t_tape) (g_t_typed) (g_t_place) (g_t_isFault) (g_t_readLaw) (g_t_read) (g_t_undone) (g_t_undos) (.ref a_t_aside) (g_t_coat) (g_t_bestCoats) (g_t_bestStand) (g_t_bestPaint) (g_t_kept) (g_t_keptUndos) (g_t_isKept) (g_t_lanes) (g_t_sizes) (g_t_items) (g_t_moved) t_now p1 F v8 hv8) q_1196 q_1193 q_63 q_1195 q_46 hd_X9_goesOn ⟨(Nat.le_of_ble_eq_true rfl), (Nat.le_of_ble_eq_true rfl)⟩ hK hP hD hS hA [0, 1] [2] rfl rfl rfl rfl (by decide) [1, 2, 0] rfl rfl 0 9 rfl rfl rfl rfl rfl rfl hl.1 rfl rfl (Nat.le_of_ble_eq_true rfl) dX9_ahead_38 (fun H locs hP hD hS => ?_)
        refine lv_iload_n hx hb dX9_ahead_41 rfl (lv_at hl 3 rfl) ?_
        refine lv_if_ne (tgt := 53) hx hb dX9_ahead_42 (by decide) (fun c9 => ?_) (fun c9 => ?_)
        · have h := it_f c9 h
          refine lv_aload_n hx hb dX9_ahead_53 rfl (lv_at hl 0 rfl) ?_
          refine lv_iload_n hx hb dX9_ahead_54 rfl (lv_at hl 1 rfl) ?_
          obtain ⟨v10, hv10, h⟩ := bind_e h
          refine callRV (As := [.int p0]) (rest := []) (v0 := .int v10) hx hb hml hown hg (c_X9_paintOf l D cy a_t a_t_now (g_t_tape) (g_t_typed) (g_t_place) (g_t_isFault) (g_t_readLaw) (g_t_read) (g_t_undone) (g_t_undos) (.ref a_t_aside) (g_t_coat) (g_t_bestCoats) (g_t_bestStand) (g_t_bestPaint) (g_t_kept) (g_t_keptUndos) (g_t_isKept) (g_t_lanes) (g_t_sizes) (g_t_items) (g_t_moved) v8 p0 v10 hv10) q_1059 q_1056 q_63 q_1058 q_30 hd_X9_paintOf ⟨(Nat.le_of_ble_eq_true rfl), (Nat.le_of_ble_eq_true rfl)⟩ hK hP [0, 1] rfl 0 9 rfl rfl rfl rfl rfl rfl hl.1 rfl (Nat.le_of_ble_eq_true rfl) dX9_ahead_55 ?_
          refine lv_istore (lv' := [(4, .int v10), (0, .ref a_t), (1, .int p0), (2, .int p1), (3, .int p2)]) hx hb dX9_ahead_58 hl (by decide) rfl (fun ls hl => ?_)
          refine lv_aload_n hx hb dX9_ahead_60 rfl (lv_at hl 1 rfl) ?_
          obtain ⟨v11, hv11, h⟩ := bind_e h
          refine callMV (As := []) (rest := []) (wr := []) (w2 := [(a_t, .inr (9, [.ref a_t_now, g_t_tape, g_t_typed, g_t_place, g_t_isFault, g_t_readLaw, g_t_read, g_t_undone, g_t_undos, .ref a_t_aside, g_t_coat, g_t_bestCoats, g_t_bestStand, g_t_bestPaint, g_t_kept, g_t_keptUndos, g_t_isKept, g_t_lanes, g_t_sizes, g_t_items, g_t_moved])), (a_t_now, .inl (cy 0, 24, .inl v11)), (a_t_aside, .inl (cy 0, 24, .inl v7))]) hx hb hml hown hg (c_X9_backs l D cy a_t a_t_now a_t_aside _ (g_t_tape) (g_t_typed) (g_t_place) (g_t_isFault) (g_t_readLaw) (g_t_read) (g_t_undone) (g_t_undos) (g_t_coat) (g_t_bestCoats) (g_t_bestStand) (g_t_bestPaint) (g_t_kept) (g_t_keptUndos) (g_t_isKept) (g_t_lanes) (g_t_sizes) (g_t_items) (g_t_moved) v8 v7 F v11 hv11) q_1200 q_1197 q_63 q_1199 q_47 hd_X9_backs ⟨(Nat.le_of_ble_eq_true rfl), (Nat.le_of_ble_eq_true rfl)⟩ hK hP hD hS hA [0, 1, 2] [] rfl rfl rfl rfl (by decide) [0, 1, 2] rfl rfl 0 9 rfl rfl rfl rfl rfl rfl hl.1 rfl rfl (Nat.le_of_ble_eq_true rfl) dX9_ahead_61 (fun H locs hP hD hS => ?_)
          refine lv_iload hx hb dX9_ahead_64 (lv_at hl 0 rfl) ?_
          exact hret _ _ _ _ ls 66 dX9_ahead_66 rfl (by rw [← Option.some.inj h]) (by rw [← Option.some.inj h]) hP hD hS
        · have h := it_t c9 h
          refine lv_aload_n hx hb dX9_ahead_45 rfl (lv_at hl 0 rfl) ?_
          refine lv_iload_n hx hb dX9_ahead_46 rfl (lv_at hl 1 rfl) ?_
          obtain ⟨v12, hv12, h⟩ := bind_e h
          refine callRV (As := [.int p0]) (rest := []) (v0 := .int v12) hx hb hml hown hg (c_X9_inchOf l D cy a_t a_t_now (g_t_tape) (g_t_typed) (g_t_place) (g_t_isFault) (g_t_readLaw) (g_t_read) (g_t_undone) (g_t_undos) (.ref a_t_aside) (g_t_coat) (g_t_bestCoats) (g_t_bestStand) (g_t_bestPaint) (g_t_kept) (g_t_keptUndos) (g_t_isKept) (g_t_lanes) (g_t_sizes) (g_t_items) (g_t_moved) v8 p0 v12 hv12) q_1029 q_1026 q_63 q_1028 q_25 hd_X9_inchOf ⟨(Nat.le_of_ble_eq_true rfl), (Nat.le_of_ble_eq_true rfl)⟩ hK hP [0, 1] rfl 0 9 rfl rfl rfl rfl rfl rfl hl.1 rfl (Nat.le_of_ble_eq_true rfl) dX9_ahead_47 ?_
          refine lv_goto (tgt := 58) hx hb dX9_ahead_50 (by decide) ?_
          refine lv_istore (lv' := [(4, .int v12), (0, .ref a_t), (1, .int p0), (2, .int p1), (3, .int p2)]) hx hb dX9_ahead_58 hl (by decide) rfl (fun ls hl => ?_)
          refine lv_aload_n hx hb dX9_ahead_60 rfl (lv_at hl 1 rfl) ?_
          obtain ⟨v13, hv13, h⟩ := bind_e h
          refine callMV (As := []) (rest := []) (wr := []) (w2 := [(a_t, .inr (9, [.ref a_t_now, g_t_tape, g_t_typed, g_t_place, g_t_isFault, g_t_readLaw, g_t_read, g_t_undone, g_t_undos, .ref a_t_aside, g_t_coat, g_t_bestCoats, g_t_bestStand, g_t_bestPaint, g_t_kept, g_t_keptUndos, g_t_isKept, g_t_lanes, g_t_sizes, g_t_items, g_t_moved])), (a_t_now, .inl (cy 0, 24, .inl v13)), (a_t_aside, .inl (cy 0, 24, .inl v7))]) hx hb hml hown hg (c_X9_backs l D cy a_t a_t_now a_t_aside _ (g_t_tape) (g_t_typed) (g_t_place) (g_t_isFault) (g_t_readLaw) (g_t_read) (g_t_undone) (g_t_undos) (g_t_coat) (g_t_bestCoats) (g_t_bestStand) (g_t_bestPaint) (g_t_kept) (g_t_keptUndos) (g_t_isKept) (g_t_lanes) (g_t_sizes) (g_t_items) (g_t_moved) v8 v7 F v13 hv13) q_1200 q_1197 q_63 q_1199 q_47 hd_X9_backs ⟨(Nat.le_of_ble_eq_true rfl), (Nat.le_of_ble_eq_true rfl)⟩ hK hP hD hS hA [0, 1, 2] [] rfl rfl rfl rfl (by decide) [0, 1, 2] rfl rfl 0 9 rfl rfl rfl rfl rfl rfl hl.1 rfl rfl (Nat.le_of_ble_eq_true rfl) dX9_ahead_61 (fun H locs hP hD hS => ?_)
          refine lv_iload hx hb dX9_ahead_64 (lv_at hl 0 rfl) ?_
          exact hret _ _ _ _ ls 66 dX9_ahead_66 rfl (by rw [← Option.some.inj h]) (by rw [← Option.some.inj h]) hP hD hS
      · have h := it_t c6 h
        refine lv_iconst (v := (-1)) hx hb dX9_ahead_30 kI_m1 ?_
        exact hret _ _ _ _ ls 31 dX9_ahead_31 rfl (by rw [← Option.some.inj h]) (by rw [← Option.some.inj h]) hP hD hS

def m_X9_then (F : Nat) (t_now : Nat → Int32) (t_aside : Nat → Int32) (p0 : Int32) : Option (Int32 × (Nat → Int32) × (Nat → Int32)) := (m_X9_in (p0.toInt64) (0 : Int64) (60 : Int64)).bind (fun v1 => (if v1 = 0 then some ((-1), t_now, t_aside) else (m_X9_asides F t_now t_aside).bind (fun v3 => (m_X9_goesOn F t_now p0).bind (fun v4 => (m_X9_standing F v4).bind (fun v5 => (m_X9_backs F v4 v3).bind (fun v6 => some (v5, v6, v3)))))))
set_option maxHeartbeats 4000000 in
set_option maxRecDepth 100000 in
theorem c_X9_then (l : Launch) (D : va_G) (cy : Nat → ClassId) (a_t : Nat) (a_t_now : Nat) (a_t_aside : Nat) (sz : Nat) (g_t_tape : Value) (g_t_typed : Value) (g_t_place : Value) (g_t_isFault : Value) (g_t_readLaw : Value) (g_t_read : Value) (g_t_undone : Value) (g_t_undos : Value) (g_t_coat : Value) (g_t_bestCoats : Value) (g_t_bestStand : Value) (g_t_bestPaint : Value) (g_t_kept : Value) (g_t_keptUndos : Value) (g_t_isKept : Value) (g_t_lanes : Value) (g_t_sizes : Value) (g_t_items : Value) (g_t_moved : Value) (t_now : Nat → Int32) (t_aside : Nat → Int32) (p0 : Int32) (F : Nat) (out : Int32 × (Nat → Int32) × (Nat → Int32)) (h : m_X9_then F t_now t_aside p0 = some out) : MetM l D cy yX9_then cX9_then 3 (some .int) (rmG 7 156) [.ref a_t, .int p0] sz [(a_t, .inr (9, [.ref a_t_now, g_t_tape, g_t_typed, g_t_place, g_t_isFault, g_t_readLaw, g_t_read, g_t_undone, g_t_undos, .ref a_t_aside, g_t_coat, g_t_bestCoats, g_t_bestStand, g_t_bestPaint, g_t_kept, g_t_keptUndos, g_t_isKept, g_t_lanes, g_t_sizes, g_t_items, g_t_moved])), (a_t_now, .inl (cy 0, 24, .inl t_now)), (a_t_aside, .inl (cy 0, 24, .inl t_aside))] (some (.int out.1)) [(a_t, .inr (9, [.ref a_t_now, g_t_tape, g_t_typed, g_t_place, g_t_isFault, g_t_readLaw, g_t_read, g_t_undone, g_t_undos, .ref a_t_aside, g_t_coat, g_t_bestCoats, g_t_bestStand, g_t_bestPaint, g_t_kept, g_t_keptUndos, g_t_isKept, g_t_lanes, g_t_sizes, g_t_items, g_t_moved])), (a_t_now, .inl (cy 0, 24, .inl out.2.1)), (a_t_aside, .inl (cy 0, 24, .inl out.2.2))] := by
  refine startMi (own := RX9) (by decide) rfl (Nat.le_of_ble_eq_true rfl) ?_
  intro p e s m below meth c QQ A hx hb hml hown hg hK hP hD hS hA hret ls hl
  have hl : lv_has ls 3 [(0, .ref a_t), (1, .int p0)] := hl
  unfold m_X9_then at h
  refine lv_iload_n hx hb dX9_then_0 rfl (lv_at hl 1 rfl) ?_
  refine lv_i2l (v := p0.toInt64) hx hb dX9_then_1 rfl ?_
  refine lv_lconst (v := 0) hx hb dX9_then_2 kL_0 ?_
  refine lv_ldc2 (v := 60) hx hb hown (hg _ q_1090) dX9_then_3 ?_
  obtain ⟨v1, hv1, h⟩ := bind_e h
  refine callRS (As := [.long (p0.toInt64), .long 0, .long 60]) (rest := []) (v0 := .int v1) hx hb hml hown hg (c_X9_in l D cy (p0.toInt64) (0 : Int64) (60 : Int64) v1 hv1) q_1016 q_1014 q_63 q_1015 hd_X9_in ⟨(Nat.le_of_ble_eq_true rfl), (Nat.le_of_ble_eq_true rfl)⟩ hK hP [] rfl rfl rfl rfl hl.1 rfl (Nat.le_of_ble_eq_true rfl) dX9_then_6 ?_
  refine lv_if_ne (tgt := 14) hx hb dX9_then_9 (by decide) (fun c2 => ?_) (fun c2 => ?_)
  · have h := it_f c2 h
    refine lv_aload_n hx hb dX9_then_14 rfl (lv_at hl 0 rfl) ?_
    obtain ⟨v3, hv3, h⟩ := bind_e h
    refine callMV (As := []) (rest := []) (wr := []) (w2 := [(a_t, .inr (9, [.ref a_t_now, g_t_tape, g_t_typed, g_t_place, g_t_isFault, g_t_readLaw, g_t_read, g_t_undone, g_t_undos, .ref a_t_aside, g_t_coat, g_t_bestCoats, g_t_bestStand, g_t_bestPaint, g_t_kept, g_t_keptUndos, g_t_isKept, g_t_lanes, g_t_sizes, g_t_items, g_t_moved])), (a_t_now, .inl (cy 0, 24, .inl t_now)), (a_t_aside, .inl (cy 0, 24, .inl v3))]) hx hb hml hown hg (c_X9_asides l D cy a_t a_t_now a_t_aside _ (g_t_tape) (g_t_typed) (g_t_place) (g_t_isFault) (g_t_readLaw) (g_t_read) (g_t_undone) (g_t_undos) (g_t_coat) (g_t_bestCoats) (g_t_bestStand) (g_t_bestPaint) (g_t_kept) (g_t_keptUndos) (g_t_isKept) (g_t_lanes) (g_t_sizes) (g_t_items) (g_t_moved) t_now t_aside F v3 hv3) q_1192 q_1189 q_63 q_1191 q_45 hd_X9_asides ⟨(Nat.le_of_ble_eq_true rfl), (Nat.le_of_ble_eq_true rfl)⟩ hK hP hD hS hA [0, 1, 2] [] rfl rfl rfl rfl (by decide) [0, 1, 2] rfl rfl 0 9 rfl rfl rfl rfl rfl rfl hl.1 rfl rfl (Nat.le_of_ble_eq_true rfl) dX9_then_15 (fun H locs hP hD hS => ?_)
    refine lv_aload_n hx hb dX9_then_18 rfl (lv_at hl 0 rfl) ?_
    refine lv_iload_n hx hb dX9_then_19 rfl (lv_at hl 1 rfl) ?_
    obtain ⟨v4, hv4, h⟩ := bind_e h
    refine callMV (As := [.int p0]) (rest := []) (wr := [(a_t_aside, .inl (cy 0, 24, .inl v3))]) (w2 := [(a_t, .inr (9, [.ref a_t_now, g_t_tape, g_t_typed, g_t_place, g_t_isFault, g_t_readLaw, g_t_read, g_t_undone, g_t_undos, .ref a_t_aside, g_t_coat, g_t_bestCoats, g_t_bestStand, g_t_bestPaint, g_t_kept, g_t_keptUndos, g_t_isKept, g_t_lanes, g_t_sizes, g_t_items, g_t_moved])), (a_t_now, .inl (cy 0, 24, .inl v4)), (a_t_aside, .inl (cy 0, 24, .inl v3))]) hx hb hml hown hg (c_X9_goesOn l D cy a_t a_t_now _ (g_t_tape) (g_t_typed) (g_t_place) (g_t_isFault) (g_t_readLaw) (g_t_read) (g_t_undone) (g_t_undos) (.ref a_t_aside) (g_t_coat) (g_t_bestCoats) (g_t_bestStand) (g_t_bestPaint) (g_t_kept) (g_t_keptUndos) (g_t_isKept) (g_t_lanes) (g_t_sizes) (g_t_items) (g_t_moved) t_now p0 F v4 hv4) q_1196 q_1193 q_63 q_1195 q_46 hd_X9_goesOn ⟨(Nat.le_of_ble_eq_true rfl), (Nat.le_of_ble_eq_true rfl)⟩ hK hP hD hS hA [0, 1] [2] rfl rfl rfl rfl (by decide) [1, 2, 0] rfl rfl 0 9 rfl rfl rfl rfl rfl rfl hl.1 rfl rfl (Nat.le_of_ble_eq_true rfl) dX9_then_20 (fun H locs hP hD hS => ?_)
    refine lv_aload_n hx hb dX9_then_23 rfl (lv_at hl 0 rfl) ?_
    obtain ⟨v5, hv5, h⟩ := bind_e h
    refine callRV (As := []) (rest := []) (v0 := .int v5) hx hb hml hown hg (c_X9_standing l D cy a_t a_t_now (g_t_tape) (g_t_typed) (g_t_place) (g_t_isFault) (g_t_readLaw) (g_t_read) (g_t_undone) (g_t_undos) (.ref a_t_aside) (g_t_coat) (g_t_bestCoats) (g_t_bestStand) (g_t_bestPaint) (g_t_kept) (g_t_keptUndos) (g_t_isKept) (g_t_lanes) (g_t_sizes) (g_t_items) (g_t_moved) v4 F v5 hv5) q_1077 q_1074 q_63 q_1076 q_33 hd_X9_standing ⟨(Nat.le_of_ble_eq_true rfl), (Nat.le_of_ble_eq_true rfl)⟩ hK hP [0, 1] rfl 0 9 rfl rfl rfl rfl rfl rfl hl.1 rfl (Nat.le_of_ble_eq_true rfl) dX9_then_24 ?_
    refine lv_istore_n (lv' := [(2, .int v5), (0, .ref a_t), (1, .int p0)]) hx hb dX9_then_27 rfl hl (by decide) rfl (fun ls hl => ?_)
    refine lv_aload_n hx hb dX9_then_28 rfl (lv_at hl 1 rfl) ?_
    obtain ⟨v6, hv6, h⟩ := bind_e h
    refine callMV (As := []) (rest := []) (wr := []) (w2 := [(a_t, .inr (9, [.ref a_t_now, g_t_tape, g_t_typed, g_t_place, g_t_isFault, g_t_readLaw, g_t_read, g_t_undone, g_t_undos, .ref a_t_aside, g_t_coat, g_t_bestCoats, g_t_bestStand, g_t_bestPaint, g_t_kept, g_t_keptUndos, g_t_isKept, g_t_lanes, g_t_sizes, g_t_items, g_t_moved])), (a_t_now, .inl (cy 0, 24, .inl v6)), (a_t_aside, .inl (cy 0, 24, .inl v3))]) hx hb hml hown hg (c_X9_backs l D cy a_t a_t_now a_t_aside _ (g_t_tape) (g_t_typed) (g_t_place) (g_t_isFault) (g_t_readLaw) (g_t_read) (g_t_undone) (g_t_undos) (g_t_coat) (g_t_bestCoats) (g_t_bestStand) (g_t_bestPaint) (g_t_kept) (g_t_keptUndos) (g_t_isKept) (g_t_lanes) (g_t_sizes) (g_t_items) (g_t_moved) v4 v3 F v6 hv6) q_1200 q_1197 q_63 q_1199 q_47 hd_X9_backs ⟨(Nat.le_of_ble_eq_true rfl), (Nat.le_of_ble_eq_true rfl)⟩ hK hP hD hS hA [0, 1, 2] [] rfl rfl rfl rfl (by decide) [0, 1, 2] rfl rfl 0 9 rfl rfl rfl rfl rfl rfl hl.1 rfl rfl (Nat.le_of_ble_eq_true rfl) dX9_then_29 (fun H locs hP hD hS => ?_)
    refine lv_iload_n hx hb dX9_then_32 rfl (lv_at hl 0 rfl) ?_
    exact hret _ _ _ _ ls 33 dX9_then_33 rfl (by rw [← Option.some.inj h]) (by rw [← Option.some.inj h]) hP hD hS
  · have h := it_t c2 h
    refine lv_iconst (v := (-1)) hx hb dX9_then_12 kI_m1 ?_
    exact hret _ _ _ _ ls 13 dX9_then_13 rfl (by rw [← Option.some.inj h]) (by rw [← Option.some.inj h]) hP hD hS

def m_X9_falls_L16s (p0 : Int32) (F : Nat) (k10 : Int32 → (Nat → Int32) → Option (Int32 × (Nat → Int32) × (Nat → Int32))) (r12 : Int32 → (Nat → Int32) → Option (Int32 × (Nat → Int32) × (Nat → Int32))) (x4 : Int32) (w5 : Nat → Int32) : Option (Int32 × (Nat → Int32) × (Nat → Int32)) := (if 61 ≤ x4 then k10 x4 w5 else (m_X9_stands w5 p0).bind (fun v14 => (if v14 = 0 then k10 x4 w5 else (m_X9_goesBy F w5 0).bind (fun v16 => bnd (x4 + 1) (fun x17 => r12 x17 v16)))))
def m_X9_falls_L16 (p0 : Int32) (F : Nat) (k10 : Int32 → (Nat → Int32) → Option (Int32 × (Nat → Int32) × (Nat → Int32))) : Nat → Int32 → (Nat → Int32) → Option (Int32 × (Nat → Int32) × (Nat → Int32))
  | 0 => fun _ _ => none
  | nF + 1 => m_X9_falls_L16s p0 F k10 (m_X9_falls_L16 p0 F k10 nF)
def m_X9_falls (F : Nat) (t_now : Nat → Int32) (t_aside : Nat → Int32) (p0 : Int32) : Option (Int32 × (Nat → Int32) × (Nat → Int32)) := (m_X9_isMan t_now p0).bind (fun v1 => (if v1 = 0 then some ((-1), t_now, t_aside) else (m_X9_asides F t_now t_aside).bind (fun v3 => m_X9_falls_L16 p0 F (fun (x6 : Int32) (w7 : Nat → Int32) => (m_X9_backs F w7 v3).bind (fun v8 => (if 61 ≤ x6 then some ((-4), v8, v3) else some (x6, v8, v3)))) F 0 t_now)))
set_option maxHeartbeats 4000000 in
set_option maxRecDepth 100000 in
theorem c_X9_falls (l : Launch) (D : va_G) (cy : Nat → ClassId) (a_t : Nat) (a_t_now : Nat) (a_t_aside : Nat) (sz : Nat) (g_t_tape : Value) (g_t_typed : Value) (g_t_place : Value) (g_t_isFault : Value) (g_t_readLaw : Value) (g_t_read : Value) (g_t_undone : Value) (g_t_undos : Value) (g_t_coat : Value) (g_t_bestCoats : Value) (g_t_bestStand : Value) (g_t_bestPaint : Value) (g_t_kept : Value) (g_t_keptUndos : Value) (g_t_isKept : Value) (g_t_lanes : Value) (g_t_sizes : Value) (g_t_items : Value) (g_t_moved : Value) (t_now : Nat → Int32) (t_aside : Nat → Int32) (p0 : Int32) (F : Nat) (out : Int32 × (Nat → Int32) × (Nat → Int32)) (h : m_X9_falls F t_now t_aside p0 = some out) : MetM l D cy yX9_falls cX9_falls 3 (some .int) (rmG 6 134) [.ref a_t, .int p0] sz [(a_t, .inr (9, [.ref a_t_now, g_t_tape, g_t_typed, g_t_place, g_t_isFault, g_t_readLaw, g_t_read, g_t_undone, g_t_undos, .ref a_t_aside, g_t_coat, g_t_bestCoats, g_t_bestStand, g_t_bestPaint, g_t_kept, g_t_keptUndos, g_t_isKept, g_t_lanes, g_t_sizes, g_t_items, g_t_moved])), (a_t_now, .inl (cy 0, 24, .inl t_now)), (a_t_aside, .inl (cy 0, 24, .inl t_aside))] (some (.int out.1)) [(a_t, .inr (9, [.ref a_t_now, g_t_tape, g_t_typed, g_t_place, g_t_isFault, g_t_readLaw, g_t_read, g_t_undone, g_t_undos, .ref a_t_aside, g_t_coat, g_t_bestCoats, g_t_bestStand, g_t_bestPaint, g_t_kept, g_t_keptUndos, g_t_isKept, g_t_lanes, g_t_sizes, g_t_items, g_t_moved])), (a_t_now, .inl (cy 0, 24, .inl out.2.1)), (a_t_aside, .inl (cy 0, 24, .inl out.2.2))] := by
  refine startMi (own := RX9) (by decide) rfl (Nat.le_of_ble_eq_true rfl) ?_
  intro p e s m below meth c QQ A hx hb hml hown hg hK hP hD hS hA hret ls hl
  have hl : lv_has ls 3 [(0, .ref a_t), (1, .int p0)] := hl
  unfold m_X9_falls at h
  refine lv_aload_n hx hb dX9_falls_0 rfl (lv_at hl 0 rfl) ?_
  refine lv_iload_n hx hb dX9_falls_1 rfl (lv_at hl 1 rfl) ?_
  obtain ⟨v1, hv1, h⟩ := bind_e h
  refine callRV (As := [.int p0]) (rest := []) (v0 := .int v1) hx hb hml hown hg (c_X9_isMan l D cy a_t a_t_now (g_t_tape) (g_t_typed) (g_t_place) (g_t_isFault) (g_t_readLaw) (g_t_read) (g_t_undone) (g_t_undos) (.ref a_t_aside) (g_t_coat) (g_t_bestCoats) (g_t_bestStand) (g_t_bestPaint) (g_t_kept) (g_t_keptUndos) (g_t_isKept) (g_t_lanes) (g_t_sizes) (g_t_items) (g_t_moved) t_now p0 v1 hv1) q_1051 q_1048 q_63 q_1050 q_28 hd_X9_isMan ⟨(Nat.le_of_ble_eq_true rfl), (Nat.le_of_ble_eq_true rfl)⟩ hK hP [0, 1] rfl 0 9 rfl rfl rfl rfl rfl rfl hl.1 rfl (Nat.le_of_ble_eq_true rfl) dX9_falls_2 ?_
  refine lv_if_ne (tgt := 10) hx hb dX9_falls_5 (by decide) (fun c2 => ?_) (fun c2 => ?_)
  · have h := it_f c2 h
    refine lv_aload_n hx hb dX9_falls_10 rfl (lv_at hl 0 rfl) ?_
    obtain ⟨v3, hv3, h⟩ := bind_e h
    refine callMV (As := []) (rest := []) (wr := []) (w2 := [(a_t, .inr (9, [.ref a_t_now, g_t_tape, g_t_typed, g_t_place, g_t_isFault, g_t_readLaw, g_t_read, g_t_undone, g_t_undos, .ref a_t_aside, g_t_coat, g_t_bestCoats, g_t_bestStand, g_t_bestPaint, g_t_kept, g_t_keptUndos, g_t_isKept, g_t_lanes, g_t_sizes, g_t_items, g_t_moved])), (a_t_now, .inl (cy 0, 24, .inl t_now)), (a_t_aside, .inl (cy 0, 24, .inl v3))]) hx hb hml hown hg (c_X9_asides l D cy a_t a_t_now a_t_aside _ (g_t_tape) (g_t_typed) (g_t_place) (g_t_isFault) (g_t_readLaw) (g_t_read) (g_t_undone) (g_t_undos) (g_t_coat) (g_t_bestCoats) (g_t_bestStand) (g_t_bestPaint) (g_t_kept) (g_t_keptUndos) (g_t_isKept) (g_t_lanes) (g_t_sizes) (g_t_items) (g_t_moved) t_now t_aside F v3 hv3) q_1192 q_1189 q_63 q_1191 q_45 hd_X9_asides ⟨(Nat.le_of_ble_eq_true rfl), (Nat.le_of_ble_eq_true rfl)⟩ hK hP hD hS hA [0, 1, 2] [] rfl rfl rfl rfl (by decide) [0, 1, 2] rfl rfl 0 9 rfl rfl rfl rfl rfl rfl hl.1 rfl rfl (Nat.le_of_ble_eq_true rfl) dX9_falls_11 (fun H locs hP hD hS => ?_)
    refine lv_iconst (v := 0) hx hb dX9_falls_14 kI_0 ?_
    refine lv_istore_n (lv' := [(2, .int 0), (0, .ref a_t), (1, .int p0)]) hx hb dX9_falls_15 rfl hl (by decide) rfl (fun ls hl => ?_)
    obtain ⟨k10, hk10, h⟩ := kap (fun z => m_X9_falls_L16 p0 F z F 0 t_now) h
    have J10 : ∀ (x6 : Int32) (w7 : Nat → Int32) (H : Heap) (locs : List Loc) (ls : Array Slot), va_P D vwCl [(a_t, .inr (9, [.ref a_t_now, g_t_tape, g_t_typed, g_t_place, g_t_isFault, g_t_readLaw, g_t_read, g_t_undone, g_t_undos, .ref a_t_aside, g_t_coat, g_t_bestCoats, g_t_bestStand, g_t_bestPaint, g_t_kept, g_t_keptUndos, g_t_isKept, g_t_lanes, g_t_sizes, g_t_items, g_t_moved])), (a_t_now, .inl (cy 0, 24, .inl w7)), (a_t_aside, .inl (cy 0, 24, .inl v3))] H → va_D A [(a_t, .inr (9, [.ref a_t_now, g_t_tape, g_t_typed, g_t_place, g_t_isFault, g_t_readLaw, g_t_read, g_t_undone, g_t_undos, .ref a_t_aside, g_t_coat, g_t_bestCoats, g_t_bestStand, g_t_bestPaint, g_t_kept, g_t_keptUndos, g_t_isKept, g_t_lanes, g_t_sizes, g_t_items, g_t_moved])), (a_t_now, .inl (cy 0, 24, .inl w7)), (a_t_aside, .inl (cy 0, 24, .inl v3))] → va_S A s.heap H locs → lv_has ls 3 [(2, .int x6), (0, .ref a_t)] → k10 x6 w7 = some out → W p l e (rmG 6 134) s m [.ref a_t, .int p0].toArray below meth c H locs 0 0 QQ (F0 m 41 ls []) := by
      intro x6 w7 H locs ls hP hD hS hl h
      rw [hk10] at h
      refine lv_aload_n hx hb dX9_falls_41 rfl (lv_at hl 1 rfl) ?_
      obtain ⟨v8, hv8, h⟩ := bind_e h
      refine callMV (As := []) (rest := []) (wr := []) (w2 := [(a_t, .inr (9, [.ref a_t_now, g_t_tape, g_t_typed, g_t_place, g_t_isFault, g_t_readLaw, g_t_read, g_t_undone, g_t_undos, .ref a_t_aside, g_t_coat, g_t_bestCoats, g_t_bestStand, g_t_bestPaint, g_t_kept, g_t_keptUndos, g_t_isKept, g_t_lanes, g_t_sizes, g_t_items, g_t_moved])), (a_t_now, .inl (cy 0, 24, .inl v8)), (a_t_aside, .inl (cy 0, 24, .inl v3))]) hx hb hml hown hg (c_X9_backs l D cy a_t a_t_now a_t_aside _ (g_t_tape) (g_t_typed) (g_t_place) (g_t_isFault) (g_t_readLaw) (g_t_read) (g_t_undone) (g_t_undos) (g_t_coat) (g_t_bestCoats) (g_t_bestStand) (g_t_bestPaint) (g_t_kept) (g_t_keptUndos) (g_t_isKept) (g_t_lanes) (g_t_sizes) (g_t_items) (g_t_moved) w7 v3 F v8 hv8) q_1200 q_1197 q_63 q_1199 q_47 hd_X9_backs ⟨(Nat.le_of_ble_eq_true rfl), (Nat.le_of_ble_eq_true rfl)⟩ hK hP hD hS hA [0, 1, 2] [] rfl rfl rfl rfl (by decide) [0, 1, 2] rfl rfl 0 9 rfl rfl rfl rfl rfl rfl hl.1 rfl rfl (Nat.le_of_ble_eq_true rfl) dX9_falls_42 (fun H locs hP hD hS => ?_)
      refine lv_iload_n hx hb dX9_falls_45 rfl (lv_at hl 0 rfl) ?_
      refine lv_bipush (v := 61) hx hb dX9_falls_46 kB_61 ?_
      refine lv_icmp_ge (tgt := 55) hx hb dX9_falls_48 (by decide) (fun c9 => ?_) (fun c9 => ?_)
      · have h := it_t c9 h
        refine lv_bipush (v := (-4)) hx hb dX9_falls_55 kB_m4 ?_
        exact hret _ _ _ _ ls 57 dX9_falls_57 rfl (by rw [← Option.some.inj h]) (by rw [← Option.some.inj h]) hP hD hS
      · have h := it_f c9 h
        refine lv_iload_n hx hb dX9_falls_51 rfl (lv_at hl 0 rfl) ?_
        refine lv_goto (tgt := 57) hx hb dX9_falls_52 (by decide) ?_
        exact hret _ _ _ _ ls 57 dX9_falls_57 rfl (by rw [← Option.some.inj h]) (by rw [← Option.some.inj h]) hP hD hS
    have L11 : ∀ (n11 : Nat) (x4 : Int32) (w5 : Nat → Int32) (H : Heap) (locs : List Loc) (ls : Array Slot), va_P D vwCl [(a_t, .inr (9, [.ref a_t_now, g_t_tape, g_t_typed, g_t_place, g_t_isFault, g_t_readLaw, g_t_read, g_t_undone, g_t_undos, .ref a_t_aside, g_t_coat, g_t_bestCoats, g_t_bestStand, g_t_bestPaint, g_t_kept, g_t_keptUndos, g_t_isKept, g_t_lanes, g_t_sizes, g_t_items, g_t_moved])), (a_t_now, .inl (cy 0, 24, .inl w5)), (a_t_aside, .inl (cy 0, 24, .inl v3))] H → va_D A [(a_t, .inr (9, [.ref a_t_now, g_t_tape, g_t_typed, g_t_place, g_t_isFault, g_t_readLaw, g_t_read, g_t_undone, g_t_undos, .ref a_t_aside, g_t_coat, g_t_bestCoats, g_t_bestStand, g_t_bestPaint, g_t_kept, g_t_keptUndos, g_t_isKept, g_t_lanes, g_t_sizes, g_t_items, g_t_moved])), (a_t_now, .inl (cy 0, 24, .inl w5)), (a_t_aside, .inl (cy 0, 24, .inl v3))] → va_S A s.heap H locs → lv_has ls 3 [(2, .int x4), (0, .ref a_t), (1, .int p0)] → m_X9_falls_L16 p0 F k10 n11 x4 w5 = some out → W p l e (rmG 6 134) s m [.ref a_t, .int p0].toArray below meth c H locs 0 0 QQ (F0 m 16 ls []) := by
      intro n11
      induction n11 with
      | zero => intro x4 w5 H locs ls hP hD hS hl h; exact nomatch (show (none : Option (Int32 × (Nat → Int32) × (Nat → Int32))) = some out from h)
      | succ n11 ih =>
          intro x4 w5 H locs ls hP hD hS hl h
          have h : m_X9_falls_L16s p0 F k10 (m_X9_falls_L16 p0 F k10 n11) x4 w5 = some out := h
          unfold m_X9_falls_L16s at h
          refine lv_iload_n hx hb dX9_falls_16 rfl (lv_at hl 0 rfl) ?_
          refine lv_bipush (v := 61) hx hb dX9_falls_17 kB_61 ?_
          refine lv_icmp_ge (tgt := 41) hx hb dX9_falls_19 (by decide) (fun c13 => ?_) (fun c13 => ?_)
          · have h := it_t c13 h
            exact J10 x4 w5 _ _ _ hP hD hS (lv_sub hl [0, 1] rfl) h
          · have h := it_f c13 h
            refine lv_aload_n hx hb dX9_falls_22 rfl (lv_at hl 1 rfl) ?_
            refine lv_iload_n hx hb dX9_falls_23 rfl (lv_at hl 2 rfl) ?_
            obtain ⟨v14, hv14, h⟩ := bind_e h
            refine callRV (As := [.int p0]) (rest := []) (v0 := .int v14) hx hb hml hown hg (c_X9_stands l D cy a_t a_t_now (g_t_tape) (g_t_typed) (g_t_place) (g_t_isFault) (g_t_readLaw) (g_t_read) (g_t_undone) (g_t_undos) (.ref a_t_aside) (g_t_coat) (g_t_bestCoats) (g_t_bestStand) (g_t_bestPaint) (g_t_kept) (g_t_keptUndos) (g_t_isKept) (g_t_lanes) (g_t_sizes) (g_t_items) (g_t_moved) w5 p0 v14 hv14) q_1067 q_1064 q_63 q_1066 q_32 hd_X9_stands ⟨(Nat.le_of_ble_eq_true rfl), (Nat.le_of_ble_eq_true rfl)⟩ hK hP [0, 1] rfl 0 9 rfl rfl rfl rfl rfl rfl hl.1 rfl (Nat.le_of_ble_eq_true rfl) dX9_falls_24 ?_
            refine lv_if_eq (tgt := 41) hx hb dX9_falls_27 (by decide) (fun c15 => ?_) (fun c15 => ?_)
            · have h := it_t c15 h
              exact J10 x4 w5 _ _ _ hP hD hS (lv_sub hl [0, 1] rfl) h
            · have h := it_f c15 h
              refine lv_aload_n hx hb dX9_falls_30 rfl (lv_at hl 1 rfl) ?_
              refine lv_iconst (v := 0) hx hb dX9_falls_31 kI_0 ?_
              obtain ⟨v16, hv16, h⟩ := bind_e h
              refine callMV (As := [.int 0]) (rest := []) (wr := [(a_t_aside, .inl (cy 0, 24, .inl v3))]) (w2 := [(a_t, .inr (9, [.ref a_t_now, g_t_tape, g_t_typed, g_t_place, g_t_isFault, g_t_readLaw, g_t_read, g_t_undone, g_t_undos, .ref a_t_aside, g_t_coat, g_t_bestCoats, g_t_bestStand, g_t_bestPaint, g_t_kept, g_t_keptUndos, g_t_isKept, g_t_lanes, g_t_sizes, g_t_items, g_t_moved])), (a_t_now, .inl (cy 0, 24, .inl v16)), (a_t_aside, .inl (cy 0, 24, .inl v3))]) hx hb hml hown hg (c_X9_goesBy l D cy a_t a_t_now _ (g_t_tape) (g_t_typed) (g_t_place) (g_t_isFault) (g_t_readLaw) (g_t_read) (g_t_undone) (g_t_undos) (.ref a_t_aside) (g_t_coat) (g_t_bestCoats) (g_t_bestStand) (g_t_bestPaint) (g_t_kept) (g_t_keptUndos) (g_t_isKept) (g_t_lanes) (g_t_sizes) (g_t_items) (g_t_moved) w5 0 F v16 hv16) q_1148 q_1145 q_63 q_1147 q_42 hd_X9_goesBy ⟨(Nat.le_of_ble_eq_true rfl), (Nat.le_of_ble_eq_true rfl)⟩ hK hP hD hS hA [0, 1] [2] rfl rfl rfl rfl (by decide) [1, 2, 0] rfl rfl 0 9 rfl rfl rfl rfl rfl rfl hl.1 rfl rfl (Nat.le_of_ble_eq_true rfl) dX9_falls_32 (fun H locs hP hD hS => ?_)
              obtain ⟨x17, ex17⟩ : ∃ y : Int32, y = x4 + 1 := ⟨_, rfl⟩
              have h := bnd_e ex17 h
              refine lv_iinc (v := x17) (lv' := [(2, .int x17), (0, .ref a_t), (1, .int p0)]) hx hb dX9_falls_35 hl (k := 0) rfl (inc_e kI_1 ex17) (by decide) rfl (fun ls hl => ?_)
              refine lv_goto (tgt := 16) hx hb dX9_falls_38 (by decide) ?_
              exact ih x17 v16 _ _ _ hP hD hS (lv_sub hl [0, 1, 2] rfl) h
    exact L11 F 0 t_now _ _ _ hP hD hS (lv_sub hl [0, 1, 2] rfl) h
  · have h := it_t c2 h
    refine lv_iconst (v := (-1)) hx hb dX9_falls_8 kI_m1 ?_
    exact hret _ _ _ _ ls 9 dX9_falls_9 rfl (by rw [← Option.some.inj h]) (by rw [← Option.some.inj h]) hP hD hS

def m_X9_alone_L6s (F : Nat) (k8 : Int32 → (Nat → Int32) → Option (Int32 × (Nat → Int32) × (Nat → Int32))) (r10 : Int32 → (Nat → Int32) → Option (Int32 × (Nat → Int32) × (Nat → Int32))) (x2 : Int32) (w3 : Nat → Int32) : Option (Int32 × (Nat → Int32) × (Nat → Int32)) := (if 61 ≤ x2 then k8 x2 w3 else (m_X9_standing F w3).bind (fun v12 => (m_X9_many F v12).bind (fun v13 => (if v13 ≤ 1 then k8 x2 w3 else (m_X9_goesBy F w3 0).bind (fun v15 => bnd (x2 + 1) (fun x16 => r10 x16 v15))))))
def m_X9_alone_L6 (F : Nat) (k8 : Int32 → (Nat → Int32) → Option (Int32 × (Nat → Int32) × (Nat → Int32))) : Nat → Int32 → (Nat → Int32) → Option (Int32 × (Nat → Int32) × (Nat → Int32))
  | 0 => fun _ _ => none
  | nF + 1 => m_X9_alone_L6s F k8 (m_X9_alone_L6 F k8 nF)
def m_X9_alone (F : Nat) (t_now : Nat → Int32) (t_aside : Nat → Int32) : Option (Int32 × (Nat → Int32) × (Nat → Int32)) := (m_X9_asides F t_now t_aside).bind (fun v1 => m_X9_alone_L6 F (fun (x4 : Int32) (w5 : Nat → Int32) => (m_X9_backs F w5 v1).bind (fun v6 => (if 61 ≤ x4 then some ((-4), v6, v1) else some (x4, v6, v1)))) F 0 t_now)
set_option maxHeartbeats 4000000 in
set_option maxRecDepth 100000 in
theorem c_X9_alone (l : Launch) (D : va_G) (cy : Nat → ClassId) (a_t : Nat) (a_t_now : Nat) (a_t_aside : Nat) (sz : Nat) (g_t_tape : Value) (g_t_typed : Value) (g_t_place : Value) (g_t_isFault : Value) (g_t_readLaw : Value) (g_t_read : Value) (g_t_undone : Value) (g_t_undos : Value) (g_t_coat : Value) (g_t_bestCoats : Value) (g_t_bestStand : Value) (g_t_bestPaint : Value) (g_t_kept : Value) (g_t_keptUndos : Value) (g_t_isKept : Value) (g_t_lanes : Value) (g_t_sizes : Value) (g_t_items : Value) (g_t_moved : Value) (t_now : Nat → Int32) (t_aside : Nat → Int32) (F : Nat) (out : Int32 × (Nat → Int32) × (Nat → Int32)) (h : m_X9_alone F t_now t_aside = some out) : MetM l D cy yX9_alone cX9_alone 2 (some .int) (rmG 6 134) [.ref a_t] sz [(a_t, .inr (9, [.ref a_t_now, g_t_tape, g_t_typed, g_t_place, g_t_isFault, g_t_readLaw, g_t_read, g_t_undone, g_t_undos, .ref a_t_aside, g_t_coat, g_t_bestCoats, g_t_bestStand, g_t_bestPaint, g_t_kept, g_t_keptUndos, g_t_isKept, g_t_lanes, g_t_sizes, g_t_items, g_t_moved])), (a_t_now, .inl (cy 0, 24, .inl t_now)), (a_t_aside, .inl (cy 0, 24, .inl t_aside))] (some (.int out.1)) [(a_t, .inr (9, [.ref a_t_now, g_t_tape, g_t_typed, g_t_place, g_t_isFault, g_t_readLaw, g_t_read, g_t_undone, g_t_undos, .ref a_t_aside, g_t_coat, g_t_bestCoats, g_t_bestStand, g_t_bestPaint, g_t_kept, g_t_keptUndos, g_t_isKept, g_t_lanes, g_t_sizes, g_t_items, g_t_moved])), (a_t_now, .inl (cy 0, 24, .inl out.2.1)), (a_t_aside, .inl (cy 0, 24, .inl out.2.2))] := by
  refine startMi (own := RX9) (by decide) rfl (Nat.le_of_ble_eq_true rfl) ?_
  intro p e s m below meth c QQ A hx hb hml hown hg hK hP hD hS hA hret ls hl
  have hl : lv_has ls 2 [(0, .ref a_t)] := hl
  unfold m_X9_alone at h
  refine lv_aload_n hx hb dX9_alone_0 rfl (lv_at hl 0 rfl) ?_
  obtain ⟨v1, hv1, h⟩ := bind_e h
  refine callMV (As := []) (rest := []) (wr := []) (w2 := [(a_t, .inr (9, [.ref a_t_now, g_t_tape, g_t_typed, g_t_place, g_t_isFault, g_t_readLaw, g_t_read, g_t_undone, g_t_undos, .ref a_t_aside, g_t_coat, g_t_bestCoats, g_t_bestStand, g_t_bestPaint, g_t_kept, g_t_keptUndos, g_t_isKept, g_t_lanes, g_t_sizes, g_t_items, g_t_moved])), (a_t_now, .inl (cy 0, 24, .inl t_now)), (a_t_aside, .inl (cy 0, 24, .inl v1))]) hx hb hml hown hg (c_X9_asides l D cy a_t a_t_now a_t_aside _ (g_t_tape) (g_t_typed) (g_t_place) (g_t_isFault) (g_t_readLaw) (g_t_read) (g_t_undone) (g_t_undos) (g_t_coat) (g_t_bestCoats) (g_t_bestStand) (g_t_bestPaint) (g_t_kept) (g_t_keptUndos) (g_t_isKept) (g_t_lanes) (g_t_sizes) (g_t_items) (g_t_moved) t_now t_aside F v1 hv1) q_1192 q_1189 q_63 q_1191 q_45 hd_X9_asides ⟨(Nat.le_of_ble_eq_true rfl), (Nat.le_of_ble_eq_true rfl)⟩ hK hP hD hS hA [0, 1, 2] [] rfl rfl rfl rfl (by decide) [0, 1, 2] rfl rfl 0 9 rfl rfl rfl rfl rfl rfl hl.1 rfl rfl (Nat.le_of_ble_eq_true rfl) dX9_alone_1 (fun H locs hP hD hS => ?_)
  refine lv_iconst (v := 0) hx hb dX9_alone_4 kI_0 ?_
  refine lv_istore_n (lv' := [(1, .int 0), (0, .ref a_t)]) hx hb dX9_alone_5 rfl hl (by decide) rfl (fun ls hl => ?_)
  obtain ⟨k8, hk8, h⟩ := kap (fun z => m_X9_alone_L6 F z F 0 t_now) h
  have J8 : ∀ (x4 : Int32) (w5 : Nat → Int32) (H : Heap) (locs : List Loc) (ls : Array Slot), va_P D vwCl [(a_t, .inr (9, [.ref a_t_now, g_t_tape, g_t_typed, g_t_place, g_t_isFault, g_t_readLaw, g_t_read, g_t_undone, g_t_undos, .ref a_t_aside, g_t_coat, g_t_bestCoats, g_t_bestStand, g_t_bestPaint, g_t_kept, g_t_keptUndos, g_t_isKept, g_t_lanes, g_t_sizes, g_t_items, g_t_moved])), (a_t_now, .inl (cy 0, 24, .inl w5)), (a_t_aside, .inl (cy 0, 24, .inl v1))] H → va_D A [(a_t, .inr (9, [.ref a_t_now, g_t_tape, g_t_typed, g_t_place, g_t_isFault, g_t_readLaw, g_t_read, g_t_undone, g_t_undos, .ref a_t_aside, g_t_coat, g_t_bestCoats, g_t_bestStand, g_t_bestPaint, g_t_kept, g_t_keptUndos, g_t_isKept, g_t_lanes, g_t_sizes, g_t_items, g_t_moved])), (a_t_now, .inl (cy 0, 24, .inl w5)), (a_t_aside, .inl (cy 0, 24, .inl v1))] → va_S A s.heap H locs → lv_has ls 2 [(1, .int x4), (0, .ref a_t)] → k8 x4 w5 = some out → W p l e (rmG 6 134) s m [.ref a_t].toArray below meth c H locs 0 0 QQ (F0 m 34 ls []) := by
    intro x4 w5 H locs ls hP hD hS hl h
    rw [hk8] at h
    refine lv_aload_n hx hb dX9_alone_34 rfl (lv_at hl 1 rfl) ?_
    obtain ⟨v6, hv6, h⟩ := bind_e h
    refine callMV (As := []) (rest := []) (wr := []) (w2 := [(a_t, .inr (9, [.ref a_t_now, g_t_tape, g_t_typed, g_t_place, g_t_isFault, g_t_readLaw, g_t_read, g_t_undone, g_t_undos, .ref a_t_aside, g_t_coat, g_t_bestCoats, g_t_bestStand, g_t_bestPaint, g_t_kept, g_t_keptUndos, g_t_isKept, g_t_lanes, g_t_sizes, g_t_items, g_t_moved])), (a_t_now, .inl (cy 0, 24, .inl v6)), (a_t_aside, .inl (cy 0, 24, .inl v1))]) hx hb hml hown hg (c_X9_backs l D cy a_t a_t_now a_t_aside _ (g_t_tape) (g_t_typed) (g_t_place) (g_t_isFault) (g_t_readLaw) (g_t_read) (g_t_undone) (g_t_undos) (g_t_coat) (g_t_bestCoats) (g_t_bestStand) (g_t_bestPaint) (g_t_kept) (g_t_keptUndos) (g_t_isKept) (g_t_lanes) (g_t_sizes) (g_t_items) (g_t_moved) w5 v1 F v6 hv6) q_1200 q_1197 q_63 q_1199 q_47 hd_X9_backs ⟨(Nat.le_of_ble_eq_true rfl), (Nat.le_of_ble_eq_true rfl)⟩ hK hP hD hS hA [0, 1, 2] [] rfl rfl rfl rfl (by decide) [0, 1, 2] rfl rfl 0 9 rfl rfl rfl rfl rfl rfl hl.1 rfl rfl (Nat.le_of_ble_eq_true rfl) dX9_alone_35 (fun H locs hP hD hS => ?_)
    refine lv_iload_n hx hb dX9_alone_38 rfl (lv_at hl 0 rfl) ?_
    refine lv_bipush (v := 61) hx hb dX9_alone_39 kB_61 ?_
    refine lv_icmp_ge (tgt := 48) hx hb dX9_alone_41 (by decide) (fun c7 => ?_) (fun c7 => ?_)
    · have h := it_t c7 h
      refine lv_bipush (v := (-4)) hx hb dX9_alone_48 kB_m4 ?_
      exact hret _ _ _ _ ls 50 dX9_alone_50 rfl (by rw [← Option.some.inj h]) (by rw [← Option.some.inj h]) hP hD hS
    · have h := it_f c7 h
      refine lv_iload_n hx hb dX9_alone_44 rfl (lv_at hl 0 rfl) ?_
      refine lv_goto (tgt := 50) hx hb dX9_alone_45 (by decide) ?_
      exact hret _ _ _ _ ls 50 dX9_alone_50 rfl (by rw [← Option.some.inj h]) (by rw [← Option.some.inj h]) hP hD hS
  have L9 : ∀ (n9 : Nat) (x2 : Int32) (w3 : Nat → Int32) (H : Heap) (locs : List Loc) (ls : Array Slot), va_P D vwCl [(a_t, .inr (9, [.ref a_t_now, g_t_tape, g_t_typed, g_t_place, g_t_isFault, g_t_readLaw, g_t_read, g_t_undone, g_t_undos, .ref a_t_aside, g_t_coat, g_t_bestCoats, g_t_bestStand, g_t_bestPaint, g_t_kept, g_t_keptUndos, g_t_isKept, g_t_lanes, g_t_sizes, g_t_items, g_t_moved])), (a_t_now, .inl (cy 0, 24, .inl w3)), (a_t_aside, .inl (cy 0, 24, .inl v1))] H → va_D A [(a_t, .inr (9, [.ref a_t_now, g_t_tape, g_t_typed, g_t_place, g_t_isFault, g_t_readLaw, g_t_read, g_t_undone, g_t_undos, .ref a_t_aside, g_t_coat, g_t_bestCoats, g_t_bestStand, g_t_bestPaint, g_t_kept, g_t_keptUndos, g_t_isKept, g_t_lanes, g_t_sizes, g_t_items, g_t_moved])), (a_t_now, .inl (cy 0, 24, .inl w3)), (a_t_aside, .inl (cy 0, 24, .inl v1))] → va_S A s.heap H locs → lv_has ls 2 [(1, .int x2), (0, .ref a_t)] → m_X9_alone_L6 F k8 n9 x2 w3 = some out → W p l e (rmG 6 134) s m [.ref a_t].toArray below meth c H locs 0 0 QQ (F0 m 6 ls []) := by
    intro n9
    induction n9 with
    | zero => intro x2 w3 H locs ls hP hD hS hl h; exact nomatch (show (none : Option (Int32 × (Nat → Int32) × (Nat → Int32))) = some out from h)
    | succ n9 ih =>
        intro x2 w3 H locs ls hP hD hS hl h
        have h : m_X9_alone_L6s F k8 (m_X9_alone_L6 F k8 n9) x2 w3 = some out := h
        unfold m_X9_alone_L6s at h
        refine lv_iload_n hx hb dX9_alone_6 rfl (lv_at hl 0 rfl) ?_
        refine lv_bipush (v := 61) hx hb dX9_alone_7 kB_61 ?_
        refine lv_icmp_ge (tgt := 34) hx hb dX9_alone_9 (by decide) (fun c11 => ?_) (fun c11 => ?_)
        · have h := it_t c11 h
          exact J8 x2 w3 _ _ _ hP hD hS (lv_sub hl [0, 1] rfl) h
        · have h := it_f c11 h
          refine lv_aload_n hx hb dX9_alone_12 rfl (lv_at hl 1 rfl) ?_
          obtain ⟨v12, hv12, h⟩ := bind_e h
          refine callRV (As := []) (rest := []) (v0 := .int v12) hx hb hml hown hg (c_X9_standing l D cy a_t a_t_now (g_t_tape) (g_t_typed) (g_t_place) (g_t_isFault) (g_t_readLaw) (g_t_read) (g_t_undone) (g_t_undos) (.ref a_t_aside) (g_t_coat) (g_t_bestCoats) (g_t_bestStand) (g_t_bestPaint) (g_t_kept) (g_t_keptUndos) (g_t_isKept) (g_t_lanes) (g_t_sizes) (g_t_items) (g_t_moved) w3 F v12 hv12) q_1077 q_1074 q_63 q_1076 q_33 hd_X9_standing ⟨(Nat.le_of_ble_eq_true rfl), (Nat.le_of_ble_eq_true rfl)⟩ hK hP [0, 1] rfl 0 9 rfl rfl rfl rfl rfl rfl hl.1 rfl (Nat.le_of_ble_eq_true rfl) dX9_alone_13 ?_
          obtain ⟨v13, hv13, h⟩ := bind_e h
          refine callRS (As := [.int v12]) (rest := []) (v0 := .int v13) hx hb hml hown hg (c_X9_many l D cy v12 F v13 hv13) q_1073 q_1071 q_63 q_1072 hd_X9_many ⟨(Nat.le_of_ble_eq_true rfl), (Nat.le_of_ble_eq_true rfl)⟩ hK hP [] rfl rfl rfl rfl hl.1 rfl (Nat.le_of_ble_eq_true rfl) dX9_alone_16 ?_
          refine lv_iconst (v := 1) hx hb dX9_alone_19 kI_1 ?_
          refine lv_icmp_le (tgt := 34) hx hb dX9_alone_20 (by decide) (fun c14 => ?_) (fun c14 => ?_)
          · have h := it_t c14 h
            exact J8 x2 w3 _ _ _ hP hD hS (lv_sub hl [0, 1] rfl) h
          · have h := it_f c14 h
            refine lv_aload_n hx hb dX9_alone_23 rfl (lv_at hl 1 rfl) ?_
            refine lv_iconst (v := 0) hx hb dX9_alone_24 kI_0 ?_
            obtain ⟨v15, hv15, h⟩ := bind_e h
            refine callMV (As := [.int 0]) (rest := []) (wr := [(a_t_aside, .inl (cy 0, 24, .inl v1))]) (w2 := [(a_t, .inr (9, [.ref a_t_now, g_t_tape, g_t_typed, g_t_place, g_t_isFault, g_t_readLaw, g_t_read, g_t_undone, g_t_undos, .ref a_t_aside, g_t_coat, g_t_bestCoats, g_t_bestStand, g_t_bestPaint, g_t_kept, g_t_keptUndos, g_t_isKept, g_t_lanes, g_t_sizes, g_t_items, g_t_moved])), (a_t_now, .inl (cy 0, 24, .inl v15)), (a_t_aside, .inl (cy 0, 24, .inl v1))]) hx hb hml hown hg (c_X9_goesBy l D cy a_t a_t_now _ (g_t_tape) (g_t_typed) (g_t_place) (g_t_isFault) (g_t_readLaw) (g_t_read) (g_t_undone) (g_t_undos) (.ref a_t_aside) (g_t_coat) (g_t_bestCoats) (g_t_bestStand) (g_t_bestPaint) (g_t_kept) (g_t_keptUndos) (g_t_isKept) (g_t_lanes) (g_t_sizes) (g_t_items) (g_t_moved) w3 0 F v15 hv15) q_1148 q_1145 q_63 q_1147 q_42 hd_X9_goesBy ⟨(Nat.le_of_ble_eq_true rfl), (Nat.le_of_ble_eq_true rfl)⟩ hK hP hD hS hA [0, 1] [2] rfl rfl rfl rfl (by decide) [1, 2, 0] rfl rfl 0 9 rfl rfl rfl rfl rfl rfl hl.1 rfl rfl (Nat.le_of_ble_eq_true rfl) dX9_alone_25 (fun H locs hP hD hS => ?_)
            obtain ⟨x16, ex16⟩ : ∃ y : Int32, y = x2 + 1 := ⟨_, rfl⟩
            have h := bnd_e ex16 h
            refine lv_iinc (v := x16) (lv' := [(1, .int x16), (0, .ref a_t)]) hx hb dX9_alone_28 hl (k := 0) rfl (inc_e kI_1 ex16) (by decide) rfl (fun ls hl => ?_)
            refine lv_goto (tgt := 6) hx hb dX9_alone_31 (by decide) ?_
            exact ih x16 v15 _ _ _ hP hD hS (lv_sub hl [0, 1] rfl) h
  exact L9 F 0 t_now _ _ _ hP hD hS (lv_sub hl [0, 1] rfl) h

def m_X9_mayBe (F : Nat) (t_now : Nat → Int32) (p0 : Int32) (p1 : Int32) : Option (Int32) := (m_X9_inchOf t_now p0).bind (fun v1 => (if v1 = p1 then some 1 else (m_X9_whoAt F t_now p1).bind (fun v3 => (if v3 = (-4) then some 1 else some 0))))
set_option maxHeartbeats 4000000 in
set_option maxRecDepth 100000 in
theorem c_X9_mayBe (l : Launch) (D : va_G) (cy : Nat → ClassId) (a_t : Nat) (a_t_now : Nat) (g_t_tape : Value) (g_t_typed : Value) (g_t_place : Value) (g_t_isFault : Value) (g_t_readLaw : Value) (g_t_read : Value) (g_t_undone : Value) (g_t_undos : Value) (g_t_aside : Value) (g_t_coat : Value) (g_t_bestCoats : Value) (g_t_bestStand : Value) (g_t_bestPaint : Value) (g_t_kept : Value) (g_t_keptUndos : Value) (g_t_isKept : Value) (g_t_lanes : Value) (g_t_sizes : Value) (g_t_items : Value) (g_t_moved : Value) (t_now : Nat → Int32) (p0 : Int32) (p1 : Int32) (F : Nat) (out : Int32) (h : m_X9_mayBe F t_now p0 p1 = some out) : MetR l D cy yX9_mayBe cX9_mayBe 3 (some .boolean) (rmG 3 66) [.ref a_t, .int p0, .int p1] [(a_t, .inr (9, [.ref a_t_now, g_t_tape, g_t_typed, g_t_place, g_t_isFault, g_t_readLaw, g_t_read, g_t_undone, g_t_undos, g_t_aside, g_t_coat, g_t_bestCoats, g_t_bestStand, g_t_bestPaint, g_t_kept, g_t_keptUndos, g_t_isKept, g_t_lanes, g_t_sizes, g_t_items, g_t_moved])), (a_t_now, .inl (cy 0, 24, .inl t_now))] (some (.int out)) := by
  refine startR (own := RX9) (by decide) rfl (Nat.le_of_ble_eq_true rfl) ?_
  intro p e s m below meth c QQ hx hb hml hown hg hK hP hret ls hl
  have hl : lv_has ls 3 [(0, .ref a_t), (1, .int p0), (2, .int p1)] := hl
  unfold m_X9_mayBe at h
  refine lv_aload_n hx hb dX9_mayBe_0 rfl (lv_at hl 0 rfl) ?_
  refine lv_iload_n hx hb dX9_mayBe_1 rfl (lv_at hl 1 rfl) ?_
  obtain ⟨v1, hv1, h⟩ := bind_e h
  refine callRV (As := [.int p0]) (rest := []) (v0 := .int v1) hx hb hml hown hg (c_X9_inchOf l D cy a_t a_t_now (g_t_tape) (g_t_typed) (g_t_place) (g_t_isFault) (g_t_readLaw) (g_t_read) (g_t_undone) (g_t_undos) (g_t_aside) (g_t_coat) (g_t_bestCoats) (g_t_bestStand) (g_t_bestPaint) (g_t_kept) (g_t_keptUndos) (g_t_isKept) (g_t_lanes) (g_t_sizes) (g_t_items) (g_t_moved) t_now p0 v1 hv1) q_1029 q_1026 q_63 q_1028 q_25 hd_X9_inchOf ⟨(Nat.le_of_ble_eq_true rfl), (Nat.le_of_ble_eq_true rfl)⟩ hK hP [0, 1] rfl 0 9 rfl rfl rfl rfl rfl rfl hl.1 rfl (Nat.le_of_ble_eq_true rfl) dX9_mayBe_2 ?_
  refine lv_iload_n hx hb dX9_mayBe_5 rfl (lv_at hl 2 rfl) ?_
  refine lv_icmp_eq (tgt := 19) hx hb dX9_mayBe_6 (by decide) (fun c2 => ?_) (fun c2 => ?_)
  · have h := it_t c2 h
    refine lv_iconst (v := 1) hx hb dX9_mayBe_19 kI_1 ?_
    refine lv_goto (tgt := 24) hx hb dX9_mayBe_20 (by decide) ?_
    exact hret _ ls 24 dX9_mayBe_24 (nar_z (Or.inr rfl)) (congrArg (fun z => some (Value.int z)) (Option.some.inj h))
  · have h := it_f c2 h
    refine lv_aload_n hx hb dX9_mayBe_9 rfl (lv_at hl 0 rfl) ?_
    refine lv_iload_n hx hb dX9_mayBe_10 rfl (lv_at hl 2 rfl) ?_
    obtain ⟨v3, hv3, h⟩ := bind_e h
    refine callRV (As := [.int p1]) (rest := []) (v0 := .int v3) hx hb hml hown hg (c_X9_whoAt l D cy a_t a_t_now (g_t_tape) (g_t_typed) (g_t_place) (g_t_isFault) (g_t_readLaw) (g_t_read) (g_t_undone) (g_t_undos) (g_t_aside) (g_t_coat) (g_t_bestCoats) (g_t_bestStand) (g_t_bestPaint) (g_t_kept) (g_t_keptUndos) (g_t_isKept) (g_t_lanes) (g_t_sizes) (g_t_items) (g_t_moved) t_now p1 F v3 hv3) q_1025 q_1022 q_63 q_1024 q_24 hd_X9_whoAt ⟨(Nat.le_of_ble_eq_true rfl), (Nat.le_of_ble_eq_true rfl)⟩ hK hP [0, 1] rfl 0 9 rfl rfl rfl rfl rfl rfl hl.1 rfl (Nat.le_of_ble_eq_true rfl) dX9_mayBe_11 ?_
    refine lv_bipush (v := (-4)) hx hb dX9_mayBe_14 kB_m4 ?_
    refine lv_icmp_ne (tgt := 23) hx hb dX9_mayBe_16 (by decide) (fun c4 => ?_) (fun c4 => ?_)
    · have h := it_f c4 h
      refine lv_iconst (v := 0) hx hb dX9_mayBe_23 kI_0 ?_
      exact hret _ ls 24 dX9_mayBe_24 (nar_z (Or.inl rfl)) (congrArg (fun z => some (Value.int z)) (Option.some.inj h))
    · have h := it_t c4 h
      refine lv_iconst (v := 1) hx hb dX9_mayBe_19 kI_1 ?_
      refine lv_goto (tgt := 24) hx hb dX9_mayBe_20 (by decide) ?_
      exact hret _ ls 24 dX9_mayBe_24 (nar_z (Or.inr rfl)) (congrArg (fun z => some (Value.int z)) (Option.some.inj h))

def m_X9_post_L46s (p0 : Int32) (p1 : Int32) (F : Nat) (v7 : (Nat → Int32)) (k16 : Int32 → Int32 → (Nat → Int32) → Option (Int32 × (Nat → Int32) × (Nat → Int32))) (r18 : Int32 → Int32 → Int32 → (Nat → Int32) → Option (Int32 × (Nat → Int32) × (Nat → Int32))) (x8 : Int32) (x9 : Int32) (x10 : Int32) (w11 : Nat → Int32) : Option (Int32 × (Nat → Int32) × (Nat → Int32)) := (if 12 ≤ x8 then k16 x9 x10 w11 else (m_X9_mayBe F w11 p0 x8).bind (fun v20 => (if v20 = 0 then bnd (x8 + 1) (fun x22 => r18 x22 x9 x10 w11) else (m_X9_goesTo w11 p0 x8).bind (fun v23 => (m_X9_goesOn F v23 p1).bind (fun v24 => (m_X9_standing F v24).bind (fun v25 => (m_X9_many F v25).bind (fun v26 => (m_X9_backs F v24 v7).bind (fun v27 => jn (fun (x28 : Int32) => (if v26 ≤ x9 then bnd (x8 + 1) (fun x30 => r18 x30 x9 x28 v27) else bnd (x8 + 1) (fun x31 => r18 x31 v26 x28 v27))) (fun k32 => (if v26 ≤ x9 then k32 x10 else k32 x8))))))))))
def m_X9_post_L46 (p0 : Int32) (p1 : Int32) (F : Nat) (v7 : (Nat → Int32)) (k16 : Int32 → Int32 → (Nat → Int32) → Option (Int32 × (Nat → Int32) × (Nat → Int32))) : Nat → Int32 → Int32 → Int32 → (Nat → Int32) → Option (Int32 × (Nat → Int32) × (Nat → Int32))
  | 0 => fun _ _ _ _ => none
  | nF + 1 => m_X9_post_L46s p0 p1 F v7 k16 (m_X9_post_L46 p0 p1 F v7 k16 nF)
def m_X9_post (F : Nat) (t_now : Nat → Int32) (t_aside : Nat → Int32) (p0 : Int32) (p1 : Int32) (p2 : Int32) : Option (Int32 × (Nat → Int32) × (Nat → Int32)) := (m_X9_isMan t_now p0).bind (fun v1 => (if v1 = 0 then some ((-1), t_now, t_aside) else (m_X9_in (p1.toInt64) (1 : Int64) (40 : Int64)).bind (fun v3 => (if v3 = 0 then some ((-1), t_now, t_aside) else (m_X9_in (p2.toInt64) (0 : Int64) (1 : Int64)).bind (fun v5 => (if v5 = 0 then some ((-1), t_now, t_aside) else (m_X9_asides F t_now t_aside).bind (fun v7 => m_X9_post_L46 p0 p1 F v7 (fun (x12 : Int32) (x13 : Int32) (w14 : Nat → Int32) => (if p2 = 0 then some (x13, w14, v7) else some (x12, w14, v7))) F 0 (-1) (-4) t_now)))))))
set_option maxHeartbeats 4000000 in
set_option maxRecDepth 100000 in
theorem c_X9_post (l : Launch) (D : va_G) (cy : Nat → ClassId) (a_t : Nat) (a_t_now : Nat) (a_t_aside : Nat) (sz : Nat) (g_t_tape : Value) (g_t_typed : Value) (g_t_place : Value) (g_t_isFault : Value) (g_t_readLaw : Value) (g_t_read : Value) (g_t_undone : Value) (g_t_undos : Value) (g_t_coat : Value) (g_t_bestCoats : Value) (g_t_bestStand : Value) (g_t_bestPaint : Value) (g_t_kept : Value) (g_t_keptUndos : Value) (g_t_isKept : Value) (g_t_lanes : Value) (g_t_sizes : Value) (g_t_items : Value) (g_t_moved : Value) (t_now : Nat → Int32) (t_aside : Nat → Int32) (p0 : Int32) (p1 : Int32) (p2 : Int32) (F : Nat) (out : Int32 × (Nat → Int32) × (Nat → Int32)) (h : m_X9_post F t_now t_aside p0 p1 p2 = some out) : MetM l D cy yX9_post cX9_post 8 (some .int) (rmG 7 156) [.ref a_t, .int p0, .int p1, .int p2] sz [(a_t, .inr (9, [.ref a_t_now, g_t_tape, g_t_typed, g_t_place, g_t_isFault, g_t_readLaw, g_t_read, g_t_undone, g_t_undos, .ref a_t_aside, g_t_coat, g_t_bestCoats, g_t_bestStand, g_t_bestPaint, g_t_kept, g_t_keptUndos, g_t_isKept, g_t_lanes, g_t_sizes, g_t_items, g_t_moved])), (a_t_now, .inl (cy 0, 24, .inl t_now)), (a_t_aside, .inl (cy 0, 24, .inl t_aside))] (some (.int out.1)) [(a_t, .inr (9, [.ref a_t_now, g_t_tape, g_t_typed, g_t_place, g_t_isFault, g_t_readLaw, g_t_read, g_t_undone, g_t_undos, .ref a_t_aside, g_t_coat, g_t_bestCoats, g_t_bestStand, g_t_bestPaint, g_t_kept, g_t_keptUndos, g_t_isKept, g_t_lanes, g_t_sizes, g_t_items, g_t_moved])), (a_t_now, .inl (cy 0, 24, .inl out.2.1)), (a_t_aside, .inl (cy 0, 24, .inl out.2.2))] := by
  refine startMi (own := RX9) (by decide) rfl (Nat.le_of_ble_eq_true rfl) ?_
  intro p e s m below meth c QQ A hx hb hml hown hg hK hP hD hS hA hret ls hl
  have hl : lv_has ls 8 [(0, .ref a_t), (1, .int p0), (2, .int p1), (3, .int p2)] := hl
  unfold m_X9_post at h
  refine lv_aload_n hx hb dX9_post_0 rfl (lv_at hl 0 rfl) ?_
  refine lv_iload_n hx hb dX9_post_1 rfl (lv_at hl 1 rfl) ?_
  obtain ⟨v1, hv1, h⟩ := bind_e h
  refine callRV (As := [.int p0]) (rest := []) (v0 := .int v1) hx hb hml hown hg (c_X9_isMan l D cy a_t a_t_now (g_t_tape) (g_t_typed) (g_t_place) (g_t_isFault) (g_t_readLaw) (g_t_read) (g_t_undone) (g_t_undos) (.ref a_t_aside) (g_t_coat) (g_t_bestCoats) (g_t_bestStand) (g_t_bestPaint) (g_t_kept) (g_t_keptUndos) (g_t_isKept) (g_t_lanes) (g_t_sizes) (g_t_items) (g_t_moved) t_now p0 v1 hv1) q_1051 q_1048 q_63 q_1050 q_28 hd_X9_isMan ⟨(Nat.le_of_ble_eq_true rfl), (Nat.le_of_ble_eq_true rfl)⟩ hK hP [0, 1] rfl 0 9 rfl rfl rfl rfl rfl rfl hl.1 rfl (Nat.le_of_ble_eq_true rfl) dX9_post_2 ?_
  refine lv_if_eq (tgt := 30) hx hb dX9_post_5 (by decide) (fun c2 => ?_) (fun c2 => ?_)
  · have h := it_t c2 h
    refine lv_iconst (v := (-1)) hx hb dX9_post_30 kI_m1 ?_
    exact hret _ _ _ _ ls 31 dX9_post_31 rfl (by rw [← Option.some.inj h]) (by rw [← Option.some.inj h]) hP hD hS
  · have h := it_f c2 h
    refine lv_iload_n hx hb dX9_post_8 rfl (lv_at hl 2 rfl) ?_
    refine lv_i2l (v := p1.toInt64) hx hb dX9_post_9 rfl ?_
    refine lv_lconst (v := 1) hx hb dX9_post_10 kL_1 ?_
    refine lv_ldc2 (v := 40) hx hb hown (hg _ q_1140) dX9_post_11 ?_
    obtain ⟨v3, hv3, h⟩ := bind_e h
    refine callRS (As := [.long (p1.toInt64), .long 1, .long 40]) (rest := []) (v0 := .int v3) hx hb hml hown hg (c_X9_in l D cy (p1.toInt64) (1 : Int64) (40 : Int64) v3 hv3) q_1016 q_1014 q_63 q_1015 hd_X9_in ⟨(Nat.le_of_ble_eq_true rfl), (Nat.le_of_ble_eq_true rfl)⟩ hK hP [] rfl rfl rfl rfl hl.1 rfl (Nat.le_of_ble_eq_true rfl) dX9_post_14 ?_
    refine lv_if_eq (tgt := 30) hx hb dX9_post_17 (by decide) (fun c4 => ?_) (fun c4 => ?_)
    · have h := it_t c4 h
      refine lv_iconst (v := (-1)) hx hb dX9_post_30 kI_m1 ?_
      exact hret _ _ _ _ ls 31 dX9_post_31 rfl (by rw [← Option.some.inj h]) (by rw [← Option.some.inj h]) hP hD hS
    · have h := it_f c4 h
      refine lv_iload_n hx hb dX9_post_20 rfl (lv_at hl 3 rfl) ?_
      refine lv_i2l (v := p2.toInt64) hx hb dX9_post_21 rfl ?_
      refine lv_lconst (v := 0) hx hb dX9_post_22 kL_0 ?_
      refine lv_lconst (v := 1) hx hb dX9_post_23 kL_1 ?_
      obtain ⟨v5, hv5, h⟩ := bind_e h
      refine callRS (As := [.long (p2.toInt64), .long 0, .long 1]) (rest := []) (v0 := .int v5) hx hb hml hown hg (c_X9_in l D cy (p2.toInt64) (0 : Int64) (1 : Int64) v5 hv5) q_1016 q_1014 q_63 q_1015 hd_X9_in ⟨(Nat.le_of_ble_eq_true rfl), (Nat.le_of_ble_eq_true rfl)⟩ hK hP [] rfl rfl rfl rfl hl.1 rfl (Nat.le_of_ble_eq_true rfl) dX9_post_24 ?_
      refine lv_if_ne (tgt := 32) hx hb dX9_post_27 (by decide) (fun c6 => ?_) (fun c6 => ?_)
      · have h := it_f c6 h
        refine lv_bipush (v := (-4)) hx hb dX9_post_32 kB_m4 ?_
        refine lv_istore (lv' := [(4, .int (-4)), (0, .ref a_t), (1, .int p0), (2, .int p1), (3, .int p2)]) hx hb dX9_post_34 hl (by decide) rfl (fun ls hl => ?_)
        refine lv_iconst (v := (-1)) hx hb dX9_post_36 kI_m1 ?_
        refine lv_istore (lv' := [(5, .int (-1)), (4, .int (-4)), (0, .ref a_t), (1, .int p0), (2, .int p1), (3, .int p2)]) hx hb dX9_post_37 hl (by decide) rfl (fun ls hl => ?_)
        refine lv_aload_n hx hb dX9_post_39 rfl (lv_at hl 2 rfl) ?_
        obtain ⟨v7, hv7, h⟩ := bind_e h
        refine callMV (As := []) (rest := []) (wr := []) (w2 := [(a_t, .inr (9, [.ref a_t_now, g_t_tape, g_t_typed, g_t_place, g_t_isFault, g_t_readLaw, g_t_read, g_t_undone, g_t_undos, .ref a_t_aside, g_t_coat, g_t_bestCoats, g_t_bestStand, g_t_bestPaint, g_t_kept, g_t_keptUndos, g_t_isKept, g_t_lanes, g_t_sizes, g_t_items, g_t_moved])), (a_t_now, .inl (cy 0, 24, .inl t_now)), (a_t_aside, .inl (cy 0, 24, .inl v7))]) hx hb hml hown hg (c_X9_asides l D cy a_t a_t_now a_t_aside _ (g_t_tape) (g_t_typed) (g_t_place) (g_t_isFault) (g_t_readLaw) (g_t_read) (g_t_undone) (g_t_undos) (g_t_coat) (g_t_bestCoats) (g_t_bestStand) (g_t_bestPaint) (g_t_kept) (g_t_keptUndos) (g_t_isKept) (g_t_lanes) (g_t_sizes) (g_t_items) (g_t_moved) t_now t_aside F v7 hv7) q_1192 q_1189 q_63 q_1191 q_45 hd_X9_asides ⟨(Nat.le_of_ble_eq_true rfl), (Nat.le_of_ble_eq_true rfl)⟩ hK hP hD hS hA [0, 1, 2] [] rfl rfl rfl rfl (by decide) [0, 1, 2] rfl rfl 0 9 rfl rfl rfl rfl rfl rfl hl.1 rfl rfl (Nat.le_of_ble_eq_true rfl) dX9_post_40 (fun H locs hP hD hS => ?_)
        refine lv_iconst (v := 0) hx hb dX9_post_43 kI_0 ?_
        refine lv_istore (lv' := [(6, .int 0), (5, .int (-1)), (4, .int (-4)), (0, .ref a_t), (1, .int p0), (2, .int p1), (3, .int p2)]) hx hb dX9_post_44 hl (by decide) rfl (fun ls hl => ?_)
        obtain ⟨k16, hk16, h⟩ := kap (fun z => m_X9_post_L46 p0 p1 F v7 z F 0 (-1) (-4) t_now) h
        have J16 : ∀ (x12 : Int32) (x13 : Int32) (w14 : Nat → Int32) (H : Heap) (locs : List Loc) (ls : Array Slot), va_P D vwCl [(a_t, .inr (9, [.ref a_t_now, g_t_tape, g_t_typed, g_t_place, g_t_isFault, g_t_readLaw, g_t_read, g_t_undone, g_t_undos, .ref a_t_aside, g_t_coat, g_t_bestCoats, g_t_bestStand, g_t_bestPaint, g_t_kept, g_t_keptUndos, g_t_isKept, g_t_lanes, g_t_sizes, g_t_items, g_t_moved])), (a_t_now, .inl (cy 0, 24, .inl w14)), (a_t_aside, .inl (cy 0, 24, .inl v7))] H → va_D A [(a_t, .inr (9, [.ref a_t_now, g_t_tape, g_t_typed, g_t_place, g_t_isFault, g_t_readLaw, g_t_read, g_t_undone, g_t_undos, .ref a_t_aside, g_t_coat, g_t_bestCoats, g_t_bestStand, g_t_bestPaint, g_t_kept, g_t_keptUndos, g_t_isKept, g_t_lanes, g_t_sizes, g_t_items, g_t_moved])), (a_t_now, .inl (cy 0, 24, .inl w14)), (a_t_aside, .inl (cy 0, 24, .inl v7))] → va_S A s.heap H locs → lv_has ls 8 [(5, .int x12), (4, .int x13), (3, .int p2)] → k16 x12 x13 w14 = some out → W p l e (rmG 7 156) s m [.ref a_t, .int p0, .int p1, .int p2].toArray below meth c H locs 0 0 QQ (F0 m 126 ls []) := by
          intro x12 x13 w14 H locs ls hP hD hS hl h
          rw [hk16] at h
          refine lv_iload_n hx hb dX9_post_126 rfl (lv_at hl 2 rfl) ?_
          refine lv_if_ne (tgt := 135) hx hb dX9_post_127 (by decide) (fun c15 => ?_) (fun c15 => ?_)
          · have h := it_f c15 h
            refine lv_iload hx hb dX9_post_135 (lv_at hl 0 rfl) ?_
            exact hret _ _ _ _ ls 137 dX9_post_137 rfl (by rw [← Option.some.inj h]) (by rw [← Option.some.inj h]) hP hD hS
          · have h := it_t c15 h
            refine lv_iload hx hb dX9_post_130 (lv_at hl 1 rfl) ?_
            refine lv_goto (tgt := 137) hx hb dX9_post_132 (by decide) ?_
            exact hret _ _ _ _ ls 137 dX9_post_137 rfl (by rw [← Option.some.inj h]) (by rw [← Option.some.inj h]) hP hD hS
        have L17 : ∀ (n17 : Nat) (x8 : Int32) (x9 : Int32) (x10 : Int32) (w11 : Nat → Int32) (H : Heap) (locs : List Loc) (ls : Array Slot), va_P D vwCl [(a_t, .inr (9, [.ref a_t_now, g_t_tape, g_t_typed, g_t_place, g_t_isFault, g_t_readLaw, g_t_read, g_t_undone, g_t_undos, .ref a_t_aside, g_t_coat, g_t_bestCoats, g_t_bestStand, g_t_bestPaint, g_t_kept, g_t_keptUndos, g_t_isKept, g_t_lanes, g_t_sizes, g_t_items, g_t_moved])), (a_t_now, .inl (cy 0, 24, .inl w11)), (a_t_aside, .inl (cy 0, 24, .inl v7))] H → va_D A [(a_t, .inr (9, [.ref a_t_now, g_t_tape, g_t_typed, g_t_place, g_t_isFault, g_t_readLaw, g_t_read, g_t_undone, g_t_undos, .ref a_t_aside, g_t_coat, g_t_bestCoats, g_t_bestStand, g_t_bestPaint, g_t_kept, g_t_keptUndos, g_t_isKept, g_t_lanes, g_t_sizes, g_t_items, g_t_moved])), (a_t_now, .inl (cy 0, 24, .inl w11)), (a_t_aside, .inl (cy 0, 24, .inl v7))] → va_S A s.heap H locs → lv_has ls 8 [(6, .int x8), (5, .int x9), (4, .int x10), (0, .ref a_t), (1, .int p0), (2, .int p1), (3, .int p2)] → m_X9_post_L46 p0 p1 F v7 k16 n17 x8 x9 x10 w11 = some out → W p l e (rmG 7 156) s m [.ref a_t, .int p0, .int p1, .int p2].toArray below meth c H locs 0 0 QQ (F0 m 46 ls []) := by
          intro n17
          induction n17 with
          | zero => intro x8 x9 x10 w11 H locs ls hP hD hS hl h; exact nomatch (show (none : Option (Int32 × (Nat → Int32) × (Nat → Int32))) = some out from h)
          | succ n17 ih =>
              intro x8 x9 x10 w11 H locs ls hP hD hS hl h
              have h : m_X9_post_L46s p0 p1 F v7 k16 (m_X9_post_L46 p0 p1 F v7 k16 n17) x8 x9 x10 w11 = some out := h
              unfold m_X9_post_L46s at h
              refine lv_iload hx hb dX9_post_46 (lv_at hl 0 rfl) ?_
              refine lv_bipush (v := 12) hx hb dX9_post_48 kB_12 ?_
              refine lv_icmp_ge (tgt := 126) hx hb dX9_post_50 (by decide) (fun c19 => ?_) (fun c19 => ?_)
              · have h := it_t c19 h
                exact J16 x9 x10 w11 _ _ _ hP hD hS (lv_sub hl [1, 2, 6] rfl) h
              · have h := it_f c19 h
                refine lv_aload_n hx hb dX9_post_53 rfl (lv_at hl 3 rfl) ?_
                refine lv_iload_n hx hb dX9_post_54 rfl (lv_at hl 4 rfl) ?_
                refine lv_iload hx hb dX9_post_55 (lv_at hl 0 rfl) ?_
                obtain ⟨v20, hv20, h⟩ := bind_e h
                refine callRV (As := [.int p0, .int x8]) (rest := []) (v0 := .int v20) hx hb hml hown hg (c_X9_mayBe l D cy a_t a_t_now (g_t_tape) (g_t_typed) (g_t_place) (g_t_isFault) (g_t_readLaw) (g_t_read) (g_t_undone) (g_t_undos) (.ref a_t_aside) (g_t_coat) (g_t_bestCoats) (g_t_bestStand) (g_t_bestPaint) (g_t_kept) (g_t_keptUndos) (g_t_isKept) (g_t_lanes) (g_t_sizes) (g_t_items) (g_t_moved) w11 p0 x8 F v20 hv20) q_1220 q_1217 q_63 q_1219 q_48 hd_X9_mayBe ⟨(Nat.le_of_ble_eq_true rfl), (Nat.le_of_ble_eq_true rfl)⟩ hK hP [0, 1] rfl 0 9 rfl rfl rfl rfl rfl rfl hl.1 rfl (Nat.le_of_ble_eq_true rfl) dX9_post_57 ?_
                refine lv_if_eq (tgt := 120) hx hb dX9_post_60 (by decide) (fun c21 => ?_) (fun c21 => ?_)
                · have h := it_t c21 h
                  obtain ⟨x22, ex22⟩ : ∃ y : Int32, y = x8 + 1 := ⟨_, rfl⟩
                  have h := bnd_e ex22 h
                  refine lv_iinc (v := x22) (lv' := [(6, .int x22), (5, .int x9), (4, .int x10), (0, .ref a_t), (1, .int p0), (2, .int p1), (3, .int p2)]) hx hb dX9_post_120 hl (k := 0) rfl (inc_e kI_1 ex22) (by decide) rfl (fun ls hl => ?_)
                  refine lv_goto (tgt := 46) hx hb dX9_post_123 (by decide) ?_
                  exact ih x22 x9 x10 w11 _ _ _ hP hD hS (lv_sub hl [0, 1, 2, 3, 4, 5, 6] rfl) h
                · have h := it_f c21 h
                  refine lv_aload_n hx hb dX9_post_63 rfl (lv_at hl 3 rfl) ?_
                  refine lv_iload_n hx hb dX9_post_64 rfl (lv_at hl 4 rfl) ?_
                  refine lv_iload hx hb dX9_post_65 (lv_at hl 0 rfl) ?_
                  obtain ⟨v23, hv23, h⟩ := bind_e h
                  refine callMV (As := [.int p0, .int x8]) (rest := []) (wr := [(a_t_aside, .inl (cy 0, 24, .inl v7))]) (w2 := [(a_t, .inr (9, [.ref a_t_now, g_t_tape, g_t_typed, g_t_place, g_t_isFault, g_t_readLaw, g_t_read, g_t_undone, g_t_undos, .ref a_t_aside, g_t_coat, g_t_bestCoats, g_t_bestStand, g_t_bestPaint, g_t_kept, g_t_keptUndos, g_t_isKept, g_t_lanes, g_t_sizes, g_t_items, g_t_moved])), (a_t_now, .inl (cy 0, 24, .inl v23)), (a_t_aside, .inl (cy 0, 24, .inl v7))]) hx hb hml hown hg (c_X9_goesTo l D cy a_t a_t_now _ (g_t_tape) (g_t_typed) (g_t_place) (g_t_isFault) (g_t_readLaw) (g_t_read) (g_t_undone) (g_t_undos) (.ref a_t_aside) (g_t_coat) (g_t_bestCoats) (g_t_bestStand) (g_t_bestPaint) (g_t_kept) (g_t_keptUndos) (g_t_isKept) (g_t_lanes) (g_t_sizes) (g_t_items) (g_t_moved) w11 p0 x8 v23 hv23) q_1152 q_1149 q_63 q_1151 q_43 hd_X9_goesTo ⟨(Nat.le_of_ble_eq_true rfl), (Nat.le_of_ble_eq_true rfl)⟩ hK hP hD hS hA [0, 1] [2] rfl rfl rfl rfl (by decide) [1, 2, 0] rfl rfl 0 9 rfl rfl rfl rfl rfl rfl hl.1 rfl rfl (Nat.le_of_ble_eq_true rfl) dX9_post_67 (fun H locs hP hD hS => ?_)
                  refine lv_aload_n hx hb dX9_post_70 rfl (lv_at hl 3 rfl) ?_
                  refine lv_iload_n hx hb dX9_post_71 rfl (lv_at hl 5 rfl) ?_
                  obtain ⟨v24, hv24, h⟩ := bind_e h
                  refine callMV (As := [.int p1]) (rest := []) (wr := [(a_t_aside, .inl (cy 0, 24, .inl v7))]) (w2 := [(a_t, .inr (9, [.ref a_t_now, g_t_tape, g_t_typed, g_t_place, g_t_isFault, g_t_readLaw, g_t_read, g_t_undone, g_t_undos, .ref a_t_aside, g_t_coat, g_t_bestCoats, g_t_bestStand, g_t_bestPaint, g_t_kept, g_t_keptUndos, g_t_isKept, g_t_lanes, g_t_sizes, g_t_items, g_t_moved])), (a_t_now, .inl (cy 0, 24, .inl v24)), (a_t_aside, .inl (cy 0, 24, .inl v7))]) hx hb hml hown hg (c_X9_goesOn l D cy a_t a_t_now _ (g_t_tape) (g_t_typed) (g_t_place) (g_t_isFault) (g_t_readLaw) (g_t_read) (g_t_undone) (g_t_undos) (.ref a_t_aside) (g_t_coat) (g_t_bestCoats) (g_t_bestStand) (g_t_bestPaint) (g_t_kept) (g_t_keptUndos) (g_t_isKept) (g_t_lanes) (g_t_sizes) (g_t_items) (g_t_moved) v23 p1 F v24 hv24) q_1196 q_1193 q_63 q_1195 q_46 hd_X9_goesOn ⟨(Nat.le_of_ble_eq_true rfl), (Nat.le_of_ble_eq_true rfl)⟩ hK hP hD hS hA [0, 1] [2] rfl rfl rfl rfl (by decide) [1, 2, 0] rfl rfl 0 9 rfl rfl rfl rfl rfl rfl hl.1 rfl rfl (Nat.le_of_ble_eq_true rfl) dX9_post_72 (fun H locs hP hD hS => ?_)
                  refine lv_aload_n hx hb dX9_post_75 rfl (lv_at hl 3 rfl) ?_
                  obtain ⟨v25, hv25, h⟩ := bind_e h
                  refine callRV (As := []) (rest := []) (v0 := .int v25) hx hb hml hown hg (c_X9_standing l D cy a_t a_t_now (g_t_tape) (g_t_typed) (g_t_place) (g_t_isFault) (g_t_readLaw) (g_t_read) (g_t_undone) (g_t_undos) (.ref a_t_aside) (g_t_coat) (g_t_bestCoats) (g_t_bestStand) (g_t_bestPaint) (g_t_kept) (g_t_keptUndos) (g_t_isKept) (g_t_lanes) (g_t_sizes) (g_t_items) (g_t_moved) v24 F v25 hv25) q_1077 q_1074 q_63 q_1076 q_33 hd_X9_standing ⟨(Nat.le_of_ble_eq_true rfl), (Nat.le_of_ble_eq_true rfl)⟩ hK hP [0, 1] rfl 0 9 rfl rfl rfl rfl rfl rfl hl.1 rfl (Nat.le_of_ble_eq_true rfl) dX9_post_76 ?_
                  obtain ⟨v26, hv26, h⟩ := bind_e h
                  refine callRS (As := [.int v25]) (rest := []) (v0 := .int v26) hx hb hml hown hg (c_X9_many l D cy v25 F v26 hv26) q_1073 q_1071 q_63 q_1072 hd_X9_many ⟨(Nat.le_of_ble_eq_true rfl), (Nat.le_of_ble_eq_true rfl)⟩ hK hP [] rfl rfl rfl rfl hl.1 rfl (Nat.le_of_ble_eq_true rfl) dX9_post_79 ?_
                  refine lv_istore (lv' := [(7, .int v26), (6, .int x8), (5, .int x9), (4, .int x10), (0, .ref a_t), (1, .int p0), (2, .int p1), (3, .int p2)]) hx hb dX9_post_82 hl (by decide) rfl (fun ls hl => ?_)
                  refine lv_aload_n hx hb dX9_post_84 rfl (lv_at hl 4 rfl) ?_
                  obtain ⟨v27, hv27, h⟩ := bind_e h
                  refine callMV (As := []) (rest := []) (wr := []) (w2 := [(a_t, .inr (9, [.ref a_t_now, g_t_tape, g_t_typed, g_t_place, g_t_isFault, g_t_readLaw, g_t_read, g_t_undone, g_t_undos, .ref a_t_aside, g_t_coat, g_t_bestCoats, g_t_bestStand, g_t_bestPaint, g_t_kept, g_t_keptUndos, g_t_isKept, g_t_lanes, g_t_sizes, g_t_items, g_t_moved])), (a_t_now, .inl (cy 0, 24, .inl v27)), (a_t_aside, .inl (cy 0, 24, .inl v7))]) hx hb hml hown hg (c_X9_backs l D cy a_t a_t_now a_t_aside _ (g_t_tape) (g_t_typed) (g_t_place) (g_t_isFault) (g_t_readLaw) (g_t_read) (g_t_undone) (g_t_undos) (g_t_coat) (g_t_bestCoats) (g_t_bestStand) (g_t_bestPaint) (g_t_kept) (g_t_keptUndos) (g_t_isKept) (g_t_lanes) (g_t_sizes) (g_t_items) (g_t_moved) v24 v7 F v27 hv27) q_1200 q_1197 q_63 q_1199 q_47 hd_X9_backs ⟨(Nat.le_of_ble_eq_true rfl), (Nat.le_of_ble_eq_true rfl)⟩ hK hP hD hS hA [0, 1, 2] [] rfl rfl rfl rfl (by decide) [0, 1, 2] rfl rfl 0 9 rfl rfl rfl rfl rfl rfl hl.1 rfl rfl (Nat.le_of_ble_eq_true rfl) dX9_post_85 (fun H locs hP hD hS => ?_)
                  refine lv_iload hx hb dX9_post_88 (lv_at hl 0 rfl) ?_
                  refine lv_iload hx hb dX9_post_90 (lv_at hl 2 rfl) ?_
                  obtain ⟨k32, hk32, h⟩ := jn_e h
                  have J32 : ∀ (x28 : Int32) (H : Heap) (locs : List Loc) (ls : Array Slot), va_P D vwCl [(a_t, .inr (9, [.ref a_t_now, g_t_tape, g_t_typed, g_t_place, g_t_isFault, g_t_readLaw, g_t_read, g_t_undone, g_t_undos, .ref a_t_aside, g_t_coat, g_t_bestCoats, g_t_bestStand, g_t_bestPaint, g_t_kept, g_t_keptUndos, g_t_isKept, g_t_lanes, g_t_sizes, g_t_items, g_t_moved])), (a_t_now, .inl (cy 0, 24, .inl v27)), (a_t_aside, .inl (cy 0, 24, .inl v7))] H → va_D A [(a_t, .inr (9, [.ref a_t_now, g_t_tape, g_t_typed, g_t_place, g_t_isFault, g_t_readLaw, g_t_read, g_t_undone, g_t_undos, .ref a_t_aside, g_t_coat, g_t_bestCoats, g_t_bestStand, g_t_bestPaint, g_t_kept, g_t_keptUndos, g_t_isKept, g_t_lanes, g_t_sizes, g_t_items, g_t_moved])), (a_t_now, .inl (cy 0, 24, .inl v27)), (a_t_aside, .inl (cy 0, 24, .inl v7))] → va_S A s.heap H locs → lv_has ls 8 [(7, .int v26), (6, .int x8), (5, .int x9), (0, .ref a_t), (1, .int p0), (2, .int p1), (3, .int p2)] → k32 x28 = some out → W p l e (rmG 7 156) s m [.ref a_t, .int p0, .int p1, .int p2].toArray below meth c H locs 0 0 QQ (F0 m 102 ls [.int x28]) := by
                    intro x28 H locs ls hP hD hS hl h
                    rw [hk32] at h
                    refine lv_istore (lv' := [(4, .int x28), (7, .int v26), (6, .int x8), (5, .int x9), (0, .ref a_t), (1, .int p0), (2, .int p1), (3, .int p2)]) hx hb dX9_post_102 hl (by decide) rfl (fun ls hl => ?_)
                    refine lv_iload hx hb dX9_post_104 (lv_at hl 1 rfl) ?_
                    refine lv_iload hx hb dX9_post_106 (lv_at hl 3 rfl) ?_
                    refine lv_icmp_le (tgt := 116) hx hb dX9_post_108 (by decide) (fun c29 => ?_) (fun c29 => ?_)
                    · have h := it_t c29 h
                      refine lv_iload hx hb dX9_post_116 (lv_at hl 3 rfl) ?_
                      refine lv_istore (lv' := [(5, .int x9), (4, .int x28), (7, .int v26), (6, .int x8), (0, .ref a_t), (1, .int p0), (2, .int p1), (3, .int p2)]) hx hb dX9_post_118 hl (by decide) rfl (fun ls hl => ?_)
                      obtain ⟨x30, ex30⟩ : ∃ y : Int32, y = x8 + 1 := ⟨_, rfl⟩
                      have h := bnd_e ex30 h
                      refine lv_iinc (v := x30) (lv' := [(6, .int x30), (5, .int x9), (4, .int x28), (7, .int v26), (0, .ref a_t), (1, .int p0), (2, .int p1), (3, .int p2)]) hx hb dX9_post_120 hl (k := 3) rfl (inc_e kI_1 ex30) (by decide) rfl (fun ls hl => ?_)
                      refine lv_goto (tgt := 46) hx hb dX9_post_123 (by decide) ?_
                      exact ih x30 x9 x28 v27 _ _ _ hP hD hS (lv_sub hl [0, 1, 2, 4, 5, 6, 7] rfl) h
                    · have h := it_f c29 h
                      refine lv_iload hx hb dX9_post_111 (lv_at hl 1 rfl) ?_
                      refine lv_goto (tgt := 118) hx hb dX9_post_113 (by decide) ?_
                      refine lv_istore (lv' := [(5, .int v26), (4, .int x28), (7, .int v26), (6, .int x8), (0, .ref a_t), (1, .int p0), (2, .int p1), (3, .int p2)]) hx hb dX9_post_118 hl (by decide) rfl (fun ls hl => ?_)
                      obtain ⟨x31, ex31⟩ : ∃ y : Int32, y = x8 + 1 := ⟨_, rfl⟩
                      have h := bnd_e ex31 h
                      refine lv_iinc (v := x31) (lv' := [(6, .int x31), (5, .int v26), (4, .int x28), (7, .int v26), (0, .ref a_t), (1, .int p0), (2, .int p1), (3, .int p2)]) hx hb dX9_post_120 hl (k := 3) rfl (inc_e kI_1 ex31) (by decide) rfl (fun ls hl => ?_)
                      refine lv_goto (tgt := 46) hx hb dX9_post_123 (by decide) ?_
                      exact ih x31 v26 x28 v27 _ _ _ hP hD hS (lv_sub hl [0, 1, 2, 4, 5, 6, 7] rfl) h
                  refine lv_icmp_le (tgt := 100) hx hb dX9_post_92 (by decide) (fun c33 => ?_) (fun c33 => ?_)
                  · have h := it_t c33 h
                    refine lv_iload hx hb dX9_post_100 (lv_at hl 3 rfl) ?_
                    exact J32 x10 _ _ _ hP hD hS (lv_sub hl [0, 1, 2, 4, 5, 6, 7] rfl) h
                  · have h := it_f c33 h
                    refine lv_iload hx hb dX9_post_95 (lv_at hl 1 rfl) ?_
                    refine lv_goto (tgt := 102) hx hb dX9_post_97 (by decide) ?_
                    exact J32 x8 _ _ _ hP hD hS (lv_sub hl [0, 1, 2, 4, 5, 6, 7] rfl) h
        exact L17 F 0 (-1) (-4) t_now _ _ _ hP hD hS (lv_sub hl [0, 1, 2, 3, 4, 5, 6] rfl) h
      · have h := it_t c6 h
        refine lv_iconst (v := (-1)) hx hb dX9_post_30 kI_m1 ?_
        exact hret _ _ _ _ ls 31 dX9_post_31 rfl (by rw [← Option.some.inj h]) (by rw [← Option.some.inj h]) hP hD hS

def m_X9_safe_L31s (p0 : Int32) (p1 : Int32) (F : Nat) (v5 : (Nat → Int32)) (k11 : Int32 → (Nat → Int32) → Option (Int32 × (Nat → Int32) × (Nat → Int32))) (r13 : Int32 → Int32 → (Nat → Int32) → Option (Int32 × (Nat → Int32) × (Nat → Int32))) (x6 : Int32) (x7 : Int32) (w8 : Nat → Int32) : Option (Int32 × (Nat → Int32) × (Nat → Int32)) := (if 12 ≤ x6 then k11 x7 w8 else (m_X9_mayBe F w8 p0 x6).bind (fun v15 => (if v15 = 0 then bnd (x6 + 1) (fun x17 => r13 x17 x7 w8) else (m_X9_goesTo w8 p0 x6).bind (fun v18 => (m_X9_goesOn F v18 p1).bind (fun v19 => (m_X9_stands v19 p0).bind (fun v20 => (if v20 = 0 then bnd (x7 ||| 0) (fun x22 => (m_X9_backs F v19 v5).bind (fun v23 => bnd (x6 + 1) (fun x24 => r13 x24 x22 v23))) else bnd (x7 ||| (1 <<< (x6 &&& 31))) (fun x25 => (m_X9_backs F v19 v5).bind (fun v26 => bnd (x6 + 1) (fun x27 => r13 x27 x25 v26))))))))))
def m_X9_safe_L31 (p0 : Int32) (p1 : Int32) (F : Nat) (v5 : (Nat → Int32)) (k11 : Int32 → (Nat → Int32) → Option (Int32 × (Nat → Int32) × (Nat → Int32))) : Nat → Int32 → Int32 → (Nat → Int32) → Option (Int32 × (Nat → Int32) × (Nat → Int32))
  | 0 => fun _ _ _ => none
  | nF + 1 => m_X9_safe_L31s p0 p1 F v5 k11 (m_X9_safe_L31 p0 p1 F v5 k11 nF)
def m_X9_safe (F : Nat) (t_now : Nat → Int32) (t_aside : Nat → Int32) (p0 : Int32) (p1 : Int32) : Option (Int32 × (Nat → Int32) × (Nat → Int32)) := (m_X9_isMan t_now p0).bind (fun v1 => (if v1 = 0 then some ((-1), t_now, t_aside) else (m_X9_in (p1.toInt64) (1 : Int64) (40 : Int64)).bind (fun v3 => (if v3 = 0 then some ((-1), t_now, t_aside) else (m_X9_asides F t_now t_aside).bind (fun v5 => m_X9_safe_L31 p0 p1 F v5 (fun (x9 : Int32) (w10 : Nat → Int32) => some (x9, w10, v5)) F 0 0 t_now)))))
set_option maxHeartbeats 4000000 in
set_option maxRecDepth 100000 in
theorem c_X9_safe (l : Launch) (D : va_G) (cy : Nat → ClassId) (a_t : Nat) (a_t_now : Nat) (a_t_aside : Nat) (sz : Nat) (g_t_tape : Value) (g_t_typed : Value) (g_t_place : Value) (g_t_isFault : Value) (g_t_readLaw : Value) (g_t_read : Value) (g_t_undone : Value) (g_t_undos : Value) (g_t_coat : Value) (g_t_bestCoats : Value) (g_t_bestStand : Value) (g_t_bestPaint : Value) (g_t_kept : Value) (g_t_keptUndos : Value) (g_t_isKept : Value) (g_t_lanes : Value) (g_t_sizes : Value) (g_t_items : Value) (g_t_moved : Value) (t_now : Nat → Int32) (t_aside : Nat → Int32) (p0 : Int32) (p1 : Int32) (F : Nat) (out : Int32 × (Nat → Int32) × (Nat → Int32)) (h : m_X9_safe F t_now t_aside p0 p1 = some out) : MetM l D cy yX9_safe cX9_safe 5 (some .int) (rmG 7 156) [.ref a_t, .int p0, .int p1] sz [(a_t, .inr (9, [.ref a_t_now, g_t_tape, g_t_typed, g_t_place, g_t_isFault, g_t_readLaw, g_t_read, g_t_undone, g_t_undos, .ref a_t_aside, g_t_coat, g_t_bestCoats, g_t_bestStand, g_t_bestPaint, g_t_kept, g_t_keptUndos, g_t_isKept, g_t_lanes, g_t_sizes, g_t_items, g_t_moved])), (a_t_now, .inl (cy 0, 24, .inl t_now)), (a_t_aside, .inl (cy 0, 24, .inl t_aside))] (some (.int out.1)) [(a_t, .inr (9, [.ref a_t_now, g_t_tape, g_t_typed, g_t_place, g_t_isFault, g_t_readLaw, g_t_read, g_t_undone, g_t_undos, .ref a_t_aside, g_t_coat, g_t_bestCoats, g_t_bestStand, g_t_bestPaint, g_t_kept, g_t_keptUndos, g_t_isKept, g_t_lanes, g_t_sizes, g_t_items, g_t_moved])), (a_t_now, .inl (cy 0, 24, .inl out.2.1)), (a_t_aside, .inl (cy 0, 24, .inl out.2.2))] := by
  refine startMi (own := RX9) (by decide) rfl (Nat.le_of_ble_eq_true rfl) ?_
  intro p e s m below meth c QQ A hx hb hml hown hg hK hP hD hS hA hret ls hl
  have hl : lv_has ls 5 [(0, .ref a_t), (1, .int p0), (2, .int p1)] := hl
  unfold m_X9_safe at h
  refine lv_aload_n hx hb dX9_safe_0 rfl (lv_at hl 0 rfl) ?_
  refine lv_iload_n hx hb dX9_safe_1 rfl (lv_at hl 1 rfl) ?_
  obtain ⟨v1, hv1, h⟩ := bind_e h
  refine callRV (As := [.int p0]) (rest := []) (v0 := .int v1) hx hb hml hown hg (c_X9_isMan l D cy a_t a_t_now (g_t_tape) (g_t_typed) (g_t_place) (g_t_isFault) (g_t_readLaw) (g_t_read) (g_t_undone) (g_t_undos) (.ref a_t_aside) (g_t_coat) (g_t_bestCoats) (g_t_bestStand) (g_t_bestPaint) (g_t_kept) (g_t_keptUndos) (g_t_isKept) (g_t_lanes) (g_t_sizes) (g_t_items) (g_t_moved) t_now p0 v1 hv1) q_1051 q_1048 q_63 q_1050 q_28 hd_X9_isMan ⟨(Nat.le_of_ble_eq_true rfl), (Nat.le_of_ble_eq_true rfl)⟩ hK hP [0, 1] rfl 0 9 rfl rfl rfl rfl rfl rfl hl.1 rfl (Nat.le_of_ble_eq_true rfl) dX9_safe_2 ?_
  refine lv_if_eq (tgt := 20) hx hb dX9_safe_5 (by decide) (fun c2 => ?_) (fun c2 => ?_)
  · have h := it_t c2 h
    refine lv_iconst (v := (-1)) hx hb dX9_safe_20 kI_m1 ?_
    exact hret _ _ _ _ ls 21 dX9_safe_21 rfl (by rw [← Option.some.inj h]) (by rw [← Option.some.inj h]) hP hD hS
  · have h := it_f c2 h
    refine lv_iload_n hx hb dX9_safe_8 rfl (lv_at hl 2 rfl) ?_
    refine lv_i2l (v := p1.toInt64) hx hb dX9_safe_9 rfl ?_
    refine lv_lconst (v := 1) hx hb dX9_safe_10 kL_1 ?_
    refine lv_ldc2 (v := 40) hx hb hown (hg _ q_1140) dX9_safe_11 ?_
    obtain ⟨v3, hv3, h⟩ := bind_e h
    refine callRS (As := [.long (p1.toInt64), .long 1, .long 40]) (rest := []) (v0 := .int v3) hx hb hml hown hg (c_X9_in l D cy (p1.toInt64) (1 : Int64) (40 : Int64) v3 hv3) q_1016 q_1014 q_63 q_1015 hd_X9_in ⟨(Nat.le_of_ble_eq_true rfl), (Nat.le_of_ble_eq_true rfl)⟩ hK hP [] rfl rfl rfl rfl hl.1 rfl (Nat.le_of_ble_eq_true rfl) dX9_safe_14 ?_
    refine lv_if_ne (tgt := 22) hx hb dX9_safe_17 (by decide) (fun c4 => ?_) (fun c4 => ?_)
    · have h := it_f c4 h
      refine lv_iconst (v := 0) hx hb dX9_safe_22 kI_0 ?_
      refine lv_istore_n (lv' := [(3, .int 0), (0, .ref a_t), (1, .int p0), (2, .int p1)]) hx hb dX9_safe_23 rfl hl (by decide) rfl (fun ls hl => ?_)
      refine lv_aload_n hx hb dX9_safe_24 rfl (lv_at hl 1 rfl) ?_
      obtain ⟨v5, hv5, h⟩ := bind_e h
      refine callMV (As := []) (rest := []) (wr := []) (w2 := [(a_t, .inr (9, [.ref a_t_now, g_t_tape, g_t_typed, g_t_place, g_t_isFault, g_t_readLaw, g_t_read, g_t_undone, g_t_undos, .ref a_t_aside, g_t_coat, g_t_bestCoats, g_t_bestStand, g_t_bestPaint, g_t_kept, g_t_keptUndos, g_t_isKept, g_t_lanes, g_t_sizes, g_t_items, g_t_moved])), (a_t_now, .inl (cy 0, 24, .inl t_now)), (a_t_aside, .inl (cy 0, 24, .inl v5))]) hx hb hml hown hg (c_X9_asides l D cy a_t a_t_now a_t_aside _ (g_t_tape) (g_t_typed) (g_t_place) (g_t_isFault) (g_t_readLaw) (g_t_read) (g_t_undone) (g_t_undos) (g_t_coat) (g_t_bestCoats) (g_t_bestStand) (g_t_bestPaint) (g_t_kept) (g_t_keptUndos) (g_t_isKept) (g_t_lanes) (g_t_sizes) (g_t_items) (g_t_moved) t_now t_aside F v5 hv5) q_1192 q_1189 q_63 q_1191 q_45 hd_X9_asides ⟨(Nat.le_of_ble_eq_true rfl), (Nat.le_of_ble_eq_true rfl)⟩ hK hP hD hS hA [0, 1, 2] [] rfl rfl rfl rfl (by decide) [0, 1, 2] rfl rfl 0 9 rfl rfl rfl rfl rfl rfl hl.1 rfl rfl (Nat.le_of_ble_eq_true rfl) dX9_safe_25 (fun H locs hP hD hS => ?_)
      refine lv_iconst (v := 0) hx hb dX9_safe_28 kI_0 ?_
      refine lv_istore (lv' := [(4, .int 0), (3, .int 0), (0, .ref a_t), (1, .int p0), (2, .int p1)]) hx hb dX9_safe_29 hl (by decide) rfl (fun ls hl => ?_)
      obtain ⟨k11, hk11, h⟩ := kap (fun z => m_X9_safe_L31 p0 p1 F v5 z F 0 0 t_now) h
      have J11 : ∀ (x9 : Int32) (w10 : Nat → Int32) (H : Heap) (locs : List Loc) (ls : Array Slot), va_P D vwCl [(a_t, .inr (9, [.ref a_t_now, g_t_tape, g_t_typed, g_t_place, g_t_isFault, g_t_readLaw, g_t_read, g_t_undone, g_t_undos, .ref a_t_aside, g_t_coat, g_t_bestCoats, g_t_bestStand, g_t_bestPaint, g_t_kept, g_t_keptUndos, g_t_isKept, g_t_lanes, g_t_sizes, g_t_items, g_t_moved])), (a_t_now, .inl (cy 0, 24, .inl w10)), (a_t_aside, .inl (cy 0, 24, .inl v5))] H → va_D A [(a_t, .inr (9, [.ref a_t_now, g_t_tape, g_t_typed, g_t_place, g_t_isFault, g_t_readLaw, g_t_read, g_t_undone, g_t_undos, .ref a_t_aside, g_t_coat, g_t_bestCoats, g_t_bestStand, g_t_bestPaint, g_t_kept, g_t_keptUndos, g_t_isKept, g_t_lanes, g_t_sizes, g_t_items, g_t_moved])), (a_t_now, .inl (cy 0, 24, .inl w10)), (a_t_aside, .inl (cy 0, 24, .inl v5))] → va_S A s.heap H locs → lv_has ls 5 [(3, .int x9)] → k11 x9 w10 = some out → W p l e (rmG 7 156) s m [.ref a_t, .int p0, .int p1].toArray below meth c H locs 0 0 QQ (F0 m 89 ls []) := by
        intro x9 w10 H locs ls hP hD hS hl h
        rw [hk11] at h
        refine lv_iload_n hx hb dX9_safe_89 rfl (lv_at hl 0 rfl) ?_
        exact hret _ _ _ _ ls 90 dX9_safe_90 rfl (by rw [← Option.some.inj h]) (by rw [← Option.some.inj h]) hP hD hS
      have L12 : ∀ (n12 : Nat) (x6 : Int32) (x7 : Int32) (w8 : Nat → Int32) (H : Heap) (locs : List Loc) (ls : Array Slot), va_P D vwCl [(a_t, .inr (9, [.ref a_t_now, g_t_tape, g_t_typed, g_t_place, g_t_isFault, g_t_readLaw, g_t_read, g_t_undone, g_t_undos, .ref a_t_aside, g_t_coat, g_t_bestCoats, g_t_bestStand, g_t_bestPaint, g_t_kept, g_t_keptUndos, g_t_isKept, g_t_lanes, g_t_sizes, g_t_items, g_t_moved])), (a_t_now, .inl (cy 0, 24, .inl w8)), (a_t_aside, .inl (cy 0, 24, .inl v5))] H → va_D A [(a_t, .inr (9, [.ref a_t_now, g_t_tape, g_t_typed, g_t_place, g_t_isFault, g_t_readLaw, g_t_read, g_t_undone, g_t_undos, .ref a_t_aside, g_t_coat, g_t_bestCoats, g_t_bestStand, g_t_bestPaint, g_t_kept, g_t_keptUndos, g_t_isKept, g_t_lanes, g_t_sizes, g_t_items, g_t_moved])), (a_t_now, .inl (cy 0, 24, .inl w8)), (a_t_aside, .inl (cy 0, 24, .inl v5))] → va_S A s.heap H locs → lv_has ls 5 [(4, .int x6), (3, .int x7), (0, .ref a_t), (1, .int p0), (2, .int p1)] → m_X9_safe_L31 p0 p1 F v5 k11 n12 x6 x7 w8 = some out → W p l e (rmG 7 156) s m [.ref a_t, .int p0, .int p1].toArray below meth c H locs 0 0 QQ (F0 m 31 ls []) := by
        intro n12
        induction n12 with
        | zero => intro x6 x7 w8 H locs ls hP hD hS hl h; exact nomatch (show (none : Option (Int32 × (Nat → Int32) × (Nat → Int32))) = some out from h)
        | succ n12 ih =>
            intro x6 x7 w8 H locs ls hP hD hS hl h
            have h : m_X9_safe_L31s p0 p1 F v5 k11 (m_X9_safe_L31 p0 p1 F v5 k11 n12) x6 x7 w8 = some out := h
            unfold m_X9_safe_L31s at h
            refine lv_iload hx hb dX9_safe_31 (lv_at hl 0 rfl) ?_
            refine lv_bipush (v := 12) hx hb dX9_safe_33 kB_12 ?_
            refine lv_icmp_ge (tgt := 89) hx hb dX9_safe_35 (by decide) (fun c14 => ?_) (fun c14 => ?_)
            · have h := it_t c14 h
              exact J11 x7 w8 _ _ _ hP hD hS (lv_sub hl [1] rfl) h
            · have h := it_f c14 h
              refine lv_aload_n hx hb dX9_safe_38 rfl (lv_at hl 2 rfl) ?_
              refine lv_iload_n hx hb dX9_safe_39 rfl (lv_at hl 3 rfl) ?_
              refine lv_iload hx hb dX9_safe_40 (lv_at hl 0 rfl) ?_
              obtain ⟨v15, hv15, h⟩ := bind_e h
              refine callRV (As := [.int p0, .int x6]) (rest := []) (v0 := .int v15) hx hb hml hown hg (c_X9_mayBe l D cy a_t a_t_now (g_t_tape) (g_t_typed) (g_t_place) (g_t_isFault) (g_t_readLaw) (g_t_read) (g_t_undone) (g_t_undos) (.ref a_t_aside) (g_t_coat) (g_t_bestCoats) (g_t_bestStand) (g_t_bestPaint) (g_t_kept) (g_t_keptUndos) (g_t_isKept) (g_t_lanes) (g_t_sizes) (g_t_items) (g_t_moved) w8 p0 x6 F v15 hv15) q_1220 q_1217 q_63 q_1219 q_48 hd_X9_mayBe ⟨(Nat.le_of_ble_eq_true rfl), (Nat.le_of_ble_eq_true rfl)⟩ hK hP [0, 1] rfl 0 9 rfl rfl rfl rfl rfl rfl hl.1 rfl (Nat.le_of_ble_eq_true rfl) dX9_safe_42 ?_
              refine lv_if_eq (tgt := 83) hx hb dX9_safe_45 (by decide) (fun c16 => ?_) (fun c16 => ?_)
              · have h := it_t c16 h
                obtain ⟨x17, ex17⟩ : ∃ y : Int32, y = x6 + 1 := ⟨_, rfl⟩
                have h := bnd_e ex17 h
                refine lv_iinc (v := x17) (lv' := [(4, .int x17), (3, .int x7), (0, .ref a_t), (1, .int p0), (2, .int p1)]) hx hb dX9_safe_83 hl (k := 0) rfl (inc_e kI_1 ex17) (by decide) rfl (fun ls hl => ?_)
                refine lv_goto (tgt := 31) hx hb dX9_safe_86 (by decide) ?_
                exact ih x17 x7 w8 _ _ _ hP hD hS (lv_sub hl [0, 1, 2, 3, 4] rfl) h
              · have h := it_f c16 h
                refine lv_aload_n hx hb dX9_safe_48 rfl (lv_at hl 2 rfl) ?_
                refine lv_iload_n hx hb dX9_safe_49 rfl (lv_at hl 3 rfl) ?_
                refine lv_iload hx hb dX9_safe_50 (lv_at hl 0 rfl) ?_
                obtain ⟨v18, hv18, h⟩ := bind_e h
                refine callMV (As := [.int p0, .int x6]) (rest := []) (wr := [(a_t_aside, .inl (cy 0, 24, .inl v5))]) (w2 := [(a_t, .inr (9, [.ref a_t_now, g_t_tape, g_t_typed, g_t_place, g_t_isFault, g_t_readLaw, g_t_read, g_t_undone, g_t_undos, .ref a_t_aside, g_t_coat, g_t_bestCoats, g_t_bestStand, g_t_bestPaint, g_t_kept, g_t_keptUndos, g_t_isKept, g_t_lanes, g_t_sizes, g_t_items, g_t_moved])), (a_t_now, .inl (cy 0, 24, .inl v18)), (a_t_aside, .inl (cy 0, 24, .inl v5))]) hx hb hml hown hg (c_X9_goesTo l D cy a_t a_t_now _ (g_t_tape) (g_t_typed) (g_t_place) (g_t_isFault) (g_t_readLaw) (g_t_read) (g_t_undone) (g_t_undos) (.ref a_t_aside) (g_t_coat) (g_t_bestCoats) (g_t_bestStand) (g_t_bestPaint) (g_t_kept) (g_t_keptUndos) (g_t_isKept) (g_t_lanes) (g_t_sizes) (g_t_items) (g_t_moved) w8 p0 x6 v18 hv18) q_1152 q_1149 q_63 q_1151 q_43 hd_X9_goesTo ⟨(Nat.le_of_ble_eq_true rfl), (Nat.le_of_ble_eq_true rfl)⟩ hK hP hD hS hA [0, 1] [2] rfl rfl rfl rfl (by decide) [1, 2, 0] rfl rfl 0 9 rfl rfl rfl rfl rfl rfl hl.1 rfl rfl (Nat.le_of_ble_eq_true rfl) dX9_safe_52 (fun H locs hP hD hS => ?_)
                refine lv_aload_n hx hb dX9_safe_55 rfl (lv_at hl 2 rfl) ?_
                refine lv_iload_n hx hb dX9_safe_56 rfl (lv_at hl 4 rfl) ?_
                obtain ⟨v19, hv19, h⟩ := bind_e h
                refine callMV (As := [.int p1]) (rest := []) (wr := [(a_t_aside, .inl (cy 0, 24, .inl v5))]) (w2 := [(a_t, .inr (9, [.ref a_t_now, g_t_tape, g_t_typed, g_t_place, g_t_isFault, g_t_readLaw, g_t_read, g_t_undone, g_t_undos, .ref a_t_aside, g_t_coat, g_t_bestCoats, g_t_bestStand, g_t_bestPaint, g_t_kept, g_t_keptUndos, g_t_isKept, g_t_lanes, g_t_sizes, g_t_items, g_t_moved])), (a_t_now, .inl (cy 0, 24, .inl v19)), (a_t_aside, .inl (cy 0, 24, .inl v5))]) hx hb hml hown hg (c_X9_goesOn l D cy a_t a_t_now _ (g_t_tape) (g_t_typed) (g_t_place) (g_t_isFault) (g_t_readLaw) (g_t_read) (g_t_undone) (g_t_undos) (.ref a_t_aside) (g_t_coat) (g_t_bestCoats) (g_t_bestStand) (g_t_bestPaint) (g_t_kept) (g_t_keptUndos) (g_t_isKept) (g_t_lanes) (g_t_sizes) (g_t_items) (g_t_moved) v18 p1 F v19 hv19) q_1196 q_1193 q_63 q_1195 q_46 hd_X9_goesOn ⟨(Nat.le_of_ble_eq_true rfl), (Nat.le_of_ble_eq_true rfl)⟩ hK hP hD hS hA [0, 1] [2] rfl rfl rfl rfl (by decide) [1, 2, 0] rfl rfl 0 9 rfl rfl rfl rfl rfl rfl hl.1 rfl rfl (Nat.le_of_ble_eq_true rfl) dX9_safe_57 (fun H locs hP hD hS => ?_)
                refine lv_iload_n hx hb dX9_safe_60 rfl (lv_at hl 1 rfl) ?_
                refine lv_aload_n hx hb dX9_safe_61 rfl (lv_at hl 2 rfl) ?_
                refine lv_iload_n hx hb dX9_safe_62 rfl (lv_at hl 3 rfl) ?_
                obtain ⟨v20, hv20, h⟩ := bind_e h
                refine callRV (As := [.int p0]) (rest := [.int x7]) (v0 := .int v20) hx hb hml hown hg (c_X9_stands l D cy a_t a_t_now (g_t_tape) (g_t_typed) (g_t_place) (g_t_isFault) (g_t_readLaw) (g_t_read) (g_t_undone) (g_t_undos) (.ref a_t_aside) (g_t_coat) (g_t_bestCoats) (g_t_bestStand) (g_t_bestPaint) (g_t_kept) (g_t_keptUndos) (g_t_isKept) (g_t_lanes) (g_t_sizes) (g_t_items) (g_t_moved) v19 p0 v20 hv20) q_1067 q_1064 q_63 q_1066 q_32 hd_X9_stands ⟨(Nat.le_of_ble_eq_true rfl), (Nat.le_of_ble_eq_true rfl)⟩ hK hP [0, 1] rfl 0 9 rfl rfl rfl rfl rfl rfl hl.1 rfl (Nat.le_of_ble_eq_true rfl) dX9_safe_63 ?_
                refine lv_if_eq (tgt := 76) hx hb dX9_safe_66 (by decide) (fun c21 => ?_) (fun c21 => ?_)
                · have h := it_t c21 h
                  refine lv_iconst (v := 0) hx hb dX9_safe_76 kI_0 ?_
                  refine lv_ior hx hb dX9_safe_77 ?_
                  refine lv_topi (fun x22 ex22 => ?_)
                  have h := bnd_e ex22 h
                  refine lv_istore_n (lv' := [(3, .int x22), (4, .int x6), (0, .ref a_t), (1, .int p0), (2, .int p1)]) hx hb dX9_safe_78 rfl hl (by decide) rfl (fun ls hl => ?_)
                  refine lv_aload_n hx hb dX9_safe_79 rfl (lv_at hl 2 rfl) ?_
                  obtain ⟨v23, hv23, h⟩ := bind_e h
                  refine callMV (As := []) (rest := []) (wr := []) (w2 := [(a_t, .inr (9, [.ref a_t_now, g_t_tape, g_t_typed, g_t_place, g_t_isFault, g_t_readLaw, g_t_read, g_t_undone, g_t_undos, .ref a_t_aside, g_t_coat, g_t_bestCoats, g_t_bestStand, g_t_bestPaint, g_t_kept, g_t_keptUndos, g_t_isKept, g_t_lanes, g_t_sizes, g_t_items, g_t_moved])), (a_t_now, .inl (cy 0, 24, .inl v23)), (a_t_aside, .inl (cy 0, 24, .inl v5))]) hx hb hml hown hg (c_X9_backs l D cy a_t a_t_now a_t_aside _ (g_t_tape) (g_t_typed) (g_t_place) (g_t_isFault) (g_t_readLaw) (g_t_read) (g_t_undone) (g_t_undos) (g_t_coat) (g_t_bestCoats) (g_t_bestStand) (g_t_bestPaint) (g_t_kept) (g_t_keptUndos) (g_t_isKept) (g_t_lanes) (g_t_sizes) (g_t_items) (g_t_moved) v19 v5 F v23 hv23) q_1200 q_1197 q_63 q_1199 q_47 hd_X9_backs ⟨(Nat.le_of_ble_eq_true rfl), (Nat.le_of_ble_eq_true rfl)⟩ hK hP hD hS hA [0, 1, 2] [] rfl rfl rfl rfl (by decide) [0, 1, 2] rfl rfl 0 9 rfl rfl rfl rfl rfl rfl hl.1 rfl rfl (Nat.le_of_ble_eq_true rfl) dX9_safe_80 (fun H locs hP hD hS => ?_)
                  obtain ⟨x24, ex24⟩ : ∃ y : Int32, y = x6 + 1 := ⟨_, rfl⟩
                  have h := bnd_e ex24 h
                  refine lv_iinc (v := x24) (lv' := [(4, .int x24), (3, .int x22), (0, .ref a_t), (1, .int p0), (2, .int p1)]) hx hb dX9_safe_83 hl (k := 1) rfl (inc_e kI_1 ex24) (by decide) rfl (fun ls hl => ?_)
                  refine lv_goto (tgt := 31) hx hb dX9_safe_86 (by decide) ?_
                  exact ih x24 x22 v23 _ _ _ hP hD hS (lv_sub hl [0, 1, 2, 3, 4] rfl) h
                · have h := it_f c21 h
                  refine lv_iconst (v := 1) hx hb dX9_safe_69 kI_1 ?_
                  refine lv_iload hx hb dX9_safe_70 (lv_at hl 0 rfl) ?_
                  refine lv_ishl hx hb dX9_safe_72 ?_
                  refine lv_goto (tgt := 77) hx hb dX9_safe_73 (by decide) ?_
                  refine lv_ior hx hb dX9_safe_77 ?_
                  refine lv_topi (fun x25 ex25 => ?_)
                  have h := bnd_e ex25 h
                  refine lv_istore_n (lv' := [(3, .int x25), (4, .int x6), (0, .ref a_t), (1, .int p0), (2, .int p1)]) hx hb dX9_safe_78 rfl hl (by decide) rfl (fun ls hl => ?_)
                  refine lv_aload_n hx hb dX9_safe_79 rfl (lv_at hl 2 rfl) ?_
                  obtain ⟨v26, hv26, h⟩ := bind_e h
                  refine callMV (As := []) (rest := []) (wr := []) (w2 := [(a_t, .inr (9, [.ref a_t_now, g_t_tape, g_t_typed, g_t_place, g_t_isFault, g_t_readLaw, g_t_read, g_t_undone, g_t_undos, .ref a_t_aside, g_t_coat, g_t_bestCoats, g_t_bestStand, g_t_bestPaint, g_t_kept, g_t_keptUndos, g_t_isKept, g_t_lanes, g_t_sizes, g_t_items, g_t_moved])), (a_t_now, .inl (cy 0, 24, .inl v26)), (a_t_aside, .inl (cy 0, 24, .inl v5))]) hx hb hml hown hg (c_X9_backs l D cy a_t a_t_now a_t_aside _ (g_t_tape) (g_t_typed) (g_t_place) (g_t_isFault) (g_t_readLaw) (g_t_read) (g_t_undone) (g_t_undos) (g_t_coat) (g_t_bestCoats) (g_t_bestStand) (g_t_bestPaint) (g_t_kept) (g_t_keptUndos) (g_t_isKept) (g_t_lanes) (g_t_sizes) (g_t_items) (g_t_moved) v19 v5 F v26 hv26) q_1200 q_1197 q_63 q_1199 q_47 hd_X9_backs ⟨(Nat.le_of_ble_eq_true rfl), (Nat.le_of_ble_eq_true rfl)⟩ hK hP hD hS hA [0, 1, 2] [] rfl rfl rfl rfl (by decide) [0, 1, 2] rfl rfl 0 9 rfl rfl rfl rfl rfl rfl hl.1 rfl rfl (Nat.le_of_ble_eq_true rfl) dX9_safe_80 (fun H locs hP hD hS => ?_)
                  obtain ⟨x27, ex27⟩ : ∃ y : Int32, y = x6 + 1 := ⟨_, rfl⟩
                  have h := bnd_e ex27 h
                  refine lv_iinc (v := x27) (lv' := [(4, .int x27), (3, .int x25), (0, .ref a_t), (1, .int p0), (2, .int p1)]) hx hb dX9_safe_83 hl (k := 1) rfl (inc_e kI_1 ex27) (by decide) rfl (fun ls hl => ?_)
                  refine lv_goto (tgt := 31) hx hb dX9_safe_86 (by decide) ?_
                  exact ih x27 x25 v26 _ _ _ hP hD hS (lv_sub hl [0, 1, 2, 3, 4] rfl) h
      exact L12 F 0 0 t_now _ _ _ hP hD hS (lv_sub hl [0, 1, 2, 3, 4] rfl) h
    · have h := it_t c4 h
      refine lv_iconst (v := (-1)) hx hb dX9_safe_20 kI_m1 ?_
      exact hret _ _ _ _ ls 21 dX9_safe_21 rfl (by rw [← Option.some.inj h]) (by rw [← Option.some.inj h]) hP hD hS

def m_X9_change_L54s (p0 : Int32) (F : Nat) (v5 : (Nat → Int32)) (x6 : Int32) (k28 : Int32 → Int32 → (Nat → Int32) → Option (Int32 × (Nat → Int32) × (Nat → Int32))) (r30 : Int32 → Int32 → Int32 → (Nat → Int32) → Option (Int32 × (Nat → Int32) × (Nat → Int32))) (x20 : Int32) (x21 : Int32) (x22 : Int32) (w23 : Nat → Int32) : Option (Int32 × (Nat → Int32) × (Nat → Int32)) := (if (w23 0) ≤ x20 then k28 x21 x22 w23 else (m_X9_stands w23 x6).bind (fun v32 => (if v32 = 0 then bnd (x20 + 1) (fun x34 => r30 x34 x21 x22 w23) else (m_X9_stands w23 x20).bind (fun v35 => (if v35 = 0 then bnd (x20 + 1) (fun x37 => r30 x37 x21 x22 w23) else chk ((6 + (3 * x20)) + 2) 24 ((m_X9_goesTo w23 x6 (v5 ((6 + (3 * x20)) + 2).toNatClampNeg)).bind (fun v39 => chk ((6 + (3 * x6)) + 2) 24 ((m_X9_goesTo v39 x20 (v5 ((6 + (3 * x6)) + 2).toNatClampNeg)).bind (fun v41 => (m_X9_goesOn F v41 p0).bind (fun v42 => (m_X9_standing F v42).bind (fun v43 => (m_X9_many F v43).bind (fun v44 => (m_X9_backs F v42 v5).bind (fun v45 => jn (fun (x46 : Int32) => (if v44 ≤ x21 then bnd (x20 + 1) (fun x48 => r30 x48 x21 x46 v45) else bnd (x20 + 1) (fun x49 => r30 x49 v44 x46 v45))) (fun k50 => (if v44 ≤ x21 then k50 x22 else k50 ((10 * x6) + x20))))))))))))))))
def m_X9_change_L54 (p0 : Int32) (F : Nat) (v5 : (Nat → Int32)) (x6 : Int32) (k28 : Int32 → Int32 → (Nat → Int32) → Option (Int32 × (Nat → Int32) × (Nat → Int32))) : Nat → Int32 → Int32 → Int32 → (Nat → Int32) → Option (Int32 × (Nat → Int32) × (Nat → Int32))
  | 0 => fun _ _ _ _ => none
  | nF + 1 => m_X9_change_L54s p0 F v5 x6 k28 (m_X9_change_L54 p0 F v5 x6 k28 nF)
def m_X9_change_L37s (p0 : Int32) (F : Nat) (v5 : (Nat → Int32)) (k15 : Int32 → Int32 → (Nat → Int32) → Option (Int32 × (Nat → Int32) × (Nat → Int32))) (r17 : Int32 → Int32 → Int32 → (Nat → Int32) → Option (Int32 × (Nat → Int32) × (Nat → Int32))) (x6 : Int32) (x7 : Int32) (x8 : Int32) (w9 : Nat → Int32) : Option (Int32 × (Nat → Int32) × (Nat → Int32)) := (if (w9 0) ≤ x6 then k15 x7 x8 w9 else bnd (x6 + 1) (fun x19 => m_X9_change_L54 p0 F v5 x6 (fun (x24 : Int32) (x25 : Int32) (w26 : Nat → Int32) => bnd (x6 + 1) (fun x27 => r17 x27 x24 x25 w26)) F x19 x7 x8 w9))
def m_X9_change_L37 (p0 : Int32) (F : Nat) (v5 : (Nat → Int32)) (k15 : Int32 → Int32 → (Nat → Int32) → Option (Int32 × (Nat → Int32) × (Nat → Int32))) : Nat → Int32 → Int32 → Int32 → (Nat → Int32) → Option (Int32 × (Nat → Int32) × (Nat → Int32))
  | 0 => fun _ _ _ _ => none
  | nF + 1 => m_X9_change_L37s p0 F v5 k15 (m_X9_change_L37 p0 F v5 k15 nF)
def m_X9_change (F : Nat) (t_now : Nat → Int32) (t_aside : Nat → Int32) (p0 : Int32) (p1 : Int32) : Option (Int32 × (Nat → Int32) × (Nat → Int32)) := (m_X9_in (p0.toInt64) (1 : Int64) (40 : Int64)).bind (fun v1 => (if v1 = 0 then some ((-1), t_now, t_aside) else (m_X9_in (p1.toInt64) (0 : Int64) (1 : Int64)).bind (fun v3 => (if v3 = 0 then some ((-1), t_now, t_aside) else (m_X9_asides F t_now t_aside).bind (fun v5 => m_X9_change_L37 p0 F v5 (fun (x10 : Int32) (x11 : Int32) (w12 : Nat → Int32) => (if p1 = 0 then some (x11, w12, v5) else (if x11 = (-4) then some (x11, w12, v5) else some (x10, w12, v5)))) F 0 (-1) (-4) t_now)))))
set_option maxHeartbeats 4000000 in
set_option maxRecDepth 100000 in
theorem c_X9_change (l : Launch) (D : va_G) (cy : Nat → ClassId) (a_t : Nat) (a_t_now : Nat) (a_t_aside : Nat) (sz : Nat) (g_t_tape : Value) (g_t_typed : Value) (g_t_place : Value) (g_t_isFault : Value) (g_t_readLaw : Value) (g_t_read : Value) (g_t_undone : Value) (g_t_undos : Value) (g_t_coat : Value) (g_t_bestCoats : Value) (g_t_bestStand : Value) (g_t_bestPaint : Value) (g_t_kept : Value) (g_t_keptUndos : Value) (g_t_isKept : Value) (g_t_lanes : Value) (g_t_sizes : Value) (g_t_items : Value) (g_t_moved : Value) (t_now : Nat → Int32) (t_aside : Nat → Int32) (p0 : Int32) (p1 : Int32) (F : Nat) (out : Int32 × (Nat → Int32) × (Nat → Int32)) (h : m_X9_change F t_now t_aside p0 p1 = some out) : MetM l D cy yX9_change cX9_change 8 (some .int) (rmG 7 156) [.ref a_t, .int p0, .int p1] sz [(a_t, .inr (9, [.ref a_t_now, g_t_tape, g_t_typed, g_t_place, g_t_isFault, g_t_readLaw, g_t_read, g_t_undone, g_t_undos, .ref a_t_aside, g_t_coat, g_t_bestCoats, g_t_bestStand, g_t_bestPaint, g_t_kept, g_t_keptUndos, g_t_isKept, g_t_lanes, g_t_sizes, g_t_items, g_t_moved])), (a_t_now, .inl (cy 0, 24, .inl t_now)), (a_t_aside, .inl (cy 0, 24, .inl t_aside))] (some (.int out.1)) [(a_t, .inr (9, [.ref a_t_now, g_t_tape, g_t_typed, g_t_place, g_t_isFault, g_t_readLaw, g_t_read, g_t_undone, g_t_undos, .ref a_t_aside, g_t_coat, g_t_bestCoats, g_t_bestStand, g_t_bestPaint, g_t_kept, g_t_keptUndos, g_t_isKept, g_t_lanes, g_t_sizes, g_t_items, g_t_moved])), (a_t_now, .inl (cy 0, 24, .inl out.2.1)), (a_t_aside, .inl (cy 0, 24, .inl out.2.2))] := by
  refine startMi (own := RX9) (by decide) rfl (Nat.le_of_ble_eq_true rfl) ?_
  intro p e s m below meth c QQ A hx hb hml hown hg hK hP hD hS hA hret ls hl
  have hl : lv_has ls 8 [(0, .ref a_t), (1, .int p0), (2, .int p1)] := hl
  unfold m_X9_change at h
  refine lv_iload_n hx hb dX9_change_0 rfl (lv_at hl 1 rfl) ?_
  refine lv_i2l (v := p0.toInt64) hx hb dX9_change_1 rfl ?_
  refine lv_lconst (v := 1) hx hb dX9_change_2 kL_1 ?_
  refine lv_ldc2 (v := 40) hx hb hown (hg _ q_1140) dX9_change_3 ?_
  obtain ⟨v1, hv1, h⟩ := bind_e h
  refine callRS (As := [.long (p0.toInt64), .long 1, .long 40]) (rest := []) (v0 := .int v1) hx hb hml hown hg (c_X9_in l D cy (p0.toInt64) (1 : Int64) (40 : Int64) v1 hv1) q_1016 q_1014 q_63 q_1015 hd_X9_in ⟨(Nat.le_of_ble_eq_true rfl), (Nat.le_of_ble_eq_true rfl)⟩ hK hP [] rfl rfl rfl rfl hl.1 rfl (Nat.le_of_ble_eq_true rfl) dX9_change_6 ?_
  refine lv_if_eq (tgt := 22) hx hb dX9_change_9 (by decide) (fun c2 => ?_) (fun c2 => ?_)
  · have h := it_t c2 h
    refine lv_iconst (v := (-1)) hx hb dX9_change_22 kI_m1 ?_
    exact hret _ _ _ _ ls 23 dX9_change_23 rfl (by rw [← Option.some.inj h]) (by rw [← Option.some.inj h]) hP hD hS
  · have h := it_f c2 h
    refine lv_iload_n hx hb dX9_change_12 rfl (lv_at hl 2 rfl) ?_
    refine lv_i2l (v := p1.toInt64) hx hb dX9_change_13 rfl ?_
    refine lv_lconst (v := 0) hx hb dX9_change_14 kL_0 ?_
    refine lv_lconst (v := 1) hx hb dX9_change_15 kL_1 ?_
    obtain ⟨v3, hv3, h⟩ := bind_e h
    refine callRS (As := [.long (p1.toInt64), .long 0, .long 1]) (rest := []) (v0 := .int v3) hx hb hml hown hg (c_X9_in l D cy (p1.toInt64) (0 : Int64) (1 : Int64) v3 hv3) q_1016 q_1014 q_63 q_1015 hd_X9_in ⟨(Nat.le_of_ble_eq_true rfl), (Nat.le_of_ble_eq_true rfl)⟩ hK hP [] rfl rfl rfl rfl hl.1 rfl (Nat.le_of_ble_eq_true rfl) dX9_change_16 ?_
    refine lv_if_ne (tgt := 24) hx hb dX9_change_19 (by decide) (fun c4 => ?_) (fun c4 => ?_)
    · have h := it_f c4 h
      refine lv_bipush (v := (-4)) hx hb dX9_change_24 kB_m4 ?_
      refine lv_istore_n (lv' := [(3, .int (-4)), (0, .ref a_t), (1, .int p0), (2, .int p1)]) hx hb dX9_change_26 rfl hl (by decide) rfl (fun ls hl => ?_)
      refine lv_iconst (v := (-1)) hx hb dX9_change_27 kI_m1 ?_
      refine lv_istore (lv' := [(4, .int (-1)), (3, .int (-4)), (0, .ref a_t), (1, .int p0), (2, .int p1)]) hx hb dX9_change_28 hl (by decide) rfl (fun ls hl => ?_)
      refine lv_aload_n hx hb dX9_change_30 rfl (lv_at hl 2 rfl) ?_
      obtain ⟨v5, hv5, h⟩ := bind_e h
      refine callMV (As := []) (rest := []) (wr := []) (w2 := [(a_t, .inr (9, [.ref a_t_now, g_t_tape, g_t_typed, g_t_place, g_t_isFault, g_t_readLaw, g_t_read, g_t_undone, g_t_undos, .ref a_t_aside, g_t_coat, g_t_bestCoats, g_t_bestStand, g_t_bestPaint, g_t_kept, g_t_keptUndos, g_t_isKept, g_t_lanes, g_t_sizes, g_t_items, g_t_moved])), (a_t_now, .inl (cy 0, 24, .inl t_now)), (a_t_aside, .inl (cy 0, 24, .inl v5))]) hx hb hml hown hg (c_X9_asides l D cy a_t a_t_now a_t_aside _ (g_t_tape) (g_t_typed) (g_t_place) (g_t_isFault) (g_t_readLaw) (g_t_read) (g_t_undone) (g_t_undos) (g_t_coat) (g_t_bestCoats) (g_t_bestStand) (g_t_bestPaint) (g_t_kept) (g_t_keptUndos) (g_t_isKept) (g_t_lanes) (g_t_sizes) (g_t_items) (g_t_moved) t_now t_aside F v5 hv5) q_1192 q_1189 q_63 q_1191 q_45 hd_X9_asides ⟨(Nat.le_of_ble_eq_true rfl), (Nat.le_of_ble_eq_true rfl)⟩ hK hP hD hS hA [0, 1, 2] [] rfl rfl rfl rfl (by decide) [0, 1, 2] rfl rfl 0 9 rfl rfl rfl rfl rfl rfl hl.1 rfl rfl (Nat.le_of_ble_eq_true rfl) dX9_change_31 (fun H locs hP hD hS => ?_)
      refine lv_iconst (v := 0) hx hb dX9_change_34 kI_0 ?_
      refine lv_istore (lv' := [(5, .int 0), (4, .int (-1)), (3, .int (-4)), (0, .ref a_t), (1, .int p0), (2, .int p1)]) hx hb dX9_change_35 hl (by decide) rfl (fun ls hl => ?_)
      obtain ⟨k15, hk15, h⟩ := kap (fun z => m_X9_change_L37 p0 F v5 z F 0 (-1) (-4) t_now) h
      have J15 : ∀ (x10 : Int32) (x11 : Int32) (w12 : Nat → Int32) (H : Heap) (locs : List Loc) (ls : Array Slot), va_P D vwCl [(a_t, .inr (9, [.ref a_t_now, g_t_tape, g_t_typed, g_t_place, g_t_isFault, g_t_readLaw, g_t_read, g_t_undone, g_t_undos, .ref a_t_aside, g_t_coat, g_t_bestCoats, g_t_bestStand, g_t_bestPaint, g_t_kept, g_t_keptUndos, g_t_isKept, g_t_lanes, g_t_sizes, g_t_items, g_t_moved])), (a_t_now, .inl (cy 0, 24, .inl w12)), (a_t_aside, .inl (cy 0, 24, .inl v5))] H → va_D A [(a_t, .inr (9, [.ref a_t_now, g_t_tape, g_t_typed, g_t_place, g_t_isFault, g_t_readLaw, g_t_read, g_t_undone, g_t_undos, .ref a_t_aside, g_t_coat, g_t_bestCoats, g_t_bestStand, g_t_bestPaint, g_t_kept, g_t_keptUndos, g_t_isKept, g_t_lanes, g_t_sizes, g_t_items, g_t_moved])), (a_t_now, .inl (cy 0, 24, .inl w12)), (a_t_aside, .inl (cy 0, 24, .inl v5))] → va_S A s.heap H locs → lv_has ls 8 [(4, .int x10), (3, .int x11), (2, .int p1)] → k15 x10 x11 w12 = some out → W p l e (rmG 7 156) s m [.ref a_t, .int p0, .int p1].toArray below meth c H locs 0 0 QQ (F0 m 189 ls []) := by
        intro x10 x11 w12 H locs ls hP hD hS hl h
        rw [hk15] at h
        refine lv_iload_n hx hb dX9_change_189 rfl (lv_at hl 2 rfl) ?_
        refine lv_if_eq (tgt := 199) hx hb dX9_change_190 (by decide) (fun c13 => ?_) (fun c13 => ?_)
        · have h := it_t c13 h
          refine lv_iload_n hx hb dX9_change_199 rfl (lv_at hl 1 rfl) ?_
          refine lv_goto (tgt := 205) hx hb dX9_change_200 (by decide) ?_
          exact hret _ _ _ _ ls 205 dX9_change_205 rfl (by rw [← Option.some.inj h]) (by rw [← Option.some.inj h]) hP hD hS
        · have h := it_f c13 h
          refine lv_iload_n hx hb dX9_change_193 rfl (lv_at hl 1 rfl) ?_
          refine lv_bipush (v := (-4)) hx hb dX9_change_194 kB_m4 ?_
          refine lv_icmp_ne (tgt := 203) hx hb dX9_change_196 (by decide) (fun c14 => ?_) (fun c14 => ?_)
          · have h := it_f c14 h
            refine lv_iload hx hb dX9_change_203 (lv_at hl 0 rfl) ?_
            exact hret _ _ _ _ ls 205 dX9_change_205 rfl (by rw [← Option.some.inj h]) (by rw [← Option.some.inj h]) hP hD hS
          · have h := it_t c14 h
            refine lv_iload_n hx hb dX9_change_199 rfl (lv_at hl 1 rfl) ?_
            refine lv_goto (tgt := 205) hx hb dX9_change_200 (by decide) ?_
            exact hret _ _ _ _ ls 205 dX9_change_205 rfl (by rw [← Option.some.inj h]) (by rw [← Option.some.inj h]) hP hD hS
      have L16 : ∀ (n16 : Nat) (x6 : Int32) (x7 : Int32) (x8 : Int32) (w9 : Nat → Int32) (H : Heap) (locs : List Loc) (ls : Array Slot), va_P D vwCl [(a_t, .inr (9, [.ref a_t_now, g_t_tape, g_t_typed, g_t_place, g_t_isFault, g_t_readLaw, g_t_read, g_t_undone, g_t_undos, .ref a_t_aside, g_t_coat, g_t_bestCoats, g_t_bestStand, g_t_bestPaint, g_t_kept, g_t_keptUndos, g_t_isKept, g_t_lanes, g_t_sizes, g_t_items, g_t_moved])), (a_t_now, .inl (cy 0, 24, .inl w9)), (a_t_aside, .inl (cy 0, 24, .inl v5))] H → va_D A [(a_t, .inr (9, [.ref a_t_now, g_t_tape, g_t_typed, g_t_place, g_t_isFault, g_t_readLaw, g_t_read, g_t_undone, g_t_undos, .ref a_t_aside, g_t_coat, g_t_bestCoats, g_t_bestStand, g_t_bestPaint, g_t_kept, g_t_keptUndos, g_t_isKept, g_t_lanes, g_t_sizes, g_t_items, g_t_moved])), (a_t_now, .inl (cy 0, 24, .inl w9)), (a_t_aside, .inl (cy 0, 24, .inl v5))] → va_S A s.heap H locs → lv_has ls 8 [(5, .int x6), (4, .int x7), (3, .int x8), (0, .ref a_t), (1, .int p0), (2, .int p1)] → m_X9_change_L37 p0 F v5 k15 n16 x6 x7 x8 w9 = some out → W p l e (rmG 7 156) s m [.ref a_t, .int p0, .int p1].toArray below meth c H locs 0 0 QQ (F0 m 37 ls []) := by
        intro n16
        induction n16 with
        | zero => intro x6 x7 x8 w9 H locs ls hP hD hS hl h; exact nomatch (show (none : Option (Int32 × (Nat → Int32) × (Nat → Int32))) = some out from h)
        | succ n16 ih =>
            intro x6 x7 x8 w9 H locs ls hP hD hS hl h
            have h : m_X9_change_L37s p0 F v5 k15 (m_X9_change_L37 p0 F v5 k15 n16) x6 x7 x8 w9 = some out := h
            unfold m_X9_change_L37s at h
            refine lv_iload hx hb dX9_change_37 (lv_at hl 0 rfl) ?_
            refine lv_aload_n hx hb dX9_change_39 rfl (lv_at hl 3 rfl) ?_
            refine va_get (D := D) (ci := 9) (v := .ref a_t_now) (C := RX9) (T := TX9) (N := 21) hx hb hg inG_X9 hown hK hP 0 rfl rfl 0 (by decide) (hg _ q_945) (fun _ h9 => h9) rfl dX9_change_40 ?_
            refine lv_iconst (v := 0) hx hb dX9_change_43 kI_0 ?_
            refine ialdK hx hb hK hP 1 0 rfl rfl (vp_in_inb (by decide)) kN_0 dX9_change_44 ?_
            refine lv_icmp_ge (tgt := 189) hx hb dX9_change_45 (by decide) (fun c18 => ?_) (fun c18 => ?_)
            · have h := it_t c18 h
              exact J15 x7 x8 w9 _ _ _ hP hD hS (lv_sub hl [1, 2, 5] rfl) h
            · have h := it_f c18 h
              refine lv_iload hx hb dX9_change_48 (lv_at hl 0 rfl) ?_
              refine lv_iconst (v := 1) hx hb dX9_change_50 kI_1 ?_
              refine lv_iadd hx hb dX9_change_51 ?_
              refine lv_topi (fun x19 ex19 => ?_)
              have h := bnd_e ex19 h
              refine lv_istore (lv' := [(6, .int x19), (5, .int x6), (4, .int x7), (3, .int x8), (0, .ref a_t), (1, .int p0), (2, .int p1)]) hx hb dX9_change_52 hl (by decide) rfl (fun ls hl => ?_)
              obtain ⟨k28, hk28, h⟩ := kap (fun z => m_X9_change_L54 p0 F v5 x6 z F x19 x7 x8 w9) h
              have J28 : ∀ (x24 : Int32) (x25 : Int32) (w26 : Nat → Int32) (H : Heap) (locs : List Loc) (ls : Array Slot), va_P D vwCl [(a_t, .inr (9, [.ref a_t_now, g_t_tape, g_t_typed, g_t_place, g_t_isFault, g_t_readLaw, g_t_read, g_t_undone, g_t_undos, .ref a_t_aside, g_t_coat, g_t_bestCoats, g_t_bestStand, g_t_bestPaint, g_t_kept, g_t_keptUndos, g_t_isKept, g_t_lanes, g_t_sizes, g_t_items, g_t_moved])), (a_t_now, .inl (cy 0, 24, .inl w26)), (a_t_aside, .inl (cy 0, 24, .inl v5))] H → va_D A [(a_t, .inr (9, [.ref a_t_now, g_t_tape, g_t_typed, g_t_place, g_t_isFault, g_t_readLaw, g_t_read, g_t_undone, g_t_undos, .ref a_t_aside, g_t_coat, g_t_bestCoats, g_t_bestStand, g_t_bestPaint, g_t_kept, g_t_keptUndos, g_t_isKept, g_t_lanes, g_t_sizes, g_t_items, g_t_moved])), (a_t_now, .inl (cy 0, 24, .inl w26)), (a_t_aside, .inl (cy 0, 24, .inl v5))] → va_S A s.heap H locs → lv_has ls 8 [(5, .int x6), (4, .int x24), (3, .int x25), (0, .ref a_t), (1, .int p0), (2, .int p1)] → k28 x24 x25 w26 = some out → W p l e (rmG 7 156) s m [.ref a_t, .int p0, .int p1].toArray below meth c H locs 0 0 QQ (F0 m 183 ls []) := by
                intro x24 x25 w26 H locs ls hP hD hS hl h
                rw [hk28] at h
                obtain ⟨x27, ex27⟩ : ∃ y : Int32, y = x6 + 1 := ⟨_, rfl⟩
                have h := bnd_e ex27 h
                refine lv_iinc (v := x27) (lv' := [(5, .int x27), (4, .int x24), (3, .int x25), (0, .ref a_t), (1, .int p0), (2, .int p1)]) hx hb dX9_change_183 hl (k := 0) rfl (inc_e kI_1 ex27) (by decide) rfl (fun ls hl => ?_)
                refine lv_goto (tgt := 37) hx hb dX9_change_186 (by decide) ?_
                exact ih x27 x24 x25 w26 _ _ _ hP hD hS (lv_sub hl [0, 1, 2, 3, 4, 5] rfl) h
              have L29 : ∀ (n29 : Nat) (x20 : Int32) (x21 : Int32) (x22 : Int32) (w23 : Nat → Int32) (H : Heap) (locs : List Loc) (ls : Array Slot), va_P D vwCl [(a_t, .inr (9, [.ref a_t_now, g_t_tape, g_t_typed, g_t_place, g_t_isFault, g_t_readLaw, g_t_read, g_t_undone, g_t_undos, .ref a_t_aside, g_t_coat, g_t_bestCoats, g_t_bestStand, g_t_bestPaint, g_t_kept, g_t_keptUndos, g_t_isKept, g_t_lanes, g_t_sizes, g_t_items, g_t_moved])), (a_t_now, .inl (cy 0, 24, .inl w23)), (a_t_aside, .inl (cy 0, 24, .inl v5))] H → va_D A [(a_t, .inr (9, [.ref a_t_now, g_t_tape, g_t_typed, g_t_place, g_t_isFault, g_t_readLaw, g_t_read, g_t_undone, g_t_undos, .ref a_t_aside, g_t_coat, g_t_bestCoats, g_t_bestStand, g_t_bestPaint, g_t_kept, g_t_keptUndos, g_t_isKept, g_t_lanes, g_t_sizes, g_t_items, g_t_moved])), (a_t_now, .inl (cy 0, 24, .inl w23)), (a_t_aside, .inl (cy 0, 24, .inl v5))] → va_S A s.heap H locs → lv_has ls 8 [(6, .int x20), (5, .int x6), (4, .int x21), (3, .int x22), (0, .ref a_t), (1, .int p0), (2, .int p1)] → m_X9_change_L54 p0 F v5 x6 k28 n29 x20 x21 x22 w23 = some out → W p l e (rmG 7 156) s m [.ref a_t, .int p0, .int p1].toArray below meth c H locs 0 0 QQ (F0 m 54 ls []) := by
                intro n29
                induction n29 with
                | zero => intro x20 x21 x22 w23 H locs ls hP hD hS hl h; exact nomatch (show (none : Option (Int32 × (Nat → Int32) × (Nat → Int32))) = some out from h)
                | succ n29 ih =>
                    intro x20 x21 x22 w23 H locs ls hP hD hS hl h
                    have h : m_X9_change_L54s p0 F v5 x6 k28 (m_X9_change_L54 p0 F v5 x6 k28 n29) x20 x21 x22 w23 = some out := h
                    unfold m_X9_change_L54s at h
                    refine lv_iload hx hb dX9_change_54 (lv_at hl 0 rfl) ?_
                    refine lv_aload_n hx hb dX9_change_56 rfl (lv_at hl 4 rfl) ?_
                    refine va_get (D := D) (ci := 9) (v := .ref a_t_now) (C := RX9) (T := TX9) (N := 21) hx hb hg inG_X9 hown hK hP 0 rfl rfl 0 (by decide) (hg _ q_945) (fun _ h9 => h9) rfl dX9_change_57 ?_
                    refine lv_iconst (v := 0) hx hb dX9_change_60 kI_0 ?_
                    refine ialdK hx hb hK hP 1 0 rfl rfl (vp_in_inb (by decide)) kN_0 dX9_change_61 ?_
                    refine lv_icmp_ge (tgt := 183) hx hb dX9_change_62 (by decide) (fun c31 => ?_) (fun c31 => ?_)
                    · have h := it_t c31 h
                      exact J28 x21 x22 w23 _ _ _ hP hD hS (lv_sub hl [1, 2, 3, 4, 5, 6] rfl) h
                    · have h := it_f c31 h
                      refine lv_aload_n hx hb dX9_change_65 rfl (lv_at hl 4 rfl) ?_
                      refine lv_iload hx hb dX9_change_66 (lv_at hl 1 rfl) ?_
                      obtain ⟨v32, hv32, h⟩ := bind_e h
                      refine callRV (As := [.int x6]) (rest := []) (v0 := .int v32) hx hb hml hown hg (c_X9_stands l D cy a_t a_t_now (g_t_tape) (g_t_typed) (g_t_place) (g_t_isFault) (g_t_readLaw) (g_t_read) (g_t_undone) (g_t_undos) (.ref a_t_aside) (g_t_coat) (g_t_bestCoats) (g_t_bestStand) (g_t_bestPaint) (g_t_kept) (g_t_keptUndos) (g_t_isKept) (g_t_lanes) (g_t_sizes) (g_t_items) (g_t_moved) w23 x6 v32 hv32) q_1067 q_1064 q_63 q_1066 q_32 hd_X9_stands ⟨(Nat.le_of_ble_eq_true rfl), (Nat.le_of_ble_eq_true rfl)⟩ hK hP [0, 1] rfl 0 9 rfl rfl rfl rfl rfl rfl hl.1 rfl (Nat.le_of_ble_eq_true rfl) dX9_change_68 ?_
                      refine lv_if_eq (tgt := 177) hx hb dX9_change_71 (by decide) (fun c33 => ?_) (fun c33 => ?_)
                      · have h := it_t c33 h
                        obtain ⟨x34, ex34⟩ : ∃ y : Int32, y = x20 + 1 := ⟨_, rfl⟩
                        have h := bnd_e ex34 h
                        refine lv_iinc (v := x34) (lv' := [(6, .int x34), (5, .int x6), (4, .int x21), (3, .int x22), (0, .ref a_t), (1, .int p0), (2, .int p1)]) hx hb dX9_change_177 hl (k := 0) rfl (inc_e kI_1 ex34) (by decide) rfl (fun ls hl => ?_)
                        refine lv_goto (tgt := 54) hx hb dX9_change_180 (by decide) ?_
                        exact ih x34 x21 x22 w23 _ _ _ hP hD hS (lv_sub hl [0, 1, 2, 3, 4, 5, 6] rfl) h
                      · have h := it_f c33 h
                        refine lv_aload_n hx hb dX9_change_74 rfl (lv_at hl 4 rfl) ?_
                        refine lv_iload hx hb dX9_change_75 (lv_at hl 0 rfl) ?_
                        obtain ⟨v35, hv35, h⟩ := bind_e h
                        refine callRV (As := [.int x20]) (rest := []) (v0 := .int v35) hx hb hml hown hg (c_X9_stands l D cy a_t a_t_now (g_t_tape) (g_t_typed) (g_t_place) (g_t_isFault) (g_t_readLaw) (g_t_read) (g_t_undone) (g_t_undos) (.ref a_t_aside) (g_t_coat) (g_t_bestCoats) (g_t_bestStand) (g_t_bestPaint) (g_t_kept) (g_t_keptUndos) (g_t_isKept) (g_t_lanes) (g_t_sizes) (g_t_items) (g_t_moved) w23 x20 v35 hv35) q_1067 q_1064 q_63 q_1066 q_32 hd_X9_stands ⟨(Nat.le_of_ble_eq_true rfl), (Nat.le_of_ble_eq_true rfl)⟩ hK hP [0, 1] rfl 0 9 rfl rfl rfl rfl rfl rfl hl.1 rfl (Nat.le_of_ble_eq_true rfl) dX9_change_77 ?_
                        refine lv_if_eq (tgt := 177) hx hb dX9_change_80 (by decide) (fun c36 => ?_) (fun c36 => ?_)
                        · have h := it_t c36 h
                          obtain ⟨x37, ex37⟩ : ∃ y : Int32, y = x20 + 1 := ⟨_, rfl⟩
                          have h := bnd_e ex37 h
                          refine lv_iinc (v := x37) (lv' := [(6, .int x37), (5, .int x6), (4, .int x21), (3, .int x22), (0, .ref a_t), (1, .int p0), (2, .int p1)]) hx hb dX9_change_177 hl (k := 0) rfl (inc_e kI_1 ex37) (by decide) rfl (fun ls hl => ?_)
                          refine lv_goto (tgt := 54) hx hb dX9_change_180 (by decide) ?_
                          exact ih x37 x21 x22 w23 _ _ _ hP hD hS (lv_sub hl [0, 1, 2, 3, 4, 5, 6] rfl) h
                        · have h := it_f c36 h
                          refine lv_aload_n hx hb dX9_change_83 rfl (lv_at hl 4 rfl) ?_
                          refine lv_iload hx hb dX9_change_84 (lv_at hl 1 rfl) ?_
                          refine lv_aload_n hx hb dX9_change_86 rfl (lv_at hl 4 rfl) ?_
                          refine va_get (D := D) (ci := 9) (v := .ref a_t_aside) (C := RX9) (T := TX9) (N := 21) hx hb hg inG_X9 hown hK hP 0 rfl rfl 9 (by decide) (hg _ q_954) (fun _ h9 => h9) rfl dX9_change_87 ?_
                          refine lv_bipush (v := 6) hx hb dX9_change_90 kB_6 ?_
                          refine lv_iconst (v := 3) hx hb dX9_change_92 kI_3 ?_
                          refine lv_iload hx hb dX9_change_93 (lv_at hl 0 rfl) ?_
                          refine lv_imul hx hb dX9_change_95 ?_
                          refine lv_iadd hx hb dX9_change_96 ?_
                          refine lv_iconst (v := 2) hx hb dX9_change_97 kI_2 ?_
                          refine lv_iadd hx hb dX9_change_98 ?_
                          obtain ⟨hi38, h⟩ := chk_e h
                          refine va_iald hx hb hK hP 2 0 rfl rfl hi38 dX9_change_99 ?_
                          obtain ⟨v39, hv39, h⟩ := bind_e h
                          refine callMV (As := [.int x6, .int (v5 ((6 + (3 * x20)) + 2).toNatClampNeg)]) (rest := []) (wr := [(a_t_aside, .inl (cy 0, 24, .inl v5))]) (w2 := [(a_t, .inr (9, [.ref a_t_now, g_t_tape, g_t_typed, g_t_place, g_t_isFault, g_t_readLaw, g_t_read, g_t_undone, g_t_undos, .ref a_t_aside, g_t_coat, g_t_bestCoats, g_t_bestStand, g_t_bestPaint, g_t_kept, g_t_keptUndos, g_t_isKept, g_t_lanes, g_t_sizes, g_t_items, g_t_moved])), (a_t_now, .inl (cy 0, 24, .inl v39)), (a_t_aside, .inl (cy 0, 24, .inl v5))]) hx hb hml hown hg (c_X9_goesTo l D cy a_t a_t_now _ (g_t_tape) (g_t_typed) (g_t_place) (g_t_isFault) (g_t_readLaw) (g_t_read) (g_t_undone) (g_t_undos) (.ref a_t_aside) (g_t_coat) (g_t_bestCoats) (g_t_bestStand) (g_t_bestPaint) (g_t_kept) (g_t_keptUndos) (g_t_isKept) (g_t_lanes) (g_t_sizes) (g_t_items) (g_t_moved) w23 x6 (v5 ((6 + (3 * x20)) + 2).toNatClampNeg) v39 hv39) q_1152 q_1149 q_63 q_1151 q_43 hd_X9_goesTo ⟨(Nat.le_of_ble_eq_true rfl), (Nat.le_of_ble_eq_true rfl)⟩ hK hP hD hS hA [0, 1] [2] rfl rfl rfl rfl (by decide) [1, 2, 0] rfl rfl 0 9 rfl rfl rfl rfl rfl rfl hl.1 rfl rfl (Nat.le_of_ble_eq_true rfl) dX9_change_100 (fun H locs hP hD hS => ?_)
                          refine lv_aload_n hx hb dX9_change_103 rfl (lv_at hl 4 rfl) ?_
                          refine lv_iload hx hb dX9_change_104 (lv_at hl 0 rfl) ?_
                          refine lv_aload_n hx hb dX9_change_106 rfl (lv_at hl 4 rfl) ?_
                          refine va_get (D := D) (ci := 9) (v := .ref a_t_aside) (C := RX9) (T := TX9) (N := 21) hx hb hg inG_X9 hown hK hP 0 rfl rfl 9 (by decide) (hg _ q_954) (fun _ h9 => h9) rfl dX9_change_107 ?_
                          refine lv_bipush (v := 6) hx hb dX9_change_110 kB_6 ?_
                          refine lv_iconst (v := 3) hx hb dX9_change_112 kI_3 ?_
                          refine lv_iload hx hb dX9_change_113 (lv_at hl 1 rfl) ?_
                          refine lv_imul hx hb dX9_change_115 ?_
                          refine lv_iadd hx hb dX9_change_116 ?_
                          refine lv_iconst (v := 2) hx hb dX9_change_117 kI_2 ?_
                          refine lv_iadd hx hb dX9_change_118 ?_
                          obtain ⟨hi40, h⟩ := chk_e h
                          refine va_iald hx hb hK hP 2 0 rfl rfl hi40 dX9_change_119 ?_
                          obtain ⟨v41, hv41, h⟩ := bind_e h
                          refine callMV (As := [.int x20, .int (v5 ((6 + (3 * x6)) + 2).toNatClampNeg)]) (rest := []) (wr := [(a_t_aside, .inl (cy 0, 24, .inl v5))]) (w2 := [(a_t, .inr (9, [.ref a_t_now, g_t_tape, g_t_typed, g_t_place, g_t_isFault, g_t_readLaw, g_t_read, g_t_undone, g_t_undos, .ref a_t_aside, g_t_coat, g_t_bestCoats, g_t_bestStand, g_t_bestPaint, g_t_kept, g_t_keptUndos, g_t_isKept, g_t_lanes, g_t_sizes, g_t_items, g_t_moved])), (a_t_now, .inl (cy 0, 24, .inl v41)), (a_t_aside, .inl (cy 0, 24, .inl v5))]) hx hb hml hown hg (c_X9_goesTo l D cy a_t a_t_now _ (g_t_tape) (g_t_typed) (g_t_place) (g_t_isFault) (g_t_readLaw) (g_t_read) (g_t_undone) (g_t_undos) (.ref a_t_aside) (g_t_coat) (g_t_bestCoats) (g_t_bestStand) (g_t_bestPaint) (g_t_kept) (g_t_keptUndos) (g_t_isKept) (g_t_lanes) (g_t_sizes) (g_t_items) (g_t_moved) v39 x20 (v5 ((6 + (3 * x6)) + 2).toNatClampNeg) v41 hv41) q_1152 q_1149 q_63 q_1151 q_43 hd_X9_goesTo ⟨(Nat.le_of_ble_eq_true rfl), (Nat.le_of_ble_eq_true rfl)⟩ hK hP hD hS hA [0, 1] [2] rfl rfl rfl rfl (by decide) [1, 2, 0] rfl rfl 0 9 rfl rfl rfl rfl rfl rfl hl.1 rfl rfl (Nat.le_of_ble_eq_true rfl) dX9_change_120 (fun H locs hP hD hS => ?_)
                          refine lv_aload_n hx hb dX9_change_123 rfl (lv_at hl 4 rfl) ?_
                          refine lv_iload_n hx hb dX9_change_124 rfl (lv_at hl 5 rfl) ?_
                          obtain ⟨v42, hv42, h⟩ := bind_e h
                          refine callMV (As := [.int p0]) (rest := []) (wr := [(a_t_aside, .inl (cy 0, 24, .inl v5))]) (w2 := [(a_t, .inr (9, [.ref a_t_now, g_t_tape, g_t_typed, g_t_place, g_t_isFault, g_t_readLaw, g_t_read, g_t_undone, g_t_undos, .ref a_t_aside, g_t_coat, g_t_bestCoats, g_t_bestStand, g_t_bestPaint, g_t_kept, g_t_keptUndos, g_t_isKept, g_t_lanes, g_t_sizes, g_t_items, g_t_moved])), (a_t_now, .inl (cy 0, 24, .inl v42)), (a_t_aside, .inl (cy 0, 24, .inl v5))]) hx hb hml hown hg (c_X9_goesOn l D cy a_t a_t_now _ (g_t_tape) (g_t_typed) (g_t_place) (g_t_isFault) (g_t_readLaw) (g_t_read) (g_t_undone) (g_t_undos) (.ref a_t_aside) (g_t_coat) (g_t_bestCoats) (g_t_bestStand) (g_t_bestPaint) (g_t_kept) (g_t_keptUndos) (g_t_isKept) (g_t_lanes) (g_t_sizes) (g_t_items) (g_t_moved) v41 p0 F v42 hv42) q_1196 q_1193 q_63 q_1195 q_46 hd_X9_goesOn ⟨(Nat.le_of_ble_eq_true rfl), (Nat.le_of_ble_eq_true rfl)⟩ hK hP hD hS hA [0, 1] [2] rfl rfl rfl rfl (by decide) [1, 2, 0] rfl rfl 0 9 rfl rfl rfl rfl rfl rfl hl.1 rfl rfl (Nat.le_of_ble_eq_true rfl) dX9_change_125 (fun H locs hP hD hS => ?_)
                          refine lv_aload_n hx hb dX9_change_128 rfl (lv_at hl 4 rfl) ?_
                          obtain ⟨v43, hv43, h⟩ := bind_e h
                          refine callRV (As := []) (rest := []) (v0 := .int v43) hx hb hml hown hg (c_X9_standing l D cy a_t a_t_now (g_t_tape) (g_t_typed) (g_t_place) (g_t_isFault) (g_t_readLaw) (g_t_read) (g_t_undone) (g_t_undos) (.ref a_t_aside) (g_t_coat) (g_t_bestCoats) (g_t_bestStand) (g_t_bestPaint) (g_t_kept) (g_t_keptUndos) (g_t_isKept) (g_t_lanes) (g_t_sizes) (g_t_items) (g_t_moved) v42 F v43 hv43) q_1077 q_1074 q_63 q_1076 q_33 hd_X9_standing ⟨(Nat.le_of_ble_eq_true rfl), (Nat.le_of_ble_eq_true rfl)⟩ hK hP [0, 1] rfl 0 9 rfl rfl rfl rfl rfl rfl hl.1 rfl (Nat.le_of_ble_eq_true rfl) dX9_change_129 ?_
                          obtain ⟨v44, hv44, h⟩ := bind_e h
                          refine callRS (As := [.int v43]) (rest := []) (v0 := .int v44) hx hb hml hown hg (c_X9_many l D cy v43 F v44 hv44) q_1073 q_1071 q_63 q_1072 hd_X9_many ⟨(Nat.le_of_ble_eq_true rfl), (Nat.le_of_ble_eq_true rfl)⟩ hK hP [] rfl rfl rfl rfl hl.1 rfl (Nat.le_of_ble_eq_true rfl) dX9_change_132 ?_
                          refine lv_istore (lv' := [(7, .int v44), (6, .int x20), (5, .int x6), (4, .int x21), (3, .int x22), (0, .ref a_t), (1, .int p0), (2, .int p1)]) hx hb dX9_change_135 hl (by decide) rfl (fun ls hl => ?_)
                          refine lv_aload_n hx hb dX9_change_137 rfl (lv_at hl 5 rfl) ?_
                          obtain ⟨v45, hv45, h⟩ := bind_e h
                          refine callMV (As := []) (rest := []) (wr := []) (w2 := [(a_t, .inr (9, [.ref a_t_now, g_t_tape, g_t_typed, g_t_place, g_t_isFault, g_t_readLaw, g_t_read, g_t_undone, g_t_undos, .ref a_t_aside, g_t_coat, g_t_bestCoats, g_t_bestStand, g_t_bestPaint, g_t_kept, g_t_keptUndos, g_t_isKept, g_t_lanes, g_t_sizes, g_t_items, g_t_moved])), (a_t_now, .inl (cy 0, 24, .inl v45)), (a_t_aside, .inl (cy 0, 24, .inl v5))]) hx hb hml hown hg (c_X9_backs l D cy a_t a_t_now a_t_aside _ (g_t_tape) (g_t_typed) (g_t_place) (g_t_isFault) (g_t_readLaw) (g_t_read) (g_t_undone) (g_t_undos) (g_t_coat) (g_t_bestCoats) (g_t_bestStand) (g_t_bestPaint) (g_t_kept) (g_t_keptUndos) (g_t_isKept) (g_t_lanes) (g_t_sizes) (g_t_items) (g_t_moved) v42 v5 F v45 hv45) q_1200 q_1197 q_63 q_1199 q_47 hd_X9_backs ⟨(Nat.le_of_ble_eq_true rfl), (Nat.le_of_ble_eq_true rfl)⟩ hK hP hD hS hA [0, 1, 2] [] rfl rfl rfl rfl (by decide) [0, 1, 2] rfl rfl 0 9 rfl rfl rfl rfl rfl rfl hl.1 rfl rfl (Nat.le_of_ble_eq_true rfl) dX9_change_138 (fun H locs hP hD hS => ?_)
                          refine lv_iload hx hb dX9_change_141 (lv_at hl 0 rfl) ?_
                          refine lv_iload hx hb dX9_change_143 (lv_at hl 3 rfl) ?_
                          obtain ⟨k50, hk50, h⟩ := jn_e h
                          have J50 : ∀ (x46 : Int32) (H : Heap) (locs : List Loc) (ls : Array Slot), va_P D vwCl [(a_t, .inr (9, [.ref a_t_now, g_t_tape, g_t_typed, g_t_place, g_t_isFault, g_t_readLaw, g_t_read, g_t_undone, g_t_undos, .ref a_t_aside, g_t_coat, g_t_bestCoats, g_t_bestStand, g_t_bestPaint, g_t_kept, g_t_keptUndos, g_t_isKept, g_t_lanes, g_t_sizes, g_t_items, g_t_moved])), (a_t_now, .inl (cy 0, 24, .inl v45)), (a_t_aside, .inl (cy 0, 24, .inl v5))] H → va_D A [(a_t, .inr (9, [.ref a_t_now, g_t_tape, g_t_typed, g_t_place, g_t_isFault, g_t_readLaw, g_t_read, g_t_undone, g_t_undos, .ref a_t_aside, g_t_coat, g_t_bestCoats, g_t_bestStand, g_t_bestPaint, g_t_kept, g_t_keptUndos, g_t_isKept, g_t_lanes, g_t_sizes, g_t_items, g_t_moved])), (a_t_now, .inl (cy 0, 24, .inl v45)), (a_t_aside, .inl (cy 0, 24, .inl v5))] → va_S A s.heap H locs → lv_has ls 8 [(7, .int v44), (6, .int x20), (5, .int x6), (4, .int x21), (0, .ref a_t), (1, .int p0), (2, .int p1)] → k50 x46 = some out → W p l e (rmG 7 156) s m [.ref a_t, .int p0, .int p1].toArray below meth c H locs 0 0 QQ (F0 m 160 ls [.int x46]) := by
                            intro x46 H locs ls hP hD hS hl h
                            rw [hk50] at h
                            refine lv_istore_n (lv' := [(3, .int x46), (7, .int v44), (6, .int x20), (5, .int x6), (4, .int x21), (0, .ref a_t), (1, .int p0), (2, .int p1)]) hx hb dX9_change_160 rfl hl (by decide) rfl (fun ls hl => ?_)
                            refine lv_iload hx hb dX9_change_161 (lv_at hl 1 rfl) ?_
                            refine lv_iload hx hb dX9_change_163 (lv_at hl 4 rfl) ?_
                            refine lv_icmp_le (tgt := 173) hx hb dX9_change_165 (by decide) (fun c47 => ?_) (fun c47 => ?_)
                            · have h := it_t c47 h
                              refine lv_iload hx hb dX9_change_173 (lv_at hl 4 rfl) ?_
                              refine lv_istore (lv' := [(4, .int x21), (3, .int x46), (7, .int v44), (6, .int x20), (5, .int x6), (0, .ref a_t), (1, .int p0), (2, .int p1)]) hx hb dX9_change_175 hl (by decide) rfl (fun ls hl => ?_)
                              obtain ⟨x48, ex48⟩ : ∃ y : Int32, y = x20 + 1 := ⟨_, rfl⟩
                              have h := bnd_e ex48 h
                              refine lv_iinc (v := x48) (lv' := [(6, .int x48), (4, .int x21), (3, .int x46), (7, .int v44), (5, .int x6), (0, .ref a_t), (1, .int p0), (2, .int p1)]) hx hb dX9_change_177 hl (k := 3) rfl (inc_e kI_1 ex48) (by decide) rfl (fun ls hl => ?_)
                              refine lv_goto (tgt := 54) hx hb dX9_change_180 (by decide) ?_
                              exact ih x48 x21 x46 v45 _ _ _ hP hD hS (lv_sub hl [0, 4, 1, 2, 5, 6, 7] rfl) h
                            · have h := it_f c47 h
                              refine lv_iload hx hb dX9_change_168 (lv_at hl 1 rfl) ?_
                              refine lv_goto (tgt := 175) hx hb dX9_change_170 (by decide) ?_
                              refine lv_istore (lv' := [(4, .int v44), (3, .int x46), (7, .int v44), (6, .int x20), (5, .int x6), (0, .ref a_t), (1, .int p0), (2, .int p1)]) hx hb dX9_change_175 hl (by decide) rfl (fun ls hl => ?_)
                              obtain ⟨x49, ex49⟩ : ∃ y : Int32, y = x20 + 1 := ⟨_, rfl⟩
                              have h := bnd_e ex49 h
                              refine lv_iinc (v := x49) (lv' := [(6, .int x49), (4, .int v44), (3, .int x46), (7, .int v44), (5, .int x6), (0, .ref a_t), (1, .int p0), (2, .int p1)]) hx hb dX9_change_177 hl (k := 3) rfl (inc_e kI_1 ex49) (by decide) rfl (fun ls hl => ?_)
                              refine lv_goto (tgt := 54) hx hb dX9_change_180 (by decide) ?_
                              exact ih x49 v44 x46 v45 _ _ _ hP hD hS (lv_sub hl [0, 4, 1, 2, 5, 6, 7] rfl) h
                          refine lv_icmp_le (tgt := 159) hx hb dX9_change_145 (by decide) (fun c51 => ?_) (fun c51 => ?_)
                          · have h := it_t c51 h
                            refine lv_iload_n hx hb dX9_change_159 rfl (lv_at hl 4 rfl) ?_
                            exact J50 x22 _ _ _ hP hD hS (lv_sub hl [0, 1, 2, 3, 5, 6, 7] rfl) h
                          · have h := it_f c51 h
                            refine lv_bipush (v := 10) hx hb dX9_change_148 kB_10 ?_
                            refine lv_iload hx hb dX9_change_150 (lv_at hl 2 rfl) ?_
                            refine lv_imul hx hb dX9_change_152 ?_
                            refine lv_iload hx hb dX9_change_153 (lv_at hl 1 rfl) ?_
                            refine lv_iadd hx hb dX9_change_155 ?_
                            refine lv_goto (tgt := 160) hx hb dX9_change_156 (by decide) ?_
                            exact J50 ((10 * x6) + x20) _ _ _ hP hD hS (lv_sub hl [0, 1, 2, 3, 5, 6, 7] rfl) h
              exact L29 F x19 x7 x8 w9 _ _ _ hP hD hS (lv_sub hl [0, 1, 2, 3, 4, 5, 6] rfl) h
      exact L16 F 0 (-1) (-4) t_now _ _ _ hP hD hS (lv_sub hl [0, 1, 2, 3, 4, 5] rfl) h
    · have h := it_t c4 h
      refine lv_iconst (v := (-1)) hx hb dX9_change_22 kI_m1 ?_
      exact hret _ _ _ _ ls 23 dX9_change_23 rfl (by rw [← Option.some.inj h]) (by rw [← Option.some.inj h]) hP hD hS

def m_X9_isParted_L15s (p1 : Int32) (k9 : Int32 → (Nat → Int32) → Option (Int32 × (Nat → Int32))) (r11 : Int32 → Int32 → Int32 → (Nat → Int32) → Option (Int32 × (Nat → Int32))) (x2 : Int32) (x3 : Int32) (x4 : Int32) (w5 : Nat → Int32) : Option (Int32 × (Nat → Int32)) := (if x2 < 0 then k9 x3 w5 else nzI (p1 + 1) (chk x2 6 (nzI (p1 + 1) (bnd (x4 / (p1 + 1)) (fun x16 => chk x2 6 (bnd (x3 + ((upd w5 x2.toNatClampNeg (x4 - x4 / (p1 + 1) * (p1 + 1))) x2.toNatClampNeg)) (fun x18 => bnd (x2 + (-1)) (fun x19 => r11 x19 x18 x16 (upd w5 x2.toNatClampNeg (x4 - x4 / (p1 + 1) * (p1 + 1)))))))))))
def m_X9_isParted_L15 (p1 : Int32) (k9 : Int32 → (Nat → Int32) → Option (Int32 × (Nat → Int32))) : Nat → Int32 → Int32 → Int32 → (Nat → Int32) → Option (Int32 × (Nat → Int32))
  | 0 => fun _ _ _ _ => none
  | nF + 1 => m_X9_isParted_L15s p1 k9 (m_X9_isParted_L15 p1 k9 nF)
def m_X9_isParted (F : Nat) (t_now : Nat → Int32) (t_coat : Nat → Int32) (p0 : Int32) (p1 : Int32) : Option (Int32 × (Nat → Int32)) := bnd ((t_now 0) - 1) (fun x1 => m_X9_isParted_L15 p1 (fun (x6 : Int32) (w7 : Nat → Int32) => (if x6 = p1 then some (1, w7) else some (0, w7))) F x1 0 p0 t_coat)
set_option maxHeartbeats 4000000 in
set_option maxRecDepth 100000 in
theorem c_X9_isParted (l : Launch) (D : va_G) (cy : Nat → ClassId) (a_t : Nat) (a_t_now : Nat) (a_t_coat : Nat) (sz : Nat) (g_t_tape : Value) (g_t_typed : Value) (g_t_place : Value) (g_t_isFault : Value) (g_t_readLaw : Value) (g_t_read : Value) (g_t_undone : Value) (g_t_undos : Value) (g_t_aside : Value) (g_t_bestCoats : Value) (g_t_bestStand : Value) (g_t_bestPaint : Value) (g_t_kept : Value) (g_t_keptUndos : Value) (g_t_isKept : Value) (g_t_lanes : Value) (g_t_sizes : Value) (g_t_items : Value) (g_t_moved : Value) (t_now : Nat → Int32) (t_coat : Nat → Int32) (p0 : Int32) (p1 : Int32) (F : Nat) (out : Int32 × (Nat → Int32)) (h : m_X9_isParted F t_now t_coat p0 p1 = some out) : MetM l D cy yX9_isParted cX9_isParted 6 (some .boolean) (rmG 0 0) [.ref a_t, .int p0, .int p1] sz [(a_t, .inr (9, [.ref a_t_now, g_t_tape, g_t_typed, g_t_place, g_t_isFault, g_t_readLaw, g_t_read, g_t_undone, g_t_undos, g_t_aside, .ref a_t_coat, g_t_bestCoats, g_t_bestStand, g_t_bestPaint, g_t_kept, g_t_keptUndos, g_t_isKept, g_t_lanes, g_t_sizes, g_t_items, g_t_moved])), (a_t_now, .inl (cy 0, 24, .inl t_now)), (a_t_coat, .inl (cy 0, 6, .inl t_coat))] (some (.int out.1)) [(a_t, .inr (9, [.ref a_t_now, g_t_tape, g_t_typed, g_t_place, g_t_isFault, g_t_readLaw, g_t_read, g_t_undone, g_t_undos, g_t_aside, .ref a_t_coat, g_t_bestCoats, g_t_bestStand, g_t_bestPaint, g_t_kept, g_t_keptUndos, g_t_isKept, g_t_lanes, g_t_sizes, g_t_items, g_t_moved])), (a_t_now, .inl (cy 0, 24, .inl t_now)), (a_t_coat, .inl (cy 0, 6, .inl out.2))] := by
  refine startMi (own := RX9) (by decide) rfl (Nat.le_of_ble_eq_true rfl) ?_
  intro p e s m below meth c QQ A hx hb hml hown hg hK hP hD hS hA hret ls hl
  have hl : lv_has ls 6 [(0, .ref a_t), (1, .int p0), (2, .int p1)] := hl
  unfold m_X9_isParted at h
  refine lv_iload_n hx hb dX9_isParted_0 rfl (lv_at hl 1 rfl) ?_
  refine lv_istore_n (lv' := [(3, .int p0), (0, .ref a_t), (1, .int p0), (2, .int p1)]) hx hb dX9_isParted_1 rfl hl (by decide) rfl (fun ls hl => ?_)
  refine lv_iconst (v := 0) hx hb dX9_isParted_2 kI_0 ?_
  refine lv_istore (lv' := [(4, .int 0), (3, .int p0), (0, .ref a_t), (1, .int p0), (2, .int p1)]) hx hb dX9_isParted_3 hl (by decide) rfl (fun ls hl => ?_)
  refine lv_aload_n hx hb dX9_isParted_5 rfl (lv_at hl 2 rfl) ?_
  refine va_get (D := D) (ci := 9) (v := .ref a_t_now) (C := RX9) (T := TX9) (N := 21) hx hb hg inG_X9 hown hK hP 0 rfl rfl 0 (by decide) (hg _ q_945) (fun _ h9 => h9) rfl dX9_isParted_6 ?_
  refine lv_iconst (v := 0) hx hb dX9_isParted_9 kI_0 ?_
  refine ialdK hx hb hK hP 1 0 rfl rfl (vp_in_inb (by decide)) kN_0 dX9_isParted_10 ?_
  refine lv_iconst (v := 1) hx hb dX9_isParted_11 kI_1 ?_
  refine lv_isub hx hb dX9_isParted_12 ?_
  refine lv_topi (fun x1 ex1 => ?_)
  have h := bnd_e ex1 h
  refine lv_istore (lv' := [(5, .int x1), (4, .int 0), (3, .int p0), (0, .ref a_t), (1, .int p0), (2, .int p1)]) hx hb dX9_isParted_13 hl (by decide) rfl (fun ls hl => ?_)
  obtain ⟨k9, hk9, h⟩ := kap (fun z => m_X9_isParted_L15 p1 z F x1 0 p0 t_coat) h
  have J9 : ∀ (x6 : Int32) (w7 : Nat → Int32) (H : Heap) (locs : List Loc) (ls : Array Slot), va_P D vwCl [(a_t, .inr (9, [.ref a_t_now, g_t_tape, g_t_typed, g_t_place, g_t_isFault, g_t_readLaw, g_t_read, g_t_undone, g_t_undos, g_t_aside, .ref a_t_coat, g_t_bestCoats, g_t_bestStand, g_t_bestPaint, g_t_kept, g_t_keptUndos, g_t_isKept, g_t_lanes, g_t_sizes, g_t_items, g_t_moved])), (a_t_now, .inl (cy 0, 24, .inl t_now)), (a_t_coat, .inl (cy 0, 6, .inl w7))] H → va_D A [(a_t, .inr (9, [.ref a_t_now, g_t_tape, g_t_typed, g_t_place, g_t_isFault, g_t_readLaw, g_t_read, g_t_undone, g_t_undos, g_t_aside, .ref a_t_coat, g_t_bestCoats, g_t_bestStand, g_t_bestPaint, g_t_kept, g_t_keptUndos, g_t_isKept, g_t_lanes, g_t_sizes, g_t_items, g_t_moved])), (a_t_now, .inl (cy 0, 24, .inl t_now)), (a_t_coat, .inl (cy 0, 6, .inl w7))] → va_S A s.heap H locs → lv_has ls 6 [(4, .int x6), (2, .int p1)] → k9 x6 w7 = some out → W p l e (rmG 0 0) s m [.ref a_t, .int p0, .int p1].toArray below meth c H locs 0 0 QQ (F0 m 56 ls []) := by
    intro x6 w7 H locs ls hP hD hS hl h
    rw [hk9] at h
    refine lv_iload hx hb dX9_isParted_56 (lv_at hl 0 rfl) ?_
    refine lv_iload_n hx hb dX9_isParted_58 rfl (lv_at hl 1 rfl) ?_
    refine lv_icmp_ne (tgt := 66) hx hb dX9_isParted_59 (by decide) (fun c8 => ?_) (fun c8 => ?_)
    · have h := it_f c8 h
      refine lv_iconst (v := 0) hx hb dX9_isParted_66 kI_0 ?_
      exact hret _ _ _ _ ls 67 dX9_isParted_67 (nar_z (Or.inl rfl)) (by rw [← Option.some.inj h]) (by rw [← Option.some.inj h]) hP hD hS
    · have h := it_t c8 h
      refine lv_iconst (v := 1) hx hb dX9_isParted_62 kI_1 ?_
      refine lv_goto (tgt := 67) hx hb dX9_isParted_63 (by decide) ?_
      exact hret _ _ _ _ ls 67 dX9_isParted_67 (nar_z (Or.inr rfl)) (by rw [← Option.some.inj h]) (by rw [← Option.some.inj h]) hP hD hS
  have L10 : ∀ (n10 : Nat) (x2 : Int32) (x3 : Int32) (x4 : Int32) (w5 : Nat → Int32) (H : Heap) (locs : List Loc) (ls : Array Slot), va_P D vwCl [(a_t, .inr (9, [.ref a_t_now, g_t_tape, g_t_typed, g_t_place, g_t_isFault, g_t_readLaw, g_t_read, g_t_undone, g_t_undos, g_t_aside, .ref a_t_coat, g_t_bestCoats, g_t_bestStand, g_t_bestPaint, g_t_kept, g_t_keptUndos, g_t_isKept, g_t_lanes, g_t_sizes, g_t_items, g_t_moved])), (a_t_now, .inl (cy 0, 24, .inl t_now)), (a_t_coat, .inl (cy 0, 6, .inl w5))] H → va_D A [(a_t, .inr (9, [.ref a_t_now, g_t_tape, g_t_typed, g_t_place, g_t_isFault, g_t_readLaw, g_t_read, g_t_undone, g_t_undos, g_t_aside, .ref a_t_coat, g_t_bestCoats, g_t_bestStand, g_t_bestPaint, g_t_kept, g_t_keptUndos, g_t_isKept, g_t_lanes, g_t_sizes, g_t_items, g_t_moved])), (a_t_now, .inl (cy 0, 24, .inl t_now)), (a_t_coat, .inl (cy 0, 6, .inl w5))] → va_S A s.heap H locs → lv_has ls 6 [(5, .int x2), (4, .int x3), (3, .int x4), (0, .ref a_t), (2, .int p1)] → m_X9_isParted_L15 p1 k9 n10 x2 x3 x4 w5 = some out → W p l e (rmG 0 0) s m [.ref a_t, .int p0, .int p1].toArray below meth c H locs 0 0 QQ (F0 m 15 ls []) := by
    intro n10
    induction n10 with
    | zero => intro x2 x3 x4 w5 H locs ls hP hD hS hl h; exact nomatch (show (none : Option (Int32 × (Nat → Int32))) = some out from h)
    | succ n10 ih =>
        intro x2 x3 x4 w5 H locs ls hP hD hS hl h
        have h : m_X9_isParted_L15s p1 k9 (m_X9_isParted_L15 p1 k9 n10) x2 x3 x4 w5 = some out := h
        unfold m_X9_isParted_L15s at h
        refine lv_iload hx hb dX9_isParted_15 (lv_at hl 0 rfl) ?_
        refine lv_if_lt (tgt := 56) hx hb dX9_isParted_17 (by decide) (fun c12 => ?_) (fun c12 => ?_)
        · have h := it_t c12 h
          exact J9 x3 w5 _ _ _ hP hD hS (lv_sub hl [1, 4] rfl) h
        · have h := it_f c12 h
          refine lv_aload_n hx hb dX9_isParted_20 rfl (lv_at hl 3 rfl) ?_
          refine va_get (D := D) (ci := 9) (v := .ref a_t_coat) (C := RX9) (T := TX9) (N := 21) hx hb hg inG_X9 hown hK hP 0 rfl rfl 10 (by decide) (hg _ q_955) (fun _ h9 => h9) rfl dX9_isParted_21 ?_
          refine lv_iload hx hb dX9_isParted_24 (lv_at hl 0 rfl) ?_
          refine lv_iload_n hx hb dX9_isParted_26 rfl (lv_at hl 2 rfl) ?_
          refine lv_iload_n hx hb dX9_isParted_27 rfl (lv_at hl 4 rfl) ?_
          refine lv_iconst (v := 1) hx hb dX9_isParted_28 kI_1 ?_
          refine lv_iadd hx hb dX9_isParted_29 ?_
          obtain ⟨hz13, h⟩ := nzI_e h
          refine lv_irem hx hb dX9_isParted_30 hz13 ?_
          obtain ⟨hi14, h⟩ := chk_e h
          refine va_iast hx hb hK hP hD hS 2 0 rfl rfl hi14 dX9_isParted_31 (fun H locs hP hD hS => ?_)
          have hP : va_P D vwCl [(a_t, .inr (9, [.ref a_t_now, g_t_tape, g_t_typed, g_t_place, g_t_isFault, g_t_readLaw, g_t_read, g_t_undone, g_t_undos, g_t_aside, .ref a_t_coat, g_t_bestCoats, g_t_bestStand, g_t_bestPaint, g_t_kept, g_t_keptUndos, g_t_isKept, g_t_lanes, g_t_sizes, g_t_items, g_t_moved])), (a_t_now, .inl (cy 0, 24, .inl t_now)), (a_t_coat, .inl (cy 0, 6, .inl (upd w5 x2.toNatClampNeg (x4 - x4 / (p1 + 1) * (p1 + 1)))))] H := hP
          have hD : va_D A [(a_t, .inr (9, [.ref a_t_now, g_t_tape, g_t_typed, g_t_place, g_t_isFault, g_t_readLaw, g_t_read, g_t_undone, g_t_undos, g_t_aside, .ref a_t_coat, g_t_bestCoats, g_t_bestStand, g_t_bestPaint, g_t_kept, g_t_keptUndos, g_t_isKept, g_t_lanes, g_t_sizes, g_t_items, g_t_moved])), (a_t_now, .inl (cy 0, 24, .inl t_now)), (a_t_coat, .inl (cy 0, 6, .inl (upd w5 x2.toNatClampNeg (x4 - x4 / (p1 + 1) * (p1 + 1)))))] := hD
          refine lv_iload_n hx hb dX9_isParted_32 rfl (lv_at hl 2 rfl) ?_
          refine lv_iload_n hx hb dX9_isParted_33 rfl (lv_at hl 4 rfl) ?_
          refine lv_iconst (v := 1) hx hb dX9_isParted_34 kI_1 ?_
          refine lv_iadd hx hb dX9_isParted_35 ?_
          obtain ⟨hz15, h⟩ := nzI_e h
          refine lv_idiv hx hb dX9_isParted_36 hz15 ?_
          refine lv_topi (fun x16 ex16 => ?_)
          have h := bnd_e ex16 h
          refine lv_istore_n (lv' := [(3, .int x16), (5, .int x2), (4, .int x3), (0, .ref a_t), (2, .int p1)]) hx hb dX9_isParted_37 rfl hl (by decide) rfl (fun ls hl => ?_)
          refine lv_iload hx hb dX9_isParted_38 (lv_at hl 2 rfl) ?_
          refine lv_aload_n hx hb dX9_isParted_40 rfl (lv_at hl 3 rfl) ?_
          refine va_get (D := D) (ci := 9) (v := .ref a_t_coat) (C := RX9) (T := TX9) (N := 21) hx hb hg inG_X9 hown hK hP 0 rfl rfl 10 (by decide) (hg _ q_955) (fun _ h9 => h9) rfl dX9_isParted_41 ?_
          refine lv_iload hx hb dX9_isParted_44 (lv_at hl 1 rfl) ?_
          obtain ⟨hi17, h⟩ := chk_e h
          refine va_iald hx hb hK hP 2 0 rfl rfl hi17 dX9_isParted_46 ?_
          refine lv_iadd hx hb dX9_isParted_47 ?_
          refine lv_topi (fun x18 ex18 => ?_)
          have h := bnd_e ex18 h
          refine lv_istore (lv' := [(4, .int x18), (3, .int x16), (5, .int x2), (0, .ref a_t), (2, .int p1)]) hx hb dX9_isParted_48 hl (by decide) rfl (fun ls hl => ?_)
          obtain ⟨x19, ex19⟩ : ∃ y : Int32, y = x2 + (-1) := ⟨_, rfl⟩
          have h := bnd_e ex19 h
          refine lv_iinc (v := x19) (lv' := [(5, .int x19), (4, .int x18), (3, .int x16), (0, .ref a_t), (2, .int p1)]) hx hb dX9_isParted_50 hl (k := 2) rfl (inc_e kI_m1 ex19) (by decide) rfl (fun ls hl => ?_)
          refine lv_goto (tgt := 15) hx hb dX9_isParted_53 (by decide) ?_
          exact ih x19 x18 x16 (upd w5 x2.toNatClampNeg (x4 - x4 / (p1 + 1) * (p1 + 1))) _ _ _ hP hD hS (lv_sub hl [0, 1, 2, 3, 4] rfl) h
  exact L10 F x1 0 p0 t_coat _ _ _ hP hD hS (lv_sub hl [0, 1, 2, 3, 5] rfl) h

def m_X9_triesCoats_L98s (t_coat : Nat → Int32) (k13 : (Nat → Int32) → Option ((Nat → Int32) × (Nat → Int32) × Int32 × Int32)) (r15 : Int32 → (Nat → Int32) → Option ((Nat → Int32) × (Nat → Int32) × Int32 × Int32)) (x10 : Int32) (w11 : Nat → Int32) : Option ((Nat → Int32) × (Nat → Int32) × Int32 × Int32) := (if 6 ≤ x10 then k13 w11 else chk x10 6 (chk x10 6 (bnd (x10 + 1) (fun x19 => r15 x19 (upd w11 x10.toNatClampNeg (t_coat x10.toNatClampNeg))))))
def m_X9_triesCoats_L98 (t_coat : Nat → Int32) (k13 : (Nat → Int32) → Option ((Nat → Int32) × (Nat → Int32) × Int32 × Int32)) : Nat → Int32 → (Nat → Int32) → Option ((Nat → Int32) × (Nat → Int32) × Int32 × Int32)
  | 0 => fun _ _ => none
  | nF + 1 => m_X9_triesCoats_L98s t_coat k13 (m_X9_triesCoats_L98 t_coat k13 nF)
def m_X9_triesCoats_L2s (t_coat : Nat → Int32) (k24 : (Nat → Int32) → Option ((Nat → Int32) × (Nat → Int32) × Int32 × Int32)) (r26 : Int32 → (Nat → Int32) → Option ((Nat → Int32) × (Nat → Int32) × Int32 × Int32)) (x1 : Int32) (w2 : Nat → Int32) : Option ((Nat → Int32) × (Nat → Int32) × Int32 × Int32) := (if (w2 0) ≤ x1 then k24 w2 else (m_X9_paintOf w2 x1).bind (fun v28 => chk x1 6 ((m_X9_paints w2 x1 (v28 + (t_coat x1.toNatClampNeg))).bind (fun v30 => bnd (x1 + 1) (fun x31 => r26 x31 v30)))))
def m_X9_triesCoats_L2 (t_coat : Nat → Int32) (k24 : (Nat → Int32) → Option ((Nat → Int32) × (Nat → Int32) × Int32 × Int32)) : Nat → Int32 → (Nat → Int32) → Option ((Nat → Int32) × (Nat → Int32) × Int32 × Int32)
  | 0 => fun _ _ => none
  | nF + 1 => m_X9_triesCoats_L2s t_coat k24 (m_X9_triesCoats_L2 t_coat k24 nF)
def m_X9_triesCoats (F : Nat) (t_now : Nat → Int32) (t_aside : Nat → Int32) (t_coat : Nat → Int32) (t_bestCoats : Nat → Int32) (t_bestStand : Int32) (t_bestPaint : Int32) (p0 : Int32) : Option ((Nat → Int32) × (Nat → Int32) × Int32 × Int32) := m_X9_triesCoats_L2 t_coat (fun (w3 : Nat → Int32) => (m_X9_goesOn F w3 p0).bind (fun v4 => (m_X9_standing F v4).bind (fun v5 => (m_X9_many F v5).bind (fun v6 => (m_X9_standing F v4).bind (fun v7 => (m_X9_paintAll F v4 v7).bind (fun v8 => (m_X9_backs F v4 t_aside).bind (fun v9 => jn (m_X9_triesCoats_L98 t_coat (fun (w12 : Nat → Int32) => some (v9, w12, v6, v8)) F 0 t_bestCoats) (fun k20 => (if t_bestStand < v6 then k20 else (if v6 = t_bestStand then (if v8 ≤ t_bestPaint then some (v9, t_bestCoats, t_bestStand, t_bestPaint) else k20) else some (v9, t_bestCoats, t_bestStand, t_bestPaint))))))))))) F 0 t_now
set_option maxHeartbeats 4000000 in
set_option maxRecDepth 100000 in
theorem c_X9_triesCoats (l : Launch) (D : va_G) (cy : Nat → ClassId) (a_t : Nat) (a_t_now : Nat) (a_t_aside : Nat) (a_t_coat : Nat) (a_t_bestCoats : Nat) (sz : Nat) (g_t_tape : Value) (g_t_typed : Value) (g_t_place : Value) (g_t_isFault : Value) (g_t_readLaw : Value) (g_t_read : Value) (g_t_undone : Value) (g_t_undos : Value) (g_t_kept : Value) (g_t_keptUndos : Value) (g_t_isKept : Value) (g_t_lanes : Value) (g_t_sizes : Value) (g_t_items : Value) (g_t_moved : Value) (t_now : Nat → Int32) (t_aside : Nat → Int32) (t_coat : Nat → Int32) (t_bestCoats : Nat → Int32) (t_bestStand : Int32) (t_bestPaint : Int32) (p0 : Int32) (F : Nat) (out : (Nat → Int32) × (Nat → Int32) × Int32 × Int32) (h : m_X9_triesCoats F t_now t_aside t_coat t_bestCoats t_bestStand t_bestPaint p0 = some out) : MetM l D cy yX9_triesCoats cX9_triesCoats 5 none (rmG 7 156) [.ref a_t, .int p0] sz [(a_t, .inr (9, [.ref a_t_now, g_t_tape, g_t_typed, g_t_place, g_t_isFault, g_t_readLaw, g_t_read, g_t_undone, g_t_undos, .ref a_t_aside, .ref a_t_coat, .ref a_t_bestCoats, .int t_bestStand, .int t_bestPaint, g_t_kept, g_t_keptUndos, g_t_isKept, g_t_lanes, g_t_sizes, g_t_items, g_t_moved])), (a_t_now, .inl (cy 0, 24, .inl t_now)), (a_t_aside, .inl (cy 0, 24, .inl t_aside)), (a_t_coat, .inl (cy 0, 6, .inl t_coat)), (a_t_bestCoats, .inl (cy 0, 6, .inl t_bestCoats))] none [(a_t, .inr (9, [.ref a_t_now, g_t_tape, g_t_typed, g_t_place, g_t_isFault, g_t_readLaw, g_t_read, g_t_undone, g_t_undos, .ref a_t_aside, .ref a_t_coat, .ref a_t_bestCoats, .int out.2.2.1, .int out.2.2.2, g_t_kept, g_t_keptUndos, g_t_isKept, g_t_lanes, g_t_sizes, g_t_items, g_t_moved])), (a_t_now, .inl (cy 0, 24, .inl out.1)), (a_t_aside, .inl (cy 0, 24, .inl t_aside)), (a_t_coat, .inl (cy 0, 6, .inl t_coat)), (a_t_bestCoats, .inl (cy 0, 6, .inl out.2.1))] := by
  refine startMv (own := RX9) (by decide) rfl (Nat.le_of_ble_eq_true rfl) ?_
  intro p e s m below meth c QQ A hx hb hml hown hg hK hP hD hS hA hret ls hl
  have hl : lv_has ls 5 [(0, .ref a_t), (1, .int p0)] := hl
  unfold m_X9_triesCoats at h
  refine lv_iconst (v := 0) hx hb dX9_triesCoats_0 kI_0 ?_
  refine lv_istore_n (lv' := [(2, .int 0), (0, .ref a_t), (1, .int p0)]) hx hb dX9_triesCoats_1 rfl hl (by decide) rfl (fun ls hl => ?_)
  obtain ⟨k24, hk24, h⟩ := kap (fun z => m_X9_triesCoats_L2 t_coat z F 0 t_now) h
  have J24 : ∀ (w3 : Nat → Int32) (H : Heap) (locs : List Loc) (ls : Array Slot), va_P D vwCl [(a_t, .inr (9, [.ref a_t_now, g_t_tape, g_t_typed, g_t_place, g_t_isFault, g_t_readLaw, g_t_read, g_t_undone, g_t_undos, .ref a_t_aside, .ref a_t_coat, .ref a_t_bestCoats, .int t_bestStand, .int t_bestPaint, g_t_kept, g_t_keptUndos, g_t_isKept, g_t_lanes, g_t_sizes, g_t_items, g_t_moved])), (a_t_now, .inl (cy 0, 24, .inl w3)), (a_t_aside, .inl (cy 0, 24, .inl t_aside)), (a_t_coat, .inl (cy 0, 6, .inl t_coat)), (a_t_bestCoats, .inl (cy 0, 6, .inl t_bestCoats))] H → va_D A [(a_t, .inr (9, [.ref a_t_now, g_t_tape, g_t_typed, g_t_place, g_t_isFault, g_t_readLaw, g_t_read, g_t_undone, g_t_undos, .ref a_t_aside, .ref a_t_coat, .ref a_t_bestCoats, .int t_bestStand, .int t_bestPaint, g_t_kept, g_t_keptUndos, g_t_isKept, g_t_lanes, g_t_sizes, g_t_items, g_t_moved])), (a_t_now, .inl (cy 0, 24, .inl w3)), (a_t_aside, .inl (cy 0, 24, .inl t_aside)), (a_t_coat, .inl (cy 0, 6, .inl t_coat)), (a_t_bestCoats, .inl (cy 0, 6, .inl t_bestCoats))] → va_S A s.heap H locs → lv_has ls 5 [(0, .ref a_t), (1, .int p0)] → k24 w3 = some out → W p l e (rmG 7 156) s m [.ref a_t, .int p0].toArray below meth c H locs 0 0 QQ (F0 m 35 ls []) := by
    intro w3 H locs ls hP hD hS hl h
    rw [hk24] at h
    refine lv_aload_n hx hb dX9_triesCoats_35 rfl (lv_at hl 0 rfl) ?_
    refine lv_iload_n hx hb dX9_triesCoats_36 rfl (lv_at hl 1 rfl) ?_
    obtain ⟨v4, hv4, h⟩ := bind_e h
    refine callMV (As := [.int p0]) (rest := []) (wr := [(a_t_aside, .inl (cy 0, 24, .inl t_aside)), (a_t_coat, .inl (cy 0, 6, .inl t_coat)), (a_t_bestCoats, .inl (cy 0, 6, .inl t_bestCoats))]) (w2 := [(a_t, .inr (9, [.ref a_t_now, g_t_tape, g_t_typed, g_t_place, g_t_isFault, g_t_readLaw, g_t_read, g_t_undone, g_t_undos, .ref a_t_aside, .ref a_t_coat, .ref a_t_bestCoats, .int t_bestStand, .int t_bestPaint, g_t_kept, g_t_keptUndos, g_t_isKept, g_t_lanes, g_t_sizes, g_t_items, g_t_moved])), (a_t_now, .inl (cy 0, 24, .inl v4)), (a_t_aside, .inl (cy 0, 24, .inl t_aside)), (a_t_coat, .inl (cy 0, 6, .inl t_coat)), (a_t_bestCoats, .inl (cy 0, 6, .inl t_bestCoats))]) hx hb hml hown hg (c_X9_goesOn l D cy a_t a_t_now _ (g_t_tape) (g_t_typed) (g_t_place) (g_t_isFault) (g_t_readLaw) (g_t_read) (g_t_undone) (g_t_undos) (.ref a_t_aside) (.ref a_t_coat) (.ref a_t_bestCoats) (.int t_bestStand) (.int t_bestPaint) (g_t_kept) (g_t_keptUndos) (g_t_isKept) (g_t_lanes) (g_t_sizes) (g_t_items) (g_t_moved) w3 p0 F v4 hv4) q_1196 q_1193 q_63 q_1195 q_46 hd_X9_goesOn ⟨(Nat.le_of_ble_eq_true rfl), (Nat.le_of_ble_eq_true rfl)⟩ hK hP hD hS hA [0, 1] [2, 3, 4] rfl rfl rfl rfl (by decide) [3, 4, 0, 1, 2] rfl rfl 0 9 rfl rfl rfl rfl rfl rfl hl.1 rfl rfl (Nat.le_of_ble_eq_true rfl) dX9_triesCoats_37 (fun H locs hP hD hS => ?_)
    refine lv_aload_n hx hb dX9_triesCoats_40 rfl (lv_at hl 0 rfl) ?_
    obtain ⟨v5, hv5, h⟩ := bind_e h
    refine callRV (As := []) (rest := []) (v0 := .int v5) hx hb hml hown hg (c_X9_standing l D cy a_t a_t_now (g_t_tape) (g_t_typed) (g_t_place) (g_t_isFault) (g_t_readLaw) (g_t_read) (g_t_undone) (g_t_undos) (.ref a_t_aside) (.ref a_t_coat) (.ref a_t_bestCoats) (.int t_bestStand) (.int t_bestPaint) (g_t_kept) (g_t_keptUndos) (g_t_isKept) (g_t_lanes) (g_t_sizes) (g_t_items) (g_t_moved) v4 F v5 hv5) q_1077 q_1074 q_63 q_1076 q_33 hd_X9_standing ⟨(Nat.le_of_ble_eq_true rfl), (Nat.le_of_ble_eq_true rfl)⟩ hK hP [0, 1] rfl 0 9 rfl rfl rfl rfl rfl rfl hl.1 rfl (Nat.le_of_ble_eq_true rfl) dX9_triesCoats_41 ?_
    obtain ⟨v6, hv6, h⟩ := bind_e h
    refine callRS (As := [.int v5]) (rest := []) (v0 := .int v6) hx hb hml hown hg (c_X9_many l D cy v5 F v6 hv6) q_1073 q_1071 q_63 q_1072 hd_X9_many ⟨(Nat.le_of_ble_eq_true rfl), (Nat.le_of_ble_eq_true rfl)⟩ hK hP [] rfl rfl rfl rfl hl.1 rfl (Nat.le_of_ble_eq_true rfl) dX9_triesCoats_44 ?_
    refine lv_istore_n (lv' := [(2, .int v6), (0, .ref a_t), (1, .int p0)]) hx hb dX9_triesCoats_47 rfl hl (by decide) rfl (fun ls hl => ?_)
    refine lv_aload_n hx hb dX9_triesCoats_48 rfl (lv_at hl 1 rfl) ?_
    refine lv_aload_n hx hb dX9_triesCoats_49 rfl (lv_at hl 1 rfl) ?_
    obtain ⟨v7, hv7, h⟩ := bind_e h
    refine callRV (As := []) (rest := [.ref a_t]) (v0 := .int v7) hx hb hml hown hg (c_X9_standing l D cy a_t a_t_now (g_t_tape) (g_t_typed) (g_t_place) (g_t_isFault) (g_t_readLaw) (g_t_read) (g_t_undone) (g_t_undos) (.ref a_t_aside) (.ref a_t_coat) (.ref a_t_bestCoats) (.int t_bestStand) (.int t_bestPaint) (g_t_kept) (g_t_keptUndos) (g_t_isKept) (g_t_lanes) (g_t_sizes) (g_t_items) (g_t_moved) v4 F v7 hv7) q_1077 q_1074 q_63 q_1076 q_33 hd_X9_standing ⟨(Nat.le_of_ble_eq_true rfl), (Nat.le_of_ble_eq_true rfl)⟩ hK hP [0, 1] rfl 0 9 rfl rfl rfl rfl rfl rfl hl.1 rfl (Nat.le_of_ble_eq_true rfl) dX9_triesCoats_50 ?_
    obtain ⟨v8, hv8, h⟩ := bind_e h
    refine callRV (As := [.int v7]) (rest := []) (v0 := .int v8) hx hb hml hown hg (c_X9_paintAll l D cy a_t a_t_now (g_t_tape) (g_t_typed) (g_t_place) (g_t_isFault) (g_t_readLaw) (g_t_read) (g_t_undone) (g_t_undos) (.ref a_t_aside) (.ref a_t_coat) (.ref a_t_bestCoats) (.int t_bestStand) (.int t_bestPaint) (g_t_kept) (g_t_keptUndos) (g_t_isKept) (g_t_lanes) (g_t_sizes) (g_t_items) (g_t_moved) v4 v7 F v8 hv8) q_1107 q_1104 q_63 q_1106 q_36 hd_X9_paintAll ⟨(Nat.le_of_ble_eq_true rfl), (Nat.le_of_ble_eq_true rfl)⟩ hK hP [0, 1] rfl 0 9 rfl rfl rfl rfl rfl rfl hl.1 rfl (Nat.le_of_ble_eq_true rfl) dX9_triesCoats_53 ?_
    refine lv_istore_n (lv' := [(3, .int v8), (2, .int v6), (0, .ref a_t), (1, .int p0)]) hx hb dX9_triesCoats_56 rfl hl (by decide) rfl (fun ls hl => ?_)
    refine lv_aload_n hx hb dX9_triesCoats_57 rfl (lv_at hl 2 rfl) ?_
    obtain ⟨v9, hv9, h⟩ := bind_e h
    refine callMV (As := []) (rest := []) (wr := [(a_t_coat, .inl (cy 0, 6, .inl t_coat)), (a_t_bestCoats, .inl (cy 0, 6, .inl t_bestCoats))]) (w2 := [(a_t, .inr (9, [.ref a_t_now, g_t_tape, g_t_typed, g_t_place, g_t_isFault, g_t_readLaw, g_t_read, g_t_undone, g_t_undos, .ref a_t_aside, .ref a_t_coat, .ref a_t_bestCoats, .int t_bestStand, .int t_bestPaint, g_t_kept, g_t_keptUndos, g_t_isKept, g_t_lanes, g_t_sizes, g_t_items, g_t_moved])), (a_t_now, .inl (cy 0, 24, .inl v9)), (a_t_aside, .inl (cy 0, 24, .inl t_aside)), (a_t_coat, .inl (cy 0, 6, .inl t_coat)), (a_t_bestCoats, .inl (cy 0, 6, .inl t_bestCoats))]) hx hb hml hown hg (c_X9_backs l D cy a_t a_t_now a_t_aside _ (g_t_tape) (g_t_typed) (g_t_place) (g_t_isFault) (g_t_readLaw) (g_t_read) (g_t_undone) (g_t_undos) (.ref a_t_coat) (.ref a_t_bestCoats) (.int t_bestStand) (.int t_bestPaint) (g_t_kept) (g_t_keptUndos) (g_t_isKept) (g_t_lanes) (g_t_sizes) (g_t_items) (g_t_moved) v4 t_aside F v9 hv9) q_1200 q_1197 q_63 q_1199 q_47 hd_X9_backs ⟨(Nat.le_of_ble_eq_true rfl), (Nat.le_of_ble_eq_true rfl)⟩ hK hP hD hS hA [0, 1, 2] [3, 4] rfl rfl rfl rfl (by decide) [2, 3, 4, 0, 1] rfl rfl 0 9 rfl rfl rfl rfl rfl rfl hl.1 rfl rfl (Nat.le_of_ble_eq_true rfl) dX9_triesCoats_58 (fun H locs hP hD hS => ?_)
    refine lv_iload_n hx hb dX9_triesCoats_61 rfl (lv_at hl 1 rfl) ?_
    refine lv_aload_n hx hb dX9_triesCoats_62 rfl (lv_at hl 2 rfl) ?_
    refine va_get (D := D) (ci := 9) (v := .int t_bestStand) (C := RX9) (T := TX9) (N := 21) hx hb hg inG_X9 hown hK hP 0 rfl rfl 12 (by decide) (hg _ q_957) (fun _ h9 => h9) rfl dX9_triesCoats_63 ?_
    obtain ⟨k20, hk20, h⟩ := jn_e h
    have J20 : ∀ (H : Heap) (locs : List Loc) (ls : Array Slot), va_P D vwCl [(a_t, .inr (9, [.ref a_t_now, g_t_tape, g_t_typed, g_t_place, g_t_isFault, g_t_readLaw, g_t_read, g_t_undone, g_t_undos, .ref a_t_aside, .ref a_t_coat, .ref a_t_bestCoats, .int t_bestStand, .int t_bestPaint, g_t_kept, g_t_keptUndos, g_t_isKept, g_t_lanes, g_t_sizes, g_t_items, g_t_moved])), (a_t_now, .inl (cy 0, 24, .inl v9)), (a_t_aside, .inl (cy 0, 24, .inl t_aside)), (a_t_coat, .inl (cy 0, 6, .inl t_coat)), (a_t_bestCoats, .inl (cy 0, 6, .inl t_bestCoats))] H → va_D A [(a_t, .inr (9, [.ref a_t_now, g_t_tape, g_t_typed, g_t_place, g_t_isFault, g_t_readLaw, g_t_read, g_t_undone, g_t_undos, .ref a_t_aside, .ref a_t_coat, .ref a_t_bestCoats, .int t_bestStand, .int t_bestPaint, g_t_kept, g_t_keptUndos, g_t_isKept, g_t_lanes, g_t_sizes, g_t_items, g_t_moved])), (a_t_now, .inl (cy 0, 24, .inl v9)), (a_t_aside, .inl (cy 0, 24, .inl t_aside)), (a_t_coat, .inl (cy 0, 6, .inl t_coat)), (a_t_bestCoats, .inl (cy 0, 6, .inl t_bestCoats))] → va_S A s.heap H locs → lv_has ls 5 [(3, .int v8), (2, .int v6), (0, .ref a_t)] → k20 = some out → W p l e (rmG 7 156) s m [.ref a_t, .int p0].toArray below meth c H locs 0 0 QQ (F0 m 85 ls []) := by
      intro H locs ls hP hD hS hl h
      rw [hk20] at h
      refine lv_aload_n hx hb dX9_triesCoats_85 rfl (lv_at hl 2 rfl) ?_
      refine lv_iload_n hx hb dX9_triesCoats_86 rfl (lv_at hl 1 rfl) ?_
      refine va_put (D := D) (ci := 9) (v := .int v6) (ty := .int) (C := RX9) (T := TX9) (N := 21) hx hb hg inG_X9 tyX9 tyX9_ok nmX9 hown hK hP hD hS 0 rfl rfl 12 (by decide) (hg _ q_957) (fun _ h9 => h9) rfl (tyX9_ok 12 (by decide)) rfl rfl (Nat.le_of_ble_eq_true rfl) dX9_triesCoats_87 (fun H locs hP hD hS => ?_)
      have hP : va_P D vwCl [(a_t, .inr (9, [.ref a_t_now, g_t_tape, g_t_typed, g_t_place, g_t_isFault, g_t_readLaw, g_t_read, g_t_undone, g_t_undos, .ref a_t_aside, .ref a_t_coat, .ref a_t_bestCoats, .int v6, .int t_bestPaint, g_t_kept, g_t_keptUndos, g_t_isKept, g_t_lanes, g_t_sizes, g_t_items, g_t_moved])), (a_t_now, .inl (cy 0, 24, .inl v9)), (a_t_aside, .inl (cy 0, 24, .inl t_aside)), (a_t_coat, .inl (cy 0, 6, .inl t_coat)), (a_t_bestCoats, .inl (cy 0, 6, .inl t_bestCoats))] H := hP
      have hD : va_D A [(a_t, .inr (9, [.ref a_t_now, g_t_tape, g_t_typed, g_t_place, g_t_isFault, g_t_readLaw, g_t_read, g_t_undone, g_t_undos, .ref a_t_aside, .ref a_t_coat, .ref a_t_bestCoats, .int v6, .int t_bestPaint, g_t_kept, g_t_keptUndos, g_t_isKept, g_t_lanes, g_t_sizes, g_t_items, g_t_moved])), (a_t_now, .inl (cy 0, 24, .inl v9)), (a_t_aside, .inl (cy 0, 24, .inl t_aside)), (a_t_coat, .inl (cy 0, 6, .inl t_coat)), (a_t_bestCoats, .inl (cy 0, 6, .inl t_bestCoats))] := hD
      refine lv_aload_n hx hb dX9_triesCoats_90 rfl (lv_at hl 2 rfl) ?_
      refine lv_iload_n hx hb dX9_triesCoats_91 rfl (lv_at hl 0 rfl) ?_
      refine va_put (D := D) (ci := 9) (v := .int v8) (ty := .int) (C := RX9) (T := TX9) (N := 21) hx hb hg inG_X9 tyX9 tyX9_ok nmX9 hown hK hP hD hS 0 rfl rfl 13 (by decide) (hg _ q_958) (fun _ h9 => h9) rfl (tyX9_ok 13 (by decide)) rfl rfl (Nat.le_of_ble_eq_true rfl) dX9_triesCoats_92 (fun H locs hP hD hS => ?_)
      have hP : va_P D vwCl [(a_t, .inr (9, [.ref a_t_now, g_t_tape, g_t_typed, g_t_place, g_t_isFault, g_t_readLaw, g_t_read, g_t_undone, g_t_undos, .ref a_t_aside, .ref a_t_coat, .ref a_t_bestCoats, .int v6, .int v8, g_t_kept, g_t_keptUndos, g_t_isKept, g_t_lanes, g_t_sizes, g_t_items, g_t_moved])), (a_t_now, .inl (cy 0, 24, .inl v9)), (a_t_aside, .inl (cy 0, 24, .inl t_aside)), (a_t_coat, .inl (cy 0, 6, .inl t_coat)), (a_t_bestCoats, .inl (cy 0, 6, .inl t_bestCoats))] H := hP
      have hD : va_D A [(a_t, .inr (9, [.ref a_t_now, g_t_tape, g_t_typed, g_t_place, g_t_isFault, g_t_readLaw, g_t_read, g_t_undone, g_t_undos, .ref a_t_aside, .ref a_t_coat, .ref a_t_bestCoats, .int v6, .int v8, g_t_kept, g_t_keptUndos, g_t_isKept, g_t_lanes, g_t_sizes, g_t_items, g_t_moved])), (a_t_now, .inl (cy 0, 24, .inl v9)), (a_t_aside, .inl (cy 0, 24, .inl t_aside)), (a_t_coat, .inl (cy 0, 6, .inl t_coat)), (a_t_bestCoats, .inl (cy 0, 6, .inl t_bestCoats))] := hD
      refine lv_iconst (v := 0) hx hb dX9_triesCoats_95 kI_0 ?_
      refine lv_istore (lv' := [(4, .int 0), (3, .int v8), (2, .int v6), (0, .ref a_t)]) hx hb dX9_triesCoats_96 hl (by decide) rfl (fun ls hl => ?_)
      obtain ⟨k13, hk13, h⟩ := kap (fun z => m_X9_triesCoats_L98 t_coat z F 0 t_bestCoats) h
      have J13 : ∀ (w12 : Nat → Int32) (H : Heap) (locs : List Loc) (ls : Array Slot), va_P D vwCl [(a_t, .inr (9, [.ref a_t_now, g_t_tape, g_t_typed, g_t_place, g_t_isFault, g_t_readLaw, g_t_read, g_t_undone, g_t_undos, .ref a_t_aside, .ref a_t_coat, .ref a_t_bestCoats, .int v6, .int v8, g_t_kept, g_t_keptUndos, g_t_isKept, g_t_lanes, g_t_sizes, g_t_items, g_t_moved])), (a_t_now, .inl (cy 0, 24, .inl v9)), (a_t_aside, .inl (cy 0, 24, .inl t_aside)), (a_t_coat, .inl (cy 0, 6, .inl t_coat)), (a_t_bestCoats, .inl (cy 0, 6, .inl w12))] H → va_D A [(a_t, .inr (9, [.ref a_t_now, g_t_tape, g_t_typed, g_t_place, g_t_isFault, g_t_readLaw, g_t_read, g_t_undone, g_t_undos, .ref a_t_aside, .ref a_t_coat, .ref a_t_bestCoats, .int v6, .int v8, g_t_kept, g_t_keptUndos, g_t_isKept, g_t_lanes, g_t_sizes, g_t_items, g_t_moved])), (a_t_now, .inl (cy 0, 24, .inl v9)), (a_t_aside, .inl (cy 0, 24, .inl t_aside)), (a_t_coat, .inl (cy 0, 6, .inl t_coat)), (a_t_bestCoats, .inl (cy 0, 6, .inl w12))] → va_S A s.heap H locs → lv_has ls 5 [] → k13 w12 = some out → W p l e (rmG 7 156) s m [.ref a_t, .int p0].toArray below meth c H locs 0 0 QQ (F0 m 125 ls []) := by
        intro w12 H locs ls hP hD hS hl h
        rw [hk13] at h
        exact hret _ _ _ ls 125 dX9_triesCoats_125 (by rw [← Option.some.inj h]) hP hD hS
      have L14 : ∀ (n14 : Nat) (x10 : Int32) (w11 : Nat → Int32) (H : Heap) (locs : List Loc) (ls : Array Slot), va_P D vwCl [(a_t, .inr (9, [.ref a_t_now, g_t_tape, g_t_typed, g_t_place, g_t_isFault, g_t_readLaw, g_t_read, g_t_undone, g_t_undos, .ref a_t_aside, .ref a_t_coat, .ref a_t_bestCoats, .int v6, .int v8, g_t_kept, g_t_keptUndos, g_t_isKept, g_t_lanes, g_t_sizes, g_t_items, g_t_moved])), (a_t_now, .inl (cy 0, 24, .inl v9)), (a_t_aside, .inl (cy 0, 24, .inl t_aside)), (a_t_coat, .inl (cy 0, 6, .inl t_coat)), (a_t_bestCoats, .inl (cy 0, 6, .inl w11))] H → va_D A [(a_t, .inr (9, [.ref a_t_now, g_t_tape, g_t_typed, g_t_place, g_t_isFault, g_t_readLaw, g_t_read, g_t_undone, g_t_undos, .ref a_t_aside, .ref a_t_coat, .ref a_t_bestCoats, .int v6, .int v8, g_t_kept, g_t_keptUndos, g_t_isKept, g_t_lanes, g_t_sizes, g_t_items, g_t_moved])), (a_t_now, .inl (cy 0, 24, .inl v9)), (a_t_aside, .inl (cy 0, 24, .inl t_aside)), (a_t_coat, .inl (cy 0, 6, .inl t_coat)), (a_t_bestCoats, .inl (cy 0, 6, .inl w11))] → va_S A s.heap H locs → lv_has ls 5 [(4, .int x10), (0, .ref a_t)] → m_X9_triesCoats_L98 t_coat k13 n14 x10 w11 = some out → W p l e (rmG 7 156) s m [.ref a_t, .int p0].toArray below meth c H locs 0 0 QQ (F0 m 98 ls []) := by
        intro n14
        induction n14 with
        | zero => intro x10 w11 H locs ls hP hD hS hl h; exact nomatch (show (none : Option ((Nat → Int32) × (Nat → Int32) × Int32 × Int32)) = some out from h)
        | succ n14 ih =>
            intro x10 w11 H locs ls hP hD hS hl h
            have h : m_X9_triesCoats_L98s t_coat k13 (m_X9_triesCoats_L98 t_coat k13 n14) x10 w11 = some out := h
            unfold m_X9_triesCoats_L98s at h
            refine lv_iload hx hb dX9_triesCoats_98 (lv_at hl 0 rfl) ?_
            refine lv_bipush (v := 6) hx hb dX9_triesCoats_100 kB_6 ?_
            refine lv_icmp_ge (tgt := 125) hx hb dX9_triesCoats_102 (by decide) (fun c16 => ?_) (fun c16 => ?_)
            · have h := it_t c16 h
              exact J13 w11 _ _ _ hP hD hS (lv_sub hl [] rfl) h
            · have h := it_f c16 h
              refine lv_aload_n hx hb dX9_triesCoats_105 rfl (lv_at hl 1 rfl) ?_
              refine va_get (D := D) (ci := 9) (v := .ref a_t_bestCoats) (C := RX9) (T := TX9) (N := 21) hx hb hg inG_X9 hown hK hP 0 rfl rfl 11 (by decide) (hg _ q_956) (fun _ h9 => h9) rfl dX9_triesCoats_106 ?_
              refine lv_iload hx hb dX9_triesCoats_109 (lv_at hl 0 rfl) ?_
              refine lv_aload_n hx hb dX9_triesCoats_111 rfl (lv_at hl 1 rfl) ?_
              refine va_get (D := D) (ci := 9) (v := .ref a_t_coat) (C := RX9) (T := TX9) (N := 21) hx hb hg inG_X9 hown hK hP 0 rfl rfl 10 (by decide) (hg _ q_955) (fun _ h9 => h9) rfl dX9_triesCoats_112 ?_
              refine lv_iload hx hb dX9_triesCoats_115 (lv_at hl 0 rfl) ?_
              obtain ⟨hi17, h⟩ := chk_e h
              refine va_iald hx hb hK hP 3 0 rfl rfl hi17 dX9_triesCoats_117 ?_
              obtain ⟨hi18, h⟩ := chk_e h
              refine va_iast hx hb hK hP hD hS 4 0 rfl rfl hi18 dX9_triesCoats_118 (fun H locs hP hD hS => ?_)
              have hP : va_P D vwCl [(a_t, .inr (9, [.ref a_t_now, g_t_tape, g_t_typed, g_t_place, g_t_isFault, g_t_readLaw, g_t_read, g_t_undone, g_t_undos, .ref a_t_aside, .ref a_t_coat, .ref a_t_bestCoats, .int v6, .int v8, g_t_kept, g_t_keptUndos, g_t_isKept, g_t_lanes, g_t_sizes, g_t_items, g_t_moved])), (a_t_now, .inl (cy 0, 24, .inl v9)), (a_t_aside, .inl (cy 0, 24, .inl t_aside)), (a_t_coat, .inl (cy 0, 6, .inl t_coat)), (a_t_bestCoats, .inl (cy 0, 6, .inl (upd w11 x10.toNatClampNeg (t_coat x10.toNatClampNeg))))] H := hP
              have hD : va_D A [(a_t, .inr (9, [.ref a_t_now, g_t_tape, g_t_typed, g_t_place, g_t_isFault, g_t_readLaw, g_t_read, g_t_undone, g_t_undos, .ref a_t_aside, .ref a_t_coat, .ref a_t_bestCoats, .int v6, .int v8, g_t_kept, g_t_keptUndos, g_t_isKept, g_t_lanes, g_t_sizes, g_t_items, g_t_moved])), (a_t_now, .inl (cy 0, 24, .inl v9)), (a_t_aside, .inl (cy 0, 24, .inl t_aside)), (a_t_coat, .inl (cy 0, 6, .inl t_coat)), (a_t_bestCoats, .inl (cy 0, 6, .inl (upd w11 x10.toNatClampNeg (t_coat x10.toNatClampNeg))))] := hD
              obtain ⟨x19, ex19⟩ : ∃ y : Int32, y = x10 + 1 := ⟨_, rfl⟩
              have h := bnd_e ex19 h
              refine lv_iinc (v := x19) (lv' := [(4, .int x19), (0, .ref a_t)]) hx hb dX9_triesCoats_119 hl (k := 0) rfl (inc_e kI_1 ex19) (by decide) rfl (fun ls hl => ?_)
              refine lv_goto (tgt := 98) hx hb dX9_triesCoats_122 (by decide) ?_
              exact ih x19 (upd w11 x10.toNatClampNeg (t_coat x10.toNatClampNeg)) _ _ _ hP hD hS (lv_sub hl [0, 1] rfl) h
      exact L14 F 0 t_bestCoats _ _ _ hP hD hS (lv_sub hl [0, 3] rfl) h
    refine lv_icmp_gt (tgt := 85) hx hb dX9_triesCoats_66 (by decide) (fun c21 => ?_) (fun c21 => ?_)
    · have h := it_t c21 h
      exact J20  _ _ _ hP hD hS (lv_sub hl [0, 1, 2] rfl) h
    · have h := it_f c21 h
      refine lv_iload_n hx hb dX9_triesCoats_69 rfl (lv_at hl 1 rfl) ?_
      refine lv_aload_n hx hb dX9_triesCoats_70 rfl (lv_at hl 2 rfl) ?_
      refine va_get (D := D) (ci := 9) (v := .int t_bestStand) (C := RX9) (T := TX9) (N := 21) hx hb hg inG_X9 hown hK hP 0 rfl rfl 12 (by decide) (hg _ q_957) (fun _ h9 => h9) rfl dX9_triesCoats_71 ?_
      refine lv_icmp_ne (tgt := 125) hx hb dX9_triesCoats_74 (by decide) (fun c22 => ?_) (fun c22 => ?_)
      · have h := it_f c22 h
        exact hret _ _ _ ls 125 dX9_triesCoats_125 (by rw [← Option.some.inj h]) hP hD hS
      · have h := it_t c22 h
        refine lv_iload_n hx hb dX9_triesCoats_77 rfl (lv_at hl 0 rfl) ?_
        refine lv_aload_n hx hb dX9_triesCoats_78 rfl (lv_at hl 2 rfl) ?_
        refine va_get (D := D) (ci := 9) (v := .int t_bestPaint) (C := RX9) (T := TX9) (N := 21) hx hb hg inG_X9 hown hK hP 0 rfl rfl 13 (by decide) (hg _ q_958) (fun _ h9 => h9) rfl dX9_triesCoats_79 ?_
        refine lv_icmp_le (tgt := 125) hx hb dX9_triesCoats_82 (by decide) (fun c23 => ?_) (fun c23 => ?_)
        · have h := it_t c23 h
          exact hret _ _ _ ls 125 dX9_triesCoats_125 (by rw [← Option.some.inj h]) hP hD hS
        · have h := it_f c23 h
          exact J20  _ _ _ hP hD hS (lv_sub hl [0, 1, 2] rfl) h
  have L25 : ∀ (n25 : Nat) (x1 : Int32) (w2 : Nat → Int32) (H : Heap) (locs : List Loc) (ls : Array Slot), va_P D vwCl [(a_t, .inr (9, [.ref a_t_now, g_t_tape, g_t_typed, g_t_place, g_t_isFault, g_t_readLaw, g_t_read, g_t_undone, g_t_undos, .ref a_t_aside, .ref a_t_coat, .ref a_t_bestCoats, .int t_bestStand, .int t_bestPaint, g_t_kept, g_t_keptUndos, g_t_isKept, g_t_lanes, g_t_sizes, g_t_items, g_t_moved])), (a_t_now, .inl (cy 0, 24, .inl w2)), (a_t_aside, .inl (cy 0, 24, .inl t_aside)), (a_t_coat, .inl (cy 0, 6, .inl t_coat)), (a_t_bestCoats, .inl (cy 0, 6, .inl t_bestCoats))] H → va_D A [(a_t, .inr (9, [.ref a_t_now, g_t_tape, g_t_typed, g_t_place, g_t_isFault, g_t_readLaw, g_t_read, g_t_undone, g_t_undos, .ref a_t_aside, .ref a_t_coat, .ref a_t_bestCoats, .int t_bestStand, .int t_bestPaint, g_t_kept, g_t_keptUndos, g_t_isKept, g_t_lanes, g_t_sizes, g_t_items, g_t_moved])), (a_t_now, .inl (cy 0, 24, .inl w2)), (a_t_aside, .inl (cy 0, 24, .inl t_aside)), (a_t_coat, .inl (cy 0, 6, .inl t_coat)), (a_t_bestCoats, .inl (cy 0, 6, .inl t_bestCoats))] → va_S A s.heap H locs → lv_has ls 5 [(2, .int x1), (0, .ref a_t), (1, .int p0)] → m_X9_triesCoats_L2 t_coat k24 n25 x1 w2 = some out → W p l e (rmG 7 156) s m [.ref a_t, .int p0].toArray below meth c H locs 0 0 QQ (F0 m 2 ls []) := by
    intro n25
    induction n25 with
    | zero => intro x1 w2 H locs ls hP hD hS hl h; exact nomatch (show (none : Option ((Nat → Int32) × (Nat → Int32) × Int32 × Int32)) = some out from h)
    | succ n25 ih =>
        intro x1 w2 H locs ls hP hD hS hl h
        have h : m_X9_triesCoats_L2s t_coat k24 (m_X9_triesCoats_L2 t_coat k24 n25) x1 w2 = some out := h
        unfold m_X9_triesCoats_L2s at h
        refine lv_iload_n hx hb dX9_triesCoats_2 rfl (lv_at hl 0 rfl) ?_
        refine lv_aload_n hx hb dX9_triesCoats_3 rfl (lv_at hl 1 rfl) ?_
        refine va_get (D := D) (ci := 9) (v := .ref a_t_now) (C := RX9) (T := TX9) (N := 21) hx hb hg inG_X9 hown hK hP 0 rfl rfl 0 (by decide) (hg _ q_945) (fun _ h9 => h9) rfl dX9_triesCoats_4 ?_
        refine lv_iconst (v := 0) hx hb dX9_triesCoats_7 kI_0 ?_
        refine ialdK hx hb hK hP 1 0 rfl rfl (vp_in_inb (by decide)) kN_0 dX9_triesCoats_8 ?_
        refine lv_icmp_ge (tgt := 35) hx hb dX9_triesCoats_9 (by decide) (fun c27 => ?_) (fun c27 => ?_)
        · have h := it_t c27 h
          exact J24 w2 _ _ _ hP hD hS (lv_sub hl [1, 2] rfl) h
        · have h := it_f c27 h
          refine lv_aload_n hx hb dX9_triesCoats_12 rfl (lv_at hl 1 rfl) ?_
          refine lv_iload_n hx hb dX9_triesCoats_13 rfl (lv_at hl 0 rfl) ?_
          refine lv_aload_n hx hb dX9_triesCoats_14 rfl (lv_at hl 1 rfl) ?_
          refine lv_iload_n hx hb dX9_triesCoats_15 rfl (lv_at hl 0 rfl) ?_
          obtain ⟨v28, hv28, h⟩ := bind_e h
          refine callRV (As := [.int x1]) (rest := [.int x1, .ref a_t]) (v0 := .int v28) hx hb hml hown hg (c_X9_paintOf l D cy a_t a_t_now (g_t_tape) (g_t_typed) (g_t_place) (g_t_isFault) (g_t_readLaw) (g_t_read) (g_t_undone) (g_t_undos) (.ref a_t_aside) (.ref a_t_coat) (.ref a_t_bestCoats) (.int t_bestStand) (.int t_bestPaint) (g_t_kept) (g_t_keptUndos) (g_t_isKept) (g_t_lanes) (g_t_sizes) (g_t_items) (g_t_moved) w2 x1 v28 hv28) q_1059 q_1056 q_63 q_1058 q_30 hd_X9_paintOf ⟨(Nat.le_of_ble_eq_true rfl), (Nat.le_of_ble_eq_true rfl)⟩ hK hP [0, 1] rfl 0 9 rfl rfl rfl rfl rfl rfl hl.1 rfl (Nat.le_of_ble_eq_true rfl) dX9_triesCoats_16 ?_
          refine lv_aload_n hx hb dX9_triesCoats_19 rfl (lv_at hl 1 rfl) ?_
          refine va_get (D := D) (ci := 9) (v := .ref a_t_coat) (C := RX9) (T := TX9) (N := 21) hx hb hg inG_X9 hown hK hP 0 rfl rfl 10 (by decide) (hg _ q_955) (fun _ h9 => h9) rfl dX9_triesCoats_20 ?_
          refine lv_iload_n hx hb dX9_triesCoats_23 rfl (lv_at hl 0 rfl) ?_
          obtain ⟨hi29, h⟩ := chk_e h
          refine va_iald hx hb hK hP 3 0 rfl rfl hi29 dX9_triesCoats_24 ?_
          refine lv_iadd hx hb dX9_triesCoats_25 ?_
          obtain ⟨v30, hv30, h⟩ := bind_e h
          refine callMV (As := [.int x1, .int (v28 + (t_coat x1.toNatClampNeg))]) (rest := []) (wr := [(a_t_aside, .inl (cy 0, 24, .inl t_aside)), (a_t_coat, .inl (cy 0, 6, .inl t_coat)), (a_t_bestCoats, .inl (cy 0, 6, .inl t_bestCoats))]) (w2 := [(a_t, .inr (9, [.ref a_t_now, g_t_tape, g_t_typed, g_t_place, g_t_isFault, g_t_readLaw, g_t_read, g_t_undone, g_t_undos, .ref a_t_aside, .ref a_t_coat, .ref a_t_bestCoats, .int t_bestStand, .int t_bestPaint, g_t_kept, g_t_keptUndos, g_t_isKept, g_t_lanes, g_t_sizes, g_t_items, g_t_moved])), (a_t_now, .inl (cy 0, 24, .inl v30)), (a_t_aside, .inl (cy 0, 24, .inl t_aside)), (a_t_coat, .inl (cy 0, 6, .inl t_coat)), (a_t_bestCoats, .inl (cy 0, 6, .inl t_bestCoats))]) hx hb hml hown hg (c_X9_paints l D cy a_t a_t_now _ (g_t_tape) (g_t_typed) (g_t_place) (g_t_isFault) (g_t_readLaw) (g_t_read) (g_t_undone) (g_t_undos) (.ref a_t_aside) (.ref a_t_coat) (.ref a_t_bestCoats) (.int t_bestStand) (.int t_bestPaint) (g_t_kept) (g_t_keptUndos) (g_t_isKept) (g_t_lanes) (g_t_sizes) (g_t_items) (g_t_moved) w2 x1 (v28 + (t_coat x1.toNatClampNeg)) v30 hv30) q_1156 q_1153 q_63 q_1155 q_44 hd_X9_paints ⟨(Nat.le_of_ble_eq_true rfl), (Nat.le_of_ble_eq_true rfl)⟩ hK hP hD hS hA [0, 1] [2, 3, 4] rfl rfl rfl rfl (by decide) [3, 4, 0, 1, 2] rfl rfl 0 9 rfl rfl rfl rfl rfl rfl hl.1 rfl rfl (Nat.le_of_ble_eq_true rfl) dX9_triesCoats_26 (fun H locs hP hD hS => ?_)
          obtain ⟨x31, ex31⟩ : ∃ y : Int32, y = x1 + 1 := ⟨_, rfl⟩
          have h := bnd_e ex31 h
          refine lv_iinc (v := x31) (lv' := [(2, .int x31), (0, .ref a_t), (1, .int p0)]) hx hb dX9_triesCoats_29 hl (k := 0) rfl (inc_e kI_1 ex31) (by decide) rfl (fun ls hl => ?_)
          refine lv_goto (tgt := 2) hx hb dX9_triesCoats_32 (by decide) ?_
          exact ih x31 v30 _ _ _ hP hD hS (lv_sub hl [0, 1, 2] rfl) h
  exact L25 F 0 t_now _ _ _ hP hD hS (lv_sub hl [0, 1, 2] rfl) h

def m_X9_coats_L92s (p0 : Int32) (p1 : Int32) (F : Nat) (x9 : Int32) (v10 : (Nat → Int32)) (k26 : (Nat → Int32) → (Nat → Int32) → (Nat → Int32) → Int32 → Int32 → Option (Int32 × (Nat → Int32) × (Nat → Int32) × (Nat → Int32) × (Nat → Int32) × Int32 × Int32)) (r28 : Int32 → (Nat → Int32) → (Nat → Int32) → (Nat → Int32) → Int32 → Int32 → Option (Int32 × (Nat → Int32) × (Nat → Int32) × (Nat → Int32) × (Nat → Int32) × Int32 × Int32)) (x11 : Int32) (w12 : Nat → Int32) (w13 : Nat → Int32) (w14 : Nat → Int32) (w15 : Int32) (w16 : Int32) : Option (Int32 × (Nat → Int32) × (Nat → Int32) × (Nat → Int32) × (Nat → Int32) × Int32 × Int32) := (if x9 ≤ x11 then k26 w12 w13 w14 w15 w16 else (m_X9_isParted F w12 w13 x11 p0).bind (fun v30 => (if v30.1 = 0 then bnd (x11 + 1) (fun x32 => r28 x32 w12 v30.2 w14 w15 w16) else (m_X9_triesCoats F w12 v10 v30.2 w14 w15 w16 p1).bind (fun v33 => bnd (x11 + 1) (fun x34 => r28 x34 v33.1 v30.2 v33.2.1 v33.2.2.1 v33.2.2.2)))))
def m_X9_coats_L92 (p0 : Int32) (p1 : Int32) (F : Nat) (x9 : Int32) (v10 : (Nat → Int32)) (k26 : (Nat → Int32) → (Nat → Int32) → (Nat → Int32) → Int32 → Int32 → Option (Int32 × (Nat → Int32) × (Nat → Int32) × (Nat → Int32) × (Nat → Int32) × Int32 × Int32)) : Nat → Int32 → (Nat → Int32) → (Nat → Int32) → (Nat → Int32) → Int32 → Int32 → Option (Int32 × (Nat → Int32) × (Nat → Int32) × (Nat → Int32) × (Nat → Int32) × Int32 × Int32)
  | 0 => fun _ _ _ _ _ _ => none
  | nF + 1 => m_X9_coats_L92s p0 p1 F x9 v10 k26 (m_X9_coats_L92 p0 p1 F x9 v10 k26 nF)
def m_X9_coats_L50s (t_now : Nat → Int32) (p0 : Int32) (k35 : Int32 → Option (Int32 × (Nat → Int32) × (Nat → Int32) × (Nat → Int32) × (Nat → Int32) × Int32 × Int32)) (r37 : Int32 → Int32 → Option (Int32 × (Nat → Int32) × (Nat → Int32) × (Nat → Int32) × (Nat → Int32) × Int32 × Int32)) (x7 : Int32) (x8 : Int32) : Option (Int32 × (Nat → Int32) × (Nat → Int32) × (Nat → Int32) × (Nat → Int32) × Int32 × Int32) := (if (t_now 0) ≤ x7 then k35 x8 else bnd (x8 * (p0 + 1)) (fun x39 => bnd (x7 + 1) (fun x40 => r37 x40 x39)))
def m_X9_coats_L50 (t_now : Nat → Int32) (p0 : Int32) (k35 : Int32 → Option (Int32 × (Nat → Int32) × (Nat → Int32) × (Nat → Int32) × (Nat → Int32) × Int32 × Int32)) : Nat → Int32 → Int32 → Option (Int32 × (Nat → Int32) × (Nat → Int32) × (Nat → Int32) × (Nat → Int32) × Int32 × Int32)
  | 0 => fun _ _ => none
  | nF + 1 => m_X9_coats_L50s t_now p0 k35 (m_X9_coats_L50 t_now p0 k35 nF)
def m_X9_coats (F : Nat) (t_now : Nat → Int32) (t_aside : Nat → Int32) (t_coat : Nat → Int32) (t_bestCoats : Nat → Int32) (t_bestStand : Int32) (t_bestPaint : Int32) (p0 : Int32) (p1 : Int32) (p2 : Int32) : Option (Int32 × (Nat → Int32) × (Nat → Int32) × (Nat → Int32) × (Nat → Int32) × Int32 × Int32) := (m_X9_in (p0.toInt64) (0 : Int64) (8 : Int64)).bind (fun v1 => (if v1 = 0 then some ((-1), t_now, t_aside, t_coat, t_bestCoats, t_bestStand, t_bestPaint) else (m_X9_in (p1.toInt64) (1 : Int64) (30 : Int64)).bind (fun v3 => (if v3 = 0 then some ((-1), t_now, t_aside, t_coat, t_bestCoats, t_bestStand, t_bestPaint) else (if (-2) ≤ p2 then (if (t_now 0) = 0 then some ((-4), t_now, t_aside, t_coat, t_bestCoats, t_bestStand, t_bestPaint) else m_X9_coats_L50 t_now p0 (fun (x9 : Int32) => (m_X9_asides F t_now t_aside).bind (fun v10 => m_X9_coats_L92 p0 p1 F x9 v10 (fun (w17 : Nat → Int32) (w18 : Nat → Int32) (w19 : Nat → Int32) (w20 : Int32) (w21 : Int32) => (if p2 = (-1) then some (w20, w17, v10, w18, w19, w20, w21) else (if p2 = (-2) then some (w21, w17, v10, w18, w19, w20, w21) else (if (w17 0) ≤ p2 then some ((-4), w17, v10, w18, w19, w20, w21) else chk p2 6 (some (w19 p2.toNatClampNeg, w17, v10, w18, w19, w20, w21)))))) F 0 t_now t_coat t_bestCoats (-1) (-1))) F 0 1) else some ((-1), t_now, t_aside, t_coat, t_bestCoats, t_bestStand, t_bestPaint))))))
set_option maxHeartbeats 4000000 in
set_option maxRecDepth 100000 in
theorem c_X9_coats (l : Launch) (D : va_G) (cy : Nat → ClassId) (a_t : Nat) (a_t_now : Nat) (a_t_aside : Nat) (a_t_coat : Nat) (a_t_bestCoats : Nat) (sz : Nat) (g_t_tape : Value) (g_t_typed : Value) (g_t_place : Value) (g_t_isFault : Value) (g_t_readLaw : Value) (g_t_read : Value) (g_t_undone : Value) (g_t_undos : Value) (g_t_kept : Value) (g_t_keptUndos : Value) (g_t_isKept : Value) (g_t_lanes : Value) (g_t_sizes : Value) (g_t_items : Value) (g_t_moved : Value) (t_now : Nat → Int32) (t_aside : Nat → Int32) (t_coat : Nat → Int32) (t_bestCoats : Nat → Int32) (t_bestStand : Int32) (t_bestPaint : Int32) (p0 : Int32) (p1 : Int32) (p2 : Int32) (F : Nat) (out : Int32 × (Nat → Int32) × (Nat → Int32) × (Nat → Int32) × (Nat → Int32) × Int32 × Int32) (h : m_X9_coats F t_now t_aside t_coat t_bestCoats t_bestStand t_bestPaint p0 p1 p2 = some out) : MetM l D cy yX9_coats cX9_coats 6 (some .int) (rmG 8 180) [.ref a_t, .int p0, .int p1, .int p2] sz [(a_t, .inr (9, [.ref a_t_now, g_t_tape, g_t_typed, g_t_place, g_t_isFault, g_t_readLaw, g_t_read, g_t_undone, g_t_undos, .ref a_t_aside, .ref a_t_coat, .ref a_t_bestCoats, .int t_bestStand, .int t_bestPaint, g_t_kept, g_t_keptUndos, g_t_isKept, g_t_lanes, g_t_sizes, g_t_items, g_t_moved])), (a_t_now, .inl (cy 0, 24, .inl t_now)), (a_t_aside, .inl (cy 0, 24, .inl t_aside)), (a_t_coat, .inl (cy 0, 6, .inl t_coat)), (a_t_bestCoats, .inl (cy 0, 6, .inl t_bestCoats))] (some (.int out.1)) [(a_t, .inr (9, [.ref a_t_now, g_t_tape, g_t_typed, g_t_place, g_t_isFault, g_t_readLaw, g_t_read, g_t_undone, g_t_undos, .ref a_t_aside, .ref a_t_coat, .ref a_t_bestCoats, .int out.2.2.2.2.2.1, .int out.2.2.2.2.2.2, g_t_kept, g_t_keptUndos, g_t_isKept, g_t_lanes, g_t_sizes, g_t_items, g_t_moved])), (a_t_now, .inl (cy 0, 24, .inl out.2.1)), (a_t_aside, .inl (cy 0, 24, .inl out.2.2.1)), (a_t_coat, .inl (cy 0, 6, .inl out.2.2.2.1)), (a_t_bestCoats, .inl (cy 0, 6, .inl out.2.2.2.2.1))] := by
  refine startMi (own := RX9) (by decide) rfl (Nat.le_of_ble_eq_true rfl) ?_
  intro p e s m below meth c QQ A hx hb hml hown hg hK hP hD hS hA hret ls hl
  have hl : lv_has ls 6 [(0, .ref a_t), (1, .int p0), (2, .int p1), (3, .int p2)] := hl
  unfold m_X9_coats at h
  refine lv_iload_n hx hb dX9_coats_0 rfl (lv_at hl 1 rfl) ?_
  refine lv_i2l (v := p0.toInt64) hx hb dX9_coats_1 rfl ?_
  refine lv_lconst (v := 0) hx hb dX9_coats_2 kL_0 ?_
  refine lv_ldc2 (v := 8) hx hb hown (hg _ q_1233) dX9_coats_3 ?_
  obtain ⟨v1, hv1, h⟩ := bind_e h
  refine callRS (As := [.long (p0.toInt64), .long 0, .long 8]) (rest := []) (v0 := .int v1) hx hb hml hown hg (c_X9_in l D cy (p0.toInt64) (0 : Int64) (8 : Int64) v1 hv1) q_1016 q_1014 q_63 q_1015 hd_X9_in ⟨(Nat.le_of_ble_eq_true rfl), (Nat.le_of_ble_eq_true rfl)⟩ hK hP [] rfl rfl rfl rfl hl.1 rfl (Nat.le_of_ble_eq_true rfl) dX9_coats_6 ?_
  refine lv_if_eq (tgt := 30) hx hb dX9_coats_9 (by decide) (fun c2 => ?_) (fun c2 => ?_)
  · have h := it_t c2 h
    refine lv_iconst (v := (-1)) hx hb dX9_coats_30 kI_m1 ?_
    exact hret _ _ _ _ ls 31 dX9_coats_31 rfl (by rw [← Option.some.inj h]) (by rw [← Option.some.inj h]) hP hD hS
  · have h := it_f c2 h
    refine lv_iload_n hx hb dX9_coats_12 rfl (lv_at hl 2 rfl) ?_
    refine lv_i2l (v := p1.toInt64) hx hb dX9_coats_13 rfl ?_
    refine lv_lconst (v := 1) hx hb dX9_coats_14 kL_1 ?_
    refine lv_ldc2 (v := 30) hx hb hown (hg _ q_1234) dX9_coats_15 ?_
    obtain ⟨v3, hv3, h⟩ := bind_e h
    refine callRS (As := [.long (p1.toInt64), .long 1, .long 30]) (rest := []) (v0 := .int v3) hx hb hml hown hg (c_X9_in l D cy (p1.toInt64) (1 : Int64) (30 : Int64) v3 hv3) q_1016 q_1014 q_63 q_1015 hd_X9_in ⟨(Nat.le_of_ble_eq_true rfl), (Nat.le_of_ble_eq_true rfl)⟩ hK hP [] rfl rfl rfl rfl hl.1 rfl (Nat.le_of_ble_eq_true rfl) dX9_coats_18 ?_
    refine lv_if_eq (tgt := 30) hx hb dX9_coats_21 (by decide) (fun c4 => ?_) (fun c4 => ?_)
    · have h := it_t c4 h
      refine lv_iconst (v := (-1)) hx hb dX9_coats_30 kI_m1 ?_
      exact hret _ _ _ _ ls 31 dX9_coats_31 rfl (by rw [← Option.some.inj h]) (by rw [← Option.some.inj h]) hP hD hS
    · have h := it_f c4 h
      refine lv_iload_n hx hb dX9_coats_24 rfl (lv_at hl 3 rfl) ?_
      refine lv_bipush (v := (-2)) hx hb dX9_coats_25 kB_m2 ?_
      refine lv_icmp_ge (tgt := 32) hx hb dX9_coats_27 (by decide) (fun c5 => ?_) (fun c5 => ?_)
      · have h := it_t c5 h
        refine lv_aload_n hx hb dX9_coats_32 rfl (lv_at hl 0 rfl) ?_
        refine va_get (D := D) (ci := 9) (v := .ref a_t_now) (C := RX9) (T := TX9) (N := 21) hx hb hg inG_X9 hown hK hP 0 rfl rfl 0 (by decide) (hg _ q_945) (fun _ h9 => h9) rfl dX9_coats_33 ?_
        refine lv_iconst (v := 0) hx hb dX9_coats_36 kI_0 ?_
        refine ialdK hx hb hK hP 1 0 rfl rfl (vp_in_inb (by decide)) kN_0 dX9_coats_37 ?_
        refine lv_if_ne (tgt := 44) hx hb dX9_coats_38 (by decide) (fun c6 => ?_) (fun c6 => ?_)
        · have h := it_f c6 h
          refine lv_iconst (v := 1) hx hb dX9_coats_44 kI_1 ?_
          refine lv_istore (lv' := [(4, .int 1), (0, .ref a_t), (1, .int p0), (2, .int p1), (3, .int p2)]) hx hb dX9_coats_45 hl (by decide) rfl (fun ls hl => ?_)
          refine lv_iconst (v := 0) hx hb dX9_coats_47 kI_0 ?_
          refine lv_istore (lv' := [(5, .int 0), (4, .int 1), (0, .ref a_t), (1, .int p0), (2, .int p1), (3, .int p2)]) hx hb dX9_coats_48 hl (by decide) rfl (fun ls hl => ?_)
          obtain ⟨k35, hk35, h⟩ := kap (fun z => m_X9_coats_L50 t_now p0 z F 0 1) h
          have J35 : ∀ (x9 : Int32) (H : Heap) (locs : List Loc) (ls : Array Slot), va_P D vwCl [(a_t, .inr (9, [.ref a_t_now, g_t_tape, g_t_typed, g_t_place, g_t_isFault, g_t_readLaw, g_t_read, g_t_undone, g_t_undos, .ref a_t_aside, .ref a_t_coat, .ref a_t_bestCoats, .int t_bestStand, .int t_bestPaint, g_t_kept, g_t_keptUndos, g_t_isKept, g_t_lanes, g_t_sizes, g_t_items, g_t_moved])), (a_t_now, .inl (cy 0, 24, .inl t_now)), (a_t_aside, .inl (cy 0, 24, .inl t_aside)), (a_t_coat, .inl (cy 0, 6, .inl t_coat)), (a_t_bestCoats, .inl (cy 0, 6, .inl t_bestCoats))] H → va_D A [(a_t, .inr (9, [.ref a_t_now, g_t_tape, g_t_typed, g_t_place, g_t_isFault, g_t_readLaw, g_t_read, g_t_undone, g_t_undos, .ref a_t_aside, .ref a_t_coat, .ref a_t_bestCoats, .int t_bestStand, .int t_bestPaint, g_t_kept, g_t_keptUndos, g_t_isKept, g_t_lanes, g_t_sizes, g_t_items, g_t_moved])), (a_t_now, .inl (cy 0, 24, .inl t_now)), (a_t_aside, .inl (cy 0, 24, .inl t_aside)), (a_t_coat, .inl (cy 0, 6, .inl t_coat)), (a_t_bestCoats, .inl (cy 0, 6, .inl t_bestCoats))] → va_S A s.heap H locs → lv_has ls 6 [(4, .int x9), (0, .ref a_t), (1, .int p0), (2, .int p1), (3, .int p2)] → k35 x9 = some out → W p l e (rmG 8 180) s m [.ref a_t, .int p0, .int p1, .int p2].toArray below meth c H locs 0 0 QQ (F0 m 75 ls []) := by
            intro x9 H locs ls hP hD hS hl h
            rw [hk35] at h
            refine lv_aload_n hx hb dX9_coats_75 rfl (lv_at hl 1 rfl) ?_
            refine lv_iconst (v := (-1)) hx hb dX9_coats_76 kI_m1 ?_
            refine va_put (D := D) (ci := 9) (v := .int (-1)) (ty := .int) (C := RX9) (T := TX9) (N := 21) hx hb hg inG_X9 tyX9 tyX9_ok nmX9 hown hK hP hD hS 0 rfl rfl 12 (by decide) (hg _ q_957) (fun _ h9 => h9) rfl (tyX9_ok 12 (by decide)) rfl rfl (Nat.le_of_ble_eq_true rfl) dX9_coats_77 (fun H locs hP hD hS => ?_)
            have hP : va_P D vwCl [(a_t, .inr (9, [.ref a_t_now, g_t_tape, g_t_typed, g_t_place, g_t_isFault, g_t_readLaw, g_t_read, g_t_undone, g_t_undos, .ref a_t_aside, .ref a_t_coat, .ref a_t_bestCoats, .int (-1), .int t_bestPaint, g_t_kept, g_t_keptUndos, g_t_isKept, g_t_lanes, g_t_sizes, g_t_items, g_t_moved])), (a_t_now, .inl (cy 0, 24, .inl t_now)), (a_t_aside, .inl (cy 0, 24, .inl t_aside)), (a_t_coat, .inl (cy 0, 6, .inl t_coat)), (a_t_bestCoats, .inl (cy 0, 6, .inl t_bestCoats))] H := hP
            have hD : va_D A [(a_t, .inr (9, [.ref a_t_now, g_t_tape, g_t_typed, g_t_place, g_t_isFault, g_t_readLaw, g_t_read, g_t_undone, g_t_undos, .ref a_t_aside, .ref a_t_coat, .ref a_t_bestCoats, .int (-1), .int t_bestPaint, g_t_kept, g_t_keptUndos, g_t_isKept, g_t_lanes, g_t_sizes, g_t_items, g_t_moved])), (a_t_now, .inl (cy 0, 24, .inl t_now)), (a_t_aside, .inl (cy 0, 24, .inl t_aside)), (a_t_coat, .inl (cy 0, 6, .inl t_coat)), (a_t_bestCoats, .inl (cy 0, 6, .inl t_bestCoats))] := hD
            refine lv_aload_n hx hb dX9_coats_80 rfl (lv_at hl 1 rfl) ?_
            refine lv_iconst (v := (-1)) hx hb dX9_coats_81 kI_m1 ?_
            refine va_put (D := D) (ci := 9) (v := .int (-1)) (ty := .int) (C := RX9) (T := TX9) (N := 21) hx hb hg inG_X9 tyX9 tyX9_ok nmX9 hown hK hP hD hS 0 rfl rfl 13 (by decide) (hg _ q_958) (fun _ h9 => h9) rfl (tyX9_ok 13 (by decide)) rfl rfl (Nat.le_of_ble_eq_true rfl) dX9_coats_82 (fun H locs hP hD hS => ?_)
            have hP : va_P D vwCl [(a_t, .inr (9, [.ref a_t_now, g_t_tape, g_t_typed, g_t_place, g_t_isFault, g_t_readLaw, g_t_read, g_t_undone, g_t_undos, .ref a_t_aside, .ref a_t_coat, .ref a_t_bestCoats, .int (-1), .int (-1), g_t_kept, g_t_keptUndos, g_t_isKept, g_t_lanes, g_t_sizes, g_t_items, g_t_moved])), (a_t_now, .inl (cy 0, 24, .inl t_now)), (a_t_aside, .inl (cy 0, 24, .inl t_aside)), (a_t_coat, .inl (cy 0, 6, .inl t_coat)), (a_t_bestCoats, .inl (cy 0, 6, .inl t_bestCoats))] H := hP
            have hD : va_D A [(a_t, .inr (9, [.ref a_t_now, g_t_tape, g_t_typed, g_t_place, g_t_isFault, g_t_readLaw, g_t_read, g_t_undone, g_t_undos, .ref a_t_aside, .ref a_t_coat, .ref a_t_bestCoats, .int (-1), .int (-1), g_t_kept, g_t_keptUndos, g_t_isKept, g_t_lanes, g_t_sizes, g_t_items, g_t_moved])), (a_t_now, .inl (cy 0, 24, .inl t_now)), (a_t_aside, .inl (cy 0, 24, .inl t_aside)), (a_t_coat, .inl (cy 0, 6, .inl t_coat)), (a_t_bestCoats, .inl (cy 0, 6, .inl t_bestCoats))] := hD
            refine lv_aload_n hx hb dX9_coats_85 rfl (lv_at hl 1 rfl) ?_
            obtain ⟨v10, hv10, h⟩ := bind_e h
            refine callMV (As := []) (rest := []) (wr := [(a_t_coat, .inl (cy 0, 6, .inl t_coat)), (a_t_bestCoats, .inl (cy 0, 6, .inl t_bestCoats))]) (w2 := [(a_t, .inr (9, [.ref a_t_now, g_t_tape, g_t_typed, g_t_place, g_t_isFault, g_t_readLaw, g_t_read, g_t_undone, g_t_undos, .ref a_t_aside, .ref a_t_coat, .ref a_t_bestCoats, .int (-1), .int (-1), g_t_kept, g_t_keptUndos, g_t_isKept, g_t_lanes, g_t_sizes, g_t_items, g_t_moved])), (a_t_now, .inl (cy 0, 24, .inl t_now)), (a_t_aside, .inl (cy 0, 24, .inl v10)), (a_t_coat, .inl (cy 0, 6, .inl t_coat)), (a_t_bestCoats, .inl (cy 0, 6, .inl t_bestCoats))]) hx hb hml hown hg (c_X9_asides l D cy a_t a_t_now a_t_aside _ (g_t_tape) (g_t_typed) (g_t_place) (g_t_isFault) (g_t_readLaw) (g_t_read) (g_t_undone) (g_t_undos) (.ref a_t_coat) (.ref a_t_bestCoats) (.int (-1)) (.int (-1)) (g_t_kept) (g_t_keptUndos) (g_t_isKept) (g_t_lanes) (g_t_sizes) (g_t_items) (g_t_moved) t_now t_aside F v10 hv10) q_1192 q_1189 q_63 q_1191 q_45 hd_X9_asides ⟨(Nat.le_of_ble_eq_true rfl), (Nat.le_of_ble_eq_true rfl)⟩ hK hP hD hS hA [0, 1, 2] [3, 4] rfl rfl rfl rfl (by decide) [2, 3, 4, 0, 1] rfl rfl 0 9 rfl rfl rfl rfl rfl rfl hl.1 rfl rfl (Nat.le_of_ble_eq_true rfl) dX9_coats_86 (fun H locs hP hD hS => ?_)
            refine lv_iconst (v := 0) hx hb dX9_coats_89 kI_0 ?_
            refine lv_istore (lv' := [(5, .int 0), (4, .int x9), (0, .ref a_t), (1, .int p0), (2, .int p1), (3, .int p2)]) hx hb dX9_coats_90 hl (by decide) rfl (fun ls hl => ?_)
            obtain ⟨k26, hk26, h⟩ := kap (fun z => m_X9_coats_L92 p0 p1 F x9 v10 z F 0 t_now t_coat t_bestCoats (-1) (-1)) h
            have J26 : ∀ (w17 : Nat → Int32) (w18 : Nat → Int32) (w19 : Nat → Int32) (w20 : Int32) (w21 : Int32) (H : Heap) (locs : List Loc) (ls : Array Slot), va_P D vwCl [(a_t, .inr (9, [.ref a_t_now, g_t_tape, g_t_typed, g_t_place, g_t_isFault, g_t_readLaw, g_t_read, g_t_undone, g_t_undos, .ref a_t_aside, .ref a_t_coat, .ref a_t_bestCoats, .int w20, .int w21, g_t_kept, g_t_keptUndos, g_t_isKept, g_t_lanes, g_t_sizes, g_t_items, g_t_moved])), (a_t_now, .inl (cy 0, 24, .inl w17)), (a_t_aside, .inl (cy 0, 24, .inl v10)), (a_t_coat, .inl (cy 0, 6, .inl w18)), (a_t_bestCoats, .inl (cy 0, 6, .inl w19))] H → va_D A [(a_t, .inr (9, [.ref a_t_now, g_t_tape, g_t_typed, g_t_place, g_t_isFault, g_t_readLaw, g_t_read, g_t_undone, g_t_undos, .ref a_t_aside, .ref a_t_coat, .ref a_t_bestCoats, .int w20, .int w21, g_t_kept, g_t_keptUndos, g_t_isKept, g_t_lanes, g_t_sizes, g_t_items, g_t_moved])), (a_t_now, .inl (cy 0, 24, .inl w17)), (a_t_aside, .inl (cy 0, 24, .inl v10)), (a_t_coat, .inl (cy 0, 6, .inl w18)), (a_t_bestCoats, .inl (cy 0, 6, .inl w19))] → va_S A s.heap H locs → lv_has ls 6 [(0, .ref a_t), (3, .int p2)] → k26 w17 w18 w19 w20 w21 = some out → W p l e (rmG 8 180) s m [.ref a_t, .int p0, .int p1, .int p2].toArray below meth c H locs 0 0 QQ (F0 m 120 ls []) := by
              intro w17 w18 w19 w20 w21 H locs ls hP hD hS hl h
              rw [hk26] at h
              refine lv_iload_n hx hb dX9_coats_120 rfl (lv_at hl 1 rfl) ?_
              refine lv_iconst (v := (-1)) hx hb dX9_coats_121 kI_m1 ?_
              refine lv_icmp_ne (tgt := 132) hx hb dX9_coats_122 (by decide) (fun c22 => ?_) (fun c22 => ?_)
              · have h := it_f c22 h
                refine lv_iload_n hx hb dX9_coats_132 rfl (lv_at hl 1 rfl) ?_
                refine lv_bipush (v := (-2)) hx hb dX9_coats_133 kB_m2 ?_
                refine lv_icmp_ne (tgt := 145) hx hb dX9_coats_135 (by decide) (fun c23 => ?_) (fun c23 => ?_)
                · have h := it_f c23 h
                  refine lv_iload_n hx hb dX9_coats_145 rfl (lv_at hl 1 rfl) ?_
                  refine lv_aload_n hx hb dX9_coats_146 rfl (lv_at hl 0 rfl) ?_
                  refine va_get (D := D) (ci := 9) (v := .ref a_t_now) (C := RX9) (T := TX9) (N := 21) hx hb hg inG_X9 hown hK hP 0 rfl rfl 0 (by decide) (hg _ q_945) (fun _ h9 => h9) rfl dX9_coats_147 ?_
                  refine lv_iconst (v := 0) hx hb dX9_coats_150 kI_0 ?_
                  refine ialdK hx hb hK hP 1 0 rfl rfl (vp_in_inb (by decide)) kN_0 dX9_coats_151 ?_
                  refine lv_icmp_ge (tgt := 164) hx hb dX9_coats_152 (by decide) (fun c24 => ?_) (fun c24 => ?_)
                  · have h := it_t c24 h
                    refine lv_bipush (v := (-4)) hx hb dX9_coats_164 kB_m4 ?_
                    exact hret _ _ _ _ ls 166 dX9_coats_166 rfl (by rw [← Option.some.inj h]) (by rw [← Option.some.inj h]) hP hD hS
                  · have h := it_f c24 h
                    refine lv_aload_n hx hb dX9_coats_155 rfl (lv_at hl 0 rfl) ?_
                    refine va_get (D := D) (ci := 9) (v := .ref a_t_bestCoats) (C := RX9) (T := TX9) (N := 21) hx hb hg inG_X9 hown hK hP 0 rfl rfl 11 (by decide) (hg _ q_956) (fun _ h9 => h9) rfl dX9_coats_156 ?_
                    refine lv_iload_n hx hb dX9_coats_159 rfl (lv_at hl 1 rfl) ?_
                    obtain ⟨hi25, h⟩ := chk_e h
                    refine va_iald hx hb hK hP 4 0 rfl rfl hi25 dX9_coats_160 ?_
                    refine lv_goto (tgt := 166) hx hb dX9_coats_161 (by decide) ?_
                    exact hret _ _ _ _ ls 166 dX9_coats_166 rfl (by rw [← Option.some.inj h]) (by rw [← Option.some.inj h]) hP hD hS
                · have h := it_t c23 h
                  refine lv_aload_n hx hb dX9_coats_138 rfl (lv_at hl 0 rfl) ?_
                  refine va_get (D := D) (ci := 9) (v := .int w21) (C := RX9) (T := TX9) (N := 21) hx hb hg inG_X9 hown hK hP 0 rfl rfl 13 (by decide) (hg _ q_958) (fun _ h9 => h9) rfl dX9_coats_139 ?_
                  refine lv_goto (tgt := 166) hx hb dX9_coats_142 (by decide) ?_
                  exact hret _ _ _ _ ls 166 dX9_coats_166 rfl (by rw [← Option.some.inj h]) (by rw [← Option.some.inj h]) hP hD hS
              · have h := it_t c22 h
                refine lv_aload_n hx hb dX9_coats_125 rfl (lv_at hl 0 rfl) ?_
                refine va_get (D := D) (ci := 9) (v := .int w20) (C := RX9) (T := TX9) (N := 21) hx hb hg inG_X9 hown hK hP 0 rfl rfl 12 (by decide) (hg _ q_957) (fun _ h9 => h9) rfl dX9_coats_126 ?_
                refine lv_goto (tgt := 166) hx hb dX9_coats_129 (by decide) ?_
                exact hret _ _ _ _ ls 166 dX9_coats_166 rfl (by rw [← Option.some.inj h]) (by rw [← Option.some.inj h]) hP hD hS
            have L27 : ∀ (n27 : Nat) (x11 : Int32) (w12 : Nat → Int32) (w13 : Nat → Int32) (w14 : Nat → Int32) (w15 : Int32) (w16 : Int32) (H : Heap) (locs : List Loc) (ls : Array Slot), va_P D vwCl [(a_t, .inr (9, [.ref a_t_now, g_t_tape, g_t_typed, g_t_place, g_t_isFault, g_t_readLaw, g_t_read, g_t_undone, g_t_undos, .ref a_t_aside, .ref a_t_coat, .ref a_t_bestCoats, .int w15, .int w16, g_t_kept, g_t_keptUndos, g_t_isKept, g_t_lanes, g_t_sizes, g_t_items, g_t_moved])), (a_t_now, .inl (cy 0, 24, .inl w12)), (a_t_aside, .inl (cy 0, 24, .inl v10)), (a_t_coat, .inl (cy 0, 6, .inl w13)), (a_t_bestCoats, .inl (cy 0, 6, .inl w14))] H → va_D A [(a_t, .inr (9, [.ref a_t_now, g_t_tape, g_t_typed, g_t_place, g_t_isFault, g_t_readLaw, g_t_read, g_t_undone, g_t_undos, .ref a_t_aside, .ref a_t_coat, .ref a_t_bestCoats, .int w15, .int w16, g_t_kept, g_t_keptUndos, g_t_isKept, g_t_lanes, g_t_sizes, g_t_items, g_t_moved])), (a_t_now, .inl (cy 0, 24, .inl w12)), (a_t_aside, .inl (cy 0, 24, .inl v10)), (a_t_coat, .inl (cy 0, 6, .inl w13)), (a_t_bestCoats, .inl (cy 0, 6, .inl w14))] → va_S A s.heap H locs → lv_has ls 6 [(5, .int x11), (4, .int x9), (0, .ref a_t), (1, .int p0), (2, .int p1), (3, .int p2)] → m_X9_coats_L92 p0 p1 F x9 v10 k26 n27 x11 w12 w13 w14 w15 w16 = some out → W p l e (rmG 8 180) s m [.ref a_t, .int p0, .int p1, .int p2].toArray below meth c H locs 0 0 QQ (F0 m 92 ls []) := by
              intro n27
              induction n27 with
              | zero => intro x11 w12 w13 w14 w15 w16 H locs ls hP hD hS hl h; exact nomatch (show (none : Option (Int32 × (Nat → Int32) × (Nat → Int32) × (Nat → Int32) × (Nat → Int32) × Int32 × Int32)) = some out from h)
              | succ n27 ih =>
                  intro x11 w12 w13 w14 w15 w16 H locs ls hP hD hS hl h
                  have h : m_X9_coats_L92s p0 p1 F x9 v10 k26 (m_X9_coats_L92 p0 p1 F x9 v10 k26 n27) x11 w12 w13 w14 w15 w16 = some out := h
                  unfold m_X9_coats_L92s at h
                  refine lv_iload hx hb dX9_coats_92 (lv_at hl 0 rfl) ?_
                  refine lv_iload hx hb dX9_coats_94 (lv_at hl 1 rfl) ?_
                  refine lv_icmp_ge (tgt := 120) hx hb dX9_coats_96 (by decide) (fun c29 => ?_) (fun c29 => ?_)
                  · have h := it_t c29 h
                    exact J26 w12 w13 w14 w15 w16 _ _ _ hP hD hS (lv_sub hl [2, 5] rfl) h
                  · have h := it_f c29 h
                    refine lv_aload_n hx hb dX9_coats_99 rfl (lv_at hl 2 rfl) ?_
                    refine lv_iload hx hb dX9_coats_100 (lv_at hl 0 rfl) ?_
                    refine lv_iload_n hx hb dX9_coats_102 rfl (lv_at hl 3 rfl) ?_
                    obtain ⟨v30, hv30, h⟩ := bind_e h
                    refine callMV (As := [.int x11, .int p0]) (rest := []) (wr := [(a_t_aside, .inl (cy 0, 24, .inl v10)), (a_t_bestCoats, .inl (cy 0, 6, .inl w14))]) (w2 := [(a_t, .inr (9, [.ref a_t_now, g_t_tape, g_t_typed, g_t_place, g_t_isFault, g_t_readLaw, g_t_read, g_t_undone, g_t_undos, .ref a_t_aside, .ref a_t_coat, .ref a_t_bestCoats, .int w15, .int w16, g_t_kept, g_t_keptUndos, g_t_isKept, g_t_lanes, g_t_sizes, g_t_items, g_t_moved])), (a_t_now, .inl (cy 0, 24, .inl w12)), (a_t_aside, .inl (cy 0, 24, .inl v10)), (a_t_coat, .inl (cy 0, 6, .inl v30.2)), (a_t_bestCoats, .inl (cy 0, 6, .inl w14))]) hx hb hml hown hg (c_X9_isParted l D cy a_t a_t_now a_t_coat _ (g_t_tape) (g_t_typed) (g_t_place) (g_t_isFault) (g_t_readLaw) (g_t_read) (g_t_undone) (g_t_undos) (.ref a_t_aside) (.ref a_t_bestCoats) (.int w15) (.int w16) (g_t_kept) (g_t_keptUndos) (g_t_isKept) (g_t_lanes) (g_t_sizes) (g_t_items) (g_t_moved) w12 w13 x11 p0 F v30 hv30) q_1238 q_1235 q_63 q_1237 q_49 hd_X9_isParted ⟨(Nat.le_of_ble_eq_true rfl), (Nat.le_of_ble_eq_true rfl)⟩ hK hP hD hS hA [0, 1, 3] [2, 4] rfl rfl rfl rfl (by decide) [2, 3, 0, 4, 1] rfl rfl 0 9 rfl rfl rfl rfl rfl rfl hl.1 rfl rfl (Nat.le_of_ble_eq_true rfl) dX9_coats_103 (fun H locs hP hD hS => ?_)
                    refine lv_if_eq (tgt := 114) hx hb dX9_coats_106 (by decide) (fun c31 => ?_) (fun c31 => ?_)
                    · have h := it_t c31 h
                      obtain ⟨x32, ex32⟩ : ∃ y : Int32, y = x11 + 1 := ⟨_, rfl⟩
                      have h := bnd_e ex32 h
                      refine lv_iinc (v := x32) (lv' := [(5, .int x32), (4, .int x9), (0, .ref a_t), (1, .int p0), (2, .int p1), (3, .int p2)]) hx hb dX9_coats_114 hl (k := 0) rfl (inc_e kI_1 ex32) (by decide) rfl (fun ls hl => ?_)
                      refine lv_goto (tgt := 92) hx hb dX9_coats_117 (by decide) ?_
                      exact ih x32 w12 v30.2 w14 w15 w16 _ _ _ hP hD hS (lv_sub hl [0, 1, 2, 3, 4, 5] rfl) h
                    · have h := it_f c31 h
                      refine lv_aload_n hx hb dX9_coats_109 rfl (lv_at hl 2 rfl) ?_
                      refine lv_iload_n hx hb dX9_coats_110 rfl (lv_at hl 4 rfl) ?_
                      obtain ⟨v33, hv33, h⟩ := bind_e h
                      refine callMV (As := [.int p1]) (rest := []) (wr := []) (w2 := [(a_t, .inr (9, [.ref a_t_now, g_t_tape, g_t_typed, g_t_place, g_t_isFault, g_t_readLaw, g_t_read, g_t_undone, g_t_undos, .ref a_t_aside, .ref a_t_coat, .ref a_t_bestCoats, .int v33.2.2.1, .int v33.2.2.2, g_t_kept, g_t_keptUndos, g_t_isKept, g_t_lanes, g_t_sizes, g_t_items, g_t_moved])), (a_t_now, .inl (cy 0, 24, .inl v33.1)), (a_t_aside, .inl (cy 0, 24, .inl v10)), (a_t_coat, .inl (cy 0, 6, .inl v30.2)), (a_t_bestCoats, .inl (cy 0, 6, .inl v33.2.1))]) hx hb hml hown hg (c_X9_triesCoats l D cy a_t a_t_now a_t_aside a_t_coat a_t_bestCoats _ (g_t_tape) (g_t_typed) (g_t_place) (g_t_isFault) (g_t_readLaw) (g_t_read) (g_t_undone) (g_t_undos) (g_t_kept) (g_t_keptUndos) (g_t_isKept) (g_t_lanes) (g_t_sizes) (g_t_items) (g_t_moved) w12 v10 v30.2 w14 w15 w16 p1 F v33 hv33) q_1242 q_1239 q_63 q_1241 q_50 hd_X9_triesCoats ⟨(Nat.le_of_ble_eq_true rfl), (Nat.le_of_ble_eq_true rfl)⟩ hK hP hD hS hA [0, 1, 2, 3, 4] [] rfl rfl rfl rfl (by decide) [0, 1, 2, 3, 4] rfl rfl 0 9 rfl rfl rfl rfl rfl rfl hl.1 rfl rfl (Nat.le_of_ble_eq_true rfl) dX9_coats_111 (fun H locs hP hD hS => ?_)
                      obtain ⟨x34, ex34⟩ : ∃ y : Int32, y = x11 + 1 := ⟨_, rfl⟩
                      have h := bnd_e ex34 h
                      refine lv_iinc (v := x34) (lv' := [(5, .int x34), (4, .int x9), (0, .ref a_t), (1, .int p0), (2, .int p1), (3, .int p2)]) hx hb dX9_coats_114 hl (k := 0) rfl (inc_e kI_1 ex34) (by decide) rfl (fun ls hl => ?_)
                      refine lv_goto (tgt := 92) hx hb dX9_coats_117 (by decide) ?_
                      exact ih x34 v33.1 v30.2 v33.2.1 v33.2.2.1 v33.2.2.2 _ _ _ hP hD hS (lv_sub hl [0, 1, 2, 3, 4, 5] rfl) h
            exact L27 F 0 t_now t_coat t_bestCoats (-1) (-1) _ _ _ hP hD hS (lv_sub hl [0, 1, 2, 3, 4, 5] rfl) h
          have L36 : ∀ (n36 : Nat) (x7 : Int32) (x8 : Int32) (H : Heap) (locs : List Loc) (ls : Array Slot), va_P D vwCl [(a_t, .inr (9, [.ref a_t_now, g_t_tape, g_t_typed, g_t_place, g_t_isFault, g_t_readLaw, g_t_read, g_t_undone, g_t_undos, .ref a_t_aside, .ref a_t_coat, .ref a_t_bestCoats, .int t_bestStand, .int t_bestPaint, g_t_kept, g_t_keptUndos, g_t_isKept, g_t_lanes, g_t_sizes, g_t_items, g_t_moved])), (a_t_now, .inl (cy 0, 24, .inl t_now)), (a_t_aside, .inl (cy 0, 24, .inl t_aside)), (a_t_coat, .inl (cy 0, 6, .inl t_coat)), (a_t_bestCoats, .inl (cy 0, 6, .inl t_bestCoats))] H → va_D A [(a_t, .inr (9, [.ref a_t_now, g_t_tape, g_t_typed, g_t_place, g_t_isFault, g_t_readLaw, g_t_read, g_t_undone, g_t_undos, .ref a_t_aside, .ref a_t_coat, .ref a_t_bestCoats, .int t_bestStand, .int t_bestPaint, g_t_kept, g_t_keptUndos, g_t_isKept, g_t_lanes, g_t_sizes, g_t_items, g_t_moved])), (a_t_now, .inl (cy 0, 24, .inl t_now)), (a_t_aside, .inl (cy 0, 24, .inl t_aside)), (a_t_coat, .inl (cy 0, 6, .inl t_coat)), (a_t_bestCoats, .inl (cy 0, 6, .inl t_bestCoats))] → va_S A s.heap H locs → lv_has ls 6 [(5, .int x7), (4, .int x8), (0, .ref a_t), (1, .int p0), (2, .int p1), (3, .int p2)] → m_X9_coats_L50 t_now p0 k35 n36 x7 x8 = some out → W p l e (rmG 8 180) s m [.ref a_t, .int p0, .int p1, .int p2].toArray below meth c H locs 0 0 QQ (F0 m 50 ls []) := by
            intro n36
            induction n36 with
            | zero => intro x7 x8 H locs ls hP hD hS hl h; exact nomatch (show (none : Option (Int32 × (Nat → Int32) × (Nat → Int32) × (Nat → Int32) × (Nat → Int32) × Int32 × Int32)) = some out from h)
            | succ n36 ih =>
                intro x7 x8 H locs ls hP hD hS hl h
                have h : m_X9_coats_L50s t_now p0 k35 (m_X9_coats_L50 t_now p0 k35 n36) x7 x8 = some out := h
                unfold m_X9_coats_L50s at h
                refine lv_iload hx hb dX9_coats_50 (lv_at hl 0 rfl) ?_
                refine lv_aload_n hx hb dX9_coats_52 rfl (lv_at hl 2 rfl) ?_
                refine va_get (D := D) (ci := 9) (v := .ref a_t_now) (C := RX9) (T := TX9) (N := 21) hx hb hg inG_X9 hown hK hP 0 rfl rfl 0 (by decide) (hg _ q_945) (fun _ h9 => h9) rfl dX9_coats_53 ?_
                refine lv_iconst (v := 0) hx hb dX9_coats_56 kI_0 ?_
                refine ialdK hx hb hK hP 1 0 rfl rfl (vp_in_inb (by decide)) kN_0 dX9_coats_57 ?_
                refine lv_icmp_ge (tgt := 75) hx hb dX9_coats_58 (by decide) (fun c38 => ?_) (fun c38 => ?_)
                · have h := it_t c38 h
                  exact J35 x8 _ _ _ hP hD hS (lv_sub hl [1, 2, 3, 4, 5] rfl) h
                · have h := it_f c38 h
                  refine lv_iload hx hb dX9_coats_61 (lv_at hl 1 rfl) ?_
                  refine lv_iload_n hx hb dX9_coats_63 rfl (lv_at hl 3 rfl) ?_
                  refine lv_iconst (v := 1) hx hb dX9_coats_64 kI_1 ?_
                  refine lv_iadd hx hb dX9_coats_65 ?_
                  refine lv_imul hx hb dX9_coats_66 ?_
                  refine lv_topi (fun x39 ex39 => ?_)
                  have h := bnd_e ex39 h
                  refine lv_istore (lv' := [(4, .int x39), (5, .int x7), (0, .ref a_t), (1, .int p0), (2, .int p1), (3, .int p2)]) hx hb dX9_coats_67 hl (by decide) rfl (fun ls hl => ?_)
                  obtain ⟨x40, ex40⟩ : ∃ y : Int32, y = x7 + 1 := ⟨_, rfl⟩
                  have h := bnd_e ex40 h
                  refine lv_iinc (v := x40) (lv' := [(5, .int x40), (4, .int x39), (0, .ref a_t), (1, .int p0), (2, .int p1), (3, .int p2)]) hx hb dX9_coats_69 hl (k := 1) rfl (inc_e kI_1 ex40) (by decide) rfl (fun ls hl => ?_)
                  refine lv_goto (tgt := 50) hx hb dX9_coats_72 (by decide) ?_
                  exact ih x40 x39 _ _ _ hP hD hS (lv_sub hl [0, 1, 2, 3, 4, 5] rfl) h
          exact L36 F 0 1 _ _ _ hP hD hS (lv_sub hl [0, 1, 2, 3, 4, 5] rfl) h
        · have h := it_t c6 h
          refine lv_bipush (v := (-4)) hx hb dX9_coats_41 kB_m4 ?_
          exact hret _ _ _ _ ls 43 dX9_coats_43 rfl (by rw [← Option.some.inj h]) (by rw [← Option.some.inj h]) hP hD hS
      · have h := it_f c5 h
        refine lv_iconst (v := (-1)) hx hb dX9_coats_30 kI_m1 ?_
        exact hret _ _ _ _ ls 31 dX9_coats_31 rfl (by rw [← Option.some.inj h]) (by rw [← Option.some.inj h]) hP hD hS

def m_X9_guard_L35s (t_now : Nat → Int32) (p0 : Int32) (F : Nat) (v5 : Int32) (k11 : Int32 → Option (Int32)) (r13 : Int32 → Int32 → Option (Int32)) (x6 : Int32) (x7 : Int32) : Option (Int32) := (if 64 ≤ x6 then k11 x7 else jn (fun (x15 : Int32) => (if x15 = 0 then bnd (x6 + 1) (fun x17 => r13 x17 x7) else bnd (x6 + 1) (fun x18 => r13 x18 x6))) (fun k19 => jn (k19 0) (fun k20 => (if (x6 &&& (v5 ^^^ (-1))) = 0 then (m_X9_many F x6).bind (fun v22 => (m_X9_many F x7).bind (fun v23 => (if v23 ≤ v22 then k20 else (m_X9_heldBy F t_now x6 p0).bind (fun v25 => (m_X9_heldBy F t_now 63 p0).bind (fun v26 => (if v25 = v26 then k19 1 else k20)))))) else k20))))
def m_X9_guard_L35 (t_now : Nat → Int32) (p0 : Int32) (F : Nat) (v5 : Int32) (k11 : Int32 → Option (Int32)) : Nat → Int32 → Int32 → Option (Int32)
  | 0 => fun _ _ => none
  | nF + 1 => m_X9_guard_L35s t_now p0 F v5 k11 (m_X9_guard_L35 t_now p0 F v5 k11 nF)
def m_X9_guard (F : Nat) (t_now : Nat → Int32) (p0 : Int32) (p1 : Int32) : Option (Int32) := (m_X9_in (p0.toInt64) (0 : Int64) (5 : Int64)).bind (fun v1 => (if v1 = 0 then some (-1) else (m_X9_in (p1.toInt64) (0 : Int64) (1 : Int64)).bind (fun v3 => (if v3 = 0 then some (-1) else (m_X9_standing F t_now).bind (fun v5 => m_X9_guard_L35 t_now p0 F v5 (fun (x8 : Int32) => (if p1 = 0 then (m_X9_many F x8).bind (fun v10 => some v10) else some x8)) F 0 v5)))))
set_option maxHeartbeats 4000000 in
set_option maxRecDepth 100000 in
theorem c_X9_guard (l : Launch) (D : va_G) (cy : Nat → ClassId) (a_t : Nat) (a_t_now : Nat) (g_t_tape : Value) (g_t_typed : Value) (g_t_place : Value) (g_t_isFault : Value) (g_t_readLaw : Value) (g_t_read : Value) (g_t_undone : Value) (g_t_undos : Value) (g_t_aside : Value) (g_t_coat : Value) (g_t_bestCoats : Value) (g_t_bestStand : Value) (g_t_bestPaint : Value) (g_t_kept : Value) (g_t_keptUndos : Value) (g_t_isKept : Value) (g_t_lanes : Value) (g_t_sizes : Value) (g_t_items : Value) (g_t_moved : Value) (t_now : Nat → Int32) (p0 : Int32) (p1 : Int32) (F : Nat) (out : Int32) (h : m_X9_guard F t_now p0 p1 = some out) : MetR l D cy yX9_guard cX9_guard 7 (some .int) (rmG 4 89) [.ref a_t, .int p0, .int p1] [(a_t, .inr (9, [.ref a_t_now, g_t_tape, g_t_typed, g_t_place, g_t_isFault, g_t_readLaw, g_t_read, g_t_undone, g_t_undos, g_t_aside, g_t_coat, g_t_bestCoats, g_t_bestStand, g_t_bestPaint, g_t_kept, g_t_keptUndos, g_t_isKept, g_t_lanes, g_t_sizes, g_t_items, g_t_moved])), (a_t_now, .inl (cy 0, 24, .inl t_now))] (some (.int out)) := by
  refine startR (own := RX9) (by decide) rfl (Nat.le_of_ble_eq_true rfl) ?_
  intro p e s m below meth c QQ hx hb hml hown hg hK hP hret ls hl
  have hl : lv_has ls 7 [(0, .ref a_t), (1, .int p0), (2, .int p1)] := hl
  unfold m_X9_guard at h
  refine lv_iload_n hx hb dX9_guard_0 rfl (lv_at hl 1 rfl) ?_
  refine lv_i2l (v := p0.toInt64) hx hb dX9_guard_1 rfl ?_
  refine lv_lconst (v := 0) hx hb dX9_guard_2 kL_0 ?_
  refine lv_ldc2 (v := 5) hx hb hown (hg _ q_1095) dX9_guard_3 ?_
  obtain ⟨v1, hv1, h⟩ := bind_e h
  refine callRS (As := [.long (p0.toInt64), .long 0, .long 5]) (rest := []) (v0 := .int v1) hx hb hml hown hg (c_X9_in l D cy (p0.toInt64) (0 : Int64) (5 : Int64) v1 hv1) q_1016 q_1014 q_63 q_1015 hd_X9_in ⟨(Nat.le_of_ble_eq_true rfl), (Nat.le_of_ble_eq_true rfl)⟩ hK hP [] rfl rfl rfl rfl hl.1 rfl (Nat.le_of_ble_eq_true rfl) dX9_guard_6 ?_
  refine lv_if_eq (tgt := 22) hx hb dX9_guard_9 (by decide) (fun c2 => ?_) (fun c2 => ?_)
  · have h := it_t c2 h
    refine lv_iconst (v := (-1)) hx hb dX9_guard_22 kI_m1 ?_
    exact hret _ ls 23 dX9_guard_23 rfl (congrArg (fun z => some (Value.int z)) (Option.some.inj h))
  · have h := it_f c2 h
    refine lv_iload_n hx hb dX9_guard_12 rfl (lv_at hl 2 rfl) ?_
    refine lv_i2l (v := p1.toInt64) hx hb dX9_guard_13 rfl ?_
    refine lv_lconst (v := 0) hx hb dX9_guard_14 kL_0 ?_
    refine lv_lconst (v := 1) hx hb dX9_guard_15 kL_1 ?_
    obtain ⟨v3, hv3, h⟩ := bind_e h
    refine callRS (As := [.long (p1.toInt64), .long 0, .long 1]) (rest := []) (v0 := .int v3) hx hb hml hown hg (c_X9_in l D cy (p1.toInt64) (0 : Int64) (1 : Int64) v3 hv3) q_1016 q_1014 q_63 q_1015 hd_X9_in ⟨(Nat.le_of_ble_eq_true rfl), (Nat.le_of_ble_eq_true rfl)⟩ hK hP [] rfl rfl rfl rfl hl.1 rfl (Nat.le_of_ble_eq_true rfl) dX9_guard_16 ?_
    refine lv_if_ne (tgt := 24) hx hb dX9_guard_19 (by decide) (fun c4 => ?_) (fun c4 => ?_)
    · have h := it_f c4 h
      refine lv_aload_n hx hb dX9_guard_24 rfl (lv_at hl 0 rfl) ?_
      obtain ⟨v5, hv5, h⟩ := bind_e h
      refine callRV (As := []) (rest := []) (v0 := .int v5) hx hb hml hown hg (c_X9_standing l D cy a_t a_t_now (g_t_tape) (g_t_typed) (g_t_place) (g_t_isFault) (g_t_readLaw) (g_t_read) (g_t_undone) (g_t_undos) (g_t_aside) (g_t_coat) (g_t_bestCoats) (g_t_bestStand) (g_t_bestPaint) (g_t_kept) (g_t_keptUndos) (g_t_isKept) (g_t_lanes) (g_t_sizes) (g_t_items) (g_t_moved) t_now F v5 hv5) q_1077 q_1074 q_63 q_1076 q_33 hd_X9_standing ⟨(Nat.le_of_ble_eq_true rfl), (Nat.le_of_ble_eq_true rfl)⟩ hK hP [0, 1] rfl 0 9 rfl rfl rfl rfl rfl rfl hl.1 rfl (Nat.le_of_ble_eq_true rfl) dX9_guard_25 ?_
      refine lv_istore_n (lv' := [(3, .int v5), (0, .ref a_t), (1, .int p0), (2, .int p1)]) hx hb dX9_guard_28 rfl hl (by decide) rfl (fun ls hl => ?_)
      refine lv_iload_n hx hb dX9_guard_29 rfl (lv_at hl 0 rfl) ?_
      refine lv_istore (lv' := [(4, .int v5), (3, .int v5), (0, .ref a_t), (1, .int p0), (2, .int p1)]) hx hb dX9_guard_30 hl (by decide) rfl (fun ls hl => ?_)
      refine lv_iconst (v := 0) hx hb dX9_guard_32 kI_0 ?_
      refine lv_istore (lv' := [(5, .int 0), (4, .int v5), (3, .int v5), (0, .ref a_t), (1, .int p0), (2, .int p1)]) hx hb dX9_guard_33 hl (by decide) rfl (fun ls hl => ?_)
      obtain ⟨k11, hk11, h⟩ := kap (fun z => m_X9_guard_L35 t_now p0 F v5 z F 0 v5) h
      have J11 : ∀ (x8 : Int32) (ls : Array Slot), lv_has ls 7 [(4, .int x8), (2, .int p1)] → k11 x8 = some out → W p l e (rmG 4 89) s m [.ref a_t, .int p0, .int p1].toArray below meth c s.heap [] 0 0 QQ (F0 m 108 ls []) := by
        intro x8 ls hl h
        rw [hk11] at h
        refine lv_iload_n hx hb dX9_guard_108 rfl (lv_at hl 1 rfl) ?_
        refine lv_if_ne (tgt := 120) hx hb dX9_guard_109 (by decide) (fun c9 => ?_) (fun c9 => ?_)
        · have h := it_f c9 h
          refine lv_iload hx hb dX9_guard_120 (lv_at hl 0 rfl) ?_
          exact hret _ ls 122 dX9_guard_122 rfl (congrArg (fun z => some (Value.int z)) (Option.some.inj h))
        · have h := it_t c9 h
          refine lv_iload hx hb dX9_guard_112 (lv_at hl 0 rfl) ?_
          obtain ⟨v10, hv10, h⟩ := bind_e h
          refine callRS (As := [.int x8]) (rest := []) (v0 := .int v10) hx hb hml hown hg (c_X9_many l D cy x8 F v10 hv10) q_1073 q_1071 q_63 q_1072 hd_X9_many ⟨(Nat.le_of_ble_eq_true rfl), (Nat.le_of_ble_eq_true rfl)⟩ hK hP [] rfl rfl rfl rfl hl.1 rfl (Nat.le_of_ble_eq_true rfl) dX9_guard_114 ?_
          refine lv_goto (tgt := 122) hx hb dX9_guard_117 (by decide) ?_
          exact hret _ ls 122 dX9_guard_122 rfl (congrArg (fun z => some (Value.int z)) (Option.some.inj h))
      have L12 : ∀ (n12 : Nat) (x6 : Int32) (x7 : Int32) (ls : Array Slot), lv_has ls 7 [(5, .int x6), (4, .int x7), (3, .int v5), (0, .ref a_t), (1, .int p0), (2, .int p1)] → m_X9_guard_L35 t_now p0 F v5 k11 n12 x6 x7 = some out → W p l e (rmG 4 89) s m [.ref a_t, .int p0, .int p1].toArray below meth c s.heap [] 0 0 QQ (F0 m 35 ls []) := by
        intro n12
        induction n12 with
        | zero => intro x6 x7 ls hl h; exact nomatch (show (none : Option (Int32)) = some out from h)
        | succ n12 ih =>
            intro x6 x7 ls hl h
            have h : m_X9_guard_L35s t_now p0 F v5 k11 (m_X9_guard_L35 t_now p0 F v5 k11 n12) x6 x7 = some out := h
            unfold m_X9_guard_L35s at h
            refine lv_iload hx hb dX9_guard_35 (lv_at hl 0 rfl) ?_
            refine lv_bipush (v := 64) hx hb dX9_guard_37 kB_64 ?_
            refine lv_icmp_ge (tgt := 108) hx hb dX9_guard_39 (by decide) (fun c14 => ?_) (fun c14 => ?_)
            · have h := it_t c14 h
              exact J11 x7 _ (lv_sub hl [1, 5] rfl) h
            · have h := it_f c14 h
              refine lv_iload hx hb dX9_guard_42 (lv_at hl 0 rfl) ?_
              refine lv_iload_n hx hb dX9_guard_44 rfl (lv_at hl 2 rfl) ?_
              refine lv_iconst (v := (-1)) hx hb dX9_guard_45 kI_m1 ?_
              refine lv_ixor hx hb dX9_guard_46 ?_
              refine lv_iand hx hb dX9_guard_47 ?_
              obtain ⟨k19, hk19, h⟩ := jn_e h
              have J19 : ∀ (x15 : Int32) (ls : Array Slot), lv_has ls 7 [(5, .int x6), (4, .int x7), (3, .int v5), (0, .ref a_t), (1, .int p0), (2, .int p1)] → k19 x15 = some out → W p l e (rmG 4 89) s m [.ref a_t, .int p0, .int p1].toArray below meth c s.heap [] 0 0 QQ (F0 m 86 ls [.int x15]) := by
                intro x15 ls hl h
                rw [hk19] at h
                refine lv_istore (lv' := [(6, .int x15), (5, .int x6), (4, .int x7), (3, .int v5), (0, .ref a_t), (1, .int p0), (2, .int p1)]) hx hb dX9_guard_86 hl (by decide) rfl (fun ls hl => ?_)
                refine lv_iload hx hb dX9_guard_88 (lv_at hl 0 rfl) ?_
                refine lv_if_eq (tgt := 98) hx hb dX9_guard_90 (by decide) (fun c16 => ?_) (fun c16 => ?_)
                · have h := it_t c16 h
                  refine lv_iload hx hb dX9_guard_98 (lv_at hl 2 rfl) ?_
                  refine lv_istore (lv' := [(4, .int x7), (6, .int x15), (5, .int x6), (3, .int v5), (0, .ref a_t), (1, .int p0), (2, .int p1)]) hx hb dX9_guard_100 hl (by decide) rfl (fun ls hl => ?_)
                  obtain ⟨x17, ex17⟩ : ∃ y : Int32, y = x6 + 1 := ⟨_, rfl⟩
                  have h := bnd_e ex17 h
                  refine lv_iinc (v := x17) (lv' := [(5, .int x17), (4, .int x7), (6, .int x15), (3, .int v5), (0, .ref a_t), (1, .int p0), (2, .int p1)]) hx hb dX9_guard_102 hl (k := 2) rfl (inc_e kI_1 ex17) (by decide) rfl (fun ls hl => ?_)
                  refine lv_goto (tgt := 35) hx hb dX9_guard_105 (by decide) ?_
                  exact ih x17 x7 _ (lv_sub hl [0, 1, 3, 4, 5, 6] rfl) h
                · have h := it_f c16 h
                  refine lv_iload hx hb dX9_guard_93 (lv_at hl 1 rfl) ?_
                  refine lv_goto (tgt := 100) hx hb dX9_guard_95 (by decide) ?_
                  refine lv_istore (lv' := [(4, .int x6), (6, .int x15), (5, .int x6), (3, .int v5), (0, .ref a_t), (1, .int p0), (2, .int p1)]) hx hb dX9_guard_100 hl (by decide) rfl (fun ls hl => ?_)
                  obtain ⟨x18, ex18⟩ : ∃ y : Int32, y = x6 + 1 := ⟨_, rfl⟩
                  have h := bnd_e ex18 h
                  refine lv_iinc (v := x18) (lv' := [(5, .int x18), (4, .int x6), (6, .int x15), (3, .int v5), (0, .ref a_t), (1, .int p0), (2, .int p1)]) hx hb dX9_guard_102 hl (k := 2) rfl (inc_e kI_1 ex18) (by decide) rfl (fun ls hl => ?_)
                  refine lv_goto (tgt := 35) hx hb dX9_guard_105 (by decide) ?_
                  exact ih x18 x6 _ (lv_sub hl [0, 1, 3, 4, 5, 6] rfl) h
              obtain ⟨k20, hk20, h⟩ := jn_e h
              have J20 : ∀ (ls : Array Slot), lv_has ls 7 [(5, .int x6), (4, .int x7), (3, .int v5), (0, .ref a_t), (1, .int p0), (2, .int p1)] → k20 = some out → W p l e (rmG 4 89) s m [.ref a_t, .int p0, .int p1].toArray below meth c s.heap [] 0 0 QQ (F0 m 85 ls []) := by
                intro ls hl h
                rw [hk20] at h
                refine lv_iconst (v := 0) hx hb dX9_guard_85 kI_0 ?_
                exact J19 0 _ (lv_sub hl [0, 1, 2, 3, 4, 5] rfl) h
              refine lv_if_ne (tgt := 85) hx hb dX9_guard_48 (by decide) (fun c21 => ?_) (fun c21 => ?_)
              · have h := it_f c21 h
                exact J20  _ (lv_sub hl [0, 1, 2, 3, 4, 5] rfl) h
              · have h := it_t c21 h
                refine lv_iload hx hb dX9_guard_51 (lv_at hl 0 rfl) ?_
                obtain ⟨v22, hv22, h⟩ := bind_e h
                refine callRS (As := [.int x6]) (rest := []) (v0 := .int v22) hx hb hml hown hg (c_X9_many l D cy x6 F v22 hv22) q_1073 q_1071 q_63 q_1072 hd_X9_many ⟨(Nat.le_of_ble_eq_true rfl), (Nat.le_of_ble_eq_true rfl)⟩ hK hP [] rfl rfl rfl rfl hl.1 rfl (Nat.le_of_ble_eq_true rfl) dX9_guard_53 ?_
                refine lv_iload hx hb dX9_guard_56 (lv_at hl 1 rfl) ?_
                obtain ⟨v23, hv23, h⟩ := bind_e h
                refine callRS (As := [.int x7]) (rest := [.int v22]) (v0 := .int v23) hx hb hml hown hg (c_X9_many l D cy x7 F v23 hv23) q_1073 q_1071 q_63 q_1072 hd_X9_many ⟨(Nat.le_of_ble_eq_true rfl), (Nat.le_of_ble_eq_true rfl)⟩ hK hP [] rfl rfl rfl rfl hl.1 rfl (Nat.le_of_ble_eq_true rfl) dX9_guard_58 ?_
                refine lv_icmp_ge (tgt := 85) hx hb dX9_guard_61 (by decide) (fun c24 => ?_) (fun c24 => ?_)
                · have h := it_t c24 h
                  exact J20  _ (lv_sub hl [0, 1, 2, 3, 4, 5] rfl) h
                · have h := it_f c24 h
                  refine lv_aload_n hx hb dX9_guard_64 rfl (lv_at hl 3 rfl) ?_
                  refine lv_iload hx hb dX9_guard_65 (lv_at hl 0 rfl) ?_
                  refine lv_iload_n hx hb dX9_guard_67 rfl (lv_at hl 4 rfl) ?_
                  obtain ⟨v25, hv25, h⟩ := bind_e h
                  refine callRV (As := [.int x6, .int p0]) (rest := []) (v0 := .int v25) hx hb hml hown hg (c_X9_heldBy l D cy a_t a_t_now (g_t_tape) (g_t_typed) (g_t_place) (g_t_isFault) (g_t_readLaw) (g_t_read) (g_t_undone) (g_t_undos) (g_t_aside) (g_t_coat) (g_t_bestCoats) (g_t_bestStand) (g_t_bestPaint) (g_t_kept) (g_t_keptUndos) (g_t_isKept) (g_t_lanes) (g_t_sizes) (g_t_items) (g_t_moved) t_now x6 p0 F v25 hv25) q_1099 q_1096 q_63 q_1098 q_35 hd_X9_heldBy ⟨(Nat.le_of_ble_eq_true rfl), (Nat.le_of_ble_eq_true rfl)⟩ hK hP [0, 1] rfl 0 9 rfl rfl rfl rfl rfl rfl hl.1 rfl (Nat.le_of_ble_eq_true rfl) dX9_guard_68 ?_
                  refine lv_aload_n hx hb dX9_guard_71 rfl (lv_at hl 3 rfl) ?_
                  refine lv_bipush (v := 63) hx hb dX9_guard_72 kB_63 ?_
                  refine lv_iload_n hx hb dX9_guard_74 rfl (lv_at hl 4 rfl) ?_
                  obtain ⟨v26, hv26, h⟩ := bind_e h
                  refine callRV (As := [.int 63, .int p0]) (rest := [.int v25]) (v0 := .int v26) hx hb hml hown hg (c_X9_heldBy l D cy a_t a_t_now (g_t_tape) (g_t_typed) (g_t_place) (g_t_isFault) (g_t_readLaw) (g_t_read) (g_t_undone) (g_t_undos) (g_t_aside) (g_t_coat) (g_t_bestCoats) (g_t_bestStand) (g_t_bestPaint) (g_t_kept) (g_t_keptUndos) (g_t_isKept) (g_t_lanes) (g_t_sizes) (g_t_items) (g_t_moved) t_now 63 p0 F v26 hv26) q_1099 q_1096 q_63 q_1098 q_35 hd_X9_heldBy ⟨(Nat.le_of_ble_eq_true rfl), (Nat.le_of_ble_eq_true rfl)⟩ hK hP [0, 1] rfl 0 9 rfl rfl rfl rfl rfl rfl hl.1 rfl (Nat.le_of_ble_eq_true rfl) dX9_guard_75 ?_
                  refine lv_icmp_ne (tgt := 85) hx hb dX9_guard_78 (by decide) (fun c27 => ?_) (fun c27 => ?_)
                  · have h := it_f c27 h
                    exact J20  _ (lv_sub hl [0, 1, 2, 3, 4, 5] rfl) h
                  · have h := it_t c27 h
                    refine lv_iconst (v := 1) hx hb dX9_guard_81 kI_1 ?_
                    refine lv_goto (tgt := 86) hx hb dX9_guard_82 (by decide) ?_
                    exact J19 1 _ (lv_sub hl [0, 1, 2, 3, 4, 5] rfl) h
      exact L12 F 0 v5 _ (lv_sub hl [0, 1, 2, 3, 4, 5] rfl) h
    · have h := it_t c4 h
      refine lv_iconst (v := (-1)) hx hb dX9_guard_22 kI_m1 ?_
      exact hret _ ls 23 dX9_guard_23 rfl (congrArg (fun z => some (Value.int z)) (Option.some.inj h))

def m_X9_calm_L28s (p0 : Int32) (F : Nat) (v3 : Int32) (v4 : (Nat → Int32)) (k10 : Int32 → (Nat → Int32) → Option (Int32 × (Nat → Int32) × (Nat → Int32))) (r12 : Int32 → Int32 → (Nat → Int32) → Option (Int32 × (Nat → Int32) × (Nat → Int32))) (x5 : Int32) (x6 : Int32) (w7 : Nat → Int32) : Option (Int32 × (Nat → Int32) × (Nat → Int32)) := (if 13 ≤ x5 then k10 x6 w7 else (m_X9_goesOn F (upd w7 4 x5) p0).bind (fun v14 => (m_X9_standing F v14).bind (fun v15 => (if v15 = v3 then (m_X9_backs F v14 v4).bind (fun v19 => bnd (x5 + 1) (fun x20 => r12 x20 x5 v19)) else (m_X9_backs F v14 v4).bind (fun v17 => bnd (x5 + 1) (fun x18 => r12 x18 x6 v17))))))
def m_X9_calm_L28 (p0 : Int32) (F : Nat) (v3 : Int32) (v4 : (Nat → Int32)) (k10 : Int32 → (Nat → Int32) → Option (Int32 × (Nat → Int32) × (Nat → Int32))) : Nat → Int32 → Int32 → (Nat → Int32) → Option (Int32 × (Nat → Int32) × (Nat → Int32))
  | 0 => fun _ _ _ => none
  | nF + 1 => m_X9_calm_L28s p0 F v3 v4 k10 (m_X9_calm_L28 p0 F v3 v4 k10 nF)
def m_X9_calm (F : Nat) (t_now : Nat → Int32) (t_aside : Nat → Int32) (p0 : Int32) : Option (Int32 × (Nat → Int32) × (Nat → Int32)) := (m_X9_in (p0.toInt64) (1 : Int64) (40 : Int64)).bind (fun v1 => (if v1 = 0 then some ((-1), t_now, t_aside) else (m_X9_standing F t_now).bind (fun v3 => (m_X9_asides F t_now t_aside).bind (fun v4 => m_X9_calm_L28 p0 F v3 v4 (fun (x8 : Int32) (w9 : Nat → Int32) => some (x8, w9, v4)) F 0 0 t_now))))
set_option maxHeartbeats 4000000 in
set_option maxRecDepth 100000 in
theorem c_X9_calm (l : Launch) (D : va_G) (cy : Nat → ClassId) (a_t : Nat) (a_t_now : Nat) (a_t_aside : Nat) (sz : Nat) (g_t_tape : Value) (g_t_typed : Value) (g_t_place : Value) (g_t_isFault : Value) (g_t_readLaw : Value) (g_t_read : Value) (g_t_undone : Value) (g_t_undos : Value) (g_t_coat : Value) (g_t_bestCoats : Value) (g_t_bestStand : Value) (g_t_bestPaint : Value) (g_t_kept : Value) (g_t_keptUndos : Value) (g_t_isKept : Value) (g_t_lanes : Value) (g_t_sizes : Value) (g_t_items : Value) (g_t_moved : Value) (t_now : Nat → Int32) (t_aside : Nat → Int32) (p0 : Int32) (F : Nat) (out : Int32 × (Nat → Int32) × (Nat → Int32)) (h : m_X9_calm F t_now t_aside p0 = some out) : MetM l D cy yX9_calm cX9_calm 5 (some .int) (rmG 7 156) [.ref a_t, .int p0] sz [(a_t, .inr (9, [.ref a_t_now, g_t_tape, g_t_typed, g_t_place, g_t_isFault, g_t_readLaw, g_t_read, g_t_undone, g_t_undos, .ref a_t_aside, g_t_coat, g_t_bestCoats, g_t_bestStand, g_t_bestPaint, g_t_kept, g_t_keptUndos, g_t_isKept, g_t_lanes, g_t_sizes, g_t_items, g_t_moved])), (a_t_now, .inl (cy 0, 24, .inl t_now)), (a_t_aside, .inl (cy 0, 24, .inl t_aside))] (some (.int out.1)) [(a_t, .inr (9, [.ref a_t_now, g_t_tape, g_t_typed, g_t_place, g_t_isFault, g_t_readLaw, g_t_read, g_t_undone, g_t_undos, .ref a_t_aside, g_t_coat, g_t_bestCoats, g_t_bestStand, g_t_bestPaint, g_t_kept, g_t_keptUndos, g_t_isKept, g_t_lanes, g_t_sizes, g_t_items, g_t_moved])), (a_t_now, .inl (cy 0, 24, .inl out.2.1)), (a_t_aside, .inl (cy 0, 24, .inl out.2.2))] := by
  refine startMi (own := RX9) (by decide) rfl (Nat.le_of_ble_eq_true rfl) ?_
  intro p e s m below meth c QQ A hx hb hml hown hg hK hP hD hS hA hret ls hl
  have hl : lv_has ls 5 [(0, .ref a_t), (1, .int p0)] := hl
  unfold m_X9_calm at h
  refine lv_iload_n hx hb dX9_calm_0 rfl (lv_at hl 1 rfl) ?_
  refine lv_i2l (v := p0.toInt64) hx hb dX9_calm_1 rfl ?_
  refine lv_lconst (v := 1) hx hb dX9_calm_2 kL_1 ?_
  refine lv_ldc2 (v := 40) hx hb hown (hg _ q_1140) dX9_calm_3 ?_
  obtain ⟨v1, hv1, h⟩ := bind_e h
  refine callRS (As := [.long (p0.toInt64), .long 1, .long 40]) (rest := []) (v0 := .int v1) hx hb hml hown hg (c_X9_in l D cy (p0.toInt64) (1 : Int64) (40 : Int64) v1 hv1) q_1016 q_1014 q_63 q_1015 hd_X9_in ⟨(Nat.le_of_ble_eq_true rfl), (Nat.le_of_ble_eq_true rfl)⟩ hK hP [] rfl rfl rfl rfl hl.1 rfl (Nat.le_of_ble_eq_true rfl) dX9_calm_6 ?_
  refine lv_if_ne (tgt := 14) hx hb dX9_calm_9 (by decide) (fun c2 => ?_) (fun c2 => ?_)
  · have h := it_f c2 h
    refine lv_aload_n hx hb dX9_calm_14 rfl (lv_at hl 0 rfl) ?_
    obtain ⟨v3, hv3, h⟩ := bind_e h
    refine callRV (As := []) (rest := []) (v0 := .int v3) hx hb hml hown hg (c_X9_standing l D cy a_t a_t_now (g_t_tape) (g_t_typed) (g_t_place) (g_t_isFault) (g_t_readLaw) (g_t_read) (g_t_undone) (g_t_undos) (.ref a_t_aside) (g_t_coat) (g_t_bestCoats) (g_t_bestStand) (g_t_bestPaint) (g_t_kept) (g_t_keptUndos) (g_t_isKept) (g_t_lanes) (g_t_sizes) (g_t_items) (g_t_moved) t_now F v3 hv3) q_1077 q_1074 q_63 q_1076 q_33 hd_X9_standing ⟨(Nat.le_of_ble_eq_true rfl), (Nat.le_of_ble_eq_true rfl)⟩ hK hP [0, 1] rfl 0 9 rfl rfl rfl rfl rfl rfl hl.1 rfl (Nat.le_of_ble_eq_true rfl) dX9_calm_15 ?_
    refine lv_istore_n (lv' := [(2, .int v3), (0, .ref a_t), (1, .int p0)]) hx hb dX9_calm_18 rfl hl (by decide) rfl (fun ls hl => ?_)
    refine lv_iconst (v := 0) hx hb dX9_calm_19 kI_0 ?_
    refine lv_istore_n (lv' := [(3, .int 0), (2, .int v3), (0, .ref a_t), (1, .int p0)]) hx hb dX9_calm_20 rfl hl (by decide) rfl (fun ls hl => ?_)
    refine lv_aload_n hx hb dX9_calm_21 rfl (lv_at hl 2 rfl) ?_
    obtain ⟨v4, hv4, h⟩ := bind_e h
    refine callMV (As := []) (rest := []) (wr := []) (w2 := [(a_t, .inr (9, [.ref a_t_now, g_t_tape, g_t_typed, g_t_place, g_t_isFault, g_t_readLaw, g_t_read, g_t_undone, g_t_undos, .ref a_t_aside, g_t_coat, g_t_bestCoats, g_t_bestStand, g_t_bestPaint, g_t_kept, g_t_keptUndos, g_t_isKept, g_t_lanes, g_t_sizes, g_t_items, g_t_moved])), (a_t_now, .inl (cy 0, 24, .inl t_now)), (a_t_aside, .inl (cy 0, 24, .inl v4))]) hx hb hml hown hg (c_X9_asides l D cy a_t a_t_now a_t_aside _ (g_t_tape) (g_t_typed) (g_t_place) (g_t_isFault) (g_t_readLaw) (g_t_read) (g_t_undone) (g_t_undos) (g_t_coat) (g_t_bestCoats) (g_t_bestStand) (g_t_bestPaint) (g_t_kept) (g_t_keptUndos) (g_t_isKept) (g_t_lanes) (g_t_sizes) (g_t_items) (g_t_moved) t_now t_aside F v4 hv4) q_1192 q_1189 q_63 q_1191 q_45 hd_X9_asides ⟨(Nat.le_of_ble_eq_true rfl), (Nat.le_of_ble_eq_true rfl)⟩ hK hP hD hS hA [0, 1, 2] [] rfl rfl rfl rfl (by decide) [0, 1, 2] rfl rfl 0 9 rfl rfl rfl rfl rfl rfl hl.1 rfl rfl (Nat.le_of_ble_eq_true rfl) dX9_calm_22 (fun H locs hP hD hS => ?_)
    refine lv_iconst (v := 0) hx hb dX9_calm_25 kI_0 ?_
    refine lv_istore (lv' := [(4, .int 0), (3, .int 0), (2, .int v3), (0, .ref a_t), (1, .int p0)]) hx hb dX9_calm_26 hl (by decide) rfl (fun ls hl => ?_)
    obtain ⟨k10, hk10, h⟩ := kap (fun z => m_X9_calm_L28 p0 F v3 v4 z F 0 0 t_now) h
    have J10 : ∀ (x8 : Int32) (w9 : Nat → Int32) (H : Heap) (locs : List Loc) (ls : Array Slot), va_P D vwCl [(a_t, .inr (9, [.ref a_t_now, g_t_tape, g_t_typed, g_t_place, g_t_isFault, g_t_readLaw, g_t_read, g_t_undone, g_t_undos, .ref a_t_aside, g_t_coat, g_t_bestCoats, g_t_bestStand, g_t_bestPaint, g_t_kept, g_t_keptUndos, g_t_isKept, g_t_lanes, g_t_sizes, g_t_items, g_t_moved])), (a_t_now, .inl (cy 0, 24, .inl w9)), (a_t_aside, .inl (cy 0, 24, .inl v4))] H → va_D A [(a_t, .inr (9, [.ref a_t_now, g_t_tape, g_t_typed, g_t_place, g_t_isFault, g_t_readLaw, g_t_read, g_t_undone, g_t_undos, .ref a_t_aside, g_t_coat, g_t_bestCoats, g_t_bestStand, g_t_bestPaint, g_t_kept, g_t_keptUndos, g_t_isKept, g_t_lanes, g_t_sizes, g_t_items, g_t_moved])), (a_t_now, .inl (cy 0, 24, .inl w9)), (a_t_aside, .inl (cy 0, 24, .inl v4))] → va_S A s.heap H locs → lv_has ls 5 [(3, .int x8)] → k10 x8 w9 = some out → W p l e (rmG 7 156) s m [.ref a_t, .int p0].toArray below meth c H locs 0 0 QQ (F0 m 73 ls []) := by
      intro x8 w9 H locs ls hP hD hS hl h
      rw [hk10] at h
      refine lv_iload_n hx hb dX9_calm_73 rfl (lv_at hl 0 rfl) ?_
      exact hret _ _ _ _ ls 74 dX9_calm_74 rfl (by rw [← Option.some.inj h]) (by rw [← Option.some.inj h]) hP hD hS
    have L11 : ∀ (n11 : Nat) (x5 : Int32) (x6 : Int32) (w7 : Nat → Int32) (H : Heap) (locs : List Loc) (ls : Array Slot), va_P D vwCl [(a_t, .inr (9, [.ref a_t_now, g_t_tape, g_t_typed, g_t_place, g_t_isFault, g_t_readLaw, g_t_read, g_t_undone, g_t_undos, .ref a_t_aside, g_t_coat, g_t_bestCoats, g_t_bestStand, g_t_bestPaint, g_t_kept, g_t_keptUndos, g_t_isKept, g_t_lanes, g_t_sizes, g_t_items, g_t_moved])), (a_t_now, .inl (cy 0, 24, .inl w7)), (a_t_aside, .inl (cy 0, 24, .inl v4))] H → va_D A [(a_t, .inr (9, [.ref a_t_now, g_t_tape, g_t_typed, g_t_place, g_t_isFault, g_t_readLaw, g_t_read, g_t_undone, g_t_undos, .ref a_t_aside, g_t_coat, g_t_bestCoats, g_t_bestStand, g_t_bestPaint, g_t_kept, g_t_keptUndos, g_t_isKept, g_t_lanes, g_t_sizes, g_t_items, g_t_moved])), (a_t_now, .inl (cy 0, 24, .inl w7)), (a_t_aside, .inl (cy 0, 24, .inl v4))] → va_S A s.heap H locs → lv_has ls 5 [(4, .int x5), (3, .int x6), (2, .int v3), (0, .ref a_t), (1, .int p0)] → m_X9_calm_L28 p0 F v3 v4 k10 n11 x5 x6 w7 = some out → W p l e (rmG 7 156) s m [.ref a_t, .int p0].toArray below meth c H locs 0 0 QQ (F0 m 28 ls []) := by
      intro n11
      induction n11 with
      | zero => intro x5 x6 w7 H locs ls hP hD hS hl h; exact nomatch (show (none : Option (Int32 × (Nat → Int32) × (Nat → Int32))) = some out from h)
      | succ n11 ih =>
          intro x5 x6 w7 H locs ls hP hD hS hl h
          have h : m_X9_calm_L28s p0 F v3 v4 k10 (m_X9_calm_L28 p0 F v3 v4 k10 n11) x5 x6 w7 = some out := h
          unfold m_X9_calm_L28s at h
          refine lv_iload hx hb dX9_calm_28 (lv_at hl 0 rfl) ?_
          refine lv_bipush (v := 13) hx hb dX9_calm_30 kB_13 ?_
          refine lv_icmp_ge (tgt := 73) hx hb dX9_calm_32 (by decide) (fun c13 => ?_) (fun c13 => ?_)
          · have h := it_t c13 h
            exact J10 x6 w7 _ _ _ hP hD hS (lv_sub hl [1] rfl) h
          · have h := it_f c13 h
            refine lv_aload_n hx hb dX9_calm_35 rfl (lv_at hl 3 rfl) ?_
            refine va_get (D := D) (ci := 9) (v := .ref a_t_now) (C := RX9) (T := TX9) (N := 21) hx hb hg inG_X9 hown hK hP 0 rfl rfl 0 (by decide) (hg _ q_945) (fun _ h9 => h9) rfl dX9_calm_36 ?_
            refine lv_iconst (v := 4) hx hb dX9_calm_39 kI_4 ?_
            refine lv_iload hx hb dX9_calm_40 (lv_at hl 0 rfl) ?_
            refine iastK hx hb hK hP hD hS 1 0 rfl rfl (vp_in_inb (by decide)) kN_4 dX9_calm_42 (fun H locs hP hD hS => ?_)
            have hP : va_P D vwCl [(a_t, .inr (9, [.ref a_t_now, g_t_tape, g_t_typed, g_t_place, g_t_isFault, g_t_readLaw, g_t_read, g_t_undone, g_t_undos, .ref a_t_aside, g_t_coat, g_t_bestCoats, g_t_bestStand, g_t_bestPaint, g_t_kept, g_t_keptUndos, g_t_isKept, g_t_lanes, g_t_sizes, g_t_items, g_t_moved])), (a_t_now, .inl (cy 0, 24, .inl (upd w7 4 x5))), (a_t_aside, .inl (cy 0, 24, .inl v4))] H := hP
            have hD : va_D A [(a_t, .inr (9, [.ref a_t_now, g_t_tape, g_t_typed, g_t_place, g_t_isFault, g_t_readLaw, g_t_read, g_t_undone, g_t_undos, .ref a_t_aside, g_t_coat, g_t_bestCoats, g_t_bestStand, g_t_bestPaint, g_t_kept, g_t_keptUndos, g_t_isKept, g_t_lanes, g_t_sizes, g_t_items, g_t_moved])), (a_t_now, .inl (cy 0, 24, .inl (upd w7 4 x5))), (a_t_aside, .inl (cy 0, 24, .inl v4))] := hD
            refine lv_aload_n hx hb dX9_calm_43 rfl (lv_at hl 3 rfl) ?_
            refine lv_iload_n hx hb dX9_calm_44 rfl (lv_at hl 4 rfl) ?_
            obtain ⟨v14, hv14, h⟩ := bind_e h
            refine callMV (As := [.int p0]) (rest := []) (wr := [(a_t_aside, .inl (cy 0, 24, .inl v4))]) (w2 := [(a_t, .inr (9, [.ref a_t_now, g_t_tape, g_t_typed, g_t_place, g_t_isFault, g_t_readLaw, g_t_read, g_t_undone, g_t_undos, .ref a_t_aside, g_t_coat, g_t_bestCoats, g_t_bestStand, g_t_bestPaint, g_t_kept, g_t_keptUndos, g_t_isKept, g_t_lanes, g_t_sizes, g_t_items, g_t_moved])), (a_t_now, .inl (cy 0, 24, .inl v14)), (a_t_aside, .inl (cy 0, 24, .inl v4))]) hx hb hml hown hg (c_X9_goesOn l D cy a_t a_t_now _ (g_t_tape) (g_t_typed) (g_t_place) (g_t_isFault) (g_t_readLaw) (g_t_read) (g_t_undone) (g_t_undos) (.ref a_t_aside) (g_t_coat) (g_t_bestCoats) (g_t_bestStand) (g_t_bestPaint) (g_t_kept) (g_t_keptUndos) (g_t_isKept) (g_t_lanes) (g_t_sizes) (g_t_items) (g_t_moved) (upd w7 4 x5) p0 F v14 hv14) q_1196 q_1193 q_63 q_1195 q_46 hd_X9_goesOn ⟨(Nat.le_of_ble_eq_true rfl), (Nat.le_of_ble_eq_true rfl)⟩ hK hP hD hS hA [0, 1] [2] rfl rfl rfl rfl (by decide) [1, 2, 0] rfl rfl 0 9 rfl rfl rfl rfl rfl rfl hl.1 rfl rfl (Nat.le_of_ble_eq_true rfl) dX9_calm_45 (fun H locs hP hD hS => ?_)
            refine lv_aload_n hx hb dX9_calm_48 rfl (lv_at hl 3 rfl) ?_
            obtain ⟨v15, hv15, h⟩ := bind_e h
            refine callRV (As := []) (rest := []) (v0 := .int v15) hx hb hml hown hg (c_X9_standing l D cy a_t a_t_now (g_t_tape) (g_t_typed) (g_t_place) (g_t_isFault) (g_t_readLaw) (g_t_read) (g_t_undone) (g_t_undos) (.ref a_t_aside) (g_t_coat) (g_t_bestCoats) (g_t_bestStand) (g_t_bestPaint) (g_t_kept) (g_t_keptUndos) (g_t_isKept) (g_t_lanes) (g_t_sizes) (g_t_items) (g_t_moved) v14 F v15 hv15) q_1077 q_1074 q_63 q_1076 q_33 hd_X9_standing ⟨(Nat.le_of_ble_eq_true rfl), (Nat.le_of_ble_eq_true rfl)⟩ hK hP [0, 1] rfl 0 9 rfl rfl rfl rfl rfl rfl hl.1 rfl (Nat.le_of_ble_eq_true rfl) dX9_calm_49 ?_
            refine lv_iload_n hx hb dX9_calm_52 rfl (lv_at hl 2 rfl) ?_
            refine lv_icmp_ne (tgt := 61) hx hb dX9_calm_53 (by decide) (fun c16 => ?_) (fun c16 => ?_)
            · have h := it_f c16 h
              refine lv_iload_n hx hb dX9_calm_61 rfl (lv_at hl 1 rfl) ?_
              refine lv_istore_n (lv' := [(3, .int x6), (4, .int x5), (2, .int v3), (0, .ref a_t), (1, .int p0)]) hx hb dX9_calm_62 rfl hl (by decide) rfl (fun ls hl => ?_)
              refine lv_aload_n hx hb dX9_calm_63 rfl (lv_at hl 3 rfl) ?_
              obtain ⟨v17, hv17, h⟩ := bind_e h
              refine callMV (As := []) (rest := []) (wr := []) (w2 := [(a_t, .inr (9, [.ref a_t_now, g_t_tape, g_t_typed, g_t_place, g_t_isFault, g_t_readLaw, g_t_read, g_t_undone, g_t_undos, .ref a_t_aside, g_t_coat, g_t_bestCoats, g_t_bestStand, g_t_bestPaint, g_t_kept, g_t_keptUndos, g_t_isKept, g_t_lanes, g_t_sizes, g_t_items, g_t_moved])), (a_t_now, .inl (cy 0, 24, .inl v17)), (a_t_aside, .inl (cy 0, 24, .inl v4))]) hx hb hml hown hg (c_X9_backs l D cy a_t a_t_now a_t_aside _ (g_t_tape) (g_t_typed) (g_t_place) (g_t_isFault) (g_t_readLaw) (g_t_read) (g_t_undone) (g_t_undos) (g_t_coat) (g_t_bestCoats) (g_t_bestStand) (g_t_bestPaint) (g_t_kept) (g_t_keptUndos) (g_t_isKept) (g_t_lanes) (g_t_sizes) (g_t_items) (g_t_moved) v14 v4 F v17 hv17) q_1200 q_1197 q_63 q_1199 q_47 hd_X9_backs ⟨(Nat.le_of_ble_eq_true rfl), (Nat.le_of_ble_eq_true rfl)⟩ hK hP hD hS hA [0, 1, 2] [] rfl rfl rfl rfl (by decide) [0, 1, 2] rfl rfl 0 9 rfl rfl rfl rfl rfl rfl hl.1 rfl rfl (Nat.le_of_ble_eq_true rfl) dX9_calm_64 (fun H locs hP hD hS => ?_)
              obtain ⟨x18, ex18⟩ : ∃ y : Int32, y = x5 + 1 := ⟨_, rfl⟩
              have h := bnd_e ex18 h
              refine lv_iinc (v := x18) (lv' := [(4, .int x18), (3, .int x6), (2, .int v3), (0, .ref a_t), (1, .int p0)]) hx hb dX9_calm_67 hl (k := 1) rfl (inc_e kI_1 ex18) (by decide) rfl (fun ls hl => ?_)
              refine lv_goto (tgt := 28) hx hb dX9_calm_70 (by decide) ?_
              exact ih x18 x6 v17 _ _ _ hP hD hS (lv_sub hl [0, 1, 2, 3, 4] rfl) h
            · have h := it_t c16 h
              refine lv_iload hx hb dX9_calm_56 (lv_at hl 0 rfl) ?_
              refine lv_goto (tgt := 62) hx hb dX9_calm_58 (by decide) ?_
              refine lv_istore_n (lv' := [(3, .int x5), (4, .int x5), (2, .int v3), (0, .ref a_t), (1, .int p0)]) hx hb dX9_calm_62 rfl hl (by decide) rfl (fun ls hl => ?_)
              refine lv_aload_n hx hb dX9_calm_63 rfl (lv_at hl 3 rfl) ?_
              obtain ⟨v19, hv19, h⟩ := bind_e h
              refine callMV (As := []) (rest := []) (wr := []) (w2 := [(a_t, .inr (9, [.ref a_t_now, g_t_tape, g_t_typed, g_t_place, g_t_isFault, g_t_readLaw, g_t_read, g_t_undone, g_t_undos, .ref a_t_aside, g_t_coat, g_t_bestCoats, g_t_bestStand, g_t_bestPaint, g_t_kept, g_t_keptUndos, g_t_isKept, g_t_lanes, g_t_sizes, g_t_items, g_t_moved])), (a_t_now, .inl (cy 0, 24, .inl v19)), (a_t_aside, .inl (cy 0, 24, .inl v4))]) hx hb hml hown hg (c_X9_backs l D cy a_t a_t_now a_t_aside _ (g_t_tape) (g_t_typed) (g_t_place) (g_t_isFault) (g_t_readLaw) (g_t_read) (g_t_undone) (g_t_undos) (g_t_coat) (g_t_bestCoats) (g_t_bestStand) (g_t_bestPaint) (g_t_kept) (g_t_keptUndos) (g_t_isKept) (g_t_lanes) (g_t_sizes) (g_t_items) (g_t_moved) v14 v4 F v19 hv19) q_1200 q_1197 q_63 q_1199 q_47 hd_X9_backs ⟨(Nat.le_of_ble_eq_true rfl), (Nat.le_of_ble_eq_true rfl)⟩ hK hP hD hS hA [0, 1, 2] [] rfl rfl rfl rfl (by decide) [0, 1, 2] rfl rfl 0 9 rfl rfl rfl rfl rfl rfl hl.1 rfl rfl (Nat.le_of_ble_eq_true rfl) dX9_calm_64 (fun H locs hP hD hS => ?_)
              obtain ⟨x20, ex20⟩ : ∃ y : Int32, y = x5 + 1 := ⟨_, rfl⟩
              have h := bnd_e ex20 h
              refine lv_iinc (v := x20) (lv' := [(4, .int x20), (3, .int x5), (2, .int v3), (0, .ref a_t), (1, .int p0)]) hx hb dX9_calm_67 hl (k := 1) rfl (inc_e kI_1 ex20) (by decide) rfl (fun ls hl => ?_)
              refine lv_goto (tgt := 28) hx hb dX9_calm_70 (by decide) ?_
              exact ih x20 x5 v19 _ _ _ hP hD hS (lv_sub hl [0, 1, 2, 3, 4] rfl) h
    exact L11 F 0 0 t_now _ _ _ hP hD hS (lv_sub hl [0, 1, 2, 3, 4] rfl) h
  · have h := it_t c2 h
    refine lv_iconst (v := (-1)) hx hb dX9_calm_12 kI_m1 ?_
    exact hret _ _ _ _ ls 13 dX9_calm_13 rfl (by rw [← Option.some.inj h]) (by rw [← Option.some.inj h]) hP hD hS

def m_X9_steam_L186s (k22 : Int32 → Option (Int32 × (Nat → Int32) × (Nat → Int32))) (r24 : Int32 → Int32 → Option (Int32 × (Nat → Int32) × (Nat → Int32))) (x16 : Int32) (x17 : Int32) : Option (Int32 × (Nat → Int32) × (Nat → Int32)) := (if x16 = 0 then k22 x17 else nzI x16 (bnd (x17 - x17 / x16 * x16) (fun x27 => r24 x27 x16)))
def m_X9_steam_L186 (k22 : Int32 → Option (Int32 × (Nat → Int32) × (Nat → Int32))) : Nat → Int32 → Int32 → Option (Int32 × (Nat → Int32) × (Nat → Int32))
  | 0 => fun _ _ => none
  | nF + 1 => m_X9_steam_L186s k22 (m_X9_steam_L186 k22 nF)
def m_X9_steam_L78s (p1 : Int32) (v7 : Int32) (x9 : Int32) (w12 : Nat → Int32) (k48 : Int32 → Option (Int32 × (Nat → Int32) × (Nat → Int32))) (r50 : Int32 → Int32 → Option (Int32 × (Nat → Int32) × (Nat → Int32))) (x34 : Int32) (x35 : Int32) : Option (Int32 × (Nat → Int32) × (Nat → Int32)) := (if (w12 0) ≤ x34 then k48 x35 else (if ((v7 >>> (x34 &&& 31)) &&& 1) = 0 then bnd (x35 * 1) (fun x58 => bnd (x34 + 1) (fun x59 => r50 x59 x58)) else (if ((x9 >>> (x34 &&& 31)) &&& 1) = 1 then bnd (x35 * p1) (fun x56 => bnd (x34 + 1) (fun x57 => r50 x57 x56)) else bnd (x35 * (10 - p1)) (fun x54 => bnd (x34 + 1) (fun x55 => r50 x55 x54)))))
def m_X9_steam_L78 (p1 : Int32) (v7 : Int32) (x9 : Int32) (w12 : Nat → Int32) (k48 : Int32 → Option (Int32 × (Nat → Int32) × (Nat → Int32))) : Nat → Int32 → Int32 → Option (Int32 × (Nat → Int32) × (Nat → Int32))
  | 0 => fun _ _ => none
  | nF + 1 => m_X9_steam_L78s p1 v7 x9 w12 k48 (m_X9_steam_L78 p1 v7 x9 w12 k48 nF)
def m_X9_steam_L55s (p0 : Int32) (p1 : Int32) (F : Nat) (v7 : Int32) (v8 : (Nat → Int32)) (k28 : Int32 → Int32 → (Nat → Int32) → Option (Int32 × (Nat → Int32) × (Nat → Int32))) (r30 : Int32 → Int32 → Int32 → (Nat → Int32) → Option (Int32 × (Nat → Int32) × (Nat → Int32))) (x9 : Int32) (x10 : Int32) (x11 : Int32) (w12 : Nat → Int32) : Option (Int32 × (Nat → Int32) × (Nat → Int32)) := (if 64 ≤ x9 then k28 x10 x11 w12 else (if (x9 &&& (v7 ^^^ (-1))) = 0 then m_X9_steam_L78 p1 v7 x9 w12 (fun (x36 : Int32) => (m_X9_goesBy F w12 x9).bind (fun v37 => bnd (x10 + x36) (fun x38 => (m_X9_standing F v37).bind (fun v39 => (m_X9_many F v39).bind (fun v40 => (if v40 < p0 then bnd (x11 + 0) (fun x42 => (m_X9_backs F v37 v8).bind (fun v43 => bnd (x9 + 1) (fun x44 => r30 x44 x38 x42 v43))) else bnd (x11 + x36) (fun x45 => (m_X9_backs F v37 v8).bind (fun v46 => bnd (x9 + 1) (fun x47 => r30 x47 x38 x45 v46))))))))) F 0 1 else bnd (x9 + 1) (fun x33 => r30 x33 x10 x11 w12)))
def m_X9_steam_L55 (p0 : Int32) (p1 : Int32) (F : Nat) (v7 : Int32) (v8 : (Nat → Int32)) (k28 : Int32 → Int32 → (Nat → Int32) → Option (Int32 × (Nat → Int32) × (Nat → Int32))) : Nat → Int32 → Int32 → Int32 → (Nat → Int32) → Option (Int32 × (Nat → Int32) × (Nat → Int32))
  | 0 => fun _ _ _ _ => none
  | nF + 1 => m_X9_steam_L55s p0 p1 F v7 v8 k28 (m_X9_steam_L55 p0 p1 F v7 v8 k28 nF)
def m_X9_steam (F : Nat) (t_now : Nat → Int32) (t_aside : Nat → Int32) (p0 : Int32) (p1 : Int32) (p2 : Int32) : Option (Int32 × (Nat → Int32) × (Nat → Int32)) := (m_X9_in (p0.toInt64) (0 : Int64) (6 : Int64)).bind (fun v1 => (if v1 = 0 then some ((-1), t_now, t_aside) else (m_X9_in (p1.toInt64) (0 : Int64) (10 : Int64)).bind (fun v3 => (if v3 = 0 then some ((-1), t_now, t_aside) else (m_X9_in (p2.toInt64) (0 : Int64) (1 : Int64)).bind (fun v5 => (if v5 = 0 then some ((-1), t_now, t_aside) else (m_X9_standing F t_now).bind (fun v7 => (m_X9_asides F t_now t_aside).bind (fun v8 => m_X9_steam_L55 p0 p1 F v7 v8 (fun (x13 : Int32) (x14 : Int32) (w15 : Nat → Int32) => m_X9_steam_L186 (fun (x18 : Int32) => (if p2 = 0 then nzI x18 (some (x14 / x18, w15, v8)) else nzI x18 (some (x13 / x18, w15, v8)))) F x13 x14) F 0 0 0 t_now))))))))
set_option maxHeartbeats 4000000 in
set_option maxRecDepth 100000 in
theorem c_X9_steam (l : Launch) (D : va_G) (cy : Nat → ClassId) (a_t : Nat) (a_t_now : Nat) (a_t_aside : Nat) (sz : Nat) (g_t_tape : Value) (g_t_typed : Value) (g_t_place : Value) (g_t_isFault : Value) (g_t_readLaw : Value) (g_t_read : Value) (g_t_undone : Value) (g_t_undos : Value) (g_t_coat : Value) (g_t_bestCoats : Value) (g_t_bestStand : Value) (g_t_bestPaint : Value) (g_t_kept : Value) (g_t_keptUndos : Value) (g_t_isKept : Value) (g_t_lanes : Value) (g_t_sizes : Value) (g_t_items : Value) (g_t_moved : Value) (t_now : Nat → Int32) (t_aside : Nat → Int32) (p0 : Int32) (p1 : Int32) (p2 : Int32) (F : Nat) (out : Int32 × (Nat → Int32) × (Nat → Int32)) (h : m_X9_steam F t_now t_aside p0 p1 p2 = some out) : MetM l D cy yX9_steam cX9_steam 10 (some .int) (rmG 6 134) [.ref a_t, .int p0, .int p1, .int p2] sz [(a_t, .inr (9, [.ref a_t_now, g_t_tape, g_t_typed, g_t_place, g_t_isFault, g_t_readLaw, g_t_read, g_t_undone, g_t_undos, .ref a_t_aside, g_t_coat, g_t_bestCoats, g_t_bestStand, g_t_bestPaint, g_t_kept, g_t_keptUndos, g_t_isKept, g_t_lanes, g_t_sizes, g_t_items, g_t_moved])), (a_t_now, .inl (cy 0, 24, .inl t_now)), (a_t_aside, .inl (cy 0, 24, .inl t_aside))] (some (.int out.1)) [(a_t, .inr (9, [.ref a_t_now, g_t_tape, g_t_typed, g_t_place, g_t_isFault, g_t_readLaw, g_t_read, g_t_undone, g_t_undos, .ref a_t_aside, g_t_coat, g_t_bestCoats, g_t_bestStand, g_t_bestPaint, g_t_kept, g_t_keptUndos, g_t_isKept, g_t_lanes, g_t_sizes, g_t_items, g_t_moved])), (a_t_now, .inl (cy 0, 24, .inl out.2.1)), (a_t_aside, .inl (cy 0, 24, .inl out.2.2))] := by
  refine startMi (own := RX9) (by decide) rfl (Nat.le_of_ble_eq_true rfl) ?_
  intro p e s m below meth c QQ A hx hb hml hown hg hK hP hD hS hA hret ls hl
  have hl : lv_has ls 10 [(0, .ref a_t), (1, .int p0), (2, .int p1), (3, .int p2)] := hl
  unfold m_X9_steam at h
  refine lv_iload_n hx hb dX9_steam_0 rfl (lv_at hl 1 rfl) ?_
  refine lv_i2l (v := p0.toInt64) hx hb dX9_steam_1 rfl ?_
  refine lv_lconst (v := 0) hx hb dX9_steam_2 kL_0 ?_
  refine lv_ldc2 (v := 6) hx hb hown (hg _ q_1255) dX9_steam_3 ?_
  obtain ⟨v1, hv1, h⟩ := bind_e h
  refine callRS (As := [.long (p0.toInt64), .long 0, .long 6]) (rest := []) (v0 := .int v1) hx hb hml hown hg (c_X9_in l D cy (p0.toInt64) (0 : Int64) (6 : Int64) v1 hv1) q_1016 q_1014 q_63 q_1015 hd_X9_in ⟨(Nat.le_of_ble_eq_true rfl), (Nat.le_of_ble_eq_true rfl)⟩ hK hP [] rfl rfl rfl rfl hl.1 rfl (Nat.le_of_ble_eq_true rfl) dX9_steam_6 ?_
  refine lv_if_eq (tgt := 34) hx hb dX9_steam_9 (by decide) (fun c2 => ?_) (fun c2 => ?_)
  · have h := it_t c2 h
    refine lv_iconst (v := (-1)) hx hb dX9_steam_34 kI_m1 ?_
    exact hret _ _ _ _ ls 35 dX9_steam_35 rfl (by rw [← Option.some.inj h]) (by rw [← Option.some.inj h]) hP hD hS
  · have h := it_f c2 h
    refine lv_iload_n hx hb dX9_steam_12 rfl (lv_at hl 2 rfl) ?_
    refine lv_i2l (v := p1.toInt64) hx hb dX9_steam_13 rfl ?_
    refine lv_lconst (v := 0) hx hb dX9_steam_14 kL_0 ?_
    refine lv_ldc2 (v := 10) hx hb hown (hg _ q_1256) dX9_steam_15 ?_
    obtain ⟨v3, hv3, h⟩ := bind_e h
    refine callRS (As := [.long (p1.toInt64), .long 0, .long 10]) (rest := []) (v0 := .int v3) hx hb hml hown hg (c_X9_in l D cy (p1.toInt64) (0 : Int64) (10 : Int64) v3 hv3) q_1016 q_1014 q_63 q_1015 hd_X9_in ⟨(Nat.le_of_ble_eq_true rfl), (Nat.le_of_ble_eq_true rfl)⟩ hK hP [] rfl rfl rfl rfl hl.1 rfl (Nat.le_of_ble_eq_true rfl) dX9_steam_18 ?_
    refine lv_if_eq (tgt := 34) hx hb dX9_steam_21 (by decide) (fun c4 => ?_) (fun c4 => ?_)
    · have h := it_t c4 h
      refine lv_iconst (v := (-1)) hx hb dX9_steam_34 kI_m1 ?_
      exact hret _ _ _ _ ls 35 dX9_steam_35 rfl (by rw [← Option.some.inj h]) (by rw [← Option.some.inj h]) hP hD hS
    · have h := it_f c4 h
      refine lv_iload_n hx hb dX9_steam_24 rfl (lv_at hl 3 rfl) ?_
      refine lv_i2l (v := p2.toInt64) hx hb dX9_steam_25 rfl ?_
      refine lv_lconst (v := 0) hx hb dX9_steam_26 kL_0 ?_
      refine lv_lconst (v := 1) hx hb dX9_steam_27 kL_1 ?_
      obtain ⟨v5, hv5, h⟩ := bind_e h
      refine callRS (As := [.long (p2.toInt64), .long 0, .long 1]) (rest := []) (v0 := .int v5) hx hb hml hown hg (c_X9_in l D cy (p2.toInt64) (0 : Int64) (1 : Int64) v5 hv5) q_1016 q_1014 q_63 q_1015 hd_X9_in ⟨(Nat.le_of_ble_eq_true rfl), (Nat.le_of_ble_eq_true rfl)⟩ hK hP [] rfl rfl rfl rfl hl.1 rfl (Nat.le_of_ble_eq_true rfl) dX9_steam_28 ?_
      refine lv_if_ne (tgt := 36) hx hb dX9_steam_31 (by decide) (fun c6 => ?_) (fun c6 => ?_)
      · have h := it_f c6 h
        refine lv_aload_n hx hb dX9_steam_36 rfl (lv_at hl 0 rfl) ?_
        obtain ⟨v7, hv7, h⟩ := bind_e h
        refine callRV (As := []) (rest := []) (v0 := .int v7) hx hb hml hown hg (c_X9_standing l D cy a_t a_t_now (g_t_tape) (g_t_typed) (g_t_place) (g_t_isFault) (g_t_readLaw) (g_t_read) (g_t_undone) (g_t_undos) (.ref a_t_aside) (g_t_coat) (g_t_bestCoats) (g_t_bestStand) (g_t_bestPaint) (g_t_kept) (g_t_keptUndos) (g_t_isKept) (g_t_lanes) (g_t_sizes) (g_t_items) (g_t_moved) t_now F v7 hv7) q_1077 q_1074 q_63 q_1076 q_33 hd_X9_standing ⟨(Nat.le_of_ble_eq_true rfl), (Nat.le_of_ble_eq_true rfl)⟩ hK hP [0, 1] rfl 0 9 rfl rfl rfl rfl rfl rfl hl.1 rfl (Nat.le_of_ble_eq_true rfl) dX9_steam_37 ?_
        refine lv_istore (lv' := [(4, .int v7), (0, .ref a_t), (1, .int p0), (2, .int p1), (3, .int p2)]) hx hb dX9_steam_40 hl (by decide) rfl (fun ls hl => ?_)
        refine lv_iconst (v := 0) hx hb dX9_steam_42 kI_0 ?_
        refine lv_istore (lv' := [(5, .int 0), (4, .int v7), (0, .ref a_t), (1, .int p0), (2, .int p1), (3, .int p2)]) hx hb dX9_steam_43 hl (by decide) rfl (fun ls hl => ?_)
        refine lv_iconst (v := 0) hx hb dX9_steam_45 kI_0 ?_
        refine lv_istore (lv' := [(6, .int 0), (5, .int 0), (4, .int v7), (0, .ref a_t), (1, .int p0), (2, .int p1), (3, .int p2)]) hx hb dX9_steam_46 hl (by decide) rfl (fun ls hl => ?_)
        refine lv_aload_n hx hb dX9_steam_48 rfl (lv_at hl 3 rfl) ?_
        obtain ⟨v8, hv8, h⟩ := bind_e h
        refine callMV (As := []) (rest := []) (wr := []) (w2 := [(a_t, .inr (9, [.ref a_t_now, g_t_tape, g_t_typed, g_t_place, g_t_isFault, g_t_readLaw, g_t_read, g_t_undone, g_t_undos, .ref a_t_aside, g_t_coat, g_t_bestCoats, g_t_bestStand, g_t_bestPaint, g_t_kept, g_t_keptUndos, g_t_isKept, g_t_lanes, g_t_sizes, g_t_items, g_t_moved])), (a_t_now, .inl (cy 0, 24, .inl t_now)), (a_t_aside, .inl (cy 0, 24, .inl v8))]) hx hb hml hown hg (c_X9_asides l D cy a_t a_t_now a_t_aside _ (g_t_tape) (g_t_typed) (g_t_place) (g_t_isFault) (g_t_readLaw) (g_t_read) (g_t_undone) (g_t_undos) (g_t_coat) (g_t_bestCoats) (g_t_bestStand) (g_t_bestPaint) (g_t_kept) (g_t_keptUndos) (g_t_isKept) (g_t_lanes) (g_t_sizes) (g_t_items) (g_t_moved) t_now t_aside F v8 hv8) q_1192 q_1189 q_63 q_1191 q_45 hd_X9_asides ⟨(Nat.le_of_ble_eq_true rfl), (Nat.le_of_ble_eq_true rfl)⟩ hK hP hD hS hA [0, 1, 2] [] rfl rfl rfl rfl (by decide) [0, 1, 2] rfl rfl 0 9 rfl rfl rfl rfl rfl rfl hl.1 rfl rfl (Nat.le_of_ble_eq_true rfl) dX9_steam_49 (fun H locs hP hD hS => ?_)
        refine lv_iconst (v := 0) hx hb dX9_steam_52 kI_0 ?_
        refine lv_istore (lv' := [(7, .int 0), (6, .int 0), (5, .int 0), (4, .int v7), (0, .ref a_t), (1, .int p0), (2, .int p1), (3, .int p2)]) hx hb dX9_steam_53 hl (by decide) rfl (fun ls hl => ?_)
        obtain ⟨k28, hk28, h⟩ := kap (fun z => m_X9_steam_L55 p0 p1 F v7 v8 z F 0 0 0 t_now) h
        have J28 : ∀ (x13 : Int32) (x14 : Int32) (w15 : Nat → Int32) (H : Heap) (locs : List Loc) (ls : Array Slot), va_P D vwCl [(a_t, .inr (9, [.ref a_t_now, g_t_tape, g_t_typed, g_t_place, g_t_isFault, g_t_readLaw, g_t_read, g_t_undone, g_t_undos, .ref a_t_aside, g_t_coat, g_t_bestCoats, g_t_bestStand, g_t_bestPaint, g_t_kept, g_t_keptUndos, g_t_isKept, g_t_lanes, g_t_sizes, g_t_items, g_t_moved])), (a_t_now, .inl (cy 0, 24, .inl w15)), (a_t_aside, .inl (cy 0, 24, .inl v8))] H → va_D A [(a_t, .inr (9, [.ref a_t_now, g_t_tape, g_t_typed, g_t_place, g_t_isFault, g_t_readLaw, g_t_read, g_t_undone, g_t_undos, .ref a_t_aside, g_t_coat, g_t_bestCoats, g_t_bestStand, g_t_bestPaint, g_t_kept, g_t_keptUndos, g_t_isKept, g_t_lanes, g_t_sizes, g_t_items, g_t_moved])), (a_t_now, .inl (cy 0, 24, .inl w15)), (a_t_aside, .inl (cy 0, 24, .inl v8))] → va_S A s.heap H locs → lv_has ls 10 [(6, .int x13), (5, .int x14), (3, .int p2)] → k28 x13 x14 w15 = some out → W p l e (rmG 6 134) s m [.ref a_t, .int p0, .int p1, .int p2].toArray below meth c H locs 0 0 QQ (F0 m 178 ls []) := by
          intro x13 x14 w15 H locs ls hP hD hS hl h
          rw [hk28] at h
          refine lv_iload hx hb dX9_steam_178 (lv_at hl 1 rfl) ?_
          refine lv_istore (lv' := [(7, .int x14), (6, .int x13), (5, .int x14), (3, .int p2)]) hx hb dX9_steam_180 hl (by decide) rfl (fun ls hl => ?_)
          refine lv_iload hx hb dX9_steam_182 (lv_at hl 1 rfl) ?_
          refine lv_istore (lv' := [(8, .int x13), (7, .int x14), (6, .int x13), (5, .int x14), (3, .int p2)]) hx hb dX9_steam_184 hl (by decide) rfl (fun ls hl => ?_)
          obtain ⟨k22, hk22, h⟩ := kap (fun z => m_X9_steam_L186 z F x13 x14) h
          have J22 : ∀ (x18 : Int32) (H : Heap) (locs : List Loc) (ls : Array Slot), va_P D vwCl [(a_t, .inr (9, [.ref a_t_now, g_t_tape, g_t_typed, g_t_place, g_t_isFault, g_t_readLaw, g_t_read, g_t_undone, g_t_undos, .ref a_t_aside, g_t_coat, g_t_bestCoats, g_t_bestStand, g_t_bestPaint, g_t_kept, g_t_keptUndos, g_t_isKept, g_t_lanes, g_t_sizes, g_t_items, g_t_moved])), (a_t_now, .inl (cy 0, 24, .inl w15)), (a_t_aside, .inl (cy 0, 24, .inl v8))] H → va_D A [(a_t, .inr (9, [.ref a_t_now, g_t_tape, g_t_typed, g_t_place, g_t_isFault, g_t_readLaw, g_t_read, g_t_undone, g_t_undos, .ref a_t_aside, g_t_coat, g_t_bestCoats, g_t_bestStand, g_t_bestPaint, g_t_kept, g_t_keptUndos, g_t_isKept, g_t_lanes, g_t_sizes, g_t_items, g_t_moved])), (a_t_now, .inl (cy 0, 24, .inl w15)), (a_t_aside, .inl (cy 0, 24, .inl v8))] → va_S A s.heap H locs → lv_has ls 10 [(7, .int x18), (6, .int x13), (5, .int x14), (3, .int p2)] → k22 x18 = some out → W p l e (rmG 6 134) s m [.ref a_t, .int p0, .int p1, .int p2].toArray below meth c H locs 0 0 QQ (F0 m 209 ls []) := by
            intro x18 H locs ls hP hD hS hl h
            rw [hk22] at h
            refine lv_iload_n hx hb dX9_steam_209 rfl (lv_at hl 3 rfl) ?_
            refine lv_if_ne (tgt := 221) hx hb dX9_steam_210 (by decide) (fun c19 => ?_) (fun c19 => ?_)
            · have h := it_f c19 h
              refine lv_iload hx hb dX9_steam_221 (lv_at hl 1 rfl) ?_
              refine lv_iload hx hb dX9_steam_223 (lv_at hl 0 rfl) ?_
              obtain ⟨hz20, h⟩ := nzI_e h
              refine lv_idiv hx hb dX9_steam_225 hz20 ?_
              exact hret _ _ _ _ ls 226 dX9_steam_226 rfl (by rw [← Option.some.inj h]) (by rw [← Option.some.inj h]) hP hD hS
            · have h := it_t c19 h
              refine lv_iload hx hb dX9_steam_213 (lv_at hl 2 rfl) ?_
              refine lv_iload hx hb dX9_steam_215 (lv_at hl 0 rfl) ?_
              obtain ⟨hz21, h⟩ := nzI_e h
              refine lv_idiv hx hb dX9_steam_217 hz21 ?_
              refine lv_goto (tgt := 226) hx hb dX9_steam_218 (by decide) ?_
              exact hret _ _ _ _ ls 226 dX9_steam_226 rfl (by rw [← Option.some.inj h]) (by rw [← Option.some.inj h]) hP hD hS
          have L23 : ∀ (n23 : Nat) (x16 : Int32) (x17 : Int32) (H : Heap) (locs : List Loc) (ls : Array Slot), va_P D vwCl [(a_t, .inr (9, [.ref a_t_now, g_t_tape, g_t_typed, g_t_place, g_t_isFault, g_t_readLaw, g_t_read, g_t_undone, g_t_undos, .ref a_t_aside, g_t_coat, g_t_bestCoats, g_t_bestStand, g_t_bestPaint, g_t_kept, g_t_keptUndos, g_t_isKept, g_t_lanes, g_t_sizes, g_t_items, g_t_moved])), (a_t_now, .inl (cy 0, 24, .inl w15)), (a_t_aside, .inl (cy 0, 24, .inl v8))] H → va_D A [(a_t, .inr (9, [.ref a_t_now, g_t_tape, g_t_typed, g_t_place, g_t_isFault, g_t_readLaw, g_t_read, g_t_undone, g_t_undos, .ref a_t_aside, g_t_coat, g_t_bestCoats, g_t_bestStand, g_t_bestPaint, g_t_kept, g_t_keptUndos, g_t_isKept, g_t_lanes, g_t_sizes, g_t_items, g_t_moved])), (a_t_now, .inl (cy 0, 24, .inl w15)), (a_t_aside, .inl (cy 0, 24, .inl v8))] → va_S A s.heap H locs → lv_has ls 10 [(8, .int x16), (7, .int x17), (6, .int x13), (5, .int x14), (3, .int p2)] → m_X9_steam_L186 k22 n23 x16 x17 = some out → W p l e (rmG 6 134) s m [.ref a_t, .int p0, .int p1, .int p2].toArray below meth c H locs 0 0 QQ (F0 m 186 ls []) := by
            intro n23
            induction n23 with
            | zero => intro x16 x17 H locs ls hP hD hS hl h; exact nomatch (show (none : Option (Int32 × (Nat → Int32) × (Nat → Int32))) = some out from h)
            | succ n23 ih =>
                intro x16 x17 H locs ls hP hD hS hl h
                have h : m_X9_steam_L186s k22 (m_X9_steam_L186 k22 n23) x16 x17 = some out := h
                unfold m_X9_steam_L186s at h
                refine lv_iload hx hb dX9_steam_186 (lv_at hl 0 rfl) ?_
                refine lv_if_eq (tgt := 209) hx hb dX9_steam_188 (by decide) (fun c25 => ?_) (fun c25 => ?_)
                · have h := it_t c25 h
                  exact J22 x17 _ _ _ hP hD hS (lv_sub hl [1, 2, 3, 4] rfl) h
                · have h := it_f c25 h
                  refine lv_iload hx hb dX9_steam_191 (lv_at hl 1 rfl) ?_
                  refine lv_iload hx hb dX9_steam_193 (lv_at hl 0 rfl) ?_
                  obtain ⟨hz26, h⟩ := nzI_e h
                  refine lv_irem hx hb dX9_steam_195 hz26 ?_
                  refine lv_topi (fun x27 ex27 => ?_)
                  have h := bnd_e ex27 h
                  refine lv_istore (lv' := [(9, .int x27), (8, .int x16), (7, .int x17), (6, .int x13), (5, .int x14), (3, .int p2)]) hx hb dX9_steam_196 hl (by decide) rfl (fun ls hl => ?_)
                  refine lv_iload hx hb dX9_steam_198 (lv_at hl 1 rfl) ?_
                  refine lv_istore (lv' := [(7, .int x16), (9, .int x27), (8, .int x16), (6, .int x13), (5, .int x14), (3, .int p2)]) hx hb dX9_steam_200 hl (by decide) rfl (fun ls hl => ?_)
                  refine lv_iload hx hb dX9_steam_202 (lv_at hl 1 rfl) ?_
                  refine lv_istore (lv' := [(8, .int x27), (7, .int x16), (9, .int x27), (6, .int x13), (5, .int x14), (3, .int p2)]) hx hb dX9_steam_204 hl (by decide) rfl (fun ls hl => ?_)
                  refine lv_goto (tgt := 186) hx hb dX9_steam_206 (by decide) ?_
                  exact ih x27 x16 _ _ _ hP hD hS (lv_sub hl [0, 1, 3, 4, 5] rfl) h
          exact L23 F x13 x14 _ _ _ hP hD hS (lv_sub hl [0, 1, 2, 3, 4] rfl) h
        have L29 : ∀ (n29 : Nat) (x9 : Int32) (x10 : Int32) (x11 : Int32) (w12 : Nat → Int32) (H : Heap) (locs : List Loc) (ls : Array Slot), va_P D vwCl [(a_t, .inr (9, [.ref a_t_now, g_t_tape, g_t_typed, g_t_place, g_t_isFault, g_t_readLaw, g_t_read, g_t_undone, g_t_undos, .ref a_t_aside, g_t_coat, g_t_bestCoats, g_t_bestStand, g_t_bestPaint, g_t_kept, g_t_keptUndos, g_t_isKept, g_t_lanes, g_t_sizes, g_t_items, g_t_moved])), (a_t_now, .inl (cy 0, 24, .inl w12)), (a_t_aside, .inl (cy 0, 24, .inl v8))] H → va_D A [(a_t, .inr (9, [.ref a_t_now, g_t_tape, g_t_typed, g_t_place, g_t_isFault, g_t_readLaw, g_t_read, g_t_undone, g_t_undos, .ref a_t_aside, g_t_coat, g_t_bestCoats, g_t_bestStand, g_t_bestPaint, g_t_kept, g_t_keptUndos, g_t_isKept, g_t_lanes, g_t_sizes, g_t_items, g_t_moved])), (a_t_now, .inl (cy 0, 24, .inl w12)), (a_t_aside, .inl (cy 0, 24, .inl v8))] → va_S A s.heap H locs → lv_has ls 10 [(7, .int x9), (6, .int x10), (5, .int x11), (4, .int v7), (0, .ref a_t), (1, .int p0), (2, .int p1), (3, .int p2)] → m_X9_steam_L55 p0 p1 F v7 v8 k28 n29 x9 x10 x11 w12 = some out → W p l e (rmG 6 134) s m [.ref a_t, .int p0, .int p1, .int p2].toArray below meth c H locs 0 0 QQ (F0 m 55 ls []) := by
          intro n29
          induction n29 with
          | zero => intro x9 x10 x11 w12 H locs ls hP hD hS hl h; exact nomatch (show (none : Option (Int32 × (Nat → Int32) × (Nat → Int32))) = some out from h)
          | succ n29 ih =>
              intro x9 x10 x11 w12 H locs ls hP hD hS hl h
              have h : m_X9_steam_L55s p0 p1 F v7 v8 k28 (m_X9_steam_L55 p0 p1 F v7 v8 k28 n29) x9 x10 x11 w12 = some out := h
              unfold m_X9_steam_L55s at h
              refine lv_iload hx hb dX9_steam_55 (lv_at hl 0 rfl) ?_
              refine lv_bipush (v := 64) hx hb dX9_steam_57 kB_64 ?_
              refine lv_icmp_ge (tgt := 178) hx hb dX9_steam_59 (by decide) (fun c31 => ?_) (fun c31 => ?_)
              · have h := it_t c31 h
                exact J28 x10 x11 w12 _ _ _ hP hD hS (lv_sub hl [1, 2, 7] rfl) h
              · have h := it_f c31 h
                refine lv_iload hx hb dX9_steam_62 (lv_at hl 0 rfl) ?_
                refine lv_iload hx hb dX9_steam_64 (lv_at hl 3 rfl) ?_
                refine lv_iconst (v := (-1)) hx hb dX9_steam_66 kI_m1 ?_
                refine lv_ixor hx hb dX9_steam_67 ?_
                refine lv_iand hx hb dX9_steam_68 ?_
                refine lv_if_ne (tgt := 172) hx hb dX9_steam_69 (by decide) (fun c32 => ?_) (fun c32 => ?_)
                · have h := it_f c32 h
                  obtain ⟨x33, ex33⟩ : ∃ y : Int32, y = x9 + 1 := ⟨_, rfl⟩
                  have h := bnd_e ex33 h
                  refine lv_iinc (v := x33) (lv' := [(7, .int x33), (6, .int x10), (5, .int x11), (4, .int v7), (0, .ref a_t), (1, .int p0), (2, .int p1), (3, .int p2)]) hx hb dX9_steam_172 hl (k := 0) rfl (inc_e kI_1 ex33) (by decide) rfl (fun ls hl => ?_)
                  refine lv_goto (tgt := 55) hx hb dX9_steam_175 (by decide) ?_
                  exact ih x33 x10 x11 w12 _ _ _ hP hD hS (lv_sub hl [0, 1, 2, 3, 4, 5, 6, 7] rfl) h
                · have h := it_t c32 h
                  refine lv_iconst (v := 1) hx hb dX9_steam_72 kI_1 ?_
                  refine lv_istore (lv' := [(8, .int 1), (7, .int x9), (6, .int x10), (5, .int x11), (4, .int v7), (0, .ref a_t), (1, .int p0), (2, .int p1), (3, .int p2)]) hx hb dX9_steam_73 hl (by decide) rfl (fun ls hl => ?_)
                  refine lv_iconst (v := 0) hx hb dX9_steam_75 kI_0 ?_
                  refine lv_istore (lv' := [(9, .int 0), (8, .int 1), (7, .int x9), (6, .int x10), (5, .int x11), (4, .int v7), (0, .ref a_t), (1, .int p0), (2, .int p1), (3, .int p2)]) hx hb dX9_steam_76 hl (by decide) rfl (fun ls hl => ?_)
                  obtain ⟨k48, hk48, h⟩ := kap (fun z => m_X9_steam_L78 p1 v7 x9 w12 z F 0 1) h
                  have J48 : ∀ (x36 : Int32) (H : Heap) (locs : List Loc) (ls : Array Slot), va_P D vwCl [(a_t, .inr (9, [.ref a_t_now, g_t_tape, g_t_typed, g_t_place, g_t_isFault, g_t_readLaw, g_t_read, g_t_undone, g_t_undos, .ref a_t_aside, g_t_coat, g_t_bestCoats, g_t_bestStand, g_t_bestPaint, g_t_kept, g_t_keptUndos, g_t_isKept, g_t_lanes, g_t_sizes, g_t_items, g_t_moved])), (a_t_now, .inl (cy 0, 24, .inl w12)), (a_t_aside, .inl (cy 0, 24, .inl v8))] H → va_D A [(a_t, .inr (9, [.ref a_t_now, g_t_tape, g_t_typed, g_t_place, g_t_isFault, g_t_readLaw, g_t_read, g_t_undone, g_t_undos, .ref a_t_aside, g_t_coat, g_t_bestCoats, g_t_bestStand, g_t_bestPaint, g_t_kept, g_t_keptUndos, g_t_isKept, g_t_lanes, g_t_sizes, g_t_items, g_t_moved])), (a_t_now, .inl (cy 0, 24, .inl w12)), (a_t_aside, .inl (cy 0, 24, .inl v8))] → va_S A s.heap H locs → lv_has ls 10 [(8, .int x36), (7, .int x9), (6, .int x10), (5, .int x11), (4, .int v7), (0, .ref a_t), (1, .int p0), (2, .int p1), (3, .int p2)] → k48 x36 = some out → W p l e (rmG 6 134) s m [.ref a_t, .int p0, .int p1, .int p2].toArray below meth c H locs 0 0 QQ (F0 m 133 ls []) := by
                    intro x36 H locs ls hP hD hS hl h
                    rw [hk48] at h
                    refine lv_aload_n hx hb dX9_steam_133 rfl (lv_at hl 5 rfl) ?_
                    refine lv_iload hx hb dX9_steam_134 (lv_at hl 1 rfl) ?_
                    obtain ⟨v37, hv37, h⟩ := bind_e h
                    refine callMV (As := [.int x9]) (rest := []) (wr := [(a_t_aside, .inl (cy 0, 24, .inl v8))]) (w2 := [(a_t, .inr (9, [.ref a_t_now, g_t_tape, g_t_typed, g_t_place, g_t_isFault, g_t_readLaw, g_t_read, g_t_undone, g_t_undos, .ref a_t_aside, g_t_coat, g_t_bestCoats, g_t_bestStand, g_t_bestPaint, g_t_kept, g_t_keptUndos, g_t_isKept, g_t_lanes, g_t_sizes, g_t_items, g_t_moved])), (a_t_now, .inl (cy 0, 24, .inl v37)), (a_t_aside, .inl (cy 0, 24, .inl v8))]) hx hb hml hown hg (c_X9_goesBy l D cy a_t a_t_now _ (g_t_tape) (g_t_typed) (g_t_place) (g_t_isFault) (g_t_readLaw) (g_t_read) (g_t_undone) (g_t_undos) (.ref a_t_aside) (g_t_coat) (g_t_bestCoats) (g_t_bestStand) (g_t_bestPaint) (g_t_kept) (g_t_keptUndos) (g_t_isKept) (g_t_lanes) (g_t_sizes) (g_t_items) (g_t_moved) w12 x9 F v37 hv37) q_1148 q_1145 q_63 q_1147 q_42 hd_X9_goesBy ⟨(Nat.le_of_ble_eq_true rfl), (Nat.le_of_ble_eq_true rfl)⟩ hK hP hD hS hA [0, 1] [2] rfl rfl rfl rfl (by decide) [1, 2, 0] rfl rfl 0 9 rfl rfl rfl rfl rfl rfl hl.1 rfl rfl (Nat.le_of_ble_eq_true rfl) dX9_steam_136 (fun H locs hP hD hS => ?_)
                    refine lv_iload hx hb dX9_steam_139 (lv_at hl 2 rfl) ?_
                    refine lv_iload hx hb dX9_steam_141 (lv_at hl 0 rfl) ?_
                    refine lv_iadd hx hb dX9_steam_143 ?_
                    refine lv_topi (fun x38 ex38 => ?_)
                    have h := bnd_e ex38 h
                    refine lv_istore (lv' := [(6, .int x38), (8, .int x36), (7, .int x9), (5, .int x11), (4, .int v7), (0, .ref a_t), (1, .int p0), (2, .int p1), (3, .int p2)]) hx hb dX9_steam_144 hl (by decide) rfl (fun ls hl => ?_)
                    refine lv_iload hx hb dX9_steam_146 (lv_at hl 3 rfl) ?_
                    refine lv_aload_n hx hb dX9_steam_148 rfl (lv_at hl 5 rfl) ?_
                    obtain ⟨v39, hv39, h⟩ := bind_e h
                    refine callRV (As := []) (rest := [.int x11]) (v0 := .int v39) hx hb hml hown hg (c_X9_standing l D cy a_t a_t_now (g_t_tape) (g_t_typed) (g_t_place) (g_t_isFault) (g_t_readLaw) (g_t_read) (g_t_undone) (g_t_undos) (.ref a_t_aside) (g_t_coat) (g_t_bestCoats) (g_t_bestStand) (g_t_bestPaint) (g_t_kept) (g_t_keptUndos) (g_t_isKept) (g_t_lanes) (g_t_sizes) (g_t_items) (g_t_moved) v37 F v39 hv39) q_1077 q_1074 q_63 q_1076 q_33 hd_X9_standing ⟨(Nat.le_of_ble_eq_true rfl), (Nat.le_of_ble_eq_true rfl)⟩ hK hP [0, 1] rfl 0 9 rfl rfl rfl rfl rfl rfl hl.1 rfl (Nat.le_of_ble_eq_true rfl) dX9_steam_149 ?_
                    obtain ⟨v40, hv40, h⟩ := bind_e h
                    refine callRS (As := [.int v39]) (rest := [.int x11]) (v0 := .int v40) hx hb hml hown hg (c_X9_many l D cy v39 F v40 hv40) q_1073 q_1071 q_63 q_1072 hd_X9_many ⟨(Nat.le_of_ble_eq_true rfl), (Nat.le_of_ble_eq_true rfl)⟩ hK hP [] rfl rfl rfl rfl hl.1 rfl (Nat.le_of_ble_eq_true rfl) dX9_steam_152 ?_
                    refine lv_iload_n hx hb dX9_steam_155 rfl (lv_at hl 6 rfl) ?_
                    refine lv_icmp_lt (tgt := 164) hx hb dX9_steam_156 (by decide) (fun c41 => ?_) (fun c41 => ?_)
                    · have h := it_t c41 h
                      refine lv_iconst (v := 0) hx hb dX9_steam_164 kI_0 ?_
                      refine lv_iadd hx hb dX9_steam_165 ?_
                      refine lv_topi (fun x42 ex42 => ?_)
                      have h := bnd_e ex42 h
                      refine lv_istore (lv' := [(5, .int x42), (6, .int x38), (8, .int x36), (7, .int x9), (4, .int v7), (0, .ref a_t), (1, .int p0), (2, .int p1), (3, .int p2)]) hx hb dX9_steam_166 hl (by decide) rfl (fun ls hl => ?_)
                      refine lv_aload_n hx hb dX9_steam_168 rfl (lv_at hl 5 rfl) ?_
                      obtain ⟨v43, hv43, h⟩ := bind_e h
                      refine callMV (As := []) (rest := []) (wr := []) (w2 := [(a_t, .inr (9, [.ref a_t_now, g_t_tape, g_t_typed, g_t_place, g_t_isFault, g_t_readLaw, g_t_read, g_t_undone, g_t_undos, .ref a_t_aside, g_t_coat, g_t_bestCoats, g_t_bestStand, g_t_bestPaint, g_t_kept, g_t_keptUndos, g_t_isKept, g_t_lanes, g_t_sizes, g_t_items, g_t_moved])), (a_t_now, .inl (cy 0, 24, .inl v43)), (a_t_aside, .inl (cy 0, 24, .inl v8))]) hx hb hml hown hg (c_X9_backs l D cy a_t a_t_now a_t_aside _ (g_t_tape) (g_t_typed) (g_t_place) (g_t_isFault) (g_t_readLaw) (g_t_read) (g_t_undone) (g_t_undos) (g_t_coat) (g_t_bestCoats) (g_t_bestStand) (g_t_bestPaint) (g_t_kept) (g_t_keptUndos) (g_t_isKept) (g_t_lanes) (g_t_sizes) (g_t_items) (g_t_moved) v37 v8 F v43 hv43) q_1200 q_1197 q_63 q_1199 q_47 hd_X9_backs ⟨(Nat.le_of_ble_eq_true rfl), (Nat.le_of_ble_eq_true rfl)⟩ hK hP hD hS hA [0, 1, 2] [] rfl rfl rfl rfl (by decide) [0, 1, 2] rfl rfl 0 9 rfl rfl rfl rfl rfl rfl hl.1 rfl rfl (Nat.le_of_ble_eq_true rfl) dX9_steam_169 (fun H locs hP hD hS => ?_)
                      obtain ⟨x44, ex44⟩ : ∃ y : Int32, y = x9 + 1 := ⟨_, rfl⟩
                      have h := bnd_e ex44 h
                      refine lv_iinc (v := x44) (lv' := [(7, .int x44), (5, .int x42), (6, .int x38), (8, .int x36), (4, .int v7), (0, .ref a_t), (1, .int p0), (2, .int p1), (3, .int p2)]) hx hb dX9_steam_172 hl (k := 3) rfl (inc_e kI_1 ex44) (by decide) rfl (fun ls hl => ?_)
                      refine lv_goto (tgt := 55) hx hb dX9_steam_175 (by decide) ?_
                      exact ih x44 x38 x42 v43 _ _ _ hP hD hS (lv_sub hl [0, 2, 1, 4, 5, 6, 7, 8] rfl) h
                    · have h := it_f c41 h
                      refine lv_iload hx hb dX9_steam_159 (lv_at hl 1 rfl) ?_
                      refine lv_goto (tgt := 165) hx hb dX9_steam_161 (by decide) ?_
                      refine lv_iadd hx hb dX9_steam_165 ?_
                      refine lv_topi (fun x45 ex45 => ?_)
                      have h := bnd_e ex45 h
                      refine lv_istore (lv' := [(5, .int x45), (6, .int x38), (8, .int x36), (7, .int x9), (4, .int v7), (0, .ref a_t), (1, .int p0), (2, .int p1), (3, .int p2)]) hx hb dX9_steam_166 hl (by decide) rfl (fun ls hl => ?_)
                      refine lv_aload_n hx hb dX9_steam_168 rfl (lv_at hl 5 rfl) ?_
                      obtain ⟨v46, hv46, h⟩ := bind_e h
                      refine callMV (As := []) (rest := []) (wr := []) (w2 := [(a_t, .inr (9, [.ref a_t_now, g_t_tape, g_t_typed, g_t_place, g_t_isFault, g_t_readLaw, g_t_read, g_t_undone, g_t_undos, .ref a_t_aside, g_t_coat, g_t_bestCoats, g_t_bestStand, g_t_bestPaint, g_t_kept, g_t_keptUndos, g_t_isKept, g_t_lanes, g_t_sizes, g_t_items, g_t_moved])), (a_t_now, .inl (cy 0, 24, .inl v46)), (a_t_aside, .inl (cy 0, 24, .inl v8))]) hx hb hml hown hg (c_X9_backs l D cy a_t a_t_now a_t_aside _ (g_t_tape) (g_t_typed) (g_t_place) (g_t_isFault) (g_t_readLaw) (g_t_read) (g_t_undone) (g_t_undos) (g_t_coat) (g_t_bestCoats) (g_t_bestStand) (g_t_bestPaint) (g_t_kept) (g_t_keptUndos) (g_t_isKept) (g_t_lanes) (g_t_sizes) (g_t_items) (g_t_moved) v37 v8 F v46 hv46) q_1200 q_1197 q_63 q_1199 q_47 hd_X9_backs ⟨(Nat.le_of_ble_eq_true rfl), (Nat.le_of_ble_eq_true rfl)⟩ hK hP hD hS hA [0, 1, 2] [] rfl rfl rfl rfl (by decide) [0, 1, 2] rfl rfl 0 9 rfl rfl rfl rfl rfl rfl hl.1 rfl rfl (Nat.le_of_ble_eq_true rfl) dX9_steam_169 (fun H locs hP hD hS => ?_)
                      obtain ⟨x47, ex47⟩ : ∃ y : Int32, y = x9 + 1 := ⟨_, rfl⟩
                      have h := bnd_e ex47 h
                      refine lv_iinc (v := x47) (lv' := [(7, .int x47), (5, .int x45), (6, .int x38), (8, .int x36), (4, .int v7), (0, .ref a_t), (1, .int p0), (2, .int p1), (3, .int p2)]) hx hb dX9_steam_172 hl (k := 3) rfl (inc_e kI_1 ex47) (by decide) rfl (fun ls hl => ?_)
                      refine lv_goto (tgt := 55) hx hb dX9_steam_175 (by decide) ?_
                      exact ih x47 x38 x45 v46 _ _ _ hP hD hS (lv_sub hl [0, 2, 1, 4, 5, 6, 7, 8] rfl) h
                  have L49 : ∀ (n49 : Nat) (x34 : Int32) (x35 : Int32) (H : Heap) (locs : List Loc) (ls : Array Slot), va_P D vwCl [(a_t, .inr (9, [.ref a_t_now, g_t_tape, g_t_typed, g_t_place, g_t_isFault, g_t_readLaw, g_t_read, g_t_undone, g_t_undos, .ref a_t_aside, g_t_coat, g_t_bestCoats, g_t_bestStand, g_t_bestPaint, g_t_kept, g_t_keptUndos, g_t_isKept, g_t_lanes, g_t_sizes, g_t_items, g_t_moved])), (a_t_now, .inl (cy 0, 24, .inl w12)), (a_t_aside, .inl (cy 0, 24, .inl v8))] H → va_D A [(a_t, .inr (9, [.ref a_t_now, g_t_tape, g_t_typed, g_t_place, g_t_isFault, g_t_readLaw, g_t_read, g_t_undone, g_t_undos, .ref a_t_aside, g_t_coat, g_t_bestCoats, g_t_bestStand, g_t_bestPaint, g_t_kept, g_t_keptUndos, g_t_isKept, g_t_lanes, g_t_sizes, g_t_items, g_t_moved])), (a_t_now, .inl (cy 0, 24, .inl w12)), (a_t_aside, .inl (cy 0, 24, .inl v8))] → va_S A s.heap H locs → lv_has ls 10 [(9, .int x34), (8, .int x35), (7, .int x9), (6, .int x10), (5, .int x11), (4, .int v7), (0, .ref a_t), (1, .int p0), (2, .int p1), (3, .int p2)] → m_X9_steam_L78 p1 v7 x9 w12 k48 n49 x34 x35 = some out → W p l e (rmG 6 134) s m [.ref a_t, .int p0, .int p1, .int p2].toArray below meth c H locs 0 0 QQ (F0 m 78 ls []) := by
                    intro n49
                    induction n49 with
                    | zero => intro x34 x35 H locs ls hP hD hS hl h; exact nomatch (show (none : Option (Int32 × (Nat → Int32) × (Nat → Int32))) = some out from h)
                    | succ n49 ih =>
                        intro x34 x35 H locs ls hP hD hS hl h
                        have h : m_X9_steam_L78s p1 v7 x9 w12 k48 (m_X9_steam_L78 p1 v7 x9 w12 k48 n49) x34 x35 = some out := h
                        unfold m_X9_steam_L78s at h
                        refine lv_iload hx hb dX9_steam_78 (lv_at hl 0 rfl) ?_
                        refine lv_aload_n hx hb dX9_steam_80 rfl (lv_at hl 6 rfl) ?_
                        refine va_get (D := D) (ci := 9) (v := .ref a_t_now) (C := RX9) (T := TX9) (N := 21) hx hb hg inG_X9 hown hK hP 0 rfl rfl 0 (by decide) (hg _ q_945) (fun _ h9 => h9) rfl dX9_steam_81 ?_
                        refine lv_iconst (v := 0) hx hb dX9_steam_84 kI_0 ?_
                        refine ialdK hx hb hK hP 1 0 rfl rfl (vp_in_inb (by decide)) kN_0 dX9_steam_85 ?_
                        refine lv_icmp_ge (tgt := 133) hx hb dX9_steam_86 (by decide) (fun c51 => ?_) (fun c51 => ?_)
                        · have h := it_t c51 h
                          exact J48 x35 _ _ _ hP hD hS (lv_sub hl [1, 2, 3, 4, 5, 6, 7, 8, 9] rfl) h
                        · have h := it_f c51 h
                          refine lv_iload hx hb dX9_steam_89 (lv_at hl 1 rfl) ?_
                          refine lv_iload hx hb dX9_steam_91 (lv_at hl 5 rfl) ?_
                          refine lv_iload hx hb dX9_steam_93 (lv_at hl 0 rfl) ?_
                          refine lv_ishr hx hb dX9_steam_95 ?_
                          refine lv_iconst (v := 1) hx hb dX9_steam_96 kI_1 ?_
                          refine lv_iand hx hb dX9_steam_97 ?_
                          refine lv_if_ne (tgt := 105) hx hb dX9_steam_98 (by decide) (fun c52 => ?_) (fun c52 => ?_)
                          · have h := it_f c52 h
                            refine lv_iload hx hb dX9_steam_105 (lv_at hl 2 rfl) ?_
                            refine lv_iload hx hb dX9_steam_107 (lv_at hl 0 rfl) ?_
                            refine lv_ishr hx hb dX9_steam_109 ?_
                            refine lv_iconst (v := 1) hx hb dX9_steam_110 kI_1 ?_
                            refine lv_iand hx hb dX9_steam_111 ?_
                            refine lv_iconst (v := 1) hx hb dX9_steam_112 kI_1 ?_
                            refine lv_icmp_ne (tgt := 120) hx hb dX9_steam_113 (by decide) (fun c53 => ?_) (fun c53 => ?_)
                            · have h := it_f c53 h
                              refine lv_bipush (v := 10) hx hb dX9_steam_120 kB_10 ?_
                              refine lv_iload_n hx hb dX9_steam_122 rfl (lv_at hl 8 rfl) ?_
                              refine lv_isub hx hb dX9_steam_123 ?_
                              refine lv_imul hx hb dX9_steam_124 ?_
                              refine lv_topi (fun x54 ex54 => ?_)
                              have h := bnd_e ex54 h
                              refine lv_istore (lv' := [(8, .int x54), (9, .int x34), (7, .int x9), (6, .int x10), (5, .int x11), (4, .int v7), (0, .ref a_t), (1, .int p0), (2, .int p1), (3, .int p2)]) hx hb dX9_steam_125 hl (by decide) rfl (fun ls hl => ?_)
                              obtain ⟨x55, ex55⟩ : ∃ y : Int32, y = x34 + 1 := ⟨_, rfl⟩
                              have h := bnd_e ex55 h
                              refine lv_iinc (v := x55) (lv' := [(9, .int x55), (8, .int x54), (7, .int x9), (6, .int x10), (5, .int x11), (4, .int v7), (0, .ref a_t), (1, .int p0), (2, .int p1), (3, .int p2)]) hx hb dX9_steam_127 hl (k := 1) rfl (inc_e kI_1 ex55) (by decide) rfl (fun ls hl => ?_)
                              refine lv_goto (tgt := 78) hx hb dX9_steam_130 (by decide) ?_
                              exact ih x55 x54 _ _ _ hP hD hS (lv_sub hl [0, 1, 2, 3, 4, 5, 6, 7, 8, 9] rfl) h
                            · have h := it_t c53 h
                              refine lv_iload_n hx hb dX9_steam_116 rfl (lv_at hl 8 rfl) ?_
                              refine lv_goto (tgt := 124) hx hb dX9_steam_117 (by decide) ?_
                              refine lv_imul hx hb dX9_steam_124 ?_
                              refine lv_topi (fun x56 ex56 => ?_)
                              have h := bnd_e ex56 h
                              refine lv_istore (lv' := [(8, .int x56), (9, .int x34), (7, .int x9), (6, .int x10), (5, .int x11), (4, .int v7), (0, .ref a_t), (1, .int p0), (2, .int p1), (3, .int p2)]) hx hb dX9_steam_125 hl (by decide) rfl (fun ls hl => ?_)
                              obtain ⟨x57, ex57⟩ : ∃ y : Int32, y = x34 + 1 := ⟨_, rfl⟩
                              have h := bnd_e ex57 h
                              refine lv_iinc (v := x57) (lv' := [(9, .int x57), (8, .int x56), (7, .int x9), (6, .int x10), (5, .int x11), (4, .int v7), (0, .ref a_t), (1, .int p0), (2, .int p1), (3, .int p2)]) hx hb dX9_steam_127 hl (k := 1) rfl (inc_e kI_1 ex57) (by decide) rfl (fun ls hl => ?_)
                              refine lv_goto (tgt := 78) hx hb dX9_steam_130 (by decide) ?_
                              exact ih x57 x56 _ _ _ hP hD hS (lv_sub hl [0, 1, 2, 3, 4, 5, 6, 7, 8, 9] rfl) h
                          · have h := it_t c52 h
                            refine lv_iconst (v := 1) hx hb dX9_steam_101 kI_1 ?_
                            refine lv_goto (tgt := 124) hx hb dX9_steam_102 (by decide) ?_
                            refine lv_imul hx hb dX9_steam_124 ?_
                            refine lv_topi (fun x58 ex58 => ?_)
                            have h := bnd_e ex58 h
                            refine lv_istore (lv' := [(8, .int x58), (9, .int x34), (7, .int x9), (6, .int x10), (5, .int x11), (4, .int v7), (0, .ref a_t), (1, .int p0), (2, .int p1), (3, .int p2)]) hx hb dX9_steam_125 hl (by decide) rfl (fun ls hl => ?_)
                            obtain ⟨x59, ex59⟩ : ∃ y : Int32, y = x34 + 1 := ⟨_, rfl⟩
                            have h := bnd_e ex59 h
                            refine lv_iinc (v := x59) (lv' := [(9, .int x59), (8, .int x58), (7, .int x9), (6, .int x10), (5, .int x11), (4, .int v7), (0, .ref a_t), (1, .int p0), (2, .int p1), (3, .int p2)]) hx hb dX9_steam_127 hl (k := 1) rfl (inc_e kI_1 ex59) (by decide) rfl (fun ls hl => ?_)
                            refine lv_goto (tgt := 78) hx hb dX9_steam_130 (by decide) ?_
                            exact ih x59 x58 _ _ _ hP hD hS (lv_sub hl [0, 1, 2, 3, 4, 5, 6, 7, 8, 9] rfl) h
                  exact L49 F 0 1 _ _ _ hP hD hS (lv_sub hl [0, 1, 2, 3, 4, 5, 6, 7, 8, 9] rfl) h
        exact L29 F 0 0 0 t_now _ _ _ hP hD hS (lv_sub hl [0, 1, 2, 3, 4, 5, 6, 7] rfl) h
      · have h := it_t c6 h
        refine lv_iconst (v := (-1)) hx hb dX9_steam_34 kI_m1 ?_
        exact hret _ _ _ _ ls 35 dX9_steam_35 rfl (by rw [← Option.some.inj h]) (by rw [← Option.some.inj h]) hP hD hS

def m_X9_image_L28s (t_undone : Nat → Int32) (k7 : (Nat → Int32) → Option (Int32 × (Nat → Int32) × Int32 × Int32)) (r9 : Int32 → (Nat → Int32) → Option (Int32 × (Nat → Int32) × Int32 × Int32)) (x4 : Int32) (w5 : Nat → Int32) : Option (Int32 × (Nat → Int32) × Int32 × Int32) := (if 112 ≤ x4 then k7 w5 else chk x4 112 (chk (24 + x4) 136 (bnd (x4 + 1) (fun x13 => r9 x13 (upd w5 (24 + x4).toNatClampNeg (t_undone x4.toNatClampNeg))))))
def m_X9_image_L28 (t_undone : Nat → Int32) (k7 : (Nat → Int32) → Option (Int32 × (Nat → Int32) × Int32 × Int32)) : Nat → Int32 → (Nat → Int32) → Option (Int32 × (Nat → Int32) × Int32 × Int32)
  | 0 => fun _ _ => none
  | nF + 1 => m_X9_image_L28s t_undone k7 (m_X9_image_L28 t_undone k7 nF)
def m_X9_image_L2s (t_now : Nat → Int32) (k14 : (Nat → Int32) → Option (Int32 × (Nat → Int32) × Int32 × Int32)) (r16 : Int32 → (Nat → Int32) → Option (Int32 × (Nat → Int32) × Int32 × Int32)) (x1 : Int32) (w2 : Nat → Int32) : Option (Int32 × (Nat → Int32) × Int32 × Int32) := (if 24 ≤ x1 then k14 w2 else chk x1 24 (chk x1 136 (bnd (x1 + 1) (fun x20 => r16 x20 (upd w2 x1.toNatClampNeg (t_now x1.toNatClampNeg))))))
def m_X9_image_L2 (t_now : Nat → Int32) (k14 : (Nat → Int32) → Option (Int32 × (Nat → Int32) × Int32 × Int32)) : Nat → Int32 → (Nat → Int32) → Option (Int32 × (Nat → Int32) × Int32 × Int32)
  | 0 => fun _ _ => none
  | nF + 1 => m_X9_image_L2s t_now k14 (m_X9_image_L2 t_now k14 nF)
def m_X9_image (F : Nat) (t_now : Nat → Int32) (t_undone : Nat → Int32) (t_undos : Int32) (t_kept : Nat → Int32) (t_keptUndos : Int32) (t_isKept : Int32) : Option (Int32 × (Nat → Int32) × Int32 × Int32) := m_X9_image_L2 t_now (fun (w3 : Nat → Int32) => m_X9_image_L28 t_undone (fun (w6 : Nat → Int32) => some (1, w6, t_undos, 1)) F 0 w3) F 0 t_kept
set_option maxHeartbeats 4000000 in
set_option maxRecDepth 100000 in
theorem c_X9_image (l : Launch) (D : va_G) (cy : Nat → ClassId) (a_t : Nat) (a_t_now : Nat) (a_t_undone : Nat) (a_t_kept : Nat) (sz : Nat) (g_t_tape : Value) (g_t_typed : Value) (g_t_place : Value) (g_t_isFault : Value) (g_t_readLaw : Value) (g_t_read : Value) (g_t_aside : Value) (g_t_coat : Value) (g_t_bestCoats : Value) (g_t_bestStand : Value) (g_t_bestPaint : Value) (g_t_lanes : Value) (g_t_sizes : Value) (g_t_items : Value) (g_t_moved : Value) (t_now : Nat → Int32) (t_undone : Nat → Int32) (t_undos : Int32) (t_kept : Nat → Int32) (t_keptUndos : Int32) (t_isKept : Int32) (F : Nat) (out : Int32 × (Nat → Int32) × Int32 × Int32) (h : m_X9_image F t_now t_undone t_undos t_kept t_keptUndos t_isKept = some out) : MetM l D cy yX9_image cX9_image 2 (some .int) (rmG 0 0) [.ref a_t] sz [(a_t, .inr (9, [.ref a_t_now, g_t_tape, g_t_typed, g_t_place, g_t_isFault, g_t_readLaw, g_t_read, .ref a_t_undone, .int t_undos, g_t_aside, g_t_coat, g_t_bestCoats, g_t_bestStand, g_t_bestPaint, .ref a_t_kept, .int t_keptUndos, .int t_isKept, g_t_lanes, g_t_sizes, g_t_items, g_t_moved])), (a_t_now, .inl (cy 0, 24, .inl t_now)), (a_t_undone, .inl (cy 0, 112, .inl t_undone)), (a_t_kept, .inl (cy 0, 136, .inl t_kept))] (some (.int out.1)) [(a_t, .inr (9, [.ref a_t_now, g_t_tape, g_t_typed, g_t_place, g_t_isFault, g_t_readLaw, g_t_read, .ref a_t_undone, .int t_undos, g_t_aside, g_t_coat, g_t_bestCoats, g_t_bestStand, g_t_bestPaint, .ref a_t_kept, .int out.2.2.1, .int out.2.2.2, g_t_lanes, g_t_sizes, g_t_items, g_t_moved])), (a_t_now, .inl (cy 0, 24, .inl t_now)), (a_t_undone, .inl (cy 0, 112, .inl t_undone)), (a_t_kept, .inl (cy 0, 136, .inl out.2.1))] := by
  refine startMi (own := RX9) (by decide) rfl (Nat.le_of_ble_eq_true rfl) ?_
  intro p e s m below meth c QQ A hx hb hml hown hg hK hP hD hS hA hret ls hl
  have hl : lv_has ls 2 [(0, .ref a_t)] := hl
  unfold m_X9_image at h
  refine lv_iconst (v := 0) hx hb dX9_image_0 kI_0 ?_
  refine lv_istore_n (lv' := [(1, .int 0), (0, .ref a_t)]) hx hb dX9_image_1 rfl hl (by decide) rfl (fun ls hl => ?_)
  obtain ⟨k14, hk14, h⟩ := kap (fun z => m_X9_image_L2 t_now z F 0 t_kept) h
  have J14 : ∀ (w3 : Nat → Int32) (H : Heap) (locs : List Loc) (ls : Array Slot), va_P D vwCl [(a_t, .inr (9, [.ref a_t_now, g_t_tape, g_t_typed, g_t_place, g_t_isFault, g_t_readLaw, g_t_read, .ref a_t_undone, .int t_undos, g_t_aside, g_t_coat, g_t_bestCoats, g_t_bestStand, g_t_bestPaint, .ref a_t_kept, .int t_keptUndos, .int t_isKept, g_t_lanes, g_t_sizes, g_t_items, g_t_moved])), (a_t_now, .inl (cy 0, 24, .inl t_now)), (a_t_undone, .inl (cy 0, 112, .inl t_undone)), (a_t_kept, .inl (cy 0, 136, .inl w3))] H → va_D A [(a_t, .inr (9, [.ref a_t_now, g_t_tape, g_t_typed, g_t_place, g_t_isFault, g_t_readLaw, g_t_read, .ref a_t_undone, .int t_undos, g_t_aside, g_t_coat, g_t_bestCoats, g_t_bestStand, g_t_bestPaint, .ref a_t_kept, .int t_keptUndos, .int t_isKept, g_t_lanes, g_t_sizes, g_t_items, g_t_moved])), (a_t_now, .inl (cy 0, 24, .inl t_now)), (a_t_undone, .inl (cy 0, 112, .inl t_undone)), (a_t_kept, .inl (cy 0, 136, .inl w3))] → va_S A s.heap H locs → lv_has ls 2 [(0, .ref a_t)] → k14 w3 = some out → W p l e (rmG 0 0) s m [.ref a_t].toArray below meth c H locs 0 0 QQ (F0 m 26 ls []) := by
    intro w3 H locs ls hP hD hS hl h
    rw [hk14] at h
    refine lv_iconst (v := 0) hx hb dX9_image_26 kI_0 ?_
    refine lv_istore_n (lv' := [(1, .int 0), (0, .ref a_t)]) hx hb dX9_image_27 rfl hl (by decide) rfl (fun ls hl => ?_)
    obtain ⟨k7, hk7, h⟩ := kap (fun z => m_X9_image_L28 t_undone z F 0 w3) h
    have J7 : ∀ (w6 : Nat → Int32) (H : Heap) (locs : List Loc) (ls : Array Slot), va_P D vwCl [(a_t, .inr (9, [.ref a_t_now, g_t_tape, g_t_typed, g_t_place, g_t_isFault, g_t_readLaw, g_t_read, .ref a_t_undone, .int t_undos, g_t_aside, g_t_coat, g_t_bestCoats, g_t_bestStand, g_t_bestPaint, .ref a_t_kept, .int t_keptUndos, .int t_isKept, g_t_lanes, g_t_sizes, g_t_items, g_t_moved])), (a_t_now, .inl (cy 0, 24, .inl t_now)), (a_t_undone, .inl (cy 0, 112, .inl t_undone)), (a_t_kept, .inl (cy 0, 136, .inl w6))] H → va_D A [(a_t, .inr (9, [.ref a_t_now, g_t_tape, g_t_typed, g_t_place, g_t_isFault, g_t_readLaw, g_t_read, .ref a_t_undone, .int t_undos, g_t_aside, g_t_coat, g_t_bestCoats, g_t_bestStand, g_t_bestPaint, .ref a_t_kept, .int t_keptUndos, .int t_isKept, g_t_lanes, g_t_sizes, g_t_items, g_t_moved])), (a_t_now, .inl (cy 0, 24, .inl t_now)), (a_t_undone, .inl (cy 0, 112, .inl t_undone)), (a_t_kept, .inl (cy 0, 136, .inl w6))] → va_S A s.heap H locs → lv_has ls 2 [(0, .ref a_t)] → k7 w6 = some out → W p l e (rmG 0 0) s m [.ref a_t].toArray below meth c H locs 0 0 QQ (F0 m 55 ls []) := by
      intro w6 H locs ls hP hD hS hl h
      rw [hk7] at h
      refine lv_aload_n hx hb dX9_image_55 rfl (lv_at hl 0 rfl) ?_
      refine lv_aload_n hx hb dX9_image_56 rfl (lv_at hl 0 rfl) ?_
      refine va_get (D := D) (ci := 9) (v := .int t_undos) (C := RX9) (T := TX9) (N := 21) hx hb hg inG_X9 hown hK hP 0 rfl rfl 8 (by decide) (hg _ q_953) (fun _ h9 => h9) rfl dX9_image_57 ?_
      refine va_put (D := D) (ci := 9) (v := .int t_undos) (ty := .int) (C := RX9) (T := TX9) (N := 21) hx hb hg inG_X9 tyX9 tyX9_ok nmX9 hown hK hP hD hS 0 rfl rfl 15 (by decide) (hg _ q_960) (fun _ h9 => h9) rfl (tyX9_ok 15 (by decide)) rfl rfl (Nat.le_of_ble_eq_true rfl) dX9_image_60 (fun H locs hP hD hS => ?_)
      have hP : va_P D vwCl [(a_t, .inr (9, [.ref a_t_now, g_t_tape, g_t_typed, g_t_place, g_t_isFault, g_t_readLaw, g_t_read, .ref a_t_undone, .int t_undos, g_t_aside, g_t_coat, g_t_bestCoats, g_t_bestStand, g_t_bestPaint, .ref a_t_kept, .int t_undos, .int t_isKept, g_t_lanes, g_t_sizes, g_t_items, g_t_moved])), (a_t_now, .inl (cy 0, 24, .inl t_now)), (a_t_undone, .inl (cy 0, 112, .inl t_undone)), (a_t_kept, .inl (cy 0, 136, .inl w6))] H := hP
      have hD : va_D A [(a_t, .inr (9, [.ref a_t_now, g_t_tape, g_t_typed, g_t_place, g_t_isFault, g_t_readLaw, g_t_read, .ref a_t_undone, .int t_undos, g_t_aside, g_t_coat, g_t_bestCoats, g_t_bestStand, g_t_bestPaint, .ref a_t_kept, .int t_undos, .int t_isKept, g_t_lanes, g_t_sizes, g_t_items, g_t_moved])), (a_t_now, .inl (cy 0, 24, .inl t_now)), (a_t_undone, .inl (cy 0, 112, .inl t_undone)), (a_t_kept, .inl (cy 0, 136, .inl w6))] := hD
      refine lv_aload_n hx hb dX9_image_63 rfl (lv_at hl 0 rfl) ?_
      refine lv_iconst (v := 1) hx hb dX9_image_64 kI_1 ?_
      refine va_put (D := D) (ci := 9) (v := .int 1) (ty := .boolean) (C := RX9) (T := TX9) (N := 21) hx hb hg inG_X9 tyX9 tyX9_ok nmX9 hown hK hP hD hS 0 rfl rfl 16 (by decide) (hg _ q_961) (fun _ h9 => h9) rfl (tyX9_ok 16 (by decide)) (nar_z (Or.inr rfl)) (fit_z (Or.inr rfl)) (Nat.le_of_ble_eq_true rfl) dX9_image_65 (fun H locs hP hD hS => ?_)
      have hP : va_P D vwCl [(a_t, .inr (9, [.ref a_t_now, g_t_tape, g_t_typed, g_t_place, g_t_isFault, g_t_readLaw, g_t_read, .ref a_t_undone, .int t_undos, g_t_aside, g_t_coat, g_t_bestCoats, g_t_bestStand, g_t_bestPaint, .ref a_t_kept, .int t_undos, .int 1, g_t_lanes, g_t_sizes, g_t_items, g_t_moved])), (a_t_now, .inl (cy 0, 24, .inl t_now)), (a_t_undone, .inl (cy 0, 112, .inl t_undone)), (a_t_kept, .inl (cy 0, 136, .inl w6))] H := hP
      have hD : va_D A [(a_t, .inr (9, [.ref a_t_now, g_t_tape, g_t_typed, g_t_place, g_t_isFault, g_t_readLaw, g_t_read, .ref a_t_undone, .int t_undos, g_t_aside, g_t_coat, g_t_bestCoats, g_t_bestStand, g_t_bestPaint, .ref a_t_kept, .int t_undos, .int 1, g_t_lanes, g_t_sizes, g_t_items, g_t_moved])), (a_t_now, .inl (cy 0, 24, .inl t_now)), (a_t_undone, .inl (cy 0, 112, .inl t_undone)), (a_t_kept, .inl (cy 0, 136, .inl w6))] := hD
      refine lv_iconst (v := 1) hx hb dX9_image_68 kI_1 ?_
      exact hret _ _ _ _ ls 69 dX9_image_69 rfl (by rw [← Option.some.inj h]) (by rw [← Option.some.inj h]) hP hD hS
    have L8 : ∀ (n8 : Nat) (x4 : Int32) (w5 : Nat → Int32) (H : Heap) (locs : List Loc) (ls : Array Slot), va_P D vwCl [(a_t, .inr (9, [.ref a_t_now, g_t_tape, g_t_typed, g_t_place, g_t_isFault, g_t_readLaw, g_t_read, .ref a_t_undone, .int t_undos, g_t_aside, g_t_coat, g_t_bestCoats, g_t_bestStand, g_t_bestPaint, .ref a_t_kept, .int t_keptUndos, .int t_isKept, g_t_lanes, g_t_sizes, g_t_items, g_t_moved])), (a_t_now, .inl (cy 0, 24, .inl t_now)), (a_t_undone, .inl (cy 0, 112, .inl t_undone)), (a_t_kept, .inl (cy 0, 136, .inl w5))] H → va_D A [(a_t, .inr (9, [.ref a_t_now, g_t_tape, g_t_typed, g_t_place, g_t_isFault, g_t_readLaw, g_t_read, .ref a_t_undone, .int t_undos, g_t_aside, g_t_coat, g_t_bestCoats, g_t_bestStand, g_t_bestPaint, .ref a_t_kept, .int t_keptUndos, .int t_isKept, g_t_lanes, g_t_sizes, g_t_items, g_t_moved])), (a_t_now, .inl (cy 0, 24, .inl t_now)), (a_t_undone, .inl (cy 0, 112, .inl t_undone)), (a_t_kept, .inl (cy 0, 136, .inl w5))] → va_S A s.heap H locs → lv_has ls 2 [(1, .int x4), (0, .ref a_t)] → m_X9_image_L28 t_undone k7 n8 x4 w5 = some out → W p l e (rmG 0 0) s m [.ref a_t].toArray below meth c H locs 0 0 QQ (F0 m 28 ls []) := by
      intro n8
      induction n8 with
      | zero => intro x4 w5 H locs ls hP hD hS hl h; exact nomatch (show (none : Option (Int32 × (Nat → Int32) × Int32 × Int32)) = some out from h)
      | succ n8 ih =>
          intro x4 w5 H locs ls hP hD hS hl h
          have h : m_X9_image_L28s t_undone k7 (m_X9_image_L28 t_undone k7 n8) x4 w5 = some out := h
          unfold m_X9_image_L28s at h
          refine lv_iload_n hx hb dX9_image_28 rfl (lv_at hl 0 rfl) ?_
          refine lv_bipush (v := 112) hx hb dX9_image_29 kB_112 ?_
          refine lv_icmp_ge (tgt := 55) hx hb dX9_image_31 (by decide) (fun c10 => ?_) (fun c10 => ?_)
          · have h := it_t c10 h
            exact J7 w5 _ _ _ hP hD hS (lv_sub hl [1] rfl) h
          · have h := it_f c10 h
            refine lv_aload_n hx hb dX9_image_34 rfl (lv_at hl 1 rfl) ?_
            refine va_get (D := D) (ci := 9) (v := .ref a_t_kept) (C := RX9) (T := TX9) (N := 21) hx hb hg inG_X9 hown hK hP 0 rfl rfl 14 (by decide) (hg _ q_959) (fun _ h9 => h9) rfl dX9_image_35 ?_
            refine lv_bipush (v := 24) hx hb dX9_image_38 kB_24 ?_
            refine lv_iload_n hx hb dX9_image_40 rfl (lv_at hl 0 rfl) ?_
            refine lv_iadd hx hb dX9_image_41 ?_
            refine lv_aload_n hx hb dX9_image_42 rfl (lv_at hl 1 rfl) ?_
            refine va_get (D := D) (ci := 9) (v := .ref a_t_undone) (C := RX9) (T := TX9) (N := 21) hx hb hg inG_X9 hown hK hP 0 rfl rfl 7 (by decide) (hg _ q_952) (fun _ h9 => h9) rfl dX9_image_43 ?_
            refine lv_iload_n hx hb dX9_image_46 rfl (lv_at hl 0 rfl) ?_
            obtain ⟨hi11, h⟩ := chk_e h
            refine va_iald hx hb hK hP 2 0 rfl rfl hi11 dX9_image_47 ?_
            obtain ⟨hi12, h⟩ := chk_e h
            refine va_iast hx hb hK hP hD hS 3 0 rfl rfl hi12 dX9_image_48 (fun H locs hP hD hS => ?_)
            have hP : va_P D vwCl [(a_t, .inr (9, [.ref a_t_now, g_t_tape, g_t_typed, g_t_place, g_t_isFault, g_t_readLaw, g_t_read, .ref a_t_undone, .int t_undos, g_t_aside, g_t_coat, g_t_bestCoats, g_t_bestStand, g_t_bestPaint, .ref a_t_kept, .int t_keptUndos, .int t_isKept, g_t_lanes, g_t_sizes, g_t_items, g_t_moved])), (a_t_now, .inl (cy 0, 24, .inl t_now)), (a_t_undone, .inl (cy 0, 112, .inl t_undone)), (a_t_kept, .inl (cy 0, 136, .inl (upd w5 (24 + x4).toNatClampNeg (t_undone x4.toNatClampNeg))))] H := hP
            have hD : va_D A [(a_t, .inr (9, [.ref a_t_now, g_t_tape, g_t_typed, g_t_place, g_t_isFault, g_t_readLaw, g_t_read, .ref a_t_undone, .int t_undos, g_t_aside, g_t_coat, g_t_bestCoats, g_t_bestStand, g_t_bestPaint, .ref a_t_kept, .int t_keptUndos, .int t_isKept, g_t_lanes, g_t_sizes, g_t_items, g_t_moved])), (a_t_now, .inl (cy 0, 24, .inl t_now)), (a_t_undone, .inl (cy 0, 112, .inl t_undone)), (a_t_kept, .inl (cy 0, 136, .inl (upd w5 (24 + x4).toNatClampNeg (t_undone x4.toNatClampNeg))))] := hD
            obtain ⟨x13, ex13⟩ : ∃ y : Int32, y = x4 + 1 := ⟨_, rfl⟩
            have h := bnd_e ex13 h
            refine lv_iinc (v := x13) (lv' := [(1, .int x13), (0, .ref a_t)]) hx hb dX9_image_49 hl (k := 0) rfl (inc_e kI_1 ex13) (by decide) rfl (fun ls hl => ?_)
            refine lv_goto (tgt := 28) hx hb dX9_image_52 (by decide) ?_
            exact ih x13 (upd w5 (24 + x4).toNatClampNeg (t_undone x4.toNatClampNeg)) _ _ _ hP hD hS (lv_sub hl [0, 1] rfl) h
    exact L8 F 0 w3 _ _ _ hP hD hS (lv_sub hl [0, 1] rfl) h
  have L15 : ∀ (n15 : Nat) (x1 : Int32) (w2 : Nat → Int32) (H : Heap) (locs : List Loc) (ls : Array Slot), va_P D vwCl [(a_t, .inr (9, [.ref a_t_now, g_t_tape, g_t_typed, g_t_place, g_t_isFault, g_t_readLaw, g_t_read, .ref a_t_undone, .int t_undos, g_t_aside, g_t_coat, g_t_bestCoats, g_t_bestStand, g_t_bestPaint, .ref a_t_kept, .int t_keptUndos, .int t_isKept, g_t_lanes, g_t_sizes, g_t_items, g_t_moved])), (a_t_now, .inl (cy 0, 24, .inl t_now)), (a_t_undone, .inl (cy 0, 112, .inl t_undone)), (a_t_kept, .inl (cy 0, 136, .inl w2))] H → va_D A [(a_t, .inr (9, [.ref a_t_now, g_t_tape, g_t_typed, g_t_place, g_t_isFault, g_t_readLaw, g_t_read, .ref a_t_undone, .int t_undos, g_t_aside, g_t_coat, g_t_bestCoats, g_t_bestStand, g_t_bestPaint, .ref a_t_kept, .int t_keptUndos, .int t_isKept, g_t_lanes, g_t_sizes, g_t_items, g_t_moved])), (a_t_now, .inl (cy 0, 24, .inl t_now)), (a_t_undone, .inl (cy 0, 112, .inl t_undone)), (a_t_kept, .inl (cy 0, 136, .inl w2))] → va_S A s.heap H locs → lv_has ls 2 [(1, .int x1), (0, .ref a_t)] → m_X9_image_L2 t_now k14 n15 x1 w2 = some out → W p l e (rmG 0 0) s m [.ref a_t].toArray below meth c H locs 0 0 QQ (F0 m 2 ls []) := by
    intro n15
    induction n15 with
    | zero => intro x1 w2 H locs ls hP hD hS hl h; exact nomatch (show (none : Option (Int32 × (Nat → Int32) × Int32 × Int32)) = some out from h)
    | succ n15 ih =>
        intro x1 w2 H locs ls hP hD hS hl h
        have h : m_X9_image_L2s t_now k14 (m_X9_image_L2 t_now k14 n15) x1 w2 = some out := h
        unfold m_X9_image_L2s at h
        refine lv_iload_n hx hb dX9_image_2 rfl (lv_at hl 0 rfl) ?_
        refine lv_bipush (v := 24) hx hb dX9_image_3 kB_24 ?_
        refine lv_icmp_ge (tgt := 26) hx hb dX9_image_5 (by decide) (fun c17 => ?_) (fun c17 => ?_)
        · have h := it_t c17 h
          exact J14 w2 _ _ _ hP hD hS (lv_sub hl [1] rfl) h
        · have h := it_f c17 h
          refine lv_aload_n hx hb dX9_image_8 rfl (lv_at hl 1 rfl) ?_
          refine va_get (D := D) (ci := 9) (v := .ref a_t_kept) (C := RX9) (T := TX9) (N := 21) hx hb hg inG_X9 hown hK hP 0 rfl rfl 14 (by decide) (hg _ q_959) (fun _ h9 => h9) rfl dX9_image_9 ?_
          refine lv_iload_n hx hb dX9_image_12 rfl (lv_at hl 0 rfl) ?_
          refine lv_aload_n hx hb dX9_image_13 rfl (lv_at hl 1 rfl) ?_
          refine va_get (D := D) (ci := 9) (v := .ref a_t_now) (C := RX9) (T := TX9) (N := 21) hx hb hg inG_X9 hown hK hP 0 rfl rfl 0 (by decide) (hg _ q_945) (fun _ h9 => h9) rfl dX9_image_14 ?_
          refine lv_iload_n hx hb dX9_image_17 rfl (lv_at hl 0 rfl) ?_
          obtain ⟨hi18, h⟩ := chk_e h
          refine va_iald hx hb hK hP 1 0 rfl rfl hi18 dX9_image_18 ?_
          obtain ⟨hi19, h⟩ := chk_e h
          refine va_iast hx hb hK hP hD hS 3 0 rfl rfl hi19 dX9_image_19 (fun H locs hP hD hS => ?_)
          have hP : va_P D vwCl [(a_t, .inr (9, [.ref a_t_now, g_t_tape, g_t_typed, g_t_place, g_t_isFault, g_t_readLaw, g_t_read, .ref a_t_undone, .int t_undos, g_t_aside, g_t_coat, g_t_bestCoats, g_t_bestStand, g_t_bestPaint, .ref a_t_kept, .int t_keptUndos, .int t_isKept, g_t_lanes, g_t_sizes, g_t_items, g_t_moved])), (a_t_now, .inl (cy 0, 24, .inl t_now)), (a_t_undone, .inl (cy 0, 112, .inl t_undone)), (a_t_kept, .inl (cy 0, 136, .inl (upd w2 x1.toNatClampNeg (t_now x1.toNatClampNeg))))] H := hP
          have hD : va_D A [(a_t, .inr (9, [.ref a_t_now, g_t_tape, g_t_typed, g_t_place, g_t_isFault, g_t_readLaw, g_t_read, .ref a_t_undone, .int t_undos, g_t_aside, g_t_coat, g_t_bestCoats, g_t_bestStand, g_t_bestPaint, .ref a_t_kept, .int t_keptUndos, .int t_isKept, g_t_lanes, g_t_sizes, g_t_items, g_t_moved])), (a_t_now, .inl (cy 0, 24, .inl t_now)), (a_t_undone, .inl (cy 0, 112, .inl t_undone)), (a_t_kept, .inl (cy 0, 136, .inl (upd w2 x1.toNatClampNeg (t_now x1.toNatClampNeg))))] := hD
          obtain ⟨x20, ex20⟩ : ∃ y : Int32, y = x1 + 1 := ⟨_, rfl⟩
          have h := bnd_e ex20 h
          refine lv_iinc (v := x20) (lv' := [(1, .int x20), (0, .ref a_t)]) hx hb dX9_image_20 hl (k := 0) rfl (inc_e kI_1 ex20) (by decide) rfl (fun ls hl => ?_)
          refine lv_goto (tgt := 2) hx hb dX9_image_23 (by decide) ?_
          exact ih x20 (upd w2 x1.toNatClampNeg (t_now x1.toNatClampNeg)) _ _ _ hP hD hS (lv_sub hl [0, 1] rfl) h
  exact L15 F 0 t_kept _ _ _ hP hD hS (lv_sub hl [0, 1] rfl) h

def m_X9_restore_L38s (t_kept : Nat → Int32) (k8 : (Nat → Int32) → Option (Int32 × (Nat → Int32) × (Nat → Int32) × Int32)) (r10 : Int32 → (Nat → Int32) → Option (Int32 × (Nat → Int32) × (Nat → Int32) × Int32)) (x5 : Int32) (w6 : Nat → Int32) : Option (Int32 × (Nat → Int32) × (Nat → Int32) × Int32) := (if 112 ≤ x5 then k8 w6 else chk (24 + x5) 136 (chk x5 112 (bnd (x5 + 1) (fun x14 => r10 x14 (upd w6 x5.toNatClampNeg (t_kept (24 + x5).toNatClampNeg))))))
def m_X9_restore_L38 (t_kept : Nat → Int32) (k8 : (Nat → Int32) → Option (Int32 × (Nat → Int32) × (Nat → Int32) × Int32)) : Nat → Int32 → (Nat → Int32) → Option (Int32 × (Nat → Int32) × (Nat → Int32) × Int32)
  | 0 => fun _ _ => none
  | nF + 1 => m_X9_restore_L38s t_kept k8 (m_X9_restore_L38 t_kept k8 nF)
def m_X9_restore_L12s (t_kept : Nat → Int32) (k15 : (Nat → Int32) → Option (Int32 × (Nat → Int32) × (Nat → Int32) × Int32)) (r17 : Int32 → (Nat → Int32) → Option (Int32 × (Nat → Int32) × (Nat → Int32) × Int32)) (x2 : Int32) (w3 : Nat → Int32) : Option (Int32 × (Nat → Int32) × (Nat → Int32) × Int32) := (if 24 ≤ x2 then k15 w3 else chk x2 136 (chk x2 24 (bnd (x2 + 1) (fun x21 => r17 x21 (upd w3 x2.toNatClampNeg (t_kept x2.toNatClampNeg))))))
def m_X9_restore_L12 (t_kept : Nat → Int32) (k15 : (Nat → Int32) → Option (Int32 × (Nat → Int32) × (Nat → Int32) × Int32)) : Nat → Int32 → (Nat → Int32) → Option (Int32 × (Nat → Int32) × (Nat → Int32) × Int32)
  | 0 => fun _ _ => none
  | nF + 1 => m_X9_restore_L12s t_kept k15 (m_X9_restore_L12 t_kept k15 nF)
def m_X9_restore (F : Nat) (t_now : Nat → Int32) (t_undone : Nat → Int32) (t_undos : Int32) (t_kept : Nat → Int32) (t_keptUndos : Int32) (t_isKept : Int32) : Option (Int32 × (Nat → Int32) × (Nat → Int32) × Int32) := (if t_isKept = 0 then some ((-4), t_now, t_undone, t_undos) else m_X9_restore_L12 t_kept (fun (w4 : Nat → Int32) => m_X9_restore_L38 t_kept (fun (w7 : Nat → Int32) => some (1, w4, w7, t_keptUndos)) F 0 t_undone) F 0 t_now)
set_option maxHeartbeats 4000000 in
set_option maxRecDepth 100000 in
theorem c_X9_restore (l : Launch) (D : va_G) (cy : Nat → ClassId) (a_t : Nat) (a_t_now : Nat) (a_t_undone : Nat) (a_t_kept : Nat) (sz : Nat) (g_t_tape : Value) (g_t_typed : Value) (g_t_place : Value) (g_t_isFault : Value) (g_t_readLaw : Value) (g_t_read : Value) (g_t_aside : Value) (g_t_coat : Value) (g_t_bestCoats : Value) (g_t_bestStand : Value) (g_t_bestPaint : Value) (g_t_lanes : Value) (g_t_sizes : Value) (g_t_items : Value) (g_t_moved : Value) (t_now : Nat → Int32) (t_undone : Nat → Int32) (t_undos : Int32) (t_kept : Nat → Int32) (t_keptUndos : Int32) (t_isKept : Int32) (F : Nat) (out : Int32 × (Nat → Int32) × (Nat → Int32) × Int32) (h : m_X9_restore F t_now t_undone t_undos t_kept t_keptUndos t_isKept = some out) : MetM l D cy yX9_restore cX9_restore 2 (some .int) (rmG 0 0) [.ref a_t] sz [(a_t, .inr (9, [.ref a_t_now, g_t_tape, g_t_typed, g_t_place, g_t_isFault, g_t_readLaw, g_t_read, .ref a_t_undone, .int t_undos, g_t_aside, g_t_coat, g_t_bestCoats, g_t_bestStand, g_t_bestPaint, .ref a_t_kept, .int t_keptUndos, .int t_isKept, g_t_lanes, g_t_sizes, g_t_items, g_t_moved])), (a_t_now, .inl (cy 0, 24, .inl t_now)), (a_t_undone, .inl (cy 0, 112, .inl t_undone)), (a_t_kept, .inl (cy 0, 136, .inl t_kept))] (some (.int out.1)) [(a_t, .inr (9, [.ref a_t_now, g_t_tape, g_t_typed, g_t_place, g_t_isFault, g_t_readLaw, g_t_read, .ref a_t_undone, .int out.2.2.2, g_t_aside, g_t_coat, g_t_bestCoats, g_t_bestStand, g_t_bestPaint, .ref a_t_kept, .int t_keptUndos, .int t_isKept, g_t_lanes, g_t_sizes, g_t_items, g_t_moved])), (a_t_now, .inl (cy 0, 24, .inl out.2.1)), (a_t_undone, .inl (cy 0, 112, .inl out.2.2.1)), (a_t_kept, .inl (cy 0, 136, .inl t_kept))] := by
  refine startMi (own := RX9) (by decide) rfl (Nat.le_of_ble_eq_true rfl) ?_
  intro p e s m below meth c QQ A hx hb hml hown hg hK hP hD hS hA hret ls hl
  have hl : lv_has ls 2 [(0, .ref a_t)] := hl
  unfold m_X9_restore at h
  refine lv_aload_n hx hb dX9_restore_0 rfl (lv_at hl 0 rfl) ?_
  refine va_get (D := D) (ci := 9) (v := .int t_isKept) (C := RX9) (T := TX9) (N := 21) hx hb hg inG_X9 hown hK hP 0 rfl rfl 16 (by decide) (hg _ q_961) (fun _ h9 => h9) rfl dX9_restore_1 ?_
  refine lv_if_ne (tgt := 10) hx hb dX9_restore_4 (by decide) (fun c1 => ?_) (fun c1 => ?_)
  · have h := it_f c1 h
    refine lv_iconst (v := 0) hx hb dX9_restore_10 kI_0 ?_
    refine lv_istore_n (lv' := [(1, .int 0), (0, .ref a_t)]) hx hb dX9_restore_11 rfl hl (by decide) rfl (fun ls hl => ?_)
    obtain ⟨k15, hk15, h⟩ := kap (fun z => m_X9_restore_L12 t_kept z F 0 t_now) h
    have J15 : ∀ (w4 : Nat → Int32) (H : Heap) (locs : List Loc) (ls : Array Slot), va_P D vwCl [(a_t, .inr (9, [.ref a_t_now, g_t_tape, g_t_typed, g_t_place, g_t_isFault, g_t_readLaw, g_t_read, .ref a_t_undone, .int t_undos, g_t_aside, g_t_coat, g_t_bestCoats, g_t_bestStand, g_t_bestPaint, .ref a_t_kept, .int t_keptUndos, .int t_isKept, g_t_lanes, g_t_sizes, g_t_items, g_t_moved])), (a_t_now, .inl (cy 0, 24, .inl w4)), (a_t_undone, .inl (cy 0, 112, .inl t_undone)), (a_t_kept, .inl (cy 0, 136, .inl t_kept))] H → va_D A [(a_t, .inr (9, [.ref a_t_now, g_t_tape, g_t_typed, g_t_place, g_t_isFault, g_t_readLaw, g_t_read, .ref a_t_undone, .int t_undos, g_t_aside, g_t_coat, g_t_bestCoats, g_t_bestStand, g_t_bestPaint, .ref a_t_kept, .int t_keptUndos, .int t_isKept, g_t_lanes, g_t_sizes, g_t_items, g_t_moved])), (a_t_now, .inl (cy 0, 24, .inl w4)), (a_t_undone, .inl (cy 0, 112, .inl t_undone)), (a_t_kept, .inl (cy 0, 136, .inl t_kept))] → va_S A s.heap H locs → lv_has ls 2 [(0, .ref a_t)] → k15 w4 = some out → W p l e (rmG 0 0) s m [.ref a_t].toArray below meth c H locs 0 0 QQ (F0 m 36 ls []) := by
      intro w4 H locs ls hP hD hS hl h
      rw [hk15] at h
      refine lv_iconst (v := 0) hx hb dX9_restore_36 kI_0 ?_
      refine lv_istore_n (lv' := [(1, .int 0), (0, .ref a_t)]) hx hb dX9_restore_37 rfl hl (by decide) rfl (fun ls hl => ?_)
      obtain ⟨k8, hk8, h⟩ := kap (fun z => m_X9_restore_L38 t_kept z F 0 t_undone) h
      have J8 : ∀ (w7 : Nat → Int32) (H : Heap) (locs : List Loc) (ls : Array Slot), va_P D vwCl [(a_t, .inr (9, [.ref a_t_now, g_t_tape, g_t_typed, g_t_place, g_t_isFault, g_t_readLaw, g_t_read, .ref a_t_undone, .int t_undos, g_t_aside, g_t_coat, g_t_bestCoats, g_t_bestStand, g_t_bestPaint, .ref a_t_kept, .int t_keptUndos, .int t_isKept, g_t_lanes, g_t_sizes, g_t_items, g_t_moved])), (a_t_now, .inl (cy 0, 24, .inl w4)), (a_t_undone, .inl (cy 0, 112, .inl w7)), (a_t_kept, .inl (cy 0, 136, .inl t_kept))] H → va_D A [(a_t, .inr (9, [.ref a_t_now, g_t_tape, g_t_typed, g_t_place, g_t_isFault, g_t_readLaw, g_t_read, .ref a_t_undone, .int t_undos, g_t_aside, g_t_coat, g_t_bestCoats, g_t_bestStand, g_t_bestPaint, .ref a_t_kept, .int t_keptUndos, .int t_isKept, g_t_lanes, g_t_sizes, g_t_items, g_t_moved])), (a_t_now, .inl (cy 0, 24, .inl w4)), (a_t_undone, .inl (cy 0, 112, .inl w7)), (a_t_kept, .inl (cy 0, 136, .inl t_kept))] → va_S A s.heap H locs → lv_has ls 2 [(0, .ref a_t)] → k8 w7 = some out → W p l e (rmG 0 0) s m [.ref a_t].toArray below meth c H locs 0 0 QQ (F0 m 65 ls []) := by
        intro w7 H locs ls hP hD hS hl h
        rw [hk8] at h
        refine lv_aload_n hx hb dX9_restore_65 rfl (lv_at hl 0 rfl) ?_
        refine lv_aload_n hx hb dX9_restore_66 rfl (lv_at hl 0 rfl) ?_
        refine va_get (D := D) (ci := 9) (v := .int t_keptUndos) (C := RX9) (T := TX9) (N := 21) hx hb hg inG_X9 hown hK hP 0 rfl rfl 15 (by decide) (hg _ q_960) (fun _ h9 => h9) rfl dX9_restore_67 ?_
        refine va_put (D := D) (ci := 9) (v := .int t_keptUndos) (ty := .int) (C := RX9) (T := TX9) (N := 21) hx hb hg inG_X9 tyX9 tyX9_ok nmX9 hown hK hP hD hS 0 rfl rfl 8 (by decide) (hg _ q_953) (fun _ h9 => h9) rfl (tyX9_ok 8 (by decide)) rfl rfl (Nat.le_of_ble_eq_true rfl) dX9_restore_70 (fun H locs hP hD hS => ?_)
        have hP : va_P D vwCl [(a_t, .inr (9, [.ref a_t_now, g_t_tape, g_t_typed, g_t_place, g_t_isFault, g_t_readLaw, g_t_read, .ref a_t_undone, .int t_keptUndos, g_t_aside, g_t_coat, g_t_bestCoats, g_t_bestStand, g_t_bestPaint, .ref a_t_kept, .int t_keptUndos, .int t_isKept, g_t_lanes, g_t_sizes, g_t_items, g_t_moved])), (a_t_now, .inl (cy 0, 24, .inl w4)), (a_t_undone, .inl (cy 0, 112, .inl w7)), (a_t_kept, .inl (cy 0, 136, .inl t_kept))] H := hP
        have hD : va_D A [(a_t, .inr (9, [.ref a_t_now, g_t_tape, g_t_typed, g_t_place, g_t_isFault, g_t_readLaw, g_t_read, .ref a_t_undone, .int t_keptUndos, g_t_aside, g_t_coat, g_t_bestCoats, g_t_bestStand, g_t_bestPaint, .ref a_t_kept, .int t_keptUndos, .int t_isKept, g_t_lanes, g_t_sizes, g_t_items, g_t_moved])), (a_t_now, .inl (cy 0, 24, .inl w4)), (a_t_undone, .inl (cy 0, 112, .inl w7)), (a_t_kept, .inl (cy 0, 136, .inl t_kept))] := hD
        refine lv_iconst (v := 1) hx hb dX9_restore_73 kI_1 ?_
        exact hret _ _ _ _ ls 74 dX9_restore_74 rfl (by rw [← Option.some.inj h]) (by rw [← Option.some.inj h]) hP hD hS
      have L9 : ∀ (n9 : Nat) (x5 : Int32) (w6 : Nat → Int32) (H : Heap) (locs : List Loc) (ls : Array Slot), va_P D vwCl [(a_t, .inr (9, [.ref a_t_now, g_t_tape, g_t_typed, g_t_place, g_t_isFault, g_t_readLaw, g_t_read, .ref a_t_undone, .int t_undos, g_t_aside, g_t_coat, g_t_bestCoats, g_t_bestStand, g_t_bestPaint, .ref a_t_kept, .int t_keptUndos, .int t_isKept, g_t_lanes, g_t_sizes, g_t_items, g_t_moved])), (a_t_now, .inl (cy 0, 24, .inl w4)), (a_t_undone, .inl (cy 0, 112, .inl w6)), (a_t_kept, .inl (cy 0, 136, .inl t_kept))] H → va_D A [(a_t, .inr (9, [.ref a_t_now, g_t_tape, g_t_typed, g_t_place, g_t_isFault, g_t_readLaw, g_t_read, .ref a_t_undone, .int t_undos, g_t_aside, g_t_coat, g_t_bestCoats, g_t_bestStand, g_t_bestPaint, .ref a_t_kept, .int t_keptUndos, .int t_isKept, g_t_lanes, g_t_sizes, g_t_items, g_t_moved])), (a_t_now, .inl (cy 0, 24, .inl w4)), (a_t_undone, .inl (cy 0, 112, .inl w6)), (a_t_kept, .inl (cy 0, 136, .inl t_kept))] → va_S A s.heap H locs → lv_has ls 2 [(1, .int x5), (0, .ref a_t)] → m_X9_restore_L38 t_kept k8 n9 x5 w6 = some out → W p l e (rmG 0 0) s m [.ref a_t].toArray below meth c H locs 0 0 QQ (F0 m 38 ls []) := by
        intro n9
        induction n9 with
        | zero => intro x5 w6 H locs ls hP hD hS hl h; exact nomatch (show (none : Option (Int32 × (Nat → Int32) × (Nat → Int32) × Int32)) = some out from h)
        | succ n9 ih =>
            intro x5 w6 H locs ls hP hD hS hl h
            have h : m_X9_restore_L38s t_kept k8 (m_X9_restore_L38 t_kept k8 n9) x5 w6 = some out := h
            unfold m_X9_restore_L38s at h
            refine lv_iload_n hx hb dX9_restore_38 rfl (lv_at hl 0 rfl) ?_
            refine lv_bipush (v := 112) hx hb dX9_restore_39 kB_112 ?_
            refine lv_icmp_ge (tgt := 65) hx hb dX9_restore_41 (by decide) (fun c11 => ?_) (fun c11 => ?_)
            · have h := it_t c11 h
              exact J8 w6 _ _ _ hP hD hS (lv_sub hl [1] rfl) h
            · have h := it_f c11 h
              refine lv_aload_n hx hb dX9_restore_44 rfl (lv_at hl 1 rfl) ?_
              refine va_get (D := D) (ci := 9) (v := .ref a_t_undone) (C := RX9) (T := TX9) (N := 21) hx hb hg inG_X9 hown hK hP 0 rfl rfl 7 (by decide) (hg _ q_952) (fun _ h9 => h9) rfl dX9_restore_45 ?_
              refine lv_iload_n hx hb dX9_restore_48 rfl (lv_at hl 0 rfl) ?_
              refine lv_aload_n hx hb dX9_restore_49 rfl (lv_at hl 1 rfl) ?_
              refine va_get (D := D) (ci := 9) (v := .ref a_t_kept) (C := RX9) (T := TX9) (N := 21) hx hb hg inG_X9 hown hK hP 0 rfl rfl 14 (by decide) (hg _ q_959) (fun _ h9 => h9) rfl dX9_restore_50 ?_
              refine lv_bipush (v := 24) hx hb dX9_restore_53 kB_24 ?_
              refine lv_iload_n hx hb dX9_restore_55 rfl (lv_at hl 0 rfl) ?_
              refine lv_iadd hx hb dX9_restore_56 ?_
              obtain ⟨hi12, h⟩ := chk_e h
              refine va_iald hx hb hK hP 3 0 rfl rfl hi12 dX9_restore_57 ?_
              obtain ⟨hi13, h⟩ := chk_e h
              refine va_iast hx hb hK hP hD hS 2 0 rfl rfl hi13 dX9_restore_58 (fun H locs hP hD hS => ?_)
              have hP : va_P D vwCl [(a_t, .inr (9, [.ref a_t_now, g_t_tape, g_t_typed, g_t_place, g_t_isFault, g_t_readLaw, g_t_read, .ref a_t_undone, .int t_undos, g_t_aside, g_t_coat, g_t_bestCoats, g_t_bestStand, g_t_bestPaint, .ref a_t_kept, .int t_keptUndos, .int t_isKept, g_t_lanes, g_t_sizes, g_t_items, g_t_moved])), (a_t_now, .inl (cy 0, 24, .inl w4)), (a_t_undone, .inl (cy 0, 112, .inl (upd w6 x5.toNatClampNeg (t_kept (24 + x5).toNatClampNeg)))), (a_t_kept, .inl (cy 0, 136, .inl t_kept))] H := hP
              have hD : va_D A [(a_t, .inr (9, [.ref a_t_now, g_t_tape, g_t_typed, g_t_place, g_t_isFault, g_t_readLaw, g_t_read, .ref a_t_undone, .int t_undos, g_t_aside, g_t_coat, g_t_bestCoats, g_t_bestStand, g_t_bestPaint, .ref a_t_kept, .int t_keptUndos, .int t_isKept, g_t_lanes, g_t_sizes, g_t_items, g_t_moved])), (a_t_now, .inl (cy 0, 24, .inl w4)), (a_t_undone, .inl (cy 0, 112, .inl (upd w6 x5.toNatClampNeg (t_kept (24 + x5).toNatClampNeg)))), (a_t_kept, .inl (cy 0, 136, .inl t_kept))] := hD
              obtain ⟨x14, ex14⟩ : ∃ y : Int32, y = x5 + 1 := ⟨_, rfl⟩
              have h := bnd_e ex14 h
              refine lv_iinc (v := x14) (lv' := [(1, .int x14), (0, .ref a_t)]) hx hb dX9_restore_59 hl (k := 0) rfl (inc_e kI_1 ex14) (by decide) rfl (fun ls hl => ?_)
              refine lv_goto (tgt := 38) hx hb dX9_restore_62 (by decide) ?_
              exact ih x14 (upd w6 x5.toNatClampNeg (t_kept (24 + x5).toNatClampNeg)) _ _ _ hP hD hS (lv_sub hl [0, 1] rfl) h
      exact L9 F 0 t_undone _ _ _ hP hD hS (lv_sub hl [0, 1] rfl) h
    have L16 : ∀ (n16 : Nat) (x2 : Int32) (w3 : Nat → Int32) (H : Heap) (locs : List Loc) (ls : Array Slot), va_P D vwCl [(a_t, .inr (9, [.ref a_t_now, g_t_tape, g_t_typed, g_t_place, g_t_isFault, g_t_readLaw, g_t_read, .ref a_t_undone, .int t_undos, g_t_aside, g_t_coat, g_t_bestCoats, g_t_bestStand, g_t_bestPaint, .ref a_t_kept, .int t_keptUndos, .int t_isKept, g_t_lanes, g_t_sizes, g_t_items, g_t_moved])), (a_t_now, .inl (cy 0, 24, .inl w3)), (a_t_undone, .inl (cy 0, 112, .inl t_undone)), (a_t_kept, .inl (cy 0, 136, .inl t_kept))] H → va_D A [(a_t, .inr (9, [.ref a_t_now, g_t_tape, g_t_typed, g_t_place, g_t_isFault, g_t_readLaw, g_t_read, .ref a_t_undone, .int t_undos, g_t_aside, g_t_coat, g_t_bestCoats, g_t_bestStand, g_t_bestPaint, .ref a_t_kept, .int t_keptUndos, .int t_isKept, g_t_lanes, g_t_sizes, g_t_items, g_t_moved])), (a_t_now, .inl (cy 0, 24, .inl w3)), (a_t_undone, .inl (cy 0, 112, .inl t_undone)), (a_t_kept, .inl (cy 0, 136, .inl t_kept))] → va_S A s.heap H locs → lv_has ls 2 [(1, .int x2), (0, .ref a_t)] → m_X9_restore_L12 t_kept k15 n16 x2 w3 = some out → W p l e (rmG 0 0) s m [.ref a_t].toArray below meth c H locs 0 0 QQ (F0 m 12 ls []) := by
      intro n16
      induction n16 with
      | zero => intro x2 w3 H locs ls hP hD hS hl h; exact nomatch (show (none : Option (Int32 × (Nat → Int32) × (Nat → Int32) × Int32)) = some out from h)
      | succ n16 ih =>
          intro x2 w3 H locs ls hP hD hS hl h
          have h : m_X9_restore_L12s t_kept k15 (m_X9_restore_L12 t_kept k15 n16) x2 w3 = some out := h
          unfold m_X9_restore_L12s at h
          refine lv_iload_n hx hb dX9_restore_12 rfl (lv_at hl 0 rfl) ?_
          refine lv_bipush (v := 24) hx hb dX9_restore_13 kB_24 ?_
          refine lv_icmp_ge (tgt := 36) hx hb dX9_restore_15 (by decide) (fun c18 => ?_) (fun c18 => ?_)
          · have h := it_t c18 h
            exact J15 w3 _ _ _ hP hD hS (lv_sub hl [1] rfl) h
          · have h := it_f c18 h
            refine lv_aload_n hx hb dX9_restore_18 rfl (lv_at hl 1 rfl) ?_
            refine va_get (D := D) (ci := 9) (v := .ref a_t_now) (C := RX9) (T := TX9) (N := 21) hx hb hg inG_X9 hown hK hP 0 rfl rfl 0 (by decide) (hg _ q_945) (fun _ h9 => h9) rfl dX9_restore_19 ?_
            refine lv_iload_n hx hb dX9_restore_22 rfl (lv_at hl 0 rfl) ?_
            refine lv_aload_n hx hb dX9_restore_23 rfl (lv_at hl 1 rfl) ?_
            refine va_get (D := D) (ci := 9) (v := .ref a_t_kept) (C := RX9) (T := TX9) (N := 21) hx hb hg inG_X9 hown hK hP 0 rfl rfl 14 (by decide) (hg _ q_959) (fun _ h9 => h9) rfl dX9_restore_24 ?_
            refine lv_iload_n hx hb dX9_restore_27 rfl (lv_at hl 0 rfl) ?_
            obtain ⟨hi19, h⟩ := chk_e h
            refine va_iald hx hb hK hP 3 0 rfl rfl hi19 dX9_restore_28 ?_
            obtain ⟨hi20, h⟩ := chk_e h
            refine va_iast hx hb hK hP hD hS 1 0 rfl rfl hi20 dX9_restore_29 (fun H locs hP hD hS => ?_)
            have hP : va_P D vwCl [(a_t, .inr (9, [.ref a_t_now, g_t_tape, g_t_typed, g_t_place, g_t_isFault, g_t_readLaw, g_t_read, .ref a_t_undone, .int t_undos, g_t_aside, g_t_coat, g_t_bestCoats, g_t_bestStand, g_t_bestPaint, .ref a_t_kept, .int t_keptUndos, .int t_isKept, g_t_lanes, g_t_sizes, g_t_items, g_t_moved])), (a_t_now, .inl (cy 0, 24, .inl (upd w3 x2.toNatClampNeg (t_kept x2.toNatClampNeg)))), (a_t_undone, .inl (cy 0, 112, .inl t_undone)), (a_t_kept, .inl (cy 0, 136, .inl t_kept))] H := hP
            have hD : va_D A [(a_t, .inr (9, [.ref a_t_now, g_t_tape, g_t_typed, g_t_place, g_t_isFault, g_t_readLaw, g_t_read, .ref a_t_undone, .int t_undos, g_t_aside, g_t_coat, g_t_bestCoats, g_t_bestStand, g_t_bestPaint, .ref a_t_kept, .int t_keptUndos, .int t_isKept, g_t_lanes, g_t_sizes, g_t_items, g_t_moved])), (a_t_now, .inl (cy 0, 24, .inl (upd w3 x2.toNatClampNeg (t_kept x2.toNatClampNeg)))), (a_t_undone, .inl (cy 0, 112, .inl t_undone)), (a_t_kept, .inl (cy 0, 136, .inl t_kept))] := hD
            obtain ⟨x21, ex21⟩ : ∃ y : Int32, y = x2 + 1 := ⟨_, rfl⟩
            have h := bnd_e ex21 h
            refine lv_iinc (v := x21) (lv' := [(1, .int x21), (0, .ref a_t)]) hx hb dX9_restore_30 hl (k := 0) rfl (inc_e kI_1 ex21) (by decide) rfl (fun ls hl => ?_)
            refine lv_goto (tgt := 12) hx hb dX9_restore_33 (by decide) ?_
            exact ih x21 (upd w3 x2.toNatClampNeg (t_kept x2.toNatClampNeg)) _ _ _ hP hD hS (lv_sub hl [0, 1] rfl) h
    exact L16 F 0 t_now _ _ _ hP hD hS (lv_sub hl [0, 1] rfl) h
  · have h := it_t c1 h
    refine lv_bipush (v := (-4)) hx hb dX9_restore_7 kB_m4 ?_
    exact hret _ _ _ _ ls 9 dX9_restore_9 rfl (by rw [← Option.some.inj h]) (by rw [← Option.some.inj h]) hP hD hS

def m_X9_isSheet (p0 : Int32) : Option (Int32) := (m_X9_in (p0.toInt64) (0 : Int64) (3 : Int64)).bind (fun v1 => zb v1 (some v1))
set_option maxHeartbeats 4000000 in
set_option maxRecDepth 100000 in
theorem c_X9_isSheet (l : Launch) (D : va_G) (cy : Nat → ClassId) (p0 : Int32) (out : Int32) (h : m_X9_isSheet p0 = some out) : MetR l D cy yX9_isSheet cX9_isSheet 1 (some .boolean) (rmG 1 25) [.int p0] [] (some (.int out)) := by
  refine startR (own := RX9) (by decide) rfl (Nat.le_of_ble_eq_true rfl) ?_
  intro p e s m below meth c QQ hx hb hml hown hg hK hP hret ls hl
  have hl : lv_has ls 1 [(0, .int p0)] := hl
  unfold m_X9_isSheet at h
  refine lv_iload_n hx hb dX9_isSheet_0 rfl (lv_at hl 0 rfl) ?_
  refine lv_i2l (v := p0.toInt64) hx hb dX9_isSheet_1 rfl ?_
  refine lv_lconst (v := 0) hx hb dX9_isSheet_2 kL_0 ?_
  refine lv_ldc2 (v := 3) hx hb hown (hg _ q_1272) dX9_isSheet_3 ?_
  obtain ⟨v1, hv1, h⟩ := bind_e h
  refine callRS (As := [.long (p0.toInt64), .long 0, .long 3]) (rest := []) (v0 := .int v1) hx hb hml hown hg (c_X9_in l D cy (p0.toInt64) (0 : Int64) (3 : Int64) v1 hv1) q_1016 q_1014 q_63 q_1015 hd_X9_in ⟨(Nat.le_of_ble_eq_true rfl), (Nat.le_of_ble_eq_true rfl)⟩ hK hP [] rfl rfl rfl rfl hl.1 rfl (Nat.le_of_ble_eq_true rfl) dX9_isSheet_6 ?_
  obtain ⟨hz2, h⟩ := zb_e h
  exact hret _ ls 9 dX9_isSheet_9 (nar_z hz2) (congrArg (fun z => some (Value.int z)) (Option.some.inj h))

def m_X9_isLane (p0 : Int32) : Option (Int32) := (m_X9_in (p0.toInt64) (0 : Int64) (3 : Int64)).bind (fun v1 => zb v1 (some v1))
set_option maxHeartbeats 4000000 in
set_option maxRecDepth 100000 in
theorem c_X9_isLane (l : Launch) (D : va_G) (cy : Nat → ClassId) (p0 : Int32) (out : Int32) (h : m_X9_isLane p0 = some out) : MetR l D cy yX9_isLane cX9_isLane 1 (some .boolean) (rmG 1 25) [.int p0] [] (some (.int out)) := by
  refine startR (own := RX9) (by decide) rfl (Nat.le_of_ble_eq_true rfl) ?_
  intro p e s m below meth c QQ hx hb hml hown hg hK hP hret ls hl
  have hl : lv_has ls 1 [(0, .int p0)] := hl
  unfold m_X9_isLane at h
  refine lv_iload_n hx hb dX9_isLane_0 rfl (lv_at hl 0 rfl) ?_
  refine lv_i2l (v := p0.toInt64) hx hb dX9_isLane_1 rfl ?_
  refine lv_lconst (v := 0) hx hb dX9_isLane_2 kL_0 ?_
  refine lv_ldc2 (v := 3) hx hb hown (hg _ q_1272) dX9_isLane_3 ?_
  obtain ⟨v1, hv1, h⟩ := bind_e h
  refine callRS (As := [.long (p0.toInt64), .long 0, .long 3]) (rest := []) (v0 := .int v1) hx hb hml hown hg (c_X9_in l D cy (p0.toInt64) (0 : Int64) (3 : Int64) v1 hv1) q_1016 q_1014 q_63 q_1015 hd_X9_in ⟨(Nat.le_of_ble_eq_true rfl), (Nat.le_of_ble_eq_true rfl)⟩ hK hP [] rfl rfl rfl rfl hl.1 rfl (Nat.le_of_ble_eq_true rfl) dX9_isLane_6 ?_
  obtain ⟨hz2, h⟩ := zb_e h
  exact hret _ ls 9 dX9_isLane_9 (nar_z hz2) (congrArg (fun z => some (Value.int z)) (Option.some.inj h))

def m_X9_why (t_lanes : Nat → Int32) (t_sizes : Nat → Int32) (p0 : Int32) (p1 : Int32) (p2 : Int32) (p3 : Int32) : Option (Int32) := chk p0 4 ((if 0 ≤ (t_lanes p0.toNatClampNeg) then chk p0 4 ((if (t_lanes p0.toNatClampNeg) = p1 then (if p2 < 0 then some (-13) else (if p3 < 0 then some (-13) else chk p0 4 ((if (lg_cmp ((p2.toInt64) + (p3.toInt64)) ((t_sizes p0.toNatClampNeg).toInt64)) ≤ 0 then some 0 else some (-13))))) else some (-12))) else some (-11)))
set_option maxHeartbeats 4000000 in
set_option maxRecDepth 100000 in
theorem c_X9_why (l : Launch) (D : va_G) (cy : Nat → ClassId) (a_t : Nat) (a_t_lanes : Nat) (a_t_sizes : Nat) (g_t_now : Value) (g_t_tape : Value) (g_t_typed : Value) (g_t_place : Value) (g_t_isFault : Value) (g_t_readLaw : Value) (g_t_read : Value) (g_t_undone : Value) (g_t_undos : Value) (g_t_aside : Value) (g_t_coat : Value) (g_t_bestCoats : Value) (g_t_bestStand : Value) (g_t_bestPaint : Value) (g_t_kept : Value) (g_t_keptUndos : Value) (g_t_isKept : Value) (g_t_items : Value) (g_t_moved : Value) (t_lanes : Nat → Int32) (t_sizes : Nat → Int32) (p0 : Int32) (p1 : Int32) (p2 : Int32) (p3 : Int32) (out : Int32) (h : m_X9_why t_lanes t_sizes p0 p1 p2 p3 = some out) : MetR l D cy yX9_why cX9_why 5 (some .int) (rmG 0 0) [.ref a_t, .int p0, .int p1, .int p2, .int p3] [(a_t, .inr (9, [g_t_now, g_t_tape, g_t_typed, g_t_place, g_t_isFault, g_t_readLaw, g_t_read, g_t_undone, g_t_undos, g_t_aside, g_t_coat, g_t_bestCoats, g_t_bestStand, g_t_bestPaint, g_t_kept, g_t_keptUndos, g_t_isKept, .ref a_t_lanes, .ref a_t_sizes, g_t_items, g_t_moved])), (a_t_lanes, .inl (cy 0, 4, .inl t_lanes)), (a_t_sizes, .inl (cy 0, 4, .inl t_sizes))] (some (.int out)) := by
  refine startR (own := RX9) (by decide) rfl (Nat.le_of_ble_eq_true rfl) ?_
  intro p e s m below meth c QQ hx hb hml hown hg hK hP hret ls hl
  have hl : lv_has ls 5 [(0, .ref a_t), (1, .int p0), (2, .int p1), (3, .int p2), (4, .int p3)] := hl
  unfold m_X9_why at h
  refine lv_aload_n hx hb dX9_why_0 rfl (lv_at hl 0 rfl) ?_
  refine va_get (D := D) (ci := 9) (v := .ref a_t_lanes) (C := RX9) (T := TX9) (N := 21) hx hb hg inG_X9 hown hK hP 0 rfl rfl 17 (by decide) (hg _ q_962) (fun _ h9 => h9) rfl dX9_why_1 ?_
  refine lv_iload_n hx hb dX9_why_4 rfl (lv_at hl 1 rfl) ?_
  obtain ⟨hi1, h⟩ := chk_e h
  refine va_iald hx hb hK hP 1 0 rfl rfl hi1 dX9_why_5 ?_
  refine lv_if_ge (tgt := 12) hx hb dX9_why_6 (by decide) (fun c2 => ?_) (fun c2 => ?_)
  · have h := it_t c2 h
    refine lv_aload_n hx hb dX9_why_12 rfl (lv_at hl 0 rfl) ?_
    refine va_get (D := D) (ci := 9) (v := .ref a_t_lanes) (C := RX9) (T := TX9) (N := 21) hx hb hg inG_X9 hown hK hP 0 rfl rfl 17 (by decide) (hg _ q_962) (fun _ h9 => h9) rfl dX9_why_13 ?_
    refine lv_iload_n hx hb dX9_why_16 rfl (lv_at hl 1 rfl) ?_
    obtain ⟨hi3, h⟩ := chk_e h
    refine va_iald hx hb hK hP 1 0 rfl rfl hi3 dX9_why_17 ?_
    refine lv_iload_n hx hb dX9_why_18 rfl (lv_at hl 2 rfl) ?_
    refine lv_icmp_eq (tgt := 25) hx hb dX9_why_19 (by decide) (fun c4 => ?_) (fun c4 => ?_)
    · have h := it_t c4 h
      refine lv_iload_n hx hb dX9_why_25 rfl (lv_at hl 3 rfl) ?_
      refine lv_if_lt (tgt := 51) hx hb dX9_why_26 (by decide) (fun c5 => ?_) (fun c5 => ?_)
      · have h := it_t c5 h
        refine lv_bipush (v := (-13)) hx hb dX9_why_51 kB_m13 ?_
        refine lv_goto (tgt := 57) hx hb dX9_why_53 (by decide) ?_
        exact hret _ ls 57 dX9_why_57 rfl (congrArg (fun z => some (Value.int z)) (Option.some.inj h))
      · have h := it_f c5 h
        refine lv_iload hx hb dX9_why_29 (lv_at hl 4 rfl) ?_
        refine lv_if_lt (tgt := 51) hx hb dX9_why_31 (by decide) (fun c6 => ?_) (fun c6 => ?_)
        · have h := it_t c6 h
          refine lv_bipush (v := (-13)) hx hb dX9_why_51 kB_m13 ?_
          refine lv_goto (tgt := 57) hx hb dX9_why_53 (by decide) ?_
          exact hret _ ls 57 dX9_why_57 rfl (congrArg (fun z => some (Value.int z)) (Option.some.inj h))
        · have h := it_f c6 h
          refine lv_iload_n hx hb dX9_why_34 rfl (lv_at hl 3 rfl) ?_
          refine lv_i2l (v := p2.toInt64) hx hb dX9_why_35 rfl ?_
          refine lv_iload hx hb dX9_why_36 (lv_at hl 4 rfl) ?_
          refine lv_i2l (v := p3.toInt64) hx hb dX9_why_38 rfl ?_
          refine lv_ladd hx hb dX9_why_39 ?_
          refine lv_aload_n hx hb dX9_why_40 rfl (lv_at hl 0 rfl) ?_
          refine va_get (D := D) (ci := 9) (v := .ref a_t_sizes) (C := RX9) (T := TX9) (N := 21) hx hb hg inG_X9 hown hK hP 0 rfl rfl 18 (by decide) (hg _ q_963) (fun _ h9 => h9) rfl dX9_why_41 ?_
          refine lv_iload_n hx hb dX9_why_44 rfl (lv_at hl 1 rfl) ?_
          obtain ⟨hi7, h⟩ := chk_e h
          refine va_iald hx hb hK hP 2 0 rfl rfl hi7 dX9_why_45 ?_
          refine lv_i2l (v := (t_sizes p0.toNatClampNeg).toInt64) hx hb dX9_why_46 rfl ?_
          refine W.lcmp hx hb dX9_why_47 ?_
          refine lv_if_le (tgt := 56) hx hb dX9_why_48 (by decide) (fun c8 => ?_) (fun c8 => ?_)
          · have h := it_t c8 h
            refine lv_iconst (v := 0) hx hb dX9_why_56 kI_0 ?_
            exact hret _ ls 57 dX9_why_57 rfl (congrArg (fun z => some (Value.int z)) (Option.some.inj h))
          · have h := it_f c8 h
            refine lv_bipush (v := (-13)) hx hb dX9_why_51 kB_m13 ?_
            refine lv_goto (tgt := 57) hx hb dX9_why_53 (by decide) ?_
            exact hret _ ls 57 dX9_why_57 rfl (congrArg (fun z => some (Value.int z)) (Option.some.inj h))
    · have h := it_f c4 h
      refine lv_bipush (v := (-12)) hx hb dX9_why_22 kB_m12 ?_
      exact hret _ ls 24 dX9_why_24 rfl (congrArg (fun z => some (Value.int z)) (Option.some.inj h))
  · have h := it_f c2 h
    refine lv_bipush (v := (-11)) hx hb dX9_why_9 kB_m11 ?_
    exact hret _ ls 11 dX9_why_11 rfl (congrArg (fun z => some (Value.int z)) (Option.some.inj h))

def m_X9_isSo_L6s (t_items : Nat → Int64) (p0 : Int32) (p1 : Int32) (p2 : Int32) (F : Nat) (k8 : Int32 → (Nat → Int32) → Option (Int32 × (Nat → Int32))) (r10 : Int32 → Int32 → (Nat → Int32) → Option (Int32 × (Nat → Int32))) (x1 : Int32) (x2 : Int32) (w3 : Nat → Int32) : Option (Int32 × (Nat → Int32)) := (if p2 ≤ x1 then k8 x2 w3 else (m_X9_goesBy F w3 0).bind (fun v12 => (if x2 = 0 then bnd (x1 + 1) (fun x14 => r10 x14 0 v12) else (m_X9_paintOf v12 p0).bind (fun v15 => chk (p1 + x1) 96 ((if (lg_cmp (v15.toInt64) (t_items (p1 + x1).toNatClampNeg)) = 0 then bnd (x1 + 1) (fun x19 => r10 x19 1 v12) else bnd (x1 + 1) (fun x18 => r10 x18 0 v12)))))))
def m_X9_isSo_L6 (t_items : Nat → Int64) (p0 : Int32) (p1 : Int32) (p2 : Int32) (F : Nat) (k8 : Int32 → (Nat → Int32) → Option (Int32 × (Nat → Int32))) : Nat → Int32 → Int32 → (Nat → Int32) → Option (Int32 × (Nat → Int32))
  | 0 => fun _ _ _ => none
  | nF + 1 => m_X9_isSo_L6s t_items p0 p1 p2 F k8 (m_X9_isSo_L6 t_items p0 p1 p2 F k8 nF)
def m_X9_isSo (F : Nat) (t_now : Nat → Int32) (t_aside : Nat → Int32) (t_items : Nat → Int64) (p0 : Int32) (p1 : Int32) (p2 : Int32) : Option (Int32 × (Nat → Int32)) := m_X9_isSo_L6 t_items p0 p1 p2 F (fun (x4 : Int32) (w5 : Nat → Int32) => (m_X9_backs F w5 t_aside).bind (fun v6 => zb x4 (some (x4, v6)))) F 0 1 t_now
set_option maxHeartbeats 4000000 in
set_option maxRecDepth 100000 in
theorem c_X9_isSo (l : Launch) (D : va_G) (cy : Nat → ClassId) (a_t : Nat) (a_t_now : Nat) (a_t_aside : Nat) (a_t_items : Nat) (sz : Nat) (g_t_tape : Value) (g_t_typed : Value) (g_t_place : Value) (g_t_isFault : Value) (g_t_readLaw : Value) (g_t_read : Value) (g_t_undone : Value) (g_t_undos : Value) (g_t_coat : Value) (g_t_bestCoats : Value) (g_t_bestStand : Value) (g_t_bestPaint : Value) (g_t_kept : Value) (g_t_keptUndos : Value) (g_t_isKept : Value) (g_t_lanes : Value) (g_t_sizes : Value) (g_t_moved : Value) (t_now : Nat → Int32) (t_aside : Nat → Int32) (t_items : Nat → Int64) (p0 : Int32) (p1 : Int32) (p2 : Int32) (F : Nat) (out : Int32 × (Nat → Int32)) (h : m_X9_isSo F t_now t_aside t_items p0 p1 p2 = some out) : MetM l D cy yX9_isSo cX9_isSo 6 (some .boolean) (rmG 6 134) [.ref a_t, .int p0, .int p1, .int p2] sz [(a_t, .inr (9, [.ref a_t_now, g_t_tape, g_t_typed, g_t_place, g_t_isFault, g_t_readLaw, g_t_read, g_t_undone, g_t_undos, .ref a_t_aside, g_t_coat, g_t_bestCoats, g_t_bestStand, g_t_bestPaint, g_t_kept, g_t_keptUndos, g_t_isKept, g_t_lanes, g_t_sizes, .ref a_t_items, g_t_moved])), (a_t_now, .inl (cy 0, 24, .inl t_now)), (a_t_aside, .inl (cy 0, 24, .inl t_aside)), (a_t_items, .inl (cy 2, 96, .inr (.inl t_items)))] (some (.int out.1)) [(a_t, .inr (9, [.ref a_t_now, g_t_tape, g_t_typed, g_t_place, g_t_isFault, g_t_readLaw, g_t_read, g_t_undone, g_t_undos, .ref a_t_aside, g_t_coat, g_t_bestCoats, g_t_bestStand, g_t_bestPaint, g_t_kept, g_t_keptUndos, g_t_isKept, g_t_lanes, g_t_sizes, .ref a_t_items, g_t_moved])), (a_t_now, .inl (cy 0, 24, .inl out.2)), (a_t_aside, .inl (cy 0, 24, .inl t_aside)), (a_t_items, .inl (cy 2, 96, .inr (.inl t_items)))] := by
  refine startMi (own := RX9) (by decide) rfl (Nat.le_of_ble_eq_true rfl) ?_
  intro p e s m below meth c QQ A hx hb hml hown hg hK hP hD hS hA hret ls hl
  have hl : lv_has ls 6 [(0, .ref a_t), (1, .int p0), (2, .int p1), (3, .int p2)] := hl
  unfold m_X9_isSo at h
  refine lv_iconst (v := 1) hx hb dX9_isSo_0 kI_1 ?_
  refine lv_istore (lv' := [(4, .int 1), (0, .ref a_t), (1, .int p0), (2, .int p1), (3, .int p2)]) hx hb dX9_isSo_1 hl (by decide) rfl (fun ls hl => ?_)
  refine lv_iconst (v := 0) hx hb dX9_isSo_3 kI_0 ?_
  refine lv_istore (lv' := [(5, .int 0), (4, .int 1), (0, .ref a_t), (1, .int p0), (2, .int p1), (3, .int p2)]) hx hb dX9_isSo_4 hl (by decide) rfl (fun ls hl => ?_)
  obtain ⟨k8, hk8, h⟩ := kap (fun z => m_X9_isSo_L6 t_items p0 p1 p2 F z F 0 1 t_now) h
  have J8 : ∀ (x4 : Int32) (w5 : Nat → Int32) (H : Heap) (locs : List Loc) (ls : Array Slot), va_P D vwCl [(a_t, .inr (9, [.ref a_t_now, g_t_tape, g_t_typed, g_t_place, g_t_isFault, g_t_readLaw, g_t_read, g_t_undone, g_t_undos, .ref a_t_aside, g_t_coat, g_t_bestCoats, g_t_bestStand, g_t_bestPaint, g_t_kept, g_t_keptUndos, g_t_isKept, g_t_lanes, g_t_sizes, .ref a_t_items, g_t_moved])), (a_t_now, .inl (cy 0, 24, .inl w5)), (a_t_aside, .inl (cy 0, 24, .inl t_aside)), (a_t_items, .inl (cy 2, 96, .inr (.inl t_items)))] H → va_D A [(a_t, .inr (9, [.ref a_t_now, g_t_tape, g_t_typed, g_t_place, g_t_isFault, g_t_readLaw, g_t_read, g_t_undone, g_t_undos, .ref a_t_aside, g_t_coat, g_t_bestCoats, g_t_bestStand, g_t_bestPaint, g_t_kept, g_t_keptUndos, g_t_isKept, g_t_lanes, g_t_sizes, .ref a_t_items, g_t_moved])), (a_t_now, .inl (cy 0, 24, .inl w5)), (a_t_aside, .inl (cy 0, 24, .inl t_aside)), (a_t_items, .inl (cy 2, 96, .inr (.inl t_items)))] → va_S A s.heap H locs → lv_has ls 6 [(4, .int x4), (0, .ref a_t)] → k8 x4 w5 = some out → W p l e (rmG 6 134) s m [.ref a_t, .int p0, .int p1, .int p2].toArray below meth c H locs 0 0 QQ (F0 m 54 ls []) := by
    intro x4 w5 H locs ls hP hD hS hl h
    rw [hk8] at h
    refine lv_aload_n hx hb dX9_isSo_54 rfl (lv_at hl 1 rfl) ?_
    obtain ⟨v6, hv6, h⟩ := bind_e h
    refine callMV (As := []) (rest := []) (wr := [(a_t_items, .inl (cy 2, 96, .inr (.inl t_items)))]) (w2 := [(a_t, .inr (9, [.ref a_t_now, g_t_tape, g_t_typed, g_t_place, g_t_isFault, g_t_readLaw, g_t_read, g_t_undone, g_t_undos, .ref a_t_aside, g_t_coat, g_t_bestCoats, g_t_bestStand, g_t_bestPaint, g_t_kept, g_t_keptUndos, g_t_isKept, g_t_lanes, g_t_sizes, .ref a_t_items, g_t_moved])), (a_t_now, .inl (cy 0, 24, .inl v6)), (a_t_aside, .inl (cy 0, 24, .inl t_aside)), (a_t_items, .inl (cy 2, 96, .inr (.inl t_items)))]) hx hb hml hown hg (c_X9_backs l D cy a_t a_t_now a_t_aside _ (g_t_tape) (g_t_typed) (g_t_place) (g_t_isFault) (g_t_readLaw) (g_t_read) (g_t_undone) (g_t_undos) (g_t_coat) (g_t_bestCoats) (g_t_bestStand) (g_t_bestPaint) (g_t_kept) (g_t_keptUndos) (g_t_isKept) (g_t_lanes) (g_t_sizes) (.ref a_t_items) (g_t_moved) w5 t_aside F v6 hv6) q_1200 q_1197 q_63 q_1199 q_47 hd_X9_backs ⟨(Nat.le_of_ble_eq_true rfl), (Nat.le_of_ble_eq_true rfl)⟩ hK hP hD hS hA [0, 1, 2] [3] rfl rfl rfl rfl (by decide) [1, 2, 3, 0] rfl rfl 0 9 rfl rfl rfl rfl rfl rfl hl.1 rfl rfl (Nat.le_of_ble_eq_true rfl) dX9_isSo_55 (fun H locs hP hD hS => ?_)
    refine lv_iload hx hb dX9_isSo_58 (lv_at hl 0 rfl) ?_
    obtain ⟨hz7, h⟩ := zb_e h
    exact hret _ _ _ _ ls 60 dX9_isSo_60 (nar_z hz7) (by rw [← Option.some.inj h]) (by rw [← Option.some.inj h]) hP hD hS
  have L9 : ∀ (n9 : Nat) (x1 : Int32) (x2 : Int32) (w3 : Nat → Int32) (H : Heap) (locs : List Loc) (ls : Array Slot), va_P D vwCl [(a_t, .inr (9, [.ref a_t_now, g_t_tape, g_t_typed, g_t_place, g_t_isFault, g_t_readLaw, g_t_read, g_t_undone, g_t_undos, .ref a_t_aside, g_t_coat, g_t_bestCoats, g_t_bestStand, g_t_bestPaint, g_t_kept, g_t_keptUndos, g_t_isKept, g_t_lanes, g_t_sizes, .ref a_t_items, g_t_moved])), (a_t_now, .inl (cy 0, 24, .inl w3)), (a_t_aside, .inl (cy 0, 24, .inl t_aside)), (a_t_items, .inl (cy 2, 96, .inr (.inl t_items)))] H → va_D A [(a_t, .inr (9, [.ref a_t_now, g_t_tape, g_t_typed, g_t_place, g_t_isFault, g_t_readLaw, g_t_read, g_t_undone, g_t_undos, .ref a_t_aside, g_t_coat, g_t_bestCoats, g_t_bestStand, g_t_bestPaint, g_t_kept, g_t_keptUndos, g_t_isKept, g_t_lanes, g_t_sizes, .ref a_t_items, g_t_moved])), (a_t_now, .inl (cy 0, 24, .inl w3)), (a_t_aside, .inl (cy 0, 24, .inl t_aside)), (a_t_items, .inl (cy 2, 96, .inr (.inl t_items)))] → va_S A s.heap H locs → lv_has ls 6 [(5, .int x1), (4, .int x2), (0, .ref a_t), (1, .int p0), (2, .int p1), (3, .int p2)] → m_X9_isSo_L6 t_items p0 p1 p2 F k8 n9 x1 x2 w3 = some out → W p l e (rmG 6 134) s m [.ref a_t, .int p0, .int p1, .int p2].toArray below meth c H locs 0 0 QQ (F0 m 6 ls []) := by
    intro n9
    induction n9 with
    | zero => intro x1 x2 w3 H locs ls hP hD hS hl h; exact nomatch (show (none : Option (Int32 × (Nat → Int32))) = some out from h)
    | succ n9 ih =>
        intro x1 x2 w3 H locs ls hP hD hS hl h
        have h : m_X9_isSo_L6s t_items p0 p1 p2 F k8 (m_X9_isSo_L6 t_items p0 p1 p2 F k8 n9) x1 x2 w3 = some out := h
        unfold m_X9_isSo_L6s at h
        refine lv_iload hx hb dX9_isSo_6 (lv_at hl 0 rfl) ?_
        refine lv_iload_n hx hb dX9_isSo_8 rfl (lv_at hl 5 rfl) ?_
        refine lv_icmp_ge (tgt := 54) hx hb dX9_isSo_9 (by decide) (fun c11 => ?_) (fun c11 => ?_)
        · have h := it_t c11 h
          exact J8 x2 w3 _ _ _ hP hD hS (lv_sub hl [1, 2] rfl) h
        · have h := it_f c11 h
          refine lv_aload_n hx hb dX9_isSo_12 rfl (lv_at hl 2 rfl) ?_
          refine lv_iconst (v := 0) hx hb dX9_isSo_13 kI_0 ?_
          obtain ⟨v12, hv12, h⟩ := bind_e h
          refine callMV (As := [.int 0]) (rest := []) (wr := [(a_t_aside, .inl (cy 0, 24, .inl t_aside)), (a_t_items, .inl (cy 2, 96, .inr (.inl t_items)))]) (w2 := [(a_t, .inr (9, [.ref a_t_now, g_t_tape, g_t_typed, g_t_place, g_t_isFault, g_t_readLaw, g_t_read, g_t_undone, g_t_undos, .ref a_t_aside, g_t_coat, g_t_bestCoats, g_t_bestStand, g_t_bestPaint, g_t_kept, g_t_keptUndos, g_t_isKept, g_t_lanes, g_t_sizes, .ref a_t_items, g_t_moved])), (a_t_now, .inl (cy 0, 24, .inl v12)), (a_t_aside, .inl (cy 0, 24, .inl t_aside)), (a_t_items, .inl (cy 2, 96, .inr (.inl t_items)))]) hx hb hml hown hg (c_X9_goesBy l D cy a_t a_t_now _ (g_t_tape) (g_t_typed) (g_t_place) (g_t_isFault) (g_t_readLaw) (g_t_read) (g_t_undone) (g_t_undos) (.ref a_t_aside) (g_t_coat) (g_t_bestCoats) (g_t_bestStand) (g_t_bestPaint) (g_t_kept) (g_t_keptUndos) (g_t_isKept) (g_t_lanes) (g_t_sizes) (.ref a_t_items) (g_t_moved) w3 0 F v12 hv12) q_1148 q_1145 q_63 q_1147 q_42 hd_X9_goesBy ⟨(Nat.le_of_ble_eq_true rfl), (Nat.le_of_ble_eq_true rfl)⟩ hK hP hD hS hA [0, 1] [2, 3] rfl rfl rfl rfl (by decide) [2, 3, 0, 1] rfl rfl 0 9 rfl rfl rfl rfl rfl rfl hl.1 rfl rfl (Nat.le_of_ble_eq_true rfl) dX9_isSo_14 (fun H locs hP hD hS => ?_)
          refine lv_iload hx hb dX9_isSo_17 (lv_at hl 1 rfl) ?_
          refine lv_if_eq (tgt := 45) hx hb dX9_isSo_19 (by decide) (fun c13 => ?_) (fun c13 => ?_)
          · have h := it_t c13 h
            refine lv_iconst (v := 0) hx hb dX9_isSo_45 kI_0 ?_
            refine lv_istore (lv' := [(4, .int 0), (5, .int x1), (0, .ref a_t), (1, .int p0), (2, .int p1), (3, .int p2)]) hx hb dX9_isSo_46 hl (by decide) rfl (fun ls hl => ?_)
            obtain ⟨x14, ex14⟩ : ∃ y : Int32, y = x1 + 1 := ⟨_, rfl⟩
            have h := bnd_e ex14 h
            refine lv_iinc (v := x14) (lv' := [(5, .int x14), (4, .int 0), (0, .ref a_t), (1, .int p0), (2, .int p1), (3, .int p2)]) hx hb dX9_isSo_48 hl (k := 1) rfl (inc_e kI_1 ex14) (by decide) rfl (fun ls hl => ?_)
            refine lv_goto (tgt := 6) hx hb dX9_isSo_51 (by decide) ?_
            exact ih x14 0 v12 _ _ _ hP hD hS (lv_sub hl [0, 1, 2, 3, 4, 5] rfl) h
          · have h := it_f c13 h
            refine lv_aload_n hx hb dX9_isSo_22 rfl (lv_at hl 2 rfl) ?_
            refine lv_iload_n hx hb dX9_isSo_23 rfl (lv_at hl 3 rfl) ?_
            obtain ⟨v15, hv15, h⟩ := bind_e h
            refine callRV (As := [.int p0]) (rest := []) (v0 := .int v15) hx hb hml hown hg (c_X9_paintOf l D cy a_t a_t_now (g_t_tape) (g_t_typed) (g_t_place) (g_t_isFault) (g_t_readLaw) (g_t_read) (g_t_undone) (g_t_undos) (.ref a_t_aside) (g_t_coat) (g_t_bestCoats) (g_t_bestStand) (g_t_bestPaint) (g_t_kept) (g_t_keptUndos) (g_t_isKept) (g_t_lanes) (g_t_sizes) (.ref a_t_items) (g_t_moved) v12 p0 v15 hv15) q_1059 q_1056 q_63 q_1058 q_30 hd_X9_paintOf ⟨(Nat.le_of_ble_eq_true rfl), (Nat.le_of_ble_eq_true rfl)⟩ hK hP [0, 1] rfl 0 9 rfl rfl rfl rfl rfl rfl hl.1 rfl (Nat.le_of_ble_eq_true rfl) dX9_isSo_24 ?_
            refine lv_i2l (v := v15.toInt64) hx hb dX9_isSo_27 rfl ?_
            refine lv_aload_n hx hb dX9_isSo_28 rfl (lv_at hl 2 rfl) ?_
            refine va_get (D := D) (ci := 9) (v := .ref a_t_items) (C := RX9) (T := TX9) (N := 21) hx hb hg inG_X9 hown hK hP 0 rfl rfl 19 (by decide) (hg _ q_964) (fun _ h9 => h9) rfl dX9_isSo_29 ?_
            refine lv_iload_n hx hb dX9_isSo_32 rfl (lv_at hl 4 rfl) ?_
            refine lv_iload hx hb dX9_isSo_33 (lv_at hl 0 rfl) ?_
            refine lv_iadd hx hb dX9_isSo_35 ?_
            obtain ⟨hi16, h⟩ := chk_e h
            refine va_lald hx hb hK hP 3 2 rfl rfl hi16 dX9_isSo_36 ?_
            refine W.lcmp hx hb dX9_isSo_37 ?_
            refine lv_if_ne (tgt := 45) hx hb dX9_isSo_38 (by decide) (fun c17 => ?_) (fun c17 => ?_)
            · have h := it_f c17 h
              refine lv_iconst (v := 0) hx hb dX9_isSo_45 kI_0 ?_
              refine lv_istore (lv' := [(4, .int 0), (5, .int x1), (0, .ref a_t), (1, .int p0), (2, .int p1), (3, .int p2)]) hx hb dX9_isSo_46 hl (by decide) rfl (fun ls hl => ?_)
              obtain ⟨x18, ex18⟩ : ∃ y : Int32, y = x1 + 1 := ⟨_, rfl⟩
              have h := bnd_e ex18 h
              refine lv_iinc (v := x18) (lv' := [(5, .int x18), (4, .int 0), (0, .ref a_t), (1, .int p0), (2, .int p1), (3, .int p2)]) hx hb dX9_isSo_48 hl (k := 1) rfl (inc_e kI_1 ex18) (by decide) rfl (fun ls hl => ?_)
              refine lv_goto (tgt := 6) hx hb dX9_isSo_51 (by decide) ?_
              exact ih x18 0 v12 _ _ _ hP hD hS (lv_sub hl [0, 1, 2, 3, 4, 5] rfl) h
            · have h := it_t c17 h
              refine lv_iconst (v := 1) hx hb dX9_isSo_41 kI_1 ?_
              refine lv_goto (tgt := 46) hx hb dX9_isSo_42 (by decide) ?_
              refine lv_istore (lv' := [(4, .int 1), (5, .int x1), (0, .ref a_t), (1, .int p0), (2, .int p1), (3, .int p2)]) hx hb dX9_isSo_46 hl (by decide) rfl (fun ls hl => ?_)
              obtain ⟨x19, ex19⟩ : ∃ y : Int32, y = x1 + 1 := ⟨_, rfl⟩
              have h := bnd_e ex19 h
              refine lv_iinc (v := x19) (lv' := [(5, .int x19), (4, .int 1), (0, .ref a_t), (1, .int p0), (2, .int p1), (3, .int p2)]) hx hb dX9_isSo_48 hl (k := 1) rfl (inc_e kI_1 ex19) (by decide) rfl (fun ls hl => ?_)
              refine lv_goto (tgt := 6) hx hb dX9_isSo_51 (by decide) ?_
              exact ih x19 1 v12 _ _ _ hP hD hS (lv_sub hl [0, 1, 2, 3, 4, 5] rfl) h
  exact L9 F 0 1 t_now _ _ _ hP hD hS (lv_sub hl [0, 1, 2, 3, 4, 5] rfl) h

def m_X9_worn_L101s (t_items : Nat → Int64) (p0 : Int32) (p1 : Int32) (p3 : Int32) (p4 : Int32) (p5 : Int32) (F : Nat) (x13 : Int32) (v14 : (Nat → Int32)) (k20 : Int32 → (Nat → Int32) → Option (Int32 × (Nat → Int32) × (Nat → Int32))) (r22 : Int32 → Int32 → (Nat → Int32) → Option (Int32 × (Nat → Int32) × (Nat → Int32))) (x15 : Int32) (x16 : Int32) (w17 : Nat → Int32) : Option (Int32 × (Nat → Int32) × (Nat → Int32)) := jn (fun (x23 : Int32) (x24 : Int32) => (if x24 ≤ x23 then k20 x16 w17 else chk x13 24 ((m_X9_isSo F (upd w17 x13.toNatClampNeg x15) v14 t_items p0 ((24 * p1) + p3) p4).bind (fun v27 => (if v27.1 = 0 then bnd (x16 ||| 0) (fun x29 => bnd (x15 + 1) (fun x30 => r22 x30 x29 v27.2)) else bnd (x16 ||| (1 <<< (x15 &&& 31))) (fun x31 => bnd (x15 + 1) (fun x32 => r22 x32 x31 v27.2))))))) (fun k33 => (if p5 = 0 then k33 x15 5 else (if p5 = 1 then k33 x15 10 else k33 x15 13)))
def m_X9_worn_L101 (t_items : Nat → Int64) (p0 : Int32) (p1 : Int32) (p3 : Int32) (p4 : Int32) (p5 : Int32) (F : Nat) (x13 : Int32) (v14 : (Nat → Int32)) (k20 : Int32 → (Nat → Int32) → Option (Int32 × (Nat → Int32) × (Nat → Int32))) : Nat → Int32 → Int32 → (Nat → Int32) → Option (Int32 × (Nat → Int32) × (Nat → Int32))
  | 0 => fun _ _ _ => none
  | nF + 1 => m_X9_worn_L101s t_items p0 p1 p3 p4 p5 F x13 v14 k20 (m_X9_worn_L101 t_items p0 p1 p3 p4 p5 F x13 v14 k20 nF)
def m_X9_worn (F : Nat) (t_now : Nat → Int32) (t_aside : Nat → Int32) (t_lanes : Nat → Int32) (t_sizes : Nat → Int32) (t_items : Nat → Int64) (p0 : Int32) (p1 : Int32) (p2 : Int32) (p3 : Int32) (p4 : Int32) (p5 : Int32) : Option (Int32 × (Nat → Int32) × (Nat → Int32)) := (m_X9_isMan t_now p0).bind (fun v1 => (if v1 = 0 then some ((-1), t_now, t_aside) else (m_X9_isSheet p1).bind (fun v3 => (if v3 = 0 then some ((-1), t_now, t_aside) else (m_X9_isLane p2).bind (fun v5 => (if v5 = 0 then some ((-1), t_now, t_aside) else (m_X9_in (p4.toInt64) (1 : Int64) (8 : Int64)).bind (fun v7 => (if v7 = 0 then some ((-1), t_now, t_aside) else (m_X9_in (p5.toInt64) (0 : Int64) (2 : Int64)).bind (fun v9 => (if v9 = 0 then some ((-1), t_now, t_aside) else (m_X9_why t_lanes t_sizes p1 p2 p3 p4).bind (fun v11 => (if 0 ≤ v11 then jn (fun (x13 : Int32) => (m_X9_asides F t_now t_aside).bind (fun v14 => m_X9_worn_L101 t_items p0 p1 p3 p4 p5 F x13 v14 (fun (x18 : Int32) (w19 : Nat → Int32) => some (x18, w19, v14)) F 0 0 t_now)) (fun k36 => (if p5 = 2 then k36 4 else k36 ((6 + (3 * p0)) + p5))) else some (v11, t_now, t_aside)))))))))))))
set_option maxHeartbeats 4000000 in
set_option maxRecDepth 100000 in
theorem c_X9_worn (l : Launch) (D : va_G) (cy : Nat → ClassId) (a_t : Nat) (a_t_now : Nat) (a_t_aside : Nat) (a_t_lanes : Nat) (a_t_sizes : Nat) (a_t_items : Nat) (sz : Nat) (g_t_tape : Value) (g_t_typed : Value) (g_t_place : Value) (g_t_isFault : Value) (g_t_readLaw : Value) (g_t_read : Value) (g_t_undone : Value) (g_t_undos : Value) (g_t_coat : Value) (g_t_bestCoats : Value) (g_t_bestStand : Value) (g_t_bestPaint : Value) (g_t_kept : Value) (g_t_keptUndos : Value) (g_t_isKept : Value) (g_t_moved : Value) (t_now : Nat → Int32) (t_aside : Nat → Int32) (t_lanes : Nat → Int32) (t_sizes : Nat → Int32) (t_items : Nat → Int64) (p0 : Int32) (p1 : Int32) (p2 : Int32) (p3 : Int32) (p4 : Int32) (p5 : Int32) (F : Nat) (out : Int32 × (Nat → Int32) × (Nat → Int32)) (h : m_X9_worn F t_now t_aside t_lanes t_sizes t_items p0 p1 p2 p3 p4 p5 = some out) : MetM l D cy yX9_worn cX9_worn 11 (some .int) (rmG 7 159) [.ref a_t, .int p0, .int p1, .int p2, .int p3, .int p4, .int p5] sz [(a_t, .inr (9, [.ref a_t_now, g_t_tape, g_t_typed, g_t_place, g_t_isFault, g_t_readLaw, g_t_read, g_t_undone, g_t_undos, .ref a_t_aside, g_t_coat, g_t_bestCoats, g_t_bestStand, g_t_bestPaint, g_t_kept, g_t_keptUndos, g_t_isKept, .ref a_t_lanes, .ref a_t_sizes, .ref a_t_items, g_t_moved])), (a_t_now, .inl (cy 0, 24, .inl t_now)), (a_t_aside, .inl (cy 0, 24, .inl t_aside)), (a_t_lanes, .inl (cy 0, 4, .inl t_lanes)), (a_t_sizes, .inl (cy 0, 4, .inl t_sizes)), (a_t_items, .inl (cy 2, 96, .inr (.inl t_items)))] (some (.int out.1)) [(a_t, .inr (9, [.ref a_t_now, g_t_tape, g_t_typed, g_t_place, g_t_isFault, g_t_readLaw, g_t_read, g_t_undone, g_t_undos, .ref a_t_aside, g_t_coat, g_t_bestCoats, g_t_bestStand, g_t_bestPaint, g_t_kept, g_t_keptUndos, g_t_isKept, .ref a_t_lanes, .ref a_t_sizes, .ref a_t_items, g_t_moved])), (a_t_now, .inl (cy 0, 24, .inl out.2.1)), (a_t_aside, .inl (cy 0, 24, .inl out.2.2)), (a_t_lanes, .inl (cy 0, 4, .inl t_lanes)), (a_t_sizes, .inl (cy 0, 4, .inl t_sizes)), (a_t_items, .inl (cy 2, 96, .inr (.inl t_items)))] := by
  refine startMi (own := RX9) (by decide) rfl (Nat.le_of_ble_eq_true rfl) ?_
  intro p e s m below meth c QQ A hx hb hml hown hg hK hP hD hS hA hret ls hl
  have hl : lv_has ls 11 [(0, .ref a_t), (1, .int p0), (2, .int p1), (3, .int p2), (4, .int p3), (5, .int p4), (6, .int p5)] := hl
  unfold m_X9_worn at h
  refine lv_aload_n hx hb dX9_worn_0 rfl (lv_at hl 0 rfl) ?_
  refine lv_iload_n hx hb dX9_worn_1 rfl (lv_at hl 1 rfl) ?_
  obtain ⟨v1, hv1, h⟩ := bind_e h
  refine callRV (As := [.int p0]) (rest := []) (v0 := .int v1) hx hb hml hown hg (c_X9_isMan l D cy a_t a_t_now (g_t_tape) (g_t_typed) (g_t_place) (g_t_isFault) (g_t_readLaw) (g_t_read) (g_t_undone) (g_t_undos) (.ref a_t_aside) (g_t_coat) (g_t_bestCoats) (g_t_bestStand) (g_t_bestPaint) (g_t_kept) (g_t_keptUndos) (g_t_isKept) (.ref a_t_lanes) (.ref a_t_sizes) (.ref a_t_items) (g_t_moved) t_now p0 v1 hv1) q_1051 q_1048 q_63 q_1050 q_28 hd_X9_isMan ⟨(Nat.le_of_ble_eq_true rfl), (Nat.le_of_ble_eq_true rfl)⟩ hK hP [0, 1] rfl 0 9 rfl rfl rfl rfl rfl rfl hl.1 rfl (Nat.le_of_ble_eq_true rfl) dX9_worn_2 ?_
  refine lv_if_eq (tgt := 48) hx hb dX9_worn_5 (by decide) (fun c2 => ?_) (fun c2 => ?_)
  · have h := it_t c2 h
    refine lv_iconst (v := (-1)) hx hb dX9_worn_48 kI_m1 ?_
    exact hret _ _ _ _ ls 49 dX9_worn_49 rfl (by rw [← Option.some.inj h]) (by rw [← Option.some.inj h]) hP hD hS
  · have h := it_f c2 h
    refine lv_iload_n hx hb dX9_worn_8 rfl (lv_at hl 2 rfl) ?_
    obtain ⟨v3, hv3, h⟩ := bind_e h
    refine callRS (As := [.int p1]) (rest := []) (v0 := .int v3) hx hb hml hown hg (c_X9_isSheet l D cy p1 v3 hv3) q_1271 q_1269 q_63 q_1270 hd_X9_isSheet ⟨(Nat.le_of_ble_eq_true rfl), (Nat.le_of_ble_eq_true rfl)⟩ hK hP [] rfl rfl rfl rfl hl.1 rfl (Nat.le_of_ble_eq_true rfl) dX9_worn_9 ?_
    refine lv_if_eq (tgt := 48) hx hb dX9_worn_12 (by decide) (fun c4 => ?_) (fun c4 => ?_)
    · have h := it_t c4 h
      refine lv_iconst (v := (-1)) hx hb dX9_worn_48 kI_m1 ?_
      exact hret _ _ _ _ ls 49 dX9_worn_49 rfl (by rw [← Option.some.inj h]) (by rw [← Option.some.inj h]) hP hD hS
    · have h := it_f c4 h
      refine lv_iload_n hx hb dX9_worn_15 rfl (lv_at hl 3 rfl) ?_
      obtain ⟨v5, hv5, h⟩ := bind_e h
      refine callRS (As := [.int p2]) (rest := []) (v0 := .int v5) hx hb hml hown hg (c_X9_isLane l D cy p2 v5 hv5) q_1275 q_1273 q_63 q_1274 hd_X9_isLane ⟨(Nat.le_of_ble_eq_true rfl), (Nat.le_of_ble_eq_true rfl)⟩ hK hP [] rfl rfl rfl rfl hl.1 rfl (Nat.le_of_ble_eq_true rfl) dX9_worn_16 ?_
      refine lv_if_eq (tgt := 48) hx hb dX9_worn_19 (by decide) (fun c6 => ?_) (fun c6 => ?_)
      · have h := it_t c6 h
        refine lv_iconst (v := (-1)) hx hb dX9_worn_48 kI_m1 ?_
        exact hret _ _ _ _ ls 49 dX9_worn_49 rfl (by rw [← Option.some.inj h]) (by rw [← Option.some.inj h]) hP hD hS
      · have h := it_f c6 h
        refine lv_iload hx hb dX9_worn_22 (lv_at hl 5 rfl) ?_
        refine lv_i2l (v := p4.toInt64) hx hb dX9_worn_24 rfl ?_
        refine lv_lconst (v := 1) hx hb dX9_worn_25 kL_1 ?_
        refine lv_ldc2 (v := 8) hx hb hown (hg _ q_1233) dX9_worn_26 ?_
        obtain ⟨v7, hv7, h⟩ := bind_e h
        refine callRS (As := [.long (p4.toInt64), .long 1, .long 8]) (rest := []) (v0 := .int v7) hx hb hml hown hg (c_X9_in l D cy (p4.toInt64) (1 : Int64) (8 : Int64) v7 hv7) q_1016 q_1014 q_63 q_1015 hd_X9_in ⟨(Nat.le_of_ble_eq_true rfl), (Nat.le_of_ble_eq_true rfl)⟩ hK hP [] rfl rfl rfl rfl hl.1 rfl (Nat.le_of_ble_eq_true rfl) dX9_worn_29 ?_
        refine lv_if_eq (tgt := 48) hx hb dX9_worn_32 (by decide) (fun c8 => ?_) (fun c8 => ?_)
        · have h := it_t c8 h
          refine lv_iconst (v := (-1)) hx hb dX9_worn_48 kI_m1 ?_
          exact hret _ _ _ _ ls 49 dX9_worn_49 rfl (by rw [← Option.some.inj h]) (by rw [← Option.some.inj h]) hP hD hS
        · have h := it_f c8 h
          refine lv_iload hx hb dX9_worn_35 (lv_at hl 6 rfl) ?_
          refine lv_i2l (v := p5.toInt64) hx hb dX9_worn_37 rfl ?_
          refine lv_lconst (v := 0) hx hb dX9_worn_38 kL_0 ?_
          refine lv_ldc2 (v := 2) hx hb hown (hg _ q_1042) dX9_worn_39 ?_
          obtain ⟨v9, hv9, h⟩ := bind_e h
          refine callRS (As := [.long (p5.toInt64), .long 0, .long 2]) (rest := []) (v0 := .int v9) hx hb hml hown hg (c_X9_in l D cy (p5.toInt64) (0 : Int64) (2 : Int64) v9 hv9) q_1016 q_1014 q_63 q_1015 hd_X9_in ⟨(Nat.le_of_ble_eq_true rfl), (Nat.le_of_ble_eq_true rfl)⟩ hK hP [] rfl rfl rfl rfl hl.1 rfl (Nat.le_of_ble_eq_true rfl) dX9_worn_42 ?_
          refine lv_if_ne (tgt := 50) hx hb dX9_worn_45 (by decide) (fun c10 => ?_) (fun c10 => ?_)
          · have h := it_f c10 h
            refine lv_aload_n hx hb dX9_worn_50 rfl (lv_at hl 0 rfl) ?_
            refine lv_iload_n hx hb dX9_worn_51 rfl (lv_at hl 2 rfl) ?_
            refine lv_iload_n hx hb dX9_worn_52 rfl (lv_at hl 3 rfl) ?_
            refine lv_iload hx hb dX9_worn_53 (lv_at hl 4 rfl) ?_
            refine lv_iload hx hb dX9_worn_55 (lv_at hl 5 rfl) ?_
            obtain ⟨v11, hv11, h⟩ := bind_e h
            refine callRV (As := [.int p1, .int p2, .int p3, .int p4]) (rest := []) (v0 := .int v11) hx hb hml hown hg (c_X9_why l D cy a_t a_t_lanes a_t_sizes (.ref a_t_now) (g_t_tape) (g_t_typed) (g_t_place) (g_t_isFault) (g_t_readLaw) (g_t_read) (g_t_undone) (g_t_undos) (.ref a_t_aside) (g_t_coat) (g_t_bestCoats) (g_t_bestStand) (g_t_bestPaint) (g_t_kept) (g_t_keptUndos) (g_t_isKept) (.ref a_t_items) (g_t_moved) t_lanes t_sizes p1 p2 p3 p4 v11 hv11) q_1279 q_1276 q_63 q_1278 q_51 hd_X9_why ⟨(Nat.le_of_ble_eq_true rfl), (Nat.le_of_ble_eq_true rfl)⟩ hK hP [0, 3, 4] rfl 0 9 rfl rfl rfl rfl rfl rfl hl.1 rfl (Nat.le_of_ble_eq_true rfl) dX9_worn_57 ?_
            refine lv_istore (lv' := [(7, .int v11), (0, .ref a_t), (1, .int p0), (2, .int p1), (3, .int p2), (4, .int p3), (5, .int p4), (6, .int p5)]) hx hb dX9_worn_60 hl (by decide) rfl (fun ls hl => ?_)
            refine lv_iload hx hb dX9_worn_62 (lv_at hl 0 rfl) ?_
            refine lv_if_ge (tgt := 70) hx hb dX9_worn_64 (by decide) (fun c12 => ?_) (fun c12 => ?_)
            · have h := it_t c12 h
              refine lv_iconst (v := 0) hx hb dX9_worn_70 kI_0 ?_
              refine lv_istore (lv' := [(8, .int 0), (7, .int v11), (0, .ref a_t), (1, .int p0), (2, .int p1), (3, .int p2), (4, .int p3), (5, .int p4), (6, .int p5)]) hx hb dX9_worn_71 hl (by decide) rfl (fun ls hl => ?_)
              refine lv_iload hx hb dX9_worn_73 (lv_at hl 8 rfl) ?_
              refine lv_iconst (v := 2) hx hb dX9_worn_75 kI_2 ?_
              obtain ⟨k36, hk36, h⟩ := jn_e h
              have J36 : ∀ (x13 : Int32) (H : Heap) (locs : List Loc) (ls : Array Slot), va_P D vwCl [(a_t, .inr (9, [.ref a_t_now, g_t_tape, g_t_typed, g_t_place, g_t_isFault, g_t_readLaw, g_t_read, g_t_undone, g_t_undos, .ref a_t_aside, g_t_coat, g_t_bestCoats, g_t_bestStand, g_t_bestPaint, g_t_kept, g_t_keptUndos, g_t_isKept, .ref a_t_lanes, .ref a_t_sizes, .ref a_t_items, g_t_moved])), (a_t_now, .inl (cy 0, 24, .inl t_now)), (a_t_aside, .inl (cy 0, 24, .inl t_aside)), (a_t_lanes, .inl (cy 0, 4, .inl t_lanes)), (a_t_sizes, .inl (cy 0, 4, .inl t_sizes)), (a_t_items, .inl (cy 2, 96, .inr (.inl t_items)))] H → va_D A [(a_t, .inr (9, [.ref a_t_now, g_t_tape, g_t_typed, g_t_place, g_t_isFault, g_t_readLaw, g_t_read, g_t_undone, g_t_undos, .ref a_t_aside, g_t_coat, g_t_bestCoats, g_t_bestStand, g_t_bestPaint, g_t_kept, g_t_keptUndos, g_t_isKept, .ref a_t_lanes, .ref a_t_sizes, .ref a_t_items, g_t_moved])), (a_t_now, .inl (cy 0, 24, .inl t_now)), (a_t_aside, .inl (cy 0, 24, .inl t_aside)), (a_t_lanes, .inl (cy 0, 4, .inl t_lanes)), (a_t_sizes, .inl (cy 0, 4, .inl t_sizes)), (a_t_items, .inl (cy 2, 96, .inr (.inl t_items)))] → va_S A s.heap H locs → lv_has ls 11 [(8, .int 0), (0, .ref a_t), (1, .int p0), (2, .int p1), (4, .int p3), (5, .int p4), (6, .int p5)] → k36 x13 = some out → W p l e (rmG 7 159) s m [.ref a_t, .int p0, .int p1, .int p2, .int p3, .int p4, .int p5].toArray below meth c H locs 0 0 QQ (F0 m 92 ls [.int x13]) := by
                intro x13 H locs ls hP hD hS hl h
                rw [hk36] at h
                refine lv_istore (lv' := [(9, .int x13), (8, .int 0), (0, .ref a_t), (1, .int p0), (2, .int p1), (4, .int p3), (5, .int p4), (6, .int p5)]) hx hb dX9_worn_92 hl (by decide) rfl (fun ls hl => ?_)
                refine lv_aload_n hx hb dX9_worn_94 rfl (lv_at hl 2 rfl) ?_
                obtain ⟨v14, hv14, h⟩ := bind_e h
                refine callMV (As := []) (rest := []) (wr := [(a_t_lanes, .inl (cy 0, 4, .inl t_lanes)), (a_t_sizes, .inl (cy 0, 4, .inl t_sizes)), (a_t_items, .inl (cy 2, 96, .inr (.inl t_items)))]) (w2 := [(a_t, .inr (9, [.ref a_t_now, g_t_tape, g_t_typed, g_t_place, g_t_isFault, g_t_readLaw, g_t_read, g_t_undone, g_t_undos, .ref a_t_aside, g_t_coat, g_t_bestCoats, g_t_bestStand, g_t_bestPaint, g_t_kept, g_t_keptUndos, g_t_isKept, .ref a_t_lanes, .ref a_t_sizes, .ref a_t_items, g_t_moved])), (a_t_now, .inl (cy 0, 24, .inl t_now)), (a_t_aside, .inl (cy 0, 24, .inl v14)), (a_t_lanes, .inl (cy 0, 4, .inl t_lanes)), (a_t_sizes, .inl (cy 0, 4, .inl t_sizes)), (a_t_items, .inl (cy 2, 96, .inr (.inl t_items)))]) hx hb hml hown hg (c_X9_asides l D cy a_t a_t_now a_t_aside _ (g_t_tape) (g_t_typed) (g_t_place) (g_t_isFault) (g_t_readLaw) (g_t_read) (g_t_undone) (g_t_undos) (g_t_coat) (g_t_bestCoats) (g_t_bestStand) (g_t_bestPaint) (g_t_kept) (g_t_keptUndos) (g_t_isKept) (.ref a_t_lanes) (.ref a_t_sizes) (.ref a_t_items) (g_t_moved) t_now t_aside F v14 hv14) q_1192 q_1189 q_63 q_1191 q_45 hd_X9_asides ⟨(Nat.le_of_ble_eq_true rfl), (Nat.le_of_ble_eq_true rfl)⟩ hK hP hD hS hA [0, 1, 2] [3, 4, 5] rfl rfl rfl rfl (by decide) [3, 4, 5, 0, 1, 2] rfl rfl 0 9 rfl rfl rfl rfl rfl rfl hl.1 rfl rfl (Nat.le_of_ble_eq_true rfl) dX9_worn_95 (fun H locs hP hD hS => ?_)
                refine lv_iconst (v := 0) hx hb dX9_worn_98 kI_0 ?_
                refine lv_istore (lv' := [(10, .int 0), (9, .int x13), (8, .int 0), (0, .ref a_t), (1, .int p0), (2, .int p1), (4, .int p3), (5, .int p4), (6, .int p5)]) hx hb dX9_worn_99 hl (by decide) rfl (fun ls hl => ?_)
                obtain ⟨k20, hk20, h⟩ := kap (fun z => m_X9_worn_L101 t_items p0 p1 p3 p4 p5 F x13 v14 z F 0 0 t_now) h
                have J20 : ∀ (x18 : Int32) (w19 : Nat → Int32) (H : Heap) (locs : List Loc) (ls : Array Slot), va_P D vwCl [(a_t, .inr (9, [.ref a_t_now, g_t_tape, g_t_typed, g_t_place, g_t_isFault, g_t_readLaw, g_t_read, g_t_undone, g_t_undos, .ref a_t_aside, g_t_coat, g_t_bestCoats, g_t_bestStand, g_t_bestPaint, g_t_kept, g_t_keptUndos, g_t_isKept, .ref a_t_lanes, .ref a_t_sizes, .ref a_t_items, g_t_moved])), (a_t_now, .inl (cy 0, 24, .inl w19)), (a_t_aside, .inl (cy 0, 24, .inl v14)), (a_t_lanes, .inl (cy 0, 4, .inl t_lanes)), (a_t_sizes, .inl (cy 0, 4, .inl t_sizes)), (a_t_items, .inl (cy 2, 96, .inr (.inl t_items)))] H → va_D A [(a_t, .inr (9, [.ref a_t_now, g_t_tape, g_t_typed, g_t_place, g_t_isFault, g_t_readLaw, g_t_read, g_t_undone, g_t_undos, .ref a_t_aside, g_t_coat, g_t_bestCoats, g_t_bestStand, g_t_bestPaint, g_t_kept, g_t_keptUndos, g_t_isKept, .ref a_t_lanes, .ref a_t_sizes, .ref a_t_items, g_t_moved])), (a_t_now, .inl (cy 0, 24, .inl w19)), (a_t_aside, .inl (cy 0, 24, .inl v14)), (a_t_lanes, .inl (cy 0, 4, .inl t_lanes)), (a_t_sizes, .inl (cy 0, 4, .inl t_sizes)), (a_t_items, .inl (cy 2, 96, .inr (.inl t_items)))] → va_S A s.heap H locs → lv_has ls 11 [(8, .int x18)] → k20 x18 w19 = some out → W p l e (rmG 7 159) s m [.ref a_t, .int p0, .int p1, .int p2, .int p3, .int p4, .int p5].toArray below meth c H locs 0 0 QQ (F0 m 173 ls []) := by
                  intro x18 w19 H locs ls hP hD hS hl h
                  rw [hk20] at h
                  refine lv_iload hx hb dX9_worn_173 (lv_at hl 0 rfl) ?_
                  exact hret _ _ _ _ ls 175 dX9_worn_175 rfl (by rw [← Option.some.inj h]) (by rw [← Option.some.inj h]) hP hD hS
                have L21 : ∀ (n21 : Nat) (x15 : Int32) (x16 : Int32) (w17 : Nat → Int32) (H : Heap) (locs : List Loc) (ls : Array Slot), va_P D vwCl [(a_t, .inr (9, [.ref a_t_now, g_t_tape, g_t_typed, g_t_place, g_t_isFault, g_t_readLaw, g_t_read, g_t_undone, g_t_undos, .ref a_t_aside, g_t_coat, g_t_bestCoats, g_t_bestStand, g_t_bestPaint, g_t_kept, g_t_keptUndos, g_t_isKept, .ref a_t_lanes, .ref a_t_sizes, .ref a_t_items, g_t_moved])), (a_t_now, .inl (cy 0, 24, .inl w17)), (a_t_aside, .inl (cy 0, 24, .inl v14)), (a_t_lanes, .inl (cy 0, 4, .inl t_lanes)), (a_t_sizes, .inl (cy 0, 4, .inl t_sizes)), (a_t_items, .inl (cy 2, 96, .inr (.inl t_items)))] H → va_D A [(a_t, .inr (9, [.ref a_t_now, g_t_tape, g_t_typed, g_t_place, g_t_isFault, g_t_readLaw, g_t_read, g_t_undone, g_t_undos, .ref a_t_aside, g_t_coat, g_t_bestCoats, g_t_bestStand, g_t_bestPaint, g_t_kept, g_t_keptUndos, g_t_isKept, .ref a_t_lanes, .ref a_t_sizes, .ref a_t_items, g_t_moved])), (a_t_now, .inl (cy 0, 24, .inl w17)), (a_t_aside, .inl (cy 0, 24, .inl v14)), (a_t_lanes, .inl (cy 0, 4, .inl t_lanes)), (a_t_sizes, .inl (cy 0, 4, .inl t_sizes)), (a_t_items, .inl (cy 2, 96, .inr (.inl t_items)))] → va_S A s.heap H locs → lv_has ls 11 [(10, .int x15), (9, .int x13), (8, .int x16), (0, .ref a_t), (1, .int p0), (2, .int p1), (4, .int p3), (5, .int p4), (6, .int p5)] → m_X9_worn_L101 t_items p0 p1 p3 p4 p5 F x13 v14 k20 n21 x15 x16 w17 = some out → W p l e (rmG 7 159) s m [.ref a_t, .int p0, .int p1, .int p2, .int p3, .int p4, .int p5].toArray below meth c H locs 0 0 QQ (F0 m 101 ls []) := by
                  intro n21
                  induction n21 with
                  | zero => intro x15 x16 w17 H locs ls hP hD hS hl h; exact nomatch (show (none : Option (Int32 × (Nat → Int32) × (Nat → Int32))) = some out from h)
                  | succ n21 ih =>
                      intro x15 x16 w17 H locs ls hP hD hS hl h
                      have h : m_X9_worn_L101s t_items p0 p1 p3 p4 p5 F x13 v14 k20 (m_X9_worn_L101 t_items p0 p1 p3 p4 p5 F x13 v14 k20 n21) x15 x16 w17 = some out := h
                      unfold m_X9_worn_L101s at h
                      refine lv_iload hx hb dX9_worn_101 (lv_at hl 0 rfl) ?_
                      refine lv_iload hx hb dX9_worn_103 (lv_at hl 8 rfl) ?_
                      obtain ⟨k33, hk33, h⟩ := jn_e h
                      have J33 : ∀ (x23 : Int32) (x24 : Int32) (H : Heap) (locs : List Loc) (ls : Array Slot), va_P D vwCl [(a_t, .inr (9, [.ref a_t_now, g_t_tape, g_t_typed, g_t_place, g_t_isFault, g_t_readLaw, g_t_read, g_t_undone, g_t_undos, .ref a_t_aside, g_t_coat, g_t_bestCoats, g_t_bestStand, g_t_bestPaint, g_t_kept, g_t_keptUndos, g_t_isKept, .ref a_t_lanes, .ref a_t_sizes, .ref a_t_items, g_t_moved])), (a_t_now, .inl (cy 0, 24, .inl w17)), (a_t_aside, .inl (cy 0, 24, .inl v14)), (a_t_lanes, .inl (cy 0, 4, .inl t_lanes)), (a_t_sizes, .inl (cy 0, 4, .inl t_sizes)), (a_t_items, .inl (cy 2, 96, .inr (.inl t_items)))] H → va_D A [(a_t, .inr (9, [.ref a_t_now, g_t_tape, g_t_typed, g_t_place, g_t_isFault, g_t_readLaw, g_t_read, g_t_undone, g_t_undos, .ref a_t_aside, g_t_coat, g_t_bestCoats, g_t_bestStand, g_t_bestPaint, g_t_kept, g_t_keptUndos, g_t_isKept, .ref a_t_lanes, .ref a_t_sizes, .ref a_t_items, g_t_moved])), (a_t_now, .inl (cy 0, 24, .inl w17)), (a_t_aside, .inl (cy 0, 24, .inl v14)), (a_t_lanes, .inl (cy 0, 4, .inl t_lanes)), (a_t_sizes, .inl (cy 0, 4, .inl t_sizes)), (a_t_items, .inl (cy 2, 96, .inr (.inl t_items)))] → va_S A s.heap H locs → lv_has ls 11 [(10, .int x15), (9, .int x13), (8, .int x16), (0, .ref a_t), (1, .int p0), (2, .int p1), (4, .int p3), (5, .int p4), (6, .int p5)] → k33 x23 x24 = some out → W p l e (rmG 7 159) s m [.ref a_t, .int p0, .int p1, .int p2, .int p3, .int p4, .int p5].toArray below meth c H locs 0 0 QQ (F0 m 125 ls [.int x24, .int x23]) := by
                        intro x23 x24 H locs ls hP hD hS hl h
                        rw [hk33] at h
                        refine lv_icmp_ge (tgt := 173) hx hb dX9_worn_125 (by decide) (fun c25 => ?_) (fun c25 => ?_)
                        · have h := it_t c25 h
                          exact J20 x16 w17 _ _ _ hP hD hS (lv_sub hl [2] rfl) h
                        · have h := it_f c25 h
                          refine lv_aload_n hx hb dX9_worn_128 rfl (lv_at hl 3 rfl) ?_
                          refine va_get (D := D) (ci := 9) (v := .ref a_t_now) (C := RX9) (T := TX9) (N := 21) hx hb hg inG_X9 hown hK hP 0 rfl rfl 0 (by decide) (hg _ q_945) (fun _ h9 => h9) rfl dX9_worn_129 ?_
                          refine lv_iload hx hb dX9_worn_132 (lv_at hl 1 rfl) ?_
                          refine lv_iload hx hb dX9_worn_134 (lv_at hl 0 rfl) ?_
                          obtain ⟨hi26, h⟩ := chk_e h
                          refine va_iast hx hb hK hP hD hS 1 0 rfl rfl hi26 dX9_worn_136 (fun H locs hP hD hS => ?_)
                          have hP : va_P D vwCl [(a_t, .inr (9, [.ref a_t_now, g_t_tape, g_t_typed, g_t_place, g_t_isFault, g_t_readLaw, g_t_read, g_t_undone, g_t_undos, .ref a_t_aside, g_t_coat, g_t_bestCoats, g_t_bestStand, g_t_bestPaint, g_t_kept, g_t_keptUndos, g_t_isKept, .ref a_t_lanes, .ref a_t_sizes, .ref a_t_items, g_t_moved])), (a_t_now, .inl (cy 0, 24, .inl (upd w17 x13.toNatClampNeg x15))), (a_t_aside, .inl (cy 0, 24, .inl v14)), (a_t_lanes, .inl (cy 0, 4, .inl t_lanes)), (a_t_sizes, .inl (cy 0, 4, .inl t_sizes)), (a_t_items, .inl (cy 2, 96, .inr (.inl t_items)))] H := hP
                          have hD : va_D A [(a_t, .inr (9, [.ref a_t_now, g_t_tape, g_t_typed, g_t_place, g_t_isFault, g_t_readLaw, g_t_read, g_t_undone, g_t_undos, .ref a_t_aside, g_t_coat, g_t_bestCoats, g_t_bestStand, g_t_bestPaint, g_t_kept, g_t_keptUndos, g_t_isKept, .ref a_t_lanes, .ref a_t_sizes, .ref a_t_items, g_t_moved])), (a_t_now, .inl (cy 0, 24, .inl (upd w17 x13.toNatClampNeg x15))), (a_t_aside, .inl (cy 0, 24, .inl v14)), (a_t_lanes, .inl (cy 0, 4, .inl t_lanes)), (a_t_sizes, .inl (cy 0, 4, .inl t_sizes)), (a_t_items, .inl (cy 2, 96, .inr (.inl t_items)))] := hD
                          refine lv_iload hx hb dX9_worn_137 (lv_at hl 2 rfl) ?_
                          refine lv_aload_n hx hb dX9_worn_139 rfl (lv_at hl 3 rfl) ?_
                          refine lv_iload_n hx hb dX9_worn_140 rfl (lv_at hl 4 rfl) ?_
                          refine lv_bipush (v := 24) hx hb dX9_worn_141 kB_24 ?_
                          refine lv_iload_n hx hb dX9_worn_143 rfl (lv_at hl 5 rfl) ?_
                          refine lv_imul hx hb dX9_worn_144 ?_
                          refine lv_iload hx hb dX9_worn_145 (lv_at hl 6 rfl) ?_
                          refine lv_iadd hx hb dX9_worn_147 ?_
                          refine lv_iload hx hb dX9_worn_148 (lv_at hl 7 rfl) ?_
                          obtain ⟨v27, hv27, h⟩ := bind_e h
                          refine callMV (As := [.int p0, .int ((24 * p1) + p3), .int p4]) (rest := [.int x16]) (wr := [(a_t_lanes, .inl (cy 0, 4, .inl t_lanes)), (a_t_sizes, .inl (cy 0, 4, .inl t_sizes))]) (w2 := [(a_t, .inr (9, [.ref a_t_now, g_t_tape, g_t_typed, g_t_place, g_t_isFault, g_t_readLaw, g_t_read, g_t_undone, g_t_undos, .ref a_t_aside, g_t_coat, g_t_bestCoats, g_t_bestStand, g_t_bestPaint, g_t_kept, g_t_keptUndos, g_t_isKept, .ref a_t_lanes, .ref a_t_sizes, .ref a_t_items, g_t_moved])), (a_t_now, .inl (cy 0, 24, .inl v27.2)), (a_t_aside, .inl (cy 0, 24, .inl v14)), (a_t_lanes, .inl (cy 0, 4, .inl t_lanes)), (a_t_sizes, .inl (cy 0, 4, .inl t_sizes)), (a_t_items, .inl (cy 2, 96, .inr (.inl t_items)))]) hx hb hml hown hg (c_X9_isSo l D cy a_t a_t_now a_t_aside a_t_items _ (g_t_tape) (g_t_typed) (g_t_place) (g_t_isFault) (g_t_readLaw) (g_t_read) (g_t_undone) (g_t_undos) (g_t_coat) (g_t_bestCoats) (g_t_bestStand) (g_t_bestPaint) (g_t_kept) (g_t_keptUndos) (g_t_isKept) (.ref a_t_lanes) (.ref a_t_sizes) (g_t_moved) (upd w17 x13.toNatClampNeg x15) v14 t_items p0 ((24 * p1) + p3) p4 F v27 hv27) q_1283 q_1280 q_63 q_1282 q_52 hd_X9_isSo ⟨(Nat.le_of_ble_eq_true rfl), (Nat.le_of_ble_eq_true rfl)⟩ hK hP hD hS hA [0, 1, 2, 5] [3, 4] rfl rfl rfl rfl (by decide) [2, 3, 4, 0, 1, 5] rfl rfl 0 9 rfl rfl rfl rfl rfl rfl hl.1 rfl rfl (Nat.le_of_ble_eq_true rfl) dX9_worn_150 (fun H locs hP hD hS => ?_)
                          refine lv_if_eq (tgt := 163) hx hb dX9_worn_153 (by decide) (fun c28 => ?_) (fun c28 => ?_)
                          · have h := it_t c28 h
                            refine lv_iconst (v := 0) hx hb dX9_worn_163 kI_0 ?_
                            refine lv_ior hx hb dX9_worn_164 ?_
                            refine lv_topi (fun x29 ex29 => ?_)
                            have h := bnd_e ex29 h
                            refine lv_istore (lv' := [(8, .int x29), (10, .int x15), (9, .int x13), (0, .ref a_t), (1, .int p0), (2, .int p1), (4, .int p3), (5, .int p4), (6, .int p5)]) hx hb dX9_worn_165 hl (by decide) rfl (fun ls hl => ?_)
                            obtain ⟨x30, ex30⟩ : ∃ y : Int32, y = x15 + 1 := ⟨_, rfl⟩
                            have h := bnd_e ex30 h
                            refine lv_iinc (v := x30) (lv' := [(10, .int x30), (8, .int x29), (9, .int x13), (0, .ref a_t), (1, .int p0), (2, .int p1), (4, .int p3), (5, .int p4), (6, .int p5)]) hx hb dX9_worn_167 hl (k := 1) rfl (inc_e kI_1 ex30) (by decide) rfl (fun ls hl => ?_)
                            refine lv_goto (tgt := 101) hx hb dX9_worn_170 (by decide) ?_
                            exact ih x30 x29 v27.2 _ _ _ hP hD hS (lv_sub hl [0, 2, 1, 3, 4, 5, 6, 7, 8] rfl) h
                          · have h := it_f c28 h
                            refine lv_iconst (v := 1) hx hb dX9_worn_156 kI_1 ?_
                            refine lv_iload hx hb dX9_worn_157 (lv_at hl 0 rfl) ?_
                            refine lv_ishl hx hb dX9_worn_159 ?_
                            refine lv_goto (tgt := 164) hx hb dX9_worn_160 (by decide) ?_
                            refine lv_ior hx hb dX9_worn_164 ?_
                            refine lv_topi (fun x31 ex31 => ?_)
                            have h := bnd_e ex31 h
                            refine lv_istore (lv' := [(8, .int x31), (10, .int x15), (9, .int x13), (0, .ref a_t), (1, .int p0), (2, .int p1), (4, .int p3), (5, .int p4), (6, .int p5)]) hx hb dX9_worn_165 hl (by decide) rfl (fun ls hl => ?_)
                            obtain ⟨x32, ex32⟩ : ∃ y : Int32, y = x15 + 1 := ⟨_, rfl⟩
                            have h := bnd_e ex32 h
                            refine lv_iinc (v := x32) (lv' := [(10, .int x32), (8, .int x31), (9, .int x13), (0, .ref a_t), (1, .int p0), (2, .int p1), (4, .int p3), (5, .int p4), (6, .int p5)]) hx hb dX9_worn_167 hl (k := 1) rfl (inc_e kI_1 ex32) (by decide) rfl (fun ls hl => ?_)
                            refine lv_goto (tgt := 101) hx hb dX9_worn_170 (by decide) ?_
                            exact ih x32 x31 v27.2 _ _ _ hP hD hS (lv_sub hl [0, 2, 1, 3, 4, 5, 6, 7, 8] rfl) h
                      refine lv_if_ne (tgt := 112) hx hb dX9_worn_105 (by decide) (fun c34 => ?_) (fun c34 => ?_)
                      · have h := it_f c34 h
                        refine lv_iload hx hb dX9_worn_112 (lv_at hl 8 rfl) ?_
                        refine lv_iconst (v := 1) hx hb dX9_worn_114 kI_1 ?_
                        refine lv_icmp_ne (tgt := 123) hx hb dX9_worn_115 (by decide) (fun c35 => ?_) (fun c35 => ?_)
                        · have h := it_f c35 h
                          refine lv_bipush (v := 13) hx hb dX9_worn_123 kB_13 ?_
                          exact J33 x15 13 _ _ _ hP hD hS (lv_sub hl [0, 1, 2, 3, 4, 5, 6, 7, 8] rfl) h
                        · have h := it_t c35 h
                          refine lv_bipush (v := 10) hx hb dX9_worn_118 kB_10 ?_
                          refine lv_goto (tgt := 125) hx hb dX9_worn_120 (by decide) ?_
                          exact J33 x15 10 _ _ _ hP hD hS (lv_sub hl [0, 1, 2, 3, 4, 5, 6, 7, 8] rfl) h
                      · have h := it_t c34 h
                        refine lv_iconst (v := 5) hx hb dX9_worn_108 kI_5 ?_
                        refine lv_goto (tgt := 125) hx hb dX9_worn_109 (by decide) ?_
                        exact J33 x15 5 _ _ _ hP hD hS (lv_sub hl [0, 1, 2, 3, 4, 5, 6, 7, 8] rfl) h
                exact L21 F 0 0 t_now _ _ _ hP hD hS (lv_sub hl [0, 1, 2, 3, 4, 5, 6, 7, 8] rfl) h
              refine lv_icmp_ne (tgt := 83) hx hb dX9_worn_76 (by decide) (fun c37 => ?_) (fun c37 => ?_)
              · have h := it_f c37 h
                refine lv_bipush (v := 6) hx hb dX9_worn_83 kB_6 ?_
                refine lv_iconst (v := 3) hx hb dX9_worn_85 kI_3 ?_
                refine lv_iload_n hx hb dX9_worn_86 rfl (lv_at hl 3 rfl) ?_
                refine lv_imul hx hb dX9_worn_87 ?_
                refine lv_iadd hx hb dX9_worn_88 ?_
                refine lv_iload hx hb dX9_worn_89 (lv_at hl 8 rfl) ?_
                refine lv_iadd hx hb dX9_worn_91 ?_
                exact J36 ((6 + (3 * p0)) + p5) _ _ _ hP hD hS (lv_sub hl [0, 2, 3, 4, 6, 7, 8] rfl) h
              · have h := it_t c37 h
                refine lv_iconst (v := 4) hx hb dX9_worn_79 kI_4 ?_
                refine lv_goto (tgt := 92) hx hb dX9_worn_80 (by decide) ?_
                exact J36 4 _ _ _ hP hD hS (lv_sub hl [0, 2, 3, 4, 6, 7, 8] rfl) h
            · have h := it_f c12 h
              refine lv_iload hx hb dX9_worn_67 (lv_at hl 0 rfl) ?_
              exact hret _ _ _ _ ls 69 dX9_worn_69 rfl (by rw [← Option.some.inj h]) (by rw [← Option.some.inj h]) hP hD hS
          · have h := it_t c10 h
            refine lv_iconst (v := (-1)) hx hb dX9_worn_48 kI_m1 ?_
            exact hret _ _ _ _ ls 49 dX9_worn_49 rfl (by rw [← Option.some.inj h]) (by rw [← Option.some.inj h]) hP hD hS

def m_X9_film_L64s (p0 : Int32) (p1 : Int32) (p2 : Int32) (p4 : Int32) (F : Nat) (k18 : (Nat → Int32) → (Nat → Int64) → Option (Int32 × (Nat → Int32) × (Nat → Int32) × (Nat → Int64))) (r20 : Int32 → (Nat → Int32) → (Nat → Int64) → Option (Int32 × (Nat → Int32) × (Nat → Int32) × (Nat → Int64))) (x12 : Int32) (w13 : Nat → Int32) (w14 : Nat → Int64) : Option (Int32 × (Nat → Int32) × (Nat → Int32) × (Nat → Int64)) := (if p1 ≤ x12 then k18 w13 w14 else (m_X9_goesBy F w13 0).bind (fun v22 => (m_X9_paintOf v22 p0).bind (fun v23 => chk (((24 * p2) + p4) + x12) 96 (bnd (x12 + 1) (fun x25 => r20 x25 v22 (vp_updL w14 (((24 * p2) + p4) + x12).toNatClampNeg (v23.toInt64)))))))
def m_X9_film_L64 (p0 : Int32) (p1 : Int32) (p2 : Int32) (p4 : Int32) (F : Nat) (k18 : (Nat → Int32) → (Nat → Int64) → Option (Int32 × (Nat → Int32) × (Nat → Int32) × (Nat → Int64))) : Nat → Int32 → (Nat → Int32) → (Nat → Int64) → Option (Int32 × (Nat → Int32) × (Nat → Int32) × (Nat → Int64))
  | 0 => fun _ _ _ => none
  | nF + 1 => m_X9_film_L64s p0 p1 p2 p4 F k18 (m_X9_film_L64 p0 p1 p2 p4 F k18 nF)
def m_X9_film (F : Nat) (t_now : Nat → Int32) (t_aside : Nat → Int32) (t_lanes : Nat → Int32) (t_sizes : Nat → Int32) (t_items : Nat → Int64) (p0 : Int32) (p1 : Int32) (p2 : Int32) (p3 : Int32) (p4 : Int32) : Option (Int32 × (Nat → Int32) × (Nat → Int32) × (Nat → Int64)) := (m_X9_isMan t_now p0).bind (fun v1 => (if v1 = 0 then some ((-1), t_now, t_aside, t_items) else (m_X9_in (p1.toInt64) (1 : Int64) (24 : Int64)).bind (fun v3 => (if v3 = 0 then some ((-1), t_now, t_aside, t_items) else (m_X9_isSheet p2).bind (fun v5 => (if v5 = 0 then some ((-1), t_now, t_aside, t_items) else (m_X9_isLane p3).bind (fun v7 => (if v7 = 0 then some ((-1), t_now, t_aside, t_items) else (m_X9_why t_lanes t_sizes p2 p3 p4 p1).bind (fun v9 => (if 0 ≤ v9 then (m_X9_asides F t_now t_aside).bind (fun v11 => m_X9_film_L64 p0 p1 p2 p4 F (fun (w15 : Nat → Int32) (w16 : Nat → Int64) => (m_X9_backs F w15 v11).bind (fun v17 => some (p1, v17, v11, w16))) F 0 t_now t_items) else some (v9, t_now, t_aside, t_items)))))))))))
set_option maxHeartbeats 4000000 in
set_option maxRecDepth 100000 in
theorem c_X9_film (l : Launch) (D : va_G) (cy : Nat → ClassId) (a_t : Nat) (a_t_now : Nat) (a_t_aside : Nat) (a_t_lanes : Nat) (a_t_sizes : Nat) (a_t_items : Nat) (sz : Nat) (g_t_tape : Value) (g_t_typed : Value) (g_t_place : Value) (g_t_isFault : Value) (g_t_readLaw : Value) (g_t_read : Value) (g_t_undone : Value) (g_t_undos : Value) (g_t_coat : Value) (g_t_bestCoats : Value) (g_t_bestStand : Value) (g_t_bestPaint : Value) (g_t_kept : Value) (g_t_keptUndos : Value) (g_t_isKept : Value) (g_t_moved : Value) (t_now : Nat → Int32) (t_aside : Nat → Int32) (t_lanes : Nat → Int32) (t_sizes : Nat → Int32) (t_items : Nat → Int64) (p0 : Int32) (p1 : Int32) (p2 : Int32) (p3 : Int32) (p4 : Int32) (F : Nat) (out : Int32 × (Nat → Int32) × (Nat → Int32) × (Nat → Int64)) (h : m_X9_film F t_now t_aside t_lanes t_sizes t_items p0 p1 p2 p3 p4 = some out) : MetM l D cy yX9_film cX9_film 8 (some .int) (rmG 6 134) [.ref a_t, .int p0, .int p1, .int p2, .int p3, .int p4] sz [(a_t, .inr (9, [.ref a_t_now, g_t_tape, g_t_typed, g_t_place, g_t_isFault, g_t_readLaw, g_t_read, g_t_undone, g_t_undos, .ref a_t_aside, g_t_coat, g_t_bestCoats, g_t_bestStand, g_t_bestPaint, g_t_kept, g_t_keptUndos, g_t_isKept, .ref a_t_lanes, .ref a_t_sizes, .ref a_t_items, g_t_moved])), (a_t_now, .inl (cy 0, 24, .inl t_now)), (a_t_aside, .inl (cy 0, 24, .inl t_aside)), (a_t_lanes, .inl (cy 0, 4, .inl t_lanes)), (a_t_sizes, .inl (cy 0, 4, .inl t_sizes)), (a_t_items, .inl (cy 2, 96, .inr (.inl t_items)))] (some (.int out.1)) [(a_t, .inr (9, [.ref a_t_now, g_t_tape, g_t_typed, g_t_place, g_t_isFault, g_t_readLaw, g_t_read, g_t_undone, g_t_undos, .ref a_t_aside, g_t_coat, g_t_bestCoats, g_t_bestStand, g_t_bestPaint, g_t_kept, g_t_keptUndos, g_t_isKept, .ref a_t_lanes, .ref a_t_sizes, .ref a_t_items, g_t_moved])), (a_t_now, .inl (cy 0, 24, .inl out.2.1)), (a_t_aside, .inl (cy 0, 24, .inl out.2.2.1)), (a_t_lanes, .inl (cy 0, 4, .inl t_lanes)), (a_t_sizes, .inl (cy 0, 4, .inl t_sizes)), (a_t_items, .inl (cy 2, 96, .inr (.inl out.2.2.2)))] := by
  refine startMi (own := RX9) (by decide) rfl (Nat.le_of_ble_eq_true rfl) ?_
  intro p e s m below meth c QQ A hx hb hml hown hg hK hP hD hS hA hret ls hl
  have hl : lv_has ls 8 [(0, .ref a_t), (1, .int p0), (2, .int p1), (3, .int p2), (4, .int p3), (5, .int p4)] := hl
  unfold m_X9_film at h
  refine lv_aload_n hx hb dX9_film_0 rfl (lv_at hl 0 rfl) ?_
  refine lv_iload_n hx hb dX9_film_1 rfl (lv_at hl 1 rfl) ?_
  obtain ⟨v1, hv1, h⟩ := bind_e h
  refine callRV (As := [.int p0]) (rest := []) (v0 := .int v1) hx hb hml hown hg (c_X9_isMan l D cy a_t a_t_now (g_t_tape) (g_t_typed) (g_t_place) (g_t_isFault) (g_t_readLaw) (g_t_read) (g_t_undone) (g_t_undos) (.ref a_t_aside) (g_t_coat) (g_t_bestCoats) (g_t_bestStand) (g_t_bestPaint) (g_t_kept) (g_t_keptUndos) (g_t_isKept) (.ref a_t_lanes) (.ref a_t_sizes) (.ref a_t_items) (g_t_moved) t_now p0 v1 hv1) q_1051 q_1048 q_63 q_1050 q_28 hd_X9_isMan ⟨(Nat.le_of_ble_eq_true rfl), (Nat.le_of_ble_eq_true rfl)⟩ hK hP [0, 1] rfl 0 9 rfl rfl rfl rfl rfl rfl hl.1 rfl (Nat.le_of_ble_eq_true rfl) dX9_film_2 ?_
  refine lv_if_eq (tgt := 35) hx hb dX9_film_5 (by decide) (fun c2 => ?_) (fun c2 => ?_)
  · have h := it_t c2 h
    refine lv_iconst (v := (-1)) hx hb dX9_film_35 kI_m1 ?_
    exact hret _ _ _ _ ls 36 dX9_film_36 rfl (by rw [← Option.some.inj h]) (by rw [← Option.some.inj h]) hP hD hS
  · have h := it_f c2 h
    refine lv_iload_n hx hb dX9_film_8 rfl (lv_at hl 2 rfl) ?_
    refine lv_i2l (v := p1.toInt64) hx hb dX9_film_9 rfl ?_
    refine lv_lconst (v := 1) hx hb dX9_film_10 kL_1 ?_
    refine lv_ldc2 (v := 24) hx hb hown (hg _ q_1288) dX9_film_11 ?_
    obtain ⟨v3, hv3, h⟩ := bind_e h
    refine callRS (As := [.long (p1.toInt64), .long 1, .long 24]) (rest := []) (v0 := .int v3) hx hb hml hown hg (c_X9_in l D cy (p1.toInt64) (1 : Int64) (24 : Int64) v3 hv3) q_1016 q_1014 q_63 q_1015 hd_X9_in ⟨(Nat.le_of_ble_eq_true rfl), (Nat.le_of_ble_eq_true rfl)⟩ hK hP [] rfl rfl rfl rfl hl.1 rfl (Nat.le_of_ble_eq_true rfl) dX9_film_14 ?_
    refine lv_if_eq (tgt := 35) hx hb dX9_film_17 (by decide) (fun c4 => ?_) (fun c4 => ?_)
    · have h := it_t c4 h
      refine lv_iconst (v := (-1)) hx hb dX9_film_35 kI_m1 ?_
      exact hret _ _ _ _ ls 36 dX9_film_36 rfl (by rw [← Option.some.inj h]) (by rw [← Option.some.inj h]) hP hD hS
    · have h := it_f c4 h
      refine lv_iload_n hx hb dX9_film_20 rfl (lv_at hl 3 rfl) ?_
      obtain ⟨v5, hv5, h⟩ := bind_e h
      refine callRS (As := [.int p2]) (rest := []) (v0 := .int v5) hx hb hml hown hg (c_X9_isSheet l D cy p2 v5 hv5) q_1271 q_1269 q_63 q_1270 hd_X9_isSheet ⟨(Nat.le_of_ble_eq_true rfl), (Nat.le_of_ble_eq_true rfl)⟩ hK hP [] rfl rfl rfl rfl hl.1 rfl (Nat.le_of_ble_eq_true rfl) dX9_film_21 ?_
      refine lv_if_eq (tgt := 35) hx hb dX9_film_24 (by decide) (fun c6 => ?_) (fun c6 => ?_)
      · have h := it_t c6 h
        refine lv_iconst (v := (-1)) hx hb dX9_film_35 kI_m1 ?_
        exact hret _ _ _ _ ls 36 dX9_film_36 rfl (by rw [← Option.some.inj h]) (by rw [← Option.some.inj h]) hP hD hS
      · have h := it_f c6 h
        refine lv_iload hx hb dX9_film_27 (lv_at hl 4 rfl) ?_
        obtain ⟨v7, hv7, h⟩ := bind_e h
        refine callRS (As := [.int p3]) (rest := []) (v0 := .int v7) hx hb hml hown hg (c_X9_isLane l D cy p3 v7 hv7) q_1275 q_1273 q_63 q_1274 hd_X9_isLane ⟨(Nat.le_of_ble_eq_true rfl), (Nat.le_of_ble_eq_true rfl)⟩ hK hP [] rfl rfl rfl rfl hl.1 rfl (Nat.le_of_ble_eq_true rfl) dX9_film_29 ?_
        refine lv_if_ne (tgt := 37) hx hb dX9_film_32 (by decide) (fun c8 => ?_) (fun c8 => ?_)
        · have h := it_f c8 h
          refine lv_aload_n hx hb dX9_film_37 rfl (lv_at hl 0 rfl) ?_
          refine lv_iload_n hx hb dX9_film_38 rfl (lv_at hl 3 rfl) ?_
          refine lv_iload hx hb dX9_film_39 (lv_at hl 4 rfl) ?_
          refine lv_iload hx hb dX9_film_41 (lv_at hl 5 rfl) ?_
          refine lv_iload_n hx hb dX9_film_43 rfl (lv_at hl 2 rfl) ?_
          obtain ⟨v9, hv9, h⟩ := bind_e h
          refine callRV (As := [.int p2, .int p3, .int p4, .int p1]) (rest := []) (v0 := .int v9) hx hb hml hown hg (c_X9_why l D cy a_t a_t_lanes a_t_sizes (.ref a_t_now) (g_t_tape) (g_t_typed) (g_t_place) (g_t_isFault) (g_t_readLaw) (g_t_read) (g_t_undone) (g_t_undos) (.ref a_t_aside) (g_t_coat) (g_t_bestCoats) (g_t_bestStand) (g_t_bestPaint) (g_t_kept) (g_t_keptUndos) (g_t_isKept) (.ref a_t_items) (g_t_moved) t_lanes t_sizes p2 p3 p4 p1 v9 hv9) q_1279 q_1276 q_63 q_1278 q_51 hd_X9_why ⟨(Nat.le_of_ble_eq_true rfl), (Nat.le_of_ble_eq_true rfl)⟩ hK hP [0, 3, 4] rfl 0 9 rfl rfl rfl rfl rfl rfl hl.1 rfl (Nat.le_of_ble_eq_true rfl) dX9_film_44 ?_
          refine lv_istore (lv' := [(6, .int v9), (0, .ref a_t), (1, .int p0), (2, .int p1), (3, .int p2), (4, .int p3), (5, .int p4)]) hx hb dX9_film_47 hl (by decide) rfl (fun ls hl => ?_)
          refine lv_iload hx hb dX9_film_49 (lv_at hl 0 rfl) ?_
          refine lv_if_ge (tgt := 57) hx hb dX9_film_51 (by decide) (fun c10 => ?_) (fun c10 => ?_)
          · have h := it_t c10 h
            refine lv_aload_n hx hb dX9_film_57 rfl (lv_at hl 1 rfl) ?_
            obtain ⟨v11, hv11, h⟩ := bind_e h
            refine callMV (As := []) (rest := []) (wr := [(a_t_lanes, .inl (cy 0, 4, .inl t_lanes)), (a_t_sizes, .inl (cy 0, 4, .inl t_sizes)), (a_t_items, .inl (cy 2, 96, .inr (.inl t_items)))]) (w2 := [(a_t, .inr (9, [.ref a_t_now, g_t_tape, g_t_typed, g_t_place, g_t_isFault, g_t_readLaw, g_t_read, g_t_undone, g_t_undos, .ref a_t_aside, g_t_coat, g_t_bestCoats, g_t_bestStand, g_t_bestPaint, g_t_kept, g_t_keptUndos, g_t_isKept, .ref a_t_lanes, .ref a_t_sizes, .ref a_t_items, g_t_moved])), (a_t_now, .inl (cy 0, 24, .inl t_now)), (a_t_aside, .inl (cy 0, 24, .inl v11)), (a_t_lanes, .inl (cy 0, 4, .inl t_lanes)), (a_t_sizes, .inl (cy 0, 4, .inl t_sizes)), (a_t_items, .inl (cy 2, 96, .inr (.inl t_items)))]) hx hb hml hown hg (c_X9_asides l D cy a_t a_t_now a_t_aside _ (g_t_tape) (g_t_typed) (g_t_place) (g_t_isFault) (g_t_readLaw) (g_t_read) (g_t_undone) (g_t_undos) (g_t_coat) (g_t_bestCoats) (g_t_bestStand) (g_t_bestPaint) (g_t_kept) (g_t_keptUndos) (g_t_isKept) (.ref a_t_lanes) (.ref a_t_sizes) (.ref a_t_items) (g_t_moved) t_now t_aside F v11 hv11) q_1192 q_1189 q_63 q_1191 q_45 hd_X9_asides ⟨(Nat.le_of_ble_eq_true rfl), (Nat.le_of_ble_eq_true rfl)⟩ hK hP hD hS hA [0, 1, 2] [3, 4, 5] rfl rfl rfl rfl (by decide) [3, 4, 5, 0, 1, 2] rfl rfl 0 9 rfl rfl rfl rfl rfl rfl hl.1 rfl rfl (Nat.le_of_ble_eq_true rfl) dX9_film_58 (fun H locs hP hD hS => ?_)
            refine lv_iconst (v := 0) hx hb dX9_film_61 kI_0 ?_
            refine lv_istore (lv' := [(7, .int 0), (6, .int v9), (0, .ref a_t), (1, .int p0), (2, .int p1), (3, .int p2), (4, .int p3), (5, .int p4)]) hx hb dX9_film_62 hl (by decide) rfl (fun ls hl => ?_)
            obtain ⟨k18, hk18, h⟩ := kap (fun z => m_X9_film_L64 p0 p1 p2 p4 F z F 0 t_now t_items) h
            have J18 : ∀ (w15 : Nat → Int32) (w16 : Nat → Int64) (H : Heap) (locs : List Loc) (ls : Array Slot), va_P D vwCl [(a_t, .inr (9, [.ref a_t_now, g_t_tape, g_t_typed, g_t_place, g_t_isFault, g_t_readLaw, g_t_read, g_t_undone, g_t_undos, .ref a_t_aside, g_t_coat, g_t_bestCoats, g_t_bestStand, g_t_bestPaint, g_t_kept, g_t_keptUndos, g_t_isKept, .ref a_t_lanes, .ref a_t_sizes, .ref a_t_items, g_t_moved])), (a_t_now, .inl (cy 0, 24, .inl w15)), (a_t_aside, .inl (cy 0, 24, .inl v11)), (a_t_lanes, .inl (cy 0, 4, .inl t_lanes)), (a_t_sizes, .inl (cy 0, 4, .inl t_sizes)), (a_t_items, .inl (cy 2, 96, .inr (.inl w16)))] H → va_D A [(a_t, .inr (9, [.ref a_t_now, g_t_tape, g_t_typed, g_t_place, g_t_isFault, g_t_readLaw, g_t_read, g_t_undone, g_t_undos, .ref a_t_aside, g_t_coat, g_t_bestCoats, g_t_bestStand, g_t_bestPaint, g_t_kept, g_t_keptUndos, g_t_isKept, .ref a_t_lanes, .ref a_t_sizes, .ref a_t_items, g_t_moved])), (a_t_now, .inl (cy 0, 24, .inl w15)), (a_t_aside, .inl (cy 0, 24, .inl v11)), (a_t_lanes, .inl (cy 0, 4, .inl t_lanes)), (a_t_sizes, .inl (cy 0, 4, .inl t_sizes)), (a_t_items, .inl (cy 2, 96, .inr (.inl w16)))] → va_S A s.heap H locs → lv_has ls 8 [(0, .ref a_t), (2, .int p1)] → k18 w15 w16 = some out → W p l e (rmG 6 134) s m [.ref a_t, .int p0, .int p1, .int p2, .int p3, .int p4].toArray below meth c H locs 0 0 QQ (F0 m 102 ls []) := by
              intro w15 w16 H locs ls hP hD hS hl h
              rw [hk18] at h
              refine lv_aload_n hx hb dX9_film_102 rfl (lv_at hl 0 rfl) ?_
              obtain ⟨v17, hv17, h⟩ := bind_e h
              refine callMV (As := []) (rest := []) (wr := [(a_t_lanes, .inl (cy 0, 4, .inl t_lanes)), (a_t_sizes, .inl (cy 0, 4, .inl t_sizes)), (a_t_items, .inl (cy 2, 96, .inr (.inl w16)))]) (w2 := [(a_t, .inr (9, [.ref a_t_now, g_t_tape, g_t_typed, g_t_place, g_t_isFault, g_t_readLaw, g_t_read, g_t_undone, g_t_undos, .ref a_t_aside, g_t_coat, g_t_bestCoats, g_t_bestStand, g_t_bestPaint, g_t_kept, g_t_keptUndos, g_t_isKept, .ref a_t_lanes, .ref a_t_sizes, .ref a_t_items, g_t_moved])), (a_t_now, .inl (cy 0, 24, .inl v17)), (a_t_aside, .inl (cy 0, 24, .inl v11)), (a_t_lanes, .inl (cy 0, 4, .inl t_lanes)), (a_t_sizes, .inl (cy 0, 4, .inl t_sizes)), (a_t_items, .inl (cy 2, 96, .inr (.inl w16)))]) hx hb hml hown hg (c_X9_backs l D cy a_t a_t_now a_t_aside _ (g_t_tape) (g_t_typed) (g_t_place) (g_t_isFault) (g_t_readLaw) (g_t_read) (g_t_undone) (g_t_undos) (g_t_coat) (g_t_bestCoats) (g_t_bestStand) (g_t_bestPaint) (g_t_kept) (g_t_keptUndos) (g_t_isKept) (.ref a_t_lanes) (.ref a_t_sizes) (.ref a_t_items) (g_t_moved) w15 v11 F v17 hv17) q_1200 q_1197 q_63 q_1199 q_47 hd_X9_backs ⟨(Nat.le_of_ble_eq_true rfl), (Nat.le_of_ble_eq_true rfl)⟩ hK hP hD hS hA [0, 1, 2] [3, 4, 5] rfl rfl rfl rfl (by decide) [3, 4, 5, 0, 1, 2] rfl rfl 0 9 rfl rfl rfl rfl rfl rfl hl.1 rfl rfl (Nat.le_of_ble_eq_true rfl) dX9_film_103 (fun H locs hP hD hS => ?_)
              refine lv_iload_n hx hb dX9_film_106 rfl (lv_at hl 1 rfl) ?_
              exact hret _ _ _ _ ls 107 dX9_film_107 rfl (by rw [← Option.some.inj h]) (by rw [← Option.some.inj h]) hP hD hS
            have L19 : ∀ (n19 : Nat) (x12 : Int32) (w13 : Nat → Int32) (w14 : Nat → Int64) (H : Heap) (locs : List Loc) (ls : Array Slot), va_P D vwCl [(a_t, .inr (9, [.ref a_t_now, g_t_tape, g_t_typed, g_t_place, g_t_isFault, g_t_readLaw, g_t_read, g_t_undone, g_t_undos, .ref a_t_aside, g_t_coat, g_t_bestCoats, g_t_bestStand, g_t_bestPaint, g_t_kept, g_t_keptUndos, g_t_isKept, .ref a_t_lanes, .ref a_t_sizes, .ref a_t_items, g_t_moved])), (a_t_now, .inl (cy 0, 24, .inl w13)), (a_t_aside, .inl (cy 0, 24, .inl v11)), (a_t_lanes, .inl (cy 0, 4, .inl t_lanes)), (a_t_sizes, .inl (cy 0, 4, .inl t_sizes)), (a_t_items, .inl (cy 2, 96, .inr (.inl w14)))] H → va_D A [(a_t, .inr (9, [.ref a_t_now, g_t_tape, g_t_typed, g_t_place, g_t_isFault, g_t_readLaw, g_t_read, g_t_undone, g_t_undos, .ref a_t_aside, g_t_coat, g_t_bestCoats, g_t_bestStand, g_t_bestPaint, g_t_kept, g_t_keptUndos, g_t_isKept, .ref a_t_lanes, .ref a_t_sizes, .ref a_t_items, g_t_moved])), (a_t_now, .inl (cy 0, 24, .inl w13)), (a_t_aside, .inl (cy 0, 24, .inl v11)), (a_t_lanes, .inl (cy 0, 4, .inl t_lanes)), (a_t_sizes, .inl (cy 0, 4, .inl t_sizes)), (a_t_items, .inl (cy 2, 96, .inr (.inl w14)))] → va_S A s.heap H locs → lv_has ls 8 [(7, .int x12), (0, .ref a_t), (1, .int p0), (2, .int p1), (3, .int p2), (5, .int p4)] → m_X9_film_L64 p0 p1 p2 p4 F k18 n19 x12 w13 w14 = some out → W p l e (rmG 6 134) s m [.ref a_t, .int p0, .int p1, .int p2, .int p3, .int p4].toArray below meth c H locs 0 0 QQ (F0 m 64 ls []) := by
              intro n19
              induction n19 with
              | zero => intro x12 w13 w14 H locs ls hP hD hS hl h; exact nomatch (show (none : Option (Int32 × (Nat → Int32) × (Nat → Int32) × (Nat → Int64))) = some out from h)
              | succ n19 ih =>
                  intro x12 w13 w14 H locs ls hP hD hS hl h
                  have h : m_X9_film_L64s p0 p1 p2 p4 F k18 (m_X9_film_L64 p0 p1 p2 p4 F k18 n19) x12 w13 w14 = some out := h
                  unfold m_X9_film_L64s at h
                  refine lv_iload hx hb dX9_film_64 (lv_at hl 0 rfl) ?_
                  refine lv_iload_n hx hb dX9_film_66 rfl (lv_at hl 3 rfl) ?_
                  refine lv_icmp_ge (tgt := 102) hx hb dX9_film_67 (by decide) (fun c21 => ?_) (fun c21 => ?_)
                  · have h := it_t c21 h
                    exact J18 w13 w14 _ _ _ hP hD hS (lv_sub hl [1, 3] rfl) h
                  · have h := it_f c21 h
                    refine lv_aload_n hx hb dX9_film_70 rfl (lv_at hl 1 rfl) ?_
                    refine lv_iconst (v := 0) hx hb dX9_film_71 kI_0 ?_
                    obtain ⟨v22, hv22, h⟩ := bind_e h
                    refine callMV (As := [.int 0]) (rest := []) (wr := [(a_t_aside, .inl (cy 0, 24, .inl v11)), (a_t_lanes, .inl (cy 0, 4, .inl t_lanes)), (a_t_sizes, .inl (cy 0, 4, .inl t_sizes)), (a_t_items, .inl (cy 2, 96, .inr (.inl w14)))]) (w2 := [(a_t, .inr (9, [.ref a_t_now, g_t_tape, g_t_typed, g_t_place, g_t_isFault, g_t_readLaw, g_t_read, g_t_undone, g_t_undos, .ref a_t_aside, g_t_coat, g_t_bestCoats, g_t_bestStand, g_t_bestPaint, g_t_kept, g_t_keptUndos, g_t_isKept, .ref a_t_lanes, .ref a_t_sizes, .ref a_t_items, g_t_moved])), (a_t_now, .inl (cy 0, 24, .inl v22)), (a_t_aside, .inl (cy 0, 24, .inl v11)), (a_t_lanes, .inl (cy 0, 4, .inl t_lanes)), (a_t_sizes, .inl (cy 0, 4, .inl t_sizes)), (a_t_items, .inl (cy 2, 96, .inr (.inl w14)))]) hx hb hml hown hg (c_X9_goesBy l D cy a_t a_t_now _ (g_t_tape) (g_t_typed) (g_t_place) (g_t_isFault) (g_t_readLaw) (g_t_read) (g_t_undone) (g_t_undos) (.ref a_t_aside) (g_t_coat) (g_t_bestCoats) (g_t_bestStand) (g_t_bestPaint) (g_t_kept) (g_t_keptUndos) (g_t_isKept) (.ref a_t_lanes) (.ref a_t_sizes) (.ref a_t_items) (g_t_moved) w13 0 F v22 hv22) q_1148 q_1145 q_63 q_1147 q_42 hd_X9_goesBy ⟨(Nat.le_of_ble_eq_true rfl), (Nat.le_of_ble_eq_true rfl)⟩ hK hP hD hS hA [0, 1] [2, 3, 4, 5] rfl rfl rfl rfl (by decide) [4, 5, 0, 1, 2, 3] rfl rfl 0 9 rfl rfl rfl rfl rfl rfl hl.1 rfl rfl (Nat.le_of_ble_eq_true rfl) dX9_film_72 (fun H locs hP hD hS => ?_)
                    refine lv_aload_n hx hb dX9_film_75 rfl (lv_at hl 1 rfl) ?_
                    refine va_get (D := D) (ci := 9) (v := .ref a_t_items) (C := RX9) (T := TX9) (N := 21) hx hb hg inG_X9 hown hK hP 0 rfl rfl 19 (by decide) (hg _ q_964) (fun _ h9 => h9) rfl dX9_film_76 ?_
                    refine lv_bipush (v := 24) hx hb dX9_film_79 kB_24 ?_
                    refine lv_iload_n hx hb dX9_film_81 rfl (lv_at hl 4 rfl) ?_
                    refine lv_imul hx hb dX9_film_82 ?_
                    refine lv_iload hx hb dX9_film_83 (lv_at hl 5 rfl) ?_
                    refine lv_iadd hx hb dX9_film_85 ?_
                    refine lv_iload hx hb dX9_film_86 (lv_at hl 0 rfl) ?_
                    refine lv_iadd hx hb dX9_film_88 ?_
                    refine lv_aload_n hx hb dX9_film_89 rfl (lv_at hl 1 rfl) ?_
                    refine lv_iload_n hx hb dX9_film_90 rfl (lv_at hl 2 rfl) ?_
                    obtain ⟨v23, hv23, h⟩ := bind_e h
                    refine callRV (As := [.int p0]) (rest := [.int (((24 * p2) + p4) + x12), .ref a_t_items]) (v0 := .int v23) hx hb hml hown hg (c_X9_paintOf l D cy a_t a_t_now (g_t_tape) (g_t_typed) (g_t_place) (g_t_isFault) (g_t_readLaw) (g_t_read) (g_t_undone) (g_t_undos) (.ref a_t_aside) (g_t_coat) (g_t_bestCoats) (g_t_bestStand) (g_t_bestPaint) (g_t_kept) (g_t_keptUndos) (g_t_isKept) (.ref a_t_lanes) (.ref a_t_sizes) (.ref a_t_items) (g_t_moved) v22 p0 v23 hv23) q_1059 q_1056 q_63 q_1058 q_30 hd_X9_paintOf ⟨(Nat.le_of_ble_eq_true rfl), (Nat.le_of_ble_eq_true rfl)⟩ hK hP [0, 1] rfl 0 9 rfl rfl rfl rfl rfl rfl hl.1 rfl (Nat.le_of_ble_eq_true rfl) dX9_film_91 ?_
                    refine lv_i2l (v := v23.toInt64) hx hb dX9_film_94 rfl ?_
                    obtain ⟨hi24, h⟩ := chk_e h
                    refine va_last hx hb hK hP hD hS 5 2 rfl rfl hi24 dX9_film_95 (fun H locs hP hD hS => ?_)
                    have hP : va_P D vwCl [(a_t, .inr (9, [.ref a_t_now, g_t_tape, g_t_typed, g_t_place, g_t_isFault, g_t_readLaw, g_t_read, g_t_undone, g_t_undos, .ref a_t_aside, g_t_coat, g_t_bestCoats, g_t_bestStand, g_t_bestPaint, g_t_kept, g_t_keptUndos, g_t_isKept, .ref a_t_lanes, .ref a_t_sizes, .ref a_t_items, g_t_moved])), (a_t_now, .inl (cy 0, 24, .inl v22)), (a_t_aside, .inl (cy 0, 24, .inl v11)), (a_t_lanes, .inl (cy 0, 4, .inl t_lanes)), (a_t_sizes, .inl (cy 0, 4, .inl t_sizes)), (a_t_items, .inl (cy 2, 96, .inr (.inl (vp_updL w14 (((24 * p2) + p4) + x12).toNatClampNeg (v23.toInt64)))))] H := hP
                    have hD : va_D A [(a_t, .inr (9, [.ref a_t_now, g_t_tape, g_t_typed, g_t_place, g_t_isFault, g_t_readLaw, g_t_read, g_t_undone, g_t_undos, .ref a_t_aside, g_t_coat, g_t_bestCoats, g_t_bestStand, g_t_bestPaint, g_t_kept, g_t_keptUndos, g_t_isKept, .ref a_t_lanes, .ref a_t_sizes, .ref a_t_items, g_t_moved])), (a_t_now, .inl (cy 0, 24, .inl v22)), (a_t_aside, .inl (cy 0, 24, .inl v11)), (a_t_lanes, .inl (cy 0, 4, .inl t_lanes)), (a_t_sizes, .inl (cy 0, 4, .inl t_sizes)), (a_t_items, .inl (cy 2, 96, .inr (.inl (vp_updL w14 (((24 * p2) + p4) + x12).toNatClampNeg (v23.toInt64)))))] := hD
                    obtain ⟨x25, ex25⟩ : ∃ y : Int32, y = x12 + 1 := ⟨_, rfl⟩
                    have h := bnd_e ex25 h
                    refine lv_iinc (v := x25) (lv' := [(7, .int x25), (0, .ref a_t), (1, .int p0), (2, .int p1), (3, .int p2), (5, .int p4)]) hx hb dX9_film_96 hl (k := 0) rfl (inc_e kI_1 ex25) (by decide) rfl (fun ls hl => ?_)
                    refine lv_goto (tgt := 64) hx hb dX9_film_99 (by decide) ?_
                    exact ih x25 v22 (vp_updL w14 (((24 * p2) + p4) + x12).toNatClampNeg (v23.toInt64)) _ _ _ hP hD hS (lv_sub hl [0, 1, 2, 3, 4, 5] rfl) h
            exact L19 F 0 t_now t_items _ _ _ hP hD hS (lv_sub hl [0, 2, 3, 4, 5, 7] rfl) h
          · have h := it_f c10 h
            refine lv_iload hx hb dX9_film_54 (lv_at hl 0 rfl) ?_
            exact hret _ _ _ _ ls 56 dX9_film_56 rfl (by rw [← Option.some.inj h]) (by rw [← Option.some.inj h]) hP hD hS
        · have h := it_t c8 h
          refine lv_iconst (v := (-1)) hx hb dX9_film_35 kI_m1 ?_
          exact hret _ _ _ _ ls 36 dX9_film_36 rfl (by rw [← Option.some.inj h]) (by rw [← Option.some.inj h]) hP hD hS

def m_X9_sheet_L46s (p0 : Int32) (k12 : (Nat → Int64) → Option (Int32 × (Nat → Int32) × (Nat → Int32) × (Nat → Int64))) (r14 : Int32 → (Nat → Int64) → Option (Int32 × (Nat → Int32) × (Nat → Int32) × (Nat → Int64))) (x9 : Int32) (w10 : Nat → Int64) : Option (Int32 × (Nat → Int32) × (Nat → Int32) × (Nat → Int64)) := (if 24 ≤ x9 then k12 w10 else chk ((24 * p0) + x9) 96 (bnd (x9 + 1) (fun x17 => r14 x17 (vp_updL w10 ((24 * p0) + x9).toNatClampNeg 0))))
def m_X9_sheet_L46 (p0 : Int32) (k12 : (Nat → Int64) → Option (Int32 × (Nat → Int32) × (Nat → Int32) × (Nat → Int64))) : Nat → Int32 → (Nat → Int64) → Option (Int32 × (Nat → Int32) × (Nat → Int32) × (Nat → Int64))
  | 0 => fun _ _ => none
  | nF + 1 => m_X9_sheet_L46s p0 k12 (m_X9_sheet_L46 p0 k12 nF)
def m_X9_sheet (F : Nat) (t_lanes : Nat → Int32) (t_sizes : Nat → Int32) (t_items : Nat → Int64) (p0 : Int32) (p1 : Int32) (p2 : Int32) : Option (Int32 × (Nat → Int32) × (Nat → Int32) × (Nat → Int64)) := (m_X9_isSheet p0).bind (fun v1 => (if v1 = 0 then some ((-1), t_lanes, t_sizes, t_items) else (m_X9_isLane p1).bind (fun v3 => (if v3 = 0 then some ((-1), t_lanes, t_sizes, t_items) else (if p2 ≤ 24 then (if 0 ≤ p2 then chk p0 4 (chk p0 4 (m_X9_sheet_L46 p0 (fun (w11 : Nat → Int64) => some (p2, upd t_lanes p0.toNatClampNeg p1, upd t_sizes p0.toNatClampNeg p2, w11)) F 0 t_items)) else some ((-14), t_lanes, t_sizes, t_items)) else some ((-1), t_lanes, t_sizes, t_items))))))
set_option maxHeartbeats 4000000 in
set_option maxRecDepth 100000 in
theorem c_X9_sheet (l : Launch) (D : va_G) (cy : Nat → ClassId) (a_t : Nat) (a_t_lanes : Nat) (a_t_sizes : Nat) (a_t_items : Nat) (sz : Nat) (g_t_now : Value) (g_t_tape : Value) (g_t_typed : Value) (g_t_place : Value) (g_t_isFault : Value) (g_t_readLaw : Value) (g_t_read : Value) (g_t_undone : Value) (g_t_undos : Value) (g_t_aside : Value) (g_t_coat : Value) (g_t_bestCoats : Value) (g_t_bestStand : Value) (g_t_bestPaint : Value) (g_t_kept : Value) (g_t_keptUndos : Value) (g_t_isKept : Value) (g_t_moved : Value) (t_lanes : Nat → Int32) (t_sizes : Nat → Int32) (t_items : Nat → Int64) (p0 : Int32) (p1 : Int32) (p2 : Int32) (F : Nat) (out : Int32 × (Nat → Int32) × (Nat → Int32) × (Nat → Int64)) (h : m_X9_sheet F t_lanes t_sizes t_items p0 p1 p2 = some out) : MetM l D cy yX9_sheet cX9_sheet 5 (some .int) (rmG 2 45) [.ref a_t, .int p0, .int p1, .int p2] sz [(a_t, .inr (9, [g_t_now, g_t_tape, g_t_typed, g_t_place, g_t_isFault, g_t_readLaw, g_t_read, g_t_undone, g_t_undos, g_t_aside, g_t_coat, g_t_bestCoats, g_t_bestStand, g_t_bestPaint, g_t_kept, g_t_keptUndos, g_t_isKept, .ref a_t_lanes, .ref a_t_sizes, .ref a_t_items, g_t_moved])), (a_t_lanes, .inl (cy 0, 4, .inl t_lanes)), (a_t_sizes, .inl (cy 0, 4, .inl t_sizes)), (a_t_items, .inl (cy 2, 96, .inr (.inl t_items)))] (some (.int out.1)) [(a_t, .inr (9, [g_t_now, g_t_tape, g_t_typed, g_t_place, g_t_isFault, g_t_readLaw, g_t_read, g_t_undone, g_t_undos, g_t_aside, g_t_coat, g_t_bestCoats, g_t_bestStand, g_t_bestPaint, g_t_kept, g_t_keptUndos, g_t_isKept, .ref a_t_lanes, .ref a_t_sizes, .ref a_t_items, g_t_moved])), (a_t_lanes, .inl (cy 0, 4, .inl out.2.1)), (a_t_sizes, .inl (cy 0, 4, .inl out.2.2.1)), (a_t_items, .inl (cy 2, 96, .inr (.inl out.2.2.2)))] := by
  refine startMi (own := RX9) (by decide) rfl (Nat.le_of_ble_eq_true rfl) ?_
  intro p e s m below meth c QQ A hx hb hml hown hg hK hP hD hS hA hret ls hl
  have hl : lv_has ls 5 [(0, .ref a_t), (1, .int p0), (2, .int p1), (3, .int p2)] := hl
  unfold m_X9_sheet at h
  refine lv_iload_n hx hb dX9_sheet_0 rfl (lv_at hl 1 rfl) ?_
  obtain ⟨v1, hv1, h⟩ := bind_e h
  refine callRS (As := [.int p0]) (rest := []) (v0 := .int v1) hx hb hml hown hg (c_X9_isSheet l D cy p0 v1 hv1) q_1271 q_1269 q_63 q_1270 hd_X9_isSheet ⟨(Nat.le_of_ble_eq_true rfl), (Nat.le_of_ble_eq_true rfl)⟩ hK hP [] rfl rfl rfl rfl hl.1 rfl (Nat.le_of_ble_eq_true rfl) dX9_sheet_1 ?_
  refine lv_if_eq (tgt := 20) hx hb dX9_sheet_4 (by decide) (fun c2 => ?_) (fun c2 => ?_)
  · have h := it_t c2 h
    refine lv_iconst (v := (-1)) hx hb dX9_sheet_20 kI_m1 ?_
    exact hret _ _ _ _ ls 21 dX9_sheet_21 rfl (by rw [← Option.some.inj h]) (by rw [← Option.some.inj h]) hP hD hS
  · have h := it_f c2 h
    refine lv_iload_n hx hb dX9_sheet_7 rfl (lv_at hl 2 rfl) ?_
    obtain ⟨v3, hv3, h⟩ := bind_e h
    refine callRS (As := [.int p1]) (rest := []) (v0 := .int v3) hx hb hml hown hg (c_X9_isLane l D cy p1 v3 hv3) q_1275 q_1273 q_63 q_1274 hd_X9_isLane ⟨(Nat.le_of_ble_eq_true rfl), (Nat.le_of_ble_eq_true rfl)⟩ hK hP [] rfl rfl rfl rfl hl.1 rfl (Nat.le_of_ble_eq_true rfl) dX9_sheet_8 ?_
    refine lv_if_eq (tgt := 20) hx hb dX9_sheet_11 (by decide) (fun c4 => ?_) (fun c4 => ?_)
    · have h := it_t c4 h
      refine lv_iconst (v := (-1)) hx hb dX9_sheet_20 kI_m1 ?_
      exact hret _ _ _ _ ls 21 dX9_sheet_21 rfl (by rw [← Option.some.inj h]) (by rw [← Option.some.inj h]) hP hD hS
    · have h := it_f c4 h
      refine lv_iload_n hx hb dX9_sheet_14 rfl (lv_at hl 3 rfl) ?_
      refine lv_bipush (v := 24) hx hb dX9_sheet_15 kB_24 ?_
      refine lv_icmp_le (tgt := 22) hx hb dX9_sheet_17 (by decide) (fun c5 => ?_) (fun c5 => ?_)
      · have h := it_t c5 h
        refine lv_iload_n hx hb dX9_sheet_22 rfl (lv_at hl 3 rfl) ?_
        refine lv_if_ge (tgt := 29) hx hb dX9_sheet_23 (by decide) (fun c6 => ?_) (fun c6 => ?_)
        · have h := it_t c6 h
          refine lv_aload_n hx hb dX9_sheet_29 rfl (lv_at hl 0 rfl) ?_
          refine va_get (D := D) (ci := 9) (v := .ref a_t_lanes) (C := RX9) (T := TX9) (N := 21) hx hb hg inG_X9 hown hK hP 0 rfl rfl 17 (by decide) (hg _ q_962) (fun _ h9 => h9) rfl dX9_sheet_30 ?_
          refine lv_iload_n hx hb dX9_sheet_33 rfl (lv_at hl 1 rfl) ?_
          refine lv_iload_n hx hb dX9_sheet_34 rfl (lv_at hl 2 rfl) ?_
          obtain ⟨hi7, h⟩ := chk_e h
          refine va_iast hx hb hK hP hD hS 1 0 rfl rfl hi7 dX9_sheet_35 (fun H locs hP hD hS => ?_)
          have hP : va_P D vwCl [(a_t, .inr (9, [g_t_now, g_t_tape, g_t_typed, g_t_place, g_t_isFault, g_t_readLaw, g_t_read, g_t_undone, g_t_undos, g_t_aside, g_t_coat, g_t_bestCoats, g_t_bestStand, g_t_bestPaint, g_t_kept, g_t_keptUndos, g_t_isKept, .ref a_t_lanes, .ref a_t_sizes, .ref a_t_items, g_t_moved])), (a_t_lanes, .inl (cy 0, 4, .inl (upd t_lanes p0.toNatClampNeg p1))), (a_t_sizes, .inl (cy 0, 4, .inl t_sizes)), (a_t_items, .inl (cy 2, 96, .inr (.inl t_items)))] H := hP
          have hD : va_D A [(a_t, .inr (9, [g_t_now, g_t_tape, g_t_typed, g_t_place, g_t_isFault, g_t_readLaw, g_t_read, g_t_undone, g_t_undos, g_t_aside, g_t_coat, g_t_bestCoats, g_t_bestStand, g_t_bestPaint, g_t_kept, g_t_keptUndos, g_t_isKept, .ref a_t_lanes, .ref a_t_sizes, .ref a_t_items, g_t_moved])), (a_t_lanes, .inl (cy 0, 4, .inl (upd t_lanes p0.toNatClampNeg p1))), (a_t_sizes, .inl (cy 0, 4, .inl t_sizes)), (a_t_items, .inl (cy 2, 96, .inr (.inl t_items)))] := hD
          refine lv_aload_n hx hb dX9_sheet_36 rfl (lv_at hl 0 rfl) ?_
          refine va_get (D := D) (ci := 9) (v := .ref a_t_sizes) (C := RX9) (T := TX9) (N := 21) hx hb hg inG_X9 hown hK hP 0 rfl rfl 18 (by decide) (hg _ q_963) (fun _ h9 => h9) rfl dX9_sheet_37 ?_
          refine lv_iload_n hx hb dX9_sheet_40 rfl (lv_at hl 1 rfl) ?_
          refine lv_iload_n hx hb dX9_sheet_41 rfl (lv_at hl 3 rfl) ?_
          obtain ⟨hi8, h⟩ := chk_e h
          refine va_iast hx hb hK hP hD hS 2 0 rfl rfl hi8 dX9_sheet_42 (fun H locs hP hD hS => ?_)
          have hP : va_P D vwCl [(a_t, .inr (9, [g_t_now, g_t_tape, g_t_typed, g_t_place, g_t_isFault, g_t_readLaw, g_t_read, g_t_undone, g_t_undos, g_t_aside, g_t_coat, g_t_bestCoats, g_t_bestStand, g_t_bestPaint, g_t_kept, g_t_keptUndos, g_t_isKept, .ref a_t_lanes, .ref a_t_sizes, .ref a_t_items, g_t_moved])), (a_t_lanes, .inl (cy 0, 4, .inl (upd t_lanes p0.toNatClampNeg p1))), (a_t_sizes, .inl (cy 0, 4, .inl (upd t_sizes p0.toNatClampNeg p2))), (a_t_items, .inl (cy 2, 96, .inr (.inl t_items)))] H := hP
          have hD : va_D A [(a_t, .inr (9, [g_t_now, g_t_tape, g_t_typed, g_t_place, g_t_isFault, g_t_readLaw, g_t_read, g_t_undone, g_t_undos, g_t_aside, g_t_coat, g_t_bestCoats, g_t_bestStand, g_t_bestPaint, g_t_kept, g_t_keptUndos, g_t_isKept, .ref a_t_lanes, .ref a_t_sizes, .ref a_t_items, g_t_moved])), (a_t_lanes, .inl (cy 0, 4, .inl (upd t_lanes p0.toNatClampNeg p1))), (a_t_sizes, .inl (cy 0, 4, .inl (upd t_sizes p0.toNatClampNeg p2))), (a_t_items, .inl (cy 2, 96, .inr (.inl t_items)))] := hD
          refine lv_iconst (v := 0) hx hb dX9_sheet_43 kI_0 ?_
          refine lv_istore (lv' := [(4, .int 0), (0, .ref a_t), (1, .int p0), (2, .int p1), (3, .int p2)]) hx hb dX9_sheet_44 hl (by decide) rfl (fun ls hl => ?_)
          obtain ⟨k12, hk12, h⟩ := kap (fun z => m_X9_sheet_L46 p0 z F 0 t_items) h
          have J12 : ∀ (w11 : Nat → Int64) (H : Heap) (locs : List Loc) (ls : Array Slot), va_P D vwCl [(a_t, .inr (9, [g_t_now, g_t_tape, g_t_typed, g_t_place, g_t_isFault, g_t_readLaw, g_t_read, g_t_undone, g_t_undos, g_t_aside, g_t_coat, g_t_bestCoats, g_t_bestStand, g_t_bestPaint, g_t_kept, g_t_keptUndos, g_t_isKept, .ref a_t_lanes, .ref a_t_sizes, .ref a_t_items, g_t_moved])), (a_t_lanes, .inl (cy 0, 4, .inl (upd t_lanes p0.toNatClampNeg p1))), (a_t_sizes, .inl (cy 0, 4, .inl (upd t_sizes p0.toNatClampNeg p2))), (a_t_items, .inl (cy 2, 96, .inr (.inl w11)))] H → va_D A [(a_t, .inr (9, [g_t_now, g_t_tape, g_t_typed, g_t_place, g_t_isFault, g_t_readLaw, g_t_read, g_t_undone, g_t_undos, g_t_aside, g_t_coat, g_t_bestCoats, g_t_bestStand, g_t_bestPaint, g_t_kept, g_t_keptUndos, g_t_isKept, .ref a_t_lanes, .ref a_t_sizes, .ref a_t_items, g_t_moved])), (a_t_lanes, .inl (cy 0, 4, .inl (upd t_lanes p0.toNatClampNeg p1))), (a_t_sizes, .inl (cy 0, 4, .inl (upd t_sizes p0.toNatClampNeg p2))), (a_t_items, .inl (cy 2, 96, .inr (.inl w11)))] → va_S A s.heap H locs → lv_has ls 5 [(3, .int p2)] → k12 w11 = some out → W p l e (rmG 2 45) s m [.ref a_t, .int p0, .int p1, .int p2].toArray below meth c H locs 0 0 QQ (F0 m 72 ls []) := by
            intro w11 H locs ls hP hD hS hl h
            rw [hk12] at h
            refine lv_iload_n hx hb dX9_sheet_72 rfl (lv_at hl 0 rfl) ?_
            exact hret _ _ _ _ ls 73 dX9_sheet_73 rfl (by rw [← Option.some.inj h]) (by rw [← Option.some.inj h]) hP hD hS
          have L13 : ∀ (n13 : Nat) (x9 : Int32) (w10 : Nat → Int64) (H : Heap) (locs : List Loc) (ls : Array Slot), va_P D vwCl [(a_t, .inr (9, [g_t_now, g_t_tape, g_t_typed, g_t_place, g_t_isFault, g_t_readLaw, g_t_read, g_t_undone, g_t_undos, g_t_aside, g_t_coat, g_t_bestCoats, g_t_bestStand, g_t_bestPaint, g_t_kept, g_t_keptUndos, g_t_isKept, .ref a_t_lanes, .ref a_t_sizes, .ref a_t_items, g_t_moved])), (a_t_lanes, .inl (cy 0, 4, .inl (upd t_lanes p0.toNatClampNeg p1))), (a_t_sizes, .inl (cy 0, 4, .inl (upd t_sizes p0.toNatClampNeg p2))), (a_t_items, .inl (cy 2, 96, .inr (.inl w10)))] H → va_D A [(a_t, .inr (9, [g_t_now, g_t_tape, g_t_typed, g_t_place, g_t_isFault, g_t_readLaw, g_t_read, g_t_undone, g_t_undos, g_t_aside, g_t_coat, g_t_bestCoats, g_t_bestStand, g_t_bestPaint, g_t_kept, g_t_keptUndos, g_t_isKept, .ref a_t_lanes, .ref a_t_sizes, .ref a_t_items, g_t_moved])), (a_t_lanes, .inl (cy 0, 4, .inl (upd t_lanes p0.toNatClampNeg p1))), (a_t_sizes, .inl (cy 0, 4, .inl (upd t_sizes p0.toNatClampNeg p2))), (a_t_items, .inl (cy 2, 96, .inr (.inl w10)))] → va_S A s.heap H locs → lv_has ls 5 [(4, .int x9), (0, .ref a_t), (1, .int p0), (3, .int p2)] → m_X9_sheet_L46 p0 k12 n13 x9 w10 = some out → W p l e (rmG 2 45) s m [.ref a_t, .int p0, .int p1, .int p2].toArray below meth c H locs 0 0 QQ (F0 m 46 ls []) := by
            intro n13
            induction n13 with
            | zero => intro x9 w10 H locs ls hP hD hS hl h; exact nomatch (show (none : Option (Int32 × (Nat → Int32) × (Nat → Int32) × (Nat → Int64))) = some out from h)
            | succ n13 ih =>
                intro x9 w10 H locs ls hP hD hS hl h
                have h : m_X9_sheet_L46s p0 k12 (m_X9_sheet_L46 p0 k12 n13) x9 w10 = some out := h
                unfold m_X9_sheet_L46s at h
                refine lv_iload hx hb dX9_sheet_46 (lv_at hl 0 rfl) ?_
                refine lv_bipush (v := 24) hx hb dX9_sheet_48 kB_24 ?_
                refine lv_icmp_ge (tgt := 72) hx hb dX9_sheet_50 (by decide) (fun c15 => ?_) (fun c15 => ?_)
                · have h := it_t c15 h
                  exact J12 w10 _ _ _ hP hD hS (lv_sub hl [3] rfl) h
                · have h := it_f c15 h
                  refine lv_aload_n hx hb dX9_sheet_53 rfl (lv_at hl 1 rfl) ?_
                  refine va_get (D := D) (ci := 9) (v := .ref a_t_items) (C := RX9) (T := TX9) (N := 21) hx hb hg inG_X9 hown hK hP 0 rfl rfl 19 (by decide) (hg _ q_964) (fun _ h9 => h9) rfl dX9_sheet_54 ?_
                  refine lv_bipush (v := 24) hx hb dX9_sheet_57 kB_24 ?_
                  refine lv_iload_n hx hb dX9_sheet_59 rfl (lv_at hl 2 rfl) ?_
                  refine lv_imul hx hb dX9_sheet_60 ?_
                  refine lv_iload hx hb dX9_sheet_61 (lv_at hl 0 rfl) ?_
                  refine lv_iadd hx hb dX9_sheet_63 ?_
                  refine lv_lconst (v := 0) hx hb dX9_sheet_64 kL_0 ?_
                  obtain ⟨hi16, h⟩ := chk_e h
                  refine va_last hx hb hK hP hD hS 3 2 rfl rfl hi16 dX9_sheet_65 (fun H locs hP hD hS => ?_)
                  have hP : va_P D vwCl [(a_t, .inr (9, [g_t_now, g_t_tape, g_t_typed, g_t_place, g_t_isFault, g_t_readLaw, g_t_read, g_t_undone, g_t_undos, g_t_aside, g_t_coat, g_t_bestCoats, g_t_bestStand, g_t_bestPaint, g_t_kept, g_t_keptUndos, g_t_isKept, .ref a_t_lanes, .ref a_t_sizes, .ref a_t_items, g_t_moved])), (a_t_lanes, .inl (cy 0, 4, .inl (upd t_lanes p0.toNatClampNeg p1))), (a_t_sizes, .inl (cy 0, 4, .inl (upd t_sizes p0.toNatClampNeg p2))), (a_t_items, .inl (cy 2, 96, .inr (.inl (vp_updL w10 ((24 * p0) + x9).toNatClampNeg 0))))] H := hP
                  have hD : va_D A [(a_t, .inr (9, [g_t_now, g_t_tape, g_t_typed, g_t_place, g_t_isFault, g_t_readLaw, g_t_read, g_t_undone, g_t_undos, g_t_aside, g_t_coat, g_t_bestCoats, g_t_bestStand, g_t_bestPaint, g_t_kept, g_t_keptUndos, g_t_isKept, .ref a_t_lanes, .ref a_t_sizes, .ref a_t_items, g_t_moved])), (a_t_lanes, .inl (cy 0, 4, .inl (upd t_lanes p0.toNatClampNeg p1))), (a_t_sizes, .inl (cy 0, 4, .inl (upd t_sizes p0.toNatClampNeg p2))), (a_t_items, .inl (cy 2, 96, .inr (.inl (vp_updL w10 ((24 * p0) + x9).toNatClampNeg 0))))] := hD
                  obtain ⟨x17, ex17⟩ : ∃ y : Int32, y = x9 + 1 := ⟨_, rfl⟩
                  have h := bnd_e ex17 h
                  refine lv_iinc (v := x17) (lv' := [(4, .int x17), (0, .ref a_t), (1, .int p0), (3, .int p2)]) hx hb dX9_sheet_66 hl (k := 0) rfl (inc_e kI_1 ex17) (by decide) rfl (fun ls hl => ?_)
                  refine lv_goto (tgt := 46) hx hb dX9_sheet_69 (by decide) ?_
                  exact ih x17 (vp_updL w10 ((24 * p0) + x9).toNatClampNeg 0) _ _ _ hP hD hS (lv_sub hl [0, 1, 2, 3] rfl) h
          exact L13 F 0 t_items _ _ _ hP hD hS (lv_sub hl [0, 1, 2, 4] rfl) h
        · have h := it_f c6 h
          refine lv_bipush (v := (-14)) hx hb dX9_sheet_26 kB_m14 ?_
          exact hret _ _ _ _ ls 28 dX9_sheet_28 rfl (by rw [← Option.some.inj h]) (by rw [← Option.some.inj h]) hP hD hS
      · have h := it_f c5 h
        refine lv_iconst (v := (-1)) hx hb dX9_sheet_20 kI_m1 ?_
        exact hret _ _ _ _ ls 21 dX9_sheet_21 rfl (by rw [← Option.some.inj h]) (by rw [← Option.some.inj h]) hP hD hS

def m_X9_drop (t_lanes : Nat → Int32) (t_sizes : Nat → Int32) (p0 : Int32) : Option (Int32 × (Nat → Int32)) := (m_X9_isSheet p0).bind (fun v1 => (if v1 = 0 then some ((-1), t_lanes) else chk p0 4 ((if 0 ≤ (t_lanes p0.toNatClampNeg) then chk p0 4 (chk p0 4 (some (t_sizes p0.toNatClampNeg, upd t_lanes p0.toNatClampNeg (-1)))) else some ((-11), t_lanes)))))
set_option maxHeartbeats 4000000 in
set_option maxRecDepth 100000 in
theorem c_X9_drop (l : Launch) (D : va_G) (cy : Nat → ClassId) (a_t : Nat) (a_t_lanes : Nat) (a_t_sizes : Nat) (sz : Nat) (g_t_now : Value) (g_t_tape : Value) (g_t_typed : Value) (g_t_place : Value) (g_t_isFault : Value) (g_t_readLaw : Value) (g_t_read : Value) (g_t_undone : Value) (g_t_undos : Value) (g_t_aside : Value) (g_t_coat : Value) (g_t_bestCoats : Value) (g_t_bestStand : Value) (g_t_bestPaint : Value) (g_t_kept : Value) (g_t_keptUndos : Value) (g_t_isKept : Value) (g_t_items : Value) (g_t_moved : Value) (t_lanes : Nat → Int32) (t_sizes : Nat → Int32) (p0 : Int32) (out : Int32 × (Nat → Int32)) (h : m_X9_drop t_lanes t_sizes p0 = some out) : MetM l D cy yX9_drop cX9_drop 2 (some .int) (rmG 2 45) [.ref a_t, .int p0] sz [(a_t, .inr (9, [g_t_now, g_t_tape, g_t_typed, g_t_place, g_t_isFault, g_t_readLaw, g_t_read, g_t_undone, g_t_undos, g_t_aside, g_t_coat, g_t_bestCoats, g_t_bestStand, g_t_bestPaint, g_t_kept, g_t_keptUndos, g_t_isKept, .ref a_t_lanes, .ref a_t_sizes, g_t_items, g_t_moved])), (a_t_lanes, .inl (cy 0, 4, .inl t_lanes)), (a_t_sizes, .inl (cy 0, 4, .inl t_sizes))] (some (.int out.1)) [(a_t, .inr (9, [g_t_now, g_t_tape, g_t_typed, g_t_place, g_t_isFault, g_t_readLaw, g_t_read, g_t_undone, g_t_undos, g_t_aside, g_t_coat, g_t_bestCoats, g_t_bestStand, g_t_bestPaint, g_t_kept, g_t_keptUndos, g_t_isKept, .ref a_t_lanes, .ref a_t_sizes, g_t_items, g_t_moved])), (a_t_lanes, .inl (cy 0, 4, .inl out.2)), (a_t_sizes, .inl (cy 0, 4, .inl t_sizes))] := by
  refine startMi (own := RX9) (by decide) rfl (Nat.le_of_ble_eq_true rfl) ?_
  intro p e s m below meth c QQ A hx hb hml hown hg hK hP hD hS hA hret ls hl
  have hl : lv_has ls 2 [(0, .ref a_t), (1, .int p0)] := hl
  unfold m_X9_drop at h
  refine lv_iload_n hx hb dX9_drop_0 rfl (lv_at hl 1 rfl) ?_
  obtain ⟨v1, hv1, h⟩ := bind_e h
  refine callRS (As := [.int p0]) (rest := []) (v0 := .int v1) hx hb hml hown hg (c_X9_isSheet l D cy p0 v1 hv1) q_1271 q_1269 q_63 q_1270 hd_X9_isSheet ⟨(Nat.le_of_ble_eq_true rfl), (Nat.le_of_ble_eq_true rfl)⟩ hK hP [] rfl rfl rfl rfl hl.1 rfl (Nat.le_of_ble_eq_true rfl) dX9_drop_1 ?_
  refine lv_if_ne (tgt := 9) hx hb dX9_drop_4 (by decide) (fun c2 => ?_) (fun c2 => ?_)
  · have h := it_f c2 h
    refine lv_aload_n hx hb dX9_drop_9 rfl (lv_at hl 0 rfl) ?_
    refine va_get (D := D) (ci := 9) (v := .ref a_t_lanes) (C := RX9) (T := TX9) (N := 21) hx hb hg inG_X9 hown hK hP 0 rfl rfl 17 (by decide) (hg _ q_962) (fun _ h9 => h9) rfl dX9_drop_10 ?_
    refine lv_iload_n hx hb dX9_drop_13 rfl (lv_at hl 1 rfl) ?_
    obtain ⟨hi3, h⟩ := chk_e h
    refine va_iald hx hb hK hP 1 0 rfl rfl hi3 dX9_drop_14 ?_
    refine lv_if_ge (tgt := 21) hx hb dX9_drop_15 (by decide) (fun c4 => ?_) (fun c4 => ?_)
    · have h := it_t c4 h
      refine lv_aload_n hx hb dX9_drop_21 rfl (lv_at hl 0 rfl) ?_
      refine va_get (D := D) (ci := 9) (v := .ref a_t_lanes) (C := RX9) (T := TX9) (N := 21) hx hb hg inG_X9 hown hK hP 0 rfl rfl 17 (by decide) (hg _ q_962) (fun _ h9 => h9) rfl dX9_drop_22 ?_
      refine lv_iload_n hx hb dX9_drop_25 rfl (lv_at hl 1 rfl) ?_
      refine lv_iconst (v := (-1)) hx hb dX9_drop_26 kI_m1 ?_
      obtain ⟨hi5, h⟩ := chk_e h
      refine va_iast hx hb hK hP hD hS 1 0 rfl rfl hi5 dX9_drop_27 (fun H locs hP hD hS => ?_)
      have hP : va_P D vwCl [(a_t, .inr (9, [g_t_now, g_t_tape, g_t_typed, g_t_place, g_t_isFault, g_t_readLaw, g_t_read, g_t_undone, g_t_undos, g_t_aside, g_t_coat, g_t_bestCoats, g_t_bestStand, g_t_bestPaint, g_t_kept, g_t_keptUndos, g_t_isKept, .ref a_t_lanes, .ref a_t_sizes, g_t_items, g_t_moved])), (a_t_lanes, .inl (cy 0, 4, .inl (upd t_lanes p0.toNatClampNeg (-1)))), (a_t_sizes, .inl (cy 0, 4, .inl t_sizes))] H := hP
      have hD : va_D A [(a_t, .inr (9, [g_t_now, g_t_tape, g_t_typed, g_t_place, g_t_isFault, g_t_readLaw, g_t_read, g_t_undone, g_t_undos, g_t_aside, g_t_coat, g_t_bestCoats, g_t_bestStand, g_t_bestPaint, g_t_kept, g_t_keptUndos, g_t_isKept, .ref a_t_lanes, .ref a_t_sizes, g_t_items, g_t_moved])), (a_t_lanes, .inl (cy 0, 4, .inl (upd t_lanes p0.toNatClampNeg (-1)))), (a_t_sizes, .inl (cy 0, 4, .inl t_sizes))] := hD
      refine lv_aload_n hx hb dX9_drop_28 rfl (lv_at hl 0 rfl) ?_
      refine va_get (D := D) (ci := 9) (v := .ref a_t_sizes) (C := RX9) (T := TX9) (N := 21) hx hb hg inG_X9 hown hK hP 0 rfl rfl 18 (by decide) (hg _ q_963) (fun _ h9 => h9) rfl dX9_drop_29 ?_
      refine lv_iload_n hx hb dX9_drop_32 rfl (lv_at hl 1 rfl) ?_
      obtain ⟨hi6, h⟩ := chk_e h
      refine va_iald hx hb hK hP 2 0 rfl rfl hi6 dX9_drop_33 ?_
      exact hret _ _ _ _ ls 34 dX9_drop_34 rfl (by rw [← Option.some.inj h]) (by rw [← Option.some.inj h]) hP hD hS
    · have h := it_f c4 h
      refine lv_bipush (v := (-11)) hx hb dX9_drop_18 kB_m11 ?_
      exact hret _ _ _ _ ls 20 dX9_drop_20 rfl (by rw [← Option.some.inj h]) (by rw [← Option.some.inj h]) hP hD hS
  · have h := it_t c2 h
    refine lv_iconst (v := (-1)) hx hb dX9_drop_7 kI_m1 ?_
    exact hret _ _ _ _ ls 8 dX9_drop_8 rfl (by rw [← Option.some.inj h]) (by rw [← Option.some.inj h]) hP hD hS

def m_X9_item (t_lanes : Nat → Int32) (t_sizes : Nat → Int32) (t_items : Nat → Int64) (p0 : Int32) (p1 : Int32) (p2 : Int32) (p3 : Int64) : Option (Int32 × (Nat → Int64)) := (m_X9_isSheet p0).bind (fun v1 => (if v1 = 0 then some ((-1), t_items) else (m_X9_isLane p1).bind (fun v3 => (if v3 = 0 then some ((-1), t_items) else (m_X9_why t_lanes t_sizes p0 p1 p2 1).bind (fun v5 => (if 0 ≤ v5 then (if p1 = 0 then chk ((24 * p0) + p2) 96 (some (1, vp_updL t_items ((24 * p0) + p2).toNatClampNeg (((p3.toInt32).toInt8.toInt32).toInt64))) else (if p1 = 1 then chk ((24 * p0) + p2) 96 (some (1, vp_updL t_items ((24 * p0) + p2).toNatClampNeg (((p3.toInt32).toInt16.toInt32).toInt64))) else (if p1 = 2 then chk ((24 * p0) + p2) 96 (some (1, vp_updL t_items ((24 * p0) + p2).toNatClampNeg ((p3.toInt32).toInt64))) else chk ((24 * p0) + p2) 96 (some (1, vp_updL t_items ((24 * p0) + p2).toNatClampNeg p3))))) else some (v5, t_items)))))))
set_option maxHeartbeats 4000000 in
set_option maxRecDepth 100000 in
theorem c_X9_item (l : Launch) (D : va_G) (cy : Nat → ClassId) (a_t : Nat) (a_t_lanes : Nat) (a_t_sizes : Nat) (a_t_items : Nat) (sz : Nat) (g_t_now : Value) (g_t_tape : Value) (g_t_typed : Value) (g_t_place : Value) (g_t_isFault : Value) (g_t_readLaw : Value) (g_t_read : Value) (g_t_undone : Value) (g_t_undos : Value) (g_t_aside : Value) (g_t_coat : Value) (g_t_bestCoats : Value) (g_t_bestStand : Value) (g_t_bestPaint : Value) (g_t_kept : Value) (g_t_keptUndos : Value) (g_t_isKept : Value) (g_t_moved : Value) (t_lanes : Nat → Int32) (t_sizes : Nat → Int32) (t_items : Nat → Int64) (p0 : Int32) (p1 : Int32) (p2 : Int32) (p3 : Int64) (out : Int32 × (Nat → Int64)) (h : m_X9_item t_lanes t_sizes t_items p0 p1 p2 p3 = some out) : MetM l D cy yX9_item cX9_item 7 (some .int) (rmG 2 45) [.ref a_t, .int p0, .int p1, .int p2, .long p3] sz [(a_t, .inr (9, [g_t_now, g_t_tape, g_t_typed, g_t_place, g_t_isFault, g_t_readLaw, g_t_read, g_t_undone, g_t_undos, g_t_aside, g_t_coat, g_t_bestCoats, g_t_bestStand, g_t_bestPaint, g_t_kept, g_t_keptUndos, g_t_isKept, .ref a_t_lanes, .ref a_t_sizes, .ref a_t_items, g_t_moved])), (a_t_lanes, .inl (cy 0, 4, .inl t_lanes)), (a_t_sizes, .inl (cy 0, 4, .inl t_sizes)), (a_t_items, .inl (cy 2, 96, .inr (.inl t_items)))] (some (.int out.1)) [(a_t, .inr (9, [g_t_now, g_t_tape, g_t_typed, g_t_place, g_t_isFault, g_t_readLaw, g_t_read, g_t_undone, g_t_undos, g_t_aside, g_t_coat, g_t_bestCoats, g_t_bestStand, g_t_bestPaint, g_t_kept, g_t_keptUndos, g_t_isKept, .ref a_t_lanes, .ref a_t_sizes, .ref a_t_items, g_t_moved])), (a_t_lanes, .inl (cy 0, 4, .inl t_lanes)), (a_t_sizes, .inl (cy 0, 4, .inl t_sizes)), (a_t_items, .inl (cy 2, 96, .inr (.inl out.2)))] := by
  refine startMi (own := RX9) (by decide) rfl (Nat.le_of_ble_eq_true rfl) ?_
  intro p e s m below meth c QQ A hx hb hml hown hg hK hP hD hS hA hret ls hl
  have hl : lv_has ls 7 [(0, .ref a_t), (1, .int p0), (2, .int p1), (3, .int p2), (4, .long p3)] := hl
  unfold m_X9_item at h
  refine lv_iload_n hx hb dX9_item_0 rfl (lv_at hl 1 rfl) ?_
  obtain ⟨v1, hv1, h⟩ := bind_e h
  refine callRS (As := [.int p0]) (rest := []) (v0 := .int v1) hx hb hml hown hg (c_X9_isSheet l D cy p0 v1 hv1) q_1271 q_1269 q_63 q_1270 hd_X9_isSheet ⟨(Nat.le_of_ble_eq_true rfl), (Nat.le_of_ble_eq_true rfl)⟩ hK hP [] rfl rfl rfl rfl hl.1 rfl (Nat.le_of_ble_eq_true rfl) dX9_item_1 ?_
  refine lv_if_eq (tgt := 14) hx hb dX9_item_4 (by decide) (fun c2 => ?_) (fun c2 => ?_)
  · have h := it_t c2 h
    refine lv_iconst (v := (-1)) hx hb dX9_item_14 kI_m1 ?_
    exact hret _ _ _ _ ls 15 dX9_item_15 rfl (by rw [← Option.some.inj h]) (by rw [← Option.some.inj h]) hP hD hS
  · have h := it_f c2 h
    refine lv_iload_n hx hb dX9_item_7 rfl (lv_at hl 2 rfl) ?_
    obtain ⟨v3, hv3, h⟩ := bind_e h
    refine callRS (As := [.int p1]) (rest := []) (v0 := .int v3) hx hb hml hown hg (c_X9_isLane l D cy p1 v3 hv3) q_1275 q_1273 q_63 q_1274 hd_X9_isLane ⟨(Nat.le_of_ble_eq_true rfl), (Nat.le_of_ble_eq_true rfl)⟩ hK hP [] rfl rfl rfl rfl hl.1 rfl (Nat.le_of_ble_eq_true rfl) dX9_item_8 ?_
    refine lv_if_ne (tgt := 16) hx hb dX9_item_11 (by decide) (fun c4 => ?_) (fun c4 => ?_)
    · have h := it_f c4 h
      refine lv_aload_n hx hb dX9_item_16 rfl (lv_at hl 0 rfl) ?_
      refine lv_iload_n hx hb dX9_item_17 rfl (lv_at hl 1 rfl) ?_
      refine lv_iload_n hx hb dX9_item_18 rfl (lv_at hl 2 rfl) ?_
      refine lv_iload_n hx hb dX9_item_19 rfl (lv_at hl 3 rfl) ?_
      refine lv_iconst (v := 1) hx hb dX9_item_20 kI_1 ?_
      obtain ⟨v5, hv5, h⟩ := bind_e h
      refine callRV (As := [.int p0, .int p1, .int p2, .int 1]) (rest := []) (v0 := .int v5) hx hb hml hown hg (c_X9_why l D cy a_t a_t_lanes a_t_sizes (g_t_now) (g_t_tape) (g_t_typed) (g_t_place) (g_t_isFault) (g_t_readLaw) (g_t_read) (g_t_undone) (g_t_undos) (g_t_aside) (g_t_coat) (g_t_bestCoats) (g_t_bestStand) (g_t_bestPaint) (g_t_kept) (g_t_keptUndos) (g_t_isKept) (.ref a_t_items) (g_t_moved) t_lanes t_sizes p0 p1 p2 1 v5 hv5) q_1279 q_1276 q_63 q_1278 q_51 hd_X9_why ⟨(Nat.le_of_ble_eq_true rfl), (Nat.le_of_ble_eq_true rfl)⟩ hK hP [0, 1, 2] rfl 0 9 rfl rfl rfl rfl rfl rfl hl.1 rfl (Nat.le_of_ble_eq_true rfl) dX9_item_21 ?_
      refine lv_istore (lv' := [(6, .int v5), (0, .ref a_t), (1, .int p0), (2, .int p1), (3, .int p2), (4, .long p3)]) hx hb dX9_item_24 hl (by decide) rfl (fun ls hl => ?_)
      refine lv_iload hx hb dX9_item_26 (lv_at hl 0 rfl) ?_
      refine lv_if_ge (tgt := 34) hx hb dX9_item_28 (by decide) (fun c6 => ?_) (fun c6 => ?_)
      · have h := it_t c6 h
        refine lv_aload_n hx hb dX9_item_34 rfl (lv_at hl 1 rfl) ?_
        refine va_get (D := D) (ci := 9) (v := .ref a_t_items) (C := RX9) (T := TX9) (N := 21) hx hb hg inG_X9 hown hK hP 0 rfl rfl 19 (by decide) (hg _ q_964) (fun _ h9 => h9) rfl dX9_item_35 ?_
        refine lv_bipush (v := 24) hx hb dX9_item_38 kB_24 ?_
        refine lv_iload_n hx hb dX9_item_40 rfl (lv_at hl 2 rfl) ?_
        refine lv_imul hx hb dX9_item_41 ?_
        refine lv_iload_n hx hb dX9_item_42 rfl (lv_at hl 4 rfl) ?_
        refine lv_iadd hx hb dX9_item_43 ?_
        refine lv_iload_n hx hb dX9_item_44 rfl (lv_at hl 3 rfl) ?_
        refine lv_if_ne (tgt := 56) hx hb dX9_item_45 (by decide) (fun c7 => ?_) (fun c7 => ?_)
        · have h := it_f c7 h
          refine lv_iload_n hx hb dX9_item_56 rfl (lv_at hl 3 rfl) ?_
          refine lv_iconst (v := 1) hx hb dX9_item_57 kI_1 ?_
          refine lv_icmp_ne (tgt := 69) hx hb dX9_item_58 (by decide) (fun c8 => ?_) (fun c8 => ?_)
          · have h := it_f c8 h
            refine lv_iload_n hx hb dX9_item_69 rfl (lv_at hl 3 rfl) ?_
            refine lv_iconst (v := 2) hx hb dX9_item_70 kI_2 ?_
            refine lv_icmp_ne (tgt := 81) hx hb dX9_item_71 (by decide) (fun c9 => ?_) (fun c9 => ?_)
            · have h := it_f c9 h
              refine lv_lload hx hb dX9_item_81 (lv_at hl 5 rfl) ?_
              obtain ⟨hi10, h⟩ := chk_e h
              refine va_last hx hb hK hP hD hS 3 2 rfl rfl hi10 dX9_item_83 (fun H locs hP hD hS => ?_)
              have hP : va_P D vwCl [(a_t, .inr (9, [g_t_now, g_t_tape, g_t_typed, g_t_place, g_t_isFault, g_t_readLaw, g_t_read, g_t_undone, g_t_undos, g_t_aside, g_t_coat, g_t_bestCoats, g_t_bestStand, g_t_bestPaint, g_t_kept, g_t_keptUndos, g_t_isKept, .ref a_t_lanes, .ref a_t_sizes, .ref a_t_items, g_t_moved])), (a_t_lanes, .inl (cy 0, 4, .inl t_lanes)), (a_t_sizes, .inl (cy 0, 4, .inl t_sizes)), (a_t_items, .inl (cy 2, 96, .inr (.inl (vp_updL t_items ((24 * p0) + p2).toNatClampNeg p3))))] H := hP
              have hD : va_D A [(a_t, .inr (9, [g_t_now, g_t_tape, g_t_typed, g_t_place, g_t_isFault, g_t_readLaw, g_t_read, g_t_undone, g_t_undos, g_t_aside, g_t_coat, g_t_bestCoats, g_t_bestStand, g_t_bestPaint, g_t_kept, g_t_keptUndos, g_t_isKept, .ref a_t_lanes, .ref a_t_sizes, .ref a_t_items, g_t_moved])), (a_t_lanes, .inl (cy 0, 4, .inl t_lanes)), (a_t_sizes, .inl (cy 0, 4, .inl t_sizes)), (a_t_items, .inl (cy 2, 96, .inr (.inl (vp_updL t_items ((24 * p0) + p2).toNatClampNeg p3))))] := hD
              refine lv_iconst (v := 1) hx hb dX9_item_84 kI_1 ?_
              exact hret _ _ _ _ ls 85 dX9_item_85 rfl (by rw [← Option.some.inj h]) (by rw [← Option.some.inj h]) hP hD hS
            · have h := it_t c9 h
              refine lv_lload hx hb dX9_item_74 (lv_at hl 5 rfl) ?_
              refine lv_l2i (v := p3.toInt32) hx hb dX9_item_76 rfl ?_
              refine lv_i2l (v := (p3.toInt32).toInt64) hx hb dX9_item_77 rfl ?_
              refine lv_goto (tgt := 83) hx hb dX9_item_78 (by decide) ?_
              obtain ⟨hi11, h⟩ := chk_e h
              refine va_last hx hb hK hP hD hS 3 2 rfl rfl hi11 dX9_item_83 (fun H locs hP hD hS => ?_)
              have hP : va_P D vwCl [(a_t, .inr (9, [g_t_now, g_t_tape, g_t_typed, g_t_place, g_t_isFault, g_t_readLaw, g_t_read, g_t_undone, g_t_undos, g_t_aside, g_t_coat, g_t_bestCoats, g_t_bestStand, g_t_bestPaint, g_t_kept, g_t_keptUndos, g_t_isKept, .ref a_t_lanes, .ref a_t_sizes, .ref a_t_items, g_t_moved])), (a_t_lanes, .inl (cy 0, 4, .inl t_lanes)), (a_t_sizes, .inl (cy 0, 4, .inl t_sizes)), (a_t_items, .inl (cy 2, 96, .inr (.inl (vp_updL t_items ((24 * p0) + p2).toNatClampNeg ((p3.toInt32).toInt64)))))] H := hP
              have hD : va_D A [(a_t, .inr (9, [g_t_now, g_t_tape, g_t_typed, g_t_place, g_t_isFault, g_t_readLaw, g_t_read, g_t_undone, g_t_undos, g_t_aside, g_t_coat, g_t_bestCoats, g_t_bestStand, g_t_bestPaint, g_t_kept, g_t_keptUndos, g_t_isKept, .ref a_t_lanes, .ref a_t_sizes, .ref a_t_items, g_t_moved])), (a_t_lanes, .inl (cy 0, 4, .inl t_lanes)), (a_t_sizes, .inl (cy 0, 4, .inl t_sizes)), (a_t_items, .inl (cy 2, 96, .inr (.inl (vp_updL t_items ((24 * p0) + p2).toNatClampNeg ((p3.toInt32).toInt64)))))] := hD
              refine lv_iconst (v := 1) hx hb dX9_item_84 kI_1 ?_
              exact hret _ _ _ _ ls 85 dX9_item_85 rfl (by rw [← Option.some.inj h]) (by rw [← Option.some.inj h]) hP hD hS
          · have h := it_t c8 h
            refine lv_lload hx hb dX9_item_61 (lv_at hl 5 rfl) ?_
            refine lv_l2i (v := p3.toInt32) hx hb dX9_item_63 rfl ?_
            refine lv_i2s (v := (p3.toInt32).toInt16.toInt32) hx hb dX9_item_64 rfl ?_
            refine lv_i2l (v := ((p3.toInt32).toInt16.toInt32).toInt64) hx hb dX9_item_65 rfl ?_
            refine lv_goto (tgt := 83) hx hb dX9_item_66 (by decide) ?_
            obtain ⟨hi12, h⟩ := chk_e h
            refine va_last hx hb hK hP hD hS 3 2 rfl rfl hi12 dX9_item_83 (fun H locs hP hD hS => ?_)
            have hP : va_P D vwCl [(a_t, .inr (9, [g_t_now, g_t_tape, g_t_typed, g_t_place, g_t_isFault, g_t_readLaw, g_t_read, g_t_undone, g_t_undos, g_t_aside, g_t_coat, g_t_bestCoats, g_t_bestStand, g_t_bestPaint, g_t_kept, g_t_keptUndos, g_t_isKept, .ref a_t_lanes, .ref a_t_sizes, .ref a_t_items, g_t_moved])), (a_t_lanes, .inl (cy 0, 4, .inl t_lanes)), (a_t_sizes, .inl (cy 0, 4, .inl t_sizes)), (a_t_items, .inl (cy 2, 96, .inr (.inl (vp_updL t_items ((24 * p0) + p2).toNatClampNeg (((p3.toInt32).toInt16.toInt32).toInt64)))))] H := hP
            have hD : va_D A [(a_t, .inr (9, [g_t_now, g_t_tape, g_t_typed, g_t_place, g_t_isFault, g_t_readLaw, g_t_read, g_t_undone, g_t_undos, g_t_aside, g_t_coat, g_t_bestCoats, g_t_bestStand, g_t_bestPaint, g_t_kept, g_t_keptUndos, g_t_isKept, .ref a_t_lanes, .ref a_t_sizes, .ref a_t_items, g_t_moved])), (a_t_lanes, .inl (cy 0, 4, .inl t_lanes)), (a_t_sizes, .inl (cy 0, 4, .inl t_sizes)), (a_t_items, .inl (cy 2, 96, .inr (.inl (vp_updL t_items ((24 * p0) + p2).toNatClampNeg (((p3.toInt32).toInt16.toInt32).toInt64)))))] := hD
            refine lv_iconst (v := 1) hx hb dX9_item_84 kI_1 ?_
            exact hret _ _ _ _ ls 85 dX9_item_85 rfl (by rw [← Option.some.inj h]) (by rw [← Option.some.inj h]) hP hD hS
        · have h := it_t c7 h
          refine lv_lload hx hb dX9_item_48 (lv_at hl 5 rfl) ?_
          refine lv_l2i (v := p3.toInt32) hx hb dX9_item_50 rfl ?_
          refine lv_i2b (v := (p3.toInt32).toInt8.toInt32) hx hb dX9_item_51 rfl ?_
          refine lv_i2l (v := ((p3.toInt32).toInt8.toInt32).toInt64) hx hb dX9_item_52 rfl ?_
          refine lv_goto (tgt := 83) hx hb dX9_item_53 (by decide) ?_
          obtain ⟨hi13, h⟩ := chk_e h
          refine va_last hx hb hK hP hD hS 3 2 rfl rfl hi13 dX9_item_83 (fun H locs hP hD hS => ?_)
          have hP : va_P D vwCl [(a_t, .inr (9, [g_t_now, g_t_tape, g_t_typed, g_t_place, g_t_isFault, g_t_readLaw, g_t_read, g_t_undone, g_t_undos, g_t_aside, g_t_coat, g_t_bestCoats, g_t_bestStand, g_t_bestPaint, g_t_kept, g_t_keptUndos, g_t_isKept, .ref a_t_lanes, .ref a_t_sizes, .ref a_t_items, g_t_moved])), (a_t_lanes, .inl (cy 0, 4, .inl t_lanes)), (a_t_sizes, .inl (cy 0, 4, .inl t_sizes)), (a_t_items, .inl (cy 2, 96, .inr (.inl (vp_updL t_items ((24 * p0) + p2).toNatClampNeg (((p3.toInt32).toInt8.toInt32).toInt64)))))] H := hP
          have hD : va_D A [(a_t, .inr (9, [g_t_now, g_t_tape, g_t_typed, g_t_place, g_t_isFault, g_t_readLaw, g_t_read, g_t_undone, g_t_undos, g_t_aside, g_t_coat, g_t_bestCoats, g_t_bestStand, g_t_bestPaint, g_t_kept, g_t_keptUndos, g_t_isKept, .ref a_t_lanes, .ref a_t_sizes, .ref a_t_items, g_t_moved])), (a_t_lanes, .inl (cy 0, 4, .inl t_lanes)), (a_t_sizes, .inl (cy 0, 4, .inl t_sizes)), (a_t_items, .inl (cy 2, 96, .inr (.inl (vp_updL t_items ((24 * p0) + p2).toNatClampNeg (((p3.toInt32).toInt8.toInt32).toInt64)))))] := hD
          refine lv_iconst (v := 1) hx hb dX9_item_84 kI_1 ?_
          exact hret _ _ _ _ ls 85 dX9_item_85 rfl (by rw [← Option.some.inj h]) (by rw [← Option.some.inj h]) hP hD hS
      · have h := it_f c6 h
        refine lv_iload hx hb dX9_item_31 (lv_at hl 0 rfl) ?_
        exact hret _ _ _ _ ls 33 dX9_item_33 rfl (by rw [← Option.some.inj h]) (by rw [← Option.some.inj h]) hP hD hS
    · have h := it_t c4 h
      refine lv_iconst (v := (-1)) hx hb dX9_item_14 kI_m1 ?_
      exact hret _ _ _ _ ls 15 dX9_item_15 rfl (by rw [← Option.some.inj h]) (by rw [← Option.some.inj h]) hP hD hS

def m_X9_copy_L128s (p2 : Int32) (p3 : Int32) (p4 : Int32) (w15 : Nat → Int64) (k19 : (Nat → Int64) → Option (Int32 × (Nat → Int64) × (Nat → Int64))) (r21 : Int32 → (Nat → Int64) → Option (Int32 × (Nat → Int64) × (Nat → Int64))) (x16 : Int32) (w17 : Nat → Int64) : Option (Int32 × (Nat → Int64) × (Nat → Int64)) := (if p4 ≤ x16 then k19 w17 else chk x16 24 (chk (((24 * p2) + p3) + x16) 96 (bnd (x16 + 1) (fun x25 => r21 x25 (vp_updL w17 (((24 * p2) + p3) + x16).toNatClampNeg (w15 x16.toNatClampNeg))))))
def m_X9_copy_L128 (p2 : Int32) (p3 : Int32) (p4 : Int32) (w15 : Nat → Int64) (k19 : (Nat → Int64) → Option (Int32 × (Nat → Int64) × (Nat → Int64))) : Nat → Int32 → (Nat → Int64) → Option (Int32 × (Nat → Int64) × (Nat → Int64))
  | 0 => fun _ _ => none
  | nF + 1 => m_X9_copy_L128s p2 p3 p4 w15 k19 (m_X9_copy_L128 p2 p3 p4 w15 k19 nF)
def m_X9_copy_L91s (t_items : Nat → Int64) (p0 : Int32) (p1 : Int32) (p4 : Int32) (k26 : (Nat → Int64) → Option (Int32 × (Nat → Int64) × (Nat → Int64))) (r28 : Int32 → (Nat → Int64) → Option (Int32 × (Nat → Int64) × (Nat → Int64))) (x13 : Int32) (w14 : Nat → Int64) : Option (Int32 × (Nat → Int64) × (Nat → Int64)) := (if p4 ≤ x13 then k26 w14 else chk (((24 * p0) + p1) + x13) 96 (chk x13 24 (bnd (x13 + 1) (fun x32 => r28 x32 (vp_updL w14 x13.toNatClampNeg (t_items (((24 * p0) + p1) + x13).toNatClampNeg))))))
def m_X9_copy_L91 (t_items : Nat → Int64) (p0 : Int32) (p1 : Int32) (p4 : Int32) (k26 : (Nat → Int64) → Option (Int32 × (Nat → Int64) × (Nat → Int64))) : Nat → Int32 → (Nat → Int64) → Option (Int32 × (Nat → Int64) × (Nat → Int64))
  | 0 => fun _ _ => none
  | nF + 1 => m_X9_copy_L91s t_items p0 p1 p4 k26 (m_X9_copy_L91 t_items p0 p1 p4 k26 nF)
def m_X9_copy (F : Nat) (t_lanes : Nat → Int32) (t_sizes : Nat → Int32) (t_items : Nat → Int64) (t_moved : Nat → Int64) (p0 : Int32) (p1 : Int32) (p2 : Int32) (p3 : Int32) (p4 : Int32) : Option (Int32 × (Nat → Int64) × (Nat → Int64)) := (m_X9_isSheet p0).bind (fun v1 => (if v1 = 0 then some ((-1), t_items, t_moved) else (m_X9_isSheet p2).bind (fun v3 => (if v3 = 0 then some ((-1), t_items, t_moved) else chk p0 4 ((if (t_lanes p0.toNatClampNeg) < 0 then some ((-11), t_items, t_moved) else chk p2 4 ((if 0 ≤ (t_lanes p2.toNatClampNeg) then chk p0 4 ((m_X9_why t_lanes t_sizes p2 (t_lanes p0.toNatClampNeg) p3 p4).bind (fun v10 => jn (fun (x11 : Int32) => (if 0 ≤ x11 then m_X9_copy_L91 t_items p0 p1 p4 (fun (w15 : Nat → Int64) => m_X9_copy_L128 p2 p3 p4 w15 (fun (w18 : Nat → Int64) => some (p4, w18, w15)) F 0 t_items) F 0 t_moved else some (x11, t_items, t_moved))) (fun k33 => (if v10 = 0 then chk p0 4 ((m_X9_why t_lanes t_sizes p0 (t_lanes p0.toNatClampNeg) p1 p4).bind (fun v36 => k33 v36)) else k33 v10)))) else some ((-11), t_items, t_moved)))))))))
set_option maxHeartbeats 4000000 in
set_option maxRecDepth 100000 in
theorem c_X9_copy (l : Launch) (D : va_G) (cy : Nat → ClassId) (a_t : Nat) (a_t_lanes : Nat) (a_t_sizes : Nat) (a_t_items : Nat) (a_t_moved : Nat) (sz : Nat) (g_t_now : Value) (g_t_tape : Value) (g_t_typed : Value) (g_t_place : Value) (g_t_isFault : Value) (g_t_readLaw : Value) (g_t_read : Value) (g_t_undone : Value) (g_t_undos : Value) (g_t_aside : Value) (g_t_coat : Value) (g_t_bestCoats : Value) (g_t_bestStand : Value) (g_t_bestPaint : Value) (g_t_kept : Value) (g_t_keptUndos : Value) (g_t_isKept : Value) (t_lanes : Nat → Int32) (t_sizes : Nat → Int32) (t_items : Nat → Int64) (t_moved : Nat → Int64) (p0 : Int32) (p1 : Int32) (p2 : Int32) (p3 : Int32) (p4 : Int32) (F : Nat) (out : Int32 × (Nat → Int64) × (Nat → Int64)) (h : m_X9_copy F t_lanes t_sizes t_items t_moved p0 p1 p2 p3 p4 = some out) : MetM l D cy yX9_copy cX9_copy 8 (some .int) (rmG 2 45) [.ref a_t, .int p0, .int p1, .int p2, .int p3, .int p4] sz [(a_t, .inr (9, [g_t_now, g_t_tape, g_t_typed, g_t_place, g_t_isFault, g_t_readLaw, g_t_read, g_t_undone, g_t_undos, g_t_aside, g_t_coat, g_t_bestCoats, g_t_bestStand, g_t_bestPaint, g_t_kept, g_t_keptUndos, g_t_isKept, .ref a_t_lanes, .ref a_t_sizes, .ref a_t_items, .ref a_t_moved])), (a_t_lanes, .inl (cy 0, 4, .inl t_lanes)), (a_t_sizes, .inl (cy 0, 4, .inl t_sizes)), (a_t_items, .inl (cy 2, 96, .inr (.inl t_items))), (a_t_moved, .inl (cy 2, 24, .inr (.inl t_moved)))] (some (.int out.1)) [(a_t, .inr (9, [g_t_now, g_t_tape, g_t_typed, g_t_place, g_t_isFault, g_t_readLaw, g_t_read, g_t_undone, g_t_undos, g_t_aside, g_t_coat, g_t_bestCoats, g_t_bestStand, g_t_bestPaint, g_t_kept, g_t_keptUndos, g_t_isKept, .ref a_t_lanes, .ref a_t_sizes, .ref a_t_items, .ref a_t_moved])), (a_t_lanes, .inl (cy 0, 4, .inl t_lanes)), (a_t_sizes, .inl (cy 0, 4, .inl t_sizes)), (a_t_items, .inl (cy 2, 96, .inr (.inl out.2.1))), (a_t_moved, .inl (cy 2, 24, .inr (.inl out.2.2)))] := by
  refine startMi (own := RX9) (by decide) rfl (Nat.le_of_ble_eq_true rfl) ?_
  intro p e s m below meth c QQ A hx hb hml hown hg hK hP hD hS hA hret ls hl
  have hl : lv_has ls 8 [(0, .ref a_t), (1, .int p0), (2, .int p1), (3, .int p2), (4, .int p3), (5, .int p4)] := hl
  unfold m_X9_copy at h
  refine lv_iload_n hx hb dX9_copy_0 rfl (lv_at hl 1 rfl) ?_
  obtain ⟨v1, hv1, h⟩ := bind_e h
  refine callRS (As := [.int p0]) (rest := []) (v0 := .int v1) hx hb hml hown hg (c_X9_isSheet l D cy p0 v1 hv1) q_1271 q_1269 q_63 q_1270 hd_X9_isSheet ⟨(Nat.le_of_ble_eq_true rfl), (Nat.le_of_ble_eq_true rfl)⟩ hK hP [] rfl rfl rfl rfl hl.1 rfl (Nat.le_of_ble_eq_true rfl) dX9_copy_1 ?_
  refine lv_if_eq (tgt := 14) hx hb dX9_copy_4 (by decide) (fun c2 => ?_) (fun c2 => ?_)
  · have h := it_t c2 h
    refine lv_iconst (v := (-1)) hx hb dX9_copy_14 kI_m1 ?_
    exact hret _ _ _ _ ls 15 dX9_copy_15 rfl (by rw [← Option.some.inj h]) (by rw [← Option.some.inj h]) hP hD hS
  · have h := it_f c2 h
    refine lv_iload_n hx hb dX9_copy_7 rfl (lv_at hl 3 rfl) ?_
    obtain ⟨v3, hv3, h⟩ := bind_e h
    refine callRS (As := [.int p2]) (rest := []) (v0 := .int v3) hx hb hml hown hg (c_X9_isSheet l D cy p2 v3 hv3) q_1271 q_1269 q_63 q_1270 hd_X9_isSheet ⟨(Nat.le_of_ble_eq_true rfl), (Nat.le_of_ble_eq_true rfl)⟩ hK hP [] rfl rfl rfl rfl hl.1 rfl (Nat.le_of_ble_eq_true rfl) dX9_copy_8 ?_
    refine lv_if_ne (tgt := 16) hx hb dX9_copy_11 (by decide) (fun c4 => ?_) (fun c4 => ?_)
    · have h := it_f c4 h
      refine lv_aload_n hx hb dX9_copy_16 rfl (lv_at hl 0 rfl) ?_
      refine va_get (D := D) (ci := 9) (v := .ref a_t_lanes) (C := RX9) (T := TX9) (N := 21) hx hb hg inG_X9 hown hK hP 0 rfl rfl 17 (by decide) (hg _ q_962) (fun _ h9 => h9) rfl dX9_copy_17 ?_
      refine lv_iload_n hx hb dX9_copy_20 rfl (lv_at hl 1 rfl) ?_
      obtain ⟨hi5, h⟩ := chk_e h
      refine va_iald hx hb hK hP 1 0 rfl rfl hi5 dX9_copy_21 ?_
      refine lv_if_lt (tgt := 34) hx hb dX9_copy_22 (by decide) (fun c6 => ?_) (fun c6 => ?_)
      · have h := it_t c6 h
        refine lv_bipush (v := (-11)) hx hb dX9_copy_34 kB_m11 ?_
        exact hret _ _ _ _ ls 36 dX9_copy_36 rfl (by rw [← Option.some.inj h]) (by rw [← Option.some.inj h]) hP hD hS
      · have h := it_f c6 h
        refine lv_aload_n hx hb dX9_copy_25 rfl (lv_at hl 0 rfl) ?_
        refine va_get (D := D) (ci := 9) (v := .ref a_t_lanes) (C := RX9) (T := TX9) (N := 21) hx hb hg inG_X9 hown hK hP 0 rfl rfl 17 (by decide) (hg _ q_962) (fun _ h9 => h9) rfl dX9_copy_26 ?_
        refine lv_iload_n hx hb dX9_copy_29 rfl (lv_at hl 3 rfl) ?_
        obtain ⟨hi7, h⟩ := chk_e h
        refine va_iald hx hb hK hP 1 0 rfl rfl hi7 dX9_copy_30 ?_
        refine lv_if_ge (tgt := 37) hx hb dX9_copy_31 (by decide) (fun c8 => ?_) (fun c8 => ?_)
        · have h := it_t c8 h
          refine lv_aload_n hx hb dX9_copy_37 rfl (lv_at hl 0 rfl) ?_
          refine lv_iload_n hx hb dX9_copy_38 rfl (lv_at hl 3 rfl) ?_
          refine lv_aload_n hx hb dX9_copy_39 rfl (lv_at hl 0 rfl) ?_
          refine va_get (D := D) (ci := 9) (v := .ref a_t_lanes) (C := RX9) (T := TX9) (N := 21) hx hb hg inG_X9 hown hK hP 0 rfl rfl 17 (by decide) (hg _ q_962) (fun _ h9 => h9) rfl dX9_copy_40 ?_
          refine lv_iload_n hx hb dX9_copy_43 rfl (lv_at hl 1 rfl) ?_
          obtain ⟨hi9, h⟩ := chk_e h
          refine va_iald hx hb hK hP 1 0 rfl rfl hi9 dX9_copy_44 ?_
          refine lv_iload hx hb dX9_copy_45 (lv_at hl 4 rfl) ?_
          refine lv_iload hx hb dX9_copy_47 (lv_at hl 5 rfl) ?_
          obtain ⟨v10, hv10, h⟩ := bind_e h
          refine callRV (As := [.int p2, .int (t_lanes p0.toNatClampNeg), .int p3, .int p4]) (rest := []) (v0 := .int v10) hx hb hml hown hg (c_X9_why l D cy a_t a_t_lanes a_t_sizes (g_t_now) (g_t_tape) (g_t_typed) (g_t_place) (g_t_isFault) (g_t_readLaw) (g_t_read) (g_t_undone) (g_t_undos) (g_t_aside) (g_t_coat) (g_t_bestCoats) (g_t_bestStand) (g_t_bestPaint) (g_t_kept) (g_t_keptUndos) (g_t_isKept) (.ref a_t_items) (.ref a_t_moved) t_lanes t_sizes p2 (t_lanes p0.toNatClampNeg) p3 p4 v10 hv10) q_1279 q_1276 q_63 q_1278 q_51 hd_X9_why ⟨(Nat.le_of_ble_eq_true rfl), (Nat.le_of_ble_eq_true rfl)⟩ hK hP [0, 1, 2] rfl 0 9 rfl rfl rfl rfl rfl rfl hl.1 rfl (Nat.le_of_ble_eq_true rfl) dX9_copy_49 ?_
          refine lv_istore (lv' := [(6, .int v10), (0, .ref a_t), (1, .int p0), (2, .int p1), (3, .int p2), (4, .int p3), (5, .int p4)]) hx hb dX9_copy_52 hl (by decide) rfl (fun ls hl => ?_)
          refine lv_iload hx hb dX9_copy_54 (lv_at hl 0 rfl) ?_
          obtain ⟨k33, hk33, h⟩ := jn_e h
          have J33 : ∀ (x11 : Int32) (H : Heap) (locs : List Loc) (ls : Array Slot), va_P D vwCl [(a_t, .inr (9, [g_t_now, g_t_tape, g_t_typed, g_t_place, g_t_isFault, g_t_readLaw, g_t_read, g_t_undone, g_t_undos, g_t_aside, g_t_coat, g_t_bestCoats, g_t_bestStand, g_t_bestPaint, g_t_kept, g_t_keptUndos, g_t_isKept, .ref a_t_lanes, .ref a_t_sizes, .ref a_t_items, .ref a_t_moved])), (a_t_lanes, .inl (cy 0, 4, .inl t_lanes)), (a_t_sizes, .inl (cy 0, 4, .inl t_sizes)), (a_t_items, .inl (cy 2, 96, .inr (.inl t_items))), (a_t_moved, .inl (cy 2, 24, .inr (.inl t_moved)))] H → va_D A [(a_t, .inr (9, [g_t_now, g_t_tape, g_t_typed, g_t_place, g_t_isFault, g_t_readLaw, g_t_read, g_t_undone, g_t_undos, g_t_aside, g_t_coat, g_t_bestCoats, g_t_bestStand, g_t_bestPaint, g_t_kept, g_t_keptUndos, g_t_isKept, .ref a_t_lanes, .ref a_t_sizes, .ref a_t_items, .ref a_t_moved])), (a_t_lanes, .inl (cy 0, 4, .inl t_lanes)), (a_t_sizes, .inl (cy 0, 4, .inl t_sizes)), (a_t_items, .inl (cy 2, 96, .inr (.inl t_items))), (a_t_moved, .inl (cy 2, 24, .inr (.inl t_moved)))] → va_S A s.heap H locs → lv_has ls 8 [(0, .ref a_t), (1, .int p0), (2, .int p1), (3, .int p2), (4, .int p3), (5, .int p4)] → k33 x11 = some out → W p l e (rmG 2 45) s m [.ref a_t, .int p0, .int p1, .int p2, .int p3, .int p4].toArray below meth c H locs 0 0 QQ (F0 m 78 ls [.int x11]) := by
            intro x11 H locs ls hP hD hS hl h
            rw [hk33] at h
            refine lv_istore (lv' := [(6, .int x11), (0, .ref a_t), (1, .int p0), (2, .int p1), (3, .int p2), (4, .int p3), (5, .int p4)]) hx hb dX9_copy_78 hl (by decide) rfl (fun ls hl => ?_)
            refine lv_iload hx hb dX9_copy_80 (lv_at hl 0 rfl) ?_
            refine lv_if_ge (tgt := 88) hx hb dX9_copy_82 (by decide) (fun c12 => ?_) (fun c12 => ?_)
            · have h := it_t c12 h
              refine lv_iconst (v := 0) hx hb dX9_copy_88 kI_0 ?_
              refine lv_istore (lv' := [(7, .int 0), (6, .int x11), (0, .ref a_t), (1, .int p0), (2, .int p1), (3, .int p2), (4, .int p3), (5, .int p4)]) hx hb dX9_copy_89 hl (by decide) rfl (fun ls hl => ?_)
              obtain ⟨k26, hk26, h⟩ := kap (fun z => m_X9_copy_L91 t_items p0 p1 p4 z F 0 t_moved) h
              have J26 : ∀ (w15 : Nat → Int64) (H : Heap) (locs : List Loc) (ls : Array Slot), va_P D vwCl [(a_t, .inr (9, [g_t_now, g_t_tape, g_t_typed, g_t_place, g_t_isFault, g_t_readLaw, g_t_read, g_t_undone, g_t_undos, g_t_aside, g_t_coat, g_t_bestCoats, g_t_bestStand, g_t_bestPaint, g_t_kept, g_t_keptUndos, g_t_isKept, .ref a_t_lanes, .ref a_t_sizes, .ref a_t_items, .ref a_t_moved])), (a_t_lanes, .inl (cy 0, 4, .inl t_lanes)), (a_t_sizes, .inl (cy 0, 4, .inl t_sizes)), (a_t_items, .inl (cy 2, 96, .inr (.inl t_items))), (a_t_moved, .inl (cy 2, 24, .inr (.inl w15)))] H → va_D A [(a_t, .inr (9, [g_t_now, g_t_tape, g_t_typed, g_t_place, g_t_isFault, g_t_readLaw, g_t_read, g_t_undone, g_t_undos, g_t_aside, g_t_coat, g_t_bestCoats, g_t_bestStand, g_t_bestPaint, g_t_kept, g_t_keptUndos, g_t_isKept, .ref a_t_lanes, .ref a_t_sizes, .ref a_t_items, .ref a_t_moved])), (a_t_lanes, .inl (cy 0, 4, .inl t_lanes)), (a_t_sizes, .inl (cy 0, 4, .inl t_sizes)), (a_t_items, .inl (cy 2, 96, .inr (.inl t_items))), (a_t_moved, .inl (cy 2, 24, .inr (.inl w15)))] → va_S A s.heap H locs → lv_has ls 8 [(0, .ref a_t), (3, .int p2), (4, .int p3), (5, .int p4)] → k26 w15 = some out → W p l e (rmG 2 45) s m [.ref a_t, .int p0, .int p1, .int p2, .int p3, .int p4].toArray below meth c H locs 0 0 QQ (F0 m 125 ls []) := by
                intro w15 H locs ls hP hD hS hl h
                rw [hk26] at h
                refine lv_iconst (v := 0) hx hb dX9_copy_125 kI_0 ?_
                refine lv_istore (lv' := [(7, .int 0), (0, .ref a_t), (3, .int p2), (4, .int p3), (5, .int p4)]) hx hb dX9_copy_126 hl (by decide) rfl (fun ls hl => ?_)
                obtain ⟨k19, hk19, h⟩ := kap (fun z => m_X9_copy_L128 p2 p3 p4 w15 z F 0 t_items) h
                have J19 : ∀ (w18 : Nat → Int64) (H : Heap) (locs : List Loc) (ls : Array Slot), va_P D vwCl [(a_t, .inr (9, [g_t_now, g_t_tape, g_t_typed, g_t_place, g_t_isFault, g_t_readLaw, g_t_read, g_t_undone, g_t_undos, g_t_aside, g_t_coat, g_t_bestCoats, g_t_bestStand, g_t_bestPaint, g_t_kept, g_t_keptUndos, g_t_isKept, .ref a_t_lanes, .ref a_t_sizes, .ref a_t_items, .ref a_t_moved])), (a_t_lanes, .inl (cy 0, 4, .inl t_lanes)), (a_t_sizes, .inl (cy 0, 4, .inl t_sizes)), (a_t_items, .inl (cy 2, 96, .inr (.inl w18))), (a_t_moved, .inl (cy 2, 24, .inr (.inl w15)))] H → va_D A [(a_t, .inr (9, [g_t_now, g_t_tape, g_t_typed, g_t_place, g_t_isFault, g_t_readLaw, g_t_read, g_t_undone, g_t_undos, g_t_aside, g_t_coat, g_t_bestCoats, g_t_bestStand, g_t_bestPaint, g_t_kept, g_t_keptUndos, g_t_isKept, .ref a_t_lanes, .ref a_t_sizes, .ref a_t_items, .ref a_t_moved])), (a_t_lanes, .inl (cy 0, 4, .inl t_lanes)), (a_t_sizes, .inl (cy 0, 4, .inl t_sizes)), (a_t_items, .inl (cy 2, 96, .inr (.inl w18))), (a_t_moved, .inl (cy 2, 24, .inr (.inl w15)))] → va_S A s.heap H locs → lv_has ls 8 [(5, .int p4)] → k19 w18 = some out → W p l e (rmG 2 45) s m [.ref a_t, .int p0, .int p1, .int p2, .int p3, .int p4].toArray below meth c H locs 0 0 QQ (F0 m 163 ls []) := by
                  intro w18 H locs ls hP hD hS hl h
                  rw [hk19] at h
                  refine lv_iload hx hb dX9_copy_163 (lv_at hl 0 rfl) ?_
                  exact hret _ _ _ _ ls 165 dX9_copy_165 rfl (by rw [← Option.some.inj h]) (by rw [← Option.some.inj h]) hP hD hS
                have L20 : ∀ (n20 : Nat) (x16 : Int32) (w17 : Nat → Int64) (H : Heap) (locs : List Loc) (ls : Array Slot), va_P D vwCl [(a_t, .inr (9, [g_t_now, g_t_tape, g_t_typed, g_t_place, g_t_isFault, g_t_readLaw, g_t_read, g_t_undone, g_t_undos, g_t_aside, g_t_coat, g_t_bestCoats, g_t_bestStand, g_t_bestPaint, g_t_kept, g_t_keptUndos, g_t_isKept, .ref a_t_lanes, .ref a_t_sizes, .ref a_t_items, .ref a_t_moved])), (a_t_lanes, .inl (cy 0, 4, .inl t_lanes)), (a_t_sizes, .inl (cy 0, 4, .inl t_sizes)), (a_t_items, .inl (cy 2, 96, .inr (.inl w17))), (a_t_moved, .inl (cy 2, 24, .inr (.inl w15)))] H → va_D A [(a_t, .inr (9, [g_t_now, g_t_tape, g_t_typed, g_t_place, g_t_isFault, g_t_readLaw, g_t_read, g_t_undone, g_t_undos, g_t_aside, g_t_coat, g_t_bestCoats, g_t_bestStand, g_t_bestPaint, g_t_kept, g_t_keptUndos, g_t_isKept, .ref a_t_lanes, .ref a_t_sizes, .ref a_t_items, .ref a_t_moved])), (a_t_lanes, .inl (cy 0, 4, .inl t_lanes)), (a_t_sizes, .inl (cy 0, 4, .inl t_sizes)), (a_t_items, .inl (cy 2, 96, .inr (.inl w17))), (a_t_moved, .inl (cy 2, 24, .inr (.inl w15)))] → va_S A s.heap H locs → lv_has ls 8 [(7, .int x16), (0, .ref a_t), (3, .int p2), (4, .int p3), (5, .int p4)] → m_X9_copy_L128 p2 p3 p4 w15 k19 n20 x16 w17 = some out → W p l e (rmG 2 45) s m [.ref a_t, .int p0, .int p1, .int p2, .int p3, .int p4].toArray below meth c H locs 0 0 QQ (F0 m 128 ls []) := by
                  intro n20
                  induction n20 with
                  | zero => intro x16 w17 H locs ls hP hD hS hl h; exact nomatch (show (none : Option (Int32 × (Nat → Int64) × (Nat → Int64))) = some out from h)
                  | succ n20 ih =>
                      intro x16 w17 H locs ls hP hD hS hl h
                      have h : m_X9_copy_L128s p2 p3 p4 w15 k19 (m_X9_copy_L128 p2 p3 p4 w15 k19 n20) x16 w17 = some out := h
                      unfold m_X9_copy_L128s at h
                      refine lv_iload hx hb dX9_copy_128 (lv_at hl 0 rfl) ?_
                      refine lv_iload hx hb dX9_copy_130 (lv_at hl 4 rfl) ?_
                      refine lv_icmp_ge (tgt := 163) hx hb dX9_copy_132 (by decide) (fun c22 => ?_) (fun c22 => ?_)
                      · have h := it_t c22 h
                        exact J19 w17 _ _ _ hP hD hS (lv_sub hl [4] rfl) h
                      · have h := it_f c22 h
                        refine lv_aload_n hx hb dX9_copy_135 rfl (lv_at hl 1 rfl) ?_
                        refine va_get (D := D) (ci := 9) (v := .ref a_t_items) (C := RX9) (T := TX9) (N := 21) hx hb hg inG_X9 hown hK hP 0 rfl rfl 19 (by decide) (hg _ q_964) (fun _ h9 => h9) rfl dX9_copy_136 ?_
                        refine lv_bipush (v := 24) hx hb dX9_copy_139 kB_24 ?_
                        refine lv_iload_n hx hb dX9_copy_141 rfl (lv_at hl 2 rfl) ?_
                        refine lv_imul hx hb dX9_copy_142 ?_
                        refine lv_iload hx hb dX9_copy_143 (lv_at hl 3 rfl) ?_
                        refine lv_iadd hx hb dX9_copy_145 ?_
                        refine lv_iload hx hb dX9_copy_146 (lv_at hl 0 rfl) ?_
                        refine lv_iadd hx hb dX9_copy_148 ?_
                        refine lv_aload_n hx hb dX9_copy_149 rfl (lv_at hl 1 rfl) ?_
                        refine va_get (D := D) (ci := 9) (v := .ref a_t_moved) (C := RX9) (T := TX9) (N := 21) hx hb hg inG_X9 hown hK hP 0 rfl rfl 20 (by decide) (hg _ q_965) (fun _ h9 => h9) rfl dX9_copy_150 ?_
                        refine lv_iload hx hb dX9_copy_153 (lv_at hl 0 rfl) ?_
                        obtain ⟨hi23, h⟩ := chk_e h
                        refine va_lald hx hb hK hP 4 2 rfl rfl hi23 dX9_copy_155 ?_
                        obtain ⟨hi24, h⟩ := chk_e h
                        refine va_last hx hb hK hP hD hS 3 2 rfl rfl hi24 dX9_copy_156 (fun H locs hP hD hS => ?_)
                        have hP : va_P D vwCl [(a_t, .inr (9, [g_t_now, g_t_tape, g_t_typed, g_t_place, g_t_isFault, g_t_readLaw, g_t_read, g_t_undone, g_t_undos, g_t_aside, g_t_coat, g_t_bestCoats, g_t_bestStand, g_t_bestPaint, g_t_kept, g_t_keptUndos, g_t_isKept, .ref a_t_lanes, .ref a_t_sizes, .ref a_t_items, .ref a_t_moved])), (a_t_lanes, .inl (cy 0, 4, .inl t_lanes)), (a_t_sizes, .inl (cy 0, 4, .inl t_sizes)), (a_t_items, .inl (cy 2, 96, .inr (.inl (vp_updL w17 (((24 * p2) + p3) + x16).toNatClampNeg (w15 x16.toNatClampNeg))))), (a_t_moved, .inl (cy 2, 24, .inr (.inl w15)))] H := hP
                        have hD : va_D A [(a_t, .inr (9, [g_t_now, g_t_tape, g_t_typed, g_t_place, g_t_isFault, g_t_readLaw, g_t_read, g_t_undone, g_t_undos, g_t_aside, g_t_coat, g_t_bestCoats, g_t_bestStand, g_t_bestPaint, g_t_kept, g_t_keptUndos, g_t_isKept, .ref a_t_lanes, .ref a_t_sizes, .ref a_t_items, .ref a_t_moved])), (a_t_lanes, .inl (cy 0, 4, .inl t_lanes)), (a_t_sizes, .inl (cy 0, 4, .inl t_sizes)), (a_t_items, .inl (cy 2, 96, .inr (.inl (vp_updL w17 (((24 * p2) + p3) + x16).toNatClampNeg (w15 x16.toNatClampNeg))))), (a_t_moved, .inl (cy 2, 24, .inr (.inl w15)))] := hD
                        obtain ⟨x25, ex25⟩ : ∃ y : Int32, y = x16 + 1 := ⟨_, rfl⟩
                        have h := bnd_e ex25 h
                        refine lv_iinc (v := x25) (lv' := [(7, .int x25), (0, .ref a_t), (3, .int p2), (4, .int p3), (5, .int p4)]) hx hb dX9_copy_157 hl (k := 0) rfl (inc_e kI_1 ex25) (by decide) rfl (fun ls hl => ?_)
                        refine lv_goto (tgt := 128) hx hb dX9_copy_160 (by decide) ?_
                        exact ih x25 (vp_updL w17 (((24 * p2) + p3) + x16).toNatClampNeg (w15 x16.toNatClampNeg)) _ _ _ hP hD hS (lv_sub hl [0, 1, 2, 3, 4] rfl) h
                exact L20 F 0 t_items _ _ _ hP hD hS (lv_sub hl [0, 1, 2, 3, 4] rfl) h
              have L27 : ∀ (n27 : Nat) (x13 : Int32) (w14 : Nat → Int64) (H : Heap) (locs : List Loc) (ls : Array Slot), va_P D vwCl [(a_t, .inr (9, [g_t_now, g_t_tape, g_t_typed, g_t_place, g_t_isFault, g_t_readLaw, g_t_read, g_t_undone, g_t_undos, g_t_aside, g_t_coat, g_t_bestCoats, g_t_bestStand, g_t_bestPaint, g_t_kept, g_t_keptUndos, g_t_isKept, .ref a_t_lanes, .ref a_t_sizes, .ref a_t_items, .ref a_t_moved])), (a_t_lanes, .inl (cy 0, 4, .inl t_lanes)), (a_t_sizes, .inl (cy 0, 4, .inl t_sizes)), (a_t_items, .inl (cy 2, 96, .inr (.inl t_items))), (a_t_moved, .inl (cy 2, 24, .inr (.inl w14)))] H → va_D A [(a_t, .inr (9, [g_t_now, g_t_tape, g_t_typed, g_t_place, g_t_isFault, g_t_readLaw, g_t_read, g_t_undone, g_t_undos, g_t_aside, g_t_coat, g_t_bestCoats, g_t_bestStand, g_t_bestPaint, g_t_kept, g_t_keptUndos, g_t_isKept, .ref a_t_lanes, .ref a_t_sizes, .ref a_t_items, .ref a_t_moved])), (a_t_lanes, .inl (cy 0, 4, .inl t_lanes)), (a_t_sizes, .inl (cy 0, 4, .inl t_sizes)), (a_t_items, .inl (cy 2, 96, .inr (.inl t_items))), (a_t_moved, .inl (cy 2, 24, .inr (.inl w14)))] → va_S A s.heap H locs → lv_has ls 8 [(7, .int x13), (0, .ref a_t), (1, .int p0), (2, .int p1), (3, .int p2), (4, .int p3), (5, .int p4)] → m_X9_copy_L91 t_items p0 p1 p4 k26 n27 x13 w14 = some out → W p l e (rmG 2 45) s m [.ref a_t, .int p0, .int p1, .int p2, .int p3, .int p4].toArray below meth c H locs 0 0 QQ (F0 m 91 ls []) := by
                intro n27
                induction n27 with
                | zero => intro x13 w14 H locs ls hP hD hS hl h; exact nomatch (show (none : Option (Int32 × (Nat → Int64) × (Nat → Int64))) = some out from h)
                | succ n27 ih =>
                    intro x13 w14 H locs ls hP hD hS hl h
                    have h : m_X9_copy_L91s t_items p0 p1 p4 k26 (m_X9_copy_L91 t_items p0 p1 p4 k26 n27) x13 w14 = some out := h
                    unfold m_X9_copy_L91s at h
                    refine lv_iload hx hb dX9_copy_91 (lv_at hl 0 rfl) ?_
                    refine lv_iload hx hb dX9_copy_93 (lv_at hl 6 rfl) ?_
                    refine lv_icmp_ge (tgt := 125) hx hb dX9_copy_95 (by decide) (fun c29 => ?_) (fun c29 => ?_)
                    · have h := it_t c29 h
                      exact J26 w14 _ _ _ hP hD hS (lv_sub hl [1, 4, 5, 6] rfl) h
                    · have h := it_f c29 h
                      refine lv_aload_n hx hb dX9_copy_98 rfl (lv_at hl 1 rfl) ?_
                      refine va_get (D := D) (ci := 9) (v := .ref a_t_moved) (C := RX9) (T := TX9) (N := 21) hx hb hg inG_X9 hown hK hP 0 rfl rfl 20 (by decide) (hg _ q_965) (fun _ h9 => h9) rfl dX9_copy_99 ?_
                      refine lv_iload hx hb dX9_copy_102 (lv_at hl 0 rfl) ?_
                      refine lv_aload_n hx hb dX9_copy_104 rfl (lv_at hl 1 rfl) ?_
                      refine va_get (D := D) (ci := 9) (v := .ref a_t_items) (C := RX9) (T := TX9) (N := 21) hx hb hg inG_X9 hown hK hP 0 rfl rfl 19 (by decide) (hg _ q_964) (fun _ h9 => h9) rfl dX9_copy_105 ?_
                      refine lv_bipush (v := 24) hx hb dX9_copy_108 kB_24 ?_
                      refine lv_iload_n hx hb dX9_copy_110 rfl (lv_at hl 2 rfl) ?_
                      refine lv_imul hx hb dX9_copy_111 ?_
                      refine lv_iload_n hx hb dX9_copy_112 rfl (lv_at hl 3 rfl) ?_
                      refine lv_iadd hx hb dX9_copy_113 ?_
                      refine lv_iload hx hb dX9_copy_114 (lv_at hl 0 rfl) ?_
                      refine lv_iadd hx hb dX9_copy_116 ?_
                      obtain ⟨hi30, h⟩ := chk_e h
                      refine va_lald hx hb hK hP 3 2 rfl rfl hi30 dX9_copy_117 ?_
                      obtain ⟨hi31, h⟩ := chk_e h
                      refine va_last hx hb hK hP hD hS 4 2 rfl rfl hi31 dX9_copy_118 (fun H locs hP hD hS => ?_)
                      have hP : va_P D vwCl [(a_t, .inr (9, [g_t_now, g_t_tape, g_t_typed, g_t_place, g_t_isFault, g_t_readLaw, g_t_read, g_t_undone, g_t_undos, g_t_aside, g_t_coat, g_t_bestCoats, g_t_bestStand, g_t_bestPaint, g_t_kept, g_t_keptUndos, g_t_isKept, .ref a_t_lanes, .ref a_t_sizes, .ref a_t_items, .ref a_t_moved])), (a_t_lanes, .inl (cy 0, 4, .inl t_lanes)), (a_t_sizes, .inl (cy 0, 4, .inl t_sizes)), (a_t_items, .inl (cy 2, 96, .inr (.inl t_items))), (a_t_moved, .inl (cy 2, 24, .inr (.inl (vp_updL w14 x13.toNatClampNeg (t_items (((24 * p0) + p1) + x13).toNatClampNeg)))))] H := hP
                      have hD : va_D A [(a_t, .inr (9, [g_t_now, g_t_tape, g_t_typed, g_t_place, g_t_isFault, g_t_readLaw, g_t_read, g_t_undone, g_t_undos, g_t_aside, g_t_coat, g_t_bestCoats, g_t_bestStand, g_t_bestPaint, g_t_kept, g_t_keptUndos, g_t_isKept, .ref a_t_lanes, .ref a_t_sizes, .ref a_t_items, .ref a_t_moved])), (a_t_lanes, .inl (cy 0, 4, .inl t_lanes)), (a_t_sizes, .inl (cy 0, 4, .inl t_sizes)), (a_t_items, .inl (cy 2, 96, .inr (.inl t_items))), (a_t_moved, .inl (cy 2, 24, .inr (.inl (vp_updL w14 x13.toNatClampNeg (t_items (((24 * p0) + p1) + x13).toNatClampNeg)))))] := hD
                      obtain ⟨x32, ex32⟩ : ∃ y : Int32, y = x13 + 1 := ⟨_, rfl⟩
                      have h := bnd_e ex32 h
                      refine lv_iinc (v := x32) (lv' := [(7, .int x32), (0, .ref a_t), (1, .int p0), (2, .int p1), (3, .int p2), (4, .int p3), (5, .int p4)]) hx hb dX9_copy_119 hl (k := 0) rfl (inc_e kI_1 ex32) (by decide) rfl (fun ls hl => ?_)
                      refine lv_goto (tgt := 91) hx hb dX9_copy_122 (by decide) ?_
                      exact ih x32 (vp_updL w14 x13.toNatClampNeg (t_items (((24 * p0) + p1) + x13).toNatClampNeg)) _ _ _ hP hD hS (lv_sub hl [0, 1, 2, 3, 4, 5, 6] rfl) h
              exact L27 F 0 t_moved _ _ _ hP hD hS (lv_sub hl [0, 2, 3, 4, 5, 6, 7] rfl) h
            · have h := it_f c12 h
              refine lv_iload hx hb dX9_copy_85 (lv_at hl 0 rfl) ?_
              exact hret _ _ _ _ ls 87 dX9_copy_87 rfl (by rw [← Option.some.inj h]) (by rw [← Option.some.inj h]) hP hD hS
          refine lv_if_ne (tgt := 76) hx hb dX9_copy_56 (by decide) (fun c34 => ?_) (fun c34 => ?_)
          · have h := it_f c34 h
            refine lv_iload hx hb dX9_copy_76 (lv_at hl 0 rfl) ?_
            exact J33 v10 _ _ _ hP hD hS (lv_sub hl [1, 2, 3, 4, 5, 6] rfl) h
          · have h := it_t c34 h
            refine lv_aload_n hx hb dX9_copy_59 rfl (lv_at hl 1 rfl) ?_
            refine lv_iload_n hx hb dX9_copy_60 rfl (lv_at hl 2 rfl) ?_
            refine lv_aload_n hx hb dX9_copy_61 rfl (lv_at hl 1 rfl) ?_
            refine va_get (D := D) (ci := 9) (v := .ref a_t_lanes) (C := RX9) (T := TX9) (N := 21) hx hb hg inG_X9 hown hK hP 0 rfl rfl 17 (by decide) (hg _ q_962) (fun _ h9 => h9) rfl dX9_copy_62 ?_
            refine lv_iload_n hx hb dX9_copy_65 rfl (lv_at hl 2 rfl) ?_
            obtain ⟨hi35, h⟩ := chk_e h
            refine va_iald hx hb hK hP 1 0 rfl rfl hi35 dX9_copy_66 ?_
            refine lv_iload_n hx hb dX9_copy_67 rfl (lv_at hl 3 rfl) ?_
            refine lv_iload hx hb dX9_copy_68 (lv_at hl 6 rfl) ?_
            obtain ⟨v36, hv36, h⟩ := bind_e h
            refine callRV (As := [.int p0, .int (t_lanes p0.toNatClampNeg), .int p1, .int p4]) (rest := []) (v0 := .int v36) hx hb hml hown hg (c_X9_why l D cy a_t a_t_lanes a_t_sizes (g_t_now) (g_t_tape) (g_t_typed) (g_t_place) (g_t_isFault) (g_t_readLaw) (g_t_read) (g_t_undone) (g_t_undos) (g_t_aside) (g_t_coat) (g_t_bestCoats) (g_t_bestStand) (g_t_bestPaint) (g_t_kept) (g_t_keptUndos) (g_t_isKept) (.ref a_t_items) (.ref a_t_moved) t_lanes t_sizes p0 (t_lanes p0.toNatClampNeg) p1 p4 v36 hv36) q_1279 q_1276 q_63 q_1278 q_51 hd_X9_why ⟨(Nat.le_of_ble_eq_true rfl), (Nat.le_of_ble_eq_true rfl)⟩ hK hP [0, 1, 2] rfl 0 9 rfl rfl rfl rfl rfl rfl hl.1 rfl (Nat.le_of_ble_eq_true rfl) dX9_copy_70 ?_
            refine lv_goto (tgt := 78) hx hb dX9_copy_73 (by decide) ?_
            exact J33 v36 _ _ _ hP hD hS (lv_sub hl [1, 2, 3, 4, 5, 6] rfl) h
        · have h := it_f c8 h
          refine lv_bipush (v := (-11)) hx hb dX9_copy_34 kB_m11 ?_
          exact hret _ _ _ _ ls 36 dX9_copy_36 rfl (by rw [← Option.some.inj h]) (by rw [← Option.some.inj h]) hP hD hS
    · have h := it_t c4 h
      refine lv_iconst (v := (-1)) hx hb dX9_copy_14 kI_m1 ?_
      exact hret _ _ _ _ ls 15 dX9_copy_15 rfl (by rw [← Option.some.inj h]) (by rw [← Option.some.inj h]) hP hD hS
