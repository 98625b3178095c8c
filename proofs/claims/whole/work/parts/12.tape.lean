def m_X6_append (t_letters : Nat → Int32) (t_length : Int32) (p0 : Int32) : Option ((Nat → Int32) × Int32) := chk t_length 60 (some (upd t_letters t_length.toNatClampNeg (vp_nar .char p0), t_length + 1))
set_option maxHeartbeats 4000000 in
set_option maxRecDepth 100000 in
theorem c_X6_append (l : Launch) (D : va_G) (cy : Nat → ClassId) (a_t : Nat) (a_t_letters : Nat) (sz : Nat) (g_t_told : Value) (g_t_place : Value) (g_t_faulty : Value) (t_letters : Nat → Int32) (t_length : Int32) (p0 : Int32) (out : (Nat → Int32) × Int32) (h : m_X6_append t_letters t_length p0 = some out) : MetM l D cy yX6_append cX6_append 2 none (rmG 0 0) [.ref a_t, .int p0] sz [(a_t, .inr (6, [.ref a_t_letters, g_t_told, .int t_length, g_t_place, g_t_faulty])), (a_t_letters, .inl (cy 1, 60, .inl t_letters))] none [(a_t, .inr (6, [.ref a_t_letters, g_t_told, .int out.2, g_t_place, g_t_faulty])), (a_t_letters, .inl (cy 1, 60, .inl out.1))] := by
  refine startMv (own := RX6) (by decide) rfl (Nat.le_of_ble_eq_true rfl) ?_
  intro p e s m below meth c QQ A hx hb hml hown hg hK hP hD hS hA hret ls hl
  have hl : lv_has ls 2 [(0, .ref a_t), (1, .int p0)] := hl
  unfold m_X6_append at h
  refine lv_aload_n hx hb dX6_append_0 rfl (lv_at hl 0 rfl) ?_
  refine va_get (D := D) (ci := 6) (v := .ref a_t_letters) (C := RX6) (T := TX6) (N := 5) hx hb hg inG_X6 hown hK hP 0 rfl rfl 0 (by decide) (hg _ q_182) (fun _ h9 => h9) rfl dX6_append_1 ?_
  refine lv_aload_n hx hb dX6_append_4 rfl (lv_at hl 0 rfl) ?_
  refine va_get (D := D) (ci := 6) (v := .int t_length) (C := RX6) (T := TX6) (N := 5) hx hb hg inG_X6 hown hK hP 0 rfl rfl 2 (by decide) (hg _ q_185) (fun _ h9 => h9) rfl dX6_append_5 ?_
  refine lv_iload_n hx hb dX6_append_8 rfl (lv_at hl 1 rfl) ?_
  obtain ⟨hi1, h⟩ := chk_e h
  refine va_cast hx hb hK hP hD hS 1 1 rfl rfl hi1 dX6_append_9 (fun H locs hP hD hS => ?_)
  have hP : va_P D vwCl [(a_t, .inr (6, [.ref a_t_letters, g_t_told, .int t_length, g_t_place, g_t_faulty])), (a_t_letters, .inl (cy 1, 60, .inl (upd t_letters t_length.toNatClampNeg (vp_nar .char p0))))] H := hP
  have hD : va_D A [(a_t, .inr (6, [.ref a_t_letters, g_t_told, .int t_length, g_t_place, g_t_faulty])), (a_t_letters, .inl (cy 1, 60, .inl (upd t_letters t_length.toNatClampNeg (vp_nar .char p0))))] := hD
  refine lv_aload_n hx hb dX6_append_10 rfl (lv_at hl 0 rfl) ?_
  refine lv_dup hx hb dX6_append_11 rfl ?_
  refine va_get (D := D) (ci := 6) (v := .int t_length) (C := RX6) (T := TX6) (N := 5) hx hb hg inG_X6 hown hK hP 0 rfl rfl 2 (by decide) (hg _ q_185) (fun _ h9 => h9) rfl dX6_append_12 ?_
  refine lv_iconst (v := 1) hx hb dX6_append_15 kI_1 ?_
  refine lv_iadd hx hb dX6_append_16 ?_
  refine va_put (D := D) (ci := 6) (v := .int (t_length + 1)) (ty := .int) (C := RX6) (T := TX6) (N := 5) hx hb hg inG_X6 tyX6 tyX6_ok nmX6 hown hK hP hD hS 0 rfl rfl 2 (by decide) (hg _ q_185) (fun _ h9 => h9) rfl (tyX6_ok 2 (by decide)) rfl rfl (Nat.le_of_ble_eq_true rfl) dX6_append_17 (fun H locs hP hD hS => ?_)
  have hP : va_P D vwCl [(a_t, .inr (6, [.ref a_t_letters, g_t_told, .int (t_length + 1), g_t_place, g_t_faulty])), (a_t_letters, .inl (cy 1, 60, .inl (upd t_letters t_length.toNatClampNeg (vp_nar .char p0))))] H := hP
  have hD : va_D A [(a_t, .inr (6, [.ref a_t_letters, g_t_told, .int (t_length + 1), g_t_place, g_t_faulty])), (a_t_letters, .inl (cy 1, 60, .inl (upd t_letters t_length.toNatClampNeg (vp_nar .char p0))))] := hD
  exact hret _ _ _ ls 20 dX6_append_20 (by rw [← Option.some.inj h]) hP hD hS

def m_X6_isThere (t_length : Int32) (t_place : Int32) (t_faulty : Int32) : Option (Int32) := (if t_faulty = 0 then (if t_length ≤ t_place then some 0 else some 1) else some 0)
set_option maxHeartbeats 4000000 in
set_option maxRecDepth 100000 in
theorem c_X6_isThere (l : Launch) (D : va_G) (cy : Nat → ClassId) (a_t : Nat) (g_t_letters : Value) (g_t_told : Value) (t_length : Int32) (t_place : Int32) (t_faulty : Int32) (out : Int32) (h : m_X6_isThere t_length t_place t_faulty = some out) : MetR l D cy yX6_isThere cX6_isThere 1 (some .boolean) (rmG 0 0) [.ref a_t] [(a_t, .inr (6, [g_t_letters, g_t_told, .int t_length, .int t_place, .int t_faulty]))] (some (.int out)) := by
  refine startR (own := RX6) (by decide) rfl (Nat.le_of_ble_eq_true rfl) ?_
  intro p e s m below meth c QQ hx hb hml hown hg hK hP hret ls hl
  have hl : lv_has ls 1 [(0, .ref a_t)] := hl
  unfold m_X6_isThere at h
  refine lv_aload_n hx hb dX6_isThere_0 rfl (lv_at hl 0 rfl) ?_
  refine va_get (D := D) (ci := 6) (v := .int t_faulty) (C := RX6) (T := TX6) (N := 5) hx hb hg inG_X6 hown hK hP 0 rfl rfl 4 (by decide) (hg _ q_188) (fun _ h9 => h9) rfl dX6_isThere_1 ?_
  refine lv_if_ne (tgt := 22) hx hb dX6_isThere_4 (by decide) (fun c1 => ?_) (fun c1 => ?_)
  · have h := it_f c1 h
    refine lv_iconst (v := 0) hx hb dX6_isThere_22 kI_0 ?_
    exact hret _ ls 23 dX6_isThere_23 (nar_z (Or.inl rfl)) (congrArg (fun z => some (Value.int z)) (Option.some.inj h))
  · have h := it_t c1 h
    refine lv_aload_n hx hb dX6_isThere_7 rfl (lv_at hl 0 rfl) ?_
    refine va_get (D := D) (ci := 6) (v := .int t_place) (C := RX6) (T := TX6) (N := 5) hx hb hg inG_X6 hown hK hP 0 rfl rfl 3 (by decide) (hg _ q_187) (fun _ h9 => h9) rfl dX6_isThere_8 ?_
    refine lv_aload_n hx hb dX6_isThere_11 rfl (lv_at hl 0 rfl) ?_
    refine va_get (D := D) (ci := 6) (v := .int t_length) (C := RX6) (T := TX6) (N := 5) hx hb hg inG_X6 hown hK hP 0 rfl rfl 2 (by decide) (hg _ q_185) (fun _ h9 => h9) rfl dX6_isThere_12 ?_
    refine lv_icmp_ge (tgt := 22) hx hb dX6_isThere_15 (by decide) (fun c2 => ?_) (fun c2 => ?_)
    · have h := it_t c2 h
      refine lv_iconst (v := 0) hx hb dX6_isThere_22 kI_0 ?_
      exact hret _ ls 23 dX6_isThere_23 (nar_z (Or.inl rfl)) (congrArg (fun z => some (Value.int z)) (Option.some.inj h))
    · have h := it_f c2 h
      refine lv_iconst (v := 1) hx hb dX6_isThere_18 kI_1 ?_
      refine lv_goto (tgt := 23) hx hb dX6_isThere_19 (by decide) ?_
      exact hret _ ls 23 dX6_isThere_23 (nar_z (Or.inr rfl)) (congrArg (fun z => some (Value.int z)) (Option.some.inj h))

def m_X6_isDigitThere (t_letters : Nat → Int32) (t_length : Int32) (t_place : Int32) (t_faulty : Int32) : Option (Int32) := (if t_faulty = 0 then (if t_length ≤ t_place then some 0 else chk t_place 60 ((if (t_letters t_place.toNatClampNeg) < 48 then some 0 else chk t_place 60 ((if 57 < (t_letters t_place.toNatClampNeg) then some 0 else some 1))))) else some 0)
set_option maxHeartbeats 4000000 in
set_option maxRecDepth 100000 in
theorem c_X6_isDigitThere (l : Launch) (D : va_G) (cy : Nat → ClassId) (a_t : Nat) (a_t_letters : Nat) (g_t_told : Value) (t_letters : Nat → Int32) (t_length : Int32) (t_place : Int32) (t_faulty : Int32) (out : Int32) (h : m_X6_isDigitThere t_letters t_length t_place t_faulty = some out) : MetR l D cy yX6_isDigitThere cX6_isDigitThere 1 (some .boolean) (rmG 0 0) [.ref a_t] [(a_t, .inr (6, [.ref a_t_letters, g_t_told, .int t_length, .int t_place, .int t_faulty])), (a_t_letters, .inl (cy 1, 60, .inl t_letters))] (some (.int out)) := by
  refine startR (own := RX6) (by decide) rfl (Nat.le_of_ble_eq_true rfl) ?_
  intro p e s m below meth c QQ hx hb hml hown hg hK hP hret ls hl
  have hl : lv_has ls 1 [(0, .ref a_t)] := hl
  unfold m_X6_isDigitThere at h
  refine lv_aload_n hx hb dX6_isDigitThere_0 rfl (lv_at hl 0 rfl) ?_
  refine va_get (D := D) (ci := 6) (v := .int t_faulty) (C := RX6) (T := TX6) (N := 5) hx hb hg inG_X6 hown hK hP 0 rfl rfl 4 (by decide) (hg _ q_188) (fun _ h9 => h9) rfl dX6_isDigitThere_1 ?_
  refine lv_if_ne (tgt := 50) hx hb dX6_isDigitThere_4 (by decide) (fun c1 => ?_) (fun c1 => ?_)
  · have h := it_f c1 h
    refine lv_iconst (v := 0) hx hb dX6_isDigitThere_50 kI_0 ?_
    exact hret _ ls 51 dX6_isDigitThere_51 (nar_z (Or.inl rfl)) (congrArg (fun z => some (Value.int z)) (Option.some.inj h))
  · have h := it_t c1 h
    refine lv_aload_n hx hb dX6_isDigitThere_7 rfl (lv_at hl 0 rfl) ?_
    refine va_get (D := D) (ci := 6) (v := .int t_place) (C := RX6) (T := TX6) (N := 5) hx hb hg inG_X6 hown hK hP 0 rfl rfl 3 (by decide) (hg _ q_187) (fun _ h9 => h9) rfl dX6_isDigitThere_8 ?_
    refine lv_aload_n hx hb dX6_isDigitThere_11 rfl (lv_at hl 0 rfl) ?_
    refine va_get (D := D) (ci := 6) (v := .int t_length) (C := RX6) (T := TX6) (N := 5) hx hb hg inG_X6 hown hK hP 0 rfl rfl 2 (by decide) (hg _ q_185) (fun _ h9 => h9) rfl dX6_isDigitThere_12 ?_
    refine lv_icmp_ge (tgt := 50) hx hb dX6_isDigitThere_15 (by decide) (fun c2 => ?_) (fun c2 => ?_)
    · have h := it_t c2 h
      refine lv_iconst (v := 0) hx hb dX6_isDigitThere_50 kI_0 ?_
      exact hret _ ls 51 dX6_isDigitThere_51 (nar_z (Or.inl rfl)) (congrArg (fun z => some (Value.int z)) (Option.some.inj h))
    · have h := it_f c2 h
      refine lv_aload_n hx hb dX6_isDigitThere_18 rfl (lv_at hl 0 rfl) ?_
      refine va_get (D := D) (ci := 6) (v := .ref a_t_letters) (C := RX6) (T := TX6) (N := 5) hx hb hg inG_X6 hown hK hP 0 rfl rfl 0 (by decide) (hg _ q_182) (fun _ h9 => h9) rfl dX6_isDigitThere_19 ?_
      refine lv_aload_n hx hb dX6_isDigitThere_22 rfl (lv_at hl 0 rfl) ?_
      refine va_get (D := D) (ci := 6) (v := .int t_place) (C := RX6) (T := TX6) (N := 5) hx hb hg inG_X6 hown hK hP 0 rfl rfl 3 (by decide) (hg _ q_187) (fun _ h9 => h9) rfl dX6_isDigitThere_23 ?_
      obtain ⟨hi3, h⟩ := chk_e h
      refine va_cald hx hb hK hP 1 1 rfl rfl hi3 dX6_isDigitThere_26 ?_
      refine lv_bipush (v := 48) hx hb dX6_isDigitThere_27 kB_48 ?_
      refine lv_icmp_lt (tgt := 50) hx hb dX6_isDigitThere_29 (by decide) (fun c4 => ?_) (fun c4 => ?_)
      · have h := it_t c4 h
        refine lv_iconst (v := 0) hx hb dX6_isDigitThere_50 kI_0 ?_
        exact hret _ ls 51 dX6_isDigitThere_51 (nar_z (Or.inl rfl)) (congrArg (fun z => some (Value.int z)) (Option.some.inj h))
      · have h := it_f c4 h
        refine lv_aload_n hx hb dX6_isDigitThere_32 rfl (lv_at hl 0 rfl) ?_
        refine va_get (D := D) (ci := 6) (v := .ref a_t_letters) (C := RX6) (T := TX6) (N := 5) hx hb hg inG_X6 hown hK hP 0 rfl rfl 0 (by decide) (hg _ q_182) (fun _ h9 => h9) rfl dX6_isDigitThere_33 ?_
        refine lv_aload_n hx hb dX6_isDigitThere_36 rfl (lv_at hl 0 rfl) ?_
        refine va_get (D := D) (ci := 6) (v := .int t_place) (C := RX6) (T := TX6) (N := 5) hx hb hg inG_X6 hown hK hP 0 rfl rfl 3 (by decide) (hg _ q_187) (fun _ h9 => h9) rfl dX6_isDigitThere_37 ?_
        obtain ⟨hi5, h⟩ := chk_e h
        refine va_cald hx hb hK hP 1 1 rfl rfl hi5 dX6_isDigitThere_40 ?_
        refine lv_bipush (v := 57) hx hb dX6_isDigitThere_41 kB_57 ?_
        refine lv_icmp_gt (tgt := 50) hx hb dX6_isDigitThere_43 (by decide) (fun c6 => ?_) (fun c6 => ?_)
        · have h := it_t c6 h
          refine lv_iconst (v := 0) hx hb dX6_isDigitThere_50 kI_0 ?_
          exact hret _ ls 51 dX6_isDigitThere_51 (nar_z (Or.inl rfl)) (congrArg (fun z => some (Value.int z)) (Option.some.inj h))
        · have h := it_f c6 h
          refine lv_iconst (v := 1) hx hb dX6_isDigitThere_46 kI_1 ?_
          refine lv_goto (tgt := 51) hx hb dX6_isDigitThere_47 (by decide) ?_
          exact hret _ ls 51 dX6_isDigitThere_51 (nar_z (Or.inr rfl)) (congrArg (fun z => some (Value.int z)) (Option.some.inj h))

def m_X6_skipBlanks_L7s (t_letters : Nat → Int32) (t_length : Int32) (k4 : Int32 → Option (Int32)) (r6 : Int32 → Option (Int32)) (w2 : Int32) : Option (Int32) := (if t_length ≤ w2 then k4 w2 else chk w2 60 ((if (t_letters w2.toNatClampNeg) = 32 then r6 (w2 + 1) else k4 w2)))
def m_X6_skipBlanks_L7 (t_letters : Nat → Int32) (t_length : Int32) (k4 : Int32 → Option (Int32)) : Nat → Int32 → Option (Int32)
  | 0 => fun _ => none
  | nF + 1 => m_X6_skipBlanks_L7s t_letters t_length k4 (m_X6_skipBlanks_L7 t_letters t_length k4 nF)
def m_X6_skipBlanks (F : Nat) (t_letters : Nat → Int32) (t_length : Int32) (t_place : Int32) (t_faulty : Int32) : Option (Int32) := (if t_faulty = 0 then m_X6_skipBlanks_L7 t_letters t_length (fun (w3 : Int32) => some w3) F t_place else some t_place)
set_option maxHeartbeats 4000000 in
set_option maxRecDepth 100000 in
theorem c_X6_skipBlanks (l : Launch) (D : va_G) (cy : Nat → ClassId) (a_t : Nat) (a_t_letters : Nat) (sz : Nat) (g_t_told : Value) (t_letters : Nat → Int32) (t_length : Int32) (t_place : Int32) (t_faulty : Int32) (F : Nat) (out : Int32) (h : m_X6_skipBlanks F t_letters t_length t_place t_faulty = some out) : MetM l D cy yX6_skipBlanks cX6_skipBlanks 1 none (rmG 0 0) [.ref a_t] sz [(a_t, .inr (6, [.ref a_t_letters, g_t_told, .int t_length, .int t_place, .int t_faulty])), (a_t_letters, .inl (cy 1, 60, .inl t_letters))] none [(a_t, .inr (6, [.ref a_t_letters, g_t_told, .int t_length, .int out, .int t_faulty])), (a_t_letters, .inl (cy 1, 60, .inl t_letters))] := by
  refine startMv (own := RX6) (by decide) rfl (Nat.le_of_ble_eq_true rfl) ?_
  intro p e s m below meth c QQ A hx hb hml hown hg hK hP hD hS hA hret ls hl
  have hl : lv_has ls 1 [(0, .ref a_t)] := hl
  unfold m_X6_skipBlanks at h
  refine lv_aload_n hx hb dX6_skipBlanks_0 rfl (lv_at hl 0 rfl) ?_
  refine va_get (D := D) (ci := 6) (v := .int t_faulty) (C := RX6) (T := TX6) (N := 5) hx hb hg inG_X6 hown hK hP 0 rfl rfl 4 (by decide) (hg _ q_188) (fun _ h9 => h9) rfl dX6_skipBlanks_1 ?_
  refine lv_if_ne (tgt := 45) hx hb dX6_skipBlanks_4 (by decide) (fun c1 => ?_) (fun c1 => ?_)
  · have h := it_f c1 h
    exact hret _ _ _ ls 45 dX6_skipBlanks_45 (by rw [← Option.some.inj h]) hP hD hS
  · have h := it_t c1 h
    obtain ⟨k4, hk4, h⟩ := kap (fun z => m_X6_skipBlanks_L7 t_letters t_length z F t_place) h
    have J4 : ∀ (w3 : Int32) (H : Heap) (locs : List Loc) (ls : Array Slot), va_P D vwCl [(a_t, .inr (6, [.ref a_t_letters, g_t_told, .int t_length, .int w3, .int t_faulty])), (a_t_letters, .inl (cy 1, 60, .inl t_letters))] H → va_D A [(a_t, .inr (6, [.ref a_t_letters, g_t_told, .int t_length, .int w3, .int t_faulty])), (a_t_letters, .inl (cy 1, 60, .inl t_letters))] → va_S A s.heap H locs → lv_has ls 1 [] → k4 w3 = some out → W p l e (rmG 0 0) s m [.ref a_t].toArray below meth c H locs 0 0 QQ (F0 m 45 ls []) := by
      intro w3 H locs ls hP hD hS hl h
      rw [hk4] at h
      exact hret _ _ _ ls 45 dX6_skipBlanks_45 (by rw [← Option.some.inj h]) hP hD hS
    have L5 : ∀ (n5 : Nat) (w2 : Int32) (H : Heap) (locs : List Loc) (ls : Array Slot), va_P D vwCl [(a_t, .inr (6, [.ref a_t_letters, g_t_told, .int t_length, .int w2, .int t_faulty])), (a_t_letters, .inl (cy 1, 60, .inl t_letters))] H → va_D A [(a_t, .inr (6, [.ref a_t_letters, g_t_told, .int t_length, .int w2, .int t_faulty])), (a_t_letters, .inl (cy 1, 60, .inl t_letters))] → va_S A s.heap H locs → lv_has ls 1 [(0, .ref a_t)] → m_X6_skipBlanks_L7 t_letters t_length k4 n5 w2 = some out → W p l e (rmG 0 0) s m [.ref a_t].toArray below meth c H locs 0 0 QQ (F0 m 7 ls []) := by
      intro n5
      induction n5 with
      | zero => intro w2 H locs ls hP hD hS hl h; exact nomatch (show (none : Option (Int32)) = some out from h)
      | succ n5 ih =>
          intro w2 H locs ls hP hD hS hl h
          have h : m_X6_skipBlanks_L7s t_letters t_length k4 (m_X6_skipBlanks_L7 t_letters t_length k4 n5) w2 = some out := h
          unfold m_X6_skipBlanks_L7s at h
          refine lv_aload_n hx hb dX6_skipBlanks_7 rfl (lv_at hl 0 rfl) ?_
          refine va_get (D := D) (ci := 6) (v := .int w2) (C := RX6) (T := TX6) (N := 5) hx hb hg inG_X6 hown hK hP 0 rfl rfl 3 (by decide) (hg _ q_187) (fun _ h9 => h9) rfl dX6_skipBlanks_8 ?_
          refine lv_aload_n hx hb dX6_skipBlanks_11 rfl (lv_at hl 0 rfl) ?_
          refine va_get (D := D) (ci := 6) (v := .int t_length) (C := RX6) (T := TX6) (N := 5) hx hb hg inG_X6 hown hK hP 0 rfl rfl 2 (by decide) (hg _ q_185) (fun _ h9 => h9) rfl dX6_skipBlanks_12 ?_
          refine lv_icmp_ge (tgt := 45) hx hb dX6_skipBlanks_15 (by decide) (fun c7 => ?_) (fun c7 => ?_)
          · have h := it_t c7 h
            exact J4 w2 _ _ _ hP hD hS (lv_sub hl [] rfl) h
          · have h := it_f c7 h
            refine lv_aload_n hx hb dX6_skipBlanks_18 rfl (lv_at hl 0 rfl) ?_
            refine va_get (D := D) (ci := 6) (v := .ref a_t_letters) (C := RX6) (T := TX6) (N := 5) hx hb hg inG_X6 hown hK hP 0 rfl rfl 0 (by decide) (hg _ q_182) (fun _ h9 => h9) rfl dX6_skipBlanks_19 ?_
            refine lv_aload_n hx hb dX6_skipBlanks_22 rfl (lv_at hl 0 rfl) ?_
            refine va_get (D := D) (ci := 6) (v := .int w2) (C := RX6) (T := TX6) (N := 5) hx hb hg inG_X6 hown hK hP 0 rfl rfl 3 (by decide) (hg _ q_187) (fun _ h9 => h9) rfl dX6_skipBlanks_23 ?_
            obtain ⟨hi8, h⟩ := chk_e h
            refine va_cald hx hb hK hP 1 1 rfl rfl hi8 dX6_skipBlanks_26 ?_
            refine lv_bipush (v := 32) hx hb dX6_skipBlanks_27 kB_32 ?_
            refine lv_icmp_ne (tgt := 45) hx hb dX6_skipBlanks_29 (by decide) (fun c9 => ?_) (fun c9 => ?_)
            · have h := it_f c9 h
              exact J4 w2 _ _ _ hP hD hS (lv_sub hl [] rfl) h
            · have h := it_t c9 h
              refine lv_aload_n hx hb dX6_skipBlanks_32 rfl (lv_at hl 0 rfl) ?_
              refine lv_dup hx hb dX6_skipBlanks_33 rfl ?_
              refine va_get (D := D) (ci := 6) (v := .int w2) (C := RX6) (T := TX6) (N := 5) hx hb hg inG_X6 hown hK hP 0 rfl rfl 3 (by decide) (hg _ q_187) (fun _ h9 => h9) rfl dX6_skipBlanks_34 ?_
              refine lv_iconst (v := 1) hx hb dX6_skipBlanks_37 kI_1 ?_
              refine lv_iadd hx hb dX6_skipBlanks_38 ?_
              refine va_put (D := D) (ci := 6) (v := .int (w2 + 1)) (ty := .int) (C := RX6) (T := TX6) (N := 5) hx hb hg inG_X6 tyX6 tyX6_ok nmX6 hown hK hP hD hS 0 rfl rfl 3 (by decide) (hg _ q_187) (fun _ h9 => h9) rfl (tyX6_ok 3 (by decide)) rfl rfl (Nat.le_of_ble_eq_true rfl) dX6_skipBlanks_39 (fun H locs hP hD hS => ?_)
              have hP : va_P D vwCl [(a_t, .inr (6, [.ref a_t_letters, g_t_told, .int t_length, .int (w2 + 1), .int t_faulty])), (a_t_letters, .inl (cy 1, 60, .inl t_letters))] H := hP
              have hD : va_D A [(a_t, .inr (6, [.ref a_t_letters, g_t_told, .int t_length, .int (w2 + 1), .int t_faulty])), (a_t_letters, .inl (cy 1, 60, .inl t_letters))] := hD
              refine lv_goto (tgt := 7) hx hb dX6_skipBlanks_42 (by decide) ?_
              exact ih (w2 + 1) _ _ _ hP hD hS (lv_sub hl [0] rfl) h
    exact L5 F t_place _ _ _ hP hD hS (lv_sub hl [0] rfl) h

def m_X6_readDigit (F : Nat) (t_letters : Nat → Int32) (t_length : Int32) (t_place : Int32) (t_faulty : Int32) : Option (Int32 × Int32 × Int32) := (m_X6_skipBlanks F t_letters t_length t_place t_faulty).bind (fun v1 => (m_X6_isDigitThere t_letters t_length v1 t_faulty).bind (fun v2 => (if v2 = 0 then some (0, v1, 1) else chk v1 60 (bnd ((t_letters v1.toNatClampNeg) - 48) (fun x5 => some (x5, v1 + 1, t_faulty))))))
set_option maxHeartbeats 4000000 in
set_option maxRecDepth 100000 in
theorem c_X6_readDigit (l : Launch) (D : va_G) (cy : Nat → ClassId) (a_t : Nat) (a_t_letters : Nat) (sz : Nat) (g_t_told : Value) (t_letters : Nat → Int32) (t_length : Int32) (t_place : Int32) (t_faulty : Int32) (F : Nat) (out : Int32 × Int32 × Int32) (h : m_X6_readDigit F t_letters t_length t_place t_faulty = some out) : MetM l D cy yX6_readDigit cX6_readDigit 2 (some .int) (rmG 1 20) [.ref a_t] sz [(a_t, .inr (6, [.ref a_t_letters, g_t_told, .int t_length, .int t_place, .int t_faulty])), (a_t_letters, .inl (cy 1, 60, .inl t_letters))] (some (.int out.1)) [(a_t, .inr (6, [.ref a_t_letters, g_t_told, .int t_length, .int out.2.1, .int out.2.2])), (a_t_letters, .inl (cy 1, 60, .inl t_letters))] := by
  refine startMi (own := RX6) (by decide) rfl (Nat.le_of_ble_eq_true rfl) ?_
  intro p e s m below meth c QQ A hx hb hml hown hg hK hP hD hS hA hret ls hl
  have hl : lv_has ls 2 [(0, .ref a_t)] := hl
  unfold m_X6_readDigit at h
  refine lv_aload_n hx hb dX6_readDigit_0 rfl (lv_at hl 0 rfl) ?_
  obtain ⟨v1, hv1, h⟩ := bind_e h
  refine callMV (As := []) (rest := []) (wr := []) (w2 := [(a_t, .inr (6, [.ref a_t_letters, g_t_told, .int t_length, .int v1, .int t_faulty])), (a_t_letters, .inl (cy 1, 60, .inl t_letters))]) hx hb hml hown hg (c_X6_skipBlanks l D cy a_t a_t_letters _ (g_t_told) t_letters t_length t_place t_faulty F v1 hv1) q_463 q_460 q_58 q_462 q_3 hd_X6_skipBlanks ⟨(Nat.le_of_ble_eq_true rfl), (Nat.le_of_ble_eq_true rfl)⟩ hK hP hD hS hA [0, 1] [] rfl rfl rfl rfl (by decide) [0, 1] rfl rfl 0 6 rfl rfl rfl rfl rfl rfl hl.1 rfl rfl (Nat.le_of_ble_eq_true rfl) dX6_readDigit_1 (fun H locs hP hD hS => ?_)
  refine lv_aload_n hx hb dX6_readDigit_4 rfl (lv_at hl 0 rfl) ?_
  obtain ⟨v2, hv2, h⟩ := bind_e h
  refine callRV (As := []) (rest := []) (v0 := .int v2) hx hb hml hown hg (c_X6_isDigitThere l D cy a_t a_t_letters (g_t_told) t_letters t_length v1 t_faulty v2 hv2) q_471 q_468 q_58 q_470 q_5 hd_X6_isDigitThere ⟨(Nat.le_of_ble_eq_true rfl), (Nat.le_of_ble_eq_true rfl)⟩ hK hP [0, 1] rfl 0 6 rfl rfl rfl rfl rfl rfl hl.1 rfl (Nat.le_of_ble_eq_true rfl) dX6_readDigit_5 ?_
  refine lv_if_ne (tgt := 18) hx hb dX6_readDigit_8 (by decide) (fun c3 => ?_) (fun c3 => ?_)
  · have h := it_f c3 h
    refine lv_aload_n hx hb dX6_readDigit_18 rfl (lv_at hl 0 rfl) ?_
    refine va_get (D := D) (ci := 6) (v := .ref a_t_letters) (C := RX6) (T := TX6) (N := 5) hx hb hg inG_X6 hown hK hP 0 rfl rfl 0 (by decide) (hg _ q_182) (fun _ h9 => h9) rfl dX6_readDigit_19 ?_
    refine lv_aload_n hx hb dX6_readDigit_22 rfl (lv_at hl 0 rfl) ?_
    refine va_get (D := D) (ci := 6) (v := .int v1) (C := RX6) (T := TX6) (N := 5) hx hb hg inG_X6 hown hK hP 0 rfl rfl 3 (by decide) (hg _ q_187) (fun _ h9 => h9) rfl dX6_readDigit_23 ?_
    obtain ⟨hi4, h⟩ := chk_e h
    refine va_cald hx hb hK hP 1 1 rfl rfl hi4 dX6_readDigit_26 ?_
    refine lv_bipush (v := 48) hx hb dX6_readDigit_27 kB_48 ?_
    refine lv_isub hx hb dX6_readDigit_29 ?_
    refine lv_topi (fun x5 ex5 => ?_)
    have h := bnd_e ex5 h
    refine lv_istore_n (lv' := [(1, .int x5), (0, .ref a_t)]) hx hb dX6_readDigit_30 rfl hl (by decide) rfl (fun ls hl => ?_)
    refine lv_aload_n hx hb dX6_readDigit_31 rfl (lv_at hl 1 rfl) ?_
    refine lv_dup hx hb dX6_readDigit_32 rfl ?_
    refine va_get (D := D) (ci := 6) (v := .int v1) (C := RX6) (T := TX6) (N := 5) hx hb hg inG_X6 hown hK hP 0 rfl rfl 3 (by decide) (hg _ q_187) (fun _ h9 => h9) rfl dX6_readDigit_33 ?_
    refine lv_iconst (v := 1) hx hb dX6_readDigit_36 kI_1 ?_
    refine lv_iadd hx hb dX6_readDigit_37 ?_
    refine va_put (D := D) (ci := 6) (v := .int (v1 + 1)) (ty := .int) (C := RX6) (T := TX6) (N := 5) hx hb hg inG_X6 tyX6 tyX6_ok nmX6 hown hK hP hD hS 0 rfl rfl 3 (by decide) (hg _ q_187) (fun _ h9 => h9) rfl (tyX6_ok 3 (by decide)) rfl rfl (Nat.le_of_ble_eq_true rfl) dX6_readDigit_38 (fun H locs hP hD hS => ?_)
    have hP : va_P D vwCl [(a_t, .inr (6, [.ref a_t_letters, g_t_told, .int t_length, .int (v1 + 1), .int t_faulty])), (a_t_letters, .inl (cy 1, 60, .inl t_letters))] H := hP
    have hD : va_D A [(a_t, .inr (6, [.ref a_t_letters, g_t_told, .int t_length, .int (v1 + 1), .int t_faulty])), (a_t_letters, .inl (cy 1, 60, .inl t_letters))] := hD
    refine lv_iload_n hx hb dX6_readDigit_41 rfl (lv_at hl 0 rfl) ?_
    exact hret _ _ _ _ ls 42 dX6_readDigit_42 rfl (by rw [← Option.some.inj h]) (by rw [← Option.some.inj h]) hP hD hS
  · have h := it_t c3 h
    refine lv_aload_n hx hb dX6_readDigit_11 rfl (lv_at hl 0 rfl) ?_
    refine lv_iconst (v := 1) hx hb dX6_readDigit_12 kI_1 ?_
    refine va_put (D := D) (ci := 6) (v := .int 1) (ty := .boolean) (C := RX6) (T := TX6) (N := 5) hx hb hg inG_X6 tyX6 tyX6_ok nmX6 hown hK hP hD hS 0 rfl rfl 4 (by decide) (hg _ q_188) (fun _ h9 => h9) rfl (tyX6_ok 4 (by decide)) (nar_z (Or.inr rfl)) (fit_z (Or.inr rfl)) (Nat.le_of_ble_eq_true rfl) dX6_readDigit_13 (fun H locs hP hD hS => ?_)
    have hP : va_P D vwCl [(a_t, .inr (6, [.ref a_t_letters, g_t_told, .int t_length, .int v1, .int 1])), (a_t_letters, .inl (cy 1, 60, .inl t_letters))] H := hP
    have hD : va_D A [(a_t, .inr (6, [.ref a_t_letters, g_t_told, .int t_length, .int v1, .int 1])), (a_t_letters, .inl (cy 1, 60, .inl t_letters))] := hD
    refine lv_iconst (v := 0) hx hb dX6_readDigit_16 kI_0 ?_
    exact hret _ _ _ _ ls 17 dX6_readDigit_17 rfl (by rw [← Option.some.inj h]) (by rw [← Option.some.inj h]) hP hD hS

def m_X6_readNumber (F : Nat) (t_letters : Nat → Int32) (t_length : Int32) (t_place : Int32) (t_faulty : Int32) (p0 : Int32) (p1 : Int32) : Option (Int32 × Int32 × Int32) := (m_X6_skipBlanks F t_letters t_length t_place t_faulty).bind (fun v1 => (m_X6_readDigit F t_letters t_length v1 t_faulty).bind (fun v2 => (m_X6_isDigitThere t_letters t_length v2.2.1 v2.2.2).bind (fun v3 => jn (fun (x4 : Int32) (w5 : Int32) (w6 : Int32) => (if w6 = 0 then (if p0 < x4 then some (x4, v1, 1) else (if ((p1 >>> (x4 &&& 31)) &&& 1) = 0 then some (x4, w5, w6) else some (x4, v1, 1))) else some (x4, w5, w6))) (fun k10 => (if v3 = 0 then k10 v2.1 v2.2.1 v2.2.2 else (m_X6_readDigit F t_letters t_length v2.2.1 v2.2.2).bind (fun v12 => bnd ((10 * v2.1) + v12.1) (fun x13 => k10 x13 v12.2.1 v12.2.2)))))))
set_option maxHeartbeats 4000000 in
set_option maxRecDepth 100000 in
theorem c_X6_readNumber (l : Launch) (D : va_G) (cy : Nat → ClassId) (a_t : Nat) (a_t_letters : Nat) (sz : Nat) (g_t_told : Value) (t_letters : Nat → Int32) (t_length : Int32) (t_place : Int32) (t_faulty : Int32) (p0 : Int32) (p1 : Int32) (F : Nat) (out : Int32 × Int32 × Int32) (h : m_X6_readNumber F t_letters t_length t_place t_faulty p0 p1 = some out) : MetM l D cy yX6_readNumber cX6_readNumber 5 (some .int) (rmG 2 41) [.ref a_t, .int p0, .int p1] sz [(a_t, .inr (6, [.ref a_t_letters, g_t_told, .int t_length, .int t_place, .int t_faulty])), (a_t_letters, .inl (cy 1, 60, .inl t_letters))] (some (.int out.1)) [(a_t, .inr (6, [.ref a_t_letters, g_t_told, .int t_length, .int out.2.1, .int out.2.2])), (a_t_letters, .inl (cy 1, 60, .inl t_letters))] := by
  refine startMi (own := RX6) (by decide) rfl (Nat.le_of_ble_eq_true rfl) ?_
  intro p e s m below meth c QQ A hx hb hml hown hg hK hP hD hS hA hret ls hl
  have hl : lv_has ls 5 [(0, .ref a_t), (1, .int p0), (2, .int p1)] := hl
  unfold m_X6_readNumber at h
  refine lv_aload_n hx hb dX6_readNumber_0 rfl (lv_at hl 0 rfl) ?_
  obtain ⟨v1, hv1, h⟩ := bind_e h
  refine callMV (As := []) (rest := []) (wr := []) (w2 := [(a_t, .inr (6, [.ref a_t_letters, g_t_told, .int t_length, .int v1, .int t_faulty])), (a_t_letters, .inl (cy 1, 60, .inl t_letters))]) hx hb hml hown hg (c_X6_skipBlanks l D cy a_t a_t_letters _ (g_t_told) t_letters t_length t_place t_faulty F v1 hv1) q_463 q_460 q_58 q_462 q_3 hd_X6_skipBlanks ⟨(Nat.le_of_ble_eq_true rfl), (Nat.le_of_ble_eq_true rfl)⟩ hK hP hD hS hA [0, 1] [] rfl rfl rfl rfl (by decide) [0, 1] rfl rfl 0 6 rfl rfl rfl rfl rfl rfl hl.1 rfl rfl (Nat.le_of_ble_eq_true rfl) dX6_readNumber_1 (fun H locs hP hD hS => ?_)
  refine lv_aload_n hx hb dX6_readNumber_4 rfl (lv_at hl 0 rfl) ?_
  refine va_get (D := D) (ci := 6) (v := .int v1) (C := RX6) (T := TX6) (N := 5) hx hb hg inG_X6 hown hK hP 0 rfl rfl 3 (by decide) (hg _ q_187) (fun _ h9 => h9) rfl dX6_readNumber_5 ?_
  refine lv_istore_n (lv' := [(3, .int v1), (0, .ref a_t), (1, .int p0), (2, .int p1)]) hx hb dX6_readNumber_8 rfl hl (by decide) rfl (fun ls hl => ?_)
  refine lv_aload_n hx hb dX6_readNumber_9 rfl (lv_at hl 1 rfl) ?_
  obtain ⟨v2, hv2, h⟩ := bind_e h
  refine callMV (As := []) (rest := []) (wr := []) (w2 := [(a_t, .inr (6, [.ref a_t_letters, g_t_told, .int t_length, .int v2.2.1, .int v2.2.2])), (a_t_letters, .inl (cy 1, 60, .inl t_letters))]) hx hb hml hown hg (c_X6_readDigit l D cy a_t a_t_letters _ (g_t_told) t_letters t_length v1 t_faulty F v2 hv2) q_467 q_464 q_58 q_466 q_4 hd_X6_readDigit ⟨(Nat.le_of_ble_eq_true rfl), (Nat.le_of_ble_eq_true rfl)⟩ hK hP hD hS hA [0, 1] [] rfl rfl rfl rfl (by decide) [0, 1] rfl rfl 0 6 rfl rfl rfl rfl rfl rfl hl.1 rfl rfl (Nat.le_of_ble_eq_true rfl) dX6_readNumber_10 (fun H locs hP hD hS => ?_)
  refine lv_istore (lv' := [(4, .int v2.1), (3, .int v1), (0, .ref a_t), (1, .int p0), (2, .int p1)]) hx hb dX6_readNumber_13 hl (by decide) rfl (fun ls hl => ?_)
  refine lv_aload_n hx hb dX6_readNumber_15 rfl (lv_at hl 2 rfl) ?_
  obtain ⟨v3, hv3, h⟩ := bind_e h
  refine callRV (As := []) (rest := []) (v0 := .int v3) hx hb hml hown hg (c_X6_isDigitThere l D cy a_t a_t_letters (g_t_told) t_letters t_length v2.2.1 v2.2.2 v3 hv3) q_471 q_468 q_58 q_470 q_5 hd_X6_isDigitThere ⟨(Nat.le_of_ble_eq_true rfl), (Nat.le_of_ble_eq_true rfl)⟩ hK hP [0, 1] rfl 0 6 rfl rfl rfl rfl rfl rfl hl.1 rfl (Nat.le_of_ble_eq_true rfl) dX6_readNumber_16 ?_
  obtain ⟨k10, hk10, h⟩ := jn_e h
  have J10 : ∀ (x4 : Int32) (w5 : Int32) (w6 : Int32) (H : Heap) (locs : List Loc) (ls : Array Slot), va_P D vwCl [(a_t, .inr (6, [.ref a_t_letters, g_t_told, .int t_length, .int w5, .int w6])), (a_t_letters, .inl (cy 1, 60, .inl t_letters))] H → va_D A [(a_t, .inr (6, [.ref a_t_letters, g_t_told, .int t_length, .int w5, .int w6])), (a_t_letters, .inl (cy 1, 60, .inl t_letters))] → va_S A s.heap H locs → lv_has ls 5 [(4, .int x4), (3, .int v1), (0, .ref a_t), (1, .int p0), (2, .int p1)] → k10 x4 w5 w6 = some out → W p l e (rmG 2 41) s m [.ref a_t, .int p0, .int p1].toArray below meth c H locs 0 0 QQ (F0 m 34 ls []) := by
    intro x4 w5 w6 H locs ls hP hD hS hl h
    rw [hk10] at h
    refine lv_aload_n hx hb dX6_readNumber_34 rfl (lv_at hl 2 rfl) ?_
    refine va_get (D := D) (ci := 6) (v := .int w6) (C := RX6) (T := TX6) (N := 5) hx hb hg inG_X6 hown hK hP 0 rfl rfl 4 (by decide) (hg _ q_188) (fun _ h9 => h9) rfl dX6_readNumber_35 ?_
    refine lv_if_ne (tgt := 66) hx hb dX6_readNumber_38 (by decide) (fun c7 => ?_) (fun c7 => ?_)
    · have h := it_f c7 h
      refine lv_iload hx hb dX6_readNumber_66 (lv_at hl 0 rfl) ?_
      exact hret _ _ _ _ ls 68 dX6_readNumber_68 rfl (by rw [← Option.some.inj h]) (by rw [← Option.some.inj h]) hP hD hS
    · have h := it_t c7 h
      refine lv_iload hx hb dX6_readNumber_41 (lv_at hl 0 rfl) ?_
      refine lv_iload_n hx hb dX6_readNumber_43 rfl (lv_at hl 3 rfl) ?_
      refine lv_icmp_gt (tgt := 56) hx hb dX6_readNumber_44 (by decide) (fun c8 => ?_) (fun c8 => ?_)
      · have h := it_t c8 h
        refine lv_aload_n hx hb dX6_readNumber_56 rfl (lv_at hl 2 rfl) ?_
        refine lv_iconst (v := 1) hx hb dX6_readNumber_57 kI_1 ?_
        refine va_put (D := D) (ci := 6) (v := .int 1) (ty := .boolean) (C := RX6) (T := TX6) (N := 5) hx hb hg inG_X6 tyX6 tyX6_ok nmX6 hown hK hP hD hS 0 rfl rfl 4 (by decide) (hg _ q_188) (fun _ h9 => h9) rfl (tyX6_ok 4 (by decide)) (nar_z (Or.inr rfl)) (fit_z (Or.inr rfl)) (Nat.le_of_ble_eq_true rfl) dX6_readNumber_58 (fun H locs hP hD hS => ?_)
        have hP : va_P D vwCl [(a_t, .inr (6, [.ref a_t_letters, g_t_told, .int t_length, .int w5, .int 1])), (a_t_letters, .inl (cy 1, 60, .inl t_letters))] H := hP
        have hD : va_D A [(a_t, .inr (6, [.ref a_t_letters, g_t_told, .int t_length, .int w5, .int 1])), (a_t_letters, .inl (cy 1, 60, .inl t_letters))] := hD
        refine lv_aload_n hx hb dX6_readNumber_61 rfl (lv_at hl 2 rfl) ?_
        refine lv_iload_n hx hb dX6_readNumber_62 rfl (lv_at hl 1 rfl) ?_
        refine va_put (D := D) (ci := 6) (v := .int v1) (ty := .int) (C := RX6) (T := TX6) (N := 5) hx hb hg inG_X6 tyX6 tyX6_ok nmX6 hown hK hP hD hS 0 rfl rfl 3 (by decide) (hg _ q_187) (fun _ h9 => h9) rfl (tyX6_ok 3 (by decide)) rfl rfl (Nat.le_of_ble_eq_true rfl) dX6_readNumber_63 (fun H locs hP hD hS => ?_)
        have hP : va_P D vwCl [(a_t, .inr (6, [.ref a_t_letters, g_t_told, .int t_length, .int v1, .int 1])), (a_t_letters, .inl (cy 1, 60, .inl t_letters))] H := hP
        have hD : va_D A [(a_t, .inr (6, [.ref a_t_letters, g_t_told, .int t_length, .int v1, .int 1])), (a_t_letters, .inl (cy 1, 60, .inl t_letters))] := hD
        refine lv_iload hx hb dX6_readNumber_66 (lv_at hl 0 rfl) ?_
        exact hret _ _ _ _ ls 68 dX6_readNumber_68 rfl (by rw [← Option.some.inj h]) (by rw [← Option.some.inj h]) hP hD hS
      · have h := it_f c8 h
        refine lv_iload_n hx hb dX6_readNumber_47 rfl (lv_at hl 4 rfl) ?_
        refine lv_iload hx hb dX6_readNumber_48 (lv_at hl 0 rfl) ?_
        refine lv_ishr hx hb dX6_readNumber_50 ?_
        refine lv_iconst (v := 1) hx hb dX6_readNumber_51 kI_1 ?_
        refine lv_iand hx hb dX6_readNumber_52 ?_
        refine lv_if_eq (tgt := 66) hx hb dX6_readNumber_53 (by decide) (fun c9 => ?_) (fun c9 => ?_)
        · have h := it_t c9 h
          refine lv_iload hx hb dX6_readNumber_66 (lv_at hl 0 rfl) ?_
          exact hret _ _ _ _ ls 68 dX6_readNumber_68 rfl (by rw [← Option.some.inj h]) (by rw [← Option.some.inj h]) hP hD hS
        · have h := it_f c9 h
          refine lv_aload_n hx hb dX6_readNumber_56 rfl (lv_at hl 2 rfl) ?_
          refine lv_iconst (v := 1) hx hb dX6_readNumber_57 kI_1 ?_
          refine va_put (D := D) (ci := 6) (v := .int 1) (ty := .boolean) (C := RX6) (T := TX6) (N := 5) hx hb hg inG_X6 tyX6 tyX6_ok nmX6 hown hK hP hD hS 0 rfl rfl 4 (by decide) (hg _ q_188) (fun _ h9 => h9) rfl (tyX6_ok 4 (by decide)) (nar_z (Or.inr rfl)) (fit_z (Or.inr rfl)) (Nat.le_of_ble_eq_true rfl) dX6_readNumber_58 (fun H locs hP hD hS => ?_)
          have hP : va_P D vwCl [(a_t, .inr (6, [.ref a_t_letters, g_t_told, .int t_length, .int w5, .int 1])), (a_t_letters, .inl (cy 1, 60, .inl t_letters))] H := hP
          have hD : va_D A [(a_t, .inr (6, [.ref a_t_letters, g_t_told, .int t_length, .int w5, .int 1])), (a_t_letters, .inl (cy 1, 60, .inl t_letters))] := hD
          refine lv_aload_n hx hb dX6_readNumber_61 rfl (lv_at hl 2 rfl) ?_
          refine lv_iload_n hx hb dX6_readNumber_62 rfl (lv_at hl 1 rfl) ?_
          refine va_put (D := D) (ci := 6) (v := .int v1) (ty := .int) (C := RX6) (T := TX6) (N := 5) hx hb hg inG_X6 tyX6 tyX6_ok nmX6 hown hK hP hD hS 0 rfl rfl 3 (by decide) (hg _ q_187) (fun _ h9 => h9) rfl (tyX6_ok 3 (by decide)) rfl rfl (Nat.le_of_ble_eq_true rfl) dX6_readNumber_63 (fun H locs hP hD hS => ?_)
          have hP : va_P D vwCl [(a_t, .inr (6, [.ref a_t_letters, g_t_told, .int t_length, .int v1, .int 1])), (a_t_letters, .inl (cy 1, 60, .inl t_letters))] H := hP
          have hD : va_D A [(a_t, .inr (6, [.ref a_t_letters, g_t_told, .int t_length, .int v1, .int 1])), (a_t_letters, .inl (cy 1, 60, .inl t_letters))] := hD
          refine lv_iload hx hb dX6_readNumber_66 (lv_at hl 0 rfl) ?_
          exact hret _ _ _ _ ls 68 dX6_readNumber_68 rfl (by rw [← Option.some.inj h]) (by rw [← Option.some.inj h]) hP hD hS
  refine lv_if_eq (tgt := 34) hx hb dX6_readNumber_19 (by decide) (fun c11 => ?_) (fun c11 => ?_)
  · have h := it_t c11 h
    exact J10 v2.1 v2.2.1 v2.2.2 _ _ _ hP hD hS (lv_sub hl [0, 1, 2, 3, 4] rfl) h
  · have h := it_f c11 h
    refine lv_bipush (v := 10) hx hb dX6_readNumber_22 kB_10 ?_
    refine lv_iload hx hb dX6_readNumber_24 (lv_at hl 0 rfl) ?_
    refine lv_imul hx hb dX6_readNumber_26 ?_
    refine lv_aload_n hx hb dX6_readNumber_27 rfl (lv_at hl 2 rfl) ?_
    obtain ⟨v12, hv12, h⟩ := bind_e h
    refine callMV (As := []) (rest := [.int (10 * v2.1)]) (wr := []) (w2 := [(a_t, .inr (6, [.ref a_t_letters, g_t_told, .int t_length, .int v12.2.1, .int v12.2.2])), (a_t_letters, .inl (cy 1, 60, .inl t_letters))]) hx hb hml hown hg (c_X6_readDigit l D cy a_t a_t_letters _ (g_t_told) t_letters t_length v2.2.1 v2.2.2 F v12 hv12) q_467 q_464 q_58 q_466 q_4 hd_X6_readDigit ⟨(Nat.le_of_ble_eq_true rfl), (Nat.le_of_ble_eq_true rfl)⟩ hK hP hD hS hA [0, 1] [] rfl rfl rfl rfl (by decide) [0, 1] rfl rfl 0 6 rfl rfl rfl rfl rfl rfl hl.1 rfl rfl (Nat.le_of_ble_eq_true rfl) dX6_readNumber_28 (fun H locs hP hD hS => ?_)
    refine lv_iadd hx hb dX6_readNumber_31 ?_
    refine lv_topi (fun x13 ex13 => ?_)
    have h := bnd_e ex13 h
    refine lv_istore (lv' := [(4, .int x13), (3, .int v1), (0, .ref a_t), (1, .int p0), (2, .int p1)]) hx hb dX6_readNumber_32 hl (by decide) rfl (fun ls hl => ?_)
    exact J10 x13 v12.2.1 v12.2.2 _ _ _ hP hD hS (lv_sub hl [0, 1, 2, 3, 4] rfl) h

def m_X6_isNext (F : Nat) (t_letters : Nat → Int32) (t_length : Int32) (t_place : Int32) (t_faulty : Int32) (p0 : Int32) : Option (Int32 × Int32) := (m_X6_skipBlanks F t_letters t_length t_place t_faulty).bind (fun v1 => (m_X6_isThere t_length v1 t_faulty).bind (fun v2 => (if v2 = 0 then some (0, v1) else chk v1 60 ((if (t_letters v1.toNatClampNeg) = p0 then some (1, v1) else some (0, v1))))))
set_option maxHeartbeats 4000000 in
set_option maxRecDepth 100000 in
theorem c_X6_isNext (l : Launch) (D : va_G) (cy : Nat → ClassId) (a_t : Nat) (a_t_letters : Nat) (sz : Nat) (g_t_told : Value) (t_letters : Nat → Int32) (t_length : Int32) (t_place : Int32) (t_faulty : Int32) (p0 : Int32) (F : Nat) (out : Int32 × Int32) (h : m_X6_isNext F t_letters t_length t_place t_faulty p0 = some out) : MetM l D cy yX6_isNext cX6_isNext 2 (some .boolean) (rmG 1 20) [.ref a_t, .int p0] sz [(a_t, .inr (6, [.ref a_t_letters, g_t_told, .int t_length, .int t_place, .int t_faulty])), (a_t_letters, .inl (cy 1, 60, .inl t_letters))] (some (.int out.1)) [(a_t, .inr (6, [.ref a_t_letters, g_t_told, .int t_length, .int out.2, .int t_faulty])), (a_t_letters, .inl (cy 1, 60, .inl t_letters))] := by
  refine startMi (own := RX6) (by decide) rfl (Nat.le_of_ble_eq_true rfl) ?_
  intro p e s m below meth c QQ A hx hb hml hown hg hK hP hD hS hA hret ls hl
  have hl : lv_has ls 2 [(0, .ref a_t), (1, .int p0)] := hl
  unfold m_X6_isNext at h
  refine lv_aload_n hx hb dX6_isNext_0 rfl (lv_at hl 0 rfl) ?_
  obtain ⟨v1, hv1, h⟩ := bind_e h
  refine callMV (As := []) (rest := []) (wr := []) (w2 := [(a_t, .inr (6, [.ref a_t_letters, g_t_told, .int t_length, .int v1, .int t_faulty])), (a_t_letters, .inl (cy 1, 60, .inl t_letters))]) hx hb hml hown hg (c_X6_skipBlanks l D cy a_t a_t_letters _ (g_t_told) t_letters t_length t_place t_faulty F v1 hv1) q_463 q_460 q_58 q_462 q_3 hd_X6_skipBlanks ⟨(Nat.le_of_ble_eq_true rfl), (Nat.le_of_ble_eq_true rfl)⟩ hK hP hD hS hA [0, 1] [] rfl rfl rfl rfl (by decide) [0, 1] rfl rfl 0 6 rfl rfl rfl rfl rfl rfl hl.1 rfl rfl (Nat.le_of_ble_eq_true rfl) dX6_isNext_1 (fun H locs hP hD hS => ?_)
  refine lv_aload_n hx hb dX6_isNext_4 rfl (lv_at hl 0 rfl) ?_
  obtain ⟨v2, hv2, h⟩ := bind_e h
  refine callRV (As := []) (rest := []) (v0 := .int v2) hx hb hml hown hg (c_X6_isThere l D cy a_t (.ref a_t_letters) (g_t_told) t_length v1 t_faulty v2 hv2) q_483 q_480 q_58 q_482 q_8 hd_X6_isThere ⟨(Nat.le_of_ble_eq_true rfl), (Nat.le_of_ble_eq_true rfl)⟩ hK hP [0] rfl 0 6 rfl rfl rfl rfl rfl rfl hl.1 rfl (Nat.le_of_ble_eq_true rfl) dX6_isNext_5 ?_
  refine lv_if_eq (tgt := 28) hx hb dX6_isNext_8 (by decide) (fun c3 => ?_) (fun c3 => ?_)
  · have h := it_t c3 h
    refine lv_iconst (v := 0) hx hb dX6_isNext_28 kI_0 ?_
    exact hret _ _ _ _ ls 29 dX6_isNext_29 (nar_z (Or.inl rfl)) (by rw [← Option.some.inj h]) (by rw [← Option.some.inj h]) hP hD hS
  · have h := it_f c3 h
    refine lv_aload_n hx hb dX6_isNext_11 rfl (lv_at hl 0 rfl) ?_
    refine va_get (D := D) (ci := 6) (v := .ref a_t_letters) (C := RX6) (T := TX6) (N := 5) hx hb hg inG_X6 hown hK hP 0 rfl rfl 0 (by decide) (hg _ q_182) (fun _ h9 => h9) rfl dX6_isNext_12 ?_
    refine lv_aload_n hx hb dX6_isNext_15 rfl (lv_at hl 0 rfl) ?_
    refine va_get (D := D) (ci := 6) (v := .int v1) (C := RX6) (T := TX6) (N := 5) hx hb hg inG_X6 hown hK hP 0 rfl rfl 3 (by decide) (hg _ q_187) (fun _ h9 => h9) rfl dX6_isNext_16 ?_
    obtain ⟨hi4, h⟩ := chk_e h
    refine va_cald hx hb hK hP 1 1 rfl rfl hi4 dX6_isNext_19 ?_
    refine lv_iload_n hx hb dX6_isNext_20 rfl (lv_at hl 1 rfl) ?_
    refine lv_icmp_ne (tgt := 28) hx hb dX6_isNext_21 (by decide) (fun c5 => ?_) (fun c5 => ?_)
    · have h := it_f c5 h
      refine lv_iconst (v := 0) hx hb dX6_isNext_28 kI_0 ?_
      exact hret _ _ _ _ ls 29 dX6_isNext_29 (nar_z (Or.inl rfl)) (by rw [← Option.some.inj h]) (by rw [← Option.some.inj h]) hP hD hS
    · have h := it_t c5 h
      refine lv_iconst (v := 1) hx hb dX6_isNext_24 kI_1 ?_
      refine lv_goto (tgt := 29) hx hb dX6_isNext_25 (by decide) ?_
      exact hret _ _ _ _ ls 29 dX6_isNext_29 (nar_z (Or.inr rfl)) (by rw [← Option.some.inj h]) (by rw [← Option.some.inj h]) hP hD hS

def m_X6_isAtEnd (F : Nat) (t_letters : Nat → Int32) (t_length : Int32) (t_place : Int32) (t_faulty : Int32) : Option (Int32 × Int32) := (m_X6_skipBlanks F t_letters t_length t_place t_faulty).bind (fun v1 => (if t_faulty = 0 then (if v1 < t_length then some (0, v1) else some (1, v1)) else some (1, v1)))
set_option maxHeartbeats 4000000 in
set_option maxRecDepth 100000 in
theorem c_X6_isAtEnd (l : Launch) (D : va_G) (cy : Nat → ClassId) (a_t : Nat) (a_t_letters : Nat) (sz : Nat) (g_t_told : Value) (t_letters : Nat → Int32) (t_length : Int32) (t_place : Int32) (t_faulty : Int32) (F : Nat) (out : Int32 × Int32) (h : m_X6_isAtEnd F t_letters t_length t_place t_faulty = some out) : MetM l D cy yX6_isAtEnd cX6_isAtEnd 1 (some .boolean) (rmG 1 20) [.ref a_t] sz [(a_t, .inr (6, [.ref a_t_letters, g_t_told, .int t_length, .int t_place, .int t_faulty])), (a_t_letters, .inl (cy 1, 60, .inl t_letters))] (some (.int out.1)) [(a_t, .inr (6, [.ref a_t_letters, g_t_told, .int t_length, .int out.2, .int t_faulty])), (a_t_letters, .inl (cy 1, 60, .inl t_letters))] := by
  refine startMi (own := RX6) (by decide) rfl (Nat.le_of_ble_eq_true rfl) ?_
  intro p e s m below meth c QQ A hx hb hml hown hg hK hP hD hS hA hret ls hl
  have hl : lv_has ls 1 [(0, .ref a_t)] := hl
  unfold m_X6_isAtEnd at h
  refine lv_aload_n hx hb dX6_isAtEnd_0 rfl (lv_at hl 0 rfl) ?_
  obtain ⟨v1, hv1, h⟩ := bind_e h
  refine callMV (As := []) (rest := []) (wr := []) (w2 := [(a_t, .inr (6, [.ref a_t_letters, g_t_told, .int t_length, .int v1, .int t_faulty])), (a_t_letters, .inl (cy 1, 60, .inl t_letters))]) hx hb hml hown hg (c_X6_skipBlanks l D cy a_t a_t_letters _ (g_t_told) t_letters t_length t_place t_faulty F v1 hv1) q_463 q_460 q_58 q_462 q_3 hd_X6_skipBlanks ⟨(Nat.le_of_ble_eq_true rfl), (Nat.le_of_ble_eq_true rfl)⟩ hK hP hD hS hA [0, 1] [] rfl rfl rfl rfl (by decide) [0, 1] rfl rfl 0 6 rfl rfl rfl rfl rfl rfl hl.1 rfl rfl (Nat.le_of_ble_eq_true rfl) dX6_isAtEnd_1 (fun H locs hP hD hS => ?_)
  refine lv_aload_n hx hb dX6_isAtEnd_4 rfl (lv_at hl 0 rfl) ?_
  refine va_get (D := D) (ci := 6) (v := .int t_faulty) (C := RX6) (T := TX6) (N := 5) hx hb hg inG_X6 hown hK hP 0 rfl rfl 4 (by decide) (hg _ q_188) (fun _ h9 => h9) rfl dX6_isAtEnd_5 ?_
  refine lv_if_ne (tgt := 22) hx hb dX6_isAtEnd_8 (by decide) (fun c2 => ?_) (fun c2 => ?_)
  · have h := it_f c2 h
    refine lv_iconst (v := 1) hx hb dX6_isAtEnd_22 kI_1 ?_
    refine lv_goto (tgt := 27) hx hb dX6_isAtEnd_23 (by decide) ?_
    exact hret _ _ _ _ ls 27 dX6_isAtEnd_27 (nar_z (Or.inr rfl)) (by rw [← Option.some.inj h]) (by rw [← Option.some.inj h]) hP hD hS
  · have h := it_t c2 h
    refine lv_aload_n hx hb dX6_isAtEnd_11 rfl (lv_at hl 0 rfl) ?_
    refine va_get (D := D) (ci := 6) (v := .int v1) (C := RX6) (T := TX6) (N := 5) hx hb hg inG_X6 hown hK hP 0 rfl rfl 3 (by decide) (hg _ q_187) (fun _ h9 => h9) rfl dX6_isAtEnd_12 ?_
    refine lv_aload_n hx hb dX6_isAtEnd_15 rfl (lv_at hl 0 rfl) ?_
    refine va_get (D := D) (ci := 6) (v := .int t_length) (C := RX6) (T := TX6) (N := 5) hx hb hg inG_X6 hown hK hP 0 rfl rfl 2 (by decide) (hg _ q_185) (fun _ h9 => h9) rfl dX6_isAtEnd_16 ?_
    refine lv_icmp_lt (tgt := 26) hx hb dX6_isAtEnd_19 (by decide) (fun c3 => ?_) (fun c3 => ?_)
    · have h := it_t c3 h
      refine lv_iconst (v := 0) hx hb dX6_isAtEnd_26 kI_0 ?_
      exact hret _ _ _ _ ls 27 dX6_isAtEnd_27 (nar_z (Or.inl rfl)) (by rw [← Option.some.inj h]) (by rw [← Option.some.inj h]) hP hD hS
    · have h := it_f c3 h
      refine lv_iconst (v := 1) hx hb dX6_isAtEnd_22 kI_1 ?_
      refine lv_goto (tgt := 27) hx hb dX6_isAtEnd_23 (by decide) ?_
      exact hret _ _ _ _ ls 27 dX6_isAtEnd_27 (nar_z (Or.inr rfl)) (by rw [← Option.some.inj h]) (by rw [← Option.some.inj h]) hP hD hS

def m_X6_readSign (F : Nat) (t_letters : Nat → Int32) (t_length : Int32) (t_place : Int32) (t_faulty : Int32) (p0 : Int32) : Option (Int32 × Int32) := (m_X6_isNext F t_letters t_length t_place t_faulty p0).bind (fun v1 => (if v1.1 = 0 then some (v1.2, 1) else some (v1.2 + 1, t_faulty)))
set_option maxHeartbeats 4000000 in
set_option maxRecDepth 100000 in
theorem c_X6_readSign (l : Launch) (D : va_G) (cy : Nat → ClassId) (a_t : Nat) (a_t_letters : Nat) (sz : Nat) (g_t_told : Value) (t_letters : Nat → Int32) (t_length : Int32) (t_place : Int32) (t_faulty : Int32) (p0 : Int32) (F : Nat) (out : Int32 × Int32) (h : m_X6_readSign F t_letters t_length t_place t_faulty p0 = some out) : MetM l D cy yX6_readSign cX6_readSign 2 none (rmG 2 41) [.ref a_t, .int p0] sz [(a_t, .inr (6, [.ref a_t_letters, g_t_told, .int t_length, .int t_place, .int t_faulty])), (a_t_letters, .inl (cy 1, 60, .inl t_letters))] none [(a_t, .inr (6, [.ref a_t_letters, g_t_told, .int t_length, .int out.1, .int out.2])), (a_t_letters, .inl (cy 1, 60, .inl t_letters))] := by
  refine startMv (own := RX6) (by decide) rfl (Nat.le_of_ble_eq_true rfl) ?_
  intro p e s m below meth c QQ A hx hb hml hown hg hK hP hD hS hA hret ls hl
  have hl : lv_has ls 2 [(0, .ref a_t), (1, .int p0)] := hl
  unfold m_X6_readSign at h
  refine lv_aload_n hx hb dX6_readSign_0 rfl (lv_at hl 0 rfl) ?_
  refine lv_iload_n hx hb dX6_readSign_1 rfl (lv_at hl 1 rfl) ?_
  obtain ⟨v1, hv1, h⟩ := bind_e h
  refine callMV (As := [.int p0]) (rest := []) (wr := []) (w2 := [(a_t, .inr (6, [.ref a_t_letters, g_t_told, .int t_length, .int v1.2, .int t_faulty])), (a_t_letters, .inl (cy 1, 60, .inl t_letters))]) hx hb hml hown hg (c_X6_isNext l D cy a_t a_t_letters _ (g_t_told) t_letters t_length t_place t_faulty p0 F v1 hv1) q_479 q_476 q_58 q_478 q_7 hd_X6_isNext ⟨(Nat.le_of_ble_eq_true rfl), (Nat.le_of_ble_eq_true rfl)⟩ hK hP hD hS hA [0, 1] [] rfl rfl rfl rfl (by decide) [0, 1] rfl rfl 0 6 rfl rfl rfl rfl rfl rfl hl.1 rfl rfl (Nat.le_of_ble_eq_true rfl) dX6_readSign_2 (fun H locs hP hD hS => ?_)
  refine lv_if_eq (tgt := 21) hx hb dX6_readSign_5 (by decide) (fun c2 => ?_) (fun c2 => ?_)
  · have h := it_t c2 h
    refine lv_aload_n hx hb dX6_readSign_21 rfl (lv_at hl 0 rfl) ?_
    refine lv_iconst (v := 1) hx hb dX6_readSign_22 kI_1 ?_
    refine va_put (D := D) (ci := 6) (v := .int 1) (ty := .boolean) (C := RX6) (T := TX6) (N := 5) hx hb hg inG_X6 tyX6 tyX6_ok nmX6 hown hK hP hD hS 0 rfl rfl 4 (by decide) (hg _ q_188) (fun _ h9 => h9) rfl (tyX6_ok 4 (by decide)) (nar_z (Or.inr rfl)) (fit_z (Or.inr rfl)) (Nat.le_of_ble_eq_true rfl) dX6_readSign_23 (fun H locs hP hD hS => ?_)
    have hP : va_P D vwCl [(a_t, .inr (6, [.ref a_t_letters, g_t_told, .int t_length, .int v1.2, .int 1])), (a_t_letters, .inl (cy 1, 60, .inl t_letters))] H := hP
    have hD : va_D A [(a_t, .inr (6, [.ref a_t_letters, g_t_told, .int t_length, .int v1.2, .int 1])), (a_t_letters, .inl (cy 1, 60, .inl t_letters))] := hD
    exact hret _ _ _ ls 26 dX6_readSign_26 (by rw [← Option.some.inj h]) hP hD hS
  · have h := it_f c2 h
    refine lv_aload_n hx hb dX6_readSign_8 rfl (lv_at hl 0 rfl) ?_
    refine lv_dup hx hb dX6_readSign_9 rfl ?_
    refine va_get (D := D) (ci := 6) (v := .int v1.2) (C := RX6) (T := TX6) (N := 5) hx hb hg inG_X6 hown hK hP 0 rfl rfl 3 (by decide) (hg _ q_187) (fun _ h9 => h9) rfl dX6_readSign_10 ?_
    refine lv_iconst (v := 1) hx hb dX6_readSign_13 kI_1 ?_
    refine lv_iadd hx hb dX6_readSign_14 ?_
    refine va_put (D := D) (ci := 6) (v := .int (v1.2 + 1)) (ty := .int) (C := RX6) (T := TX6) (N := 5) hx hb hg inG_X6 tyX6 tyX6_ok nmX6 hown hK hP hD hS 0 rfl rfl 3 (by decide) (hg _ q_187) (fun _ h9 => h9) rfl (tyX6_ok 3 (by decide)) rfl rfl (Nat.le_of_ble_eq_true rfl) dX6_readSign_15 (fun H locs hP hD hS => ?_)
    have hP : va_P D vwCl [(a_t, .inr (6, [.ref a_t_letters, g_t_told, .int t_length, .int (v1.2 + 1), .int t_faulty])), (a_t_letters, .inl (cy 1, 60, .inl t_letters))] H := hP
    have hD : va_D A [(a_t, .inr (6, [.ref a_t_letters, g_t_told, .int t_length, .int (v1.2 + 1), .int t_faulty])), (a_t_letters, .inl (cy 1, 60, .inl t_letters))] := hD
    refine lv_goto (tgt := 26) hx hb dX6_readSign_18 (by decide) ?_
    exact hret _ _ _ ls 26 dX6_readSign_26 (by rw [← Option.some.inj h]) hP hD hS
