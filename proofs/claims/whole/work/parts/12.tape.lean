def m_X6_append (t_letters : Nat → Int32) (t_length : Int32) (p0 : Int32) : Option ((Nat → Int32) × Int32) := chk t_length 60 (some (upd t_letters t_length.toNatClampNeg (vp_nar .char p0), t_length + 1))
set_option maxHeartbeats 4000000 in
set_option maxRecDepth 100000 in
theorem c_X6_append (l : Launch) (D : va_G) (cy : Nat → ClassId) (a_t : Nat) (a_t_letters : Nat) (sz : Nat) (g_t_told : Value) (g_t_place : Value) (g_t_faulty : Value) (t_letters : Nat → Int32) (t_length : Int32) (p0 : Int32) (out : (Nat → Int32) × Int32) (h : m_X6_append t_letters t_length p0 = some out) : MetM l D cy yX6_append cX6_append 2 none (rmG 0 0) [.ref a_t, .int p0] sz [(a_t, .inr (6, [.ref a_t_letters, g_t_told, .int t_length, g_t_place, g_t_faulty])), (a_t_letters, .inl (cy 1, 60, .inl t_letters))] none [(a_t, .inr (6, [.ref a_t_letters, g_t_told, .int out.2, g_t_place, g_t_faulty])), (a_t_letters, .inl (cy 1, 60, .inl out.1))] := by
  refine startMv (own := RX6) (by decide) rfl (Nat.le_of_ble_eq_true rfl) ?_
  intro p e s m below meth c QQ A hx hb hml hown hg hK hP hD hS hA hret ls hl
  have hl : lv_has ls 2 [(0, .ref a_t), (1, .int p0)] := hl
  unfold m_X6_append at h
  refine lv_aload_n hx hb dX6_append_0 rfl (lv_at hl 0 rfl) ?_
  refine va_get (D := D) (ci := 6) (v := .ref a_t_letters) (C := RX6) (T := TX6) (N := 5) hx hb hg inG_X6 hown hK hP 0 rfl rfl 0 (by decide) (hg _ q_182) (fun _ h9 => h9) rfl dX6_append_1 ?_
  refine lv_aload_n hx hb dX6_append_4 rfl (lv_at hl 0 rfl) ?_
  refine va_get (D := D) (ci := 6) (v := .int t_length) (C := RX6) (T := TX6) (N := 5) hx hb hg inG_X6 hown hK hP 0 rfl rfl 2 (by decide) (hg _ q_185) (fun _ h9 => h9) rfl dX6_append_5 ?_
  refine lv_iload_n hx hb dX6_append_8 rfl (lv_at hl 1 rfl) ?_
  obtain ⟨hi1, h⟩ := chk_e h
  refine va_cast hx hb hK hP hD hS 1 1 rfl rfl hi1 dX6_append_9 (fun H locs hP hD hS => ?_)
  have hP : va_P D vwCl [(a_t, .inr (6, [.ref a_t_letters, g_t_told, .int t_length, g_t_place, g_t_faulty])), (a_t_letters, .inl (cy 1, 60, .inl (upd t_letters t_length.toNatClampNeg (vp_nar .char p0))))] H := hP
  have hD : va_D A [(a_t, .inr (6, [.ref a_t_letters, g_t_told, .int t_length, g_t_place, g_t_faulty])), (a_t_letters, .inl (cy 1, 60, .inl (upd t_letters t_length.toNatClampNeg (vp_nar .char p0))))] := hD
  refine lv_aload_n hx hb dX6_append_10 rfl (lv_at hl 0 rfl) ?_
  refine lv_dup hx hb dX6_append_11 rfl ?_
  refine va_get (D := D) (ci := 6) (v := .int t_length) (C := RX6) (T := TX6) (N := 5) hx hb hg inG_X6 hown hK hP 0 rfl rfl 2 (by decide) (hg _ q_185) (fun _ h9 => h9) rfl dX6_append_12 ?_
  refine lv_iconst (v := 1) hx hb dX6_append_15 kI_1 ?_
  refine lv_iadd hx hb dX6_append_16 ?_
  refine va_put (D := D) (ci := 6) (v := .int (t_length + 1)) (ty := .int) (C := RX6) (T := TX6) (N := 5) hx hb hg inG_X6 tyX6 tyX6_ok nmX6 hown hK hP hD hS 0 rfl rfl 2 (by decide) (hg _ q_185) (fun _ h9 => h9) rfl (tyX6_ok 2 (by decide)) rfl rfl (Nat.le_of_ble_eq_true rfl) dX6_append_17 (fun H locs hP hD hS => ?_)
  have hP : va_P D vwCl [(a_t, .inr (6, [.ref a_t_letters, g_t_told, .int (t_length + 1), g_t_place, g_t_faulty])), (a_t_letters, .inl (cy 1, 60, .inl (upd t_letters t_length.toNatClampNeg (vp_nar .char p0))))] H := hP
  have hD : va_D A [(a_t, .inr (6, [.ref a_t_letters, g_t_told, .int (t_length + 1), g_t_place, g_t_faulty])), (a_t_letters, .inl (cy 1, 60, .inl (upd t_letters t_length.toNatClampNeg (vp_nar .char p0))))] := hD
  exact hret _ _ _ ls 20 dX6_append_20 (by rw [← Option.some.inj h]) hP hD hS

def m_X6_isThere (t_length : Int32) (t_place : Int32) (t_faulty : Int32) : Option (Int32) := (if t_faulty = 0 then (if t_length ≤ t_place then some 0 else some 1) else some 0)
set_option maxHeartbeats 4000000 in
set_option maxRecDepth 100000 in
theorem c_X6_isThere (l : Launch) (D : va_G) (cy : Nat → ClassId) (a_t : Nat) (g_t_letters : Value) (g_t_told : Value) (t_length : Int32) (t_place : Int32) (t_faulty : Int32) (out : Int32) (h : m_X6_isThere t_length t_place t_faulty = some out) : MetR l D cy yX6_isThere cX6_isThere 1 (some .boolean) (rmG 0 0) [.ref a_t] [(a_t, .inr (6, [g_t_letters, g_t_told, .int t_length, .int t_place, .int t_faulty]))] (some (.int out)) := by
  refine startR (own := RX6) (by decide) rfl (Nat.le_of_ble_eq_true rfl) ?_
  intro p e s m below meth c QQ hx hb hml hown hg hK hP hret ls hl
  have hl : lv_has ls 1 [(0, .ref a_t)] := hl
  unfold m_X6_isThere at h
  refine lv_aload_n hx hb dX6_isThere_0 rfl (lv_at hl 0 rfl) ?_
  refine va_get (D := D) (ci := 6) (v := .int t_faulty) (C := RX6) (T := TX6) (N := 5) hx hb hg inG_X6 hown hK hP 0 rfl rfl 4 (by decide) (hg _ q_188) (fun _ h9 => h9) rfl dX6_isThere_1 ?_
  refine lv_if_ne (tgt := 22) hx hb dX6_isThere_4 (by decide) (fun c1 => ?_) (fun c1 => ?_)
  · have h := it_f c1 h
    refine lv_iconst (v := 0) hx hb dX6_isThere_22 kI_0 ?_
    exact hret _ ls 23 dX6_isThere_23 (nar_z (Or.inl rfl)) (congrArg (fun z => some (Value.int z)) (Option.some.inj h))
  · have h := it_t c1 h
    refine lv_aload_n hx hb dX6_isThere_7 rfl (lv_at hl 0 rfl) ?_
    refine va_get (D := D) (ci := 6) (v := .int t_place) (C := RX6) (T := TX6) (N := 5) hx hb hg inG_X6 hown hK hP 0 rfl rfl 3 (by decide) (hg _ q_187) (fun _ h9 => h9) rfl dX6_isThere_8 ?_
    refine lv_aload_n hx hb dX6_isThere_11 rfl (lv_at hl 0 rfl) ?_
    refine va_get (D := D) (ci := 6) (v := .int t_length) (C := RX6) (T := TX6) (N := 5) hx hb hg inG_X6 hown hK hP 0 rfl rfl 2 (by decide) (hg _ q_185) (fun _ h9 => h9) rfl dX6_isThere_12 ?_
    refine lv_icmp_ge (tgt := 22) hx hb dX6_isThere_15 (by decide) (fun c2 => ?_) (fun c2 => ?_)
    · have h := it_t c2 h
      refine lv_iconst (v := 0) hx hb dX6_isThere_22 kI_0 ?_
      exact hret _ ls 23 dX6_isThere_23 (nar_z (Or.inl rfl)) (congrArg (fun z => some (Value.int z)) (Option.some.inj h))
    · have h := it_f c2 h
      refine lv_iconst (v := 1) hx hb dX6_isThere_18 kI_1 ?_
      refine lv_goto (tgt := 23) hx hb dX6_isThere_19 (by decide) ?_
      exact hret _ ls 23 dX6_isThere_23 (nar_z (Or.inr rfl)) (congrArg (fun z => some (Value.int z)) (Option.some.inj h))

def m_X6_isDigitThere (t_letters : Nat → Int32) (t_length : Int32) (t_place : Int32) (t_faulty : Int32) : Option (Int32) := (if t_faulty = 0 then (if t_length ≤ t_place then some 0 else chk t_place 60 ((if (t_letters t_place.toNatClampNeg) < 48 then some 0 else chk t_place 60 ((if 57 < (t_letters t_place.toNatClampNeg) then some 0 else some 1))))) else some 0)
set_option maxHeartbeats 4000000 in
set_option maxRecDepth 100000 in
theorem c_X6_isDigitThere (l : Launch) (D : va_G) (cy : Nat → ClassId) (a_t : Nat) (a_t_letters : Nat) (g_t_told : Value) (t_letters : Nat → Int32) (t_length : Int32) (t_place : Int32) (t_faulty : Int32) (out : Int32) (h : m_X6_isDigitThere t_letters t_length t_place t_faulty = some out) : MetR l D cy yX6_isDigitThere cX6_isDigitThere 1 (some .boolean) (rmG 0 0) [.ref a_t] [(a_t, .inr (6, [.ref a_t_letters, g_t_told, .int t_length, .int t_place, .int t_faulty])), (a_t_letters, .inl (cy 1, 60, .inl t_letters))] (some (.int out)) := by
  refine startR (own := RX6) (by decide) rfl (Nat.le_of_ble_eq_true rfl) ?_
  intro p e s m below meth c QQ hx hb hml hown hg hK hP hret ls hl
  have hl : lv_has ls 1 [(0, .ref a_t)] := hl
  unfold m_X6_isDigitThere at h
  refine lv_aload_n hx hb dX6_isDigitThere_0 rfl (lv_at hl 0 rfl) ?_
  refine va_get (D := D) (ci := 6) (v := .int t_faulty) (C := RX6) (T := TX6) (N := 5) hx hb hg inG_X6 hown hK hP 0 rfl rfl 4 (by decide) (hg _ q_188) (fun _ h9 => h9) rfl dX6_isDigitThere_1 ?_
  refine lv_if_ne (tgt := 50) hx hb dX6_isDigitThere_4 (by decide) (fun c1 => ?_) (fun c1 => ?_)
  · have h := it_f c1 h
    refine lv_iconst (v := 0) hx hb dX6_isDigitThere_50 kI_0 ?_
    exact hret _ ls 51 dX6_isDigitThere_51 (nar_z (Or.inl rfl)) (congrArg (fun z => some (Value.int z)) (Option.some.inj h))
  · have h := it_t c1 h
    refine lv_aload_n hx hb dX6_isDigitThere_7 rfl (lv_at hl 0 rfl) ?_
    refine va_get (D := D) (ci := 6) (v := .int t_place) (C := RX6) (T := TX6) (N := 5) hx hb hg inG_X6 hown hK hP 0 rfl rfl 3 (by decide) (hg _ q_187) (fun _ h9 => h9) rfl dX6_isDigitThere_8 ?_
    refine lv_aload_n hx hb dX6_isDigitThere_11 rfl (lv_at hl 0 rfl) ?_
    refine va_get (D := D) (ci := 6) (v := .int t_length) (C := RX6) (T := TX6) (N := 5) hx hb hg inG_X6 hown hK hP 0 rfl rfl 2 (by decide) (hg _ q_185) (fun _ h9 => h9) rfl dX6_isDigitThere_12 ?_
    refine lv_icmp_ge (tgt := 50) hx hb dX6_isDigitThere_15 (by decide) (fun c2 => ?_) (fun c2 => ?_)
    · have h := it_t c2 h
      refine lv_iconst (v := 0) hx hb dX6_isDigitThere_50 kI_0 ?_
      exact hret _ ls 51 dX6_isDigitThere_51 (nar_z (Or.inl rfl)) (congrArg (fun z => some (Value.int z)) (Option.some.inj h))
    · have h := it_f c2 h
      refine lv_aload_n hx hb dX6_isDigitThere_18 rfl (lv_at hl 0 rfl) ?_
      refine va_get (D := D) (ci := 6) (v := .ref a_t_letters) (C := RX6) (T := TX6) (N := 5) hx hb hg inG_X6 hown hK hP 0 rfl rfl 0 (by decide) (hg _ q_182) (fun _ h9 => h9) rfl dX6_isDigitThere_19 ?_
      refine lv_aload_n hx hb dX6_isDigitThere_22 rfl (lv_at hl 0 rfl) ?_
      refine va_get (D := D) (ci := 6) (v := .int t_place) (C := RX6) (T := TX6) (N := 5) hx hb hg inG_X6 hown hK hP 0 rfl rfl 3 (by decide) (hg _ q_187) (fun _ h9 => h9) rfl dX6_isDigitThere_23 ?_
      obtain ⟨hi3, h⟩ := chk_e h
      refine va_cald hx hb hK hP 1 1 rfl rfl hi3 dX6_isDigitThere_26 ?_
      refine lv_bipush (v := 48) hx hb dX6_isDigitThere_27 kB_48 ?_
      refine lv_icmp_lt (tgt := 50) hx hb dX6_isDigitThere_29 (by decide) (fun c4 => ?_) (fun c4 => ?_)
      · have h := it_t c4 h
        refine lv_iconst (v := 0) hx hb dX6_isDigitThere_50 kI_0 ?_
        exact hret _ ls 51 dX6_isDigitThere_51 (nar_z (Or.inl rfl)) (congrArg (fun z => some (Value.int z)) (Option.some.inj h))
      · have h := it_f c4 h
        refine lv_aload_n hx hb dX6_isDigitThere_32 rfl (lv_at hl 0 rfl) ?_
        refine va_get (D := D) (ci := 6) (v := .ref a_t_letters) (C := RX6) (T := TX6) (N := 5) hx hb hg inG_X6 hown hK hP 0 rfl rfl 0 (by decide) (hg _ q_182) (fun _ h9 => h9) rfl dX6_isDigitThere_33 ?_
        refine lv_aload_n hx hb dX6_isDigitThere_36 rfl (lv_at hl 0 rfl) ?_
        refine va_get (D := D) (ci := 6) (v := .int t_place) (C := RX6) (T := TX6) (N := 5) hx hb hg inG_X6 hown hK hP 0 rfl rfl 3 (by decide) (hg _ q_187) (fun _ h9 => h9) rfl dX6_isDigitThere_37 ?_
        obtain ⟨hi5, h⟩ := chk_e h
        refine va_cald hx hb hK hP 1 1 rfl rfl hi5 dX6_isDigitThere_40 ?_
        refine lv_bipush (v := 57) hx hb dX6_isDigitThere_41 kB_57 ?_
        refine lv_icmp_gt (tgt := 50) hx hb dX6_isDigitThere_43 (by decide) (fun c6 => ?_) (fun c6 => ?_)
        · have h := it_t c6 h
          refine lv_iconst (v := 0) hx hb dX6_isDigitThere_50 kI_0 ?_
          exact hret _ ls 51 dX6_isDigitThere_51 (nar_z (Or.inl rfl)) (congrArg (fun z => some (Value.int z)) (Option.some.inj h))
        · have h := it_f c6 h
          refine lv_iconst (v := 1) hx hb dX6_isDigitThere_46 kI_1 ?_
          refine lv_goto (tgt := 51) hx hb dX6_isDigitThere_47 (by decide) ?_
          exact hret _ ls 51 dX6_isDigitThere_51 (nar_z (Or.inr rfl)) (congrArg (fun z => some (Value.int z)) (Option.some.inj h))

def m_X6_skipBlanks_L7s (t_letters : Nat → Int32) (t_length : Int32) (k4 : Int32 → Option (Int32)) (r6 : Int32 → Option (Int32)) (w2 : Int32) : Option (Int32) := (if t_length ≤ w2 then k4 w2 else chk w2 60 ((if (t_letters w2.toNatClampNeg) = 32 then r6 (w2 + 1) else k4 w2)))
def m_X6_skipBlanks_L7 (t_letters : Nat → Int32) (t_length : Int32) (k4 : Int32 → Option (Int32)) : Nat → Int32 → Option (Int32)
  | 0 => fun _ => none
  | nF + 1 => m_X6_skipBlanks_L7s t_letters t_length k4 (m_X6_skipBlanks_L7 t_letters t_length k4 nF)
def m_X6_skipBlanks (F : Nat) (t_letters : Nat → Int32) (t_length : Int32) (t_place : Int32) (t_faulty : Int32) : Option (Int32) := (if t_faulty = 0 then m_X6_skipBlanks_L7 t_letters t_length (fun (w3 : Int32) => some w3) F t_place else some t_place)
set_option maxHeartbeats 4000000 in
set_option maxRecDepth 100000 in
theorem c_X6_skipBlanks (l : Launch) (D : va_G) (cy : Nat → ClassId) (a_t : Nat) (a_t_letters : Nat) (sz : Nat) (g_t_told : Value) (t_letters : Nat → Int32) (t_length : Int32) (t_place : Int32) (t_faulty : Int32) (F : Nat) (out : Int32) (h : m_X6_skipBlanks F t_letters t_length t_place t_faulty = some out) : MetM l D cy yX6_skipBlanks cX6_skipBlanks 1 none (rmG 0 0) [.ref a_t] sz [(a_t, .inr (6, [.ref a_t_letters, g_t_told, .int t_length, .int t_place, .int t_faulty])), (a_t_letters, .inl (cy 1, 60, .inl t_letters))] none [(a_t, .inr (6, [.ref a_t_letters, g_t_told, .int t_length, .int out, .int t_faulty])), (a_t_letters, .inl (cy 1, 60, .inl t_letters))] := by
  refine startMv (own := RX6) (by decide) rfl (Nat.le_of_ble_eq_true rfl) ?_
  intro p e s m below meth c QQ A hx hb hml hown hg hK hP hD hS hA hret ls hl
  have hl : lv_has ls 1 [(0, .ref a_t)] := hl
  unfold m_X6_skipBlanks at h
  refine lv_aload_n hx hb dX6_skipBlanks_0 rfl (lv_at hl 0 rfl) ?_
  refine va_get (D := D) (ci := 6) (v := .int t_faulty) (C := RX6) (T := TX6) (N := 5) hx hb hg inG_X6 hown hK hP 0 rfl rfl 4 (by decide) (hg _ q_188) (fun _ h9 => h9) rfl dX6_skipBlanks_1 ?_
  refine lv_if_ne (tgt := 45) hx hb dX6_skipBlanks_4 (by decide) (fun c1 => ?_) (fun c1 => ?_)
  · have h := it_f c1 h
    exact hret _ _ _ ls 45 dX6_skipBlanks_45 (by rw [← Option.some.inj h]) hP hD hS
  · have h := it_t c1 h
    obtain ⟨k4, hk4, h⟩ := kap (fun z => m_X6_skipBlanks_L7 t_letters t_length z F t_place) h
    have J4 : ∀ (w3 : Int32) (H : Heap) (locs : List Loc) (ls : Array Slot), va_P D vwCl [(a_t, .inr (6, [.ref a_t_letters, g_t_told, .int t_length, .int w3, .int t_faulty])), (a_t_letters, .inl (cy 1, 60, .inl t_letters))] H → va_D A [(a_t, .inr (6, [.ref a_t_letters, g_t_told, .int t_length, .int w3, .int t_faulty])), (a_t_letters, .inl (cy 1, 60, .inl t_letters))] → va_S A s.heap H locs → lv_has ls 1 [] → k4 w3 = some out → W p l e (rmG 0 0) s m [.ref a_t].toArray below meth c H locs 0 0 QQ (F0 m 45 ls []) := by
      intro w3 H locs ls hP hD hS hl h
      rw [hk4] at h
      exact hret _ _ _ ls 45 dX6_skipBlanks_45 (by rw [← Option.some.inj h]) hP hD hS
    have L5 : ∀ (n5 : Nat) (w2 : Int32) (H : Heap) (locs : List Loc) (ls : Array Slot), va_P D vwCl [(a_t, .inr (6, [.ref a_t_letters, g_t_told, .int t_length, .int w2, .int t_faulty])), (a_t_letters, .inl (cy 1, 60, .inl t_letters))] H → va_D A [(a_t, .inr (6, [.ref a_t_letters, g_t_told, .int t_length, .int w2, .int t_faulty])), (a_t_letters, .inl (cy 1, 60, .inl t_letters))] → va_S A s.heap H locs → lv_has ls 1 [(0, .ref a_t)] → m_X6_skipBlanks_L7 t_letters t_length k4 n5 w2 = some out → W p l e (rmG 0 0) s m [.ref a_t].toArray below meth c H locs 0 0 QQ (F0 m 7 ls []) := by
      intro n5
      induction n5 with
      | zero => intro w2 H locs ls hP hD hS hl h; exact nomatch (show (none : Option (Int32)) = some out from h)
      | succ n5 ih =>
          intro w2 H locs ls hP hD hS hl h
          have h : m_X6_skipBlanks_L7s t_letters t_length k4 (m_X6_skipBlanks_L7 t_letters t_length k4 n5) w2 = some out := h
          unfold m_X6_skipBlanks_L7s at h
          refine lv_aload_n hx hb dX6_skipBlanks_7 rfl (lv_at hl 0 rfl) ?_
          refine va_get (D := D) (ci := 6) (v := .int w2) (C := RX6) (T := TX6) (N := 5) hx hb hg inG_X6 hown hK hP 0 rfl rfl 3 (by decide) (hg _ q_187) (fun _ h9 => h9) rfl dX6_skipBlanks_8 ?_
          refine lv_aload_n hx hb dX6_skipBlanks_11 rfl (lv_at hl 0 rfl) ?_
          refine va_get (D := D) (ci := 6) (v := .int t_length) (C := RX6) (T := TX6) (N := 5) hx hb hg inG_X6 hown hK hP 0 rfl rfl 2 (by decide) (hg _ q_185) (fun _ h9 => h9) rfl dX6_skipBlanks_12 ?_
          refine lv_icmp_ge (tgt := 45) hx hb dX6_skipBlanks_15 (by decide) (fun c7 => ?_) (fun c7 => ?_)
          · have h := it_t c7 h
            exact J4 w2 _ _ _ hP hD hS (lv_sub hl [] rfl) h
          · have h := it_f c7 h
            refine lv_aload_n hx hb dX6_skipBlanks_18 rfl (lv_at hl 0 rfl) ?_
            refine va_get (D := D) (ci := 6) (v := .ref a_t_letters) (C := RX6) (T := TX6) (N := 5) hx hb hg inG_X6 hown hK hP 0 rfl rfl 0 (by decide) (hg _ q_182) (fun _ h9 => h9) rfl dX6_skipBlanks_19 ?_
            refine lv_aload_n hx hb dX6_skipBlanks_22 rfl (lv_at hl 0 rfl) ?_
            refine va_get (D := D) (ci := 6) (v := .int w2) (C := RX6) (T := TX6) (N := 5) hx hb hg inG_X6 hown hK hP 0 rfl rfl 3 (by decide) (hg _ q_187) (fun _ h9 => h9) rfl dX6_skipBlanks_23 ?_
            obtain ⟨hi8, h⟩ := chk_e h
            refine va_cald hx hb hK hP 1 1 rfl rfl hi8 dX6_skipBlanks_26 ?_
            refine lv_bipush (v := 32) hx hb dX6_skipBlanks_27 kB_32 ?_
            refine lv_icmp_ne (tgt := 45) hx hb dX6_skipBlanks_29 (by decide) (fun c9 => ?_) (fun c9 => ?_)
            · have h := it_f c9 h
              exact J4 w2 _ _ _ hP hD hS (lv_sub hl [] rfl) h
            · have h := it_t c9 h
              refine lv_aload_n hx hb dX6_skipBlanks_32 rfl (lv_at hl 0 rfl) ?_
              refine lv_dup hx hb dX6_skipBlanks_33 rfl ?_
              refine va_get (D := D) (ci := 6) (v := .int w2) (C := RX6) (T := TX6) (N := 5) hx hb hg inG_X6 hown hK hP 0 rfl rfl 3 (by decide) (hg _ q_187) (fun _ h9 => h9) rfl dX6_skipBlanks_34 ?_
              refine lv_iconst (v := 1) hx hb dX6_skipBlanks_37 kI_1 ?_
              refine lv_iadd hx hb dX6_skipBlanks_38 ?_
              refine va_put (D := D) (ci := 6) (v := .int (w2 + 1)) (ty := .int) (C := RX6) (T := TX6) (N := 5) hx hb hg inG_X6 tyX6 tyX6_ok nmX6 hown hK hP hD hS 0 rfl rfl 3 (by decide) (hg _ q_187) (fun _ h9 => h9) rfl (tyX6_ok 3 (by decide)) rfl rfl (Nat.le_of_ble_eq_true rfl) dX6_skipBlanks_39 (fun H locs hP hD hS => ?_)
              have hP : va_P D vwCl [(a_t, .inr (6, [.ref a_t_letters, g_t_told, .int t_length, .int (w2 + 1), .int t_faulty])), (a_t_letters, .inl (cy 1, 60, .inl t_letters))] H := hP
              have hD : va_D A [(a_t, .inr (6, [.ref a_t_letters, g_t_told, .int t_length, .int (w2 + 1), .int t_faulty])), (a_t_letters, .inl (cy 1, 60, .inl t_letters))] := hD
              refine lv_goto (tgt := 7) hx hb dX6_skipBlanks_42 (by decide) ?_
              exact ih (w2 + 1) _ _ _ hP hD hS (lv_sub hl [0] rfl) h
    exact L5 F t_place _ _ _ hP hD hS (lv_sub hl [0] rfl) h

def m_X6_readKind (F : Nat) (t_letters : Nat → Int32) (t_length : Int32) (t_place : Int32) (t_faulty : Int32) : Option (Int32 × Int32 × Int32) := (m_X6_skipBlanks F t_letters t_length t_place t_faulty).bind (fun v1 => (m_X6_isThere t_length v1 t_faulty).bind (fun v2 => jn (fun (x3 : Int32) => (if 0 ≤ x3 then some (x3, v1 + 1, t_faulty) else some (0, v1, 1))) (fun k5 => (if v2 = 0 then k5 (-1) else chk v1 60 ((m_J0_indexOf_0f7a4 (t_letters v1.toNatClampNeg)).bind (fun v8 => k5 v8))))))
set_option maxHeartbeats 4000000 in
set_option maxRecDepth 100000 in
theorem c_X6_readKind (l : Launch) (D : va_G) (cy : Nat → ClassId) (ka kv : Nat) (a_t : Nat) (a_t_letters : Nat) (sz : Nat) (g_t_told : Value) (t_letters : Nat → Int32) (t_length : Int32) (t_place : Int32) (t_faulty : Int32) (F : Nat) (out : Int32 × Int32 × Int32) (h : m_X6_readKind F t_letters t_length t_place t_faulty = some out) : MetMc l D cy ka kv yX6_readKind cX6_readKind 2 (some .int) (rmG 4 91) [.ref a_t] sz [(a_t, .inr (6, [.ref a_t_letters, g_t_told, .int t_length, .int t_place, .int t_faulty])), (a_t_letters, .inl (cy 1, 60, .inl t_letters))] (some (.int out.1)) [(a_t, .inr (6, [.ref a_t_letters, g_t_told, .int t_length, .int out.2.1, .int out.2.2])), (a_t_letters, .inl (cy 1, 60, .inl t_letters))] := by
  refine startMic (own := RX6) (by decide) rfl (Nat.le_of_ble_eq_true rfl) ?_
  intro p e s m below meth c QQ A hx hb hml hown hg hC hK hP hD hS hA hret ls hl
  have hl : lv_has ls 2 [(0, .ref a_t)] := hl
  unfold m_X6_readKind at h
  refine lv_aload_n hx hb dX6_readKind_0 rfl (lv_at hl 0 rfl) ?_
  obtain ⟨v1, hv1, h⟩ := bind_e h
  refine callMV (As := []) (rest := []) (wr := []) (w2 := [(a_t, .inr (6, [.ref a_t_letters, g_t_told, .int t_length, .int v1, .int t_faulty])), (a_t_letters, .inl (cy 1, 60, .inl t_letters))]) hx hb hml hown hg (c_X6_skipBlanks l D cy a_t a_t_letters _ (g_t_told) t_letters t_length t_place t_faulty F v1 hv1) q_463 q_460 q_58 q_462 q_3 hd_X6_skipBlanks ⟨(Nat.le_of_ble_eq_true rfl), (Nat.le_of_ble_eq_true rfl)⟩ hK hP hD hS hA [0, 1] [] rfl rfl rfl rfl (by decide) [0, 1] rfl rfl 0 6 rfl rfl rfl rfl rfl rfl hl.1 rfl rfl (Nat.le_of_ble_eq_true rfl) dX6_readKind_1 (fun H locs hP hD hS => ?_)
  refine lv_aload_n hx hb dX6_readKind_4 rfl (lv_at hl 0 rfl) ?_
  obtain ⟨v2, hv2, h⟩ := bind_e h
  refine callRV (As := []) (rest := []) (v0 := .int v2) hx hb hml hown hg (c_X6_isThere l D cy a_t (.ref a_t_letters) (g_t_told) t_length v1 t_faulty v2 hv2) q_483 q_480 q_58 q_482 q_8 hd_X6_isThere ⟨(Nat.le_of_ble_eq_true rfl), (Nat.le_of_ble_eq_true rfl)⟩ hK hP [0] rfl 0 6 rfl rfl rfl rfl rfl rfl hl.1 rfl (Nat.le_of_ble_eq_true rfl) dX6_readKind_5 ?_
  obtain ⟨k5, hk5, h⟩ := jn_e h
  have J5 : ∀ (x3 : Int32) (H : Heap) (locs : List Loc) (ls : Array Slot), va_P D vwCl [(a_t, .inr (6, [.ref a_t_letters, g_t_told, .int t_length, .int v1, .int t_faulty])), (a_t_letters, .inl (cy 1, 60, .inl t_letters))] H → va_D A [(a_t, .inr (6, [.ref a_t_letters, g_t_told, .int t_length, .int v1, .int t_faulty])), (a_t_letters, .inl (cy 1, 60, .inl t_letters))] → va_S A s.heap H locs → lv_has ls 2 [(0, .ref a_t)] → k5 x3 = some out → W p l e (rmG 4 91) s m [.ref a_t].toArray below meth c H locs 0 0 QQ (F0 m 29 ls [.int x3]) := by
    intro x3 H locs ls hP hD hS hl h
    rw [hk5] at h
    refine lv_istore_n (lv' := [(1, .int x3), (0, .ref a_t)]) hx hb dX6_readKind_29 rfl hl (by decide) rfl (fun ls hl => ?_)
    refine lv_iload_n hx hb dX6_readKind_30 rfl (lv_at hl 0 rfl) ?_
    refine lv_if_ge (tgt := 41) hx hb dX6_readKind_31 (by decide) (fun c4 => ?_) (fun c4 => ?_)
    · have h := it_t c4 h
      refine lv_aload_n hx hb dX6_readKind_41 rfl (lv_at hl 1 rfl) ?_
      refine lv_dup hx hb dX6_readKind_42 rfl ?_
      refine va_get (D := D) (ci := 6) (v := .int v1) (C := RX6) (T := TX6) (N := 5) hx hb hg inG_X6 hown hK hP 0 rfl rfl 3 (by decide) (hg _ q_187) (fun _ h9 => h9) rfl dX6_readKind_43 ?_
      refine lv_iconst (v := 1) hx hb dX6_readKind_46 kI_1 ?_
      refine lv_iadd hx hb dX6_readKind_47 ?_
      refine va_put (D := D) (ci := 6) (v := .int (v1 + 1)) (ty := .int) (C := RX6) (T := TX6) (N := 5) hx hb hg inG_X6 tyX6 tyX6_ok nmX6 hown hK hP hD hS 0 rfl rfl 3 (by decide) (hg _ q_187) (fun _ h9 => h9) rfl (tyX6_ok 3 (by decide)) rfl rfl (Nat.le_of_ble_eq_true rfl) dX6_readKind_48 (fun H locs hP hD hS => ?_)
      have hP : va_P D vwCl [(a_t, .inr (6, [.ref a_t_letters, g_t_told, .int t_length, .int (v1 + 1), .int t_faulty])), (a_t_letters, .inl (cy 1, 60, .inl t_letters))] H := hP
      have hD : va_D A [(a_t, .inr (6, [.ref a_t_letters, g_t_told, .int t_length, .int (v1 + 1), .int t_faulty])), (a_t_letters, .inl (cy 1, 60, .inl t_letters))] := hD
      refine lv_iload_n hx hb dX6_readKind_51 rfl (lv_at hl 0 rfl) ?_
      exact hret _ _ _ _ ls 52 dX6_readKind_52 rfl (by rw [← Option.some.inj h]) (by rw [← Option.some.inj h]) hP hD hS
    · have h := it_f c4 h
      refine lv_aload_n hx hb dX6_readKind_34 rfl (lv_at hl 1 rfl) ?_
      refine lv_iconst (v := 1) hx hb dX6_readKind_35 kI_1 ?_
      refine va_put (D := D) (ci := 6) (v := .int 1) (ty := .boolean) (C := RX6) (T := TX6) (N := 5) hx hb hg inG_X6 tyX6 tyX6_ok nmX6 hown hK hP hD hS 0 rfl rfl 4 (by decide) (hg _ q_188) (fun _ h9 => h9) rfl (tyX6_ok 4 (by decide)) (nar_z (Or.inr rfl)) (fit_z (Or.inr rfl)) (Nat.le_of_ble_eq_true rfl) dX6_readKind_36 (fun H locs hP hD hS => ?_)
      have hP : va_P D vwCl [(a_t, .inr (6, [.ref a_t_letters, g_t_told, .int t_length, .int v1, .int 1])), (a_t_letters, .inl (cy 1, 60, .inl t_letters))] H := hP
      have hD : va_D A [(a_t, .inr (6, [.ref a_t_letters, g_t_told, .int t_length, .int v1, .int 1])), (a_t_letters, .inl (cy 1, 60, .inl t_letters))] := hD
      refine lv_iconst (v := 0) hx hb dX6_readKind_39 kI_0 ?_
      exact hret _ _ _ _ ls 40 dX6_readKind_40 rfl (by rw [← Option.some.inj h]) (by rw [← Option.some.inj h]) hP hD hS
  refine lv_if_eq (tgt := 28) hx hb dX6_readKind_8 (by decide) (fun c6 => ?_) (fun c6 => ?_)
  · have h := it_t c6 h
    refine lv_iconst (v := (-1)) hx hb dX6_readKind_28 kI_m1 ?_
    exact J5 (-1) _ _ _ hP hD hS (lv_sub hl [0] rfl) h
  · have h := it_f c6 h
    refine va_ldcS hx hb hown hC.1 dX6_readKind_11 ?_
    refine lv_aload_n hx hb dX6_readKind_13 rfl (lv_at hl 0 rfl) ?_
    refine va_get (D := D) (ci := 6) (v := .ref a_t_letters) (C := RX6) (T := TX6) (N := 5) hx hb hg inG_X6 hown hK hP 0 rfl rfl 0 (by decide) (hg _ q_182) (fun _ h9 => h9) rfl dX6_readKind_14 ?_
    refine lv_aload_n hx hb dX6_readKind_17 rfl (lv_at hl 0 rfl) ?_
    refine va_get (D := D) (ci := 6) (v := .int v1) (C := RX6) (T := TX6) (N := 5) hx hb hg inG_X6 hown hK hP 0 rfl rfl 3 (by decide) (hg _ q_187) (fun _ h9 => h9) rfl dX6_readKind_18 ?_
    obtain ⟨hi7, h⟩ := chk_e h
    refine va_cald hx hb hK hP 1 1 rfl rfl hi7 dX6_readKind_21 ?_
    obtain ⟨v8, hv8, h⟩ := bind_e h
    refine callCV (As := [.int (t_letters v1.toNatClampNeg)]) (rest := []) (v0 := .int v8) hx hb hml hown hg (c_J0_indexOf_0f7a4 l ka kv (t_letters v1.toNatClampNeg) v8 hv8) q_504 q_501 q_66 q_502 q_503 hd_J0_indexOf_0f7a4 ⟨(Nat.le_of_ble_eq_true rfl), (Nat.le_of_ble_eq_true rfl)⟩ hC hS rfl rfl rfl hl.1 rfl (Nat.le_of_ble_eq_true rfl) dX6_readKind_22 ?_
    refine lv_goto (tgt := 29) hx hb dX6_readKind_25 (by decide) ?_
    exact J5 v8 _ _ _ hP hD hS (lv_sub hl [0] rfl) h

def m_X6_readDigit (F : Nat) (t_letters : Nat → Int32) (t_length : Int32) (t_place : Int32) (t_faulty : Int32) : Option (Int32 × Int32 × Int32) := (m_X6_skipBlanks F t_letters t_length t_place t_faulty).bind (fun v1 => (m_X6_isDigitThere t_letters t_length v1 t_faulty).bind (fun v2 => (if v2 = 0 then some (0, v1, 1) else chk v1 60 (bnd ((t_letters v1.toNatClampNeg) - 48) (fun x5 => some (x5, v1 + 1, t_faulty))))))
set_option maxHeartbeats 4000000 in
set_option maxRecDepth 100000 in
theorem c_X6_readDigit (l : Launch) (D : va_G) (cy : Nat → ClassId) (a_t : Nat) (a_t_letters : Nat) (sz : Nat) (g_t_told : Value) (t_letters : Nat → Int32) (t_length : Int32) (t_place : Int32) (t_faulty : Int32) (F : Nat) (out : Int32 × Int32 × Int32) (h : m_X6_readDigit F t_letters t_length t_place t_faulty = some out) : MetM l D cy yX6_readDigit cX6_readDigit 2 (some .int) (rmG 1 20) [.ref a_t] sz [(a_t, .inr (6, [.ref a_t_letters, g_t_told, .int t_length, .int t_place, .int t_faulty])), (a_t_letters, .inl (cy 1, 60, .inl t_letters))] (some (.int out.1)) [(a_t, .inr (6, [.ref a_t_letters, g_t_told, .int t_length, .int out.2.1, .int out.2.2])), (a_t_letters, .inl (cy 1, 60, .inl t_letters))] := by
  refine startMi (own := RX6) (by decide) rfl (Nat.le_of_ble_eq_true rfl) ?_
  intro p e s m below meth c QQ A hx hb hml hown hg hK hP hD hS hA hret ls hl
  have hl : lv_has ls 2 [(0, .ref a_t)] := hl
  unfold m_X6_readDigit at h
  refine lv_aload_n hx hb dX6_readDigit_0 rfl (lv_at hl 0 rfl) ?_
  obtain ⟨v1, hv1, h⟩ := bind_e h
  refine callMV (As := []) (rest := []) (wr := []) (w2 := [(a_t, .inr (6, [.ref a_t_letters, g_t_told, .int t_length, .int v1, .int t_faulty])), (a_t_letters, .inl (cy 1, 60, .inl t_letters))]) hx hb hml hown hg (c_X6_skipBlanks l D cy a_t a_t_letters _ (g_t_told) t_letters t_length t_place t_faulty F v1 hv1) q_463 q_460 q_58 q_462 q_3 hd_X6_skipBlanks ⟨(Nat.le_of_ble_eq_true rfl), (Nat.le_of_ble_eq_true rfl)⟩ hK hP hD hS hA [0, 1] [] rfl rfl rfl rfl (by decide) [0, 1] rfl rfl 0 6 rfl rfl rfl rfl rfl rfl hl.1 rfl rfl (Nat.le_of_ble_eq_true rfl) dX6_readDigit_1 (fun H locs hP hD hS => ?_)
  refine lv_aload_n hx hb dX6_readDigit_4 rfl (lv_at hl 0 rfl) ?_
  obtain ⟨v2, hv2, h⟩ := bind_e h
  refine callRV (As := []) (rest := []) (v0 := .int v2) hx hb hml hown hg (c_X6_isDigitThere l D cy a_t a_t_letters (g_t_told) t_letters t_length v1 t_faulty v2 hv2) q_471 q_468 q_58 q_470 q_5 hd_X6_isDigitThere ⟨(Nat.le_of_ble_eq_true rfl), (Nat.le_of_ble_eq_true rfl)⟩ hK hP [0, 1] rfl 0 6 rfl rfl rfl rfl rfl rfl hl.1 rfl (Nat.le_of_ble_eq_true rfl) dX6_readDigit_5 ?_
  refine lv_if_ne (tgt := 18) hx hb dX6_readDigit_8 (by decide) (fun c3 => ?_) (fun c3 => ?_)
  · have h := it_f c3 h
    refine lv_aload_n hx hb dX6_readDigit_18 rfl (lv_at hl 0 rfl) ?_
    refine va_get (D := D) (ci := 6) (v := .ref a_t_letters) (C := RX6) (T := TX6) (N := 5) hx hb hg inG_X6 hown hK hP 0 rfl rfl 0 (by decide) (hg _ q_182) (fun _ h9 => h9) rfl dX6_readDigit_19 ?_
    refine lv_aload_n hx hb dX6_readDigit_22 rfl (lv_at hl 0 rfl) ?_
    refine va_get (D := D) (ci := 6) (v := .int v1) (C := RX6) (T := TX6) (N := 5) hx hb hg inG_X6 hown hK hP 0 rfl rfl 3 (by decide) (hg _ q_187) (fun _ h9 => h9) rfl dX6_readDigit_23 ?_
    obtain ⟨hi4, h⟩ := chk_e h
    refine va_cald hx hb hK hP 1 1 rfl rfl hi4 dX6_readDigit_26 ?_
    refine lv_bipush (v := 48) hx hb dX6_readDigit_27 kB_48 ?_
    refine lv_isub hx hb dX6_readDigit_29 ?_
    refine lv_topi (fun x5 ex5 => ?_)
    have h := bnd_e ex5 h
    refine lv_istore_n (lv' := [(1, .int x5), (0, .ref a_t)]) hx hb dX6_readDigit_30 rfl hl (by decide) rfl (fun ls hl => ?_)
    refine lv_aload_n hx hb dX6_readDigit_31 rfl (lv_at hl 1 rfl) ?_
    refine lv_dup hx hb dX6_readDigit_32 rfl ?_
    refine va_get (D := D) (ci := 6) (v := .int v1) (C := RX6) (T := TX6) (N := 5) hx hb hg inG_X6 hown hK hP 0 rfl rfl 3 (by decide) (hg _ q_187) (fun _ h9 => h9) rfl dX6_readDigit_33 ?_
    refine lv_iconst (v := 1) hx hb dX6_readDigit_36 kI_1 ?_
    refine lv_iadd hx hb dX6_readDigit_37 ?_
    refine va_put (D := D) (ci := 6) (v := .int (v1 + 1)) (ty := .int) (C := RX6) (T := TX6) (N := 5) hx hb hg inG_X6 tyX6 tyX6_ok nmX6 hown hK hP hD hS 0 rfl rfl 3 (by decide) (hg _ q_187) (fun _ h9 => h9) rfl (tyX6_ok 3 (by decide)) rfl rfl (Nat.le_of_ble_eq_true rfl) dX6_readDigit_38 (fun H locs hP hD hS => ?_)
    have hP : va_P D vwCl [(a_t, .inr (6, [.ref a_t_letters, g_t_told, .int t_length, .int (v1 + 1), .int t_faulty])), (a_t_letters, .inl (cy 1, 60, .inl t_letters))] H := hP
    have hD : va_D A [(a_t, .inr (6, [.ref a_t_letters, g_t_told, .int t_length, .int (v1 + 1), .int t_faulty])), (a_t_letters, .inl (cy 1, 60, .inl t_letters))] := hD
    refine lv_iload_n hx hb dX6_readDigit_41 rfl (lv_at hl 0 rfl) ?_
    exact hret _ _ _ _ ls 42 dX6_readDigit_42 rfl (by rw [← Option.some.inj h]) (by rw [← Option.some.inj h]) hP hD hS
  · have h := it_t c3 h
    refine lv_aload_n hx hb dX6_readDigit_11 rfl (lv_at hl 0 rfl) ?_
    refine lv_iconst (v := 1) hx hb dX6_readDigit_12 kI_1 ?_
    refine va_put (D := D) (ci := 6) (v := .int 1) (ty := .boolean) (C := RX6) (T := TX6) (N := 5) hx hb hg inG_X6 tyX6 tyX6_ok nmX6 hown hK hP hD hS 0 rfl rfl 4 (by decide) (hg _ q_188) (fun _ h9 => h9) rfl (tyX6_ok 4 (by decide)) (nar_z (Or.inr rfl)) (fit_z (Or.inr rfl)) (Nat.le_of_ble_eq_true rfl) dX6_readDigit_13 (fun H locs hP hD hS => ?_)
    have hP : va_P D vwCl [(a_t, .inr (6, [.ref a_t_letters, g_t_told, .int t_length, .int v1, .int 1])), (a_t_letters, .inl (cy 1, 60, .inl t_letters))] H := hP
    have hD : va_D A [(a_t, .inr (6, [.ref a_t_letters, g_t_told, .int t_length, .int v1, .int 1])), (a_t_letters, .inl (cy 1, 60, .inl t_letters))] := hD
    refine lv_iconst (v := 0) hx hb dX6_readDigit_16 kI_0 ?_
    exact hret _ _ _ _ ls 17 dX6_readDigit_17 rfl (by rw [← Option.some.inj h]) (by rw [← Option.some.inj h]) hP hD hS

def m_X6_readNumber (F : Nat) (t_letters : Nat → Int32) (t_length : Int32) (t_place : Int32) (t_faulty : Int32) (p0 : Int32) (p1 : Int32) : Option (Int32 × Int32 × Int32) := (m_X6_skipBlanks F t_letters t_length t_place t_faulty).bind (fun v1 => (m_X6_readDigit F t_letters t_length v1 t_faulty).bind (fun v2 => (m_X6_isDigitThere t_letters t_length v2.2.1 v2.2.2).bind (fun v3 => jn (fun (x4 : Int32) (w5 : Int32) (w6 : Int32) => (if w6 = 0 then (if p0 < x4 then some (x4, v1, 1) else (if ((p1 >>> (x4 &&& 31)) &&& 1) = 0 then some (x4, w5, w6) else some (x4, v1, 1))) else some (x4, w5, w6))) (fun k10 => (if v3 = 0 then k10 v2.1 v2.2.1 v2.2.2 else (m_X6_readDigit F t_letters t_length v2.2.1 v2.2.2).bind (fun v12 => bnd ((10 * v2.1) + v12.1) (fun x13 => k10 x13 v12.2.1 v12.2.2)))))))
set_option maxHeartbeats 4000000 in
set_option maxRecDepth 100000 in
theorem c_X6_readNumber (l : Launch) (D : va_G) (cy : Nat → ClassId) (a_t : Nat) (a_t_letters : Nat) (sz : Nat) (g_t_told : Value) (t_letters : Nat → Int32) (t_length : Int32) (t_place : Int32) (t_faulty : Int32) (p0 : Int32) (p1 : Int32) (F : Nat) (out : Int32 × Int32 × Int32) (h : m_X6_readNumber F t_letters t_length t_place t_faulty p0 p1 = some out) : MetM l D cy yX6_readNumber cX6_readNumber 5 (some .int) (rmG 2 41) [.ref a_t, .int p0, .int p1] sz [(a_t, .inr (6, [.ref a_t_letters, g_t_told, .int t_length, .int t_place, .int t_faulty])), (a_t_letters, .inl (cy 1, 60, .inl t_letters))] (some (.int out.1)) [(a_t, .inr (6, [.ref a_t_letters, g_t_told, .int t_length, .int out.2.1, .int out.2.2])), (a_t_letters, .inl (cy 1, 60, .inl t_letters))] := by
  refine startMi (own := RX6) (by decide) rfl (Nat.le_of_ble_eq_true rfl) ?_
  intro p e s m below meth c QQ A hx hb hml hown hg hK hP hD hS hA hret ls hl
  have hl : lv_has ls 5 [(0, .ref a_t), (1, .int p0), (2, .int p1)] := hl
  unfold m_X6_readNumber at h
  refine lv_aload_n hx hb dX6_readNumber_0 rfl (lv_at hl 0 rfl) ?_
  obtain ⟨v1, hv1, h⟩ := bind_e h
  refine callMV (As := []) (rest := []) (wr := []) (w2 := [(a_t, .inr (6, [.ref a_t_letters, g_t_told, .int t_length, .int v1, .int t_faulty])), (a_t_letters, .inl (cy 1, 60, .inl t_letters))]) hx hb hml hown hg (c_X6_skipBlanks l D cy a_t a_t_letters _ (g_t_told) t_letters t_length t_place t_faulty F v1 hv1) q_463 q_460 q_58 q_462 q_3 hd_X6_skipBlanks ⟨(Nat.le_of_ble_eq_true rfl), (Nat.le_of_ble_eq_true rfl)⟩ hK hP hD hS hA [0, 1] [] rfl rfl rfl rfl (by decide) [0, 1] rfl rfl 0 6 rfl rfl rfl rfl rfl rfl hl.1 rfl rfl (Nat.le_of_ble_eq_true rfl) dX6_readNumber_1 (fun H locs hP hD hS => ?_)
  refine lv_aload_n hx hb dX6_readNumber_4 rfl (lv_at hl 0 rfl) ?_
  refine va_get (D := D) (ci := 6) (v := .int v1) (C := RX6) (T := TX6) (N := 5) hx hb hg inG_X6 hown hK hP 0 rfl rfl 3 (by decide) (hg _ q_187) (fun _ h9 => h9) rfl dX6_readNumber_5 ?_
  refine lv_istore_n (lv' := [(3, .int v1), (0, .ref a_t), (1, .int p0), (2, .int p1)]) hx hb dX6_readNumber_8 rfl hl (by decide) rfl (fun ls hl => ?_)
  refine lv_aload_n hx hb dX6_readNumber_9 rfl (lv_at hl 1 rfl) ?_
  obtain ⟨v2, hv2, h⟩ := bind_e h
  refine callMV (As := []) (rest := []) (wr := []) (w2 := [(a_t, .inr (6, [.ref a_t_letters, g_t_told, .int t_length, .int v2.2.1, .int v2.2.2])), (a_t_letters, .inl (cy 1, 60, .inl t_letters))]) hx hb hml hown hg (c_X6_readDigit l D cy a_t a_t_letters _ (g_t_told) t_letters t_length v1 t_faulty F v2 hv2) q_467 q_464 q_58 q_466 q_4 hd_X6_readDigit ⟨(Nat.le_of_ble_eq_true rfl), (Nat.le_of_ble_eq_true rfl)⟩ hK hP hD hS hA [0, 1] [] rfl rfl rfl rfl (by decide) [0, 1] rfl rfl 0 6 rfl rfl rfl rfl rfl rfl hl.1 rfl rfl (Nat.le_of_ble_eq_true rfl) dX6_readNumber_10 (fun H locs hP hD hS => ?_)
  refine lv_istore (lv' := [(4, .int v2.1), (3, .int v1), (0, .ref a_t), (1, .int p0), (2, .int p1)]) hx hb dX6_readNumber_13 hl (by decide) rfl (fun ls hl => ?_)
  refine lv_aload_n hx hb dX6_readNumber_15 rfl (lv_at hl 2 rfl) ?_
  obtain ⟨v3, hv3, h⟩ := bind_e h
  refine callRV (As := []) (rest := []) (v0 := .int v3) hx hb hml hown hg (c_X6_isDigitThere l D cy a_t a_t_letters (g_t_told) t_letters t_length v2.2.1 v2.2.2 v3 hv3) q_471 q_468 q_58 q_470 q_5 hd_X6_isDigitThere ⟨(Nat.le_of_ble_eq_true rfl), (Nat.le_of_ble_eq_true rfl)⟩ hK hP [0, 1] rfl 0 6 rfl rfl rfl rfl rfl rfl hl.1 rfl (Nat.le_of_ble_eq_true rfl) dX6_readNumber_16 ?_
  obtain ⟨k10, hk10, h⟩ := jn_e h
  have J10 : ∀ (x4 : Int32) (w5 : Int32) (w6 : Int32) (H : Heap) (locs : List Loc) (ls : Array Slot), va_P D vwCl [(a_t, .inr (6, [.ref a_t_letters, g_t_told, .int t_length, .int w5, .int w6])), (a_t_letters, .inl (cy 1, 60, .inl t_letters))] H → va_D A [(a_t, .inr (6, [.ref a_t_letters, g_t_told, .int t_length, .int w5, .int w6])), (a_t_letters, .inl (cy 1, 60, .inl t_letters))] → va_S A s.heap H locs → lv_has ls 5 [(4, .int x4), (3, .int v1), (0, .ref a_t), (1, .int p0), (2, .int p1)] → k10 x4 w5 w6 = some out → W p l e (rmG 2 41) s m [.ref a_t, .int p0, .int p1].toArray below meth c H locs 0 0 QQ (F0 m 34 ls []) := by
    intro x4 w5 w6 H locs ls hP hD hS hl h
    rw [hk10] at h
    refine lv_aload_n hx hb dX6_readNumber_34 rfl (lv_at hl 2 rfl) ?_
    refine va_get (D := D) (ci := 6) (v := .int w6) (C := RX6) (T := TX6) (N := 5) hx hb hg inG_X6 hown hK hP 0 rfl rfl 4 (by decide) (hg _ q_188) (fun _ h9 => h9) rfl dX6_readNumber_35 ?_
    refine lv_if_ne (tgt := 66) hx hb dX6_readNumber_38 (by decide) (fun c7 => ?_) (fun c7 => ?_)
    · have h := it_f c7 h
      refine lv_iload hx hb dX6_readNumber_66 (lv_at hl 0 rfl) ?_
      exact hret _ _ _ _ ls 68 dX6_readNumber_68 rfl (by rw [← Option.some.inj h]) (by rw [← Option.some.inj h]) hP hD hS
    · have h := it_t c7 h
      refine lv_iload hx hb dX6_readNumber_41 (lv_at hl 0 rfl) ?_
      refine lv_iload_n hx hb dX6_readNumber_43 rfl (lv_at hl 3 rfl) ?_
      refine lv_icmp_gt (tgt := 56) hx hb dX6_readNumber_44 (by decide) (fun c8 => ?_) (fun c8 => ?_)
      · have h := it_t c8 h
        refine lv_aload_n hx hb dX6_readNumber_56 rfl (lv_at hl 2 rfl) ?_
        refine lv_iconst (v := 1) hx hb dX6_readNumber_57 kI_1 ?_
        refine va_put (D := D) (ci := 6) (v := .int 1) (ty := .boolean) (C := RX6) (T := TX6) (N := 5) hx hb hg inG_X6 tyX6 tyX6_ok nmX6 hown hK hP hD hS 0 rfl rfl 4 (by decide) (hg _ q_188) (fun _ h9 => h9) rfl (tyX6_ok 4 (by decide)) (nar_z (Or.inr rfl)) (fit_z (Or.inr rfl)) (Nat.le_of_ble_eq_true rfl) dX6_readNumber_58 (fun H locs hP hD hS => ?_)
        have hP : va_P D vwCl [(a_t, .inr (6, [.ref a_t_letters, g_t_told, .int t_length, .int w5, .int 1])), (a_t_letters, .inl (cy 1, 60, .inl t_letters))] H := hP
        have hD : va_D A [(a_t, .inr (6, [.ref a_t_letters, g_t_told, .int t_length, .int w5, .int 1])), (a_t_letters, .inl (cy 1, 60, .inl t_letters))] := hD
        refine lv_aload_n hx hb dX6_readNumber_61 rfl (lv_at hl 2 rfl) ?_
        refine lv_iload_n hx hb dX6_readNumber_62 rfl (lv_at hl 1 rfl) ?_
        refine va_put (D := D) (ci := 6) (v := .int v1) (ty := .int) (C := RX6) (T := TX6) (N := 5) hx hb hg inG_X6 tyX6 tyX6_ok nmX6 hown hK hP hD hS 0 rfl rfl 3 (by decide) (hg _ q_187) (fun _ h9 => h9) rfl (tyX6_ok 3 (by decide)) rfl rfl (Nat.le_of_ble_eq_true rfl) dX6_readNumber_63 (fun H locs hP hD hS => ?_)
        have hP : va_P D vwCl [(a_t, .inr (6, [.ref a_t_letters, g_t_told, .int t_length, .int v1, .int 1])), (a_t_letters, .inl (cy 1, 60, .inl t_letters))] H := hP
        have hD : va_D A [(a_t, .inr (6, [.ref a_t_letters, g_t_told, .int t_length, .int v1, .int 1])), (a_t_letters, .inl (cy 1, 60, .inl t_letters))] := hD
        refine lv_iload hx hb dX6_readNumber_66 (lv_at hl 0 rfl) ?_
        exact hret _ _ _ _ ls 68 dX6_readNumber_68 rfl (by rw [← Option.some.inj h]) (by rw [← Option.some.inj h]) hP hD hS
      · have h := it_f c8 h
        refine lv_iload_n hx hb dX6_readNumber_47 rfl (lv_at hl 4 rfl) ?_
        refine lv_iload hx hb dX6_readNumber_48 (lv_at hl 0 rfl) ?_
        refine lv_ishr hx hb dX6_readNumber_50 ?_
        refine lv_iconst (v := 1) hx hb dX6_readNumber_51 kI_1 ?_
        refine lv_iand hx hb dX6_readNumber_52 ?_
        refine lv_if_eq (tgt := 66) hx hb dX6_readNumber_53 (by decide) (fun c9 => ?_) (fun c9 => ?_)
        · have h := it_t c9 h
          refine lv_iload hx hb dX6_readNumber_66 (lv_at hl 0 rfl) ?_
          exact hret _ _ _ _ ls 68 dX6_readNumber_68 rfl (by rw [← Option.some.inj h]) (by rw [← Option.some.inj h]) hP hD hS
        · have h := it_f c9 h
          refine lv_aload_n hx hb dX6_readNumber_56 rfl (lv_at hl 2 rfl) ?_
          refine lv_iconst (v := 1) hx hb dX6_readNumber_57 kI_1 ?_
          refine va_put (D := D) (ci := 6) (v := .int 1) (ty := .boolean) (C := RX6) (T := TX6) (N := 5) hx hb hg inG_X6 tyX6 tyX6_ok nmX6 hown hK hP hD hS 0 rfl rfl 4 (by decide) (hg _ q_188) (fun _ h9 => h9) rfl (tyX6_ok 4 (by decide)) (nar_z (Or.inr rfl)) (fit_z (Or.inr rfl)) (Nat.le_of_ble_eq_true rfl) dX6_readNumber_58 (fun H locs hP hD hS => ?_)
          have hP : va_P D vwCl [(a_t, .inr (6, [.ref a_t_letters, g_t_told, .int t_length, .int w5, .int 1])), (a_t_letters, .inl (cy 1, 60, .inl t_letters))] H := hP
          have hD : va_D A [(a_t, .inr (6, [.ref a_t_letters, g_t_told, .int t_length, .int w5, .int 1])), (a_t_letters, .inl (cy 1, 60, .inl t_letters))] := hD
          refine lv_aload_n hx hb dX6_readNumber_61 rfl (lv_at hl 2 rfl) ?_
          refine lv_iload_n hx hb dX6_readNumber_62 rfl (lv_at hl 1 rfl) ?_
          refine va_put (D := D) (ci := 6) (v := .int v1) (ty := .int) (C := RX6) (T := TX6) (N := 5) hx hb hg inG_X6 tyX6 tyX6_ok nmX6 hown hK hP hD hS 0 rfl rfl 3 (by decide) (hg _ q_187) (fun _ h9 => h9) rfl (tyX6_ok 3 (by decide)) rfl rfl (Nat.le_of_ble_eq_true rfl) dX6_readNumber_63 (fun H locs hP hD hS => ?_)
          have hP : va_P D vwCl [(a_t, .inr (6, [.ref a_t_letters, g_t_told, .int t_length, .int v1, .int 1])), (a_t_letters, .inl (cy 1, 60, .inl t_letters))] H := hP
          have hD : va_D A [(a_t, .inr (6, [.ref a_t_letters, g_t_told, .int t_length, .int v1, .int 1])), (a_t_letters, .inl (cy 1, 60, .inl t_letters))] := hD
          refine lv_iload hx hb dX6_readNumber_66 (lv_at hl 0 rfl) ?_
          exact hret _ _ _ _ ls 68 dX6_readNumber_68 rfl (by rw [← Option.some.inj h]) (by rw [← Option.some.inj h]) hP hD hS
  refine lv_if_eq (tgt := 34) hx hb dX6_readNumber_19 (by decide) (fun c11 => ?_) (fun c11 => ?_)
  · have h := it_t c11 h
    exact J10 v2.1 v2.2.1 v2.2.2 _ _ _ hP hD hS (lv_sub hl [0, 1, 2, 3, 4] rfl) h
  · have h := it_f c11 h
    refine lv_bipush (v := 10) hx hb dX6_readNumber_22 kB_10 ?_
    refine lv_iload hx hb dX6_readNumber_24 (lv_at hl 0 rfl) ?_
    refine lv_imul hx hb dX6_readNumber_26 ?_
    refine lv_aload_n hx hb dX6_readNumber_27 rfl (lv_at hl 2 rfl) ?_
    obtain ⟨v12, hv12, h⟩ := bind_e h
    refine callMV (As := []) (rest := [.int (10 * v2.1)]) (wr := []) (w2 := [(a_t, .inr (6, [.ref a_t_letters, g_t_told, .int t_length, .int v12.2.1, .int v12.2.2])), (a_t_letters, .inl (cy 1, 60, .inl t_letters))]) hx hb hml hown hg (c_X6_readDigit l D cy a_t a_t_letters _ (g_t_told) t_letters t_length v2.2.1 v2.2.2 F v12 hv12) q_467 q_464 q_58 q_466 q_4 hd_X6_readDigit ⟨(Nat.le_of_ble_eq_true rfl), (Nat.le_of_ble_eq_true rfl)⟩ hK hP hD hS hA [0, 1] [] rfl rfl rfl rfl (by decide) [0, 1] rfl rfl 0 6 rfl rfl rfl rfl rfl rfl hl.1 rfl rfl (Nat.le_of_ble_eq_true rfl) dX6_readNumber_28 (fun H locs hP hD hS => ?_)
    refine lv_iadd hx hb dX6_readNumber_31 ?_
    refine lv_topi (fun x13 ex13 => ?_)
    have h := bnd_e ex13 h
    refine lv_istore (lv' := [(4, .int x13), (3, .int v1), (0, .ref a_t), (1, .int p0), (2, .int p1)]) hx hb dX6_readNumber_32 hl (by decide) rfl (fun ls hl => ?_)
    exact J10 x13 v12.2.1 v12.2.2 _ _ _ hP hD hS (lv_sub hl [0, 1, 2, 3, 4] rfl) h

def m_X6_isNext (F : Nat) (t_letters : Nat → Int32) (t_length : Int32) (t_place : Int32) (t_faulty : Int32) (p0 : Int32) : Option (Int32 × Int32) := (m_X6_skipBlanks F t_letters t_length t_place t_faulty).bind (fun v1 => (m_X6_isThere t_length v1 t_faulty).bind (fun v2 => (if v2 = 0 then some (0, v1) else chk v1 60 ((if (t_letters v1.toNatClampNeg) = p0 then some (1, v1) else some (0, v1))))))
set_option maxHeartbeats 4000000 in
set_option maxRecDepth 100000 in
theorem c_X6_isNext (l : Launch) (D : va_G) (cy : Nat → ClassId) (a_t : Nat) (a_t_letters : Nat) (sz : Nat) (g_t_told : Value) (t_letters : Nat → Int32) (t_length : Int32) (t_place : Int32) (t_faulty : Int32) (p0 : Int32) (F : Nat) (out : Int32 × Int32) (h : m_X6_isNext F t_letters t_length t_place t_faulty p0 = some out) : MetM l D cy yX6_isNext cX6_isNext 2 (some .boolean) (rmG 1 20) [.ref a_t, .int p0] sz [(a_t, .inr (6, [.ref a_t_letters, g_t_told, .int t_length, .int t_place, .int t_faulty])), (a_t_letters, .inl (cy 1, 60, .inl t_letters))] (some (.int out.1)) [(a_t, .inr (6, [.ref a_t_letters, g_t_told, .int t_length, .int out.2, .int t_faulty])), (a_t_letters, .inl (cy 1, 60, .inl t_letters))] := by
  refine startMi (own := RX6) (by decide) rfl (Nat.le_of_ble_eq_true rfl) ?_
  intro p e s m below meth c QQ A hx hb hml hown hg hK hP hD hS hA hret ls hl
  have hl : lv_has ls 2 [(0, .ref a_t), (1, .int p0)] := hl
  unfold m_X6_isNext at h
  refine lv_aload_n hx hb dX6_isNext_0 rfl (lv_at hl 0 rfl) ?_
  obtain ⟨v1, hv1, h⟩ := bind_e h
  refine callMV (As := []) (rest := []) (wr := []) (w2 := [(a_t, .inr (6, [.ref a_t_letters, g_t_told, .int t_length, .int v1, .int t_faulty])), (a_t_letters, .inl (cy 1, 60, .inl t_letters))]) hx hb hml hown hg (c_X6_skipBlanks l D cy a_t a_t_letters _ (g_t_told) t_letters t_length t_place t_faulty F v1 hv1) q_463 q_460 q_58 q_462 q_3 hd_X6_skipBlanks ⟨(Nat.le_of_ble_eq_true rfl), (Nat.le_of_ble_eq_true rfl)⟩ hK hP hD hS hA [0, 1] [] rfl rfl rfl rfl (by decide) [0, 1] rfl rfl 0 6 rfl rfl rfl rfl rfl rfl hl.1 rfl rfl (Nat.le_of_ble_eq_true rfl) dX6_isNext_1 (fun H locs hP hD hS => ?_)
  refine lv_aload_n hx hb dX6_isNext_4 rfl (lv_at hl 0 rfl) ?_
  obtain ⟨v2, hv2, h⟩ := bind_e h
  refine callRV (As := []) (rest := []) (v0 := .int v2) hx hb hml hown hg (c_X6_isThere l D cy a_t (.ref a_t_letters) (g_t_told) t_length v1 t_faulty v2 hv2) q_483 q_480 q_58 q_482 q_8 hd_X6_isThere ⟨(Nat.le_of_ble_eq_true rfl), (Nat.le_of_ble_eq_true rfl)⟩ hK hP [0] rfl 0 6 rfl rfl rfl rfl rfl rfl hl.1 rfl (Nat.le_of_ble_eq_true rfl) dX6_isNext_5 ?_
  refine lv_if_eq (tgt := 28) hx hb dX6_isNext_8 (by decide) (fun c3 => ?_) (fun c3 => ?_)
  · have h := it_t c3 h
    refine lv_iconst (v := 0) hx hb dX6_isNext_28 kI_0 ?_
    exact hret _ _ _ _ ls 29 dX6_isNext_29 (nar_z (Or.inl rfl)) (by rw [← Option.some.inj h]) (by rw [← Option.some.inj h]) hP hD hS
  · have h := it_f c3 h
    refine lv_aload_n hx hb dX6_isNext_11 rfl (lv_at hl 0 rfl) ?_
    refine va_get (D := D) (ci := 6) (v := .ref a_t_letters) (C := RX6) (T := TX6) (N := 5) hx hb hg inG_X6 hown hK hP 0 rfl rfl 0 (by decide) (hg _ q_182) (fun _ h9 => h9) rfl dX6_isNext_12 ?_
    refine lv_aload_n hx hb dX6_isNext_15 rfl (lv_at hl 0 rfl) ?_
    refine va_get (D := D) (ci := 6) (v := .int v1) (C := RX6) (T := TX6) (N := 5) hx hb hg inG_X6 hown hK hP 0 rfl rfl 3 (by decide) (hg _ q_187) (fun _ h9 => h9) rfl dX6_isNext_16 ?_
    obtain ⟨hi4, h⟩ := chk_e h
    refine va_cald hx hb hK hP 1 1 rfl rfl hi4 dX6_isNext_19 ?_
    refine lv_iload_n hx hb dX6_isNext_20 rfl (lv_at hl 1 rfl) ?_
    refine lv_icmp_ne (tgt := 28) hx hb dX6_isNext_21 (by decide) (fun c5 => ?_) (fun c5 => ?_)
    · have h := it_f c5 h
      refine lv_iconst (v := 0) hx hb dX6_isNext_28 kI_0 ?_
      exact hret _ _ _ _ ls 29 dX6_isNext_29 (nar_z (Or.inl rfl)) (by rw [← Option.some.inj h]) (by rw [← Option.some.inj h]) hP hD hS
    · have h := it_t c5 h
      refine lv_iconst (v := 1) hx hb dX6_isNext_24 kI_1 ?_
      refine lv_goto (tgt := 29) hx hb dX6_isNext_25 (by decide) ?_
      exact hret _ _ _ _ ls 29 dX6_isNext_29 (nar_z (Or.inr rfl)) (by rw [← Option.some.inj h]) (by rw [← Option.some.inj h]) hP hD hS

def m_X6_isAtEnd (F : Nat) (t_letters : Nat → Int32) (t_length : Int32) (t_place : Int32) (t_faulty : Int32) : Option (Int32 × Int32) := (m_X6_skipBlanks F t_letters t_length t_place t_faulty).bind (fun v1 => (if t_faulty = 0 then (if v1 < t_length then some (0, v1) else some (1, v1)) else some (1, v1)))
set_option maxHeartbeats 4000000 in
set_option maxRecDepth 100000 in
theorem c_X6_isAtEnd (l : Launch) (D : va_G) (cy : Nat → ClassId) (a_t : Nat) (a_t_letters : Nat) (sz : Nat) (g_t_told : Value) (t_letters : Nat → Int32) (t_length : Int32) (t_place : Int32) (t_faulty : Int32) (F : Nat) (out : Int32 × Int32) (h : m_X6_isAtEnd F t_letters t_length t_place t_faulty = some out) : MetM l D cy yX6_isAtEnd cX6_isAtEnd 1 (some .boolean) (rmG 1 20) [.ref a_t] sz [(a_t, .inr (6, [.ref a_t_letters, g_t_told, .int t_length, .int t_place, .int t_faulty])), (a_t_letters, .inl (cy 1, 60, .inl t_letters))] (some (.int out.1)) [(a_t, .inr (6, [.ref a_t_letters, g_t_told, .int t_length, .int out.2, .int t_faulty])), (a_t_letters, .inl (cy 1, 60, .inl t_letters))] := by
  refine startMi (own := RX6) (by decide) rfl (Nat.le_of_ble_eq_true rfl) ?_
  intro p e s m below meth c QQ A hx hb hml hown hg hK hP hD hS hA hret ls hl
  have hl : lv_has ls 1 [(0, .ref a_t)] := hl
  unfold m_X6_isAtEnd at h
  refine lv_aload_n hx hb dX6_isAtEnd_0 rfl (lv_at hl 0 rfl) ?_
  obtain ⟨v1, hv1, h⟩ := bind_e h
  refine callMV (As := []) (rest := []) (wr := []) (w2 := [(a_t, .inr (6, [.ref a_t_letters, g_t_told, .int t_length, .int v1, .int t_faulty])), (a_t_letters, .inl (cy 1, 60, .inl t_letters))]) hx hb hml hown hg (c_X6_skipBlanks l D cy a_t a_t_letters _ (g_t_told) t_letters t_length t_place t_faulty F v1 hv1) q_463 q_460 q_58 q_462 q_3 hd_X6_skipBlanks ⟨(Nat.le_of_ble_eq_true rfl), (Nat.le_of_ble_eq_true rfl)⟩ hK hP hD hS hA [0, 1] [] rfl rfl rfl rfl (by decide) [0, 1] rfl rfl 0 6 rfl rfl rfl rfl rfl rfl hl.1 rfl rfl (Nat.le_of_ble_eq_true rfl) dX6_isAtEnd_1 (fun H locs hP hD hS => ?_)
  refine lv_aload_n hx hb dX6_isAtEnd_4 rfl (lv_at hl 0 rfl) ?_
  refine va_get (D := D) (ci := 6) (v := .int t_faulty) (C := RX6) (T := TX6) (N := 5) hx hb hg inG_X6 hown hK hP 0 rfl rfl 4 (by decide) (hg _ q_188) (fun _ h9 => h9) rfl dX6_isAtEnd_5 ?_
  refine lv_if_ne (tgt := 22) hx hb dX6_isAtEnd_8 (by decide) (fun c2 => ?_) (fun c2 => ?_)
  · have h := it_f c2 h
    refine lv_iconst (v := 1) hx hb dX6_isAtEnd_22 kI_1 ?_
    refine lv_goto (tgt := 27) hx hb dX6_isAtEnd_23 (by decide) ?_
    exact hret _ _ _ _ ls 27 dX6_isAtEnd_27 (nar_z (Or.inr rfl)) (by rw [← Option.some.inj h]) (by rw [← Option.some.inj h]) hP hD hS
  · have h := it_t c2 h
    refine lv_aload_n hx hb dX6_isAtEnd_11 rfl (lv_at hl 0 rfl) ?_
    refine va_get (D := D) (ci := 6) (v := .int v1) (C := RX6) (T := TX6) (N := 5) hx hb hg inG_X6 hown hK hP 0 rfl rfl 3 (by decide) (hg _ q_187) (fun _ h9 => h9) rfl dX6_isAtEnd_12 ?_
    refine lv_aload_n hx hb dX6_isAtEnd_15 rfl (lv_at hl 0 rfl) ?_
    refine va_get (D := D) (ci := 6) (v := .int t_length) (C := RX6) (T := TX6) (N := 5) hx hb hg inG_X6 hown hK hP 0 rfl rfl 2 (by decide) (hg _ q_185) (fun _ h9 => h9) rfl dX6_isAtEnd_16 ?_
    refine lv_icmp_lt (tgt := 26) hx hb dX6_isAtEnd_19 (by decide) (fun c3 => ?_) (fun c3 => ?_)
    · have h := it_t c3 h
      refine lv_iconst (v := 0) hx hb dX6_isAtEnd_26 kI_0 ?_
      exact hret _ _ _ _ ls 27 dX6_isAtEnd_27 (nar_z (Or.inl rfl)) (by rw [← Option.some.inj h]) (by rw [← Option.some.inj h]) hP hD hS
    · have h := it_f c3 h
      refine lv_iconst (v := 1) hx hb dX6_isAtEnd_22 kI_1 ?_
      refine lv_goto (tgt := 27) hx hb dX6_isAtEnd_23 (by decide) ?_
      exact hret _ _ _ _ ls 27 dX6_isAtEnd_27 (nar_z (Or.inr rfl)) (by rw [← Option.some.inj h]) (by rw [← Option.some.inj h]) hP hD hS

def m_X6_readSign (F : Nat) (t_letters : Nat → Int32) (t_length : Int32) (t_place : Int32) (t_faulty : Int32) (p0 : Int32) : Option (Int32 × Int32) := (m_X6_isNext F t_letters t_length t_place t_faulty p0).bind (fun v1 => (if v1.1 = 0 then some (v1.2, 1) else some (v1.2 + 1, t_faulty)))
set_option maxHeartbeats 4000000 in
set_option maxRecDepth 100000 in
theorem c_X6_readSign (l : Launch) (D : va_G) (cy : Nat → ClassId) (a_t : Nat) (a_t_letters : Nat) (sz : Nat) (g_t_told : Value) (t_letters : Nat → Int32) (t_length : Int32) (t_place : Int32) (t_faulty : Int32) (p0 : Int32) (F : Nat) (out : Int32 × Int32) (h : m_X6_readSign F t_letters t_length t_place t_faulty p0 = some out) : MetM l D cy yX6_readSign cX6_readSign 2 none (rmG 2 41) [.ref a_t, .int p0] sz [(a_t, .inr (6, [.ref a_t_letters, g_t_told, .int t_length, .int t_place, .int t_faulty])), (a_t_letters, .inl (cy 1, 60, .inl t_letters))] none [(a_t, .inr (6, [.ref a_t_letters, g_t_told, .int t_length, .int out.1, .int out.2])), (a_t_letters, .inl (cy 1, 60, .inl t_letters))] := by
  refine startMv (own := RX6) (by decide) rfl (Nat.le_of_ble_eq_true rfl) ?_
  intro p e s m below meth c QQ A hx hb hml hown hg hK hP hD hS hA hret ls hl
  have hl : lv_has ls 2 [(0, .ref a_t), (1, .int p0)] := hl
  unfold m_X6_readSign at h
  refine lv_aload_n hx hb dX6_readSign_0 rfl (lv_at hl 0 rfl) ?_
  refine lv_iload_n hx hb dX6_readSign_1 rfl (lv_at hl 1 rfl) ?_
  obtain ⟨v1, hv1, h⟩ := bind_e h
  refine callMV (As := [.int p0]) (rest := []) (wr := []) (w2 := [(a_t, .inr (6, [.ref a_t_letters, g_t_told, .int t_length, .int v1.2, .int t_faulty])), (a_t_letters, .inl (cy 1, 60, .inl t_letters))]) hx hb hml hown hg (c_X6_isNext l D cy a_t a_t_letters _ (g_t_told) t_letters t_length t_place t_faulty p0 F v1 hv1) q_479 q_476 q_58 q_478 q_7 hd_X6_isNext ⟨(Nat.le_of_ble_eq_true rfl), (Nat.le_of_ble_eq_true rfl)⟩ hK hP hD hS hA [0, 1] [] rfl rfl rfl rfl (by decide) [0, 1] rfl rfl 0 6 rfl rfl rfl rfl rfl rfl hl.1 rfl rfl (Nat.le_of_ble_eq_true rfl) dX6_readSign_2 (fun H locs hP hD hS => ?_)
  refine lv_if_eq (tgt := 21) hx hb dX6_readSign_5 (by decide) (fun c2 => ?_) (fun c2 => ?_)
  · have h := it_t c2 h
    refine lv_aload_n hx hb dX6_readSign_21 rfl (lv_at hl 0 rfl) ?_
    refine lv_iconst (v := 1) hx hb dX6_readSign_22 kI_1 ?_
    refine va_put (D := D) (ci := 6) (v := .int 1) (ty := .boolean) (C := RX6) (T := TX6) (N := 5) hx hb hg inG_X6 tyX6 tyX6_ok nmX6 hown hK hP hD hS 0 rfl rfl 4 (by decide) (hg _ q_188) (fun _ h9 => h9) rfl (tyX6_ok 4 (by decide)) (nar_z (Or.inr rfl)) (fit_z (Or.inr rfl)) (Nat.le_of_ble_eq_true rfl) dX6_readSign_23 (fun H locs hP hD hS => ?_)
    have hP : va_P D vwCl [(a_t, .inr (6, [.ref a_t_letters, g_t_told, .int t_length, .int v1.2, .int 1])), (a_t_letters, .inl (cy 1, 60, .inl t_letters))] H := hP
    have hD : va_D A [(a_t, .inr (6, [.ref a_t_letters, g_t_told, .int t_length, .int v1.2, .int 1])), (a_t_letters, .inl (cy 1, 60, .inl t_letters))] := hD
    exact hret _ _ _ ls 26 dX6_readSign_26 (by rw [← Option.some.inj h]) hP hD hS
  · have h := it_f c2 h
    refine lv_aload_n hx hb dX6_readSign_8 rfl (lv_at hl 0 rfl) ?_
    refine lv_dup hx hb dX6_readSign_9 rfl ?_
    refine va_get (D := D) (ci := 6) (v := .int v1.2) (C := RX6) (T := TX6) (N := 5) hx hb hg inG_X6 hown hK hP 0 rfl rfl 3 (by decide) (hg _ q_187) (fun _ h9 => h9) rfl dX6_readSign_10 ?_
    refine lv_iconst (v := 1) hx hb dX6_readSign_13 kI_1 ?_
    refine lv_iadd hx hb dX6_readSign_14 ?_
    refine va_put (D := D) (ci := 6) (v := .int (v1.2 + 1)) (ty := .int) (C := RX6) (T := TX6) (N := 5) hx hb hg inG_X6 tyX6 tyX6_ok nmX6 hown hK hP hD hS 0 rfl rfl 3 (by decide) (hg _ q_187) (fun _ h9 => h9) rfl (tyX6_ok 3 (by decide)) rfl rfl (Nat.le_of_ble_eq_true rfl) dX6_readSign_15 (fun H locs hP hD hS => ?_)
    have hP : va_P D vwCl [(a_t, .inr (6, [.ref a_t_letters, g_t_told, .int t_length, .int (v1.2 + 1), .int t_faulty])), (a_t_letters, .inl (cy 1, 60, .inl t_letters))] H := hP
    have hD : va_D A [(a_t, .inr (6, [.ref a_t_letters, g_t_told, .int t_length, .int (v1.2 + 1), .int t_faulty])), (a_t_letters, .inl (cy 1, 60, .inl t_letters))] := hD
    refine lv_goto (tgt := 26) hx hb dX6_readSign_18 (by decide) ?_
    exact hret _ _ _ ls 26 dX6_readSign_26 (by rw [← Option.some.inj h]) hP hD hS

def m_X6_readMan (F : Nat) (t_letters : Nat → Int32) (t_told_paints : Nat → Int32) (t_told_inches : Nat → Int32) (t_told_kinds : Nat → Int32) (t_told_men : Int32) (t_length : Int32) (t_place : Int32) (t_faulty : Int32) : Option ((Nat → Int32) × (Nat → Int32) × (Nat → Int32) × Int32 × Int32 × Int32) := (m_X6_readKind F t_letters t_length t_place t_faulty).bind (fun v1 => (m_X6_readDigit F t_letters t_length v1.2.1 v1.2.2).bind (fun v2 => (m_X6_isNext F t_letters t_length v2.2.1 v2.2.2 64).bind (fun v3 => jn (fun (x4 : Int32) (w5 : Int32) (w6 : Int32) => (if w6 = 0 then (m_X3_enlist t_told_paints t_told_inches t_told_kinds t_told_men v1.1 v2.1 x4).bind (fun v8 => some (v8.1, v8.2.1, v8.2.2.1, v8.2.2.2, w5, w6)) else some (t_told_paints, t_told_inches, t_told_kinds, t_told_men, w5, w6))) (fun k9 => (if v3.1 = 0 then k9 (-1) v3.2 v2.2.2 else (m_X6_readSign F t_letters t_length v3.2 v2.2.2 64).bind (fun v11 => (m_X3_inchesTaken F t_told_inches t_told_men).bind (fun v12 => (m_X6_readNumber F t_letters t_length v11.1 v11.2 11 v12).bind (fun v13 => k9 v13.1 v13.2.1 v13.2.2))))))))
set_option maxHeartbeats 4000000 in
set_option maxRecDepth 100000 in
theorem c_X6_readMan (l : Launch) (D : va_G) (cy : Nat → ClassId) (ka kv : Nat) (a_t : Nat) (a_t_letters : Nat) (a_t_told : Nat) (a_t_told_paints : Nat) (a_t_told_inches : Nat) (a_t_told_kinds : Nat) (sz : Nat) (g_t_told_night : Value) (g_t_told_draw : Value) (g_t_told_source : Value) (g_t_told_stride : Value) (g_t_told_height : Value) (t_letters : Nat → Int32) (t_told_paints : Nat → Int32) (t_told_inches : Nat → Int32) (t_told_kinds : Nat → Int32) (t_told_men : Int32) (t_length : Int32) (t_place : Int32) (t_faulty : Int32) (F : Nat) (out : (Nat → Int32) × (Nat → Int32) × (Nat → Int32) × Int32 × Int32 × Int32) (h : m_X6_readMan F t_letters t_told_paints t_told_inches t_told_kinds t_told_men t_length t_place t_faulty = some out) : MetMc l D cy ka kv yX6_readMan cX6_readMan 4 none (rmG 5 112) [.ref a_t] sz [(a_t, .inr (6, [.ref a_t_letters, .ref a_t_told, .int t_length, .int t_place, .int t_faulty])), (a_t_letters, .inl (cy 1, 60, .inl t_letters)), (a_t_told, .inr (3, [.ref a_t_told_paints, .ref a_t_told_inches, g_t_told_night, g_t_told_draw, .ref a_t_told_kinds, .int t_told_men, g_t_told_source, g_t_told_stride, g_t_told_height])), (a_t_told_paints, .inl (cy 0, 6, .inl t_told_paints)), (a_t_told_inches, .inl (cy 0, 6, .inl t_told_inches)), (a_t_told_kinds, .inl (cy 0, 6, .inl t_told_kinds))] none [(a_t, .inr (6, [.ref a_t_letters, .ref a_t_told, .int t_length, .int out.2.2.2.2.1, .int out.2.2.2.2.2])), (a_t_letters, .inl (cy 1, 60, .inl t_letters)), (a_t_told, .inr (3, [.ref a_t_told_paints, .ref a_t_told_inches, g_t_told_night, g_t_told_draw, .ref a_t_told_kinds, .int out.2.2.2.1, g_t_told_source, g_t_told_stride, g_t_told_height])), (a_t_told_paints, .inl (cy 0, 6, .inl out.1)), (a_t_told_inches, .inl (cy 0, 6, .inl out.2.1)), (a_t_told_kinds, .inl (cy 0, 6, .inl out.2.2.1))] := by
  refine startMvc (own := RX6) (by decide) rfl (Nat.le_of_ble_eq_true rfl) ?_
  intro p e s m below meth c QQ A hx hb hml hown hg hC hK hP hD hS hA hret ls hl
  have hl : lv_has ls 4 [(0, .ref a_t)] := hl
  unfold m_X6_readMan at h
  refine lv_aload_n hx hb dX6_readMan_0 rfl (lv_at hl 0 rfl) ?_
  obtain ⟨v1, hv1, h⟩ := bind_e h
  refine callMVc (As := []) (rest := []) (wr := [(a_t_told, .inr (3, [.ref a_t_told_paints, .ref a_t_told_inches, g_t_told_night, g_t_told_draw, .ref a_t_told_kinds, .int t_told_men, g_t_told_source, g_t_told_stride, g_t_told_height])), (a_t_told_paints, .inl (cy 0, 6, .inl t_told_paints)), (a_t_told_inches, .inl (cy 0, 6, .inl t_told_inches)), (a_t_told_kinds, .inl (cy 0, 6, .inl t_told_kinds))]) (w2 := [(a_t, .inr (6, [.ref a_t_letters, .ref a_t_told, .int t_length, .int v1.2.1, .int v1.2.2])), (a_t_letters, .inl (cy 1, 60, .inl t_letters)), (a_t_told, .inr (3, [.ref a_t_told_paints, .ref a_t_told_inches, g_t_told_night, g_t_told_draw, .ref a_t_told_kinds, .int t_told_men, g_t_told_source, g_t_told_stride, g_t_told_height])), (a_t_told_paints, .inl (cy 0, 6, .inl t_told_paints)), (a_t_told_inches, .inl (cy 0, 6, .inl t_told_inches)), (a_t_told_kinds, .inl (cy 0, 6, .inl t_told_kinds))]) hx hb hml hown hg (c_X6_readKind l D cy ka kv a_t a_t_letters _ (.ref a_t_told) t_letters t_length t_place t_faulty F v1 hv1) q_499 q_496 q_58 q_498 q_12 hd_X6_readKind ⟨(Nat.le_of_ble_eq_true rfl), (Nat.le_of_ble_eq_true rfl)⟩ hC hK hP hD hS hA [0, 1] [2, 3, 4, 5] rfl rfl rfl rfl (by decide) [4, 5, 0, 1, 2, 3] rfl rfl 0 6 rfl rfl rfl rfl rfl rfl hl.1 rfl rfl (Nat.le_of_ble_eq_true rfl) dX6_readMan_1 (fun H locs hP hD hS => ?_)
  refine lv_istore_n (lv' := [(1, .int v1.1), (0, .ref a_t)]) hx hb dX6_readMan_4 rfl hl (by decide) rfl (fun ls hl => ?_)
  refine lv_aload_n hx hb dX6_readMan_5 rfl (lv_at hl 1 rfl) ?_
  obtain ⟨v2, hv2, h⟩ := bind_e h
  refine callMV (As := []) (rest := []) (wr := [(a_t_told, .inr (3, [.ref a_t_told_paints, .ref a_t_told_inches, g_t_told_night, g_t_told_draw, .ref a_t_told_kinds, .int t_told_men, g_t_told_source, g_t_told_stride, g_t_told_height])), (a_t_told_paints, .inl (cy 0, 6, .inl t_told_paints)), (a_t_told_inches, .inl (cy 0, 6, .inl t_told_inches)), (a_t_told_kinds, .inl (cy 0, 6, .inl t_told_kinds))]) (w2 := [(a_t, .inr (6, [.ref a_t_letters, .ref a_t_told, .int t_length, .int v2.2.1, .int v2.2.2])), (a_t_letters, .inl (cy 1, 60, .inl t_letters)), (a_t_told, .inr (3, [.ref a_t_told_paints, .ref a_t_told_inches, g_t_told_night, g_t_told_draw, .ref a_t_told_kinds, .int t_told_men, g_t_told_source, g_t_told_stride, g_t_told_height])), (a_t_told_paints, .inl (cy 0, 6, .inl t_told_paints)), (a_t_told_inches, .inl (cy 0, 6, .inl t_told_inches)), (a_t_told_kinds, .inl (cy 0, 6, .inl t_told_kinds))]) hx hb hml hown hg (c_X6_readDigit l D cy a_t a_t_letters _ (.ref a_t_told) t_letters t_length v1.2.1 v1.2.2 F v2 hv2) q_467 q_464 q_58 q_466 q_4 hd_X6_readDigit ⟨(Nat.le_of_ble_eq_true rfl), (Nat.le_of_ble_eq_true rfl)⟩ hK hP hD hS hA [0, 1] [2, 3, 4, 5] rfl rfl rfl rfl (by decide) [4, 5, 0, 1, 2, 3] rfl rfl 0 6 rfl rfl rfl rfl rfl rfl hl.1 rfl rfl (Nat.le_of_ble_eq_true rfl) dX6_readMan_6 (fun H locs hP hD hS => ?_)
  refine lv_istore_n (lv' := [(2, .int v2.1), (1, .int v1.1), (0, .ref a_t)]) hx hb dX6_readMan_9 rfl hl (by decide) rfl (fun ls hl => ?_)
  refine lv_iconst (v := (-1)) hx hb dX6_readMan_10 kI_m1 ?_
  refine lv_istore_n (lv' := [(3, .int (-1)), (2, .int v2.1), (1, .int v1.1), (0, .ref a_t)]) hx hb dX6_readMan_11 rfl hl (by decide) rfl (fun ls hl => ?_)
  refine lv_aload_n hx hb dX6_readMan_12 rfl (lv_at hl 3 rfl) ?_
  refine lv_bipush (v := 64) hx hb dX6_readMan_13 kB_64 ?_
  obtain ⟨v3, hv3, h⟩ := bind_e h
  refine callMV (As := [.int 64]) (rest := []) (wr := [(a_t_told, .inr (3, [.ref a_t_told_paints, .ref a_t_told_inches, g_t_told_night, g_t_told_draw, .ref a_t_told_kinds, .int t_told_men, g_t_told_source, g_t_told_stride, g_t_told_height])), (a_t_told_paints, .inl (cy 0, 6, .inl t_told_paints)), (a_t_told_inches, .inl (cy 0, 6, .inl t_told_inches)), (a_t_told_kinds, .inl (cy 0, 6, .inl t_told_kinds))]) (w2 := [(a_t, .inr (6, [.ref a_t_letters, .ref a_t_told, .int t_length, .int v3.2, .int v2.2.2])), (a_t_letters, .inl (cy 1, 60, .inl t_letters)), (a_t_told, .inr (3, [.ref a_t_told_paints, .ref a_t_told_inches, g_t_told_night, g_t_told_draw, .ref a_t_told_kinds, .int t_told_men, g_t_told_source, g_t_told_stride, g_t_told_height])), (a_t_told_paints, .inl (cy 0, 6, .inl t_told_paints)), (a_t_told_inches, .inl (cy 0, 6, .inl t_told_inches)), (a_t_told_kinds, .inl (cy 0, 6, .inl t_told_kinds))]) hx hb hml hown hg (c_X6_isNext l D cy a_t a_t_letters _ (.ref a_t_told) t_letters t_length v2.2.1 v2.2.2 64 F v3 hv3) q_479 q_476 q_58 q_478 q_7 hd_X6_isNext ⟨(Nat.le_of_ble_eq_true rfl), (Nat.le_of_ble_eq_true rfl)⟩ hK hP hD hS hA [0, 1] [2, 3, 4, 5] rfl rfl rfl rfl (by decide) [4, 5, 0, 1, 2, 3] rfl rfl 0 6 rfl rfl rfl rfl rfl rfl hl.1 rfl rfl (Nat.le_of_ble_eq_true rfl) dX6_readMan_15 (fun H locs hP hD hS => ?_)
  obtain ⟨k9, hk9, h⟩ := jn_e h
  have J9 : ∀ (x4 : Int32) (w5 : Int32) (w6 : Int32) (H : Heap) (locs : List Loc) (ls : Array Slot), va_P D vwCl [(a_t, .inr (6, [.ref a_t_letters, .ref a_t_told, .int t_length, .int w5, .int w6])), (a_t_letters, .inl (cy 1, 60, .inl t_letters)), (a_t_told, .inr (3, [.ref a_t_told_paints, .ref a_t_told_inches, g_t_told_night, g_t_told_draw, .ref a_t_told_kinds, .int t_told_men, g_t_told_source, g_t_told_stride, g_t_told_height])), (a_t_told_paints, .inl (cy 0, 6, .inl t_told_paints)), (a_t_told_inches, .inl (cy 0, 6, .inl t_told_inches)), (a_t_told_kinds, .inl (cy 0, 6, .inl t_told_kinds))] H → va_D A [(a_t, .inr (6, [.ref a_t_letters, .ref a_t_told, .int t_length, .int w5, .int w6])), (a_t_letters, .inl (cy 1, 60, .inl t_letters)), (a_t_told, .inr (3, [.ref a_t_told_paints, .ref a_t_told_inches, g_t_told_night, g_t_told_draw, .ref a_t_told_kinds, .int t_told_men, g_t_told_source, g_t_told_stride, g_t_told_height])), (a_t_told_paints, .inl (cy 0, 6, .inl t_told_paints)), (a_t_told_inches, .inl (cy 0, 6, .inl t_told_inches)), (a_t_told_kinds, .inl (cy 0, 6, .inl t_told_kinds))] → va_S A s.heap H locs → lv_has ls 4 [(3, .int x4), (2, .int v2.1), (1, .int v1.1), (0, .ref a_t)] → k9 x4 w5 w6 = some out → W p l e (rmG 5 112) s m [.ref a_t].toArray below meth c H locs 0 0 QQ (F0 m 41 ls []) := by
    intro x4 w5 w6 H locs ls hP hD hS hl h
    rw [hk9] at h
    refine lv_aload_n hx hb dX6_readMan_41 rfl (lv_at hl 3 rfl) ?_
    refine va_get (D := D) (ci := 6) (v := .int w6) (C := RX6) (T := TX6) (N := 5) hx hb hg inG_X6 hown hK hP 0 rfl rfl 4 (by decide) (hg _ q_188) (fun _ h9 => h9) rfl dX6_readMan_42 ?_
    refine lv_if_ne (tgt := 58) hx hb dX6_readMan_45 (by decide) (fun c7 => ?_) (fun c7 => ?_)
    · have h := it_f c7 h
      exact hret _ _ _ ls 58 dX6_readMan_58 (by rw [← Option.some.inj h]) hP hD hS
    · have h := it_t c7 h
      refine lv_aload_n hx hb dX6_readMan_48 rfl (lv_at hl 3 rfl) ?_
      refine va_get (D := D) (ci := 6) (v := .ref a_t_told) (C := RX6) (T := TX6) (N := 5) hx hb hg inG_X6 hown hK hP 0 rfl rfl 1 (by decide) (hg _ q_183) (fun _ h9 => h9) rfl dX6_readMan_49 ?_
      refine lv_iload_n hx hb dX6_readMan_52 rfl (lv_at hl 2 rfl) ?_
      refine lv_iload_n hx hb dX6_readMan_53 rfl (lv_at hl 1 rfl) ?_
      refine lv_iload_n hx hb dX6_readMan_54 rfl (lv_at hl 0 rfl) ?_
      obtain ⟨v8, hv8, h⟩ := bind_e h
      refine callMV (As := [.int v1.1, .int v2.1, .int x4]) (rest := []) (wr := [(a_t, .inr (6, [.ref a_t_letters, .ref a_t_told, .int t_length, .int w5, .int w6])), (a_t_letters, .inl (cy 1, 60, .inl t_letters))]) (w2 := [(a_t, .inr (6, [.ref a_t_letters, .ref a_t_told, .int t_length, .int w5, .int w6])), (a_t_letters, .inl (cy 1, 60, .inl t_letters)), (a_t_told, .inr (3, [.ref a_t_told_paints, .ref a_t_told_inches, g_t_told_night, g_t_told_draw, .ref a_t_told_kinds, .int v8.2.2.2, g_t_told_source, g_t_told_stride, g_t_told_height])), (a_t_told_paints, .inl (cy 0, 6, .inl v8.1)), (a_t_told_inches, .inl (cy 0, 6, .inl v8.2.1)), (a_t_told_kinds, .inl (cy 0, 6, .inl v8.2.2.1))]) hx hb hml hown hg (c_X3_enlist l D cy a_t_told a_t_told_paints a_t_told_inches a_t_told_kinds _ (g_t_told_night) (g_t_told_draw) (g_t_told_source) (g_t_told_stride) (g_t_told_height) t_told_paints t_told_inches t_told_kinds t_told_men v1.1 v2.1 x4 v8 hv8) q_363 q_586 q_56 q_361 q_362 hd_X3_enlist ⟨(Nat.le_of_ble_eq_true rfl), (Nat.le_of_ble_eq_true rfl)⟩ hK hP hD hS hA [2, 3, 4, 5] [0, 1] rfl rfl rfl rfl (by decide) [0, 1, 2, 3, 4, 5] rfl rfl 2 3 rfl rfl rfl rfl rfl rfl hl.1 rfl rfl (Nat.le_of_ble_eq_true rfl) dX6_readMan_55 (fun H locs hP hD hS => ?_)
      exact hret _ _ _ ls 58 dX6_readMan_58 (by rw [← Option.some.inj h]) hP hD hS
  refine lv_if_eq (tgt := 41) hx hb dX6_readMan_18 (by decide) (fun c10 => ?_) (fun c10 => ?_)
  · have h := it_t c10 h
    exact J9 (-1) v3.2 v2.2.2 _ _ _ hP hD hS (lv_sub hl [0, 1, 2, 3] rfl) h
  · have h := it_f c10 h
    refine lv_aload_n hx hb dX6_readMan_21 rfl (lv_at hl 3 rfl) ?_
    refine lv_bipush (v := 64) hx hb dX6_readMan_22 kB_64 ?_
    obtain ⟨v11, hv11, h⟩ := bind_e h
    refine callMV (As := [.int 64]) (rest := []) (wr := [(a_t_told, .inr (3, [.ref a_t_told_paints, .ref a_t_told_inches, g_t_told_night, g_t_told_draw, .ref a_t_told_kinds, .int t_told_men, g_t_told_source, g_t_told_stride, g_t_told_height])), (a_t_told_paints, .inl (cy 0, 6, .inl t_told_paints)), (a_t_told_inches, .inl (cy 0, 6, .inl t_told_inches)), (a_t_told_kinds, .inl (cy 0, 6, .inl t_told_kinds))]) (w2 := [(a_t, .inr (6, [.ref a_t_letters, .ref a_t_told, .int t_length, .int v11.1, .int v11.2])), (a_t_letters, .inl (cy 1, 60, .inl t_letters)), (a_t_told, .inr (3, [.ref a_t_told_paints, .ref a_t_told_inches, g_t_told_night, g_t_told_draw, .ref a_t_told_kinds, .int t_told_men, g_t_told_source, g_t_told_stride, g_t_told_height])), (a_t_told_paints, .inl (cy 0, 6, .inl t_told_paints)), (a_t_told_inches, .inl (cy 0, 6, .inl t_told_inches)), (a_t_told_kinds, .inl (cy 0, 6, .inl t_told_kinds))]) hx hb hml hown hg (c_X6_readSign l D cy a_t a_t_letters _ (.ref a_t_told) t_letters t_length v3.2 v2.2.2 64 F v11 hv11) q_475 q_472 q_58 q_474 q_6 hd_X6_readSign ⟨(Nat.le_of_ble_eq_true rfl), (Nat.le_of_ble_eq_true rfl)⟩ hK hP hD hS hA [0, 1] [2, 3, 4, 5] rfl rfl rfl rfl (by decide) [4, 5, 0, 1, 2, 3] rfl rfl 0 6 rfl rfl rfl rfl rfl rfl hl.1 rfl rfl (Nat.le_of_ble_eq_true rfl) dX6_readMan_24 (fun H locs hP hD hS => ?_)
    refine lv_aload_n hx hb dX6_readMan_27 rfl (lv_at hl 3 rfl) ?_
    refine lv_bipush (v := 11) hx hb dX6_readMan_28 kB_11 ?_
    refine lv_aload_n hx hb dX6_readMan_30 rfl (lv_at hl 3 rfl) ?_
    refine va_get (D := D) (ci := 6) (v := .ref a_t_told) (C := RX6) (T := TX6) (N := 5) hx hb hg inG_X6 hown hK hP 0 rfl rfl 1 (by decide) (hg _ q_183) (fun _ h9 => h9) rfl dX6_readMan_31 ?_
    obtain ⟨v12, hv12, h⟩ := bind_e h
    refine callRV (As := []) (rest := [.int 11, .ref a_t]) (v0 := .int v12) hx hb hml hown hg (c_X3_inchesTaken l D cy a_t_told a_t_told_inches (.ref a_t_told_paints) (g_t_told_night) (g_t_told_draw) (.ref a_t_told_kinds) (g_t_told_source) (g_t_told_stride) (g_t_told_height) t_told_inches t_told_men F v12 hv12) q_390 q_585 q_56 q_388 q_389 hd_X3_inchesTaken ⟨(Nat.le_of_ble_eq_true rfl), (Nat.le_of_ble_eq_true rfl)⟩ hK hP [2, 4] rfl 2 3 rfl rfl rfl rfl rfl rfl hl.1 rfl (Nat.le_of_ble_eq_true rfl) dX6_readMan_34 ?_
    obtain ⟨v13, hv13, h⟩ := bind_e h
    refine callMV (As := [.int 11, .int v12]) (rest := []) (wr := [(a_t_told, .inr (3, [.ref a_t_told_paints, .ref a_t_told_inches, g_t_told_night, g_t_told_draw, .ref a_t_told_kinds, .int t_told_men, g_t_told_source, g_t_told_stride, g_t_told_height])), (a_t_told_paints, .inl (cy 0, 6, .inl t_told_paints)), (a_t_told_inches, .inl (cy 0, 6, .inl t_told_inches)), (a_t_told_kinds, .inl (cy 0, 6, .inl t_told_kinds))]) (w2 := [(a_t, .inr (6, [.ref a_t_letters, .ref a_t_told, .int t_length, .int v13.2.1, .int v13.2.2])), (a_t_letters, .inl (cy 1, 60, .inl t_letters)), (a_t_told, .inr (3, [.ref a_t_told_paints, .ref a_t_told_inches, g_t_told_night, g_t_told_draw, .ref a_t_told_kinds, .int t_told_men, g_t_told_source, g_t_told_stride, g_t_told_height])), (a_t_told_paints, .inl (cy 0, 6, .inl t_told_paints)), (a_t_told_inches, .inl (cy 0, 6, .inl t_told_inches)), (a_t_told_kinds, .inl (cy 0, 6, .inl t_told_kinds))]) hx hb hml hown hg (c_X6_readNumber l D cy a_t a_t_letters _ (.ref a_t_told) t_letters t_length v11.1 v11.2 11 v12 F v13 hv13) q_459 q_456 q_58 q_458 q_2 hd_X6_readNumber ⟨(Nat.le_of_ble_eq_true rfl), (Nat.le_of_ble_eq_true rfl)⟩ hK hP hD hS hA [0, 1] [2, 3, 4, 5] rfl rfl rfl rfl (by decide) [4, 5, 0, 1, 2, 3] rfl rfl 0 6 rfl rfl rfl rfl rfl rfl hl.1 rfl rfl (Nat.le_of_ble_eq_true rfl) dX6_readMan_37 (fun H locs hP hD hS => ?_)
    refine lv_istore_n (lv' := [(3, .int v13.1), (2, .int v2.1), (1, .int v1.1), (0, .ref a_t)]) hx hb dX6_readMan_40 rfl hl (by decide) rfl (fun ls hl => ?_)
    exact J9 v13.1 v13.2.1 v13.2.2 _ _ _ hP hD hS (lv_sub hl [0, 1, 2, 3] rfl) h

def m_X6_readMen_L6s (t_letters : Nat → Int32) (t_length : Int32) (F : Nat) (k17 : (Nat → Int32) → (Nat → Int32) → (Nat → Int32) → Int32 → Int32 → Int32 → Option ((Nat → Int32) × (Nat → Int32) × (Nat → Int32) × Int32 × Int32 × Int32)) (r19 : Int32 → (Nat → Int32) → (Nat → Int32) → (Nat → Int32) → Int32 → Int32 → Int32 → Option ((Nat → Int32) × (Nat → Int32) × (Nat → Int32) × Int32 × Int32 × Int32)) (x2 : Int32) (w3 : Nat → Int32) (w4 : Nat → Int32) (w5 : Nat → Int32) (w6 : Int32) (w7 : Int32) (w8 : Int32) : Option ((Nat → Int32) × (Nat → Int32) × (Nat → Int32) × Int32 × Int32 × Int32) := (if 6 ≤ x2 then k17 w3 w4 w5 w6 w7 w8 else (m_X6_isAtEnd F t_letters t_length w7 w8).bind (fun v21 => (if v21.1 = 0 then (m_X6_readSign F t_letters t_length v21.2 w8 44).bind (fun v23 => (m_X6_readMan F t_letters w3 w4 w5 w6 t_length v23.1 v23.2).bind (fun v24 => bnd (x2 + 1) (fun x25 => r19 x25 v24.1 v24.2.1 v24.2.2.1 v24.2.2.2.1 v24.2.2.2.2.1 v24.2.2.2.2.2))) else k17 w3 w4 w5 w6 v21.2 w8)))
def m_X6_readMen_L6 (t_letters : Nat → Int32) (t_length : Int32) (F : Nat) (k17 : (Nat → Int32) → (Nat → Int32) → (Nat → Int32) → Int32 → Int32 → Int32 → Option ((Nat → Int32) × (Nat → Int32) × (Nat → Int32) × Int32 × Int32 × Int32)) : Nat → Int32 → (Nat → Int32) → (Nat → Int32) → (Nat → Int32) → Int32 → Int32 → Int32 → Option ((Nat → Int32) × (Nat → Int32) × (Nat → Int32) × Int32 × Int32 × Int32)
  | 0 => fun _ _ _ _ _ _ _ => none
  | nF + 1 => m_X6_readMen_L6s t_letters t_length F k17 (m_X6_readMen_L6 t_letters t_length F k17 nF)
def m_X6_readMen (F : Nat) (t_letters : Nat → Int32) (t_told_paints : Nat → Int32) (t_told_inches : Nat → Int32) (t_told_kinds : Nat → Int32) (t_told_men : Int32) (t_length : Int32) (t_place : Int32) (t_faulty : Int32) : Option ((Nat → Int32) × (Nat → Int32) × (Nat → Int32) × Int32 × Int32 × Int32) := (m_X6_readMan F t_letters t_told_paints t_told_inches t_told_kinds t_told_men t_length t_place t_faulty).bind (fun v1 => m_X6_readMen_L6 t_letters t_length F (fun (w9 : Nat → Int32) (w10 : Nat → Int32) (w11 : Nat → Int32) (w12 : Int32) (w13 : Int32) (w14 : Int32) => (m_X6_isAtEnd F t_letters t_length w13 w14).bind (fun v15 => (if v15.1 = 0 then some (w9, w10, w11, w12, v15.2, 1) else some (w9, w10, w11, w12, v15.2, w14)))) F 1 v1.1 v1.2.1 v1.2.2.1 v1.2.2.2.1 v1.2.2.2.2.1 v1.2.2.2.2.2)
set_option maxHeartbeats 4000000 in
set_option maxRecDepth 100000 in
theorem c_X6_readMen (l : Launch) (D : va_G) (cy : Nat → ClassId) (ka kv : Nat) (a_t : Nat) (a_t_letters : Nat) (a_t_told : Nat) (a_t_told_paints : Nat) (a_t_told_inches : Nat) (a_t_told_kinds : Nat) (sz : Nat) (g_t_told_night : Value) (g_t_told_draw : Value) (g_t_told_source : Value) (g_t_told_stride : Value) (g_t_told_height : Value) (t_letters : Nat → Int32) (t_told_paints : Nat → Int32) (t_told_inches : Nat → Int32) (t_told_kinds : Nat → Int32) (t_told_men : Int32) (t_length : Int32) (t_place : Int32) (t_faulty : Int32) (F : Nat) (out : (Nat → Int32) × (Nat → Int32) × (Nat → Int32) × Int32 × Int32 × Int32) (h : m_X6_readMen F t_letters t_told_paints t_told_inches t_told_kinds t_told_men t_length t_place t_faulty = some out) : MetMc l D cy ka kv yX6_readMen cX6_readMen 2 none (rmG 6 135) [.ref a_t] sz [(a_t, .inr (6, [.ref a_t_letters, .ref a_t_told, .int t_length, .int t_place, .int t_faulty])), (a_t_letters, .inl (cy 1, 60, .inl t_letters)), (a_t_told, .inr (3, [.ref a_t_told_paints, .ref a_t_told_inches, g_t_told_night, g_t_told_draw, .ref a_t_told_kinds, .int t_told_men, g_t_told_source, g_t_told_stride, g_t_told_height])), (a_t_told_paints, .inl (cy 0, 6, .inl t_told_paints)), (a_t_told_inches, .inl (cy 0, 6, .inl t_told_inches)), (a_t_told_kinds, .inl (cy 0, 6, .inl t_told_kinds))] none [(a_t, .inr (6, [.ref a_t_letters, .ref a_t_told, .int t_length, .int out.2.2.2.2.1, .int out.2.2.2.2.2])), (a_t_letters, .inl (cy 1, 60, .inl t_letters)), (a_t_told, .inr (3, [.ref a_t_told_paints, .ref a_t_told_inches, g_t_told_night, g_t_told_draw, .ref a_t_told_kinds, .int out.2.2.2.1, g_t_told_source, g_t_told_stride, g_t_told_height])), (a_t_told_paints, .inl (cy 0, 6, .inl out.1)), (a_t_told_inches, .inl (cy 0, 6, .inl out.2.1)), (a_t_told_kinds, .inl (cy 0, 6, .inl out.2.2.1))] := by
  refine startMvc (own := RX6) (by decide) rfl (Nat.le_of_ble_eq_true rfl) ?_
  intro p e s m below meth c QQ A hx hb hml hown hg hC hK hP hD hS hA hret ls hl
  have hl : lv_has ls 2 [(0, .ref a_t)] := hl
  unfold m_X6_readMen at h
  refine lv_aload_n hx hb dX6_readMen_0 rfl (lv_at hl 0 rfl) ?_
  obtain ⟨v1, hv1, h⟩ := bind_e h
  refine callMVc (As := []) (rest := []) (wr := []) (w2 := [(a_t, .inr (6, [.ref a_t_letters, .ref a_t_told, .int t_length, .int v1.2.2.2.2.1, .int v1.2.2.2.2.2])), (a_t_letters, .inl (cy 1, 60, .inl t_letters)), (a_t_told, .inr (3, [.ref a_t_told_paints, .ref a_t_told_inches, g_t_told_night, g_t_told_draw, .ref a_t_told_kinds, .int v1.2.2.2.1, g_t_told_source, g_t_told_stride, g_t_told_height])), (a_t_told_paints, .inl (cy 0, 6, .inl v1.1)), (a_t_told_inches, .inl (cy 0, 6, .inl v1.2.1)), (a_t_told_kinds, .inl (cy 0, 6, .inl v1.2.2.1))]) hx hb hml hown hg (c_X6_readMan l D cy ka kv a_t a_t_letters a_t_told a_t_told_paints a_t_told_inches a_t_told_kinds _ (g_t_told_night) (g_t_told_draw) (g_t_told_source) (g_t_told_stride) (g_t_told_height) t_letters t_told_paints t_told_inches t_told_kinds t_told_men t_length t_place t_faulty F v1 hv1) q_495 q_492 q_58 q_494 q_11 hd_X6_readMan ⟨(Nat.le_of_ble_eq_true rfl), (Nat.le_of_ble_eq_true rfl)⟩ hC hK hP hD hS hA [0, 1, 2, 3, 4, 5] [] rfl rfl rfl rfl (by decide) [0, 1, 2, 3, 4, 5] rfl rfl 0 6 rfl rfl rfl rfl rfl rfl hl.1 rfl rfl (Nat.le_of_ble_eq_true rfl) dX6_readMen_1 (fun H locs hP hD hS => ?_)
  refine lv_iconst (v := 1) hx hb dX6_readMen_4 kI_1 ?_
  refine lv_istore_n (lv' := [(1, .int 1), (0, .ref a_t)]) hx hb dX6_readMen_5 rfl hl (by decide) rfl (fun ls hl => ?_)
  obtain ⟨k17, hk17, h⟩ := kap (fun z => m_X6_readMen_L6 t_letters t_length F z F 1 v1.1 v1.2.1 v1.2.2.1 v1.2.2.2.1 v1.2.2.2.2.1 v1.2.2.2.2.2) h
  have J17 : ∀ (w9 : Nat → Int32) (w10 : Nat → Int32) (w11 : Nat → Int32) (w12 : Int32) (w13 : Int32) (w14 : Int32) (H : Heap) (locs : List Loc) (ls : Array Slot), va_P D vwCl [(a_t, .inr (6, [.ref a_t_letters, .ref a_t_told, .int t_length, .int w13, .int w14])), (a_t_letters, .inl (cy 1, 60, .inl t_letters)), (a_t_told, .inr (3, [.ref a_t_told_paints, .ref a_t_told_inches, g_t_told_night, g_t_told_draw, .ref a_t_told_kinds, .int w12, g_t_told_source, g_t_told_stride, g_t_told_height])), (a_t_told_paints, .inl (cy 0, 6, .inl w9)), (a_t_told_inches, .inl (cy 0, 6, .inl w10)), (a_t_told_kinds, .inl (cy 0, 6, .inl w11))] H → va_D A [(a_t, .inr (6, [.ref a_t_letters, .ref a_t_told, .int t_length, .int w13, .int w14])), (a_t_letters, .inl (cy 1, 60, .inl t_letters)), (a_t_told, .inr (3, [.ref a_t_told_paints, .ref a_t_told_inches, g_t_told_night, g_t_told_draw, .ref a_t_told_kinds, .int w12, g_t_told_source, g_t_told_stride, g_t_told_height])), (a_t_told_paints, .inl (cy 0, 6, .inl w9)), (a_t_told_inches, .inl (cy 0, 6, .inl w10)), (a_t_told_kinds, .inl (cy 0, 6, .inl w11))] → va_S A s.heap H locs → lv_has ls 2 [(0, .ref a_t)] → k17 w9 w10 w11 w12 w13 w14 = some out → W p l e (rmG 6 135) s m [.ref a_t].toArray below meth c H locs 0 0 QQ (F0 m 35 ls []) := by
    intro w9 w10 w11 w12 w13 w14 H locs ls hP hD hS hl h
    rw [hk17] at h
    refine lv_aload_n hx hb dX6_readMen_35 rfl (lv_at hl 0 rfl) ?_
    obtain ⟨v15, hv15, h⟩ := bind_e h
    refine callMV (As := []) (rest := []) (wr := [(a_t_told, .inr (3, [.ref a_t_told_paints, .ref a_t_told_inches, g_t_told_night, g_t_told_draw, .ref a_t_told_kinds, .int w12, g_t_told_source, g_t_told_stride, g_t_told_height])), (a_t_told_paints, .inl (cy 0, 6, .inl w9)), (a_t_told_inches, .inl (cy 0, 6, .inl w10)), (a_t_told_kinds, .inl (cy 0, 6, .inl w11))]) (w2 := [(a_t, .inr (6, [.ref a_t_letters, .ref a_t_told, .int t_length, .int v15.2, .int w14])), (a_t_letters, .inl (cy 1, 60, .inl t_letters)), (a_t_told, .inr (3, [.ref a_t_told_paints, .ref a_t_told_inches, g_t_told_night, g_t_told_draw, .ref a_t_told_kinds, .int w12, g_t_told_source, g_t_told_stride, g_t_told_height])), (a_t_told_paints, .inl (cy 0, 6, .inl w9)), (a_t_told_inches, .inl (cy 0, 6, .inl w10)), (a_t_told_kinds, .inl (cy 0, 6, .inl w11))]) hx hb hml hown hg (c_X6_isAtEnd l D cy a_t a_t_letters _ (.ref a_t_told) t_letters t_length w13 w14 F v15 hv15) q_487 q_484 q_58 q_486 q_9 hd_X6_isAtEnd ⟨(Nat.le_of_ble_eq_true rfl), (Nat.le_of_ble_eq_true rfl)⟩ hK hP hD hS hA [0, 1] [2, 3, 4, 5] rfl rfl rfl rfl (by decide) [4, 5, 0, 1, 2, 3] rfl rfl 0 6 rfl rfl rfl rfl rfl rfl hl.1 rfl rfl (Nat.le_of_ble_eq_true rfl) dX6_readMen_36 (fun H locs hP hD hS => ?_)
    refine lv_if_ne (tgt := 47) hx hb dX6_readMen_39 (by decide) (fun c16 => ?_) (fun c16 => ?_)
    · have h := it_f c16 h
      exact hret _ _ _ ls 47 dX6_readMen_47 (by rw [← Option.some.inj h]) hP hD hS
    · have h := it_t c16 h
      refine lv_aload_n hx hb dX6_readMen_42 rfl (lv_at hl 0 rfl) ?_
      refine lv_iconst (v := 1) hx hb dX6_readMen_43 kI_1 ?_
      refine va_put (D := D) (ci := 6) (v := .int 1) (ty := .boolean) (C := RX6) (T := TX6) (N := 5) hx hb hg inG_X6 tyX6 tyX6_ok nmX6 hown hK hP hD hS 0 rfl rfl 4 (by decide) (hg _ q_188) (fun _ h9 => h9) rfl (tyX6_ok 4 (by decide)) (nar_z (Or.inr rfl)) (fit_z (Or.inr rfl)) (Nat.le_of_ble_eq_true rfl) dX6_readMen_44 (fun H locs hP hD hS => ?_)
      have hP : va_P D vwCl [(a_t, .inr (6, [.ref a_t_letters, .ref a_t_told, .int t_length, .int v15.2, .int 1])), (a_t_letters, .inl (cy 1, 60, .inl t_letters)), (a_t_told, .inr (3, [.ref a_t_told_paints, .ref a_t_told_inches, g_t_told_night, g_t_told_draw, .ref a_t_told_kinds, .int w12, g_t_told_source, g_t_told_stride, g_t_told_height])), (a_t_told_paints, .inl (cy 0, 6, .inl w9)), (a_t_told_inches, .inl (cy 0, 6, .inl w10)), (a_t_told_kinds, .inl (cy 0, 6, .inl w11))] H := hP
      have hD : va_D A [(a_t, .inr (6, [.ref a_t_letters, .ref a_t_told, .int t_length, .int v15.2, .int 1])), (a_t_letters, .inl (cy 1, 60, .inl t_letters)), (a_t_told, .inr (3, [.ref a_t_told_paints, .ref a_t_told_inches, g_t_told_night, g_t_told_draw, .ref a_t_told_kinds, .int w12, g_t_told_source, g_t_told_stride, g_t_told_height])), (a_t_told_paints, .inl (cy 0, 6, .inl w9)), (a_t_told_inches, .inl (cy 0, 6, .inl w10)), (a_t_told_kinds, .inl (cy 0, 6, .inl w11))] := hD
      exact hret _ _ _ ls 47 dX6_readMen_47 (by rw [← Option.some.inj h]) hP hD hS
  have L18 : ∀ (n18 : Nat) (x2 : Int32) (w3 : Nat → Int32) (w4 : Nat → Int32) (w5 : Nat → Int32) (w6 : Int32) (w7 : Int32) (w8 : Int32) (H : Heap) (locs : List Loc) (ls : Array Slot), va_P D vwCl [(a_t, .inr (6, [.ref a_t_letters, .ref a_t_told, .int t_length, .int w7, .int w8])), (a_t_letters, .inl (cy 1, 60, .inl t_letters)), (a_t_told, .inr (3, [.ref a_t_told_paints, .ref a_t_told_inches, g_t_told_night, g_t_told_draw, .ref a_t_told_kinds, .int w6, g_t_told_source, g_t_told_stride, g_t_told_height])), (a_t_told_paints, .inl (cy 0, 6, .inl w3)), (a_t_told_inches, .inl (cy 0, 6, .inl w4)), (a_t_told_kinds, .inl (cy 0, 6, .inl w5))] H → va_D A [(a_t, .inr (6, [.ref a_t_letters, .ref a_t_told, .int t_length, .int w7, .int w8])), (a_t_letters, .inl (cy 1, 60, .inl t_letters)), (a_t_told, .inr (3, [.ref a_t_told_paints, .ref a_t_told_inches, g_t_told_night, g_t_told_draw, .ref a_t_told_kinds, .int w6, g_t_told_source, g_t_told_stride, g_t_told_height])), (a_t_told_paints, .inl (cy 0, 6, .inl w3)), (a_t_told_inches, .inl (cy 0, 6, .inl w4)), (a_t_told_kinds, .inl (cy 0, 6, .inl w5))] → va_S A s.heap H locs → lv_has ls 2 [(1, .int x2), (0, .ref a_t)] → m_X6_readMen_L6 t_letters t_length F k17 n18 x2 w3 w4 w5 w6 w7 w8 = some out → W p l e (rmG 6 135) s m [.ref a_t].toArray below meth c H locs 0 0 QQ (F0 m 6 ls []) := by
    intro n18
    induction n18 with
    | zero => intro x2 w3 w4 w5 w6 w7 w8 H locs ls hP hD hS hl h; exact nomatch (show (none : Option ((Nat → Int32) × (Nat → Int32) × (Nat → Int32) × Int32 × Int32 × Int32)) = some out from h)
    | succ n18 ih =>
        intro x2 w3 w4 w5 w6 w7 w8 H locs ls hP hD hS hl h
        have h : m_X6_readMen_L6s t_letters t_length F k17 (m_X6_readMen_L6 t_letters t_length F k17 n18) x2 w3 w4 w5 w6 w7 w8 = some out := h
        unfold m_X6_readMen_L6s at h
        refine lv_iload_n hx hb dX6_readMen_6 rfl (lv_at hl 0 rfl) ?_
        refine lv_bipush (v := 6) hx hb dX6_readMen_7 kB_6 ?_
        refine lv_icmp_ge (tgt := 35) hx hb dX6_readMen_9 (by decide) (fun c20 => ?_) (fun c20 => ?_)
        · have h := it_t c20 h
          exact J17 w3 w4 w5 w6 w7 w8 _ _ _ hP hD hS (lv_sub hl [1] rfl) h
        · have h := it_f c20 h
          refine lv_aload_n hx hb dX6_readMen_12 rfl (lv_at hl 1 rfl) ?_
          obtain ⟨v21, hv21, h⟩ := bind_e h
          refine callMV (As := []) (rest := []) (wr := [(a_t_told, .inr (3, [.ref a_t_told_paints, .ref a_t_told_inches, g_t_told_night, g_t_told_draw, .ref a_t_told_kinds, .int w6, g_t_told_source, g_t_told_stride, g_t_told_height])), (a_t_told_paints, .inl (cy 0, 6, .inl w3)), (a_t_told_inches, .inl (cy 0, 6, .inl w4)), (a_t_told_kinds, .inl (cy 0, 6, .inl w5))]) (w2 := [(a_t, .inr (6, [.ref a_t_letters, .ref a_t_told, .int t_length, .int v21.2, .int w8])), (a_t_letters, .inl (cy 1, 60, .inl t_letters)), (a_t_told, .inr (3, [.ref a_t_told_paints, .ref a_t_told_inches, g_t_told_night, g_t_told_draw, .ref a_t_told_kinds, .int w6, g_t_told_source, g_t_told_stride, g_t_told_height])), (a_t_told_paints, .inl (cy 0, 6, .inl w3)), (a_t_told_inches, .inl (cy 0, 6, .inl w4)), (a_t_told_kinds, .inl (cy 0, 6, .inl w5))]) hx hb hml hown hg (c_X6_isAtEnd l D cy a_t a_t_letters _ (.ref a_t_told) t_letters t_length w7 w8 F v21 hv21) q_487 q_484 q_58 q_486 q_9 hd_X6_isAtEnd ⟨(Nat.le_of_ble_eq_true rfl), (Nat.le_of_ble_eq_true rfl)⟩ hK hP hD hS hA [0, 1] [2, 3, 4, 5] rfl rfl rfl rfl (by decide) [4, 5, 0, 1, 2, 3] rfl rfl 0 6 rfl rfl rfl rfl rfl rfl hl.1 rfl rfl (Nat.le_of_ble_eq_true rfl) dX6_readMen_13 (fun H locs hP hD hS => ?_)
          refine lv_if_ne (tgt := 35) hx hb dX6_readMen_16 (by decide) (fun c22 => ?_) (fun c22 => ?_)
          · have h := it_f c22 h
            exact J17 w3 w4 w5 w6 v21.2 w8 _ _ _ hP hD hS (lv_sub hl [1] rfl) h
          · have h := it_t c22 h
            refine lv_aload_n hx hb dX6_readMen_19 rfl (lv_at hl 1 rfl) ?_
            refine lv_bipush (v := 44) hx hb dX6_readMen_20 kB_44 ?_
            obtain ⟨v23, hv23, h⟩ := bind_e h
            refine callMV (As := [.int 44]) (rest := []) (wr := [(a_t_told, .inr (3, [.ref a_t_told_paints, .ref a_t_told_inches, g_t_told_night, g_t_told_draw, .ref a_t_told_kinds, .int w6, g_t_told_source, g_t_told_stride, g_t_told_height])), (a_t_told_paints, .inl (cy 0, 6, .inl w3)), (a_t_told_inches, .inl (cy 0, 6, .inl w4)), (a_t_told_kinds, .inl (cy 0, 6, .inl w5))]) (w2 := [(a_t, .inr (6, [.ref a_t_letters, .ref a_t_told, .int t_length, .int v23.1, .int v23.2])), (a_t_letters, .inl (cy 1, 60, .inl t_letters)), (a_t_told, .inr (3, [.ref a_t_told_paints, .ref a_t_told_inches, g_t_told_night, g_t_told_draw, .ref a_t_told_kinds, .int w6, g_t_told_source, g_t_told_stride, g_t_told_height])), (a_t_told_paints, .inl (cy 0, 6, .inl w3)), (a_t_told_inches, .inl (cy 0, 6, .inl w4)), (a_t_told_kinds, .inl (cy 0, 6, .inl w5))]) hx hb hml hown hg (c_X6_readSign l D cy a_t a_t_letters _ (.ref a_t_told) t_letters t_length v21.2 w8 44 F v23 hv23) q_475 q_472 q_58 q_474 q_6 hd_X6_readSign ⟨(Nat.le_of_ble_eq_true rfl), (Nat.le_of_ble_eq_true rfl)⟩ hK hP hD hS hA [0, 1] [2, 3, 4, 5] rfl rfl rfl rfl (by decide) [4, 5, 0, 1, 2, 3] rfl rfl 0 6 rfl rfl rfl rfl rfl rfl hl.1 rfl rfl (Nat.le_of_ble_eq_true rfl) dX6_readMen_22 (fun H locs hP hD hS => ?_)
            refine lv_aload_n hx hb dX6_readMen_25 rfl (lv_at hl 1 rfl) ?_
            obtain ⟨v24, hv24, h⟩ := bind_e h
            refine callMVc (As := []) (rest := []) (wr := []) (w2 := [(a_t, .inr (6, [.ref a_t_letters, .ref a_t_told, .int t_length, .int v24.2.2.2.2.1, .int v24.2.2.2.2.2])), (a_t_letters, .inl (cy 1, 60, .inl t_letters)), (a_t_told, .inr (3, [.ref a_t_told_paints, .ref a_t_told_inches, g_t_told_night, g_t_told_draw, .ref a_t_told_kinds, .int v24.2.2.2.1, g_t_told_source, g_t_told_stride, g_t_told_height])), (a_t_told_paints, .inl (cy 0, 6, .inl v24.1)), (a_t_told_inches, .inl (cy 0, 6, .inl v24.2.1)), (a_t_told_kinds, .inl (cy 0, 6, .inl v24.2.2.1))]) hx hb hml hown hg (c_X6_readMan l D cy ka kv a_t a_t_letters a_t_told a_t_told_paints a_t_told_inches a_t_told_kinds _ (g_t_told_night) (g_t_told_draw) (g_t_told_source) (g_t_told_stride) (g_t_told_height) t_letters w3 w4 w5 w6 t_length v23.1 v23.2 F v24 hv24) q_495 q_492 q_58 q_494 q_11 hd_X6_readMan ⟨(Nat.le_of_ble_eq_true rfl), (Nat.le_of_ble_eq_true rfl)⟩ hC hK hP hD hS hA [0, 1, 2, 3, 4, 5] [] rfl rfl rfl rfl (by decide) [0, 1, 2, 3, 4, 5] rfl rfl 0 6 rfl rfl rfl rfl rfl rfl hl.1 rfl rfl (Nat.le_of_ble_eq_true rfl) dX6_readMen_26 (fun H locs hP hD hS => ?_)
            obtain ⟨x25, ex25⟩ : ∃ y : Int32, y = x2 + 1 := ⟨_, rfl⟩
            have h := bnd_e ex25 h
            refine lv_iinc (v := x25) (lv' := [(1, .int x25), (0, .ref a_t)]) hx hb dX6_readMen_29 hl (k := 0) rfl (inc_e kI_1 ex25) (by decide) rfl (fun ls hl => ?_)
            refine lv_goto (tgt := 6) hx hb dX6_readMen_32 (by decide) ?_
            exact ih x25 v24.1 v24.2.1 v24.2.2.1 v24.2.2.2.1 v24.2.2.2.2.1 v24.2.2.2.2.2 _ _ _ hP hD hS (lv_sub hl [0, 1] rfl) h
  exact L18 F 1 v1.1 v1.2.1 v1.2.2.1 v1.2.2.2.1 v1.2.2.2.2.1 v1.2.2.2.2.2 _ _ _ hP hD hS (lv_sub hl [0, 1] rfl) h

def m_X6_read (F : Nat) (t_letters : Nat → Int32) (t_told_paints : Nat → Int32) (t_told_inches : Nat → Int32) (t_told_kinds : Nat → Int32) (t_told_men : Int32) (t_told_source : Int32) (t_told_stride : Int32) (t_told_height : Int32) (t_length : Int32) (t_place : Int32) (t_faulty : Int32) : Option (Int32 × (Nat → Int32) × (Nat → Int32) × (Nat → Int32) × Int32 × Int32 × Int32 × Int32 × Int32 × Int32 × Int32) := (m_X6_readNumber F t_letters t_length 0 0 11 0).bind (fun v1 => (m_X6_readSign F t_letters t_length v1.2.1 v1.2.2 43).bind (fun v2 => (m_X6_readNumber F t_letters t_length v2.1 v2.2 11 0).bind (fun v3 => (m_X6_readSign F t_letters t_length v3.2.1 v3.2.2 94).bind (fun v4 => (m_X6_readNumber F t_letters t_length v4.1 v4.2 12 0).bind (fun v5 => (m_X6_isAtEnd F t_letters t_length v5.2.1 v5.2.2).bind (fun v6 => jn (fun (w7 : Nat → Int32) (w8 : Nat → Int32) (w9 : Nat → Int32) (w10 : Int32) (w11 : Int32) (w12 : Int32) => (if w12 = 0 then some (0, w7, w8, w9, w10, v1.1, v3.1, v5.1, 0, w11, w12) else some ((-20) - w11, w7, w8, w9, w10, v1.1, v3.1, v5.1, 0, w11, w12))) (fun k14 => (if v6.1 = 0 then (m_X6_readSign F t_letters t_length v6.2 v5.2.2 59).bind (fun v16 => (m_X6_readMen F t_letters t_told_paints t_told_inches t_told_kinds 0 t_length v16.1 v16.2).bind (fun v17 => k14 v17.1 v17.2.1 v17.2.2.1 v17.2.2.2.1 v17.2.2.2.2.1 v17.2.2.2.2.2)) else k14 t_told_paints t_told_inches t_told_kinds 0 v6.2 v5.2.2))))))))
set_option maxHeartbeats 4000000 in
set_option maxRecDepth 100000 in
theorem c_X6_read (l : Launch) (D : va_G) (cy : Nat → ClassId) (ka kv : Nat) (a_t : Nat) (a_t_letters : Nat) (a_t_told : Nat) (a_t_told_paints : Nat) (a_t_told_inches : Nat) (a_t_told_kinds : Nat) (sz : Nat) (g_t_told_night : Value) (g_t_told_draw : Value) (t_letters : Nat → Int32) (t_told_paints : Nat → Int32) (t_told_inches : Nat → Int32) (t_told_kinds : Nat → Int32) (t_told_men : Int32) (t_told_source : Int32) (t_told_stride : Int32) (t_told_height : Int32) (t_length : Int32) (t_place : Int32) (t_faulty : Int32) (F : Nat) (out : Int32 × (Nat → Int32) × (Nat → Int32) × (Nat → Int32) × Int32 × Int32 × Int32 × Int32 × Int32 × Int32 × Int32) (h : m_X6_read F t_letters t_told_paints t_told_inches t_told_kinds t_told_men t_told_source t_told_stride t_told_height t_length t_place t_faulty = some out) : MetMc l D cy ka kv yX6_read cX6_read 1 (some .int) (rmG 7 156) [.ref a_t] sz [(a_t, .inr (6, [.ref a_t_letters, .ref a_t_told, .int t_length, .int t_place, .int t_faulty])), (a_t_letters, .inl (cy 1, 60, .inl t_letters)), (a_t_told, .inr (3, [.ref a_t_told_paints, .ref a_t_told_inches, g_t_told_night, g_t_told_draw, .ref a_t_told_kinds, .int t_told_men, .int t_told_source, .int t_told_stride, .int t_told_height])), (a_t_told_paints, .inl (cy 0, 6, .inl t_told_paints)), (a_t_told_inches, .inl (cy 0, 6, .inl t_told_inches)), (a_t_told_kinds, .inl (cy 0, 6, .inl t_told_kinds))] (some (.int out.1)) [(a_t, .inr (6, [.ref a_t_letters, .ref a_t_told, .int out.2.2.2.2.2.2.2.2.1, .int out.2.2.2.2.2.2.2.2.2.1, .int out.2.2.2.2.2.2.2.2.2.2])), (a_t_letters, .inl (cy 1, 60, .inl t_letters)), (a_t_told, .inr (3, [.ref a_t_told_paints, .ref a_t_told_inches, g_t_told_night, g_t_told_draw, .ref a_t_told_kinds, .int out.2.2.2.2.1, .int out.2.2.2.2.2.1, .int out.2.2.2.2.2.2.1, .int out.2.2.2.2.2.2.2.1])), (a_t_told_paints, .inl (cy 0, 6, .inl out.2.1)), (a_t_told_inches, .inl (cy 0, 6, .inl out.2.2.1)), (a_t_told_kinds, .inl (cy 0, 6, .inl out.2.2.2.1))] := by
  refine startMic (own := RX6) (by decide) rfl (Nat.le_of_ble_eq_true rfl) ?_
  intro p e s m below meth c QQ A hx hb hml hown hg hC hK hP hD hS hA hret ls hl
  have hl : lv_has ls 1 [(0, .ref a_t)] := hl
  unfold m_X6_read at h
  refine lv_aload_n hx hb dX6_read_0 rfl (lv_at hl 0 rfl) ?_
  refine lv_iconst (v := 0) hx hb dX6_read_1 kI_0 ?_
  refine va_put (D := D) (ci := 6) (v := .int 0) (ty := .int) (C := RX6) (T := TX6) (N := 5) hx hb hg inG_X6 tyX6 tyX6_ok nmX6 hown hK hP hD hS 0 rfl rfl 3 (by decide) (hg _ q_187) (fun _ h9 => h9) rfl (tyX6_ok 3 (by decide)) rfl rfl (Nat.le_of_ble_eq_true rfl) dX6_read_2 (fun H locs hP hD hS => ?_)
  have hP : va_P D vwCl [(a_t, .inr (6, [.ref a_t_letters, .ref a_t_told, .int t_length, .int 0, .int t_faulty])), (a_t_letters, .inl (cy 1, 60, .inl t_letters)), (a_t_told, .inr (3, [.ref a_t_told_paints, .ref a_t_told_inches, g_t_told_night, g_t_told_draw, .ref a_t_told_kinds, .int t_told_men, .int t_told_source, .int t_told_stride, .int t_told_height])), (a_t_told_paints, .inl (cy 0, 6, .inl t_told_paints)), (a_t_told_inches, .inl (cy 0, 6, .inl t_told_inches)), (a_t_told_kinds, .inl (cy 0, 6, .inl t_told_kinds))] H := hP
  have hD : va_D A [(a_t, .inr (6, [.ref a_t_letters, .ref a_t_told, .int t_length, .int 0, .int t_faulty])), (a_t_letters, .inl (cy 1, 60, .inl t_letters)), (a_t_told, .inr (3, [.ref a_t_told_paints, .ref a_t_told_inches, g_t_told_night, g_t_told_draw, .ref a_t_told_kinds, .int t_told_men, .int t_told_source, .int t_told_stride, .int t_told_height])), (a_t_told_paints, .inl (cy 0, 6, .inl t_told_paints)), (a_t_told_inches, .inl (cy 0, 6, .inl t_told_inches)), (a_t_told_kinds, .inl (cy 0, 6, .inl t_told_kinds))] := hD
  refine lv_aload_n hx hb dX6_read_5 rfl (lv_at hl 0 rfl) ?_
  refine lv_iconst (v := 0) hx hb dX6_read_6 kI_0 ?_
  refine va_put (D := D) (ci := 6) (v := .int 0) (ty := .boolean) (C := RX6) (T := TX6) (N := 5) hx hb hg inG_X6 tyX6 tyX6_ok nmX6 hown hK hP hD hS 0 rfl rfl 4 (by decide) (hg _ q_188) (fun _ h9 => h9) rfl (tyX6_ok 4 (by decide)) (nar_z (Or.inl rfl)) (fit_z (Or.inl rfl)) (Nat.le_of_ble_eq_true rfl) dX6_read_7 (fun H locs hP hD hS => ?_)
  have hP : va_P D vwCl [(a_t, .inr (6, [.ref a_t_letters, .ref a_t_told, .int t_length, .int 0, .int 0])), (a_t_letters, .inl (cy 1, 60, .inl t_letters)), (a_t_told, .inr (3, [.ref a_t_told_paints, .ref a_t_told_inches, g_t_told_night, g_t_told_draw, .ref a_t_told_kinds, .int t_told_men, .int t_told_source, .int t_told_stride, .int t_told_height])), (a_t_told_paints, .inl (cy 0, 6, .inl t_told_paints)), (a_t_told_inches, .inl (cy 0, 6, .inl t_told_inches)), (a_t_told_kinds, .inl (cy 0, 6, .inl t_told_kinds))] H := hP
  have hD : va_D A [(a_t, .inr (6, [.ref a_t_letters, .ref a_t_told, .int t_length, .int 0, .int 0])), (a_t_letters, .inl (cy 1, 60, .inl t_letters)), (a_t_told, .inr (3, [.ref a_t_told_paints, .ref a_t_told_inches, g_t_told_night, g_t_told_draw, .ref a_t_told_kinds, .int t_told_men, .int t_told_source, .int t_told_stride, .int t_told_height])), (a_t_told_paints, .inl (cy 0, 6, .inl t_told_paints)), (a_t_told_inches, .inl (cy 0, 6, .inl t_told_inches)), (a_t_told_kinds, .inl (cy 0, 6, .inl t_told_kinds))] := hD
  refine lv_aload_n hx hb dX6_read_10 rfl (lv_at hl 0 rfl) ?_
  refine va_get (D := D) (ci := 6) (v := .ref a_t_told) (C := RX6) (T := TX6) (N := 5) hx hb hg inG_X6 hown hK hP 0 rfl rfl 1 (by decide) (hg _ q_183) (fun _ h9 => h9) rfl dX6_read_11 ?_
  refine lv_iconst (v := 0) hx hb dX6_read_14 kI_0 ?_
  refine va_put (D := D) (ci := 3) (v := .int 0) (ty := .int) (C := RX3) (T := TX3) (N := 9) hx hb hg inG_X3 tyX3 tyX3_ok nmX3 hown hK hP hD hS 2 rfl rfl 5 (by decide) (hg _ q_95) (fun _ h9 => h9) rfl (tyX3_ok 5 (by decide)) rfl rfl (Nat.le_of_ble_eq_true rfl) dX6_read_15 (fun H locs hP hD hS => ?_)
  have hP : va_P D vwCl [(a_t, .inr (6, [.ref a_t_letters, .ref a_t_told, .int t_length, .int 0, .int 0])), (a_t_letters, .inl (cy 1, 60, .inl t_letters)), (a_t_told, .inr (3, [.ref a_t_told_paints, .ref a_t_told_inches, g_t_told_night, g_t_told_draw, .ref a_t_told_kinds, .int 0, .int t_told_source, .int t_told_stride, .int t_told_height])), (a_t_told_paints, .inl (cy 0, 6, .inl t_told_paints)), (a_t_told_inches, .inl (cy 0, 6, .inl t_told_inches)), (a_t_told_kinds, .inl (cy 0, 6, .inl t_told_kinds))] H := hP
  have hD : va_D A [(a_t, .inr (6, [.ref a_t_letters, .ref a_t_told, .int t_length, .int 0, .int 0])), (a_t_letters, .inl (cy 1, 60, .inl t_letters)), (a_t_told, .inr (3, [.ref a_t_told_paints, .ref a_t_told_inches, g_t_told_night, g_t_told_draw, .ref a_t_told_kinds, .int 0, .int t_told_source, .int t_told_stride, .int t_told_height])), (a_t_told_paints, .inl (cy 0, 6, .inl t_told_paints)), (a_t_told_inches, .inl (cy 0, 6, .inl t_told_inches)), (a_t_told_kinds, .inl (cy 0, 6, .inl t_told_kinds))] := hD
  refine lv_aload_n hx hb dX6_read_18 rfl (lv_at hl 0 rfl) ?_
  refine va_get (D := D) (ci := 6) (v := .ref a_t_told) (C := RX6) (T := TX6) (N := 5) hx hb hg inG_X6 hown hK hP 0 rfl rfl 1 (by decide) (hg _ q_183) (fun _ h9 => h9) rfl dX6_read_19 ?_
  refine lv_aload_n hx hb dX6_read_22 rfl (lv_at hl 0 rfl) ?_
  refine lv_bipush (v := 11) hx hb dX6_read_23 kB_11 ?_
  refine lv_iconst (v := 0) hx hb dX6_read_25 kI_0 ?_
  obtain ⟨v1, hv1, h⟩ := bind_e h
  refine callMV (As := [.int 11, .int 0]) (rest := [.ref a_t_told]) (wr := [(a_t_told, .inr (3, [.ref a_t_told_paints, .ref a_t_told_inches, g_t_told_night, g_t_told_draw, .ref a_t_told_kinds, .int 0, .int t_told_source, .int t_told_stride, .int t_told_height])), (a_t_told_paints, .inl (cy 0, 6, .inl t_told_paints)), (a_t_told_inches, .inl (cy 0, 6, .inl t_told_inches)), (a_t_told_kinds, .inl (cy 0, 6, .inl t_told_kinds))]) (w2 := [(a_t, .inr (6, [.ref a_t_letters, .ref a_t_told, .int t_length, .int v1.2.1, .int v1.2.2])), (a_t_letters, .inl (cy 1, 60, .inl t_letters)), (a_t_told, .inr (3, [.ref a_t_told_paints, .ref a_t_told_inches, g_t_told_night, g_t_told_draw, .ref a_t_told_kinds, .int 0, .int t_told_source, .int t_told_stride, .int t_told_height])), (a_t_told_paints, .inl (cy 0, 6, .inl t_told_paints)), (a_t_told_inches, .inl (cy 0, 6, .inl t_told_inches)), (a_t_told_kinds, .inl (cy 0, 6, .inl t_told_kinds))]) hx hb hml hown hg (c_X6_readNumber l D cy a_t a_t_letters _ (.ref a_t_told) t_letters t_length 0 0 11 0 F v1 hv1) q_459 q_456 q_58 q_458 q_2 hd_X6_readNumber ⟨(Nat.le_of_ble_eq_true rfl), (Nat.le_of_ble_eq_true rfl)⟩ hK hP hD hS hA [0, 1] [2, 3, 4, 5] rfl rfl rfl rfl (by decide) [4, 5, 0, 1, 2, 3] rfl rfl 0 6 rfl rfl rfl rfl rfl rfl hl.1 rfl rfl (Nat.le_of_ble_eq_true rfl) dX6_read_26 (fun H locs hP hD hS => ?_)
  refine va_put (D := D) (ci := 3) (v := .int v1.1) (ty := .int) (C := RX3) (T := TX3) (N := 9) hx hb hg inG_X3 tyX3 tyX3_ok nmX3 hown hK hP hD hS 2 rfl rfl 6 (by decide) (hg _ q_100) (fun _ h9 => h9) rfl (tyX3_ok 6 (by decide)) rfl rfl (Nat.le_of_ble_eq_true rfl) dX6_read_29 (fun H locs hP hD hS => ?_)
  have hP : va_P D vwCl [(a_t, .inr (6, [.ref a_t_letters, .ref a_t_told, .int t_length, .int v1.2.1, .int v1.2.2])), (a_t_letters, .inl (cy 1, 60, .inl t_letters)), (a_t_told, .inr (3, [.ref a_t_told_paints, .ref a_t_told_inches, g_t_told_night, g_t_told_draw, .ref a_t_told_kinds, .int 0, .int v1.1, .int t_told_stride, .int t_told_height])), (a_t_told_paints, .inl (cy 0, 6, .inl t_told_paints)), (a_t_told_inches, .inl (cy 0, 6, .inl t_told_inches)), (a_t_told_kinds, .inl (cy 0, 6, .inl t_told_kinds))] H := hP
  have hD : va_D A [(a_t, .inr (6, [.ref a_t_letters, .ref a_t_told, .int t_length, .int v1.2.1, .int v1.2.2])), (a_t_letters, .inl (cy 1, 60, .inl t_letters)), (a_t_told, .inr (3, [.ref a_t_told_paints, .ref a_t_told_inches, g_t_told_night, g_t_told_draw, .ref a_t_told_kinds, .int 0, .int v1.1, .int t_told_stride, .int t_told_height])), (a_t_told_paints, .inl (cy 0, 6, .inl t_told_paints)), (a_t_told_inches, .inl (cy 0, 6, .inl t_told_inches)), (a_t_told_kinds, .inl (cy 0, 6, .inl t_told_kinds))] := hD
  refine lv_aload_n hx hb dX6_read_32 rfl (lv_at hl 0 rfl) ?_
  refine lv_bipush (v := 43) hx hb dX6_read_33 kB_43 ?_
  obtain ⟨v2, hv2, h⟩ := bind_e h
  refine callMV (As := [.int 43]) (rest := []) (wr := [(a_t_told, .inr (3, [.ref a_t_told_paints, .ref a_t_told_inches, g_t_told_night, g_t_told_draw, .ref a_t_told_kinds, .int 0, .int v1.1, .int t_told_stride, .int t_told_height])), (a_t_told_paints, .inl (cy 0, 6, .inl t_told_paints)), (a_t_told_inches, .inl (cy 0, 6, .inl t_told_inches)), (a_t_told_kinds, .inl (cy 0, 6, .inl t_told_kinds))]) (w2 := [(a_t, .inr (6, [.ref a_t_letters, .ref a_t_told, .int t_length, .int v2.1, .int v2.2])), (a_t_letters, .inl (cy 1, 60, .inl t_letters)), (a_t_told, .inr (3, [.ref a_t_told_paints, .ref a_t_told_inches, g_t_told_night, g_t_told_draw, .ref a_t_told_kinds, .int 0, .int v1.1, .int t_told_stride, .int t_told_height])), (a_t_told_paints, .inl (cy 0, 6, .inl t_told_paints)), (a_t_told_inches, .inl (cy 0, 6, .inl t_told_inches)), (a_t_told_kinds, .inl (cy 0, 6, .inl t_told_kinds))]) hx hb hml hown hg (c_X6_readSign l D cy a_t a_t_letters _ (.ref a_t_told) t_letters t_length v1.2.1 v1.2.2 43 F v2 hv2) q_475 q_472 q_58 q_474 q_6 hd_X6_readSign ⟨(Nat.le_of_ble_eq_true rfl), (Nat.le_of_ble_eq_true rfl)⟩ hK hP hD hS hA [0, 1] [2, 3, 4, 5] rfl rfl rfl rfl (by decide) [4, 5, 0, 1, 2, 3] rfl rfl 0 6 rfl rfl rfl rfl rfl rfl hl.1 rfl rfl (Nat.le_of_ble_eq_true rfl) dX6_read_35 (fun H locs hP hD hS => ?_)
  refine lv_aload_n hx hb dX6_read_38 rfl (lv_at hl 0 rfl) ?_
  refine va_get (D := D) (ci := 6) (v := .ref a_t_told) (C := RX6) (T := TX6) (N := 5) hx hb hg inG_X6 hown hK hP 0 rfl rfl 1 (by decide) (hg _ q_183) (fun _ h9 => h9) rfl dX6_read_39 ?_
  refine lv_aload_n hx hb dX6_read_42 rfl (lv_at hl 0 rfl) ?_
  refine lv_bipush (v := 11) hx hb dX6_read_43 kB_11 ?_
  refine lv_iconst (v := 0) hx hb dX6_read_45 kI_0 ?_
  obtain ⟨v3, hv3, h⟩ := bind_e h
  refine callMV (As := [.int 11, .int 0]) (rest := [.ref a_t_told]) (wr := [(a_t_told, .inr (3, [.ref a_t_told_paints, .ref a_t_told_inches, g_t_told_night, g_t_told_draw, .ref a_t_told_kinds, .int 0, .int v1.1, .int t_told_stride, .int t_told_height])), (a_t_told_paints, .inl (cy 0, 6, .inl t_told_paints)), (a_t_told_inches, .inl (cy 0, 6, .inl t_told_inches)), (a_t_told_kinds, .inl (cy 0, 6, .inl t_told_kinds))]) (w2 := [(a_t, .inr (6, [.ref a_t_letters, .ref a_t_told, .int t_length, .int v3.2.1, .int v3.2.2])), (a_t_letters, .inl (cy 1, 60, .inl t_letters)), (a_t_told, .inr (3, [.ref a_t_told_paints, .ref a_t_told_inches, g_t_told_night, g_t_told_draw, .ref a_t_told_kinds, .int 0, .int v1.1, .int t_told_stride, .int t_told_height])), (a_t_told_paints, .inl (cy 0, 6, .inl t_told_paints)), (a_t_told_inches, .inl (cy 0, 6, .inl t_told_inches)), (a_t_told_kinds, .inl (cy 0, 6, .inl t_told_kinds))]) hx hb hml hown hg (c_X6_readNumber l D cy a_t a_t_letters _ (.ref a_t_told) t_letters t_length v2.1 v2.2 11 0 F v3 hv3) q_459 q_456 q_58 q_458 q_2 hd_X6_readNumber ⟨(Nat.le_of_ble_eq_true rfl), (Nat.le_of_ble_eq_true rfl)⟩ hK hP hD hS hA [0, 1] [2, 3, 4, 5] rfl rfl rfl rfl (by decide) [4, 5, 0, 1, 2, 3] rfl rfl 0 6 rfl rfl rfl rfl rfl rfl hl.1 rfl rfl (Nat.le_of_ble_eq_true rfl) dX6_read_46 (fun H locs hP hD hS => ?_)
  refine va_put (D := D) (ci := 3) (v := .int v3.1) (ty := .int) (C := RX3) (T := TX3) (N := 9) hx hb hg inG_X3 tyX3 tyX3_ok nmX3 hown hK hP hD hS 2 rfl rfl 7 (by decide) (hg _ q_103) (fun _ h9 => h9) rfl (tyX3_ok 7 (by decide)) rfl rfl (Nat.le_of_ble_eq_true rfl) dX6_read_49 (fun H locs hP hD hS => ?_)
  have hP : va_P D vwCl [(a_t, .inr (6, [.ref a_t_letters, .ref a_t_told, .int t_length, .int v3.2.1, .int v3.2.2])), (a_t_letters, .inl (cy 1, 60, .inl t_letters)), (a_t_told, .inr (3, [.ref a_t_told_paints, .ref a_t_told_inches, g_t_told_night, g_t_told_draw, .ref a_t_told_kinds, .int 0, .int v1.1, .int v3.1, .int t_told_height])), (a_t_told_paints, .inl (cy 0, 6, .inl t_told_paints)), (a_t_told_inches, .inl (cy 0, 6, .inl t_told_inches)), (a_t_told_kinds, .inl (cy 0, 6, .inl t_told_kinds))] H := hP
  have hD : va_D A [(a_t, .inr (6, [.ref a_t_letters, .ref a_t_told, .int t_length, .int v3.2.1, .int v3.2.2])), (a_t_letters, .inl (cy 1, 60, .inl t_letters)), (a_t_told, .inr (3, [.ref a_t_told_paints, .ref a_t_told_inches, g_t_told_night, g_t_told_draw, .ref a_t_told_kinds, .int 0, .int v1.1, .int v3.1, .int t_told_height])), (a_t_told_paints, .inl (cy 0, 6, .inl t_told_paints)), (a_t_told_inches, .inl (cy 0, 6, .inl t_told_inches)), (a_t_told_kinds, .inl (cy 0, 6, .inl t_told_kinds))] := hD
  refine lv_aload_n hx hb dX6_read_52 rfl (lv_at hl 0 rfl) ?_
  refine lv_bipush (v := 94) hx hb dX6_read_53 kB_94 ?_
  obtain ⟨v4, hv4, h⟩ := bind_e h
  refine callMV (As := [.int 94]) (rest := []) (wr := [(a_t_told, .inr (3, [.ref a_t_told_paints, .ref a_t_told_inches, g_t_told_night, g_t_told_draw, .ref a_t_told_kinds, .int 0, .int v1.1, .int v3.1, .int t_told_height])), (a_t_told_paints, .inl (cy 0, 6, .inl t_told_paints)), (a_t_told_inches, .inl (cy 0, 6, .inl t_told_inches)), (a_t_told_kinds, .inl (cy 0, 6, .inl t_told_kinds))]) (w2 := [(a_t, .inr (6, [.ref a_t_letters, .ref a_t_told, .int t_length, .int v4.1, .int v4.2])), (a_t_letters, .inl (cy 1, 60, .inl t_letters)), (a_t_told, .inr (3, [.ref a_t_told_paints, .ref a_t_told_inches, g_t_told_night, g_t_told_draw, .ref a_t_told_kinds, .int 0, .int v1.1, .int v3.1, .int t_told_height])), (a_t_told_paints, .inl (cy 0, 6, .inl t_told_paints)), (a_t_told_inches, .inl (cy 0, 6, .inl t_told_inches)), (a_t_told_kinds, .inl (cy 0, 6, .inl t_told_kinds))]) hx hb hml hown hg (c_X6_readSign l D cy a_t a_t_letters _ (.ref a_t_told) t_letters t_length v3.2.1 v3.2.2 94 F v4 hv4) q_475 q_472 q_58 q_474 q_6 hd_X6_readSign ⟨(Nat.le_of_ble_eq_true rfl), (Nat.le_of_ble_eq_true rfl)⟩ hK hP hD hS hA [0, 1] [2, 3, 4, 5] rfl rfl rfl rfl (by decide) [4, 5, 0, 1, 2, 3] rfl rfl 0 6 rfl rfl rfl rfl rfl rfl hl.1 rfl rfl (Nat.le_of_ble_eq_true rfl) dX6_read_55 (fun H locs hP hD hS => ?_)
  refine lv_aload_n hx hb dX6_read_58 rfl (lv_at hl 0 rfl) ?_
  refine va_get (D := D) (ci := 6) (v := .ref a_t_told) (C := RX6) (T := TX6) (N := 5) hx hb hg inG_X6 hown hK hP 0 rfl rfl 1 (by decide) (hg _ q_183) (fun _ h9 => h9) rfl dX6_read_59 ?_
  refine lv_aload_n hx hb dX6_read_62 rfl (lv_at hl 0 rfl) ?_
  refine lv_bipush (v := 12) hx hb dX6_read_63 kB_12 ?_
  refine lv_iconst (v := 0) hx hb dX6_read_65 kI_0 ?_
  obtain ⟨v5, hv5, h⟩ := bind_e h
  refine callMV (As := [.int 12, .int 0]) (rest := [.ref a_t_told]) (wr := [(a_t_told, .inr (3, [.ref a_t_told_paints, .ref a_t_told_inches, g_t_told_night, g_t_told_draw, .ref a_t_told_kinds, .int 0, .int v1.1, .int v3.1, .int t_told_height])), (a_t_told_paints, .inl (cy 0, 6, .inl t_told_paints)), (a_t_told_inches, .inl (cy 0, 6, .inl t_told_inches)), (a_t_told_kinds, .inl (cy 0, 6, .inl t_told_kinds))]) (w2 := [(a_t, .inr (6, [.ref a_t_letters, .ref a_t_told, .int t_length, .int v5.2.1, .int v5.2.2])), (a_t_letters, .inl (cy 1, 60, .inl t_letters)), (a_t_told, .inr (3, [.ref a_t_told_paints, .ref a_t_told_inches, g_t_told_night, g_t_told_draw, .ref a_t_told_kinds, .int 0, .int v1.1, .int v3.1, .int t_told_height])), (a_t_told_paints, .inl (cy 0, 6, .inl t_told_paints)), (a_t_told_inches, .inl (cy 0, 6, .inl t_told_inches)), (a_t_told_kinds, .inl (cy 0, 6, .inl t_told_kinds))]) hx hb hml hown hg (c_X6_readNumber l D cy a_t a_t_letters _ (.ref a_t_told) t_letters t_length v4.1 v4.2 12 0 F v5 hv5) q_459 q_456 q_58 q_458 q_2 hd_X6_readNumber ⟨(Nat.le_of_ble_eq_true rfl), (Nat.le_of_ble_eq_true rfl)⟩ hK hP hD hS hA [0, 1] [2, 3, 4, 5] rfl rfl rfl rfl (by decide) [4, 5, 0, 1, 2, 3] rfl rfl 0 6 rfl rfl rfl rfl rfl rfl hl.1 rfl rfl (Nat.le_of_ble_eq_true rfl) dX6_read_66 (fun H locs hP hD hS => ?_)
  refine va_put (D := D) (ci := 3) (v := .int v5.1) (ty := .int) (C := RX3) (T := TX3) (N := 9) hx hb hg inG_X3 tyX3 tyX3_ok nmX3 hown hK hP hD hS 2 rfl rfl 8 (by decide) (hg _ q_106) (fun _ h9 => h9) rfl (tyX3_ok 8 (by decide)) rfl rfl (Nat.le_of_ble_eq_true rfl) dX6_read_69 (fun H locs hP hD hS => ?_)
  have hP : va_P D vwCl [(a_t, .inr (6, [.ref a_t_letters, .ref a_t_told, .int t_length, .int v5.2.1, .int v5.2.2])), (a_t_letters, .inl (cy 1, 60, .inl t_letters)), (a_t_told, .inr (3, [.ref a_t_told_paints, .ref a_t_told_inches, g_t_told_night, g_t_told_draw, .ref a_t_told_kinds, .int 0, .int v1.1, .int v3.1, .int v5.1])), (a_t_told_paints, .inl (cy 0, 6, .inl t_told_paints)), (a_t_told_inches, .inl (cy 0, 6, .inl t_told_inches)), (a_t_told_kinds, .inl (cy 0, 6, .inl t_told_kinds))] H := hP
  have hD : va_D A [(a_t, .inr (6, [.ref a_t_letters, .ref a_t_told, .int t_length, .int v5.2.1, .int v5.2.2])), (a_t_letters, .inl (cy 1, 60, .inl t_letters)), (a_t_told, .inr (3, [.ref a_t_told_paints, .ref a_t_told_inches, g_t_told_night, g_t_told_draw, .ref a_t_told_kinds, .int 0, .int v1.1, .int v3.1, .int v5.1])), (a_t_told_paints, .inl (cy 0, 6, .inl t_told_paints)), (a_t_told_inches, .inl (cy 0, 6, .inl t_told_inches)), (a_t_told_kinds, .inl (cy 0, 6, .inl t_told_kinds))] := hD
  refine lv_aload_n hx hb dX6_read_72 rfl (lv_at hl 0 rfl) ?_
  obtain ⟨v6, hv6, h⟩ := bind_e h
  refine callMV (As := []) (rest := []) (wr := [(a_t_told, .inr (3, [.ref a_t_told_paints, .ref a_t_told_inches, g_t_told_night, g_t_told_draw, .ref a_t_told_kinds, .int 0, .int v1.1, .int v3.1, .int v5.1])), (a_t_told_paints, .inl (cy 0, 6, .inl t_told_paints)), (a_t_told_inches, .inl (cy 0, 6, .inl t_told_inches)), (a_t_told_kinds, .inl (cy 0, 6, .inl t_told_kinds))]) (w2 := [(a_t, .inr (6, [.ref a_t_letters, .ref a_t_told, .int t_length, .int v6.2, .int v5.2.2])), (a_t_letters, .inl (cy 1, 60, .inl t_letters)), (a_t_told, .inr (3, [.ref a_t_told_paints, .ref a_t_told_inches, g_t_told_night, g_t_told_draw, .ref a_t_told_kinds, .int 0, .int v1.1, .int v3.1, .int v5.1])), (a_t_told_paints, .inl (cy 0, 6, .inl t_told_paints)), (a_t_told_inches, .inl (cy 0, 6, .inl t_told_inches)), (a_t_told_kinds, .inl (cy 0, 6, .inl t_told_kinds))]) hx hb hml hown hg (c_X6_isAtEnd l D cy a_t a_t_letters _ (.ref a_t_told) t_letters t_length v5.2.1 v5.2.2 F v6 hv6) q_487 q_484 q_58 q_486 q_9 hd_X6_isAtEnd ⟨(Nat.le_of_ble_eq_true rfl), (Nat.le_of_ble_eq_true rfl)⟩ hK hP hD hS hA [0, 1] [2, 3, 4, 5] rfl rfl rfl rfl (by decide) [4, 5, 0, 1, 2, 3] rfl rfl 0 6 rfl rfl rfl rfl rfl rfl hl.1 rfl rfl (Nat.le_of_ble_eq_true rfl) dX6_read_73 (fun H locs hP hD hS => ?_)
  obtain ⟨k14, hk14, h⟩ := jn_e h
  have J14 : ∀ (w7 : Nat → Int32) (w8 : Nat → Int32) (w9 : Nat → Int32) (w10 : Int32) (w11 : Int32) (w12 : Int32) (H : Heap) (locs : List Loc) (ls : Array Slot), va_P D vwCl [(a_t, .inr (6, [.ref a_t_letters, .ref a_t_told, .int t_length, .int w11, .int w12])), (a_t_letters, .inl (cy 1, 60, .inl t_letters)), (a_t_told, .inr (3, [.ref a_t_told_paints, .ref a_t_told_inches, g_t_told_night, g_t_told_draw, .ref a_t_told_kinds, .int w10, .int v1.1, .int v3.1, .int v5.1])), (a_t_told_paints, .inl (cy 0, 6, .inl w7)), (a_t_told_inches, .inl (cy 0, 6, .inl w8)), (a_t_told_kinds, .inl (cy 0, 6, .inl w9))] H → va_D A [(a_t, .inr (6, [.ref a_t_letters, .ref a_t_told, .int t_length, .int w11, .int w12])), (a_t_letters, .inl (cy 1, 60, .inl t_letters)), (a_t_told, .inr (3, [.ref a_t_told_paints, .ref a_t_told_inches, g_t_told_night, g_t_told_draw, .ref a_t_told_kinds, .int w10, .int v1.1, .int v3.1, .int v5.1])), (a_t_told_paints, .inl (cy 0, 6, .inl w7)), (a_t_told_inches, .inl (cy 0, 6, .inl w8)), (a_t_told_kinds, .inl (cy 0, 6, .inl w9))] → va_S A s.heap H locs → lv_has ls 1 [(0, .ref a_t)] → k14 w7 w8 w9 w10 w11 w12 = some out → W p l e (rmG 7 156) s m [.ref a_t].toArray below meth c H locs 0 0 QQ (F0 m 89 ls []) := by
    intro w7 w8 w9 w10 w11 w12 H locs ls hP hD hS hl h
    rw [hk14] at h
    refine lv_aload_n hx hb dX6_read_89 rfl (lv_at hl 0 rfl) ?_
    refine lv_iconst (v := 0) hx hb dX6_read_90 kI_0 ?_
    refine va_put (D := D) (ci := 6) (v := .int 0) (ty := .int) (C := RX6) (T := TX6) (N := 5) hx hb hg inG_X6 tyX6 tyX6_ok nmX6 hown hK hP hD hS 0 rfl rfl 2 (by decide) (hg _ q_185) (fun _ h9 => h9) rfl (tyX6_ok 2 (by decide)) rfl rfl (Nat.le_of_ble_eq_true rfl) dX6_read_91 (fun H locs hP hD hS => ?_)
    have hP : va_P D vwCl [(a_t, .inr (6, [.ref a_t_letters, .ref a_t_told, .int 0, .int w11, .int w12])), (a_t_letters, .inl (cy 1, 60, .inl t_letters)), (a_t_told, .inr (3, [.ref a_t_told_paints, .ref a_t_told_inches, g_t_told_night, g_t_told_draw, .ref a_t_told_kinds, .int w10, .int v1.1, .int v3.1, .int v5.1])), (a_t_told_paints, .inl (cy 0, 6, .inl w7)), (a_t_told_inches, .inl (cy 0, 6, .inl w8)), (a_t_told_kinds, .inl (cy 0, 6, .inl w9))] H := hP
    have hD : va_D A [(a_t, .inr (6, [.ref a_t_letters, .ref a_t_told, .int 0, .int w11, .int w12])), (a_t_letters, .inl (cy 1, 60, .inl t_letters)), (a_t_told, .inr (3, [.ref a_t_told_paints, .ref a_t_told_inches, g_t_told_night, g_t_told_draw, .ref a_t_told_kinds, .int w10, .int v1.1, .int v3.1, .int v5.1])), (a_t_told_paints, .inl (cy 0, 6, .inl w7)), (a_t_told_inches, .inl (cy 0, 6, .inl w8)), (a_t_told_kinds, .inl (cy 0, 6, .inl w9))] := hD
    refine lv_aload_n hx hb dX6_read_94 rfl (lv_at hl 0 rfl) ?_
    refine va_get (D := D) (ci := 6) (v := .int w12) (C := RX6) (T := TX6) (N := 5) hx hb hg inG_X6 hown hK hP 0 rfl rfl 4 (by decide) (hg _ q_188) (fun _ h9 => h9) rfl dX6_read_95 ?_
    refine lv_if_eq (tgt := 111) hx hb dX6_read_98 (by decide) (fun c13 => ?_) (fun c13 => ?_)
    · have h := it_t c13 h
      refine lv_iconst (v := 0) hx hb dX6_read_111 kI_0 ?_
      exact hret _ _ _ _ ls 112 dX6_read_112 rfl (by rw [← Option.some.inj h]) (by rw [← Option.some.inj h]) hP hD hS
    · have h := it_f c13 h
      refine lv_bipush (v := (-20)) hx hb dX6_read_101 kB_m20 ?_
      refine lv_aload_n hx hb dX6_read_103 rfl (lv_at hl 0 rfl) ?_
      refine va_get (D := D) (ci := 6) (v := .int w11) (C := RX6) (T := TX6) (N := 5) hx hb hg inG_X6 hown hK hP 0 rfl rfl 3 (by decide) (hg _ q_187) (fun _ h9 => h9) rfl dX6_read_104 ?_
      refine lv_isub hx hb dX6_read_107 ?_
      refine lv_goto (tgt := 112) hx hb dX6_read_108 (by decide) ?_
      exact hret _ _ _ _ ls 112 dX6_read_112 rfl (by rw [← Option.some.inj h]) (by rw [← Option.some.inj h]) hP hD hS
  refine lv_if_ne (tgt := 89) hx hb dX6_read_76 (by decide) (fun c15 => ?_) (fun c15 => ?_)
  · have h := it_f c15 h
    exact J14 t_told_paints t_told_inches t_told_kinds 0 v6.2 v5.2.2 _ _ _ hP hD hS (lv_sub hl [0] rfl) h
  · have h := it_t c15 h
    refine lv_aload_n hx hb dX6_read_79 rfl (lv_at hl 0 rfl) ?_
    refine lv_bipush (v := 59) hx hb dX6_read_80 kB_59 ?_
    obtain ⟨v16, hv16, h⟩ := bind_e h
    refine callMV (As := [.int 59]) (rest := []) (wr := [(a_t_told, .inr (3, [.ref a_t_told_paints, .ref a_t_told_inches, g_t_told_night, g_t_told_draw, .ref a_t_told_kinds, .int 0, .int v1.1, .int v3.1, .int v5.1])), (a_t_told_paints, .inl (cy 0, 6, .inl t_told_paints)), (a_t_told_inches, .inl (cy 0, 6, .inl t_told_inches)), (a_t_told_kinds, .inl (cy 0, 6, .inl t_told_kinds))]) (w2 := [(a_t, .inr (6, [.ref a_t_letters, .ref a_t_told, .int t_length, .int v16.1, .int v16.2])), (a_t_letters, .inl (cy 1, 60, .inl t_letters)), (a_t_told, .inr (3, [.ref a_t_told_paints, .ref a_t_told_inches, g_t_told_night, g_t_told_draw, .ref a_t_told_kinds, .int 0, .int v1.1, .int v3.1, .int v5.1])), (a_t_told_paints, .inl (cy 0, 6, .inl t_told_paints)), (a_t_told_inches, .inl (cy 0, 6, .inl t_told_inches)), (a_t_told_kinds, .inl (cy 0, 6, .inl t_told_kinds))]) hx hb hml hown hg (c_X6_readSign l D cy a_t a_t_letters _ (.ref a_t_told) t_letters t_length v6.2 v5.2.2 59 F v16 hv16) q_475 q_472 q_58 q_474 q_6 hd_X6_readSign ⟨(Nat.le_of_ble_eq_true rfl), (Nat.le_of_ble_eq_true rfl)⟩ hK hP hD hS hA [0, 1] [2, 3, 4, 5] rfl rfl rfl rfl (by decide) [4, 5, 0, 1, 2, 3] rfl rfl 0 6 rfl rfl rfl rfl rfl rfl hl.1 rfl rfl (Nat.le_of_ble_eq_true rfl) dX6_read_82 (fun H locs hP hD hS => ?_)
    refine lv_aload_n hx hb dX6_read_85 rfl (lv_at hl 0 rfl) ?_
    obtain ⟨v17, hv17, h⟩ := bind_e h
    refine callMVc (As := []) (rest := []) (wr := []) (w2 := [(a_t, .inr (6, [.ref a_t_letters, .ref a_t_told, .int t_length, .int v17.2.2.2.2.1, .int v17.2.2.2.2.2])), (a_t_letters, .inl (cy 1, 60, .inl t_letters)), (a_t_told, .inr (3, [.ref a_t_told_paints, .ref a_t_told_inches, g_t_told_night, g_t_told_draw, .ref a_t_told_kinds, .int v17.2.2.2.1, .int v1.1, .int v3.1, .int v5.1])), (a_t_told_paints, .inl (cy 0, 6, .inl v17.1)), (a_t_told_inches, .inl (cy 0, 6, .inl v17.2.1)), (a_t_told_kinds, .inl (cy 0, 6, .inl v17.2.2.1))]) hx hb hml hown hg (c_X6_readMen l D cy ka kv a_t a_t_letters a_t_told a_t_told_paints a_t_told_inches a_t_told_kinds _ (g_t_told_night) (g_t_told_draw) (.int v1.1) (.int v3.1) (.int v5.1) t_letters t_told_paints t_told_inches t_told_kinds 0 t_length v16.1 v16.2 F v17 hv17) q_491 q_488 q_58 q_490 q_10 hd_X6_readMen ⟨(Nat.le_of_ble_eq_true rfl), (Nat.le_of_ble_eq_true rfl)⟩ hC hK hP hD hS hA [0, 1, 2, 3, 4, 5] [] rfl rfl rfl rfl (by decide) [0, 1, 2, 3, 4, 5] rfl rfl 0 6 rfl rfl rfl rfl rfl rfl hl.1 rfl rfl (Nat.le_of_ble_eq_true rfl) dX6_read_86 (fun H locs hP hD hS => ?_)
    exact J14 v17.1 v17.2.1 v17.2.2.1 v17.2.2.2.1 v17.2.2.2.2.1 v17.2.2.2.2.2 _ _ _ hP hD hS (lv_sub hl [0] rfl) h
