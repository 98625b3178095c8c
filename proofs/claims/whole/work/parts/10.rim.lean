def m_J6_bitCount_0f7a4 (p0 : Int32) : Option (Int32) := bnd (p0 - (((p0.toUInt32 >>> ((1 : Int32).toUInt32 &&& Int32.toUInt32 31)).toInt32) &&& 1431655765)) (fun x1 => bnd ((x1 &&& 858993459) + (((x1.toUInt32 >>> ((2 : Int32).toUInt32 &&& Int32.toUInt32 31)).toInt32) &&& 858993459)) (fun x2 => bnd ((x2 + ((x2.toUInt32 >>> ((4 : Int32).toUInt32 &&& Int32.toUInt32 31)).toInt32)) &&& 252645135) (fun x3 => bnd (x3 + ((x3.toUInt32 >>> ((8 : Int32).toUInt32 &&& Int32.toUInt32 31)).toInt32)) (fun x4 => bnd (x4 + ((x4.toUInt32 >>> ((16 : Int32).toUInt32 &&& Int32.toUInt32 31)).toInt32)) (fun x5 => some (x5 &&& 63))))))
set_option maxHeartbeats 4000000 in
set_option maxRecDepth 100000 in
theorem c_J6_bitCount_0f7a4 (l : Launch) (D : va_G) (cy : Nat → ClassId) (p0 : Int32) (out : Int32) (h : m_J6_bitCount_0f7a4 p0 = some out) : MetR l D cy yJ6_bitCount_0f7a4 cJ6_bitCount_0f7a4 1 (some .int) (rmG 0 0) [.int p0] [] (some (.int out)) := by
  refine startR (own := RJ6) (by decide) rfl (Nat.le_of_ble_eq_true rfl) ?_
  intro p e s m below meth c QQ hx hb hml hown hg hK hP hret ls hl
  have hl : lv_has ls 1 [(0, .int p0)] := hl
  unfold m_J6_bitCount_0f7a4 at h
  refine lv_iload_n hx hb dJ6_bitCount_0f7a4_0 rfl (lv_at hl 0 rfl) ?_
  refine lv_iload_n hx hb dJ6_bitCount_0f7a4_1 rfl (lv_at hl 0 rfl) ?_
  refine lv_iconst (v := 1) hx hb dJ6_bitCount_0f7a4_2 kI_1 ?_
  refine lv_iushr (v := (p0.toUInt32 >>> ((1 : Int32).toUInt32 &&& Int32.toUInt32 31)).toInt32) hx hb dJ6_bitCount_0f7a4_3 rfl ?_
  refine lv_ldcw (v := 1431655765) hx hb hown (hg _ q_399) dJ6_bitCount_0f7a4_4 ?_
  refine lv_iand hx hb dJ6_bitCount_0f7a4_7 ?_
  refine lv_isub hx hb dJ6_bitCount_0f7a4_8 ?_
  refine lv_topi (fun x1 ex1 => ?_)
  have h := bnd_e ex1 h
  refine lv_istore_n (lv' := [(0, .int x1)]) hx hb dJ6_bitCount_0f7a4_9 rfl hl (by decide) rfl (fun ls hl => ?_)
  refine lv_iload_n hx hb dJ6_bitCount_0f7a4_10 rfl (lv_at hl 0 rfl) ?_
  refine lv_ldcw (v := 858993459) hx hb hown (hg _ q_400) dJ6_bitCount_0f7a4_11 ?_
  refine lv_iand hx hb dJ6_bitCount_0f7a4_14 ?_
  refine lv_iload_n hx hb dJ6_bitCount_0f7a4_15 rfl (lv_at hl 0 rfl) ?_
  refine lv_iconst (v := 2) hx hb dJ6_bitCount_0f7a4_16 kI_2 ?_
  refine lv_iushr (v := (x1.toUInt32 >>> ((2 : Int32).toUInt32 &&& Int32.toUInt32 31)).toInt32) hx hb dJ6_bitCount_0f7a4_17 rfl ?_
  refine lv_ldcw (v := 858993459) hx hb hown (hg _ q_400) dJ6_bitCount_0f7a4_18 ?_
  refine lv_iand hx hb dJ6_bitCount_0f7a4_21 ?_
  refine lv_iadd hx hb dJ6_bitCount_0f7a4_22 ?_
  refine lv_topi (fun x2 ex2 => ?_)
  have h := bnd_e ex2 h
  refine lv_istore_n (lv' := [(0, .int x2)]) hx hb dJ6_bitCount_0f7a4_23 rfl hl (by decide) rfl (fun ls hl => ?_)
  refine lv_iload_n hx hb dJ6_bitCount_0f7a4_24 rfl (lv_at hl 0 rfl) ?_
  refine lv_iload_n hx hb dJ6_bitCount_0f7a4_25 rfl (lv_at hl 0 rfl) ?_
  refine lv_iconst (v := 4) hx hb dJ6_bitCount_0f7a4_26 kI_4 ?_
  refine lv_iushr (v := (x2.toUInt32 >>> ((4 : Int32).toUInt32 &&& Int32.toUInt32 31)).toInt32) hx hb dJ6_bitCount_0f7a4_27 rfl ?_
  refine lv_iadd hx hb dJ6_bitCount_0f7a4_28 ?_
  refine lv_ldcw (v := 252645135) hx hb hown (hg _ q_401) dJ6_bitCount_0f7a4_29 ?_
  refine lv_iand hx hb dJ6_bitCount_0f7a4_32 ?_
  refine lv_topi (fun x3 ex3 => ?_)
  have h := bnd_e ex3 h
  refine lv_istore_n (lv' := [(0, .int x3)]) hx hb dJ6_bitCount_0f7a4_33 rfl hl (by decide) rfl (fun ls hl => ?_)
  refine lv_iload_n hx hb dJ6_bitCount_0f7a4_34 rfl (lv_at hl 0 rfl) ?_
  refine lv_iload_n hx hb dJ6_bitCount_0f7a4_35 rfl (lv_at hl 0 rfl) ?_
  refine lv_bipush (v := 8) hx hb dJ6_bitCount_0f7a4_36 kB_8 ?_
  refine lv_iushr (v := (x3.toUInt32 >>> ((8 : Int32).toUInt32 &&& Int32.toUInt32 31)).toInt32) hx hb dJ6_bitCount_0f7a4_38 rfl ?_
  refine lv_iadd hx hb dJ6_bitCount_0f7a4_39 ?_
  refine lv_topi (fun x4 ex4 => ?_)
  have h := bnd_e ex4 h
  refine lv_istore_n (lv' := [(0, .int x4)]) hx hb dJ6_bitCount_0f7a4_40 rfl hl (by decide) rfl (fun ls hl => ?_)
  refine lv_iload_n hx hb dJ6_bitCount_0f7a4_41 rfl (lv_at hl 0 rfl) ?_
  refine lv_iload_n hx hb dJ6_bitCount_0f7a4_42 rfl (lv_at hl 0 rfl) ?_
  refine lv_bipush (v := 16) hx hb dJ6_bitCount_0f7a4_43 kB_16 ?_
  refine lv_iushr (v := (x4.toUInt32 >>> ((16 : Int32).toUInt32 &&& Int32.toUInt32 31)).toInt32) hx hb dJ6_bitCount_0f7a4_45 rfl ?_
  refine lv_iadd hx hb dJ6_bitCount_0f7a4_46 ?_
  refine lv_topi (fun x5 ex5 => ?_)
  have h := bnd_e ex5 h
  refine lv_istore_n (lv' := [(0, .int x5)]) hx hb dJ6_bitCount_0f7a4_47 rfl hl (by decide) rfl (fun ls hl => ?_)
  refine lv_iload_n hx hb dJ6_bitCount_0f7a4_48 rfl (lv_at hl 0 rfl) ?_
  refine lv_bipush (v := 63) hx hb dJ6_bitCount_0f7a4_49 kB_63 ?_
  refine lv_iand hx hb dJ6_bitCount_0f7a4_51 ?_
  exact hret _ ls 52 dJ6_bitCount_0f7a4_52 rfl (congrArg (fun z => some (Value.int z)) (Option.some.inj h))

def m_J7_fill_53178_6_L5s (p1 : Int32) (k4 : (Nat → Int32) → Option ((Nat → Int32))) (r6 : Int32 → (Nat → Int32) → Option ((Nat → Int32))) (x1 : Int32) (w2 : Nat → Int32) : Option ((Nat → Int32)) := (if 6 ≤ x1 then k4 w2 else chk x1 6 (bnd (x1 + 1) (fun x9 => r6 x9 (upd w2 x1.toNatClampNeg p1))))
def m_J7_fill_53178_6_L5 (p1 : Int32) (k4 : (Nat → Int32) → Option ((Nat → Int32))) : Nat → Int32 → (Nat → Int32) → Option ((Nat → Int32))
  | 0 => fun _ _ => none
  | nF + 1 => m_J7_fill_53178_6_L5s p1 k4 (m_J7_fill_53178_6_L5 p1 k4 nF)
def m_J7_fill_53178_6 (F : Nat) (p0 : Nat → Int32) (p1 : Int32) : Option ((Nat → Int32)) := m_J7_fill_53178_6_L5 p1 (fun (w3 : Nat → Int32) => some w3) F 0 p0
set_option maxHeartbeats 4000000 in
set_option maxRecDepth 100000 in
theorem c_J7_fill_53178_6 (l : Launch) (D : va_G) (cy : Nat → ClassId) (a_p0 : Nat) (sz : Nat) (p0 : Nat → Int32) (p1 : Int32) (F : Nat) (out : (Nat → Int32)) (h : m_J7_fill_53178_6 F p0 p1 = some out) : MetM l D cy yJ7_fill_53178 cJ7_fill_53178 4 none (rmG 0 0) [.ref a_p0, .int p1] sz [(a_p0, .inl (cy 0, 6, .inl p0))] none [(a_p0, .inl (cy 0, 6, .inl out))] := by
  refine startMv (own := RJ7) (by decide) rfl (Nat.le_of_ble_eq_true rfl) ?_
  intro p e s m below meth c QQ A hx hb hml hown hg hK hP hD hS hA hret ls hl
  have hl : lv_has ls 4 [(0, .ref a_p0), (1, .int p1)] := hl
  unfold m_J7_fill_53178_6 at h
  refine lv_iconst (v := 0) hx hb dJ7_fill_53178_0 kI_0 ?_
  refine lv_istore_n (lv' := [(2, .int 0), (0, .ref a_p0), (1, .int p1)]) hx hb dJ7_fill_53178_1 rfl hl (by decide) rfl (fun ls hl => ?_)
  refine lv_aload_n hx hb dJ7_fill_53178_2 rfl (lv_at hl 1 rfl) ?_
  refine va_alen (v := 6) hx hb hK hP 0 0 rfl rfl kO_6 dJ7_fill_53178_3 ?_
  refine lv_istore_n (lv' := [(3, .int 6), (2, .int 0), (0, .ref a_p0), (1, .int p1)]) hx hb dJ7_fill_53178_4 rfl hl (by decide) rfl (fun ls hl => ?_)
  obtain ⟨k4, hk4, h⟩ := kap (fun z => m_J7_fill_53178_6_L5 p1 z F 0 p0) h
  have J4 : ∀ (w3 : Nat → Int32) (H : Heap) (locs : List Loc) (ls : Array Slot), va_P D vwCl [(a_p0, .inl (cy 0, 6, .inl w3))] H → va_D A [(a_p0, .inl (cy 0, 6, .inl w3))] → va_S A s.heap H locs → lv_has ls 4 [] → k4 w3 = some out → W p l e (rmG 0 0) s m [.ref a_p0, .int p1].toArray below meth c H locs 0 0 QQ (F0 m 20 ls []) := by
    intro w3 H locs ls hP hD hS hl h
    rw [hk4] at h
    exact hret _ _ _ ls 20 dJ7_fill_53178_20 (by rw [← Option.some.inj h]) hP hD hS
  have L5 : ∀ (n5 : Nat) (x1 : Int32) (w2 : Nat → Int32) (H : Heap) (locs : List Loc) (ls : Array Slot), va_P D vwCl [(a_p0, .inl (cy 0, 6, .inl w2))] H → va_D A [(a_p0, .inl (cy 0, 6, .inl w2))] → va_S A s.heap H locs → lv_has ls 4 [(3, .int 6), (2, .int x1), (0, .ref a_p0), (1, .int p1)] → m_J7_fill_53178_6_L5 p1 k4 n5 x1 w2 = some out → W p l e (rmG 0 0) s m [.ref a_p0, .int p1].toArray below meth c H locs 0 0 QQ (F0 m 5 ls []) := by
    intro n5
    induction n5 with
    | zero => intro x1 w2 H locs ls hP hD hS hl h; exact nomatch (show (none : Option ((Nat → Int32))) = some out from h)
    | succ n5 ih =>
        intro x1 w2 H locs ls hP hD hS hl h
        have h : m_J7_fill_53178_6_L5s p1 k4 (m_J7_fill_53178_6_L5 p1 k4 n5) x1 w2 = some out := h
        unfold m_J7_fill_53178_6_L5s at h
        refine lv_iload_n hx hb dJ7_fill_53178_5 rfl (lv_at hl 1 rfl) ?_
        refine lv_iload_n hx hb dJ7_fill_53178_6 rfl (lv_at hl 0 rfl) ?_
        refine lv_icmp_ge (tgt := 20) hx hb dJ7_fill_53178_7 (by decide) (fun c7 => ?_) (fun c7 => ?_)
        · have h := it_t c7 h
          exact J4 w2 _ _ _ hP hD hS (lv_sub hl [] rfl) h
        · have h := it_f c7 h
          refine lv_aload_n hx hb dJ7_fill_53178_10 rfl (lv_at hl 2 rfl) ?_
          refine lv_iload_n hx hb dJ7_fill_53178_11 rfl (lv_at hl 1 rfl) ?_
          refine lv_iload_n hx hb dJ7_fill_53178_12 rfl (lv_at hl 3 rfl) ?_
          obtain ⟨hi8, h⟩ := chk_e h
          refine va_iast hx hb hK hP hD hS 0 0 rfl rfl hi8 dJ7_fill_53178_13 (fun H locs hP hD hS => ?_)
          have hP : va_P D vwCl [(a_p0, .inl (cy 0, 6, .inl (upd w2 x1.toNatClampNeg p1)))] H := hP
          have hD : va_D A [(a_p0, .inl (cy 0, 6, .inl (upd w2 x1.toNatClampNeg p1)))] := hD
          obtain ⟨x9, ex9⟩ : ∃ y : Int32, y = x1 + 1 := ⟨_, rfl⟩
          have h := bnd_e ex9 h
          refine lv_iinc (v := x9) (lv' := [(2, .int x9), (3, .int 6), (0, .ref a_p0), (1, .int p1)]) hx hb dJ7_fill_53178_14 hl (k := 1) rfl (inc_e kI_1 ex9) (by decide) rfl (fun ls hl => ?_)
          refine lv_goto (tgt := 5) hx hb dJ7_fill_53178_17 (by decide) ?_
          exact ih x9 (upd w2 x1.toNatClampNeg p1) _ _ _ hP hD hS (lv_sub hl [1, 0, 2, 3] rfl) h
  exact L5 F 0 p0 _ _ _ hP hD hS (lv_sub hl [0, 1, 2, 3] rfl) h

def m_J7_fill_53178_7_L5s (p1 : Int32) (k4 : (Nat → Int32) → Option ((Nat → Int32))) (r6 : Int32 → (Nat → Int32) → Option ((Nat → Int32))) (x1 : Int32) (w2 : Nat → Int32) : Option ((Nat → Int32)) := (if 7 ≤ x1 then k4 w2 else chk x1 7 (bnd (x1 + 1) (fun x9 => r6 x9 (upd w2 x1.toNatClampNeg p1))))
def m_J7_fill_53178_7_L5 (p1 : Int32) (k4 : (Nat → Int32) → Option ((Nat → Int32))) : Nat → Int32 → (Nat → Int32) → Option ((Nat → Int32))
  | 0 => fun _ _ => none
  | nF + 1 => m_J7_fill_53178_7_L5s p1 k4 (m_J7_fill_53178_7_L5 p1 k4 nF)
def m_J7_fill_53178_7 (F : Nat) (p0 : Nat → Int32) (p1 : Int32) : Option ((Nat → Int32)) := m_J7_fill_53178_7_L5 p1 (fun (w3 : Nat → Int32) => some w3) F 0 p0
set_option maxHeartbeats 4000000 in
set_option maxRecDepth 100000 in
theorem c_J7_fill_53178_7 (l : Launch) (D : va_G) (cy : Nat → ClassId) (a_p0 : Nat) (sz : Nat) (p0 : Nat → Int32) (p1 : Int32) (F : Nat) (out : (Nat → Int32)) (h : m_J7_fill_53178_7 F p0 p1 = some out) : MetM l D cy yJ7_fill_53178 cJ7_fill_53178 4 none (rmG 0 0) [.ref a_p0, .int p1] sz [(a_p0, .inl (cy 0, 7, .inl p0))] none [(a_p0, .inl (cy 0, 7, .inl out))] := by
  refine startMv (own := RJ7) (by decide) rfl (Nat.le_of_ble_eq_true rfl) ?_
  intro p e s m below meth c QQ A hx hb hml hown hg hK hP hD hS hA hret ls hl
  have hl : lv_has ls 4 [(0, .ref a_p0), (1, .int p1)] := hl
  unfold m_J7_fill_53178_7 at h
  refine lv_iconst (v := 0) hx hb dJ7_fill_53178_0 kI_0 ?_
  refine lv_istore_n (lv' := [(2, .int 0), (0, .ref a_p0), (1, .int p1)]) hx hb dJ7_fill_53178_1 rfl hl (by decide) rfl (fun ls hl => ?_)
  refine lv_aload_n hx hb dJ7_fill_53178_2 rfl (lv_at hl 1 rfl) ?_
  refine va_alen (v := 7) hx hb hK hP 0 0 rfl rfl kO_7 dJ7_fill_53178_3 ?_
  refine lv_istore_n (lv' := [(3, .int 7), (2, .int 0), (0, .ref a_p0), (1, .int p1)]) hx hb dJ7_fill_53178_4 rfl hl (by decide) rfl (fun ls hl => ?_)
  obtain ⟨k4, hk4, h⟩ := kap (fun z => m_J7_fill_53178_7_L5 p1 z F 0 p0) h
  have J4 : ∀ (w3 : Nat → Int32) (H : Heap) (locs : List Loc) (ls : Array Slot), va_P D vwCl [(a_p0, .inl (cy 0, 7, .inl w3))] H → va_D A [(a_p0, .inl (cy 0, 7, .inl w3))] → va_S A s.heap H locs → lv_has ls 4 [] → k4 w3 = some out → W p l e (rmG 0 0) s m [.ref a_p0, .int p1].toArray below meth c H locs 0 0 QQ (F0 m 20 ls []) := by
    intro w3 H locs ls hP hD hS hl h
    rw [hk4] at h
    exact hret _ _ _ ls 20 dJ7_fill_53178_20 (by rw [← Option.some.inj h]) hP hD hS
  have L5 : ∀ (n5 : Nat) (x1 : Int32) (w2 : Nat → Int32) (H : Heap) (locs : List Loc) (ls : Array Slot), va_P D vwCl [(a_p0, .inl (cy 0, 7, .inl w2))] H → va_D A [(a_p0, .inl (cy 0, 7, .inl w2))] → va_S A s.heap H locs → lv_has ls 4 [(3, .int 7), (2, .int x1), (0, .ref a_p0), (1, .int p1)] → m_J7_fill_53178_7_L5 p1 k4 n5 x1 w2 = some out → W p l e (rmG 0 0) s m [.ref a_p0, .int p1].toArray below meth c H locs 0 0 QQ (F0 m 5 ls []) := by
    intro n5
    induction n5 with
    | zero => intro x1 w2 H locs ls hP hD hS hl h; exact nomatch (show (none : Option ((Nat → Int32))) = some out from h)
    | succ n5 ih =>
        intro x1 w2 H locs ls hP hD hS hl h
        have h : m_J7_fill_53178_7_L5s p1 k4 (m_J7_fill_53178_7_L5 p1 k4 n5) x1 w2 = some out := h
        unfold m_J7_fill_53178_7_L5s at h
        refine lv_iload_n hx hb dJ7_fill_53178_5 rfl (lv_at hl 1 rfl) ?_
        refine lv_iload_n hx hb dJ7_fill_53178_6 rfl (lv_at hl 0 rfl) ?_
        refine lv_icmp_ge (tgt := 20) hx hb dJ7_fill_53178_7 (by decide) (fun c7 => ?_) (fun c7 => ?_)
        · have h := it_t c7 h
          exact J4 w2 _ _ _ hP hD hS (lv_sub hl [] rfl) h
        · have h := it_f c7 h
          refine lv_aload_n hx hb dJ7_fill_53178_10 rfl (lv_at hl 2 rfl) ?_
          refine lv_iload_n hx hb dJ7_fill_53178_11 rfl (lv_at hl 1 rfl) ?_
          refine lv_iload_n hx hb dJ7_fill_53178_12 rfl (lv_at hl 3 rfl) ?_
          obtain ⟨hi8, h⟩ := chk_e h
          refine va_iast hx hb hK hP hD hS 0 0 rfl rfl hi8 dJ7_fill_53178_13 (fun H locs hP hD hS => ?_)
          have hP : va_P D vwCl [(a_p0, .inl (cy 0, 7, .inl (upd w2 x1.toNatClampNeg p1)))] H := hP
          have hD : va_D A [(a_p0, .inl (cy 0, 7, .inl (upd w2 x1.toNatClampNeg p1)))] := hD
          obtain ⟨x9, ex9⟩ : ∃ y : Int32, y = x1 + 1 := ⟨_, rfl⟩
          have h := bnd_e ex9 h
          refine lv_iinc (v := x9) (lv' := [(2, .int x9), (3, .int 7), (0, .ref a_p0), (1, .int p1)]) hx hb dJ7_fill_53178_14 hl (k := 1) rfl (inc_e kI_1 ex9) (by decide) rfl (fun ls hl => ?_)
          refine lv_goto (tgt := 5) hx hb dJ7_fill_53178_17 (by decide) ?_
          exact ih x9 (upd w2 x1.toNatClampNeg p1) _ _ _ hP hD hS (lv_sub hl [1, 0, 2, 3] rfl) h
  exact L5 F 0 p0 _ _ _ hP hD hS (lv_sub hl [0, 1, 2, 3] rfl) h

def m_J7_fill_d0a16_24_L6s (p1 : Int64) (k4 : (Nat → Int64) → Option ((Nat → Int64))) (r6 : Int32 → (Nat → Int64) → Option ((Nat → Int64))) (x1 : Int32) (w2 : Nat → Int64) : Option ((Nat → Int64)) := (if 24 ≤ x1 then k4 w2 else chk x1 24 (bnd (x1 + 1) (fun x9 => r6 x9 (vp_updL w2 x1.toNatClampNeg p1))))
def m_J7_fill_d0a16_24_L6 (p1 : Int64) (k4 : (Nat → Int64) → Option ((Nat → Int64))) : Nat → Int32 → (Nat → Int64) → Option ((Nat → Int64))
  | 0 => fun _ _ => none
  | nF + 1 => m_J7_fill_d0a16_24_L6s p1 k4 (m_J7_fill_d0a16_24_L6 p1 k4 nF)
def m_J7_fill_d0a16_24 (F : Nat) (p0 : Nat → Int64) (p1 : Int64) : Option ((Nat → Int64)) := m_J7_fill_d0a16_24_L6 p1 (fun (w3 : Nat → Int64) => some w3) F 0 p0
set_option maxHeartbeats 4000000 in
set_option maxRecDepth 100000 in
theorem c_J7_fill_d0a16_24 (l : Launch) (D : va_G) (cy : Nat → ClassId) (a_p0 : Nat) (sz : Nat) (p0 : Nat → Int64) (p1 : Int64) (F : Nat) (out : (Nat → Int64)) (h : m_J7_fill_d0a16_24 F p0 p1 = some out) : MetM l D cy yJ7_fill_d0a16 cJ7_fill_d0a16 5 none (rmG 0 0) [.ref a_p0, .long p1] sz [(a_p0, .inl (cy 2, 24, .inr (.inl p0)))] none [(a_p0, .inl (cy 2, 24, .inr (.inl out)))] := by
  refine startMv (own := RJ7) (by decide) rfl (Nat.le_of_ble_eq_true rfl) ?_
  intro p e s m below meth c QQ A hx hb hml hown hg hK hP hD hS hA hret ls hl
  have hl : lv_has ls 5 [(0, .ref a_p0), (1, .long p1)] := hl
  unfold m_J7_fill_d0a16_24 at h
  refine lv_iconst (v := 0) hx hb dJ7_fill_d0a16_0 kI_0 ?_
  refine lv_istore_n (lv' := [(3, .int 0), (0, .ref a_p0), (1, .long p1)]) hx hb dJ7_fill_d0a16_1 rfl hl (by decide) rfl (fun ls hl => ?_)
  refine lv_aload_n hx hb dJ7_fill_d0a16_2 rfl (lv_at hl 1 rfl) ?_
  refine va_alen (v := 24) hx hb hK hP 0 2 rfl rfl kO_24 dJ7_fill_d0a16_3 ?_
  refine lv_istore (lv' := [(4, .int 24), (3, .int 0), (0, .ref a_p0), (1, .long p1)]) hx hb dJ7_fill_d0a16_4 hl (by decide) rfl (fun ls hl => ?_)
  obtain ⟨k4, hk4, h⟩ := kap (fun z => m_J7_fill_d0a16_24_L6 p1 z F 0 p0) h
  have J4 : ∀ (w3 : Nat → Int64) (H : Heap) (locs : List Loc) (ls : Array Slot), va_P D vwCl [(a_p0, .inl (cy 2, 24, .inr (.inl w3)))] H → va_D A [(a_p0, .inl (cy 2, 24, .inr (.inl w3)))] → va_S A s.heap H locs → lv_has ls 5 [] → k4 w3 = some out → W p l e (rmG 0 0) s m [.ref a_p0, .long p1].toArray below meth c H locs 0 0 QQ (F0 m 22 ls []) := by
    intro w3 H locs ls hP hD hS hl h
    rw [hk4] at h
    exact hret _ _ _ ls 22 dJ7_fill_d0a16_22 (by rw [← Option.some.inj h]) hP hD hS
  have L5 : ∀ (n5 : Nat) (x1 : Int32) (w2 : Nat → Int64) (H : Heap) (locs : List Loc) (ls : Array Slot), va_P D vwCl [(a_p0, .inl (cy 2, 24, .inr (.inl w2)))] H → va_D A [(a_p0, .inl (cy 2, 24, .inr (.inl w2)))] → va_S A s.heap H locs → lv_has ls 5 [(4, .int 24), (3, .int x1), (0, .ref a_p0), (1, .long p1)] → m_J7_fill_d0a16_24_L6 p1 k4 n5 x1 w2 = some out → W p l e (rmG 0 0) s m [.ref a_p0, .long p1].toArray below meth c H locs 0 0 QQ (F0 m 6 ls []) := by
    intro n5
    induction n5 with
    | zero => intro x1 w2 H locs ls hP hD hS hl h; exact nomatch (show (none : Option ((Nat → Int64))) = some out from h)
    | succ n5 ih =>
        intro x1 w2 H locs ls hP hD hS hl h
        have h : m_J7_fill_d0a16_24_L6s p1 k4 (m_J7_fill_d0a16_24_L6 p1 k4 n5) x1 w2 = some out := h
        unfold m_J7_fill_d0a16_24_L6s at h
        refine lv_iload_n hx hb dJ7_fill_d0a16_6 rfl (lv_at hl 1 rfl) ?_
        refine lv_iload hx hb dJ7_fill_d0a16_7 (lv_at hl 0 rfl) ?_
        refine lv_icmp_ge (tgt := 22) hx hb dJ7_fill_d0a16_9 (by decide) (fun c7 => ?_) (fun c7 => ?_)
        · have h := it_t c7 h
          exact J4 w2 _ _ _ hP hD hS (lv_sub hl [] rfl) h
        · have h := it_f c7 h
          refine lv_aload_n hx hb dJ7_fill_d0a16_12 rfl (lv_at hl 2 rfl) ?_
          refine lv_iload_n hx hb dJ7_fill_d0a16_13 rfl (lv_at hl 1 rfl) ?_
          refine lv_lload_n hx hb dJ7_fill_d0a16_14 rfl (lv_at hl 3 rfl) ?_
          obtain ⟨hi8, h⟩ := chk_e h
          refine va_last hx hb hK hP hD hS 0 2 rfl rfl hi8 dJ7_fill_d0a16_15 (fun H locs hP hD hS => ?_)
          have hP : va_P D vwCl [(a_p0, .inl (cy 2, 24, .inr (.inl (vp_updL w2 x1.toNatClampNeg p1))))] H := hP
          have hD : va_D A [(a_p0, .inl (cy 2, 24, .inr (.inl (vp_updL w2 x1.toNatClampNeg p1))))] := hD
          obtain ⟨x9, ex9⟩ : ∃ y : Int32, y = x1 + 1 := ⟨_, rfl⟩
          have h := bnd_e ex9 h
          refine lv_iinc (v := x9) (lv' := [(3, .int x9), (4, .int 24), (0, .ref a_p0), (1, .long p1)]) hx hb dJ7_fill_d0a16_16 hl (k := 1) rfl (inc_e kI_1 ex9) (by decide) rfl (fun ls hl => ?_)
          refine lv_goto (tgt := 6) hx hb dJ7_fill_d0a16_19 (by decide) ?_
          exact ih x9 (vp_updL w2 x1.toNatClampNeg p1) _ _ _ hP hD hS (lv_sub hl [1, 0, 2, 3] rfl) h
  exact L5 F 0 p0 _ _ _ hP hD hS (lv_sub hl [0, 1, 2, 3] rfl) h

def m_X0_takeMoment_X0X0 (t_paints : Nat → Int32) (t_inches : Nat → Int32) (t_night : Int32) (t_draw : Int32) (p0_paints : Nat → Int32) (p0_inches : Nat → Int32) (p0_night : Int32) (p0_draw : Int32) : Option ((Nat → Int32) × (Nat → Int32) × Int32 × Int32) := some (va_cpy p0_paints t_paints (0 : Int32).toNatClampNeg (0 : Int32).toNatClampNeg (6 : Int32).toNatClampNeg, va_cpy p0_inches t_inches (0 : Int32).toNatClampNeg (0 : Int32).toNatClampNeg (6 : Int32).toNatClampNeg, p0_night, p0_draw)
set_option maxHeartbeats 4000000 in
set_option maxRecDepth 100000 in
theorem c_X0_takeMoment_X0X0 (l : Launch) (D : va_G) (cy : Nat → ClassId) (a_t : Nat) (a_t_paints : Nat) (a_t_inches : Nat) (a_p0 : Nat) (a_p0_paints : Nat) (a_p0_inches : Nat) (sz : Nat) (t_paints : Nat → Int32) (t_inches : Nat → Int32) (t_night : Int32) (t_draw : Int32) (p0_paints : Nat → Int32) (p0_inches : Nat → Int32) (p0_night : Int32) (p0_draw : Int32) (out : (Nat → Int32) × (Nat → Int32) × Int32 × Int32) (h : m_X0_takeMoment_X0X0 t_paints t_inches t_night t_draw p0_paints p0_inches p0_night p0_draw = some out) : MetM l D cy yX0_takeMoment cX0_takeMoment 2 none (rmG 1 26) [.ref a_t, .ref a_p0] sz [(a_t, .inr (0, [.ref a_t_paints, .ref a_t_inches, .int t_night, .int t_draw])), (a_t_paints, .inl (cy 0, 6, .inl t_paints)), (a_t_inches, .inl (cy 0, 6, .inl t_inches)), (a_p0, .inr (0, [.ref a_p0_paints, .ref a_p0_inches, .int p0_night, .int p0_draw])), (a_p0_paints, .inl (cy 0, 6, .inl p0_paints)), (a_p0_inches, .inl (cy 0, 6, .inl p0_inches))] none [(a_t, .inr (0, [.ref a_t_paints, .ref a_t_inches, .int out.2.2.1, .int out.2.2.2])), (a_t_paints, .inl (cy 0, 6, .inl out.1)), (a_t_inches, .inl (cy 0, 6, .inl out.2.1)), (a_p0, .inr (0, [.ref a_p0_paints, .ref a_p0_inches, .int p0_night, .int p0_draw])), (a_p0_paints, .inl (cy 0, 6, .inl p0_paints)), (a_p0_inches, .inl (cy 0, 6, .inl p0_inches))] := by
  refine startMv (own := RX0) (by decide) rfl (Nat.le_of_ble_eq_true rfl) ?_
  intro p e s m below meth c QQ A hx hb hml hown hg hK hP hD hS hA hret ls hl
  have hl : lv_has ls 2 [(0, .ref a_t), (1, .ref a_p0)] := hl
  unfold m_X0_takeMoment_X0X0 at h
  refine lv_aload_n hx hb dX0_takeMoment_0 rfl (lv_at hl 1 rfl) ?_
  refine va_get (D := D) (ci := 0) (v := .ref a_p0_paints) (C := RX0) (T := TX0) (N := 4) hx hb hg inG_X0 hown hK hP 3 rfl rfl 0 (by decide) (hg _ q_109) (fun _ h9 => h9) rfl dX0_takeMoment_1 ?_
  refine lv_iconst (v := 0) hx hb dX0_takeMoment_4 kI_0 ?_
  refine lv_aload_n hx hb dX0_takeMoment_5 rfl (lv_at hl 0 rfl) ?_
  refine va_get (D := D) (ci := 0) (v := .ref a_t_paints) (C := RX0) (T := TX0) (N := 4) hx hb hg inG_X0 hown hK hP 0 rfl rfl 0 (by decide) (hg _ q_109) (fun _ h9 => h9) rfl dX0_takeMoment_6 ?_
  refine lv_iconst (v := 0) hx hb dX0_takeMoment_9 kI_0 ?_
  refine lv_bipush (v := 6) hx hb dX0_takeMoment_10 kB_6 ?_
  refine va_copyi (sp := 0) (dp := 0) (n := 6) hx hb (hml.trans hl.1.symm) hown (hg _ q_597) (hg _ q_599) (hg _ q_598) (hg _ q_71) hK hP hD hS 4 1 0 0 rfl rfl rfl rfl rfl (by decide) (by decide) (by decide) (by decide) (by decide) (fun _ _ => rfl) (Nat.le_of_ble_eq_true rfl) (Nat.le_of_ble_eq_true rfl) dX0_takeMoment_12 (fun H locs hP hD hS => ?_)
  have hP : va_P D vwCl [(a_t, .inr (0, [.ref a_t_paints, .ref a_t_inches, .int t_night, .int t_draw])), (a_t_paints, .inl (cy 0, 6, .inl (va_cpy p0_paints t_paints (0 : Int32).toNatClampNeg (0 : Int32).toNatClampNeg (6 : Int32).toNatClampNeg))), (a_t_inches, .inl (cy 0, 6, .inl t_inches)), (a_p0, .inr (0, [.ref a_p0_paints, .ref a_p0_inches, .int p0_night, .int p0_draw])), (a_p0_paints, .inl (cy 0, 6, .inl p0_paints)), (a_p0_inches, .inl (cy 0, 6, .inl p0_inches))] H := hP
  have hD : va_D A [(a_t, .inr (0, [.ref a_t_paints, .ref a_t_inches, .int t_night, .int t_draw])), (a_t_paints, .inl (cy 0, 6, .inl (va_cpy p0_paints t_paints (0 : Int32).toNatClampNeg (0 : Int32).toNatClampNeg (6 : Int32).toNatClampNeg))), (a_t_inches, .inl (cy 0, 6, .inl t_inches)), (a_p0, .inr (0, [.ref a_p0_paints, .ref a_p0_inches, .int p0_night, .int p0_draw])), (a_p0_paints, .inl (cy 0, 6, .inl p0_paints)), (a_p0_inches, .inl (cy 0, 6, .inl p0_inches))] := hD
  refine lv_aload_n hx hb dX0_takeMoment_15 rfl (lv_at hl 1 rfl) ?_
  refine va_get (D := D) (ci := 0) (v := .ref a_p0_inches) (C := RX0) (T := TX0) (N := 4) hx hb hg inG_X0 hown hK hP 3 rfl rfl 1 (by decide) (hg _ q_114) (fun _ h9 => h9) rfl dX0_takeMoment_16 ?_
  refine lv_iconst (v := 0) hx hb dX0_takeMoment_19 kI_0 ?_
  refine lv_aload_n hx hb dX0_takeMoment_20 rfl (lv_at hl 0 rfl) ?_
  refine va_get (D := D) (ci := 0) (v := .ref a_t_inches) (C := RX0) (T := TX0) (N := 4) hx hb hg inG_X0 hown hK hP 0 rfl rfl 1 (by decide) (hg _ q_114) (fun _ h9 => h9) rfl dX0_takeMoment_21 ?_
  refine lv_iconst (v := 0) hx hb dX0_takeMoment_24 kI_0 ?_
  refine lv_bipush (v := 6) hx hb dX0_takeMoment_25 kB_6 ?_
  refine va_copyi (sp := 0) (dp := 0) (n := 6) hx hb (hml.trans hl.1.symm) hown (hg _ q_597) (hg _ q_599) (hg _ q_598) (hg _ q_71) hK hP hD hS 5 2 0 0 rfl rfl rfl rfl rfl (by decide) (by decide) (by decide) (by decide) (by decide) (fun _ _ => rfl) (Nat.le_of_ble_eq_true rfl) (Nat.le_of_ble_eq_true rfl) dX0_takeMoment_27 (fun H locs hP hD hS => ?_)
  have hP : va_P D vwCl [(a_t, .inr (0, [.ref a_t_paints, .ref a_t_inches, .int t_night, .int t_draw])), (a_t_paints, .inl (cy 0, 6, .inl (va_cpy p0_paints t_paints (0 : Int32).toNatClampNeg (0 : Int32).toNatClampNeg (6 : Int32).toNatClampNeg))), (a_t_inches, .inl (cy 0, 6, .inl (va_cpy p0_inches t_inches (0 : Int32).toNatClampNeg (0 : Int32).toNatClampNeg (6 : Int32).toNatClampNeg))), (a_p0, .inr (0, [.ref a_p0_paints, .ref a_p0_inches, .int p0_night, .int p0_draw])), (a_p0_paints, .inl (cy 0, 6, .inl p0_paints)), (a_p0_inches, .inl (cy 0, 6, .inl p0_inches))] H := hP
  have hD : va_D A [(a_t, .inr (0, [.ref a_t_paints, .ref a_t_inches, .int t_night, .int t_draw])), (a_t_paints, .inl (cy 0, 6, .inl (va_cpy p0_paints t_paints (0 : Int32).toNatClampNeg (0 : Int32).toNatClampNeg (6 : Int32).toNatClampNeg))), (a_t_inches, .inl (cy 0, 6, .inl (va_cpy p0_inches t_inches (0 : Int32).toNatClampNeg (0 : Int32).toNatClampNeg (6 : Int32).toNatClampNeg))), (a_p0, .inr (0, [.ref a_p0_paints, .ref a_p0_inches, .int p0_night, .int p0_draw])), (a_p0_paints, .inl (cy 0, 6, .inl p0_paints)), (a_p0_inches, .inl (cy 0, 6, .inl p0_inches))] := hD
  refine lv_aload_n hx hb dX0_takeMoment_30 rfl (lv_at hl 0 rfl) ?_
  refine lv_aload_n hx hb dX0_takeMoment_31 rfl (lv_at hl 1 rfl) ?_
  refine va_get (D := D) (ci := 0) (v := .int p0_night) (C := RX0) (T := TX0) (N := 4) hx hb hg inG_X0 hown hK hP 3 rfl rfl 2 (by decide) (hg _ q_120) (fun _ h9 => h9) rfl dX0_takeMoment_32 ?_
  refine va_put (D := D) (ci := 0) (v := .int p0_night) (ty := .int) (C := RX0) (T := TX0) (N := 4) hx hb hg inG_X0 tyX0 tyX0_ok nmX0 hown hK hP hD hS 0 rfl rfl 2 (by decide) (hg _ q_120) (fun _ h9 => h9) rfl (tyX0_ok 2 (by decide)) rfl rfl (Nat.le_of_ble_eq_true rfl) dX0_takeMoment_35 (fun H locs hP hD hS => ?_)
  have hP : va_P D vwCl [(a_t, .inr (0, [.ref a_t_paints, .ref a_t_inches, .int p0_night, .int t_draw])), (a_t_paints, .inl (cy 0, 6, .inl (va_cpy p0_paints t_paints (0 : Int32).toNatClampNeg (0 : Int32).toNatClampNeg (6 : Int32).toNatClampNeg))), (a_t_inches, .inl (cy 0, 6, .inl (va_cpy p0_inches t_inches (0 : Int32).toNatClampNeg (0 : Int32).toNatClampNeg (6 : Int32).toNatClampNeg))), (a_p0, .inr (0, [.ref a_p0_paints, .ref a_p0_inches, .int p0_night, .int p0_draw])), (a_p0_paints, .inl (cy 0, 6, .inl p0_paints)), (a_p0_inches, .inl (cy 0, 6, .inl p0_inches))] H := hP
  have hD : va_D A [(a_t, .inr (0, [.ref a_t_paints, .ref a_t_inches, .int p0_night, .int t_draw])), (a_t_paints, .inl (cy 0, 6, .inl (va_cpy p0_paints t_paints (0 : Int32).toNatClampNeg (0 : Int32).toNatClampNeg (6 : Int32).toNatClampNeg))), (a_t_inches, .inl (cy 0, 6, .inl (va_cpy p0_inches t_inches (0 : Int32).toNatClampNeg (0 : Int32).toNatClampNeg (6 : Int32).toNatClampNeg))), (a_p0, .inr (0, [.ref a_p0_paints, .ref a_p0_inches, .int p0_night, .int p0_draw])), (a_p0_paints, .inl (cy 0, 6, .inl p0_paints)), (a_p0_inches, .inl (cy 0, 6, .inl p0_inches))] := hD
  refine lv_aload_n hx hb dX0_takeMoment_38 rfl (lv_at hl 0 rfl) ?_
  refine lv_aload_n hx hb dX0_takeMoment_39 rfl (lv_at hl 1 rfl) ?_
  refine va_get (D := D) (ci := 0) (v := .int p0_draw) (C := RX0) (T := TX0) (N := 4) hx hb hg inG_X0 hown hK hP 3 rfl rfl 3 (by decide) (hg _ q_124) (fun _ h9 => h9) rfl dX0_takeMoment_40 ?_
  refine va_put (D := D) (ci := 0) (v := .int p0_draw) (ty := .int) (C := RX0) (T := TX0) (N := 4) hx hb hg inG_X0 tyX0 tyX0_ok nmX0 hown hK hP hD hS 0 rfl rfl 3 (by decide) (hg _ q_124) (fun _ h9 => h9) rfl (tyX0_ok 3 (by decide)) rfl rfl (Nat.le_of_ble_eq_true rfl) dX0_takeMoment_43 (fun H locs hP hD hS => ?_)
  have hP : va_P D vwCl [(a_t, .inr (0, [.ref a_t_paints, .ref a_t_inches, .int p0_night, .int p0_draw])), (a_t_paints, .inl (cy 0, 6, .inl (va_cpy p0_paints t_paints (0 : Int32).toNatClampNeg (0 : Int32).toNatClampNeg (6 : Int32).toNatClampNeg))), (a_t_inches, .inl (cy 0, 6, .inl (va_cpy p0_inches t_inches (0 : Int32).toNatClampNeg (0 : Int32).toNatClampNeg (6 : Int32).toNatClampNeg))), (a_p0, .inr (0, [.ref a_p0_paints, .ref a_p0_inches, .int p0_night, .int p0_draw])), (a_p0_paints, .inl (cy 0, 6, .inl p0_paints)), (a_p0_inches, .inl (cy 0, 6, .inl p0_inches))] H := hP
  have hD : va_D A [(a_t, .inr (0, [.ref a_t_paints, .ref a_t_inches, .int p0_night, .int p0_draw])), (a_t_paints, .inl (cy 0, 6, .inl (va_cpy p0_paints t_paints (0 : Int32).toNatClampNeg (0 : Int32).toNatClampNeg (6 : Int32).toNatClampNeg))), (a_t_inches, .inl (cy 0, 6, .inl (va_cpy p0_inches t_inches (0 : Int32).toNatClampNeg (0 : Int32).toNatClampNeg (6 : Int32).toNatClampNeg))), (a_p0, .inr (0, [.ref a_p0_paints, .ref a_p0_inches, .int p0_night, .int p0_draw])), (a_p0_paints, .inl (cy 0, 6, .inl p0_paints)), (a_p0_inches, .inl (cy 0, 6, .inl p0_inches))] := hD
  exact hret _ _ _ ls 46 dX0_takeMoment_46 (by rw [← Option.some.inj h]) hP hD hS

def m_X0_takeMoment_X0X3 (t_paints : Nat → Int32) (t_inches : Nat → Int32) (t_night : Int32) (t_draw : Int32) (p0_paints : Nat → Int32) (p0_inches : Nat → Int32) (p0_night : Int32) (p0_draw : Int32) : Option ((Nat → Int32) × (Nat → Int32) × Int32 × Int32) := some (va_cpy p0_paints t_paints (0 : Int32).toNatClampNeg (0 : Int32).toNatClampNeg (6 : Int32).toNatClampNeg, va_cpy p0_inches t_inches (0 : Int32).toNatClampNeg (0 : Int32).toNatClampNeg (6 : Int32).toNatClampNeg, p0_night, p0_draw)
set_option maxHeartbeats 4000000 in
set_option maxRecDepth 100000 in
theorem c_X0_takeMoment_X0X3 (l : Launch) (D : va_G) (cy : Nat → ClassId) (a_t : Nat) (a_t_paints : Nat) (a_t_inches : Nat) (a_p0 : Nat) (a_p0_paints : Nat) (a_p0_inches : Nat) (sz : Nat) (g_p0_kinds : Value) (g_p0_men : Value) (g_p0_source : Value) (g_p0_stride : Value) (g_p0_height : Value) (t_paints : Nat → Int32) (t_inches : Nat → Int32) (t_night : Int32) (t_draw : Int32) (p0_paints : Nat → Int32) (p0_inches : Nat → Int32) (p0_night : Int32) (p0_draw : Int32) (out : (Nat → Int32) × (Nat → Int32) × Int32 × Int32) (h : m_X0_takeMoment_X0X3 t_paints t_inches t_night t_draw p0_paints p0_inches p0_night p0_draw = some out) : MetM l D cy yX0_takeMoment cX0_takeMoment 2 none (rmG 1 26) [.ref a_t, .ref a_p0] sz [(a_t, .inr (0, [.ref a_t_paints, .ref a_t_inches, .int t_night, .int t_draw])), (a_t_paints, .inl (cy 0, 6, .inl t_paints)), (a_t_inches, .inl (cy 0, 6, .inl t_inches)), (a_p0, .inr (3, [.ref a_p0_paints, .ref a_p0_inches, .int p0_night, .int p0_draw, g_p0_kinds, g_p0_men, g_p0_source, g_p0_stride, g_p0_height])), (a_p0_paints, .inl (cy 0, 6, .inl p0_paints)), (a_p0_inches, .inl (cy 0, 6, .inl p0_inches))] none [(a_t, .inr (0, [.ref a_t_paints, .ref a_t_inches, .int out.2.2.1, .int out.2.2.2])), (a_t_paints, .inl (cy 0, 6, .inl out.1)), (a_t_inches, .inl (cy 0, 6, .inl out.2.1)), (a_p0, .inr (3, [.ref a_p0_paints, .ref a_p0_inches, .int p0_night, .int p0_draw, g_p0_kinds, g_p0_men, g_p0_source, g_p0_stride, g_p0_height])), (a_p0_paints, .inl (cy 0, 6, .inl p0_paints)), (a_p0_inches, .inl (cy 0, 6, .inl p0_inches))] := by
  refine startMv (own := RX0) (by decide) rfl (Nat.le_of_ble_eq_true rfl) ?_
  intro p e s m below meth c QQ A hx hb hml hown hg hK hP hD hS hA hret ls hl
  have hl : lv_has ls 2 [(0, .ref a_t), (1, .ref a_p0)] := hl
  unfold m_X0_takeMoment_X0X3 at h
  refine lv_aload_n hx hb dX0_takeMoment_0 rfl (lv_at hl 1 rfl) ?_
  refine va_get (D := D) (ci := 3) (v := .ref a_p0_paints) (C := RX3) (T := TX3) (N := 9) hx hb hg inG_X3 hown hK hP 3 rfl rfl 0 (by decide) (hg _ q_109) (fun _ h9 => h9) rfl dX0_takeMoment_1 ?_
  refine lv_iconst (v := 0) hx hb dX0_takeMoment_4 kI_0 ?_
  refine lv_aload_n hx hb dX0_takeMoment_5 rfl (lv_at hl 0 rfl) ?_
  refine va_get (D := D) (ci := 0) (v := .ref a_t_paints) (C := RX0) (T := TX0) (N := 4) hx hb hg inG_X0 hown hK hP 0 rfl rfl 0 (by decide) (hg _ q_109) (fun _ h9 => h9) rfl dX0_takeMoment_6 ?_
  refine lv_iconst (v := 0) hx hb dX0_takeMoment_9 kI_0 ?_
  refine lv_bipush (v := 6) hx hb dX0_takeMoment_10 kB_6 ?_
  refine va_copyi (sp := 0) (dp := 0) (n := 6) hx hb (hml.trans hl.1.symm) hown (hg _ q_597) (hg _ q_599) (hg _ q_598) (hg _ q_71) hK hP hD hS 4 1 0 0 rfl rfl rfl rfl rfl (by decide) (by decide) (by decide) (by decide) (by decide) (fun _ _ => rfl) (Nat.le_of_ble_eq_true rfl) (Nat.le_of_ble_eq_true rfl) dX0_takeMoment_12 (fun H locs hP hD hS => ?_)
  have hP : va_P D vwCl [(a_t, .inr (0, [.ref a_t_paints, .ref a_t_inches, .int t_night, .int t_draw])), (a_t_paints, .inl (cy 0, 6, .inl (va_cpy p0_paints t_paints (0 : Int32).toNatClampNeg (0 : Int32).toNatClampNeg (6 : Int32).toNatClampNeg))), (a_t_inches, .inl (cy 0, 6, .inl t_inches)), (a_p0, .inr (3, [.ref a_p0_paints, .ref a_p0_inches, .int p0_night, .int p0_draw, g_p0_kinds, g_p0_men, g_p0_source, g_p0_stride, g_p0_height])), (a_p0_paints, .inl (cy 0, 6, .inl p0_paints)), (a_p0_inches, .inl (cy 0, 6, .inl p0_inches))] H := hP
  have hD : va_D A [(a_t, .inr (0, [.ref a_t_paints, .ref a_t_inches, .int t_night, .int t_draw])), (a_t_paints, .inl (cy 0, 6, .inl (va_cpy p0_paints t_paints (0 : Int32).toNatClampNeg (0 : Int32).toNatClampNeg (6 : Int32).toNatClampNeg))), (a_t_inches, .inl (cy 0, 6, .inl t_inches)), (a_p0, .inr (3, [.ref a_p0_paints, .ref a_p0_inches, .int p0_night, .int p0_draw, g_p0_kinds, g_p0_men, g_p0_source, g_p0_stride, g_p0_height])), (a_p0_paints, .inl (cy 0, 6, .inl p0_paints)), (a_p0_inches, .inl (cy 0, 6, .inl p0_inches))] := hD
  refine lv_aload_n hx hb dX0_takeMoment_15 rfl (lv_at hl 1 rfl) ?_
  refine va_get (D := D) (ci := 3) (v := .ref a_p0_inches) (C := RX3) (T := TX3) (N := 9) hx hb hg inG_X3 hown hK hP 3 rfl rfl 1 (by decide) (hg _ q_114) (fun _ h9 => h9) rfl dX0_takeMoment_16 ?_
  refine lv_iconst (v := 0) hx hb dX0_takeMoment_19 kI_0 ?_
  refine lv_aload_n hx hb dX0_takeMoment_20 rfl (lv_at hl 0 rfl) ?_
  refine va_get (D := D) (ci := 0) (v := .ref a_t_inches) (C := RX0) (T := TX0) (N := 4) hx hb hg inG_X0 hown hK hP 0 rfl rfl 1 (by decide) (hg _ q_114) (fun _ h9 => h9) rfl dX0_takeMoment_21 ?_
  refine lv_iconst (v := 0) hx hb dX0_takeMoment_24 kI_0 ?_
  refine lv_bipush (v := 6) hx hb dX0_takeMoment_25 kB_6 ?_
  refine va_copyi (sp := 0) (dp := 0) (n := 6) hx hb (hml.trans hl.1.symm) hown (hg _ q_597) (hg _ q_599) (hg _ q_598) (hg _ q_71) hK hP hD hS 5 2 0 0 rfl rfl rfl rfl rfl (by decide) (by decide) (by decide) (by decide) (by decide) (fun _ _ => rfl) (Nat.le_of_ble_eq_true rfl) (Nat.le_of_ble_eq_true rfl) dX0_takeMoment_27 (fun H locs hP hD hS => ?_)
  have hP : va_P D vwCl [(a_t, .inr (0, [.ref a_t_paints, .ref a_t_inches, .int t_night, .int t_draw])), (a_t_paints, .inl (cy 0, 6, .inl (va_cpy p0_paints t_paints (0 : Int32).toNatClampNeg (0 : Int32).toNatClampNeg (6 : Int32).toNatClampNeg))), (a_t_inches, .inl (cy 0, 6, .inl (va_cpy p0_inches t_inches (0 : Int32).toNatClampNeg (0 : Int32).toNatClampNeg (6 : Int32).toNatClampNeg))), (a_p0, .inr (3, [.ref a_p0_paints, .ref a_p0_inches, .int p0_night, .int p0_draw, g_p0_kinds, g_p0_men, g_p0_source, g_p0_stride, g_p0_height])), (a_p0_paints, .inl (cy 0, 6, .inl p0_paints)), (a_p0_inches, .inl (cy 0, 6, .inl p0_inches))] H := hP
  have hD : va_D A [(a_t, .inr (0, [.ref a_t_paints, .ref a_t_inches, .int t_night, .int t_draw])), (a_t_paints, .inl (cy 0, 6, .inl (va_cpy p0_paints t_paints (0 : Int32).toNatClampNeg (0 : Int32).toNatClampNeg (6 : Int32).toNatClampNeg))), (a_t_inches, .inl (cy 0, 6, .inl (va_cpy p0_inches t_inches (0 : Int32).toNatClampNeg (0 : Int32).toNatClampNeg (6 : Int32).toNatClampNeg))), (a_p0, .inr (3, [.ref a_p0_paints, .ref a_p0_inches, .int p0_night, .int p0_draw, g_p0_kinds, g_p0_men, g_p0_source, g_p0_stride, g_p0_height])), (a_p0_paints, .inl (cy 0, 6, .inl p0_paints)), (a_p0_inches, .inl (cy 0, 6, .inl p0_inches))] := hD
  refine lv_aload_n hx hb dX0_takeMoment_30 rfl (lv_at hl 0 rfl) ?_
  refine lv_aload_n hx hb dX0_takeMoment_31 rfl (lv_at hl 1 rfl) ?_
  refine va_get (D := D) (ci := 3) (v := .int p0_night) (C := RX3) (T := TX3) (N := 9) hx hb hg inG_X3 hown hK hP 3 rfl rfl 2 (by decide) (hg _ q_120) (fun _ h9 => h9) rfl dX0_takeMoment_32 ?_
  refine va_put (D := D) (ci := 0) (v := .int p0_night) (ty := .int) (C := RX0) (T := TX0) (N := 4) hx hb hg inG_X0 tyX0 tyX0_ok nmX0 hown hK hP hD hS 0 rfl rfl 2 (by decide) (hg _ q_120) (fun _ h9 => h9) rfl (tyX0_ok 2 (by decide)) rfl rfl (Nat.le_of_ble_eq_true rfl) dX0_takeMoment_35 (fun H locs hP hD hS => ?_)
  have hP : va_P D vwCl [(a_t, .inr (0, [.ref a_t_paints, .ref a_t_inches, .int p0_night, .int t_draw])), (a_t_paints, .inl (cy 0, 6, .inl (va_cpy p0_paints t_paints (0 : Int32).toNatClampNeg (0 : Int32).toNatClampNeg (6 : Int32).toNatClampNeg))), (a_t_inches, .inl (cy 0, 6, .inl (va_cpy p0_inches t_inches (0 : Int32).toNatClampNeg (0 : Int32).toNatClampNeg (6 : Int32).toNatClampNeg))), (a_p0, .inr (3, [.ref a_p0_paints, .ref a_p0_inches, .int p0_night, .int p0_draw, g_p0_kinds, g_p0_men, g_p0_source, g_p0_stride, g_p0_height])), (a_p0_paints, .inl (cy 0, 6, .inl p0_paints)), (a_p0_inches, .inl (cy 0, 6, .inl p0_inches))] H := hP
  have hD : va_D A [(a_t, .inr (0, [.ref a_t_paints, .ref a_t_inches, .int p0_night, .int t_draw])), (a_t_paints, .inl (cy 0, 6, .inl (va_cpy p0_paints t_paints (0 : Int32).toNatClampNeg (0 : Int32).toNatClampNeg (6 : Int32).toNatClampNeg))), (a_t_inches, .inl (cy 0, 6, .inl (va_cpy p0_inches t_inches (0 : Int32).toNatClampNeg (0 : Int32).toNatClampNeg (6 : Int32).toNatClampNeg))), (a_p0, .inr (3, [.ref a_p0_paints, .ref a_p0_inches, .int p0_night, .int p0_draw, g_p0_kinds, g_p0_men, g_p0_source, g_p0_stride, g_p0_height])), (a_p0_paints, .inl (cy 0, 6, .inl p0_paints)), (a_p0_inches, .inl (cy 0, 6, .inl p0_inches))] := hD
  refine lv_aload_n hx hb dX0_takeMoment_38 rfl (lv_at hl 0 rfl) ?_
  refine lv_aload_n hx hb dX0_takeMoment_39 rfl (lv_at hl 1 rfl) ?_
  refine va_get (D := D) (ci := 3) (v := .int p0_draw) (C := RX3) (T := TX3) (N := 9) hx hb hg inG_X3 hown hK hP 3 rfl rfl 3 (by decide) (hg _ q_124) (fun _ h9 => h9) rfl dX0_takeMoment_40 ?_
  refine va_put (D := D) (ci := 0) (v := .int p0_draw) (ty := .int) (C := RX0) (T := TX0) (N := 4) hx hb hg inG_X0 tyX0 tyX0_ok nmX0 hown hK hP hD hS 0 rfl rfl 3 (by decide) (hg _ q_124) (fun _ h9 => h9) rfl (tyX0_ok 3 (by decide)) rfl rfl (Nat.le_of_ble_eq_true rfl) dX0_takeMoment_43 (fun H locs hP hD hS => ?_)
  have hP : va_P D vwCl [(a_t, .inr (0, [.ref a_t_paints, .ref a_t_inches, .int p0_night, .int p0_draw])), (a_t_paints, .inl (cy 0, 6, .inl (va_cpy p0_paints t_paints (0 : Int32).toNatClampNeg (0 : Int32).toNatClampNeg (6 : Int32).toNatClampNeg))), (a_t_inches, .inl (cy 0, 6, .inl (va_cpy p0_inches t_inches (0 : Int32).toNatClampNeg (0 : Int32).toNatClampNeg (6 : Int32).toNatClampNeg))), (a_p0, .inr (3, [.ref a_p0_paints, .ref a_p0_inches, .int p0_night, .int p0_draw, g_p0_kinds, g_p0_men, g_p0_source, g_p0_stride, g_p0_height])), (a_p0_paints, .inl (cy 0, 6, .inl p0_paints)), (a_p0_inches, .inl (cy 0, 6, .inl p0_inches))] H := hP
  have hD : va_D A [(a_t, .inr (0, [.ref a_t_paints, .ref a_t_inches, .int p0_night, .int p0_draw])), (a_t_paints, .inl (cy 0, 6, .inl (va_cpy p0_paints t_paints (0 : Int32).toNatClampNeg (0 : Int32).toNatClampNeg (6 : Int32).toNatClampNeg))), (a_t_inches, .inl (cy 0, 6, .inl (va_cpy p0_inches t_inches (0 : Int32).toNatClampNeg (0 : Int32).toNatClampNeg (6 : Int32).toNatClampNeg))), (a_p0, .inr (3, [.ref a_p0_paints, .ref a_p0_inches, .int p0_night, .int p0_draw, g_p0_kinds, g_p0_men, g_p0_source, g_p0_stride, g_p0_height])), (a_p0_paints, .inl (cy 0, 6, .inl p0_paints)), (a_p0_inches, .inl (cy 0, 6, .inl p0_inches))] := hD
  exact hret _ _ _ ls 46 dX0_takeMoment_46 (by rw [← Option.some.inj h]) hP hD hS

def m_X0_takeMoment_X3X0 (t_paints : Nat → Int32) (t_inches : Nat → Int32) (t_night : Int32) (t_draw : Int32) (p0_paints : Nat → Int32) (p0_inches : Nat → Int32) (p0_night : Int32) (p0_draw : Int32) : Option ((Nat → Int32) × (Nat → Int32) × Int32 × Int32) := some (va_cpy p0_paints t_paints (0 : Int32).toNatClampNeg (0 : Int32).toNatClampNeg (6 : Int32).toNatClampNeg, va_cpy p0_inches t_inches (0 : Int32).toNatClampNeg (0 : Int32).toNatClampNeg (6 : Int32).toNatClampNeg, p0_night, p0_draw)
set_option maxHeartbeats 4000000 in
set_option maxRecDepth 100000 in
theorem c_X0_takeMoment_X3X0 (l : Launch) (D : va_G) (cy : Nat → ClassId) (a_t : Nat) (a_t_paints : Nat) (a_t_inches : Nat) (a_p0 : Nat) (a_p0_paints : Nat) (a_p0_inches : Nat) (sz : Nat) (g_t_kinds : Value) (g_t_men : Value) (g_t_source : Value) (g_t_stride : Value) (g_t_height : Value) (t_paints : Nat → Int32) (t_inches : Nat → Int32) (t_night : Int32) (t_draw : Int32) (p0_paints : Nat → Int32) (p0_inches : Nat → Int32) (p0_night : Int32) (p0_draw : Int32) (out : (Nat → Int32) × (Nat → Int32) × Int32 × Int32) (h : m_X0_takeMoment_X3X0 t_paints t_inches t_night t_draw p0_paints p0_inches p0_night p0_draw = some out) : MetM l D cy yX0_takeMoment cX0_takeMoment 2 none (rmG 1 26) [.ref a_t, .ref a_p0] sz [(a_t, .inr (3, [.ref a_t_paints, .ref a_t_inches, .int t_night, .int t_draw, g_t_kinds, g_t_men, g_t_source, g_t_stride, g_t_height])), (a_t_paints, .inl (cy 0, 6, .inl t_paints)), (a_t_inches, .inl (cy 0, 6, .inl t_inches)), (a_p0, .inr (0, [.ref a_p0_paints, .ref a_p0_inches, .int p0_night, .int p0_draw])), (a_p0_paints, .inl (cy 0, 6, .inl p0_paints)), (a_p0_inches, .inl (cy 0, 6, .inl p0_inches))] none [(a_t, .inr (3, [.ref a_t_paints, .ref a_t_inches, .int out.2.2.1, .int out.2.2.2, g_t_kinds, g_t_men, g_t_source, g_t_stride, g_t_height])), (a_t_paints, .inl (cy 0, 6, .inl out.1)), (a_t_inches, .inl (cy 0, 6, .inl out.2.1)), (a_p0, .inr (0, [.ref a_p0_paints, .ref a_p0_inches, .int p0_night, .int p0_draw])), (a_p0_paints, .inl (cy 0, 6, .inl p0_paints)), (a_p0_inches, .inl (cy 0, 6, .inl p0_inches))] := by
  refine startMv (own := RX0) (by decide) rfl (Nat.le_of_ble_eq_true rfl) ?_
  intro p e s m below meth c QQ A hx hb hml hown hg hK hP hD hS hA hret ls hl
  have hl : lv_has ls 2 [(0, .ref a_t), (1, .ref a_p0)] := hl
  unfold m_X0_takeMoment_X3X0 at h
  refine lv_aload_n hx hb dX0_takeMoment_0 rfl (lv_at hl 1 rfl) ?_
  refine va_get (D := D) (ci := 0) (v := .ref a_p0_paints) (C := RX0) (T := TX0) (N := 4) hx hb hg inG_X0 hown hK hP 3 rfl rfl 0 (by decide) (hg _ q_109) (fun _ h9 => h9) rfl dX0_takeMoment_1 ?_
  refine lv_iconst (v := 0) hx hb dX0_takeMoment_4 kI_0 ?_
  refine lv_aload_n hx hb dX0_takeMoment_5 rfl (lv_at hl 0 rfl) ?_
  refine va_get (D := D) (ci := 3) (v := .ref a_t_paints) (C := RX3) (T := TX3) (N := 9) hx hb hg inG_X3 hown hK hP 0 rfl rfl 0 (by decide) (hg _ q_109) (fun _ h9 => h9) rfl dX0_takeMoment_6 ?_
  refine lv_iconst (v := 0) hx hb dX0_takeMoment_9 kI_0 ?_
  refine lv_bipush (v := 6) hx hb dX0_takeMoment_10 kB_6 ?_
  refine va_copyi (sp := 0) (dp := 0) (n := 6) hx hb (hml.trans hl.1.symm) hown (hg _ q_597) (hg _ q_599) (hg _ q_598) (hg _ q_71) hK hP hD hS 4 1 0 0 rfl rfl rfl rfl rfl (by decide) (by decide) (by decide) (by decide) (by decide) (fun _ _ => rfl) (Nat.le_of_ble_eq_true rfl) (Nat.le_of_ble_eq_true rfl) dX0_takeMoment_12 (fun H locs hP hD hS => ?_)
  have hP : va_P D vwCl [(a_t, .inr (3, [.ref a_t_paints, .ref a_t_inches, .int t_night, .int t_draw, g_t_kinds, g_t_men, g_t_source, g_t_stride, g_t_height])), (a_t_paints, .inl (cy 0, 6, .inl (va_cpy p0_paints t_paints (0 : Int32).toNatClampNeg (0 : Int32).toNatClampNeg (6 : Int32).toNatClampNeg))), (a_t_inches, .inl (cy 0, 6, .inl t_inches)), (a_p0, .inr (0, [.ref a_p0_paints, .ref a_p0_inches, .int p0_night, .int p0_draw])), (a_p0_paints, .inl (cy 0, 6, .inl p0_paints)), (a_p0_inches, .inl (cy 0, 6, .inl p0_inches))] H := hP
  have hD : va_D A [(a_t, .inr (3, [.ref a_t_paints, .ref a_t_inches, .int t_night, .int t_draw, g_t_kinds, g_t_men, g_t_source, g_t_stride, g_t_height])), (a_t_paints, .inl (cy 0, 6, .inl (va_cpy p0_paints t_paints (0 : Int32).toNatClampNeg (0 : Int32).toNatClampNeg (6 : Int32).toNatClampNeg))), (a_t_inches, .inl (cy 0, 6, .inl t_inches)), (a_p0, .inr (0, [.ref a_p0_paints, .ref a_p0_inches, .int p0_night, .int p0_draw])), (a_p0_paints, .inl (cy 0, 6, .inl p0_paints)), (a_p0_inches, .inl (cy 0, 6, .inl p0_inches))] := hD
  refine lv_aload_n hx hb dX0_takeMoment_15 rfl (lv_at hl 1 rfl) ?_
  refine va_get (D := D) (ci := 0) (v := .ref a_p0_inches) (C := RX0) (T := TX0) (N := 4) hx hb hg inG_X0 hown hK hP 3 rfl rfl 1 (by decide) (hg _ q_114) (fun _ h9 => h9) rfl dX0_takeMoment_16 ?_
  refine lv_iconst (v := 0) hx hb dX0_takeMoment_19 kI_0 ?_
  refine lv_aload_n hx hb dX0_takeMoment_20 rfl (lv_at hl 0 rfl) ?_
  refine va_get (D := D) (ci := 3) (v := .ref a_t_inches) (C := RX3) (T := TX3) (N := 9) hx hb hg inG_X3 hown hK hP 0 rfl rfl 1 (by decide) (hg _ q_114) (fun _ h9 => h9) rfl dX0_takeMoment_21 ?_
  refine lv_iconst (v := 0) hx hb dX0_takeMoment_24 kI_0 ?_
  refine lv_bipush (v := 6) hx hb dX0_takeMoment_25 kB_6 ?_
  refine va_copyi (sp := 0) (dp := 0) (n := 6) hx hb (hml.trans hl.1.symm) hown (hg _ q_597) (hg _ q_599) (hg _ q_598) (hg _ q_71) hK hP hD hS 5 2 0 0 rfl rfl rfl rfl rfl (by decide) (by decide) (by decide) (by decide) (by decide) (fun _ _ => rfl) (Nat.le_of_ble_eq_true rfl) (Nat.le_of_ble_eq_true rfl) dX0_takeMoment_27 (fun H locs hP hD hS => ?_)
  have hP : va_P D vwCl [(a_t, .inr (3, [.ref a_t_paints, .ref a_t_inches, .int t_night, .int t_draw, g_t_kinds, g_t_men, g_t_source, g_t_stride, g_t_height])), (a_t_paints, .inl (cy 0, 6, .inl (va_cpy p0_paints t_paints (0 : Int32).toNatClampNeg (0 : Int32).toNatClampNeg (6 : Int32).toNatClampNeg))), (a_t_inches, .inl (cy 0, 6, .inl (va_cpy p0_inches t_inches (0 : Int32).toNatClampNeg (0 : Int32).toNatClampNeg (6 : Int32).toNatClampNeg))), (a_p0, .inr (0, [.ref a_p0_paints, .ref a_p0_inches, .int p0_night, .int p0_draw])), (a_p0_paints, .inl (cy 0, 6, .inl p0_paints)), (a_p0_inches, .inl (cy 0, 6, .inl p0_inches))] H := hP
  have hD : va_D A [(a_t, .inr (3, [.ref a_t_paints, .ref a_t_inches, .int t_night, .int t_draw, g_t_kinds, g_t_men, g_t_source, g_t_stride, g_t_height])), (a_t_paints, .inl (cy 0, 6, .inl (va_cpy p0_paints t_paints (0 : Int32).toNatClampNeg (0 : Int32).toNatClampNeg (6 : Int32).toNatClampNeg))), (a_t_inches, .inl (cy 0, 6, .inl (va_cpy p0_inches t_inches (0 : Int32).toNatClampNeg (0 : Int32).toNatClampNeg (6 : Int32).toNatClampNeg))), (a_p0, .inr (0, [.ref a_p0_paints, .ref a_p0_inches, .int p0_night, .int p0_draw])), (a_p0_paints, .inl (cy 0, 6, .inl p0_paints)), (a_p0_inches, .inl (cy 0, 6, .inl p0_inches))] := hD
  refine lv_aload_n hx hb dX0_takeMoment_30 rfl (lv_at hl 0 rfl) ?_
  refine lv_aload_n hx hb dX0_takeMoment_31 rfl (lv_at hl 1 rfl) ?_
  refine va_get (D := D) (ci := 0) (v := .int p0_night) (C := RX0) (T := TX0) (N := 4) hx hb hg inG_X0 hown hK hP 3 rfl rfl 2 (by decide) (hg _ q_120) (fun _ h9 => h9) rfl dX0_takeMoment_32 ?_
  refine va_put (D := D) (ci := 3) (v := .int p0_night) (ty := .int) (C := RX3) (T := TX3) (N := 9) hx hb hg inG_X3 tyX3 tyX3_ok nmX3 hown hK hP hD hS 0 rfl rfl 2 (by decide) (hg _ q_120) (fun _ h9 => h9) rfl (tyX3_ok 2 (by decide)) rfl rfl (Nat.le_of_ble_eq_true rfl) dX0_takeMoment_35 (fun H locs hP hD hS => ?_)
  have hP : va_P D vwCl [(a_t, .inr (3, [.ref a_t_paints, .ref a_t_inches, .int p0_night, .int t_draw, g_t_kinds, g_t_men, g_t_source, g_t_stride, g_t_height])), (a_t_paints, .inl (cy 0, 6, .inl (va_cpy p0_paints t_paints (0 : Int32).toNatClampNeg (0 : Int32).toNatClampNeg (6 : Int32).toNatClampNeg))), (a_t_inches, .inl (cy 0, 6, .inl (va_cpy p0_inches t_inches (0 : Int32).toNatClampNeg (0 : Int32).toNatClampNeg (6 : Int32).toNatClampNeg))), (a_p0, .inr (0, [.ref a_p0_paints, .ref a_p0_inches, .int p0_night, .int p0_draw])), (a_p0_paints, .inl (cy 0, 6, .inl p0_paints)), (a_p0_inches, .inl (cy 0, 6, .inl p0_inches))] H := hP
  have hD : va_D A [(a_t, .inr (3, [.ref a_t_paints, .ref a_t_inches, .int p0_night, .int t_draw, g_t_kinds, g_t_men, g_t_source, g_t_stride, g_t_height])), (a_t_paints, .inl (cy 0, 6, .inl (va_cpy p0_paints t_paints (0 : Int32).toNatClampNeg (0 : Int32).toNatClampNeg (6 : Int32).toNatClampNeg))), (a_t_inches, .inl (cy 0, 6, .inl (va_cpy p0_inches t_inches (0 : Int32).toNatClampNeg (0 : Int32).toNatClampNeg (6 : Int32).toNatClampNeg))), (a_p0, .inr (0, [.ref a_p0_paints, .ref a_p0_inches, .int p0_night, .int p0_draw])), (a_p0_paints, .inl (cy 0, 6, .inl p0_paints)), (a_p0_inches, .inl (cy 0, 6, .inl p0_inches))] := hD
  refine lv_aload_n hx hb dX0_takeMoment_38 rfl (lv_at hl 0 rfl) ?_
  refine lv_aload_n hx hb dX0_takeMoment_39 rfl (lv_at hl 1 rfl) ?_
  refine va_get (D := D) (ci := 0) (v := .int p0_draw) (C := RX0) (T := TX0) (N := 4) hx hb hg inG_X0 hown hK hP 3 rfl rfl 3 (by decide) (hg _ q_124) (fun _ h9 => h9) rfl dX0_takeMoment_40 ?_
  refine va_put (D := D) (ci := 3) (v := .int p0_draw) (ty := .int) (C := RX3) (T := TX3) (N := 9) hx hb hg inG_X3 tyX3 tyX3_ok nmX3 hown hK hP hD hS 0 rfl rfl 3 (by decide) (hg _ q_124) (fun _ h9 => h9) rfl (tyX3_ok 3 (by decide)) rfl rfl (Nat.le_of_ble_eq_true rfl) dX0_takeMoment_43 (fun H locs hP hD hS => ?_)
  have hP : va_P D vwCl [(a_t, .inr (3, [.ref a_t_paints, .ref a_t_inches, .int p0_night, .int p0_draw, g_t_kinds, g_t_men, g_t_source, g_t_stride, g_t_height])), (a_t_paints, .inl (cy 0, 6, .inl (va_cpy p0_paints t_paints (0 : Int32).toNatClampNeg (0 : Int32).toNatClampNeg (6 : Int32).toNatClampNeg))), (a_t_inches, .inl (cy 0, 6, .inl (va_cpy p0_inches t_inches (0 : Int32).toNatClampNeg (0 : Int32).toNatClampNeg (6 : Int32).toNatClampNeg))), (a_p0, .inr (0, [.ref a_p0_paints, .ref a_p0_inches, .int p0_night, .int p0_draw])), (a_p0_paints, .inl (cy 0, 6, .inl p0_paints)), (a_p0_inches, .inl (cy 0, 6, .inl p0_inches))] H := hP
  have hD : va_D A [(a_t, .inr (3, [.ref a_t_paints, .ref a_t_inches, .int p0_night, .int p0_draw, g_t_kinds, g_t_men, g_t_source, g_t_stride, g_t_height])), (a_t_paints, .inl (cy 0, 6, .inl (va_cpy p0_paints t_paints (0 : Int32).toNatClampNeg (0 : Int32).toNatClampNeg (6 : Int32).toNatClampNeg))), (a_t_inches, .inl (cy 0, 6, .inl (va_cpy p0_inches t_inches (0 : Int32).toNatClampNeg (0 : Int32).toNatClampNeg (6 : Int32).toNatClampNeg))), (a_p0, .inr (0, [.ref a_p0_paints, .ref a_p0_inches, .int p0_night, .int p0_draw])), (a_p0_paints, .inl (cy 0, 6, .inl p0_paints)), (a_p0_inches, .inl (cy 0, 6, .inl p0_inches))] := hD
  exact hret _ _ _ ls 46 dX0_takeMoment_46 (by rw [← Option.some.inj h]) hP hD hS

def m_X0_takeMoment_X3X3 (t_paints : Nat → Int32) (t_inches : Nat → Int32) (t_night : Int32) (t_draw : Int32) (p0_paints : Nat → Int32) (p0_inches : Nat → Int32) (p0_night : Int32) (p0_draw : Int32) : Option ((Nat → Int32) × (Nat → Int32) × Int32 × Int32) := some (va_cpy p0_paints t_paints (0 : Int32).toNatClampNeg (0 : Int32).toNatClampNeg (6 : Int32).toNatClampNeg, va_cpy p0_inches t_inches (0 : Int32).toNatClampNeg (0 : Int32).toNatClampNeg (6 : Int32).toNatClampNeg, p0_night, p0_draw)
set_option maxHeartbeats 4000000 in
set_option maxRecDepth 100000 in
theorem c_X0_takeMoment_X3X3 (l : Launch) (D : va_G) (cy : Nat → ClassId) (a_t : Nat) (a_t_paints : Nat) (a_t_inches : Nat) (a_p0 : Nat) (a_p0_paints : Nat) (a_p0_inches : Nat) (sz : Nat) (g_t_kinds : Value) (g_t_men : Value) (g_t_source : Value) (g_t_stride : Value) (g_t_height : Value) (g_p0_kinds : Value) (g_p0_men : Value) (g_p0_source : Value) (g_p0_stride : Value) (g_p0_height : Value) (t_paints : Nat → Int32) (t_inches : Nat → Int32) (t_night : Int32) (t_draw : Int32) (p0_paints : Nat → Int32) (p0_inches : Nat → Int32) (p0_night : Int32) (p0_draw : Int32) (out : (Nat → Int32) × (Nat → Int32) × Int32 × Int32) (h : m_X0_takeMoment_X3X3 t_paints t_inches t_night t_draw p0_paints p0_inches p0_night p0_draw = some out) : MetM l D cy yX0_takeMoment cX0_takeMoment 2 none (rmG 1 26) [.ref a_t, .ref a_p0] sz [(a_t, .inr (3, [.ref a_t_paints, .ref a_t_inches, .int t_night, .int t_draw, g_t_kinds, g_t_men, g_t_source, g_t_stride, g_t_height])), (a_t_paints, .inl (cy 0, 6, .inl t_paints)), (a_t_inches, .inl (cy 0, 6, .inl t_inches)), (a_p0, .inr (3, [.ref a_p0_paints, .ref a_p0_inches, .int p0_night, .int p0_draw, g_p0_kinds, g_p0_men, g_p0_source, g_p0_stride, g_p0_height])), (a_p0_paints, .inl (cy 0, 6, .inl p0_paints)), (a_p0_inches, .inl (cy 0, 6, .inl p0_inches))] none [(a_t, .inr (3, [.ref a_t_paints, .ref a_t_inches, .int out.2.2.1, .int out.2.2.2, g_t_kinds, g_t_men, g_t_source, g_t_stride, g_t_height])), (a_t_paints, .inl (cy 0, 6, .inl out.1)), (a_t_inches, .inl (cy 0, 6, .inl out.2.1)), (a_p0, .inr (3, [.ref a_p0_paints, .ref a_p0_inches, .int p0_night, .int p0_draw, g_p0_kinds, g_p0_men, g_p0_source, g_p0_stride, g_p0_height])), (a_p0_paints, .inl (cy 0, 6, .inl p0_paints)), (a_p0_inches, .inl (cy 0, 6, .inl p0_inches))] := by
  refine startMv (own := RX0) (by decide) rfl (Nat.le_of_ble_eq_true rfl) ?_
  intro p e s m below meth c QQ A hx hb hml hown hg hK hP hD hS hA hret ls hl
  have hl : lv_has ls 2 [(0, .ref a_t), (1, .ref a_p0)] := hl
  unfold m_X0_takeMoment_X3X3 at h
  refine lv_aload_n hx hb dX0_takeMoment_0 rfl (lv_at hl 1 rfl) ?_
  refine va_get (D := D) (ci := 3) (v := .ref a_p0_paints) (C := RX3) (T := TX3) (N := 9) hx hb hg inG_X3 hown hK hP 3 rfl rfl 0 (by decide) (hg _ q_109) (fun _ h9 => h9) rfl dX0_takeMoment_1 ?_
  refine lv_iconst (v := 0) hx hb dX0_takeMoment_4 kI_0 ?_
  refine lv_aload_n hx hb dX0_takeMoment_5 rfl (lv_at hl 0 rfl) ?_
  refine va_get (D := D) (ci := 3) (v := .ref a_t_paints) (C := RX3) (T := TX3) (N := 9) hx hb hg inG_X3 hown hK hP 0 rfl rfl 0 (by decide) (hg _ q_109) (fun _ h9 => h9) rfl dX0_takeMoment_6 ?_
  refine lv_iconst (v := 0) hx hb dX0_takeMoment_9 kI_0 ?_
  refine lv_bipush (v := 6) hx hb dX0_takeMoment_10 kB_6 ?_
  refine va_copyi (sp := 0) (dp := 0) (n := 6) hx hb (hml.trans hl.1.symm) hown (hg _ q_597) (hg _ q_599) (hg _ q_598) (hg _ q_71) hK hP hD hS 4 1 0 0 rfl rfl rfl rfl rfl (by decide) (by decide) (by decide) (by decide) (by decide) (fun _ _ => rfl) (Nat.le_of_ble_eq_true rfl) (Nat.le_of_ble_eq_true rfl) dX0_takeMoment_12 (fun H locs hP hD hS => ?_)
  have hP : va_P D vwCl [(a_t, .inr (3, [.ref a_t_paints, .ref a_t_inches, .int t_night, .int t_draw, g_t_kinds, g_t_men, g_t_source, g_t_stride, g_t_height])), (a_t_paints, .inl (cy 0, 6, .inl (va_cpy p0_paints t_paints (0 : Int32).toNatClampNeg (0 : Int32).toNatClampNeg (6 : Int32).toNatClampNeg))), (a_t_inches, .inl (cy 0, 6, .inl t_inches)), (a_p0, .inr (3, [.ref a_p0_paints, .ref a_p0_inches, .int p0_night, .int p0_draw, g_p0_kinds, g_p0_men, g_p0_source, g_p0_stride, g_p0_height])), (a_p0_paints, .inl (cy 0, 6, .inl p0_paints)), (a_p0_inches, .inl (cy 0, 6, .inl p0_inches))] H := hP
  have hD : va_D A [(a_t, .inr (3, [.ref a_t_paints, .ref a_t_inches, .int t_night, .int t_draw, g_t_kinds, g_t_men, g_t_source, g_t_stride, g_t_height])), (a_t_paints, .inl (cy 0, 6, .inl (va_cpy p0_paints t_paints (0 : Int32).toNatClampNeg (0 : Int32).toNatClampNeg (6 : Int32).toNatClampNeg))), (a_t_inches, .inl (cy 0, 6, .inl t_inches)), (a_p0, .inr (3, [.ref a_p0_paints, .ref a_p0_inches, .int p0_night, .int p0_draw, g_p0_kinds, g_p0_men, g_p0_source, g_p0_stride, g_p0_height])), (a_p0_paints, .inl (cy 0, 6, .inl p0_paints)), (a_p0_inches, .inl (cy 0, 6, .inl p0_inches))] := hD
  refine lv_aload_n hx hb dX0_takeMoment_15 rfl (lv_at hl 1 rfl) ?_
  refine va_get (D := D) (ci := 3) (v := .ref a_p0_inches) (C := RX3) (T := TX3) (N := 9) hx hb hg inG_X3 hown hK hP 3 rfl rfl 1 (by decide) (hg _ q_114) (fun _ h9 => h9) rfl dX0_takeMoment_16 ?_
  refine lv_iconst (v := 0) hx hb dX0_takeMoment_19 kI_0 ?_
  refine lv_aload_n hx hb dX0_takeMoment_20 rfl (lv_at hl 0 rfl) ?_
  refine va_get (D := D) (ci := 3) (v := .ref a_t_inches) (C := RX3) (T := TX3) (N := 9) hx hb hg inG_X3 hown hK hP 0 rfl rfl 1 (by decide) (hg _ q_114) (fun _ h9 => h9) rfl dX0_takeMoment_21 ?_
  refine lv_iconst (v := 0) hx hb dX0_takeMoment_24 kI_0 ?_
  refine lv_bipush (v := 6) hx hb dX0_takeMoment_25 kB_6 ?_
  refine va_copyi (sp := 0) (dp := 0) (n := 6) hx hb (hml.trans hl.1.symm) hown (hg _ q_597) (hg _ q_599) (hg _ q_598) (hg _ q_71) hK hP hD hS 5 2 0 0 rfl rfl rfl rfl rfl (by decide) (by decide) (by decide) (by decide) (by decide) (fun _ _ => rfl) (Nat.le_of_ble_eq_true rfl) (Nat.le_of_ble_eq_true rfl) dX0_takeMoment_27 (fun H locs hP hD hS => ?_)
  have hP : va_P D vwCl [(a_t, .inr (3, [.ref a_t_paints, .ref a_t_inches, .int t_night, .int t_draw, g_t_kinds, g_t_men, g_t_source, g_t_stride, g_t_height])), (a_t_paints, .inl (cy 0, 6, .inl (va_cpy p0_paints t_paints (0 : Int32).toNatClampNeg (0 : Int32).toNatClampNeg (6 : Int32).toNatClampNeg))), (a_t_inches, .inl (cy 0, 6, .inl (va_cpy p0_inches t_inches (0 : Int32).toNatClampNeg (0 : Int32).toNatClampNeg (6 : Int32).toNatClampNeg))), (a_p0, .inr (3, [.ref a_p0_paints, .ref a_p0_inches, .int p0_night, .int p0_draw, g_p0_kinds, g_p0_men, g_p0_source, g_p0_stride, g_p0_height])), (a_p0_paints, .inl (cy 0, 6, .inl p0_paints)), (a_p0_inches, .inl (cy 0, 6, .inl p0_inches))] H := hP
  have hD : va_D A [(a_t, .inr (3, [.ref a_t_paints, .ref a_t_inches, .int t_night, .int t_draw, g_t_kinds, g_t_men, g_t_source, g_t_stride, g_t_height])), (a_t_paints, .inl (cy 0, 6, .inl (va_cpy p0_paints t_paints (0 : Int32).toNatClampNeg (0 : Int32).toNatClampNeg (6 : Int32).toNatClampNeg))), (a_t_inches, .inl (cy 0, 6, .inl (va_cpy p0_inches t_inches (0 : Int32).toNatClampNeg (0 : Int32).toNatClampNeg (6 : Int32).toNatClampNeg))), (a_p0, .inr (3, [.ref a_p0_paints, .ref a_p0_inches, .int p0_night, .int p0_draw, g_p0_kinds, g_p0_men, g_p0_source, g_p0_stride, g_p0_height])), (a_p0_paints, .inl (cy 0, 6, .inl p0_paints)), (a_p0_inches, .inl (cy 0, 6, .inl p0_inches))] := hD
  refine lv_aload_n hx hb dX0_takeMoment_30 rfl (lv_at hl 0 rfl) ?_
  refine lv_aload_n hx hb dX0_takeMoment_31 rfl (lv_at hl 1 rfl) ?_
  refine va_get (D := D) (ci := 3) (v := .int p0_night) (C := RX3) (T := TX3) (N := 9) hx hb hg inG_X3 hown hK hP 3 rfl rfl 2 (by decide) (hg _ q_120) (fun _ h9 => h9) rfl dX0_takeMoment_32 ?_
  refine va_put (D := D) (ci := 3) (v := .int p0_night) (ty := .int) (C := RX3) (T := TX3) (N := 9) hx hb hg inG_X3 tyX3 tyX3_ok nmX3 hown hK hP hD hS 0 rfl rfl 2 (by decide) (hg _ q_120) (fun _ h9 => h9) rfl (tyX3_ok 2 (by decide)) rfl rfl (Nat.le_of_ble_eq_true rfl) dX0_takeMoment_35 (fun H locs hP hD hS => ?_)
  have hP : va_P D vwCl [(a_t, .inr (3, [.ref a_t_paints, .ref a_t_inches, .int p0_night, .int t_draw, g_t_kinds, g_t_men, g_t_source, g_t_stride, g_t_height])), (a_t_paints, .inl (cy 0, 6, .inl (va_cpy p0_paints t_paints (0 : Int32).toNatClampNeg (0 : Int32).toNatClampNeg (6 : Int32).toNatClampNeg))), (a_t_inches, .inl (cy 0, 6, .inl (va_cpy p0_inches t_inches (0 : Int32).toNatClampNeg (0 : Int32).toNatClampNeg (6 : Int32).toNatClampNeg))), (a_p0, .inr (3, [.ref a_p0_paints, .ref a_p0_inches, .int p0_night, .int p0_draw, g_p0_kinds, g_p0_men, g_p0_source, g_p0_stride, g_p0_height])), (a_p0_paints, .inl (cy 0, 6, .inl p0_paints)), (a_p0_inches, .inl (cy 0, 6, .inl p0_inches))] H := hP
  have hD : va_D A [(a_t, .inr (3, [.ref a_t_paints, .ref a_t_inches, .int p0_night, .int t_draw, g_t_kinds, g_t_men, g_t_source, g_t_stride, g_t_height])), (a_t_paints, .inl (cy 0, 6, .inl (va_cpy p0_paints t_paints (0 : Int32).toNatClampNeg (0 : Int32).toNatClampNeg (6 : Int32).toNatClampNeg))), (a_t_inches, .inl (cy 0, 6, .inl (va_cpy p0_inches t_inches (0 : Int32).toNatClampNeg (0 : Int32).toNatClampNeg (6 : Int32).toNatClampNeg))), (a_p0, .inr (3, [.ref a_p0_paints, .ref a_p0_inches, .int p0_night, .int p0_draw, g_p0_kinds, g_p0_men, g_p0_source, g_p0_stride, g_p0_height])), (a_p0_paints, .inl (cy 0, 6, .inl p0_paints)), (a_p0_inches, .inl (cy 0, 6, .inl p0_inches))] := hD
  refine lv_aload_n hx hb dX0_takeMoment_38 rfl (lv_at hl 0 rfl) ?_
  refine lv_aload_n hx hb dX0_takeMoment_39 rfl (lv_at hl 1 rfl) ?_
  refine va_get (D := D) (ci := 3) (v := .int p0_draw) (C := RX3) (T := TX3) (N := 9) hx hb hg inG_X3 hown hK hP 3 rfl rfl 3 (by decide) (hg _ q_124) (fun _ h9 => h9) rfl dX0_takeMoment_40 ?_
  refine va_put (D := D) (ci := 3) (v := .int p0_draw) (ty := .int) (C := RX3) (T := TX3) (N := 9) hx hb hg inG_X3 tyX3 tyX3_ok nmX3 hown hK hP hD hS 0 rfl rfl 3 (by decide) (hg _ q_124) (fun _ h9 => h9) rfl (tyX3_ok 3 (by decide)) rfl rfl (Nat.le_of_ble_eq_true rfl) dX0_takeMoment_43 (fun H locs hP hD hS => ?_)
  have hP : va_P D vwCl [(a_t, .inr (3, [.ref a_t_paints, .ref a_t_inches, .int p0_night, .int p0_draw, g_t_kinds, g_t_men, g_t_source, g_t_stride, g_t_height])), (a_t_paints, .inl (cy 0, 6, .inl (va_cpy p0_paints t_paints (0 : Int32).toNatClampNeg (0 : Int32).toNatClampNeg (6 : Int32).toNatClampNeg))), (a_t_inches, .inl (cy 0, 6, .inl (va_cpy p0_inches t_inches (0 : Int32).toNatClampNeg (0 : Int32).toNatClampNeg (6 : Int32).toNatClampNeg))), (a_p0, .inr (3, [.ref a_p0_paints, .ref a_p0_inches, .int p0_night, .int p0_draw, g_p0_kinds, g_p0_men, g_p0_source, g_p0_stride, g_p0_height])), (a_p0_paints, .inl (cy 0, 6, .inl p0_paints)), (a_p0_inches, .inl (cy 0, 6, .inl p0_inches))] H := hP
  have hD : va_D A [(a_t, .inr (3, [.ref a_t_paints, .ref a_t_inches, .int p0_night, .int p0_draw, g_t_kinds, g_t_men, g_t_source, g_t_stride, g_t_height])), (a_t_paints, .inl (cy 0, 6, .inl (va_cpy p0_paints t_paints (0 : Int32).toNatClampNeg (0 : Int32).toNatClampNeg (6 : Int32).toNatClampNeg))), (a_t_inches, .inl (cy 0, 6, .inl (va_cpy p0_inches t_inches (0 : Int32).toNatClampNeg (0 : Int32).toNatClampNeg (6 : Int32).toNatClampNeg))), (a_p0, .inr (3, [.ref a_p0_paints, .ref a_p0_inches, .int p0_night, .int p0_draw, g_p0_kinds, g_p0_men, g_p0_source, g_p0_stride, g_p0_height])), (a_p0_paints, .inl (cy 0, 6, .inl p0_paints)), (a_p0_inches, .inl (cy 0, 6, .inl p0_inches))] := hD
  exact hret _ _ _ ls 46 dX0_takeMoment_46 (by rw [← Option.some.inj h]) hP hD hS

def m_X3_takeAll (t_paints : Nat → Int32) (t_inches : Nat → Int32) (t_night : Int32) (t_draw : Int32) (t_kinds : Nat → Int32) (t_men : Int32) (t_source : Int32) (t_stride : Int32) (t_height : Int32) (p0_paints : Nat → Int32) (p0_inches : Nat → Int32) (p0_night : Int32) (p0_draw : Int32) (p0_kinds : Nat → Int32) (p0_men : Int32) (p0_source : Int32) (p0_stride : Int32) (p0_height : Int32) : Option ((Nat → Int32) × (Nat → Int32) × Int32 × Int32 × (Nat → Int32) × Int32 × Int32 × Int32 × Int32) := (m_X0_takeMoment_X3X3 t_paints t_inches t_night t_draw p0_paints p0_inches p0_night p0_draw).bind (fun v1 => some (v1.1, v1.2.1, v1.2.2.1, v1.2.2.2, va_cpy p0_kinds t_kinds (0 : Int32).toNatClampNeg (0 : Int32).toNatClampNeg (6 : Int32).toNatClampNeg, p0_men, p0_source, p0_stride, p0_height))
set_option maxHeartbeats 4000000 in
set_option maxRecDepth 100000 in
theorem c_X3_takeAll (l : Launch) (D : va_G) (cy : Nat → ClassId) (a_t : Nat) (a_t_paints : Nat) (a_t_inches : Nat) (a_t_kinds : Nat) (a_p0 : Nat) (a_p0_paints : Nat) (a_p0_inches : Nat) (a_p0_kinds : Nat) (sz : Nat) (t_paints : Nat → Int32) (t_inches : Nat → Int32) (t_night : Int32) (t_draw : Int32) (t_kinds : Nat → Int32) (t_men : Int32) (t_source : Int32) (t_stride : Int32) (t_height : Int32) (p0_paints : Nat → Int32) (p0_inches : Nat → Int32) (p0_night : Int32) (p0_draw : Int32) (p0_kinds : Nat → Int32) (p0_men : Int32) (p0_source : Int32) (p0_stride : Int32) (p0_height : Int32) (out : (Nat → Int32) × (Nat → Int32) × Int32 × Int32 × (Nat → Int32) × Int32 × Int32 × Int32 × Int32) (h : m_X3_takeAll t_paints t_inches t_night t_draw t_kinds t_men t_source t_stride t_height p0_paints p0_inches p0_night p0_draw p0_kinds p0_men p0_source p0_stride p0_height = some out) : MetM l D cy yX3_takeAll cX3_takeAll 2 none (rmG 2 47) [.ref a_t, .ref a_p0] sz [(a_t, .inr (3, [.ref a_t_paints, .ref a_t_inches, .int t_night, .int t_draw, .ref a_t_kinds, .int t_men, .int t_source, .int t_stride, .int t_height])), (a_t_paints, .inl (cy 0, 6, .inl t_paints)), (a_t_inches, .inl (cy 0, 6, .inl t_inches)), (a_t_kinds, .inl (cy 0, 6, .inl t_kinds)), (a_p0, .inr (3, [.ref a_p0_paints, .ref a_p0_inches, .int p0_night, .int p0_draw, .ref a_p0_kinds, .int p0_men, .int p0_source, .int p0_stride, .int p0_height])), (a_p0_paints, .inl (cy 0, 6, .inl p0_paints)), (a_p0_inches, .inl (cy 0, 6, .inl p0_inches)), (a_p0_kinds, .inl (cy 0, 6, .inl p0_kinds))] none [(a_t, .inr (3, [.ref a_t_paints, .ref a_t_inches, .int out.2.2.1, .int out.2.2.2.1, .ref a_t_kinds, .int out.2.2.2.2.2.1, .int out.2.2.2.2.2.2.1, .int out.2.2.2.2.2.2.2.1, .int out.2.2.2.2.2.2.2.2])), (a_t_paints, .inl (cy 0, 6, .inl out.1)), (a_t_inches, .inl (cy 0, 6, .inl out.2.1)), (a_t_kinds, .inl (cy 0, 6, .inl out.2.2.2.2.1)), (a_p0, .inr (3, [.ref a_p0_paints, .ref a_p0_inches, .int p0_night, .int p0_draw, .ref a_p0_kinds, .int p0_men, .int p0_source, .int p0_stride, .int p0_height])), (a_p0_paints, .inl (cy 0, 6, .inl p0_paints)), (a_p0_inches, .inl (cy 0, 6, .inl p0_inches)), (a_p0_kinds, .inl (cy 0, 6, .inl p0_kinds))] := by
  refine startMv (own := RX3) (by decide) rfl (Nat.le_of_ble_eq_true rfl) ?_
  intro p e s m below meth c QQ A hx hb hml hown hg hK hP hD hS hA hret ls hl
  have hl : lv_has ls 2 [(0, .ref a_t), (1, .ref a_p0)] := hl
  unfold m_X3_takeAll at h
  refine lv_aload_n hx hb dX3_takeAll_0 rfl (lv_at hl 0 rfl) ?_
  refine lv_aload_n hx hb dX3_takeAll_1 rfl (lv_at hl 1 rfl) ?_
  obtain ⟨v1, hv1, h⟩ := bind_e h
  refine callMU (n := 1) (owner := "BathRim$Moment") (As := [.ref a_p0]) (rest := []) (wr := [(a_t_kinds, .inl (cy 0, 6, .inl t_kinds)), (a_p0_kinds, .inl (cy 0, 6, .inl p0_kinds))]) (w2 := [(a_t, .inr (3, [.ref a_t_paints, .ref a_t_inches, .int v1.2.2.1, .int v1.2.2.2, .ref a_t_kinds, .int t_men, .int t_source, .int t_stride, .int t_height])), (a_t_paints, .inl (cy 0, 6, .inl v1.1)), (a_t_inches, .inl (cy 0, 6, .inl v1.2.1)), (a_t_kinds, .inl (cy 0, 6, .inl t_kinds)), (a_p0, .inr (3, [.ref a_p0_paints, .ref a_p0_inches, .int p0_night, .int p0_draw, .ref a_p0_kinds, .int p0_men, .int p0_source, .int p0_stride, .int p0_height])), (a_p0_paints, .inl (cy 0, 6, .inl p0_paints)), (a_p0_inches, .inl (cy 0, 6, .inl p0_inches)), (a_p0_kinds, .inl (cy 0, 6, .inl p0_kinds))]) hx hb hml hown hg (c_X0_takeMoment_X3X3 l D cy a_t a_t_paints a_t_inches a_p0 a_p0_paints a_p0_inches _ (.ref a_t_kinds) (.int t_men) (.int t_source) (.int t_stride) (.int t_height) (.ref a_p0_kinds) (.int p0_men) (.int p0_source) (.int p0_stride) (.int p0_height) t_paints t_inches t_night t_draw p0_paints p0_inches p0_night p0_draw v1 hv1) q_596 q_591 q_55 q_595 q_592 q_594 rfl (by decide +kernel) ⟨(Nat.le_of_ble_eq_true rfl), (Nat.le_of_ble_eq_true rfl)⟩ hK hP hD hS hA [0, 1, 2, 4, 5, 6] [3, 7] rfl rfl rfl rfl (by decide) [2, 3, 4, 0, 5, 6, 7, 1] rfl rfl 0 3 rfl rfl rfl rfl rfl rfl hl.1 rfl rfl (Nat.le_of_ble_eq_true rfl) dX3_takeAll_2 (fun H locs hP hD hS => ?_)
  refine lv_aload_n hx hb dX3_takeAll_5 rfl (lv_at hl 1 rfl) ?_
  refine va_get (D := D) (ci := 3) (v := .ref a_p0_kinds) (C := RX3) (T := TX3) (N := 9) hx hb hg inG_X3 hown hK hP 4 rfl rfl 4 (by decide) (hg _ q_90) (fun _ h9 => h9) rfl dX3_takeAll_6 ?_
  refine lv_iconst (v := 0) hx hb dX3_takeAll_9 kI_0 ?_
  refine lv_aload_n hx hb dX3_takeAll_10 rfl (lv_at hl 0 rfl) ?_
  refine va_get (D := D) (ci := 3) (v := .ref a_t_kinds) (C := RX3) (T := TX3) (N := 9) hx hb hg inG_X3 hown hK hP 0 rfl rfl 4 (by decide) (hg _ q_90) (fun _ h9 => h9) rfl dX3_takeAll_11 ?_
  refine lv_iconst (v := 0) hx hb dX3_takeAll_14 kI_0 ?_
  refine lv_bipush (v := 6) hx hb dX3_takeAll_15 kB_6 ?_
  refine va_copyi (sp := 0) (dp := 0) (n := 6) hx hb (hml.trans hl.1.symm) hown (hg _ q_600) (hg _ q_599) (hg _ q_598) (hg _ q_71) hK hP hD hS 7 3 0 0 rfl rfl rfl rfl rfl (by decide) (by decide) (by decide) (by decide) (by decide) (fun _ _ => rfl) (Nat.le_of_ble_eq_true rfl) (Nat.le_of_ble_eq_true rfl) dX3_takeAll_17 (fun H locs hP hD hS => ?_)
  have hP : va_P D vwCl [(a_t, .inr (3, [.ref a_t_paints, .ref a_t_inches, .int v1.2.2.1, .int v1.2.2.2, .ref a_t_kinds, .int t_men, .int t_source, .int t_stride, .int t_height])), (a_t_paints, .inl (cy 0, 6, .inl v1.1)), (a_t_inches, .inl (cy 0, 6, .inl v1.2.1)), (a_t_kinds, .inl (cy 0, 6, .inl (va_cpy p0_kinds t_kinds (0 : Int32).toNatClampNeg (0 : Int32).toNatClampNeg (6 : Int32).toNatClampNeg))), (a_p0, .inr (3, [.ref a_p0_paints, .ref a_p0_inches, .int p0_night, .int p0_draw, .ref a_p0_kinds, .int p0_men, .int p0_source, .int p0_stride, .int p0_height])), (a_p0_paints, .inl (cy 0, 6, .inl p0_paints)), (a_p0_inches, .inl (cy 0, 6, .inl p0_inches)), (a_p0_kinds, .inl (cy 0, 6, .inl p0_kinds))] H := hP
  have hD : va_D A [(a_t, .inr (3, [.ref a_t_paints, .ref a_t_inches, .int v1.2.2.1, .int v1.2.2.2, .ref a_t_kinds, .int t_men, .int t_source, .int t_stride, .int t_height])), (a_t_paints, .inl (cy 0, 6, .inl v1.1)), (a_t_inches, .inl (cy 0, 6, .inl v1.2.1)), (a_t_kinds, .inl (cy 0, 6, .inl (va_cpy p0_kinds t_kinds (0 : Int32).toNatClampNeg (0 : Int32).toNatClampNeg (6 : Int32).toNatClampNeg))), (a_p0, .inr (3, [.ref a_p0_paints, .ref a_p0_inches, .int p0_night, .int p0_draw, .ref a_p0_kinds, .int p0_men, .int p0_source, .int p0_stride, .int p0_height])), (a_p0_paints, .inl (cy 0, 6, .inl p0_paints)), (a_p0_inches, .inl (cy 0, 6, .inl p0_inches)), (a_p0_kinds, .inl (cy 0, 6, .inl p0_kinds))] := hD
  refine lv_aload_n hx hb dX3_takeAll_20 rfl (lv_at hl 0 rfl) ?_
  refine lv_aload_n hx hb dX3_takeAll_21 rfl (lv_at hl 1 rfl) ?_
  refine va_get (D := D) (ci := 3) (v := .int p0_men) (C := RX3) (T := TX3) (N := 9) hx hb hg inG_X3 hown hK hP 4 rfl rfl 5 (by decide) (hg _ q_93) (fun _ h9 => h9) rfl dX3_takeAll_22 ?_
  refine va_put (D := D) (ci := 3) (v := .int p0_men) (ty := .int) (C := RX3) (T := TX3) (N := 9) hx hb hg inG_X3 tyX3 tyX3_ok nmX3 hown hK hP hD hS 0 rfl rfl 5 (by decide) (hg _ q_93) (fun _ h9 => h9) rfl (tyX3_ok 5 (by decide)) rfl rfl (Nat.le_of_ble_eq_true rfl) dX3_takeAll_25 (fun H locs hP hD hS => ?_)
  have hP : va_P D vwCl [(a_t, .inr (3, [.ref a_t_paints, .ref a_t_inches, .int v1.2.2.1, .int v1.2.2.2, .ref a_t_kinds, .int p0_men, .int t_source, .int t_stride, .int t_height])), (a_t_paints, .inl (cy 0, 6, .inl v1.1)), (a_t_inches, .inl (cy 0, 6, .inl v1.2.1)), (a_t_kinds, .inl (cy 0, 6, .inl (va_cpy p0_kinds t_kinds (0 : Int32).toNatClampNeg (0 : Int32).toNatClampNeg (6 : Int32).toNatClampNeg))), (a_p0, .inr (3, [.ref a_p0_paints, .ref a_p0_inches, .int p0_night, .int p0_draw, .ref a_p0_kinds, .int p0_men, .int p0_source, .int p0_stride, .int p0_height])), (a_p0_paints, .inl (cy 0, 6, .inl p0_paints)), (a_p0_inches, .inl (cy 0, 6, .inl p0_inches)), (a_p0_kinds, .inl (cy 0, 6, .inl p0_kinds))] H := hP
  have hD : va_D A [(a_t, .inr (3, [.ref a_t_paints, .ref a_t_inches, .int v1.2.2.1, .int v1.2.2.2, .ref a_t_kinds, .int p0_men, .int t_source, .int t_stride, .int t_height])), (a_t_paints, .inl (cy 0, 6, .inl v1.1)), (a_t_inches, .inl (cy 0, 6, .inl v1.2.1)), (a_t_kinds, .inl (cy 0, 6, .inl (va_cpy p0_kinds t_kinds (0 : Int32).toNatClampNeg (0 : Int32).toNatClampNeg (6 : Int32).toNatClampNeg))), (a_p0, .inr (3, [.ref a_p0_paints, .ref a_p0_inches, .int p0_night, .int p0_draw, .ref a_p0_kinds, .int p0_men, .int p0_source, .int p0_stride, .int p0_height])), (a_p0_paints, .inl (cy 0, 6, .inl p0_paints)), (a_p0_inches, .inl (cy 0, 6, .inl p0_inches)), (a_p0_kinds, .inl (cy 0, 6, .inl p0_kinds))] := hD
  refine lv_aload_n hx hb dX3_takeAll_28 rfl (lv_at hl 0 rfl) ?_
  refine lv_aload_n hx hb dX3_takeAll_29 rfl (lv_at hl 1 rfl) ?_
  refine va_get (D := D) (ci := 3) (v := .int p0_source) (C := RX3) (T := TX3) (N := 9) hx hb hg inG_X3 hown hK hP 4 rfl rfl 6 (by decide) (hg _ q_99) (fun _ h9 => h9) rfl dX3_takeAll_30 ?_
  refine va_put (D := D) (ci := 3) (v := .int p0_source) (ty := .int) (C := RX3) (T := TX3) (N := 9) hx hb hg inG_X3 tyX3 tyX3_ok nmX3 hown hK hP hD hS 0 rfl rfl 6 (by decide) (hg _ q_99) (fun _ h9 => h9) rfl (tyX3_ok 6 (by decide)) rfl rfl (Nat.le_of_ble_eq_true rfl) dX3_takeAll_33 (fun H locs hP hD hS => ?_)
  have hP : va_P D vwCl [(a_t, .inr (3, [.ref a_t_paints, .ref a_t_inches, .int v1.2.2.1, .int v1.2.2.2, .ref a_t_kinds, .int p0_men, .int p0_source, .int t_stride, .int t_height])), (a_t_paints, .inl (cy 0, 6, .inl v1.1)), (a_t_inches, .inl (cy 0, 6, .inl v1.2.1)), (a_t_kinds, .inl (cy 0, 6, .inl (va_cpy p0_kinds t_kinds (0 : Int32).toNatClampNeg (0 : Int32).toNatClampNeg (6 : Int32).toNatClampNeg))), (a_p0, .inr (3, [.ref a_p0_paints, .ref a_p0_inches, .int p0_night, .int p0_draw, .ref a_p0_kinds, .int p0_men, .int p0_source, .int p0_stride, .int p0_height])), (a_p0_paints, .inl (cy 0, 6, .inl p0_paints)), (a_p0_inches, .inl (cy 0, 6, .inl p0_inches)), (a_p0_kinds, .inl (cy 0, 6, .inl p0_kinds))] H := hP
  have hD : va_D A [(a_t, .inr (3, [.ref a_t_paints, .ref a_t_inches, .int v1.2.2.1, .int v1.2.2.2, .ref a_t_kinds, .int p0_men, .int p0_source, .int t_stride, .int t_height])), (a_t_paints, .inl (cy 0, 6, .inl v1.1)), (a_t_inches, .inl (cy 0, 6, .inl v1.2.1)), (a_t_kinds, .inl (cy 0, 6, .inl (va_cpy p0_kinds t_kinds (0 : Int32).toNatClampNeg (0 : Int32).toNatClampNeg (6 : Int32).toNatClampNeg))), (a_p0, .inr (3, [.ref a_p0_paints, .ref a_p0_inches, .int p0_night, .int p0_draw, .ref a_p0_kinds, .int p0_men, .int p0_source, .int p0_stride, .int p0_height])), (a_p0_paints, .inl (cy 0, 6, .inl p0_paints)), (a_p0_inches, .inl (cy 0, 6, .inl p0_inches)), (a_p0_kinds, .inl (cy 0, 6, .inl p0_kinds))] := hD
  refine lv_aload_n hx hb dX3_takeAll_36 rfl (lv_at hl 0 rfl) ?_
  refine lv_aload_n hx hb dX3_takeAll_37 rfl (lv_at hl 1 rfl) ?_
  refine va_get (D := D) (ci := 3) (v := .int p0_stride) (C := RX3) (T := TX3) (N := 9) hx hb hg inG_X3 hown hK hP 4 rfl rfl 7 (by decide) (hg _ q_102) (fun _ h9 => h9) rfl dX3_takeAll_38 ?_
  refine va_put (D := D) (ci := 3) (v := .int p0_stride) (ty := .int) (C := RX3) (T := TX3) (N := 9) hx hb hg inG_X3 tyX3 tyX3_ok nmX3 hown hK hP hD hS 0 rfl rfl 7 (by decide) (hg _ q_102) (fun _ h9 => h9) rfl (tyX3_ok 7 (by decide)) rfl rfl (Nat.le_of_ble_eq_true rfl) dX3_takeAll_41 (fun H locs hP hD hS => ?_)
  have hP : va_P D vwCl [(a_t, .inr (3, [.ref a_t_paints, .ref a_t_inches, .int v1.2.2.1, .int v1.2.2.2, .ref a_t_kinds, .int p0_men, .int p0_source, .int p0_stride, .int t_height])), (a_t_paints, .inl (cy 0, 6, .inl v1.1)), (a_t_inches, .inl (cy 0, 6, .inl v1.2.1)), (a_t_kinds, .inl (cy 0, 6, .inl (va_cpy p0_kinds t_kinds (0 : Int32).toNatClampNeg (0 : Int32).toNatClampNeg (6 : Int32).toNatClampNeg))), (a_p0, .inr (3, [.ref a_p0_paints, .ref a_p0_inches, .int p0_night, .int p0_draw, .ref a_p0_kinds, .int p0_men, .int p0_source, .int p0_stride, .int p0_height])), (a_p0_paints, .inl (cy 0, 6, .inl p0_paints)), (a_p0_inches, .inl (cy 0, 6, .inl p0_inches)), (a_p0_kinds, .inl (cy 0, 6, .inl p0_kinds))] H := hP
  have hD : va_D A [(a_t, .inr (3, [.ref a_t_paints, .ref a_t_inches, .int v1.2.2.1, .int v1.2.2.2, .ref a_t_kinds, .int p0_men, .int p0_source, .int p0_stride, .int t_height])), (a_t_paints, .inl (cy 0, 6, .inl v1.1)), (a_t_inches, .inl (cy 0, 6, .inl v1.2.1)), (a_t_kinds, .inl (cy 0, 6, .inl (va_cpy p0_kinds t_kinds (0 : Int32).toNatClampNeg (0 : Int32).toNatClampNeg (6 : Int32).toNatClampNeg))), (a_p0, .inr (3, [.ref a_p0_paints, .ref a_p0_inches, .int p0_night, .int p0_draw, .ref a_p0_kinds, .int p0_men, .int p0_source, .int p0_stride, .int p0_height])), (a_p0_paints, .inl (cy 0, 6, .inl p0_paints)), (a_p0_inches, .inl (cy 0, 6, .inl p0_inches)), (a_p0_kinds, .inl (cy 0, 6, .inl p0_kinds))] := hD
  refine lv_aload_n hx hb dX3_takeAll_44 rfl (lv_at hl 0 rfl) ?_
  refine lv_aload_n hx hb dX3_takeAll_45 rfl (lv_at hl 1 rfl) ?_
  refine va_get (D := D) (ci := 3) (v := .int p0_height) (C := RX3) (T := TX3) (N := 9) hx hb hg inG_X3 hown hK hP 4 rfl rfl 8 (by decide) (hg _ q_105) (fun _ h9 => h9) rfl dX3_takeAll_46 ?_
  refine va_put (D := D) (ci := 3) (v := .int p0_height) (ty := .int) (C := RX3) (T := TX3) (N := 9) hx hb hg inG_X3 tyX3 tyX3_ok nmX3 hown hK hP hD hS 0 rfl rfl 8 (by decide) (hg _ q_105) (fun _ h9 => h9) rfl (tyX3_ok 8 (by decide)) rfl rfl (Nat.le_of_ble_eq_true rfl) dX3_takeAll_49 (fun H locs hP hD hS => ?_)
  have hP : va_P D vwCl [(a_t, .inr (3, [.ref a_t_paints, .ref a_t_inches, .int v1.2.2.1, .int v1.2.2.2, .ref a_t_kinds, .int p0_men, .int p0_source, .int p0_stride, .int p0_height])), (a_t_paints, .inl (cy 0, 6, .inl v1.1)), (a_t_inches, .inl (cy 0, 6, .inl v1.2.1)), (a_t_kinds, .inl (cy 0, 6, .inl (va_cpy p0_kinds t_kinds (0 : Int32).toNatClampNeg (0 : Int32).toNatClampNeg (6 : Int32).toNatClampNeg))), (a_p0, .inr (3, [.ref a_p0_paints, .ref a_p0_inches, .int p0_night, .int p0_draw, .ref a_p0_kinds, .int p0_men, .int p0_source, .int p0_stride, .int p0_height])), (a_p0_paints, .inl (cy 0, 6, .inl p0_paints)), (a_p0_inches, .inl (cy 0, 6, .inl p0_inches)), (a_p0_kinds, .inl (cy 0, 6, .inl p0_kinds))] H := hP
  have hD : va_D A [(a_t, .inr (3, [.ref a_t_paints, .ref a_t_inches, .int v1.2.2.1, .int v1.2.2.2, .ref a_t_kinds, .int p0_men, .int p0_source, .int p0_stride, .int p0_height])), (a_t_paints, .inl (cy 0, 6, .inl v1.1)), (a_t_inches, .inl (cy 0, 6, .inl v1.2.1)), (a_t_kinds, .inl (cy 0, 6, .inl (va_cpy p0_kinds t_kinds (0 : Int32).toNatClampNeg (0 : Int32).toNatClampNeg (6 : Int32).toNatClampNeg))), (a_p0, .inr (3, [.ref a_p0_paints, .ref a_p0_inches, .int p0_night, .int p0_draw, .ref a_p0_kinds, .int p0_men, .int p0_source, .int p0_stride, .int p0_height])), (a_p0_paints, .inl (cy 0, 6, .inl p0_paints)), (a_p0_inches, .inl (cy 0, 6, .inl p0_inches)), (a_p0_kinds, .inl (cy 0, 6, .inl p0_kinds))] := hD
  exact hret _ _ _ ls 52 dX3_takeAll_52 (by rw [← Option.some.inj h]) hP hD hS

def m_X3_isLike_L59s (t_paints : Nat → Int32) (t_inches : Nat → Int32) (t_kinds : Nat → Int32) (t_men : Int32) (p0_paints : Nat → Int32) (p0_inches : Nat → Int32) (p0_kinds : Nat → Int32) (k7 : Option (Int32)) (r9 : Int32 → Option (Int32)) (x6 : Int32) : Option (Int32) := (if t_men ≤ x6 then k7 else chk x6 6 (chk x6 6 ((if (t_kinds x6.toNatClampNeg) = (p0_kinds x6.toNatClampNeg) then chk x6 6 (chk x6 6 ((if (t_paints x6.toNatClampNeg) = (p0_paints x6.toNatClampNeg) then chk x6 6 (chk x6 6 ((if (t_inches x6.toNatClampNeg) = (p0_inches x6.toNatClampNeg) then bnd (x6 + 1) (fun x20 => r9 x20) else some 0))) else some 0))) else some 0))))
def m_X3_isLike_L59 (t_paints : Nat → Int32) (t_inches : Nat → Int32) (t_kinds : Nat → Int32) (t_men : Int32) (p0_paints : Nat → Int32) (p0_inches : Nat → Int32) (p0_kinds : Nat → Int32) (k7 : Option (Int32)) : Nat → Int32 → Option (Int32)
  | 0 => fun _ => none
  | nF + 1 => m_X3_isLike_L59s t_paints t_inches t_kinds t_men p0_paints p0_inches p0_kinds k7 (m_X3_isLike_L59 t_paints t_inches t_kinds t_men p0_paints p0_inches p0_kinds k7 nF)
def m_X3_isLike (F : Nat) (t_paints : Nat → Int32) (t_inches : Nat → Int32) (t_night : Int32) (t_kinds : Nat → Int32) (t_men : Int32) (t_source : Int32) (t_stride : Int32) (t_height : Int32) (p0_paints : Nat → Int32) (p0_inches : Nat → Int32) (p0_night : Int32) (p0_kinds : Nat → Int32) (p0_men : Int32) (p0_source : Int32) (p0_stride : Int32) (p0_height : Int32) : Option (Int32) := (if t_men = p0_men then (if t_night = p0_night then (if t_source = p0_source then (if t_stride = p0_stride then (if t_height = p0_height then m_X3_isLike_L59 t_paints t_inches t_kinds t_men p0_paints p0_inches p0_kinds (some 1) F 0 else some 0) else some 0) else some 0) else some 0) else some 0)
set_option maxHeartbeats 4000000 in
set_option maxRecDepth 100000 in
theorem c_X3_isLike (l : Launch) (D : va_G) (cy : Nat → ClassId) (a_t : Nat) (a_t_paints : Nat) (a_t_inches : Nat) (a_t_kinds : Nat) (a_p0 : Nat) (a_p0_paints : Nat) (a_p0_inches : Nat) (a_p0_kinds : Nat) (g_t_draw : Value) (g_p0_draw : Value) (t_paints : Nat → Int32) (t_inches : Nat → Int32) (t_night : Int32) (t_kinds : Nat → Int32) (t_men : Int32) (t_source : Int32) (t_stride : Int32) (t_height : Int32) (p0_paints : Nat → Int32) (p0_inches : Nat → Int32) (p0_night : Int32) (p0_kinds : Nat → Int32) (p0_men : Int32) (p0_source : Int32) (p0_stride : Int32) (p0_height : Int32) (F : Nat) (out : Int32) (h : m_X3_isLike F t_paints t_inches t_night t_kinds t_men t_source t_stride t_height p0_paints p0_inches p0_night p0_kinds p0_men p0_source p0_stride p0_height = some out) : MetR l D cy yX3_isLike cX3_isLike 3 (some .boolean) (rmG 0 0) [.ref a_t, .ref a_p0] [(a_t, .inr (3, [.ref a_t_paints, .ref a_t_inches, .int t_night, g_t_draw, .ref a_t_kinds, .int t_men, .int t_source, .int t_stride, .int t_height])), (a_t_paints, .inl (cy 0, 6, .inl t_paints)), (a_t_inches, .inl (cy 0, 6, .inl t_inches)), (a_t_kinds, .inl (cy 0, 6, .inl t_kinds)), (a_p0, .inr (3, [.ref a_p0_paints, .ref a_p0_inches, .int p0_night, g_p0_draw, .ref a_p0_kinds, .int p0_men, .int p0_source, .int p0_stride, .int p0_height])), (a_p0_paints, .inl (cy 0, 6, .inl p0_paints)), (a_p0_inches, .inl (cy 0, 6, .inl p0_inches)), (a_p0_kinds, .inl (cy 0, 6, .inl p0_kinds))] (some (.int out)) := by
  refine startR (own := RX3) (by decide) rfl (Nat.le_of_ble_eq_true rfl) ?_
  intro p e s m below meth c QQ hx hb hml hown hg hK hP hret ls hl
  have hl : lv_has ls 3 [(0, .ref a_t), (1, .ref a_p0)] := hl
  unfold m_X3_isLike at h
  refine lv_aload_n hx hb dX3_isLike_0 rfl (lv_at hl 0 rfl) ?_
  refine va_get (D := D) (ci := 3) (v := .int t_men) (C := RX3) (T := TX3) (N := 9) hx hb hg inG_X3 hown hK hP 0 rfl rfl 5 (by decide) (hg _ q_93) (fun _ h9 => h9) rfl dX3_isLike_1 ?_
  refine lv_aload_n hx hb dX3_isLike_4 rfl (lv_at hl 1 rfl) ?_
  refine va_get (D := D) (ci := 3) (v := .int p0_men) (C := RX3) (T := TX3) (N := 9) hx hb hg inG_X3 hown hK hP 4 rfl rfl 5 (by decide) (hg _ q_93) (fun _ h9 => h9) rfl dX3_isLike_5 ?_
  refine lv_icmp_ne (tgt := 55) hx hb dX3_isLike_8 (by decide) (fun c1 => ?_) (fun c1 => ?_)
  · have h := it_f c1 h
    refine lv_iconst (v := 0) hx hb dX3_isLike_55 kI_0 ?_
    exact hret _ ls 56 dX3_isLike_56 (nar_z (Or.inl rfl)) (congrArg (fun z => some (Value.int z)) (Option.some.inj h))
  · have h := it_t c1 h
    refine lv_aload_n hx hb dX3_isLike_11 rfl (lv_at hl 0 rfl) ?_
    refine va_get (D := D) (ci := 3) (v := .int t_night) (C := RX3) (T := TX3) (N := 9) hx hb hg inG_X3 hown hK hP 0 rfl rfl 2 (by decide) (hg _ q_121) (fun x9 h9 => u_same (hg _ q_122) x9 h9) rfl dX3_isLike_12 ?_
    refine lv_aload_n hx hb dX3_isLike_15 rfl (lv_at hl 1 rfl) ?_
    refine va_get (D := D) (ci := 3) (v := .int p0_night) (C := RX3) (T := TX3) (N := 9) hx hb hg inG_X3 hown hK hP 4 rfl rfl 2 (by decide) (hg _ q_121) (fun x9 h9 => u_same (hg _ q_122) x9 h9) rfl dX3_isLike_16 ?_
    refine lv_icmp_ne (tgt := 55) hx hb dX3_isLike_19 (by decide) (fun c2 => ?_) (fun c2 => ?_)
    · have h := it_f c2 h
      refine lv_iconst (v := 0) hx hb dX3_isLike_55 kI_0 ?_
      exact hret _ ls 56 dX3_isLike_56 (nar_z (Or.inl rfl)) (congrArg (fun z => some (Value.int z)) (Option.some.inj h))
    · have h := it_t c2 h
      refine lv_aload_n hx hb dX3_isLike_22 rfl (lv_at hl 0 rfl) ?_
      refine va_get (D := D) (ci := 3) (v := .int t_source) (C := RX3) (T := TX3) (N := 9) hx hb hg inG_X3 hown hK hP 0 rfl rfl 6 (by decide) (hg _ q_99) (fun _ h9 => h9) rfl dX3_isLike_23 ?_
      refine lv_aload_n hx hb dX3_isLike_26 rfl (lv_at hl 1 rfl) ?_
      refine va_get (D := D) (ci := 3) (v := .int p0_source) (C := RX3) (T := TX3) (N := 9) hx hb hg inG_X3 hown hK hP 4 rfl rfl 6 (by decide) (hg _ q_99) (fun _ h9 => h9) rfl dX3_isLike_27 ?_
      refine lv_icmp_ne (tgt := 55) hx hb dX3_isLike_30 (by decide) (fun c3 => ?_) (fun c3 => ?_)
      · have h := it_f c3 h
        refine lv_iconst (v := 0) hx hb dX3_isLike_55 kI_0 ?_
        exact hret _ ls 56 dX3_isLike_56 (nar_z (Or.inl rfl)) (congrArg (fun z => some (Value.int z)) (Option.some.inj h))
      · have h := it_t c3 h
        refine lv_aload_n hx hb dX3_isLike_33 rfl (lv_at hl 0 rfl) ?_
        refine va_get (D := D) (ci := 3) (v := .int t_stride) (C := RX3) (T := TX3) (N := 9) hx hb hg inG_X3 hown hK hP 0 rfl rfl 7 (by decide) (hg _ q_102) (fun _ h9 => h9) rfl dX3_isLike_34 ?_
        refine lv_aload_n hx hb dX3_isLike_37 rfl (lv_at hl 1 rfl) ?_
        refine va_get (D := D) (ci := 3) (v := .int p0_stride) (C := RX3) (T := TX3) (N := 9) hx hb hg inG_X3 hown hK hP 4 rfl rfl 7 (by decide) (hg _ q_102) (fun _ h9 => h9) rfl dX3_isLike_38 ?_
        refine lv_icmp_ne (tgt := 55) hx hb dX3_isLike_41 (by decide) (fun c4 => ?_) (fun c4 => ?_)
        · have h := it_f c4 h
          refine lv_iconst (v := 0) hx hb dX3_isLike_55 kI_0 ?_
          exact hret _ ls 56 dX3_isLike_56 (nar_z (Or.inl rfl)) (congrArg (fun z => some (Value.int z)) (Option.some.inj h))
        · have h := it_t c4 h
          refine lv_aload_n hx hb dX3_isLike_44 rfl (lv_at hl 0 rfl) ?_
          refine va_get (D := D) (ci := 3) (v := .int t_height) (C := RX3) (T := TX3) (N := 9) hx hb hg inG_X3 hown hK hP 0 rfl rfl 8 (by decide) (hg _ q_105) (fun _ h9 => h9) rfl dX3_isLike_45 ?_
          refine lv_aload_n hx hb dX3_isLike_48 rfl (lv_at hl 1 rfl) ?_
          refine va_get (D := D) (ci := 3) (v := .int p0_height) (C := RX3) (T := TX3) (N := 9) hx hb hg inG_X3 hown hK hP 4 rfl rfl 8 (by decide) (hg _ q_105) (fun _ h9 => h9) rfl dX3_isLike_49 ?_
          refine lv_icmp_eq (tgt := 57) hx hb dX3_isLike_52 (by decide) (fun c5 => ?_) (fun c5 => ?_)
          · have h := it_t c5 h
            refine lv_iconst (v := 0) hx hb dX3_isLike_57 kI_0 ?_
            refine lv_istore_n (lv' := [(2, .int 0), (0, .ref a_t), (1, .ref a_p0)]) hx hb dX3_isLike_58 rfl hl (by decide) rfl (fun ls hl => ?_)
            obtain ⟨k7, hk7, h⟩ := kap (fun z => m_X3_isLike_L59 t_paints t_inches t_kinds t_men p0_paints p0_inches p0_kinds z F 0) h
            have J7 : ∀ (ls : Array Slot), lv_has ls 3 [] → k7 = some out → W p l e (rmG 0 0) s m [.ref a_t, .ref a_p0].toArray below meth c s.heap [] 0 0 QQ (F0 m 120 ls []) := by
              intro ls hl h
              rw [hk7] at h
              refine lv_iconst (v := 1) hx hb dX3_isLike_120 kI_1 ?_
              exact hret _ ls 121 dX3_isLike_121 (nar_z (Or.inr rfl)) (congrArg (fun z => some (Value.int z)) (Option.some.inj h))
            have L8 : ∀ (n8 : Nat) (x6 : Int32) (ls : Array Slot), lv_has ls 3 [(2, .int x6), (0, .ref a_t), (1, .ref a_p0)] → m_X3_isLike_L59 t_paints t_inches t_kinds t_men p0_paints p0_inches p0_kinds k7 n8 x6 = some out → W p l e (rmG 0 0) s m [.ref a_t, .ref a_p0].toArray below meth c s.heap [] 0 0 QQ (F0 m 59 ls []) := by
              intro n8
              induction n8 with
              | zero => intro x6 ls hl h; exact nomatch (show (none : Option (Int32)) = some out from h)
              | succ n8 ih =>
                  intro x6 ls hl h
                  have h : m_X3_isLike_L59s t_paints t_inches t_kinds t_men p0_paints p0_inches p0_kinds k7 (m_X3_isLike_L59 t_paints t_inches t_kinds t_men p0_paints p0_inches p0_kinds k7 n8) x6 = some out := h
                  unfold m_X3_isLike_L59s at h
                  refine lv_iload_n hx hb dX3_isLike_59 rfl (lv_at hl 0 rfl) ?_
                  refine lv_aload_n hx hb dX3_isLike_60 rfl (lv_at hl 1 rfl) ?_
                  refine va_get (D := D) (ci := 3) (v := .int t_men) (C := RX3) (T := TX3) (N := 9) hx hb hg inG_X3 hown hK hP 0 rfl rfl 5 (by decide) (hg _ q_93) (fun _ h9 => h9) rfl dX3_isLike_61 ?_
                  refine lv_icmp_ge (tgt := 120) hx hb dX3_isLike_64 (by decide) (fun c10 => ?_) (fun c10 => ?_)
                  · have h := it_t c10 h
                    exact J7  _ (lv_sub hl [] rfl) h
                  · have h := it_f c10 h
                    refine lv_aload_n hx hb dX3_isLike_67 rfl (lv_at hl 1 rfl) ?_
                    refine va_get (D := D) (ci := 3) (v := .ref a_t_kinds) (C := RX3) (T := TX3) (N := 9) hx hb hg inG_X3 hown hK hP 0 rfl rfl 4 (by decide) (hg _ q_90) (fun _ h9 => h9) rfl dX3_isLike_68 ?_
                    refine lv_iload_n hx hb dX3_isLike_71 rfl (lv_at hl 0 rfl) ?_
                    obtain ⟨hi11, h⟩ := chk_e h
                    refine va_iald hx hb hK hP 3 0 rfl rfl hi11 dX3_isLike_72 ?_
                    refine lv_aload_n hx hb dX3_isLike_73 rfl (lv_at hl 2 rfl) ?_
                    refine va_get (D := D) (ci := 3) (v := .ref a_p0_kinds) (C := RX3) (T := TX3) (N := 9) hx hb hg inG_X3 hown hK hP 4 rfl rfl 4 (by decide) (hg _ q_90) (fun _ h9 => h9) rfl dX3_isLike_74 ?_
                    refine lv_iload_n hx hb dX3_isLike_77 rfl (lv_at hl 0 rfl) ?_
                    obtain ⟨hi12, h⟩ := chk_e h
                    refine va_iald hx hb hK hP 7 0 rfl rfl hi12 dX3_isLike_78 ?_
                    refine lv_icmp_ne (tgt := 112) hx hb dX3_isLike_79 (by decide) (fun c13 => ?_) (fun c13 => ?_)
                    · have h := it_f c13 h
                      refine lv_iconst (v := 0) hx hb dX3_isLike_112 kI_0 ?_
                      exact hret _ ls 113 dX3_isLike_113 (nar_z (Or.inl rfl)) (congrArg (fun z => some (Value.int z)) (Option.some.inj h))
                    · have h := it_t c13 h
                      refine lv_aload_n hx hb dX3_isLike_82 rfl (lv_at hl 1 rfl) ?_
                      refine va_get (D := D) (ci := 3) (v := .ref a_t_paints) (C := RX3) (T := TX3) (N := 9) hx hb hg inG_X3 hown hK hP 0 rfl rfl 0 (by decide) (hg _ q_110) (fun x9 h9 => u_same (hg _ q_111) x9 h9) rfl dX3_isLike_83 ?_
                      refine lv_iload_n hx hb dX3_isLike_86 rfl (lv_at hl 0 rfl) ?_
                      obtain ⟨hi14, h⟩ := chk_e h
                      refine va_iald hx hb hK hP 1 0 rfl rfl hi14 dX3_isLike_87 ?_
                      refine lv_aload_n hx hb dX3_isLike_88 rfl (lv_at hl 2 rfl) ?_
                      refine va_get (D := D) (ci := 3) (v := .ref a_p0_paints) (C := RX3) (T := TX3) (N := 9) hx hb hg inG_X3 hown hK hP 4 rfl rfl 0 (by decide) (hg _ q_110) (fun x9 h9 => u_same (hg _ q_111) x9 h9) rfl dX3_isLike_89 ?_
                      refine lv_iload_n hx hb dX3_isLike_92 rfl (lv_at hl 0 rfl) ?_
                      obtain ⟨hi15, h⟩ := chk_e h
                      refine va_iald hx hb hK hP 5 0 rfl rfl hi15 dX3_isLike_93 ?_
                      refine lv_icmp_ne (tgt := 112) hx hb dX3_isLike_94 (by decide) (fun c16 => ?_) (fun c16 => ?_)
                      · have h := it_f c16 h
                        refine lv_iconst (v := 0) hx hb dX3_isLike_112 kI_0 ?_
                        exact hret _ ls 113 dX3_isLike_113 (nar_z (Or.inl rfl)) (congrArg (fun z => some (Value.int z)) (Option.some.inj h))
                      · have h := it_t c16 h
                        refine lv_aload_n hx hb dX3_isLike_97 rfl (lv_at hl 1 rfl) ?_
                        refine va_get (D := D) (ci := 3) (v := .ref a_t_inches) (C := RX3) (T := TX3) (N := 9) hx hb hg inG_X3 hown hK hP 0 rfl rfl 1 (by decide) (hg _ q_117) (fun x9 h9 => u_same (hg _ q_116) x9 h9) rfl dX3_isLike_98 ?_
                        refine lv_iload_n hx hb dX3_isLike_101 rfl (lv_at hl 0 rfl) ?_
                        obtain ⟨hi17, h⟩ := chk_e h
                        refine va_iald hx hb hK hP 2 0 rfl rfl hi17 dX3_isLike_102 ?_
                        refine lv_aload_n hx hb dX3_isLike_103 rfl (lv_at hl 2 rfl) ?_
                        refine va_get (D := D) (ci := 3) (v := .ref a_p0_inches) (C := RX3) (T := TX3) (N := 9) hx hb hg inG_X3 hown hK hP 4 rfl rfl 1 (by decide) (hg _ q_117) (fun x9 h9 => u_same (hg _ q_116) x9 h9) rfl dX3_isLike_104 ?_
                        refine lv_iload_n hx hb dX3_isLike_107 rfl (lv_at hl 0 rfl) ?_
                        obtain ⟨hi18, h⟩ := chk_e h
                        refine va_iald hx hb hK hP 6 0 rfl rfl hi18 dX3_isLike_108 ?_
                        refine lv_icmp_eq (tgt := 114) hx hb dX3_isLike_109 (by decide) (fun c19 => ?_) (fun c19 => ?_)
                        · have h := it_t c19 h
                          obtain ⟨x20, ex20⟩ : ∃ y : Int32, y = x6 + 1 := ⟨_, rfl⟩
                          have h := bnd_e ex20 h
                          refine lv_iinc (v := x20) (lv' := [(2, .int x20), (0, .ref a_t), (1, .ref a_p0)]) hx hb dX3_isLike_114 hl (k := 0) rfl (inc_e kI_1 ex20) (by decide) rfl (fun ls hl => ?_)
                          refine lv_goto (tgt := 59) hx hb dX3_isLike_117 (by decide) ?_
                          exact ih x20 _ (lv_sub hl [0, 1, 2] rfl) h
                        · have h := it_f c19 h
                          refine lv_iconst (v := 0) hx hb dX3_isLike_112 kI_0 ?_
                          exact hret _ ls 113 dX3_isLike_113 (nar_z (Or.inl rfl)) (congrArg (fun z => some (Value.int z)) (Option.some.inj h))
            exact L8 F 0 _ (lv_sub hl [0, 1, 2] rfl) h
          · have h := it_f c5 h
            refine lv_iconst (v := 0) hx hb dX3_isLike_55 kI_0 ?_
            exact hret _ ls 56 dX3_isLike_56 (nar_z (Or.inl rfl)) (congrArg (fun z => some (Value.int z)) (Option.some.inj h))

def m_X3_enlist (t_paints : Nat → Int32) (t_inches : Nat → Int32) (t_kinds : Nat → Int32) (t_men : Int32) (p0 : Int32) (p1 : Int32) (p2 : Int32) : Option ((Nat → Int32) × (Nat → Int32) × (Nat → Int32) × Int32) := chk t_men 6 (chk t_men 6 (chk t_men 6 (some (upd t_paints t_men.toNatClampNeg p1, upd t_inches t_men.toNatClampNeg p2, upd t_kinds t_men.toNatClampNeg p0, t_men + 1))))
set_option maxHeartbeats 4000000 in
set_option maxRecDepth 100000 in
theorem c_X3_enlist (l : Launch) (D : va_G) (cy : Nat → ClassId) (a_t : Nat) (a_t_paints : Nat) (a_t_inches : Nat) (a_t_kinds : Nat) (sz : Nat) (g_t_night : Value) (g_t_draw : Value) (g_t_source : Value) (g_t_stride : Value) (g_t_height : Value) (t_paints : Nat → Int32) (t_inches : Nat → Int32) (t_kinds : Nat → Int32) (t_men : Int32) (p0 : Int32) (p1 : Int32) (p2 : Int32) (out : (Nat → Int32) × (Nat → Int32) × (Nat → Int32) × Int32) (h : m_X3_enlist t_paints t_inches t_kinds t_men p0 p1 p2 = some out) : MetM l D cy yX3_enlist cX3_enlist 4 none (rmG 0 0) [.ref a_t, .int p0, .int p1, .int p2] sz [(a_t, .inr (3, [.ref a_t_paints, .ref a_t_inches, g_t_night, g_t_draw, .ref a_t_kinds, .int t_men, g_t_source, g_t_stride, g_t_height])), (a_t_paints, .inl (cy 0, 6, .inl t_paints)), (a_t_inches, .inl (cy 0, 6, .inl t_inches)), (a_t_kinds, .inl (cy 0, 6, .inl t_kinds))] none [(a_t, .inr (3, [.ref a_t_paints, .ref a_t_inches, g_t_night, g_t_draw, .ref a_t_kinds, .int out.2.2.2, g_t_source, g_t_stride, g_t_height])), (a_t_paints, .inl (cy 0, 6, .inl out.1)), (a_t_inches, .inl (cy 0, 6, .inl out.2.1)), (a_t_kinds, .inl (cy 0, 6, .inl out.2.2.1))] := by
  refine startMv (own := RX3) (by decide) rfl (Nat.le_of_ble_eq_true rfl) ?_
  intro p e s m below meth c QQ A hx hb hml hown hg hK hP hD hS hA hret ls hl
  have hl : lv_has ls 4 [(0, .ref a_t), (1, .int p0), (2, .int p1), (3, .int p2)] := hl
  unfold m_X3_enlist at h
  refine lv_aload_n hx hb dX3_enlist_0 rfl (lv_at hl 0 rfl) ?_
  refine va_get (D := D) (ci := 3) (v := .ref a_t_kinds) (C := RX3) (T := TX3) (N := 9) hx hb hg inG_X3 hown hK hP 0 rfl rfl 4 (by decide) (hg _ q_90) (fun _ h9 => h9) rfl dX3_enlist_1 ?_
  refine lv_aload_n hx hb dX3_enlist_4 rfl (lv_at hl 0 rfl) ?_
  refine va_get (D := D) (ci := 3) (v := .int t_men) (C := RX3) (T := TX3) (N := 9) hx hb hg inG_X3 hown hK hP 0 rfl rfl 5 (by decide) (hg _ q_93) (fun _ h9 => h9) rfl dX3_enlist_5 ?_
  refine lv_iload_n hx hb dX3_enlist_8 rfl (lv_at hl 1 rfl) ?_
  obtain ⟨hi1, h⟩ := chk_e h
  refine va_iast hx hb hK hP hD hS 3 0 rfl rfl hi1 dX3_enlist_9 (fun H locs hP hD hS => ?_)
  have hP : va_P D vwCl [(a_t, .inr (3, [.ref a_t_paints, .ref a_t_inches, g_t_night, g_t_draw, .ref a_t_kinds, .int t_men, g_t_source, g_t_stride, g_t_height])), (a_t_paints, .inl (cy 0, 6, .inl t_paints)), (a_t_inches, .inl (cy 0, 6, .inl t_inches)), (a_t_kinds, .inl (cy 0, 6, .inl (upd t_kinds t_men.toNatClampNeg p0)))] H := hP
  have hD : va_D A [(a_t, .inr (3, [.ref a_t_paints, .ref a_t_inches, g_t_night, g_t_draw, .ref a_t_kinds, .int t_men, g_t_source, g_t_stride, g_t_height])), (a_t_paints, .inl (cy 0, 6, .inl t_paints)), (a_t_inches, .inl (cy 0, 6, .inl t_inches)), (a_t_kinds, .inl (cy 0, 6, .inl (upd t_kinds t_men.toNatClampNeg p0)))] := hD
  refine lv_aload_n hx hb dX3_enlist_10 rfl (lv_at hl 0 rfl) ?_
  refine va_get (D := D) (ci := 3) (v := .ref a_t_paints) (C := RX3) (T := TX3) (N := 9) hx hb hg inG_X3 hown hK hP 0 rfl rfl 0 (by decide) (hg _ q_110) (fun x9 h9 => u_same (hg _ q_111) x9 h9) rfl dX3_enlist_11 ?_
  refine lv_aload_n hx hb dX3_enlist_14 rfl (lv_at hl 0 rfl) ?_
  refine va_get (D := D) (ci := 3) (v := .int t_men) (C := RX3) (T := TX3) (N := 9) hx hb hg inG_X3 hown hK hP 0 rfl rfl 5 (by decide) (hg _ q_93) (fun _ h9 => h9) rfl dX3_enlist_15 ?_
  refine lv_iload_n hx hb dX3_enlist_18 rfl (lv_at hl 2 rfl) ?_
  obtain ⟨hi2, h⟩ := chk_e h
  refine va_iast hx hb hK hP hD hS 1 0 rfl rfl hi2 dX3_enlist_19 (fun H locs hP hD hS => ?_)
  have hP : va_P D vwCl [(a_t, .inr (3, [.ref a_t_paints, .ref a_t_inches, g_t_night, g_t_draw, .ref a_t_kinds, .int t_men, g_t_source, g_t_stride, g_t_height])), (a_t_paints, .inl (cy 0, 6, .inl (upd t_paints t_men.toNatClampNeg p1))), (a_t_inches, .inl (cy 0, 6, .inl t_inches)), (a_t_kinds, .inl (cy 0, 6, .inl (upd t_kinds t_men.toNatClampNeg p0)))] H := hP
  have hD : va_D A [(a_t, .inr (3, [.ref a_t_paints, .ref a_t_inches, g_t_night, g_t_draw, .ref a_t_kinds, .int t_men, g_t_source, g_t_stride, g_t_height])), (a_t_paints, .inl (cy 0, 6, .inl (upd t_paints t_men.toNatClampNeg p1))), (a_t_inches, .inl (cy 0, 6, .inl t_inches)), (a_t_kinds, .inl (cy 0, 6, .inl (upd t_kinds t_men.toNatClampNeg p0)))] := hD
  refine lv_aload_n hx hb dX3_enlist_20 rfl (lv_at hl 0 rfl) ?_
  refine va_get (D := D) (ci := 3) (v := .ref a_t_inches) (C := RX3) (T := TX3) (N := 9) hx hb hg inG_X3 hown hK hP 0 rfl rfl 1 (by decide) (hg _ q_117) (fun x9 h9 => u_same (hg _ q_116) x9 h9) rfl dX3_enlist_21 ?_
  refine lv_aload_n hx hb dX3_enlist_24 rfl (lv_at hl 0 rfl) ?_
  refine va_get (D := D) (ci := 3) (v := .int t_men) (C := RX3) (T := TX3) (N := 9) hx hb hg inG_X3 hown hK hP 0 rfl rfl 5 (by decide) (hg _ q_93) (fun _ h9 => h9) rfl dX3_enlist_25 ?_
  refine lv_iload_n hx hb dX3_enlist_28 rfl (lv_at hl 3 rfl) ?_
  obtain ⟨hi3, h⟩ := chk_e h
  refine va_iast hx hb hK hP hD hS 2 0 rfl rfl hi3 dX3_enlist_29 (fun H locs hP hD hS => ?_)
  have hP : va_P D vwCl [(a_t, .inr (3, [.ref a_t_paints, .ref a_t_inches, g_t_night, g_t_draw, .ref a_t_kinds, .int t_men, g_t_source, g_t_stride, g_t_height])), (a_t_paints, .inl (cy 0, 6, .inl (upd t_paints t_men.toNatClampNeg p1))), (a_t_inches, .inl (cy 0, 6, .inl (upd t_inches t_men.toNatClampNeg p2))), (a_t_kinds, .inl (cy 0, 6, .inl (upd t_kinds t_men.toNatClampNeg p0)))] H := hP
  have hD : va_D A [(a_t, .inr (3, [.ref a_t_paints, .ref a_t_inches, g_t_night, g_t_draw, .ref a_t_kinds, .int t_men, g_t_source, g_t_stride, g_t_height])), (a_t_paints, .inl (cy 0, 6, .inl (upd t_paints t_men.toNatClampNeg p1))), (a_t_inches, .inl (cy 0, 6, .inl (upd t_inches t_men.toNatClampNeg p2))), (a_t_kinds, .inl (cy 0, 6, .inl (upd t_kinds t_men.toNatClampNeg p0)))] := hD
  refine lv_aload_n hx hb dX3_enlist_30 rfl (lv_at hl 0 rfl) ?_
  refine lv_dup hx hb dX3_enlist_31 rfl ?_
  refine va_get (D := D) (ci := 3) (v := .int t_men) (C := RX3) (T := TX3) (N := 9) hx hb hg inG_X3 hown hK hP 0 rfl rfl 5 (by decide) (hg _ q_93) (fun _ h9 => h9) rfl dX3_enlist_32 ?_
  refine lv_iconst (v := 1) hx hb dX3_enlist_35 kI_1 ?_
  refine lv_iadd hx hb dX3_enlist_36 ?_
  refine va_put (D := D) (ci := 3) (v := .int (t_men + 1)) (ty := .int) (C := RX3) (T := TX3) (N := 9) hx hb hg inG_X3 tyX3 tyX3_ok nmX3 hown hK hP hD hS 0 rfl rfl 5 (by decide) (hg _ q_93) (fun _ h9 => h9) rfl (tyX3_ok 5 (by decide)) rfl rfl (Nat.le_of_ble_eq_true rfl) dX3_enlist_37 (fun H locs hP hD hS => ?_)
  have hP : va_P D vwCl [(a_t, .inr (3, [.ref a_t_paints, .ref a_t_inches, g_t_night, g_t_draw, .ref a_t_kinds, .int (t_men + 1), g_t_source, g_t_stride, g_t_height])), (a_t_paints, .inl (cy 0, 6, .inl (upd t_paints t_men.toNatClampNeg p1))), (a_t_inches, .inl (cy 0, 6, .inl (upd t_inches t_men.toNatClampNeg p2))), (a_t_kinds, .inl (cy 0, 6, .inl (upd t_kinds t_men.toNatClampNeg p0)))] H := hP
  have hD : va_D A [(a_t, .inr (3, [.ref a_t_paints, .ref a_t_inches, g_t_night, g_t_draw, .ref a_t_kinds, .int (t_men + 1), g_t_source, g_t_stride, g_t_height])), (a_t_paints, .inl (cy 0, 6, .inl (upd t_paints t_men.toNatClampNeg p1))), (a_t_inches, .inl (cy 0, 6, .inl (upd t_inches t_men.toNatClampNeg p2))), (a_t_kinds, .inl (cy 0, 6, .inl (upd t_kinds t_men.toNatClampNeg p0)))] := hD
  exact hret _ _ _ ls 40 dX3_enlist_40 (by rw [← Option.some.inj h]) hP hD hS

def m_X3_stands (t_inches : Nat → Int32) (p0 : Int32) : Option (Int32) := chk p0 6 ((if (t_inches p0.toNatClampNeg) = (-1) then some 0 else some 1))
set_option maxHeartbeats 4000000 in
set_option maxRecDepth 100000 in
theorem c_X3_stands (l : Launch) (D : va_G) (cy : Nat → ClassId) (a_t : Nat) (a_t_inches : Nat) (g_t_paints : Value) (g_t_night : Value) (g_t_draw : Value) (g_t_kinds : Value) (g_t_men : Value) (g_t_source : Value) (g_t_stride : Value) (g_t_height : Value) (t_inches : Nat → Int32) (p0 : Int32) (out : Int32) (h : m_X3_stands t_inches p0 = some out) : MetR l D cy yX3_stands cX3_stands 2 (some .boolean) (rmG 0 0) [.ref a_t, .int p0] [(a_t, .inr (3, [g_t_paints, .ref a_t_inches, g_t_night, g_t_draw, g_t_kinds, g_t_men, g_t_source, g_t_stride, g_t_height])), (a_t_inches, .inl (cy 0, 6, .inl t_inches))] (some (.int out)) := by
  refine startR (own := RX3) (by decide) rfl (Nat.le_of_ble_eq_true rfl) ?_
  intro p e s m below meth c QQ hx hb hml hown hg hK hP hret ls hl
  have hl : lv_has ls 2 [(0, .ref a_t), (1, .int p0)] := hl
  unfold m_X3_stands at h
  refine lv_aload_n hx hb dX3_stands_0 rfl (lv_at hl 0 rfl) ?_
  refine va_get (D := D) (ci := 3) (v := .ref a_t_inches) (C := RX3) (T := TX3) (N := 9) hx hb hg inG_X3 hown hK hP 0 rfl rfl 1 (by decide) (hg _ q_117) (fun x9 h9 => u_same (hg _ q_116) x9 h9) rfl dX3_stands_1 ?_
  refine lv_iload_n hx hb dX3_stands_4 rfl (lv_at hl 1 rfl) ?_
  obtain ⟨hi1, h⟩ := chk_e h
  refine va_iald hx hb hK hP 1 0 rfl rfl hi1 dX3_stands_5 ?_
  refine lv_iconst (v := (-1)) hx hb dX3_stands_6 kI_m1 ?_
  refine lv_icmp_eq (tgt := 14) hx hb dX3_stands_7 (by decide) (fun c2 => ?_) (fun c2 => ?_)
  · have h := it_t c2 h
    refine lv_iconst (v := 0) hx hb dX3_stands_14 kI_0 ?_
    exact hret _ ls 15 dX3_stands_15 (nar_z (Or.inl rfl)) (congrArg (fun z => some (Value.int z)) (Option.some.inj h))
  · have h := it_f c2 h
    refine lv_iconst (v := 1) hx hb dX3_stands_10 kI_1 ?_
    refine lv_goto (tgt := 15) hx hb dX3_stands_11 (by decide) ?_
    exact hret _ ls 15 dX3_stands_15 (nar_z (Or.inr rfl)) (congrArg (fun z => some (Value.int z)) (Option.some.inj h))

def m_X3_whoStands_L4s (t_inches : Nat → Int32) (t_men : Int32) (k4 : Int32 → Option (Int32)) (r6 : Int32 → Int32 → Option (Int32)) (x1 : Int32) (x2 : Int32) : Option (Int32) := (if t_men ≤ x1 then k4 x2 else (m_X3_stands t_inches x1).bind (fun v8 => (if v8 = 0 then bnd (x1 + 1) (fun x10 => r6 x10 x2) else bnd (x2 ||| (1 <<< (x1 &&& 31))) (fun x11 => bnd (x1 + 1) (fun x12 => r6 x12 x11)))))
def m_X3_whoStands_L4 (t_inches : Nat → Int32) (t_men : Int32) (k4 : Int32 → Option (Int32)) : Nat → Int32 → Int32 → Option (Int32)
  | 0 => fun _ _ => none
  | nF + 1 => m_X3_whoStands_L4s t_inches t_men k4 (m_X3_whoStands_L4 t_inches t_men k4 nF)
def m_X3_whoStands (F : Nat) (t_inches : Nat → Int32) (t_men : Int32) : Option (Int32) := m_X3_whoStands_L4 t_inches t_men (fun (x3 : Int32) => some x3) F 0 0
set_option maxHeartbeats 4000000 in
set_option maxRecDepth 100000 in
theorem c_X3_whoStands (l : Launch) (D : va_G) (cy : Nat → ClassId) (a_t : Nat) (a_t_inches : Nat) (g_t_paints : Value) (g_t_night : Value) (g_t_draw : Value) (g_t_kinds : Value) (g_t_source : Value) (g_t_stride : Value) (g_t_height : Value) (t_inches : Nat → Int32) (t_men : Int32) (F : Nat) (out : Int32) (h : m_X3_whoStands F t_inches t_men = some out) : MetR l D cy yX3_whoStands cX3_whoStands 3 (some .int) (rmG 1 21) [.ref a_t] [(a_t, .inr (3, [g_t_paints, .ref a_t_inches, g_t_night, g_t_draw, g_t_kinds, .int t_men, g_t_source, g_t_stride, g_t_height])), (a_t_inches, .inl (cy 0, 6, .inl t_inches))] (some (.int out)) := by
  refine startR (own := RX3) (by decide) rfl (Nat.le_of_ble_eq_true rfl) ?_
  intro p e s m below meth c QQ hx hb hml hown hg hK hP hret ls hl
  have hl : lv_has ls 3 [(0, .ref a_t)] := hl
  unfold m_X3_whoStands at h
  refine lv_iconst (v := 0) hx hb dX3_whoStands_0 kI_0 ?_
  refine lv_istore_n (lv' := [(1, .int 0), (0, .ref a_t)]) hx hb dX3_whoStands_1 rfl hl (by decide) rfl (fun ls hl => ?_)
  refine lv_iconst (v := 0) hx hb dX3_whoStands_2 kI_0 ?_
  refine lv_istore_n (lv' := [(2, .int 0), (1, .int 0), (0, .ref a_t)]) hx hb dX3_whoStands_3 rfl hl (by decide) rfl (fun ls hl => ?_)
  obtain ⟨k4, hk4, h⟩ := kap (fun z => m_X3_whoStands_L4 t_inches t_men z F 0 0) h
  have J4 : ∀ (x3 : Int32) (ls : Array Slot), lv_has ls 3 [(1, .int x3)] → k4 x3 = some out → W p l e (rmG 1 21) s m [.ref a_t].toArray below meth c s.heap [] 0 0 QQ (F0 m 32 ls []) := by
    intro x3 ls hl h
    rw [hk4] at h
    refine lv_iload_n hx hb dX3_whoStands_32 rfl (lv_at hl 0 rfl) ?_
    exact hret _ ls 33 dX3_whoStands_33 rfl (congrArg (fun z => some (Value.int z)) (Option.some.inj h))
  have L5 : ∀ (n5 : Nat) (x1 : Int32) (x2 : Int32) (ls : Array Slot), lv_has ls 3 [(2, .int x1), (1, .int x2), (0, .ref a_t)] → m_X3_whoStands_L4 t_inches t_men k4 n5 x1 x2 = some out → W p l e (rmG 1 21) s m [.ref a_t].toArray below meth c s.heap [] 0 0 QQ (F0 m 4 ls []) := by
    intro n5
    induction n5 with
    | zero => intro x1 x2 ls hl h; exact nomatch (show (none : Option (Int32)) = some out from h)
    | succ n5 ih =>
        intro x1 x2 ls hl h
        have h : m_X3_whoStands_L4s t_inches t_men k4 (m_X3_whoStands_L4 t_inches t_men k4 n5) x1 x2 = some out := h
        unfold m_X3_whoStands_L4s at h
        refine lv_iload_n hx hb dX3_whoStands_4 rfl (lv_at hl 0 rfl) ?_
        refine lv_aload_n hx hb dX3_whoStands_5 rfl (lv_at hl 2 rfl) ?_
        refine va_get (D := D) (ci := 3) (v := .int t_men) (C := RX3) (T := TX3) (N := 9) hx hb hg inG_X3 hown hK hP 0 rfl rfl 5 (by decide) (hg _ q_93) (fun _ h9 => h9) rfl dX3_whoStands_6 ?_
        refine lv_icmp_ge (tgt := 32) hx hb dX3_whoStands_9 (by decide) (fun c7 => ?_) (fun c7 => ?_)
        · have h := it_t c7 h
          exact J4 x2 _ (lv_sub hl [1] rfl) h
        · have h := it_f c7 h
          refine lv_aload_n hx hb dX3_whoStands_12 rfl (lv_at hl 2 rfl) ?_
          refine lv_iload_n hx hb dX3_whoStands_13 rfl (lv_at hl 0 rfl) ?_
          obtain ⟨v8, hv8, h⟩ := bind_e h
          refine callRV (As := [.int x1]) (rest := []) (v0 := .int v8) hx hb hml hown hg (c_X3_stands l D cy a_t a_t_inches (g_t_paints) (g_t_night) (g_t_draw) (g_t_kinds) (.int t_men) (g_t_source) (g_t_stride) (g_t_height) t_inches x1 v8 hv8) q_386 q_391 q_56 q_384 q_385 hd_X3_stands ⟨(Nat.le_of_ble_eq_true rfl), (Nat.le_of_ble_eq_true rfl)⟩ hK hP [0, 1] rfl 0 3 rfl rfl rfl rfl rfl rfl hl.1 rfl (Nat.le_of_ble_eq_true rfl) dX3_whoStands_14 ?_
          refine lv_if_eq (tgt := 26) hx hb dX3_whoStands_17 (by decide) (fun c9 => ?_) (fun c9 => ?_)
          · have h := it_t c9 h
            obtain ⟨x10, ex10⟩ : ∃ y : Int32, y = x1 + 1 := ⟨_, rfl⟩
            have h := bnd_e ex10 h
            refine lv_iinc (v := x10) (lv' := [(2, .int x10), (1, .int x2), (0, .ref a_t)]) hx hb dX3_whoStands_26 hl (k := 0) rfl (inc_e kI_1 ex10) (by decide) rfl (fun ls hl => ?_)
            refine lv_goto (tgt := 4) hx hb dX3_whoStands_29 (by decide) ?_
            exact ih x10 x2 _ (lv_sub hl [0, 1, 2] rfl) h
          · have h := it_f c9 h
            refine lv_iload_n hx hb dX3_whoStands_20 rfl (lv_at hl 1 rfl) ?_
            refine lv_iconst (v := 1) hx hb dX3_whoStands_21 kI_1 ?_
            refine lv_iload_n hx hb dX3_whoStands_22 rfl (lv_at hl 0 rfl) ?_
            refine lv_ishl hx hb dX3_whoStands_23 ?_
            refine lv_ior hx hb dX3_whoStands_24 ?_
            refine lv_topi (fun x11 ex11 => ?_)
            have h := bnd_e ex11 h
            refine lv_istore_n (lv' := [(1, .int x11), (2, .int x1), (0, .ref a_t)]) hx hb dX3_whoStands_25 rfl hl (by decide) rfl (fun ls hl => ?_)
            obtain ⟨x12, ex12⟩ : ∃ y : Int32, y = x1 + 1 := ⟨_, rfl⟩
            have h := bnd_e ex12 h
            refine lv_iinc (v := x12) (lv' := [(2, .int x12), (1, .int x11), (0, .ref a_t)]) hx hb dX3_whoStands_26 hl (k := 1) rfl (inc_e kI_1 ex12) (by decide) rfl (fun ls hl => ?_)
            refine lv_goto (tgt := 4) hx hb dX3_whoStands_29 (by decide) ?_
            exact ih x12 x11 _ (lv_sub hl [0, 1, 2] rfl) h
  exact L5 F 0 0 _ (lv_sub hl [0, 1, 2] rfl) h

def m_X3_inchesTaken_L4s (t_inches : Nat → Int32) (t_men : Int32) (k4 : Int32 → Option (Int32)) (r6 : Int32 → Int32 → Option (Int32)) (x1 : Int32) (x2 : Int32) : Option (Int32) := (if t_men ≤ x1 then k4 x2 else (m_X3_stands t_inches x1).bind (fun v8 => (if v8 = 0 then bnd (x1 + 1) (fun x10 => r6 x10 x2) else chk x1 6 (bnd (x2 ||| (1 <<< ((t_inches x1.toNatClampNeg) &&& 31))) (fun x12 => bnd (x1 + 1) (fun x13 => r6 x13 x12))))))
def m_X3_inchesTaken_L4 (t_inches : Nat → Int32) (t_men : Int32) (k4 : Int32 → Option (Int32)) : Nat → Int32 → Int32 → Option (Int32)
  | 0 => fun _ _ => none
  | nF + 1 => m_X3_inchesTaken_L4s t_inches t_men k4 (m_X3_inchesTaken_L4 t_inches t_men k4 nF)
def m_X3_inchesTaken (F : Nat) (t_inches : Nat → Int32) (t_men : Int32) : Option (Int32) := m_X3_inchesTaken_L4 t_inches t_men (fun (x3 : Int32) => some x3) F 0 0
set_option maxHeartbeats 4000000 in
set_option maxRecDepth 100000 in
theorem c_X3_inchesTaken (l : Launch) (D : va_G) (cy : Nat → ClassId) (a_t : Nat) (a_t_inches : Nat) (g_t_paints : Value) (g_t_night : Value) (g_t_draw : Value) (g_t_kinds : Value) (g_t_source : Value) (g_t_stride : Value) (g_t_height : Value) (t_inches : Nat → Int32) (t_men : Int32) (F : Nat) (out : Int32) (h : m_X3_inchesTaken F t_inches t_men = some out) : MetR l D cy yX3_inchesTaken cX3_inchesTaken 3 (some .int) (rmG 1 21) [.ref a_t] [(a_t, .inr (3, [g_t_paints, .ref a_t_inches, g_t_night, g_t_draw, g_t_kinds, .int t_men, g_t_source, g_t_stride, g_t_height])), (a_t_inches, .inl (cy 0, 6, .inl t_inches))] (some (.int out)) := by
  refine startR (own := RX3) (by decide) rfl (Nat.le_of_ble_eq_true rfl) ?_
  intro p e s m below meth c QQ hx hb hml hown hg hK hP hret ls hl
  have hl : lv_has ls 3 [(0, .ref a_t)] := hl
  unfold m_X3_inchesTaken at h
  refine lv_iconst (v := 0) hx hb dX3_inchesTaken_0 kI_0 ?_
  refine lv_istore_n (lv' := [(1, .int 0), (0, .ref a_t)]) hx hb dX3_inchesTaken_1 rfl hl (by decide) rfl (fun ls hl => ?_)
  refine lv_iconst (v := 0) hx hb dX3_inchesTaken_2 kI_0 ?_
  refine lv_istore_n (lv' := [(2, .int 0), (1, .int 0), (0, .ref a_t)]) hx hb dX3_inchesTaken_3 rfl hl (by decide) rfl (fun ls hl => ?_)
  obtain ⟨k4, hk4, h⟩ := kap (fun z => m_X3_inchesTaken_L4 t_inches t_men z F 0 0) h
  have J4 : ∀ (x3 : Int32) (ls : Array Slot), lv_has ls 3 [(1, .int x3)] → k4 x3 = some out → W p l e (rmG 1 21) s m [.ref a_t].toArray below meth c s.heap [] 0 0 QQ (F0 m 37 ls []) := by
    intro x3 ls hl h
    rw [hk4] at h
    refine lv_iload_n hx hb dX3_inchesTaken_37 rfl (lv_at hl 0 rfl) ?_
    exact hret _ ls 38 dX3_inchesTaken_38 rfl (congrArg (fun z => some (Value.int z)) (Option.some.inj h))
  have L5 : ∀ (n5 : Nat) (x1 : Int32) (x2 : Int32) (ls : Array Slot), lv_has ls 3 [(2, .int x1), (1, .int x2), (0, .ref a_t)] → m_X3_inchesTaken_L4 t_inches t_men k4 n5 x1 x2 = some out → W p l e (rmG 1 21) s m [.ref a_t].toArray below meth c s.heap [] 0 0 QQ (F0 m 4 ls []) := by
    intro n5
    induction n5 with
    | zero => intro x1 x2 ls hl h; exact nomatch (show (none : Option (Int32)) = some out from h)
    | succ n5 ih =>
        intro x1 x2 ls hl h
        have h : m_X3_inchesTaken_L4s t_inches t_men k4 (m_X3_inchesTaken_L4 t_inches t_men k4 n5) x1 x2 = some out := h
        unfold m_X3_inchesTaken_L4s at h
        refine lv_iload_n hx hb dX3_inchesTaken_4 rfl (lv_at hl 0 rfl) ?_
        refine lv_aload_n hx hb dX3_inchesTaken_5 rfl (lv_at hl 2 rfl) ?_
        refine va_get (D := D) (ci := 3) (v := .int t_men) (C := RX3) (T := TX3) (N := 9) hx hb hg inG_X3 hown hK hP 0 rfl rfl 5 (by decide) (hg _ q_93) (fun _ h9 => h9) rfl dX3_inchesTaken_6 ?_
        refine lv_icmp_ge (tgt := 37) hx hb dX3_inchesTaken_9 (by decide) (fun c7 => ?_) (fun c7 => ?_)
        · have h := it_t c7 h
          exact J4 x2 _ (lv_sub hl [1] rfl) h
        · have h := it_f c7 h
          refine lv_aload_n hx hb dX3_inchesTaken_12 rfl (lv_at hl 2 rfl) ?_
          refine lv_iload_n hx hb dX3_inchesTaken_13 rfl (lv_at hl 0 rfl) ?_
          obtain ⟨v8, hv8, h⟩ := bind_e h
          refine callRV (As := [.int x1]) (rest := []) (v0 := .int v8) hx hb hml hown hg (c_X3_stands l D cy a_t a_t_inches (g_t_paints) (g_t_night) (g_t_draw) (g_t_kinds) (.int t_men) (g_t_source) (g_t_stride) (g_t_height) t_inches x1 v8 hv8) q_386 q_391 q_56 q_384 q_385 hd_X3_stands ⟨(Nat.le_of_ble_eq_true rfl), (Nat.le_of_ble_eq_true rfl)⟩ hK hP [0, 1] rfl 0 3 rfl rfl rfl rfl rfl rfl hl.1 rfl (Nat.le_of_ble_eq_true rfl) dX3_inchesTaken_14 ?_
          refine lv_if_eq (tgt := 31) hx hb dX3_inchesTaken_17 (by decide) (fun c9 => ?_) (fun c9 => ?_)
          · have h := it_t c9 h
            obtain ⟨x10, ex10⟩ : ∃ y : Int32, y = x1 + 1 := ⟨_, rfl⟩
            have h := bnd_e ex10 h
            refine lv_iinc (v := x10) (lv' := [(2, .int x10), (1, .int x2), (0, .ref a_t)]) hx hb dX3_inchesTaken_31 hl (k := 0) rfl (inc_e kI_1 ex10) (by decide) rfl (fun ls hl => ?_)
            refine lv_goto (tgt := 4) hx hb dX3_inchesTaken_34 (by decide) ?_
            exact ih x10 x2 _ (lv_sub hl [0, 1, 2] rfl) h
          · have h := it_f c9 h
            refine lv_iload_n hx hb dX3_inchesTaken_20 rfl (lv_at hl 1 rfl) ?_
            refine lv_iconst (v := 1) hx hb dX3_inchesTaken_21 kI_1 ?_
            refine lv_aload_n hx hb dX3_inchesTaken_22 rfl (lv_at hl 2 rfl) ?_
            refine va_get (D := D) (ci := 3) (v := .ref a_t_inches) (C := RX3) (T := TX3) (N := 9) hx hb hg inG_X3 hown hK hP 0 rfl rfl 1 (by decide) (hg _ q_117) (fun x9 h9 => u_same (hg _ q_116) x9 h9) rfl dX3_inchesTaken_23 ?_
            refine lv_iload_n hx hb dX3_inchesTaken_26 rfl (lv_at hl 0 rfl) ?_
            obtain ⟨hi11, h⟩ := chk_e h
            refine va_iald hx hb hK hP 1 0 rfl rfl hi11 dX3_inchesTaken_27 ?_
            refine lv_ishl hx hb dX3_inchesTaken_28 ?_
            refine lv_ior hx hb dX3_inchesTaken_29 ?_
            refine lv_topi (fun x12 ex12 => ?_)
            have h := bnd_e ex12 h
            refine lv_istore_n (lv' := [(1, .int x12), (2, .int x1), (0, .ref a_t)]) hx hb dX3_inchesTaken_30 rfl hl (by decide) rfl (fun ls hl => ?_)
            obtain ⟨x13, ex13⟩ : ∃ y : Int32, y = x1 + 1 := ⟨_, rfl⟩
            have h := bnd_e ex13 h
            refine lv_iinc (v := x13) (lv' := [(2, .int x13), (1, .int x12), (0, .ref a_t)]) hx hb dX3_inchesTaken_31 hl (k := 1) rfl (inc_e kI_1 ex13) (by decide) rfl (fun ls hl => ?_)
            refine lv_goto (tgt := 4) hx hb dX3_inchesTaken_34 (by decide) ?_
            exact ih x13 x12 _ (lv_sub hl [0, 1, 2] rfl) h
  exact L5 F 0 0 _ (lv_sub hl [0, 1, 2] rfl) h

def m_X3_paintTogether_L4s (t_paints : Nat → Int32) (t_men : Int32) (k4 : Int32 → Option (Int32)) (r6 : Int32 → Int32 → Option (Int32)) (x1 : Int32) (x2 : Int32) : Option (Int32) := (if t_men ≤ x1 then k4 x2 else chk x1 6 (bnd (x2 + (t_paints x1.toNatClampNeg)) (fun x9 => bnd (x1 + 1) (fun x10 => r6 x10 x9))))
def m_X3_paintTogether_L4 (t_paints : Nat → Int32) (t_men : Int32) (k4 : Int32 → Option (Int32)) : Nat → Int32 → Int32 → Option (Int32)
  | 0 => fun _ _ => none
  | nF + 1 => m_X3_paintTogether_L4s t_paints t_men k4 (m_X3_paintTogether_L4 t_paints t_men k4 nF)
def m_X3_paintTogether (F : Nat) (t_paints : Nat → Int32) (t_men : Int32) : Option (Int32) := m_X3_paintTogether_L4 t_paints t_men (fun (x3 : Int32) => some x3) F 0 0
set_option maxHeartbeats 4000000 in
set_option maxRecDepth 100000 in
theorem c_X3_paintTogether (l : Launch) (D : va_G) (cy : Nat → ClassId) (a_t : Nat) (a_t_paints : Nat) (g_t_inches : Value) (g_t_night : Value) (g_t_draw : Value) (g_t_kinds : Value) (g_t_source : Value) (g_t_stride : Value) (g_t_height : Value) (t_paints : Nat → Int32) (t_men : Int32) (F : Nat) (out : Int32) (h : m_X3_paintTogether F t_paints t_men = some out) : MetR l D cy yX3_paintTogether cX3_paintTogether 3 (some .int) (rmG 0 0) [.ref a_t] [(a_t, .inr (3, [.ref a_t_paints, g_t_inches, g_t_night, g_t_draw, g_t_kinds, .int t_men, g_t_source, g_t_stride, g_t_height])), (a_t_paints, .inl (cy 0, 6, .inl t_paints))] (some (.int out)) := by
  refine startR (own := RX3) (by decide) rfl (Nat.le_of_ble_eq_true rfl) ?_
  intro p e s m below meth c QQ hx hb hml hown hg hK hP hret ls hl
  have hl : lv_has ls 3 [(0, .ref a_t)] := hl
  unfold m_X3_paintTogether at h
  refine lv_iconst (v := 0) hx hb dX3_paintTogether_0 kI_0 ?_
  refine lv_istore_n (lv' := [(1, .int 0), (0, .ref a_t)]) hx hb dX3_paintTogether_1 rfl hl (by decide) rfl (fun ls hl => ?_)
  refine lv_iconst (v := 0) hx hb dX3_paintTogether_2 kI_0 ?_
  refine lv_istore_n (lv' := [(2, .int 0), (1, .int 0), (0, .ref a_t)]) hx hb dX3_paintTogether_3 rfl hl (by decide) rfl (fun ls hl => ?_)
  obtain ⟨k4, hk4, h⟩ := kap (fun z => m_X3_paintTogether_L4 t_paints t_men z F 0 0) h
  have J4 : ∀ (x3 : Int32) (ls : Array Slot), lv_has ls 3 [(1, .int x3)] → k4 x3 = some out → W p l e (rmG 0 0) s m [.ref a_t].toArray below meth c s.heap [] 0 0 QQ (F0 m 27 ls []) := by
    intro x3 ls hl h
    rw [hk4] at h
    refine lv_iload_n hx hb dX3_paintTogether_27 rfl (lv_at hl 0 rfl) ?_
    exact hret _ ls 28 dX3_paintTogether_28 rfl (congrArg (fun z => some (Value.int z)) (Option.some.inj h))
  have L5 : ∀ (n5 : Nat) (x1 : Int32) (x2 : Int32) (ls : Array Slot), lv_has ls 3 [(2, .int x1), (1, .int x2), (0, .ref a_t)] → m_X3_paintTogether_L4 t_paints t_men k4 n5 x1 x2 = some out → W p l e (rmG 0 0) s m [.ref a_t].toArray below meth c s.heap [] 0 0 QQ (F0 m 4 ls []) := by
    intro n5
    induction n5 with
    | zero => intro x1 x2 ls hl h; exact nomatch (show (none : Option (Int32)) = some out from h)
    | succ n5 ih =>
        intro x1 x2 ls hl h
        have h : m_X3_paintTogether_L4s t_paints t_men k4 (m_X3_paintTogether_L4 t_paints t_men k4 n5) x1 x2 = some out := h
        unfold m_X3_paintTogether_L4s at h
        refine lv_iload_n hx hb dX3_paintTogether_4 rfl (lv_at hl 0 rfl) ?_
        refine lv_aload_n hx hb dX3_paintTogether_5 rfl (lv_at hl 2 rfl) ?_
        refine va_get (D := D) (ci := 3) (v := .int t_men) (C := RX3) (T := TX3) (N := 9) hx hb hg inG_X3 hown hK hP 0 rfl rfl 5 (by decide) (hg _ q_93) (fun _ h9 => h9) rfl dX3_paintTogether_6 ?_
        refine lv_icmp_ge (tgt := 27) hx hb dX3_paintTogether_9 (by decide) (fun c7 => ?_) (fun c7 => ?_)
        · have h := it_t c7 h
          exact J4 x2 _ (lv_sub hl [1] rfl) h
        · have h := it_f c7 h
          refine lv_iload_n hx hb dX3_paintTogether_12 rfl (lv_at hl 1 rfl) ?_
          refine lv_aload_n hx hb dX3_paintTogether_13 rfl (lv_at hl 2 rfl) ?_
          refine va_get (D := D) (ci := 3) (v := .ref a_t_paints) (C := RX3) (T := TX3) (N := 9) hx hb hg inG_X3 hown hK hP 0 rfl rfl 0 (by decide) (hg _ q_110) (fun x9 h9 => u_same (hg _ q_111) x9 h9) rfl dX3_paintTogether_14 ?_
          refine lv_iload_n hx hb dX3_paintTogether_17 rfl (lv_at hl 0 rfl) ?_
          obtain ⟨hi8, h⟩ := chk_e h
          refine va_iald hx hb hK hP 1 0 rfl rfl hi8 dX3_paintTogether_18 ?_
          refine lv_iadd hx hb dX3_paintTogether_19 ?_
          refine lv_topi (fun x9 ex9 => ?_)
          have h := bnd_e ex9 h
          refine lv_istore_n (lv' := [(1, .int x9), (2, .int x1), (0, .ref a_t)]) hx hb dX3_paintTogether_20 rfl hl (by decide) rfl (fun ls hl => ?_)
          obtain ⟨x10, ex10⟩ : ∃ y : Int32, y = x1 + 1 := ⟨_, rfl⟩
          have h := bnd_e ex10 h
          refine lv_iinc (v := x10) (lv' := [(2, .int x10), (1, .int x9), (0, .ref a_t)]) hx hb dX3_paintTogether_21 hl (k := 1) rfl (inc_e kI_1 ex10) (by decide) rfl (fun ls hl => ?_)
          refine lv_goto (tgt := 4) hx hb dX3_paintTogether_24 (by decide) ?_
          exact ih x10 x9 _ (lv_sub hl [0, 1, 2] rfl) h
  exact L5 F 0 0 _ (lv_sub hl [0, 1, 2] rfl) h

def m_X3_paintOfStanding_L4s (t_paints : Nat → Int32) (t_inches : Nat → Int32) (t_men : Int32) (k4 : Int32 → Option (Int32)) (r6 : Int32 → Int32 → Option (Int32)) (x1 : Int32) (x2 : Int32) : Option (Int32) := (if t_men ≤ x1 then k4 x2 else (m_X3_stands t_inches x1).bind (fun v8 => (if v8 = 0 then bnd (x1 + 1) (fun x10 => r6 x10 x2) else chk x1 6 (bnd (x2 + (t_paints x1.toNatClampNeg)) (fun x12 => bnd (x1 + 1) (fun x13 => r6 x13 x12))))))
def m_X3_paintOfStanding_L4 (t_paints : Nat → Int32) (t_inches : Nat → Int32) (t_men : Int32) (k4 : Int32 → Option (Int32)) : Nat → Int32 → Int32 → Option (Int32)
  | 0 => fun _ _ => none
  | nF + 1 => m_X3_paintOfStanding_L4s t_paints t_inches t_men k4 (m_X3_paintOfStanding_L4 t_paints t_inches t_men k4 nF)
def m_X3_paintOfStanding (F : Nat) (t_paints : Nat → Int32) (t_inches : Nat → Int32) (t_men : Int32) : Option (Int32) := m_X3_paintOfStanding_L4 t_paints t_inches t_men (fun (x3 : Int32) => some x3) F 0 0
set_option maxHeartbeats 4000000 in
set_option maxRecDepth 100000 in
theorem c_X3_paintOfStanding (l : Launch) (D : va_G) (cy : Nat → ClassId) (a_t : Nat) (a_t_paints : Nat) (a_t_inches : Nat) (g_t_night : Value) (g_t_draw : Value) (g_t_kinds : Value) (g_t_source : Value) (g_t_stride : Value) (g_t_height : Value) (t_paints : Nat → Int32) (t_inches : Nat → Int32) (t_men : Int32) (F : Nat) (out : Int32) (h : m_X3_paintOfStanding F t_paints t_inches t_men = some out) : MetR l D cy yX3_paintOfStanding cX3_paintOfStanding 3 (some .int) (rmG 1 21) [.ref a_t] [(a_t, .inr (3, [.ref a_t_paints, .ref a_t_inches, g_t_night, g_t_draw, g_t_kinds, .int t_men, g_t_source, g_t_stride, g_t_height])), (a_t_paints, .inl (cy 0, 6, .inl t_paints)), (a_t_inches, .inl (cy 0, 6, .inl t_inches))] (some (.int out)) := by
  refine startR (own := RX3) (by decide) rfl (Nat.le_of_ble_eq_true rfl) ?_
  intro p e s m below meth c QQ hx hb hml hown hg hK hP hret ls hl
  have hl : lv_has ls 3 [(0, .ref a_t)] := hl
  unfold m_X3_paintOfStanding at h
  refine lv_iconst (v := 0) hx hb dX3_paintOfStanding_0 kI_0 ?_
  refine lv_istore_n (lv' := [(1, .int 0), (0, .ref a_t)]) hx hb dX3_paintOfStanding_1 rfl hl (by decide) rfl (fun ls hl => ?_)
  refine lv_iconst (v := 0) hx hb dX3_paintOfStanding_2 kI_0 ?_
  refine lv_istore_n (lv' := [(2, .int 0), (1, .int 0), (0, .ref a_t)]) hx hb dX3_paintOfStanding_3 rfl hl (by decide) rfl (fun ls hl => ?_)
  obtain ⟨k4, hk4, h⟩ := kap (fun z => m_X3_paintOfStanding_L4 t_paints t_inches t_men z F 0 0) h
  have J4 : ∀ (x3 : Int32) (ls : Array Slot), lv_has ls 3 [(1, .int x3)] → k4 x3 = some out → W p l e (rmG 1 21) s m [.ref a_t].toArray below meth c s.heap [] 0 0 QQ (F0 m 35 ls []) := by
    intro x3 ls hl h
    rw [hk4] at h
    refine lv_iload_n hx hb dX3_paintOfStanding_35 rfl (lv_at hl 0 rfl) ?_
    exact hret _ ls 36 dX3_paintOfStanding_36 rfl (congrArg (fun z => some (Value.int z)) (Option.some.inj h))
  have L5 : ∀ (n5 : Nat) (x1 : Int32) (x2 : Int32) (ls : Array Slot), lv_has ls 3 [(2, .int x1), (1, .int x2), (0, .ref a_t)] → m_X3_paintOfStanding_L4 t_paints t_inches t_men k4 n5 x1 x2 = some out → W p l e (rmG 1 21) s m [.ref a_t].toArray below meth c s.heap [] 0 0 QQ (F0 m 4 ls []) := by
    intro n5
    induction n5 with
    | zero => intro x1 x2 ls hl h; exact nomatch (show (none : Option (Int32)) = some out from h)
    | succ n5 ih =>
        intro x1 x2 ls hl h
        have h : m_X3_paintOfStanding_L4s t_paints t_inches t_men k4 (m_X3_paintOfStanding_L4 t_paints t_inches t_men k4 n5) x1 x2 = some out := h
        unfold m_X3_paintOfStanding_L4s at h
        refine lv_iload_n hx hb dX3_paintOfStanding_4 rfl (lv_at hl 0 rfl) ?_
        refine lv_aload_n hx hb dX3_paintOfStanding_5 rfl (lv_at hl 2 rfl) ?_
        refine va_get (D := D) (ci := 3) (v := .int t_men) (C := RX3) (T := TX3) (N := 9) hx hb hg inG_X3 hown hK hP 0 rfl rfl 5 (by decide) (hg _ q_93) (fun _ h9 => h9) rfl dX3_paintOfStanding_6 ?_
        refine lv_icmp_ge (tgt := 35) hx hb dX3_paintOfStanding_9 (by decide) (fun c7 => ?_) (fun c7 => ?_)
        · have h := it_t c7 h
          exact J4 x2 _ (lv_sub hl [1] rfl) h
        · have h := it_f c7 h
          refine lv_aload_n hx hb dX3_paintOfStanding_12 rfl (lv_at hl 2 rfl) ?_
          refine lv_iload_n hx hb dX3_paintOfStanding_13 rfl (lv_at hl 0 rfl) ?_
          obtain ⟨v8, hv8, h⟩ := bind_e h
          refine callRV (As := [.int x1]) (rest := []) (v0 := .int v8) hx hb hml hown hg (c_X3_stands l D cy a_t a_t_inches (.ref a_t_paints) (g_t_night) (g_t_draw) (g_t_kinds) (.int t_men) (g_t_source) (g_t_stride) (g_t_height) t_inches x1 v8 hv8) q_386 q_391 q_56 q_384 q_385 hd_X3_stands ⟨(Nat.le_of_ble_eq_true rfl), (Nat.le_of_ble_eq_true rfl)⟩ hK hP [0, 2] rfl 0 3 rfl rfl rfl rfl rfl rfl hl.1 rfl (Nat.le_of_ble_eq_true rfl) dX3_paintOfStanding_14 ?_
          refine lv_if_eq (tgt := 29) hx hb dX3_paintOfStanding_17 (by decide) (fun c9 => ?_) (fun c9 => ?_)
          · have h := it_t c9 h
            obtain ⟨x10, ex10⟩ : ∃ y : Int32, y = x1 + 1 := ⟨_, rfl⟩
            have h := bnd_e ex10 h
            refine lv_iinc (v := x10) (lv' := [(2, .int x10), (1, .int x2), (0, .ref a_t)]) hx hb dX3_paintOfStanding_29 hl (k := 0) rfl (inc_e kI_1 ex10) (by decide) rfl (fun ls hl => ?_)
            refine lv_goto (tgt := 4) hx hb dX3_paintOfStanding_32 (by decide) ?_
            exact ih x10 x2 _ (lv_sub hl [0, 1, 2] rfl) h
          · have h := it_f c9 h
            refine lv_iload_n hx hb dX3_paintOfStanding_20 rfl (lv_at hl 1 rfl) ?_
            refine lv_aload_n hx hb dX3_paintOfStanding_21 rfl (lv_at hl 2 rfl) ?_
            refine va_get (D := D) (ci := 3) (v := .ref a_t_paints) (C := RX3) (T := TX3) (N := 9) hx hb hg inG_X3 hown hK hP 0 rfl rfl 0 (by decide) (hg _ q_110) (fun x9 h9 => u_same (hg _ q_111) x9 h9) rfl dX3_paintOfStanding_22 ?_
            refine lv_iload_n hx hb dX3_paintOfStanding_25 rfl (lv_at hl 0 rfl) ?_
            obtain ⟨hi11, h⟩ := chk_e h
            refine va_iald hx hb hK hP 1 0 rfl rfl hi11 dX3_paintOfStanding_26 ?_
            refine lv_iadd hx hb dX3_paintOfStanding_27 ?_
            refine lv_topi (fun x12 ex12 => ?_)
            have h := bnd_e ex12 h
            refine lv_istore_n (lv' := [(1, .int x12), (2, .int x1), (0, .ref a_t)]) hx hb dX3_paintOfStanding_28 rfl hl (by decide) rfl (fun ls hl => ?_)
            obtain ⟨x13, ex13⟩ : ∃ y : Int32, y = x1 + 1 := ⟨_, rfl⟩
            have h := bnd_e ex13 h
            refine lv_iinc (v := x13) (lv' := [(2, .int x13), (1, .int x12), (0, .ref a_t)]) hx hb dX3_paintOfStanding_29 hl (k := 1) rfl (inc_e kI_1 ex13) (by decide) rfl (fun ls hl => ?_)
            refine lv_goto (tgt := 4) hx hb dX3_paintOfStanding_32 (by decide) ?_
            exact ih x13 x12 _ (lv_sub hl [0, 1, 2] rfl) h
  exact L5 F 0 0 _ (lv_sub hl [0, 1, 2] rfl) h

def m_X3_addPaint (t_paints : Nat → Int32) (p0 : Int32) (p1 : Int32) : Option ((Nat → Int32)) := chk p0 6 (chk p0 6 (some (upd t_paints p0.toNatClampNeg (if ((t_paints p0.toNatClampNeg) + p1) < 9 then ((t_paints p0.toNatClampNeg) + p1) else 9))))
set_option maxHeartbeats 4000000 in
set_option maxRecDepth 100000 in
theorem c_X3_addPaint (l : Launch) (D : va_G) (cy : Nat → ClassId) (a_t : Nat) (a_t_paints : Nat) (sz : Nat) (g_t_inches : Value) (g_t_night : Value) (g_t_draw : Value) (g_t_kinds : Value) (g_t_men : Value) (g_t_source : Value) (g_t_stride : Value) (g_t_height : Value) (t_paints : Nat → Int32) (p0 : Int32) (p1 : Int32) (out : (Nat → Int32)) (h : m_X3_addPaint t_paints p0 p1 = some out) : MetM l D cy yX3_addPaint cX3_addPaint 3 none (rmG 1 21) [.ref a_t, .int p0, .int p1] sz [(a_t, .inr (3, [.ref a_t_paints, g_t_inches, g_t_night, g_t_draw, g_t_kinds, g_t_men, g_t_source, g_t_stride, g_t_height])), (a_t_paints, .inl (cy 0, 6, .inl t_paints))] none [(a_t, .inr (3, [.ref a_t_paints, g_t_inches, g_t_night, g_t_draw, g_t_kinds, g_t_men, g_t_source, g_t_stride, g_t_height])), (a_t_paints, .inl (cy 0, 6, .inl out))] := by
  refine startMv (own := RX3) (by decide) rfl (Nat.le_of_ble_eq_true rfl) ?_
  intro p e s m below meth c QQ A hx hb hml hown hg hK hP hD hS hA hret ls hl
  have hl : lv_has ls 3 [(0, .ref a_t), (1, .int p0), (2, .int p1)] := hl
  unfold m_X3_addPaint at h
  refine lv_aload_n hx hb dX3_addPaint_0 rfl (lv_at hl 0 rfl) ?_
  refine va_get (D := D) (ci := 3) (v := .ref a_t_paints) (C := RX3) (T := TX3) (N := 9) hx hb hg inG_X3 hown hK hP 0 rfl rfl 0 (by decide) (hg _ q_110) (fun x9 h9 => u_same (hg _ q_111) x9 h9) rfl dX3_addPaint_1 ?_
  refine lv_iload_n hx hb dX3_addPaint_4 rfl (lv_at hl 1 rfl) ?_
  refine lv_bipush (v := 9) hx hb dX3_addPaint_5 kB_9 ?_
  refine lv_aload_n hx hb dX3_addPaint_7 rfl (lv_at hl 0 rfl) ?_
  refine va_get (D := D) (ci := 3) (v := .ref a_t_paints) (C := RX3) (T := TX3) (N := 9) hx hb hg inG_X3 hown hK hP 0 rfl rfl 0 (by decide) (hg _ q_110) (fun x9 h9 => u_same (hg _ q_111) x9 h9) rfl dX3_addPaint_8 ?_
  refine lv_iload_n hx hb dX3_addPaint_11 rfl (lv_at hl 1 rfl) ?_
  obtain ⟨hi1, h⟩ := chk_e h
  refine va_iald hx hb hK hP 1 0 rfl rfl hi1 dX3_addPaint_12 ?_
  refine lv_iload_n hx hb dX3_addPaint_13 rfl (lv_at hl 2 rfl) ?_
  refine lv_iadd hx hb dX3_addPaint_14 ?_
  refine va_mmin hx hb (hml.trans hl.1.symm) hown (hg _ q_664) (hg _ q_531) (hg _ q_65) (hg _ qm_min) (Nat.le_of_ble_eq_true rfl) (Nat.le_of_ble_eq_true rfl) (Nat.le_of_ble_eq_true rfl) (Nat.le_of_ble_eq_true rfl) dX3_addPaint_15 ?_
  obtain ⟨hi2, h⟩ := chk_e h
  refine va_iast hx hb hK hP hD hS 1 0 rfl rfl hi2 dX3_addPaint_18 (fun H locs hP hD hS => ?_)
  have hP : va_P D vwCl [(a_t, .inr (3, [.ref a_t_paints, g_t_inches, g_t_night, g_t_draw, g_t_kinds, g_t_men, g_t_source, g_t_stride, g_t_height])), (a_t_paints, .inl (cy 0, 6, .inl (upd t_paints p0.toNatClampNeg (if ((t_paints p0.toNatClampNeg) + p1) < 9 then ((t_paints p0.toNatClampNeg) + p1) else 9))))] H := hP
  have hD : va_D A [(a_t, .inr (3, [.ref a_t_paints, g_t_inches, g_t_night, g_t_draw, g_t_kinds, g_t_men, g_t_source, g_t_stride, g_t_height])), (a_t_paints, .inl (cy 0, 6, .inl (upd t_paints p0.toNatClampNeg (if ((t_paints p0.toNatClampNeg) + p1) < 9 then ((t_paints p0.toNatClampNeg) + p1) else 9))))] := hD
  exact hret _ _ _ ls 19 dX3_addPaint_19 (by rw [← Option.some.inj h]) hP hD hS

def m_X3_whoIsAt_L2s (t_inches : Nat → Int32) (t_men : Int32) (p0 : Int32) (k2 : Option (Int32)) (r4 : Int32 → Option (Int32)) (x1 : Int32) : Option (Int32) := (if t_men ≤ x1 then k2 else chk x1 6 ((if (t_inches x1.toNatClampNeg) = p0 then some x1 else bnd (x1 + 1) (fun x8 => r4 x8))))
def m_X3_whoIsAt_L2 (t_inches : Nat → Int32) (t_men : Int32) (p0 : Int32) (k2 : Option (Int32)) : Nat → Int32 → Option (Int32)
  | 0 => fun _ => none
  | nF + 1 => m_X3_whoIsAt_L2s t_inches t_men p0 k2 (m_X3_whoIsAt_L2 t_inches t_men p0 k2 nF)
def m_X3_whoIsAt (F : Nat) (t_inches : Nat → Int32) (t_men : Int32) (p0 : Int32) : Option (Int32) := m_X3_whoIsAt_L2 t_inches t_men p0 (some (-4)) F 0
set_option maxHeartbeats 4000000 in
set_option maxRecDepth 100000 in
theorem c_X3_whoIsAt (l : Launch) (D : va_G) (cy : Nat → ClassId) (a_t : Nat) (a_t_inches : Nat) (g_t_paints : Value) (g_t_night : Value) (g_t_draw : Value) (g_t_kinds : Value) (g_t_source : Value) (g_t_stride : Value) (g_t_height : Value) (t_inches : Nat → Int32) (t_men : Int32) (p0 : Int32) (F : Nat) (out : Int32) (h : m_X3_whoIsAt F t_inches t_men p0 = some out) : MetR l D cy yX3_whoIsAt cX3_whoIsAt 3 (some .int) (rmG 0 0) [.ref a_t, .int p0] [(a_t, .inr (3, [g_t_paints, .ref a_t_inches, g_t_night, g_t_draw, g_t_kinds, .int t_men, g_t_source, g_t_stride, g_t_height])), (a_t_inches, .inl (cy 0, 6, .inl t_inches))] (some (.int out)) := by
  refine startR (own := RX3) (by decide) rfl (Nat.le_of_ble_eq_true rfl) ?_
  intro p e s m below meth c QQ hx hb hml hown hg hK hP hret ls hl
  have hl : lv_has ls 3 [(0, .ref a_t), (1, .int p0)] := hl
  unfold m_X3_whoIsAt at h
  refine lv_iconst (v := 0) hx hb dX3_whoIsAt_0 kI_0 ?_
  refine lv_istore_n (lv' := [(2, .int 0), (0, .ref a_t), (1, .int p0)]) hx hb dX3_whoIsAt_1 rfl hl (by decide) rfl (fun ls hl => ?_)
  obtain ⟨k2, hk2, h⟩ := kap (fun z => m_X3_whoIsAt_L2 t_inches t_men p0 z F 0) h
  have J2 : ∀ (ls : Array Slot), lv_has ls 3 [] → k2 = some out → W p l e (rmG 0 0) s m [.ref a_t, .int p0].toArray below meth c s.heap [] 0 0 QQ (F0 m 28 ls []) := by
    intro ls hl h
    rw [hk2] at h
    refine lv_bipush (v := (-4)) hx hb dX3_whoIsAt_28 kB_m4 ?_
    exact hret _ ls 30 dX3_whoIsAt_30 rfl (congrArg (fun z => some (Value.int z)) (Option.some.inj h))
  have L3 : ∀ (n3 : Nat) (x1 : Int32) (ls : Array Slot), lv_has ls 3 [(2, .int x1), (0, .ref a_t), (1, .int p0)] → m_X3_whoIsAt_L2 t_inches t_men p0 k2 n3 x1 = some out → W p l e (rmG 0 0) s m [.ref a_t, .int p0].toArray below meth c s.heap [] 0 0 QQ (F0 m 2 ls []) := by
    intro n3
    induction n3 with
    | zero => intro x1 ls hl h; exact nomatch (show (none : Option (Int32)) = some out from h)
    | succ n3 ih =>
        intro x1 ls hl h
        have h : m_X3_whoIsAt_L2s t_inches t_men p0 k2 (m_X3_whoIsAt_L2 t_inches t_men p0 k2 n3) x1 = some out := h
        unfold m_X3_whoIsAt_L2s at h
        refine lv_iload_n hx hb dX3_whoIsAt_2 rfl (lv_at hl 0 rfl) ?_
        refine lv_aload_n hx hb dX3_whoIsAt_3 rfl (lv_at hl 1 rfl) ?_
        refine va_get (D := D) (ci := 3) (v := .int t_men) (C := RX3) (T := TX3) (N := 9) hx hb hg inG_X3 hown hK hP 0 rfl rfl 5 (by decide) (hg _ q_93) (fun _ h9 => h9) rfl dX3_whoIsAt_4 ?_
        refine lv_icmp_ge (tgt := 28) hx hb dX3_whoIsAt_7 (by decide) (fun c5 => ?_) (fun c5 => ?_)
        · have h := it_t c5 h
          exact J2  _ (lv_sub hl [] rfl) h
        · have h := it_f c5 h
          refine lv_aload_n hx hb dX3_whoIsAt_10 rfl (lv_at hl 1 rfl) ?_
          refine va_get (D := D) (ci := 3) (v := .ref a_t_inches) (C := RX3) (T := TX3) (N := 9) hx hb hg inG_X3 hown hK hP 0 rfl rfl 1 (by decide) (hg _ q_117) (fun x9 h9 => u_same (hg _ q_116) x9 h9) rfl dX3_whoIsAt_11 ?_
          refine lv_iload_n hx hb dX3_whoIsAt_14 rfl (lv_at hl 0 rfl) ?_
          obtain ⟨hi6, h⟩ := chk_e h
          refine va_iald hx hb hK hP 1 0 rfl rfl hi6 dX3_whoIsAt_15 ?_
          refine lv_iload_n hx hb dX3_whoIsAt_16 rfl (lv_at hl 2 rfl) ?_
          refine lv_icmp_ne (tgt := 22) hx hb dX3_whoIsAt_17 (by decide) (fun c7 => ?_) (fun c7 => ?_)
          · have h := it_f c7 h
            obtain ⟨x8, ex8⟩ : ∃ y : Int32, y = x1 + 1 := ⟨_, rfl⟩
            have h := bnd_e ex8 h
            refine lv_iinc (v := x8) (lv' := [(2, .int x8), (0, .ref a_t), (1, .int p0)]) hx hb dX3_whoIsAt_22 hl (k := 0) rfl (inc_e kI_1 ex8) (by decide) rfl (fun ls hl => ?_)
            refine lv_goto (tgt := 2) hx hb dX3_whoIsAt_25 (by decide) ?_
            exact ih x8 _ (lv_sub hl [0, 1, 2] rfl) h
          · have h := it_t c7 h
            refine lv_iload_n hx hb dX3_whoIsAt_20 rfl (lv_at hl 0 rfl) ?_
            exact hret _ ls 21 dX3_whoIsAt_21 rfl (congrArg (fun z => some (Value.int z)) (Option.some.inj h))
  exact L3 F 0 _ (lv_sub hl [0, 1, 2] rfl) h

def m_X3_whoIsNextTo_L12s (t_inches : Nat → Int32) (t_men : Int32) (p0 : Int32) (k6 : Int32 → Option (Int32)) (r8 : Int32 → Int32 → Option (Int32)) (x3 : Int32) (x4 : Int32) : Option (Int32) := (if t_men ≤ x3 then k6 x4 else (m_X3_stands t_inches x3).bind (fun v10 => (if v10 = 0 then bnd (x3 + 1) (fun x12 => r8 x12 x4) else chk x3 6 (chk p0 6 ((if (if 0 ≤ ((t_inches x3.toNatClampNeg) - (t_inches p0.toNatClampNeg)) then ((t_inches x3.toNatClampNeg) - (t_inches p0.toNatClampNeg)) else 0 - ((t_inches x3.toNatClampNeg) - (t_inches p0.toNatClampNeg))) = 1 then bnd (x4 ||| (1 <<< (x3 &&& 31))) (fun x17 => bnd (x3 + 1) (fun x18 => r8 x18 x17)) else bnd (x3 + 1) (fun x16 => r8 x16 x4)))))))
def m_X3_whoIsNextTo_L12 (t_inches : Nat → Int32) (t_men : Int32) (p0 : Int32) (k6 : Int32 → Option (Int32)) : Nat → Int32 → Int32 → Option (Int32)
  | 0 => fun _ _ => none
  | nF + 1 => m_X3_whoIsNextTo_L12s t_inches t_men p0 k6 (m_X3_whoIsNextTo_L12 t_inches t_men p0 k6 nF)
def m_X3_whoIsNextTo (F : Nat) (t_inches : Nat → Int32) (t_men : Int32) (p0 : Int32) : Option (Int32) := (m_X3_stands t_inches p0).bind (fun v1 => (if v1 = 0 then some 0 else m_X3_whoIsNextTo_L12 t_inches t_men p0 (fun (x5 : Int32) => some x5) F 0 0))
set_option maxHeartbeats 4000000 in
set_option maxRecDepth 100000 in
theorem c_X3_whoIsNextTo (l : Launch) (D : va_G) (cy : Nat → ClassId) (a_t : Nat) (a_t_inches : Nat) (g_t_paints : Value) (g_t_night : Value) (g_t_draw : Value) (g_t_kinds : Value) (g_t_source : Value) (g_t_stride : Value) (g_t_height : Value) (t_inches : Nat → Int32) (t_men : Int32) (p0 : Int32) (F : Nat) (out : Int32) (h : m_X3_whoIsNextTo F t_inches t_men p0 = some out) : MetR l D cy yX3_whoIsNextTo cX3_whoIsNextTo 4 (some .int) (rmG 1 21) [.ref a_t, .int p0] [(a_t, .inr (3, [g_t_paints, .ref a_t_inches, g_t_night, g_t_draw, g_t_kinds, .int t_men, g_t_source, g_t_stride, g_t_height])), (a_t_inches, .inl (cy 0, 6, .inl t_inches))] (some (.int out)) := by
  refine startR (own := RX3) (by decide) rfl (Nat.le_of_ble_eq_true rfl) ?_
  intro p e s m below meth c QQ hx hb hml hown hg hK hP hret ls hl
  have hl : lv_has ls 4 [(0, .ref a_t), (1, .int p0)] := hl
  unfold m_X3_whoIsNextTo at h
  refine lv_iconst (v := 0) hx hb dX3_whoIsNextTo_0 kI_0 ?_
  refine lv_istore_n (lv' := [(2, .int 0), (0, .ref a_t), (1, .int p0)]) hx hb dX3_whoIsNextTo_1 rfl hl (by decide) rfl (fun ls hl => ?_)
  refine lv_aload_n hx hb dX3_whoIsNextTo_2 rfl (lv_at hl 1 rfl) ?_
  refine lv_iload_n hx hb dX3_whoIsNextTo_3 rfl (lv_at hl 2 rfl) ?_
  obtain ⟨v1, hv1, h⟩ := bind_e h
  refine callRV (As := [.int p0]) (rest := []) (v0 := .int v1) hx hb hml hown hg (c_X3_stands l D cy a_t a_t_inches (g_t_paints) (g_t_night) (g_t_draw) (g_t_kinds) (.int t_men) (g_t_source) (g_t_stride) (g_t_height) t_inches p0 v1 hv1) q_386 q_391 q_56 q_384 q_385 hd_X3_stands ⟨(Nat.le_of_ble_eq_true rfl), (Nat.le_of_ble_eq_true rfl)⟩ hK hP [0, 1] rfl 0 3 rfl rfl rfl rfl rfl rfl hl.1 rfl (Nat.le_of_ble_eq_true rfl) dX3_whoIsNextTo_4 ?_
  refine lv_if_eq (tgt := 60) hx hb dX3_whoIsNextTo_7 (by decide) (fun c2 => ?_) (fun c2 => ?_)
  · have h := it_t c2 h
    refine lv_iload_n hx hb dX3_whoIsNextTo_60 rfl (lv_at hl 0 rfl) ?_
    exact hret _ ls 61 dX3_whoIsNextTo_61 rfl (congrArg (fun z => some (Value.int z)) (Option.some.inj h))
  · have h := it_f c2 h
    refine lv_iconst (v := 0) hx hb dX3_whoIsNextTo_10 kI_0 ?_
    refine lv_istore_n (lv' := [(3, .int 0), (2, .int 0), (0, .ref a_t), (1, .int p0)]) hx hb dX3_whoIsNextTo_11 rfl hl (by decide) rfl (fun ls hl => ?_)
    obtain ⟨k6, hk6, h⟩ := kap (fun z => m_X3_whoIsNextTo_L12 t_inches t_men p0 z F 0 0) h
    have J6 : ∀ (x5 : Int32) (ls : Array Slot), lv_has ls 4 [(2, .int x5)] → k6 x5 = some out → W p l e (rmG 1 21) s m [.ref a_t, .int p0].toArray below meth c s.heap [] 0 0 QQ (F0 m 60 ls []) := by
      intro x5 ls hl h
      rw [hk6] at h
      refine lv_iload_n hx hb dX3_whoIsNextTo_60 rfl (lv_at hl 0 rfl) ?_
      exact hret _ ls 61 dX3_whoIsNextTo_61 rfl (congrArg (fun z => some (Value.int z)) (Option.some.inj h))
    have L7 : ∀ (n7 : Nat) (x3 : Int32) (x4 : Int32) (ls : Array Slot), lv_has ls 4 [(3, .int x3), (2, .int x4), (0, .ref a_t), (1, .int p0)] → m_X3_whoIsNextTo_L12 t_inches t_men p0 k6 n7 x3 x4 = some out → W p l e (rmG 1 21) s m [.ref a_t, .int p0].toArray below meth c s.heap [] 0 0 QQ (F0 m 12 ls []) := by
      intro n7
      induction n7 with
      | zero => intro x3 x4 ls hl h; exact nomatch (show (none : Option (Int32)) = some out from h)
      | succ n7 ih =>
          intro x3 x4 ls hl h
          have h : m_X3_whoIsNextTo_L12s t_inches t_men p0 k6 (m_X3_whoIsNextTo_L12 t_inches t_men p0 k6 n7) x3 x4 = some out := h
          unfold m_X3_whoIsNextTo_L12s at h
          refine lv_iload_n hx hb dX3_whoIsNextTo_12 rfl (lv_at hl 0 rfl) ?_
          refine lv_aload_n hx hb dX3_whoIsNextTo_13 rfl (lv_at hl 2 rfl) ?_
          refine va_get (D := D) (ci := 3) (v := .int t_men) (C := RX3) (T := TX3) (N := 9) hx hb hg inG_X3 hown hK hP 0 rfl rfl 5 (by decide) (hg _ q_93) (fun _ h9 => h9) rfl dX3_whoIsNextTo_14 ?_
          refine lv_icmp_ge (tgt := 60) hx hb dX3_whoIsNextTo_17 (by decide) (fun c9 => ?_) (fun c9 => ?_)
          · have h := it_t c9 h
            exact J6 x4 _ (lv_sub hl [1] rfl) h
          · have h := it_f c9 h
            refine lv_aload_n hx hb dX3_whoIsNextTo_20 rfl (lv_at hl 2 rfl) ?_
            refine lv_iload_n hx hb dX3_whoIsNextTo_21 rfl (lv_at hl 0 rfl) ?_
            obtain ⟨v10, hv10, h⟩ := bind_e h
            refine callRV (As := [.int x3]) (rest := []) (v0 := .int v10) hx hb hml hown hg (c_X3_stands l D cy a_t a_t_inches (g_t_paints) (g_t_night) (g_t_draw) (g_t_kinds) (.int t_men) (g_t_source) (g_t_stride) (g_t_height) t_inches x3 v10 hv10) q_386 q_391 q_56 q_384 q_385 hd_X3_stands ⟨(Nat.le_of_ble_eq_true rfl), (Nat.le_of_ble_eq_true rfl)⟩ hK hP [0, 1] rfl 0 3 rfl rfl rfl rfl rfl rfl hl.1 rfl (Nat.le_of_ble_eq_true rfl) dX3_whoIsNextTo_22 ?_
            refine lv_if_eq (tgt := 54) hx hb dX3_whoIsNextTo_25 (by decide) (fun c11 => ?_) (fun c11 => ?_)
            · have h := it_t c11 h
              obtain ⟨x12, ex12⟩ : ∃ y : Int32, y = x3 + 1 := ⟨_, rfl⟩
              have h := bnd_e ex12 h
              refine lv_iinc (v := x12) (lv' := [(3, .int x12), (2, .int x4), (0, .ref a_t), (1, .int p0)]) hx hb dX3_whoIsNextTo_54 hl (k := 0) rfl (inc_e kI_1 ex12) (by decide) rfl (fun ls hl => ?_)
              refine lv_goto (tgt := 12) hx hb dX3_whoIsNextTo_57 (by decide) ?_
              exact ih x12 x4 _ (lv_sub hl [0, 1, 2, 3] rfl) h
            · have h := it_f c11 h
              refine lv_aload_n hx hb dX3_whoIsNextTo_28 rfl (lv_at hl 2 rfl) ?_
              refine va_get (D := D) (ci := 3) (v := .ref a_t_inches) (C := RX3) (T := TX3) (N := 9) hx hb hg inG_X3 hown hK hP 0 rfl rfl 1 (by decide) (hg _ q_117) (fun x9 h9 => u_same (hg _ q_116) x9 h9) rfl dX3_whoIsNextTo_29 ?_
              refine lv_iload_n hx hb dX3_whoIsNextTo_32 rfl (lv_at hl 0 rfl) ?_
              obtain ⟨hi13, h⟩ := chk_e h
              refine va_iald hx hb hK hP 1 0 rfl rfl hi13 dX3_whoIsNextTo_33 ?_
              refine lv_aload_n hx hb dX3_whoIsNextTo_34 rfl (lv_at hl 2 rfl) ?_
              refine va_get (D := D) (ci := 3) (v := .ref a_t_inches) (C := RX3) (T := TX3) (N := 9) hx hb hg inG_X3 hown hK hP 0 rfl rfl 1 (by decide) (hg _ q_117) (fun x9 h9 => u_same (hg _ q_116) x9 h9) rfl dX3_whoIsNextTo_35 ?_
              refine lv_iload_n hx hb dX3_whoIsNextTo_38 rfl (lv_at hl 3 rfl) ?_
              obtain ⟨hi14, h⟩ := chk_e h
              refine va_iald hx hb hK hP 1 0 rfl rfl hi14 dX3_whoIsNextTo_39 ?_
              refine lv_isub hx hb dX3_whoIsNextTo_40 ?_
              refine va_mabs hx hb (hml.trans hl.1.symm) hown (hg _ q_406) (hg _ q_407) (hg _ q_65) (hg _ qm_abs) (Nat.le_of_ble_eq_true rfl) (Nat.le_of_ble_eq_true rfl) (Nat.le_of_ble_eq_true rfl) (Nat.le_of_ble_eq_true rfl) dX3_whoIsNextTo_41 ?_
              refine lv_iconst (v := 1) hx hb dX3_whoIsNextTo_44 kI_1 ?_
              refine lv_icmp_ne (tgt := 54) hx hb dX3_whoIsNextTo_45 (by decide) (fun c15 => ?_) (fun c15 => ?_)
              · have h := it_f c15 h
                obtain ⟨x16, ex16⟩ : ∃ y : Int32, y = x3 + 1 := ⟨_, rfl⟩
                have h := bnd_e ex16 h
                refine lv_iinc (v := x16) (lv' := [(3, .int x16), (2, .int x4), (0, .ref a_t), (1, .int p0)]) hx hb dX3_whoIsNextTo_54 hl (k := 0) rfl (inc_e kI_1 ex16) (by decide) rfl (fun ls hl => ?_)
                refine lv_goto (tgt := 12) hx hb dX3_whoIsNextTo_57 (by decide) ?_
                exact ih x16 x4 _ (lv_sub hl [0, 1, 2, 3] rfl) h
              · have h := it_t c15 h
                refine lv_iload_n hx hb dX3_whoIsNextTo_48 rfl (lv_at hl 1 rfl) ?_
                refine lv_iconst (v := 1) hx hb dX3_whoIsNextTo_49 kI_1 ?_
                refine lv_iload_n hx hb dX3_whoIsNextTo_50 rfl (lv_at hl 0 rfl) ?_
                refine lv_ishl hx hb dX3_whoIsNextTo_51 ?_
                refine lv_ior hx hb dX3_whoIsNextTo_52 ?_
                refine lv_topi (fun x17 ex17 => ?_)
                have h := bnd_e ex17 h
                refine lv_istore_n (lv' := [(2, .int x17), (3, .int x3), (0, .ref a_t), (1, .int p0)]) hx hb dX3_whoIsNextTo_53 rfl hl (by decide) rfl (fun ls hl => ?_)
                obtain ⟨x18, ex18⟩ : ∃ y : Int32, y = x3 + 1 := ⟨_, rfl⟩
                have h := bnd_e ex18 h
                refine lv_iinc (v := x18) (lv' := [(3, .int x18), (2, .int x17), (0, .ref a_t), (1, .int p0)]) hx hb dX3_whoIsNextTo_54 hl (k := 1) rfl (inc_e kI_1 ex18) (by decide) rfl (fun ls hl => ?_)
                refine lv_goto (tgt := 12) hx hb dX3_whoIsNextTo_57 (by decide) ?_
                exact ih x18 x17 _ (lv_sub hl [0, 1, 2, 3] rfl) h
    exact L7 F 0 0 _ (lv_sub hl [0, 1, 2, 3] rfl) h

def m_X3_heldBy_L5s (t_inches : Nat → Int32) (t_men : Int32) (p0 : Int32) (p1 : Int32) (k4 : Int32 → Option (Int32)) (r6 : Int32 → Int32 → Option (Int32)) (x1 : Int32) (x2 : Int32) : Option (Int32) := (if t_men ≤ x1 then k4 x2 else (if ((p0 >>> (x1 &&& 31)) &&& 1) = 0 then bnd (x1 + 1) (fun x9 => r6 x9 x2) else (m_X3_stands t_inches x1).bind (fun v10 => (if v10 = 0 then bnd (x1 + 1) (fun x12 => r6 x12 x2) else chk x1 6 (bnd (x2 ||| ((((1 <<< (((2 * p1) + 1) &&& 31)) - 1) <<< ((t_inches x1.toNatClampNeg) &&& 31)) >>> (p1 &&& 31))) (fun x14 => bnd (x1 + 1) (fun x15 => r6 x15 x14)))))))
def m_X3_heldBy_L5 (t_inches : Nat → Int32) (t_men : Int32) (p0 : Int32) (p1 : Int32) (k4 : Int32 → Option (Int32)) : Nat → Int32 → Int32 → Option (Int32)
  | 0 => fun _ _ => none
  | nF + 1 => m_X3_heldBy_L5s t_inches t_men p0 p1 k4 (m_X3_heldBy_L5 t_inches t_men p0 p1 k4 nF)
def m_X3_heldBy (F : Nat) (t_inches : Nat → Int32) (t_men : Int32) (p0 : Int32) (p1 : Int32) : Option (Int32) := m_X3_heldBy_L5 t_inches t_men p0 p1 (fun (x3 : Int32) => some (x3 &&& 4095)) F 0 0
set_option maxHeartbeats 4000000 in
set_option maxRecDepth 100000 in
theorem c_X3_heldBy (l : Launch) (D : va_G) (cy : Nat → ClassId) (a_t : Nat) (a_t_inches : Nat) (g_t_paints : Value) (g_t_night : Value) (g_t_draw : Value) (g_t_kinds : Value) (g_t_source : Value) (g_t_stride : Value) (g_t_height : Value) (t_inches : Nat → Int32) (t_men : Int32) (p0 : Int32) (p1 : Int32) (F : Nat) (out : Int32) (h : m_X3_heldBy F t_inches t_men p0 p1 = some out) : MetR l D cy yX3_heldBy cX3_heldBy 5 (some .int) (rmG 1 21) [.ref a_t, .int p0, .int p1] [(a_t, .inr (3, [g_t_paints, .ref a_t_inches, g_t_night, g_t_draw, g_t_kinds, .int t_men, g_t_source, g_t_stride, g_t_height])), (a_t_inches, .inl (cy 0, 6, .inl t_inches))] (some (.int out)) := by
  refine startR (own := RX3) (by decide) rfl (Nat.le_of_ble_eq_true rfl) ?_
  intro p e s m below meth c QQ hx hb hml hown hg hK hP hret ls hl
  have hl : lv_has ls 5 [(0, .ref a_t), (1, .int p0), (2, .int p1)] := hl
  unfold m_X3_heldBy at h
  refine lv_iconst (v := 0) hx hb dX3_heldBy_0 kI_0 ?_
  refine lv_istore_n (lv' := [(3, .int 0), (0, .ref a_t), (1, .int p0), (2, .int p1)]) hx hb dX3_heldBy_1 rfl hl (by decide) rfl (fun ls hl => ?_)
  refine lv_iconst (v := 0) hx hb dX3_heldBy_2 kI_0 ?_
  refine lv_istore (lv' := [(4, .int 0), (3, .int 0), (0, .ref a_t), (1, .int p0), (2, .int p1)]) hx hb dX3_heldBy_3 hl (by decide) rfl (fun ls hl => ?_)
  obtain ⟨k4, hk4, h⟩ := kap (fun z => m_X3_heldBy_L5 t_inches t_men p0 p1 z F 0 0) h
  have J4 : ∀ (x3 : Int32) (ls : Array Slot), lv_has ls 5 [(3, .int x3)] → k4 x3 = some out → W p l e (rmG 1 21) s m [.ref a_t, .int p0, .int p1].toArray below meth c s.heap [] 0 0 QQ (F0 m 60 ls []) := by
    intro x3 ls hl h
    rw [hk4] at h
    refine lv_iload_n hx hb dX3_heldBy_60 rfl (lv_at hl 0 rfl) ?_
    refine lv_sipush (v := 4095) hx hb dX3_heldBy_61 kS_4095 ?_
    refine lv_iand hx hb dX3_heldBy_64 ?_
    exact hret _ ls 65 dX3_heldBy_65 rfl (congrArg (fun z => some (Value.int z)) (Option.some.inj h))
  have L5 : ∀ (n5 : Nat) (x1 : Int32) (x2 : Int32) (ls : Array Slot), lv_has ls 5 [(4, .int x1), (3, .int x2), (0, .ref a_t), (1, .int p0), (2, .int p1)] → m_X3_heldBy_L5 t_inches t_men p0 p1 k4 n5 x1 x2 = some out → W p l e (rmG 1 21) s m [.ref a_t, .int p0, .int p1].toArray below meth c s.heap [] 0 0 QQ (F0 m 5 ls []) := by
    intro n5
    induction n5 with
    | zero => intro x1 x2 ls hl h; exact nomatch (show (none : Option (Int32)) = some out from h)
    | succ n5 ih =>
        intro x1 x2 ls hl h
        have h : m_X3_heldBy_L5s t_inches t_men p0 p1 k4 (m_X3_heldBy_L5 t_inches t_men p0 p1 k4 n5) x1 x2 = some out := h
        unfold m_X3_heldBy_L5s at h
        refine lv_iload hx hb dX3_heldBy_5 (lv_at hl 0 rfl) ?_
        refine lv_aload_n hx hb dX3_heldBy_7 rfl (lv_at hl 2 rfl) ?_
        refine va_get (D := D) (ci := 3) (v := .int t_men) (C := RX3) (T := TX3) (N := 9) hx hb hg inG_X3 hown hK hP 0 rfl rfl 5 (by decide) (hg _ q_93) (fun _ h9 => h9) rfl dX3_heldBy_8 ?_
        refine lv_icmp_ge (tgt := 60) hx hb dX3_heldBy_11 (by decide) (fun c7 => ?_) (fun c7 => ?_)
        · have h := it_t c7 h
          exact J4 x2 _ (lv_sub hl [1] rfl) h
        · have h := it_f c7 h
          refine lv_iload_n hx hb dX3_heldBy_14 rfl (lv_at hl 3 rfl) ?_
          refine lv_iload hx hb dX3_heldBy_15 (lv_at hl 0 rfl) ?_
          refine lv_ishr hx hb dX3_heldBy_17 ?_
          refine lv_iconst (v := 1) hx hb dX3_heldBy_18 kI_1 ?_
          refine lv_iand hx hb dX3_heldBy_19 ?_
          refine lv_if_eq (tgt := 54) hx hb dX3_heldBy_20 (by decide) (fun c8 => ?_) (fun c8 => ?_)
          · have h := it_t c8 h
            obtain ⟨x9, ex9⟩ : ∃ y : Int32, y = x1 + 1 := ⟨_, rfl⟩
            have h := bnd_e ex9 h
            refine lv_iinc (v := x9) (lv' := [(4, .int x9), (3, .int x2), (0, .ref a_t), (1, .int p0), (2, .int p1)]) hx hb dX3_heldBy_54 hl (k := 0) rfl (inc_e kI_1 ex9) (by decide) rfl (fun ls hl => ?_)
            refine lv_goto (tgt := 5) hx hb dX3_heldBy_57 (by decide) ?_
            exact ih x9 x2 _ (lv_sub hl [0, 1, 2, 3, 4] rfl) h
          · have h := it_f c8 h
            refine lv_aload_n hx hb dX3_heldBy_23 rfl (lv_at hl 2 rfl) ?_
            refine lv_iload hx hb dX3_heldBy_24 (lv_at hl 0 rfl) ?_
            obtain ⟨v10, hv10, h⟩ := bind_e h
            refine callRV (As := [.int x1]) (rest := []) (v0 := .int v10) hx hb hml hown hg (c_X3_stands l D cy a_t a_t_inches (g_t_paints) (g_t_night) (g_t_draw) (g_t_kinds) (.int t_men) (g_t_source) (g_t_stride) (g_t_height) t_inches x1 v10 hv10) q_386 q_391 q_56 q_384 q_385 hd_X3_stands ⟨(Nat.le_of_ble_eq_true rfl), (Nat.le_of_ble_eq_true rfl)⟩ hK hP [0, 1] rfl 0 3 rfl rfl rfl rfl rfl rfl hl.1 rfl (Nat.le_of_ble_eq_true rfl) dX3_heldBy_26 ?_
            refine lv_if_eq (tgt := 54) hx hb dX3_heldBy_29 (by decide) (fun c11 => ?_) (fun c11 => ?_)
            · have h := it_t c11 h
              obtain ⟨x12, ex12⟩ : ∃ y : Int32, y = x1 + 1 := ⟨_, rfl⟩
              have h := bnd_e ex12 h
              refine lv_iinc (v := x12) (lv' := [(4, .int x12), (3, .int x2), (0, .ref a_t), (1, .int p0), (2, .int p1)]) hx hb dX3_heldBy_54 hl (k := 0) rfl (inc_e kI_1 ex12) (by decide) rfl (fun ls hl => ?_)
              refine lv_goto (tgt := 5) hx hb dX3_heldBy_57 (by decide) ?_
              exact ih x12 x2 _ (lv_sub hl [0, 1, 2, 3, 4] rfl) h
            · have h := it_f c11 h
              refine lv_iload_n hx hb dX3_heldBy_32 rfl (lv_at hl 1 rfl) ?_
              refine lv_iconst (v := 1) hx hb dX3_heldBy_33 kI_1 ?_
              refine lv_iconst (v := 2) hx hb dX3_heldBy_34 kI_2 ?_
              refine lv_iload_n hx hb dX3_heldBy_35 rfl (lv_at hl 4 rfl) ?_
              refine lv_imul hx hb dX3_heldBy_36 ?_
              refine lv_iconst (v := 1) hx hb dX3_heldBy_37 kI_1 ?_
              refine lv_iadd hx hb dX3_heldBy_38 ?_
              refine lv_ishl hx hb dX3_heldBy_39 ?_
              refine lv_iconst (v := 1) hx hb dX3_heldBy_40 kI_1 ?_
              refine lv_isub hx hb dX3_heldBy_41 ?_
              refine lv_aload_n hx hb dX3_heldBy_42 rfl (lv_at hl 2 rfl) ?_
              refine va_get (D := D) (ci := 3) (v := .ref a_t_inches) (C := RX3) (T := TX3) (N := 9) hx hb hg inG_X3 hown hK hP 0 rfl rfl 1 (by decide) (hg _ q_117) (fun x9 h9 => u_same (hg _ q_116) x9 h9) rfl dX3_heldBy_43 ?_
              refine lv_iload hx hb dX3_heldBy_46 (lv_at hl 0 rfl) ?_
              obtain ⟨hi13, h⟩ := chk_e h
              refine va_iald hx hb hK hP 1 0 rfl rfl hi13 dX3_heldBy_48 ?_
              refine lv_ishl hx hb dX3_heldBy_49 ?_
              refine lv_iload_n hx hb dX3_heldBy_50 rfl (lv_at hl 4 rfl) ?_
              refine lv_ishr hx hb dX3_heldBy_51 ?_
              refine lv_ior hx hb dX3_heldBy_52 ?_
              refine lv_topi (fun x14 ex14 => ?_)
              have h := bnd_e ex14 h
              refine lv_istore_n (lv' := [(3, .int x14), (4, .int x1), (0, .ref a_t), (1, .int p0), (2, .int p1)]) hx hb dX3_heldBy_53 rfl hl (by decide) rfl (fun ls hl => ?_)
              obtain ⟨x15, ex15⟩ : ∃ y : Int32, y = x1 + 1 := ⟨_, rfl⟩
              have h := bnd_e ex15 h
              refine lv_iinc (v := x15) (lv' := [(4, .int x15), (3, .int x14), (0, .ref a_t), (1, .int p0), (2, .int p1)]) hx hb dX3_heldBy_54 hl (k := 1) rfl (inc_e kI_1 ex15) (by decide) rfl (fun ls hl => ?_)
              refine lv_goto (tgt := 5) hx hb dX3_heldBy_57 (by decide) ?_
              exact ih x15 x14 _ (lv_sub hl [0, 1, 2, 3, 4] rfl) h
  exact L5 F 0 0 _ (lv_sub hl [0, 1, 2, 3, 4] rfl) h

def m_X3_crestBehind (t_night : Int32) (t_source : Int32) (t_stride : Int32) (p0 : Int32) : Option (Int32) := some ((t_source + ((t_night + p0) * t_stride)) - (t_source + ((t_night + p0) * t_stride)) / 12 * 12)
set_option maxHeartbeats 4000000 in
set_option maxRecDepth 100000 in
theorem c_X3_crestBehind (l : Launch) (D : va_G) (cy : Nat → ClassId) (a_t : Nat) (g_t_paints : Value) (g_t_inches : Value) (g_t_draw : Value) (g_t_kinds : Value) (g_t_men : Value) (g_t_height : Value) (t_night : Int32) (t_source : Int32) (t_stride : Int32) (p0 : Int32) (out : Int32) (h : m_X3_crestBehind t_night t_source t_stride p0 = some out) : MetR l D cy yX3_crestBehind cX3_crestBehind 2 (some .int) (rmG 0 0) [.ref a_t, .int p0] [(a_t, .inr (3, [g_t_paints, g_t_inches, .int t_night, g_t_draw, g_t_kinds, g_t_men, .int t_source, .int t_stride, g_t_height]))] (some (.int out)) := by
  refine startR (own := RX3) (by decide) rfl (Nat.le_of_ble_eq_true rfl) ?_
  intro p e s m below meth c QQ hx hb hml hown hg hK hP hret ls hl
  have hl : lv_has ls 2 [(0, .ref a_t), (1, .int p0)] := hl
  unfold m_X3_crestBehind at h
  refine lv_aload_n hx hb dX3_crestBehind_0 rfl (lv_at hl 0 rfl) ?_
  refine va_get (D := D) (ci := 3) (v := .int t_source) (C := RX3) (T := TX3) (N := 9) hx hb hg inG_X3 hown hK hP 0 rfl rfl 6 (by decide) (hg _ q_99) (fun _ h9 => h9) rfl dX3_crestBehind_1 ?_
  refine lv_aload_n hx hb dX3_crestBehind_4 rfl (lv_at hl 0 rfl) ?_
  refine va_get (D := D) (ci := 3) (v := .int t_night) (C := RX3) (T := TX3) (N := 9) hx hb hg inG_X3 hown hK hP 0 rfl rfl 2 (by decide) (hg _ q_121) (fun x9 h9 => u_same (hg _ q_122) x9 h9) rfl dX3_crestBehind_5 ?_
  refine lv_iload_n hx hb dX3_crestBehind_8 rfl (lv_at hl 1 rfl) ?_
  refine lv_iadd hx hb dX3_crestBehind_9 ?_
  refine lv_aload_n hx hb dX3_crestBehind_10 rfl (lv_at hl 0 rfl) ?_
  refine va_get (D := D) (ci := 3) (v := .int t_stride) (C := RX3) (T := TX3) (N := 9) hx hb hg inG_X3 hown hK hP 0 rfl rfl 7 (by decide) (hg _ q_102) (fun _ h9 => h9) rfl dX3_crestBehind_11 ?_
  refine lv_imul hx hb dX3_crestBehind_14 ?_
  refine lv_iadd hx hb dX3_crestBehind_15 ?_
  refine lv_bipush (v := 12) hx hb dX3_crestBehind_16 kB_12 ?_
  refine lv_irem hx hb dX3_crestBehind_18 (by decide) ?_
  exact hret _ ls 19 dX3_crestBehind_19 rfl (congrArg (fun z => some (Value.int z)) (Option.some.inj h))

def m_X3_highAt (t_height : Int32) (p0 : Int32) (p1 : Int32) : Option (Int32) := some (if 0 < (t_height - (if 0 ≤ (p0 - p1) then (p0 - p1) else 0 - (p0 - p1))) then (t_height - (if 0 ≤ (p0 - p1) then (p0 - p1) else 0 - (p0 - p1))) else 0)
set_option maxHeartbeats 4000000 in
set_option maxRecDepth 100000 in
theorem c_X3_highAt (l : Launch) (D : va_G) (cy : Nat → ClassId) (a_t : Nat) (g_t_paints : Value) (g_t_inches : Value) (g_t_night : Value) (g_t_draw : Value) (g_t_kinds : Value) (g_t_men : Value) (g_t_source : Value) (g_t_stride : Value) (t_height : Int32) (p0 : Int32) (p1 : Int32) (out : Int32) (h : m_X3_highAt t_height p0 p1 = some out) : MetR l D cy yX3_highAt cX3_highAt 3 (some .int) (rmG 1 21) [.ref a_t, .int p0, .int p1] [(a_t, .inr (3, [g_t_paints, g_t_inches, g_t_night, g_t_draw, g_t_kinds, g_t_men, g_t_source, g_t_stride, .int t_height]))] (some (.int out)) := by
  refine startR (own := RX3) (by decide) rfl (Nat.le_of_ble_eq_true rfl) ?_
  intro p e s m below meth c QQ hx hb hml hown hg hK hP hret ls hl
  have hl : lv_has ls 3 [(0, .ref a_t), (1, .int p0), (2, .int p1)] := hl
  unfold m_X3_highAt at h
  refine lv_iconst (v := 0) hx hb dX3_highAt_0 kI_0 ?_
  refine lv_aload_n hx hb dX3_highAt_1 rfl (lv_at hl 0 rfl) ?_
  refine va_get (D := D) (ci := 3) (v := .int t_height) (C := RX3) (T := TX3) (N := 9) hx hb hg inG_X3 hown hK hP 0 rfl rfl 8 (by decide) (hg _ q_105) (fun _ h9 => h9) rfl dX3_highAt_2 ?_
  refine lv_iload_n hx hb dX3_highAt_5 rfl (lv_at hl 1 rfl) ?_
  refine lv_iload_n hx hb dX3_highAt_6 rfl (lv_at hl 2 rfl) ?_
  refine lv_isub hx hb dX3_highAt_7 ?_
  refine va_mabs hx hb (hml.trans hl.1.symm) hown (hg _ q_406) (hg _ q_407) (hg _ q_65) (hg _ qm_abs) (Nat.le_of_ble_eq_true rfl) (Nat.le_of_ble_eq_true rfl) (Nat.le_of_ble_eq_true rfl) (Nat.le_of_ble_eq_true rfl) dX3_highAt_8 ?_
  refine lv_isub hx hb dX3_highAt_11 ?_
  refine va_mmax hx hb (hml.trans hl.1.symm) hown (hg _ q_421) (hg _ q_422) (hg _ q_65) (hg _ qm_max) (Nat.le_of_ble_eq_true rfl) (Nat.le_of_ble_eq_true rfl) (Nat.le_of_ble_eq_true rfl) (Nat.le_of_ble_eq_true rfl) dX3_highAt_12 ?_
  exact hret _ ls 15 dX3_highAt_15 rfl (congrArg (fun z => some (Value.int z)) (Option.some.inj h))

def m_X3_gripOf (t_paints : Nat → Int32) (t_inches : Nat → Int32) (t_night : Int32) (t_kinds : Nat → Int32) (t_men : Int32) (p0 : Int32) (p1 : Int32) : Option (Int32) := chk p0 6 (bnd ((t_paints p0.toNatClampNeg) + 2) (fun x2 => chk p0 6 (bnd (1 <<< ((t_inches p0.toNatClampNeg) &&& 31)) (fun x4 => (m_J6_bitCount_0f7a4 (p1 &&& ((x4 <<< (1 &&& 31)) ||| (x4 >>> (1 &&& 31))))).bind (fun v5 => chk p0 6 (((if (t_kinds p0.toNatClampNeg) = 1 then some (x2 / 2) else (if (t_kinds p0.toNatClampNeg) = 2 then some (x2 + v5) else (if (t_kinds p0.toNatClampNeg) = 3 then some ((x2 / 2) + ((t_night - t_night / 2 * 2) * 3)) else (if (t_kinds p0.toNatClampNeg) = 4 then (m_J6_bitCount_0f7a4 p1).bind (fun v11 => some (((x2 + v5) + t_men) - v11)) else some x2)))))))))))
set_option maxHeartbeats 4000000 in
set_option maxRecDepth 100000 in
theorem c_X3_gripOf (l : Launch) (D : va_G) (cy : Nat → ClassId) (a_t : Nat) (a_t_paints : Nat) (a_t_inches : Nat) (a_t_kinds : Nat) (g_t_draw : Value) (g_t_source : Value) (g_t_stride : Value) (g_t_height : Value) (t_paints : Nat → Int32) (t_inches : Nat → Int32) (t_night : Int32) (t_kinds : Nat → Int32) (t_men : Int32) (p0 : Int32) (p1 : Int32) (out : Int32) (h : m_X3_gripOf t_paints t_inches t_night t_kinds t_men p0 p1 = some out) : MetR l D cy yX3_gripOf cX3_gripOf 6 (some .int) (rmG 1 20) [.ref a_t, .int p0, .int p1] [(a_t, .inr (3, [.ref a_t_paints, .ref a_t_inches, .int t_night, g_t_draw, .ref a_t_kinds, .int t_men, g_t_source, g_t_stride, g_t_height])), (a_t_paints, .inl (cy 0, 6, .inl t_paints)), (a_t_inches, .inl (cy 0, 6, .inl t_inches)), (a_t_kinds, .inl (cy 0, 6, .inl t_kinds))] (some (.int out)) := by
  refine startR (own := RX3) (by decide) rfl (Nat.le_of_ble_eq_true rfl) ?_
  intro p e s m below meth c QQ hx hb hml hown hg hK hP hret ls hl
  have hl : lv_has ls 6 [(0, .ref a_t), (1, .int p0), (2, .int p1)] := hl
  unfold m_X3_gripOf at h
  refine lv_aload_n hx hb dX3_gripOf_0 rfl (lv_at hl 0 rfl) ?_
  refine va_get (D := D) (ci := 3) (v := .ref a_t_paints) (C := RX3) (T := TX3) (N := 9) hx hb hg inG_X3 hown hK hP 0 rfl rfl 0 (by decide) (hg _ q_110) (fun x9 h9 => u_same (hg _ q_111) x9 h9) rfl dX3_gripOf_1 ?_
  refine lv_iload_n hx hb dX3_gripOf_4 rfl (lv_at hl 1 rfl) ?_
  obtain ⟨hi1, h⟩ := chk_e h
  refine va_iald hx hb hK hP 1 0 rfl rfl hi1 dX3_gripOf_5 ?_
  refine lv_iconst (v := 2) hx hb dX3_gripOf_6 kI_2 ?_
  refine lv_iadd hx hb dX3_gripOf_7 ?_
  refine lv_topi (fun x2 ex2 => ?_)
  have h := bnd_e ex2 h
  refine lv_istore_n (lv' := [(3, .int x2), (0, .ref a_t), (1, .int p0), (2, .int p1)]) hx hb dX3_gripOf_8 rfl hl (by decide) rfl (fun ls hl => ?_)
  refine lv_iconst (v := 1) hx hb dX3_gripOf_9 kI_1 ?_
  refine lv_aload_n hx hb dX3_gripOf_10 rfl (lv_at hl 1 rfl) ?_
  refine va_get (D := D) (ci := 3) (v := .ref a_t_inches) (C := RX3) (T := TX3) (N := 9) hx hb hg inG_X3 hown hK hP 0 rfl rfl 1 (by decide) (hg _ q_117) (fun x9 h9 => u_same (hg _ q_116) x9 h9) rfl dX3_gripOf_11 ?_
  refine lv_iload_n hx hb dX3_gripOf_14 rfl (lv_at hl 2 rfl) ?_
  obtain ⟨hi3, h⟩ := chk_e h
  refine va_iald hx hb hK hP 2 0 rfl rfl hi3 dX3_gripOf_15 ?_
  refine lv_ishl hx hb dX3_gripOf_16 ?_
  refine lv_topi (fun x4 ex4 => ?_)
  have h := bnd_e ex4 h
  refine lv_istore (lv' := [(4, .int x4), (3, .int x2), (0, .ref a_t), (1, .int p0), (2, .int p1)]) hx hb dX3_gripOf_17 hl (by decide) rfl (fun ls hl => ?_)
  refine lv_iload_n hx hb dX3_gripOf_19 rfl (lv_at hl 4 rfl) ?_
  refine lv_iload hx hb dX3_gripOf_20 (lv_at hl 0 rfl) ?_
  refine lv_iconst (v := 1) hx hb dX3_gripOf_22 kI_1 ?_
  refine lv_ishl hx hb dX3_gripOf_23 ?_
  refine lv_iload hx hb dX3_gripOf_24 (lv_at hl 0 rfl) ?_
  refine lv_iconst (v := 1) hx hb dX3_gripOf_26 kI_1 ?_
  refine lv_ishr hx hb dX3_gripOf_27 ?_
  refine lv_ior hx hb dX3_gripOf_28 ?_
  refine lv_iand hx hb dX3_gripOf_29 ?_
  obtain ⟨v5, hv5, h⟩ := bind_e h
  refine callRS (As := [.int (p1 &&& ((x4 <<< (1 &&& 31)) ||| (x4 >>> (1 &&& 31))))]) (rest := []) (v0 := .int v5) hx hb hml hown hg (c_J6_bitCount_0f7a4 l D cy (p1 &&& ((x4 <<< (1 &&& 31)) ||| (x4 >>> (1 &&& 31)))) v5 hv5) q_398 q_396 q_64 q_397 hd_J6_bitCount_0f7a4 ⟨(Nat.le_of_ble_eq_true rfl), (Nat.le_of_ble_eq_true rfl)⟩ hK hP [] rfl rfl rfl rfl hl.1 rfl (Nat.le_of_ble_eq_true rfl) dX3_gripOf_30 ?_
  refine lv_istore (lv' := [(5, .int v5), (4, .int x4), (3, .int x2), (0, .ref a_t), (1, .int p0), (2, .int p1)]) hx hb dX3_gripOf_33 hl (by decide) rfl (fun ls hl => ?_)
  refine lv_aload_n hx hb dX3_gripOf_35 rfl (lv_at hl 3 rfl) ?_
  refine va_get (D := D) (ci := 3) (v := .ref a_t_kinds) (C := RX3) (T := TX3) (N := 9) hx hb hg inG_X3 hown hK hP 0 rfl rfl 4 (by decide) (hg _ q_90) (fun _ h9 => h9) rfl dX3_gripOf_36 ?_
  refine lv_iload_n hx hb dX3_gripOf_39 rfl (lv_at hl 4 rfl) ?_
  obtain ⟨hi6, h⟩ := chk_e h
  refine va_iald hx hb hK hP 3 0 rfl rfl hi6 dX3_gripOf_40 ?_
  by_cases c7 : (t_kinds p0.toNatClampNeg) = 1
  · refine lv_tableIn (off := 31) (tgt := 72) hx hb dX3_gripOf_41 (by rw [c7]; decide) (by rw [c7]; decide) (by rw [c7]; decide) (by decide) ?_
    have h := it_t c7 h
    refine lv_iload_n hx hb dX3_gripOf_72 rfl (lv_at hl 2 rfl) ?_
    refine lv_iconst (v := 2) hx hb dX3_gripOf_73 kI_2 ?_
    refine lv_idiv hx hb dX3_gripOf_74 (by decide) ?_
    exact hret _ ls 75 dX3_gripOf_75 rfl (congrArg (fun z => some (Value.int z)) (Option.some.inj h))
  have h := it_f c7 h
  by_cases c8 : (t_kinds p0.toNatClampNeg) = 2
  · refine lv_tableIn (off := 35) (tgt := 76) hx hb dX3_gripOf_41 (by rw [c8]; decide) (by rw [c8]; decide) (by rw [c8]; decide) (by decide) ?_
    have h := it_t c8 h
    refine lv_iload_n hx hb dX3_gripOf_76 rfl (lv_at hl 2 rfl) ?_
    refine lv_iload hx hb dX3_gripOf_77 (lv_at hl 0 rfl) ?_
    refine lv_iadd hx hb dX3_gripOf_79 ?_
    exact hret _ ls 80 dX3_gripOf_80 rfl (congrArg (fun z => some (Value.int z)) (Option.some.inj h))
  have h := it_f c8 h
  by_cases c9 : (t_kinds p0.toNatClampNeg) = 3
  · refine lv_tableIn (off := 40) (tgt := 81) hx hb dX3_gripOf_41 (by rw [c9]; decide) (by rw [c9]; decide) (by rw [c9]; decide) (by decide) ?_
    have h := it_t c9 h
    refine lv_iload_n hx hb dX3_gripOf_81 rfl (lv_at hl 2 rfl) ?_
    refine lv_iconst (v := 2) hx hb dX3_gripOf_82 kI_2 ?_
    refine lv_idiv hx hb dX3_gripOf_83 (by decide) ?_
    refine lv_aload_n hx hb dX3_gripOf_84 rfl (lv_at hl 3 rfl) ?_
    refine va_get (D := D) (ci := 3) (v := .int t_night) (C := RX3) (T := TX3) (N := 9) hx hb hg inG_X3 hown hK hP 0 rfl rfl 2 (by decide) (hg _ q_121) (fun x9 h9 => u_same (hg _ q_122) x9 h9) rfl dX3_gripOf_85 ?_
    refine lv_iconst (v := 2) hx hb dX3_gripOf_88 kI_2 ?_
    refine lv_irem hx hb dX3_gripOf_89 (by decide) ?_
    refine lv_iconst (v := 3) hx hb dX3_gripOf_90 kI_3 ?_
    refine lv_imul hx hb dX3_gripOf_91 ?_
    refine lv_iadd hx hb dX3_gripOf_92 ?_
    exact hret _ ls 93 dX3_gripOf_93 rfl (congrArg (fun z => some (Value.int z)) (Option.some.inj h))
  have h := it_f c9 h
  by_cases c10 : (t_kinds p0.toNatClampNeg) = 4
  · refine lv_tableIn (off := 53) (tgt := 94) hx hb dX3_gripOf_41 (by rw [c10]; decide) (by rw [c10]; decide) (by rw [c10]; decide) (by decide) ?_
    have h := it_t c10 h
    refine lv_iload_n hx hb dX3_gripOf_94 rfl (lv_at hl 2 rfl) ?_
    refine lv_iload hx hb dX3_gripOf_95 (lv_at hl 0 rfl) ?_
    refine lv_iadd hx hb dX3_gripOf_97 ?_
    refine lv_aload_n hx hb dX3_gripOf_98 rfl (lv_at hl 3 rfl) ?_
    refine va_get (D := D) (ci := 3) (v := .int t_men) (C := RX3) (T := TX3) (N := 9) hx hb hg inG_X3 hown hK hP 0 rfl rfl 5 (by decide) (hg _ q_93) (fun _ h9 => h9) rfl dX3_gripOf_99 ?_
    refine lv_iadd hx hb dX3_gripOf_102 ?_
    refine lv_iload_n hx hb dX3_gripOf_103 rfl (lv_at hl 5 rfl) ?_
    obtain ⟨v11, hv11, h⟩ := bind_e h
    refine callRS (As := [.int p1]) (rest := [.int ((x2 + v5) + t_men)]) (v0 := .int v11) hx hb hml hown hg (c_J6_bitCount_0f7a4 l D cy p1 v11 hv11) q_398 q_396 q_64 q_397 hd_J6_bitCount_0f7a4 ⟨(Nat.le_of_ble_eq_true rfl), (Nat.le_of_ble_eq_true rfl)⟩ hK hP [] rfl rfl rfl rfl hl.1 rfl (Nat.le_of_ble_eq_true rfl) dX3_gripOf_104 ?_
    refine lv_isub hx hb dX3_gripOf_107 ?_
    exact hret _ ls 108 dX3_gripOf_108 rfl (congrArg (fun z => some (Value.int z)) (Option.some.inj h))
  have h := it_f c10 h
  refine lv_tableOut (tgt := 109) hx hb dX3_gripOf_41 (by have := (And.intro (swn (k := 1) (by decide) c7) ((And.intro (swn (k := 2) (by decide) c8) ((And.intro (swn (k := 3) (by decide) c9) (swn (k := 4) (by decide) c10)))))); omega) (by decide) ?_
  refine lv_iload_n hx hb dX3_gripOf_109 rfl (lv_at hl 2 rfl) ?_
  exact hret _ ls 110 dX3_gripOf_110 rfl (congrArg (fun z => some (Value.int z)) (Option.some.inj h))

def m_X3_passNightBy_L11s (t_night : Int32) (t_kinds : Nat → Int32) (t_men : Int32) (t_height : Int32) (p0 : Int32) (v1 : Int32) (k9 : Int32 → (Nat → Int32) → (Nat → Int32) → Option (Int32 × (Nat → Int32) × (Nat → Int32) × Int32)) (r11 : Int32 → Int32 → (Nat → Int32) → (Nat → Int32) → Option (Int32 × (Nat → Int32) × (Nat → Int32) × Int32)) (x2 : Int32) (x3 : Int32) (w4 : Nat → Int32) (w5 : Nat → Int32) : Option (Int32 × (Nat → Int32) × (Nat → Int32) × Int32) := (if t_men ≤ x2 then k9 x3 w4 w5 else chk x2 6 (bnd (w5 x2.toNatClampNeg) (fun x14 => jn (fun (x15 : Int32) => (if x15 ≤ 0 then bnd (x2 + 1) (fun x17 => r11 x17 x3 w4 w5) else (m_X3_gripOf w4 w5 t_night t_kinds t_men x2 p0).bind (fun v18 => (if x15 ≤ v18 then chk x2 6 ((if (w4 x2.toNatClampNeg) ≤ 0 then bnd (x2 + 1) (fun x22 => r11 x22 x3 w4 w5) else chk x2 6 (chk x2 6 (bnd (x2 + 1) (fun x25 => r11 x25 x3 (upd w4 x2.toNatClampNeg ((w4 x2.toNatClampNeg) - 1)) w5))))) else chk x2 6 (bnd (x3 ^^^ (1 <<< (x14 &&& 31))) (fun x27 => bnd (x2 + 1) (fun x28 => r11 x28 x27 w4 (upd w5 x2.toNatClampNeg (-1))))))))) (fun k29 => (if x14 = (-1) then k29 0 else (m_X3_highAt t_height x14 v1).bind (fun v31 => k29 v31))))))
def m_X3_passNightBy_L11 (t_night : Int32) (t_kinds : Nat → Int32) (t_men : Int32) (t_height : Int32) (p0 : Int32) (v1 : Int32) (k9 : Int32 → (Nat → Int32) → (Nat → Int32) → Option (Int32 × (Nat → Int32) × (Nat → Int32) × Int32)) : Nat → Int32 → Int32 → (Nat → Int32) → (Nat → Int32) → Option (Int32 × (Nat → Int32) × (Nat → Int32) × Int32)
  | 0 => fun _ _ _ _ => none
  | nF + 1 => m_X3_passNightBy_L11s t_night t_kinds t_men t_height p0 v1 k9 (m_X3_passNightBy_L11 t_night t_kinds t_men t_height p0 v1 k9 nF)
def m_X3_passNightBy (F : Nat) (t_paints : Nat → Int32) (t_inches : Nat → Int32) (t_night : Int32) (t_kinds : Nat → Int32) (t_men : Int32) (t_source : Int32) (t_stride : Int32) (t_height : Int32) (p0 : Int32) : Option (Int32 × (Nat → Int32) × (Nat → Int32) × Int32) := (m_X3_crestBehind t_night t_source t_stride 0).bind (fun v1 => m_X3_passNightBy_L11 t_night t_kinds t_men t_height p0 v1 (fun (x6 : Int32) (w7 : Nat → Int32) (w8 : Nat → Int32) => some (x6, w7, w8, t_night + 1)) F 0 p0 t_paints t_inches)
set_option maxHeartbeats 4000000 in
set_option maxRecDepth 100000 in
theorem c_X3_passNightBy (l : Launch) (D : va_G) (cy : Nat → ClassId) (a_t : Nat) (a_t_paints : Nat) (a_t_inches : Nat) (a_t_kinds : Nat) (sz : Nat) (g_t_draw : Value) (t_paints : Nat → Int32) (t_inches : Nat → Int32) (t_night : Int32) (t_kinds : Nat → Int32) (t_men : Int32) (t_source : Int32) (t_stride : Int32) (t_height : Int32) (p0 : Int32) (F : Nat) (out : Int32 × (Nat → Int32) × (Nat → Int32) × Int32) (h : m_X3_passNightBy F t_paints t_inches t_night t_kinds t_men t_source t_stride t_height p0 = some out) : MetM l D cy yX3_passNightBy cX3_passNightBy 7 (some .int) (rmG 2 45) [.ref a_t, .int p0] sz [(a_t, .inr (3, [.ref a_t_paints, .ref a_t_inches, .int t_night, g_t_draw, .ref a_t_kinds, .int t_men, .int t_source, .int t_stride, .int t_height])), (a_t_paints, .inl (cy 0, 6, .inl t_paints)), (a_t_inches, .inl (cy 0, 6, .inl t_inches)), (a_t_kinds, .inl (cy 0, 6, .inl t_kinds))] (some (.int out.1)) [(a_t, .inr (3, [.ref a_t_paints, .ref a_t_inches, .int out.2.2.2, g_t_draw, .ref a_t_kinds, .int t_men, .int t_source, .int t_stride, .int t_height])), (a_t_paints, .inl (cy 0, 6, .inl out.2.1)), (a_t_inches, .inl (cy 0, 6, .inl out.2.2.1)), (a_t_kinds, .inl (cy 0, 6, .inl t_kinds))] := by
  refine startMi (own := RX3) (by decide) rfl (Nat.le_of_ble_eq_true rfl) ?_
  intro p e s m below meth c QQ A hx hb hml hown hg hK hP hD hS hA hret ls hl
  have hl : lv_has ls 7 [(0, .ref a_t), (1, .int p0)] := hl
  unfold m_X3_passNightBy at h
  refine lv_aload_n hx hb dX3_passNightBy_0 rfl (lv_at hl 0 rfl) ?_
  refine lv_iconst (v := 0) hx hb dX3_passNightBy_1 kI_0 ?_
  obtain ⟨v1, hv1, h⟩ := bind_e h
  refine callRV (As := [.int 0]) (rest := []) (v0 := .int v1) hx hb hml hown hg (c_X3_crestBehind l D cy a_t (.ref a_t_paints) (.ref a_t_inches) (g_t_draw) (.ref a_t_kinds) (.int t_men) (.int t_height) t_night t_source t_stride 0 v1 hv1) q_416 q_645 q_56 q_414 q_415 hd_X3_crestBehind ⟨(Nat.le_of_ble_eq_true rfl), (Nat.le_of_ble_eq_true rfl)⟩ hK hP [0] rfl 0 3 rfl rfl rfl rfl rfl rfl hl.1 rfl (Nat.le_of_ble_eq_true rfl) dX3_passNightBy_2 ?_
  refine lv_istore_n (lv' := [(2, .int v1), (0, .ref a_t), (1, .int p0)]) hx hb dX3_passNightBy_5 rfl hl (by decide) rfl (fun ls hl => ?_)
  refine lv_iload_n hx hb dX3_passNightBy_6 rfl (lv_at hl 2 rfl) ?_
  refine lv_istore_n (lv' := [(3, .int p0), (2, .int v1), (0, .ref a_t), (1, .int p0)]) hx hb dX3_passNightBy_7 rfl hl (by decide) rfl (fun ls hl => ?_)
  refine lv_iconst (v := 0) hx hb dX3_passNightBy_8 kI_0 ?_
  refine lv_istore (lv' := [(4, .int 0), (3, .int p0), (2, .int v1), (0, .ref a_t), (1, .int p0)]) hx hb dX3_passNightBy_9 hl (by decide) rfl (fun ls hl => ?_)
  obtain ⟨k9, hk9, h⟩ := kap (fun z => m_X3_passNightBy_L11 t_night t_kinds t_men t_height p0 v1 z F 0 p0 t_paints t_inches) h
  have J9 : ∀ (x6 : Int32) (w7 : Nat → Int32) (w8 : Nat → Int32) (H : Heap) (locs : List Loc) (ls : Array Slot), va_P D vwCl [(a_t, .inr (3, [.ref a_t_paints, .ref a_t_inches, .int t_night, g_t_draw, .ref a_t_kinds, .int t_men, .int t_source, .int t_stride, .int t_height])), (a_t_paints, .inl (cy 0, 6, .inl w7)), (a_t_inches, .inl (cy 0, 6, .inl w8)), (a_t_kinds, .inl (cy 0, 6, .inl t_kinds))] H → va_D A [(a_t, .inr (3, [.ref a_t_paints, .ref a_t_inches, .int t_night, g_t_draw, .ref a_t_kinds, .int t_men, .int t_source, .int t_stride, .int t_height])), (a_t_paints, .inl (cy 0, 6, .inl w7)), (a_t_inches, .inl (cy 0, 6, .inl w8)), (a_t_kinds, .inl (cy 0, 6, .inl t_kinds))] → va_S A s.heap H locs → lv_has ls 7 [(3, .int x6), (0, .ref a_t)] → k9 x6 w7 w8 = some out → W p l e (rmG 2 45) s m [.ref a_t, .int p0].toArray below meth c H locs 0 0 QQ (F0 m 110 ls []) := by
    intro x6 w7 w8 H locs ls hP hD hS hl h
    rw [hk9] at h
    refine lv_aload_n hx hb dX3_passNightBy_110 rfl (lv_at hl 1 rfl) ?_
    refine lv_dup hx hb dX3_passNightBy_111 rfl ?_
    refine va_get (D := D) (ci := 3) (v := .int t_night) (C := RX3) (T := TX3) (N := 9) hx hb hg inG_X3 hown hK hP 0 rfl rfl 2 (by decide) (hg _ q_121) (fun x9 h9 => u_same (hg _ q_122) x9 h9) rfl dX3_passNightBy_112 ?_
    refine lv_iconst (v := 1) hx hb dX3_passNightBy_115 kI_1 ?_
    refine lv_iadd hx hb dX3_passNightBy_116 ?_
    refine va_put (D := D) (ci := 3) (v := .int (t_night + 1)) (ty := .int) (C := RX3) (T := TX3) (N := 9) hx hb hg inG_X3 tyX3 tyX3_ok nmX3 hown hK hP hD hS 0 rfl rfl 2 (by decide) (hg _ q_121) (fun x9 h9 => u_same (hg _ q_122) x9 h9) rfl (tyX3_ok 2 (by decide)) rfl rfl (Nat.le_of_ble_eq_true rfl) dX3_passNightBy_117 (fun H locs hP hD hS => ?_)
    have hP : va_P D vwCl [(a_t, .inr (3, [.ref a_t_paints, .ref a_t_inches, .int (t_night + 1), g_t_draw, .ref a_t_kinds, .int t_men, .int t_source, .int t_stride, .int t_height])), (a_t_paints, .inl (cy 0, 6, .inl w7)), (a_t_inches, .inl (cy 0, 6, .inl w8)), (a_t_kinds, .inl (cy 0, 6, .inl t_kinds))] H := hP
    have hD : va_D A [(a_t, .inr (3, [.ref a_t_paints, .ref a_t_inches, .int (t_night + 1), g_t_draw, .ref a_t_kinds, .int t_men, .int t_source, .int t_stride, .int t_height])), (a_t_paints, .inl (cy 0, 6, .inl w7)), (a_t_inches, .inl (cy 0, 6, .inl w8)), (a_t_kinds, .inl (cy 0, 6, .inl t_kinds))] := hD
    refine lv_iload_n hx hb dX3_passNightBy_120 rfl (lv_at hl 0 rfl) ?_
    exact hret _ _ _ _ ls 121 dX3_passNightBy_121 rfl (by rw [← Option.some.inj h]) (by rw [← Option.some.inj h]) hP hD hS
  have L10 : ∀ (n10 : Nat) (x2 : Int32) (x3 : Int32) (w4 : Nat → Int32) (w5 : Nat → Int32) (H : Heap) (locs : List Loc) (ls : Array Slot), va_P D vwCl [(a_t, .inr (3, [.ref a_t_paints, .ref a_t_inches, .int t_night, g_t_draw, .ref a_t_kinds, .int t_men, .int t_source, .int t_stride, .int t_height])), (a_t_paints, .inl (cy 0, 6, .inl w4)), (a_t_inches, .inl (cy 0, 6, .inl w5)), (a_t_kinds, .inl (cy 0, 6, .inl t_kinds))] H → va_D A [(a_t, .inr (3, [.ref a_t_paints, .ref a_t_inches, .int t_night, g_t_draw, .ref a_t_kinds, .int t_men, .int t_source, .int t_stride, .int t_height])), (a_t_paints, .inl (cy 0, 6, .inl w4)), (a_t_inches, .inl (cy 0, 6, .inl w5)), (a_t_kinds, .inl (cy 0, 6, .inl t_kinds))] → va_S A s.heap H locs → lv_has ls 7 [(4, .int x2), (3, .int x3), (2, .int v1), (0, .ref a_t), (1, .int p0)] → m_X3_passNightBy_L11 t_night t_kinds t_men t_height p0 v1 k9 n10 x2 x3 w4 w5 = some out → W p l e (rmG 2 45) s m [.ref a_t, .int p0].toArray below meth c H locs 0 0 QQ (F0 m 11 ls []) := by
    intro n10
    induction n10 with
    | zero => intro x2 x3 w4 w5 H locs ls hP hD hS hl h; exact nomatch (show (none : Option (Int32 × (Nat → Int32) × (Nat → Int32) × Int32)) = some out from h)
    | succ n10 ih =>
        intro x2 x3 w4 w5 H locs ls hP hD hS hl h
        have h : m_X3_passNightBy_L11s t_night t_kinds t_men t_height p0 v1 k9 (m_X3_passNightBy_L11 t_night t_kinds t_men t_height p0 v1 k9 n10) x2 x3 w4 w5 = some out := h
        unfold m_X3_passNightBy_L11s at h
        refine lv_iload hx hb dX3_passNightBy_11 (lv_at hl 0 rfl) ?_
        refine lv_aload_n hx hb dX3_passNightBy_13 rfl (lv_at hl 3 rfl) ?_
        refine va_get (D := D) (ci := 3) (v := .int t_men) (C := RX3) (T := TX3) (N := 9) hx hb hg inG_X3 hown hK hP 0 rfl rfl 5 (by decide) (hg _ q_93) (fun _ h9 => h9) rfl dX3_passNightBy_14 ?_
        refine lv_icmp_ge (tgt := 110) hx hb dX3_passNightBy_17 (by decide) (fun c12 => ?_) (fun c12 => ?_)
        · have h := it_t c12 h
          exact J9 x3 w4 w5 _ _ _ hP hD hS (lv_sub hl [1, 3] rfl) h
        · have h := it_f c12 h
          refine lv_aload_n hx hb dX3_passNightBy_20 rfl (lv_at hl 3 rfl) ?_
          refine va_get (D := D) (ci := 3) (v := .ref a_t_inches) (C := RX3) (T := TX3) (N := 9) hx hb hg inG_X3 hown hK hP 0 rfl rfl 1 (by decide) (hg _ q_117) (fun x9 h9 => u_same (hg _ q_116) x9 h9) rfl dX3_passNightBy_21 ?_
          refine lv_iload hx hb dX3_passNightBy_24 (lv_at hl 0 rfl) ?_
          obtain ⟨hi13, h⟩ := chk_e h
          refine va_iald hx hb hK hP 2 0 rfl rfl hi13 dX3_passNightBy_26 ?_
          refine lv_topi (fun x14 ex14 => ?_)
          have h := bnd_e ex14 h
          refine lv_istore (lv' := [(5, .int x14), (4, .int x2), (3, .int x3), (2, .int v1), (0, .ref a_t), (1, .int p0)]) hx hb dX3_passNightBy_27 hl (by decide) rfl (fun ls hl => ?_)
          refine lv_iload hx hb dX3_passNightBy_29 (lv_at hl 0 rfl) ?_
          refine lv_iconst (v := (-1)) hx hb dX3_passNightBy_31 kI_m1 ?_
          obtain ⟨k29, hk29, h⟩ := jn_e h
          have J29 : ∀ (x15 : Int32) (H : Heap) (locs : List Loc) (ls : Array Slot), va_P D vwCl [(a_t, .inr (3, [.ref a_t_paints, .ref a_t_inches, .int t_night, g_t_draw, .ref a_t_kinds, .int t_men, .int t_source, .int t_stride, .int t_height])), (a_t_paints, .inl (cy 0, 6, .inl w4)), (a_t_inches, .inl (cy 0, 6, .inl w5)), (a_t_kinds, .inl (cy 0, 6, .inl t_kinds))] H → va_D A [(a_t, .inr (3, [.ref a_t_paints, .ref a_t_inches, .int t_night, g_t_draw, .ref a_t_kinds, .int t_men, .int t_source, .int t_stride, .int t_height])), (a_t_paints, .inl (cy 0, 6, .inl w4)), (a_t_inches, .inl (cy 0, 6, .inl w5)), (a_t_kinds, .inl (cy 0, 6, .inl t_kinds))] → va_S A s.heap H locs → lv_has ls 7 [(5, .int x14), (4, .int x2), (3, .int x3), (2, .int v1), (0, .ref a_t), (1, .int p0)] → k29 x15 = some out → W p l e (rmG 2 45) s m [.ref a_t, .int p0].toArray below meth c H locs 0 0 QQ (F0 m 46 ls [.int x15]) := by
            intro x15 H locs ls hP hD hS hl h
            rw [hk29] at h
            refine lv_istore (lv' := [(6, .int x15), (5, .int x14), (4, .int x2), (3, .int x3), (2, .int v1), (0, .ref a_t), (1, .int p0)]) hx hb dX3_passNightBy_46 hl (by decide) rfl (fun ls hl => ?_)
            refine lv_iload hx hb dX3_passNightBy_48 (lv_at hl 0 rfl) ?_
            refine lv_if_le (tgt := 104) hx hb dX3_passNightBy_50 (by decide) (fun c16 => ?_) (fun c16 => ?_)
            · have h := it_t c16 h
              obtain ⟨x17, ex17⟩ : ∃ y : Int32, y = x2 + 1 := ⟨_, rfl⟩
              have h := bnd_e ex17 h
              refine lv_iinc (v := x17) (lv' := [(4, .int x17), (6, .int x15), (5, .int x14), (3, .int x3), (2, .int v1), (0, .ref a_t), (1, .int p0)]) hx hb dX3_passNightBy_104 hl (k := 2) rfl (inc_e kI_1 ex17) (by decide) rfl (fun ls hl => ?_)
              refine lv_goto (tgt := 11) hx hb dX3_passNightBy_107 (by decide) ?_
              exact ih x17 x3 w4 w5 _ _ _ hP hD hS (lv_sub hl [0, 3, 4, 5, 6] rfl) h
            · have h := it_f c16 h
              refine lv_aload_n hx hb dX3_passNightBy_53 rfl (lv_at hl 5 rfl) ?_
              refine lv_iload hx hb dX3_passNightBy_54 (lv_at hl 2 rfl) ?_
              refine lv_iload_n hx hb dX3_passNightBy_56 rfl (lv_at hl 6 rfl) ?_
              obtain ⟨v18, hv18, h⟩ := bind_e h
              refine callRV (As := [.int x2, .int p0]) (rest := []) (v0 := .int v18) hx hb hml hown hg (c_X3_gripOf l D cy a_t a_t_paints a_t_inches a_t_kinds (g_t_draw) (.int t_source) (.int t_stride) (.int t_height) w4 w5 t_night t_kinds t_men x2 p0 v18 hv18) q_395 q_647 q_56 q_393 q_394 hd_X3_gripOf ⟨(Nat.le_of_ble_eq_true rfl), (Nat.le_of_ble_eq_true rfl)⟩ hK hP [0, 1, 2, 3] rfl 0 3 rfl rfl rfl rfl rfl rfl hl.1 rfl (Nat.le_of_ble_eq_true rfl) dX3_passNightBy_57 ?_
              refine lv_iload hx hb dX3_passNightBy_60 (lv_at hl 0 rfl) ?_
              refine lv_icmp_ge (tgt := 83) hx hb dX3_passNightBy_62 (by decide) (fun c19 => ?_) (fun c19 => ?_)
              · have h := it_t c19 h
                refine lv_aload_n hx hb dX3_passNightBy_83 rfl (lv_at hl 5 rfl) ?_
                refine va_get (D := D) (ci := 3) (v := .ref a_t_paints) (C := RX3) (T := TX3) (N := 9) hx hb hg inG_X3 hown hK hP 0 rfl rfl 0 (by decide) (hg _ q_110) (fun x9 h9 => u_same (hg _ q_111) x9 h9) rfl dX3_passNightBy_84 ?_
                refine lv_iload hx hb dX3_passNightBy_87 (lv_at hl 2 rfl) ?_
                obtain ⟨hi20, h⟩ := chk_e h
                refine va_iald hx hb hK hP 1 0 rfl rfl hi20 dX3_passNightBy_89 ?_
                refine lv_if_le (tgt := 104) hx hb dX3_passNightBy_90 (by decide) (fun c21 => ?_) (fun c21 => ?_)
                · have h := it_t c21 h
                  obtain ⟨x22, ex22⟩ : ∃ y : Int32, y = x2 + 1 := ⟨_, rfl⟩
                  have h := bnd_e ex22 h
                  refine lv_iinc (v := x22) (lv' := [(4, .int x22), (6, .int x15), (5, .int x14), (3, .int x3), (2, .int v1), (0, .ref a_t), (1, .int p0)]) hx hb dX3_passNightBy_104 hl (k := 2) rfl (inc_e kI_1 ex22) (by decide) rfl (fun ls hl => ?_)
                  refine lv_goto (tgt := 11) hx hb dX3_passNightBy_107 (by decide) ?_
                  exact ih x22 x3 w4 w5 _ _ _ hP hD hS (lv_sub hl [0, 3, 4, 5, 6] rfl) h
                · have h := it_f c21 h
                  refine lv_aload_n hx hb dX3_passNightBy_93 rfl (lv_at hl 5 rfl) ?_
                  refine va_get (D := D) (ci := 3) (v := .ref a_t_paints) (C := RX3) (T := TX3) (N := 9) hx hb hg inG_X3 hown hK hP 0 rfl rfl 0 (by decide) (hg _ q_110) (fun x9 h9 => u_same (hg _ q_111) x9 h9) rfl dX3_passNightBy_94 ?_
                  refine lv_iload hx hb dX3_passNightBy_97 (lv_at hl 2 rfl) ?_
                  refine lv_dup2_11 hx hb dX3_passNightBy_99 rfl rfl ?_
                  obtain ⟨hi23, h⟩ := chk_e h
                  refine va_iald hx hb hK hP 1 0 rfl rfl hi23 dX3_passNightBy_100 ?_
                  refine lv_iconst (v := 1) hx hb dX3_passNightBy_101 kI_1 ?_
                  refine lv_isub hx hb dX3_passNightBy_102 ?_
                  obtain ⟨hi24, h⟩ := chk_e h
                  refine va_iast hx hb hK hP hD hS 1 0 rfl rfl hi24 dX3_passNightBy_103 (fun H locs hP hD hS => ?_)
                  have hP : va_P D vwCl [(a_t, .inr (3, [.ref a_t_paints, .ref a_t_inches, .int t_night, g_t_draw, .ref a_t_kinds, .int t_men, .int t_source, .int t_stride, .int t_height])), (a_t_paints, .inl (cy 0, 6, .inl (upd w4 x2.toNatClampNeg ((w4 x2.toNatClampNeg) - 1)))), (a_t_inches, .inl (cy 0, 6, .inl w5)), (a_t_kinds, .inl (cy 0, 6, .inl t_kinds))] H := hP
                  have hD : va_D A [(a_t, .inr (3, [.ref a_t_paints, .ref a_t_inches, .int t_night, g_t_draw, .ref a_t_kinds, .int t_men, .int t_source, .int t_stride, .int t_height])), (a_t_paints, .inl (cy 0, 6, .inl (upd w4 x2.toNatClampNeg ((w4 x2.toNatClampNeg) - 1)))), (a_t_inches, .inl (cy 0, 6, .inl w5)), (a_t_kinds, .inl (cy 0, 6, .inl t_kinds))] := hD
                  obtain ⟨x25, ex25⟩ : ∃ y : Int32, y = x2 + 1 := ⟨_, rfl⟩
                  have h := bnd_e ex25 h
                  refine lv_iinc (v := x25) (lv' := [(4, .int x25), (6, .int x15), (5, .int x14), (3, .int x3), (2, .int v1), (0, .ref a_t), (1, .int p0)]) hx hb dX3_passNightBy_104 hl (k := 2) rfl (inc_e kI_1 ex25) (by decide) rfl (fun ls hl => ?_)
                  refine lv_goto (tgt := 11) hx hb dX3_passNightBy_107 (by decide) ?_
                  exact ih x25 x3 (upd w4 x2.toNatClampNeg ((w4 x2.toNatClampNeg) - 1)) w5 _ _ _ hP hD hS (lv_sub hl [0, 3, 4, 5, 6] rfl) h
              · have h := it_f c19 h
                refine lv_aload_n hx hb dX3_passNightBy_65 rfl (lv_at hl 5 rfl) ?_
                refine va_get (D := D) (ci := 3) (v := .ref a_t_inches) (C := RX3) (T := TX3) (N := 9) hx hb hg inG_X3 hown hK hP 0 rfl rfl 1 (by decide) (hg _ q_117) (fun x9 h9 => u_same (hg _ q_116) x9 h9) rfl dX3_passNightBy_66 ?_
                refine lv_iload hx hb dX3_passNightBy_69 (lv_at hl 2 rfl) ?_
                refine lv_iconst (v := (-1)) hx hb dX3_passNightBy_71 kI_m1 ?_
                obtain ⟨hi26, h⟩ := chk_e h
                refine va_iast hx hb hK hP hD hS 2 0 rfl rfl hi26 dX3_passNightBy_72 (fun H locs hP hD hS => ?_)
                have hP : va_P D vwCl [(a_t, .inr (3, [.ref a_t_paints, .ref a_t_inches, .int t_night, g_t_draw, .ref a_t_kinds, .int t_men, .int t_source, .int t_stride, .int t_height])), (a_t_paints, .inl (cy 0, 6, .inl w4)), (a_t_inches, .inl (cy 0, 6, .inl (upd w5 x2.toNatClampNeg (-1)))), (a_t_kinds, .inl (cy 0, 6, .inl t_kinds))] H := hP
                have hD : va_D A [(a_t, .inr (3, [.ref a_t_paints, .ref a_t_inches, .int t_night, g_t_draw, .ref a_t_kinds, .int t_men, .int t_source, .int t_stride, .int t_height])), (a_t_paints, .inl (cy 0, 6, .inl w4)), (a_t_inches, .inl (cy 0, 6, .inl (upd w5 x2.toNatClampNeg (-1)))), (a_t_kinds, .inl (cy 0, 6, .inl t_kinds))] := hD
                refine lv_iload_n hx hb dX3_passNightBy_73 rfl (lv_at hl 3 rfl) ?_
                refine lv_iconst (v := 1) hx hb dX3_passNightBy_74 kI_1 ?_
                refine lv_iload hx hb dX3_passNightBy_75 (lv_at hl 1 rfl) ?_
                refine lv_ishl hx hb dX3_passNightBy_77 ?_
                refine lv_ixor hx hb dX3_passNightBy_78 ?_
                refine lv_topi (fun x27 ex27 => ?_)
                have h := bnd_e ex27 h
                refine lv_istore_n (lv' := [(3, .int x27), (6, .int x15), (5, .int x14), (4, .int x2), (2, .int v1), (0, .ref a_t), (1, .int p0)]) hx hb dX3_passNightBy_79 rfl hl (by decide) rfl (fun ls hl => ?_)
                refine lv_goto (tgt := 104) hx hb dX3_passNightBy_80 (by decide) ?_
                obtain ⟨x28, ex28⟩ : ∃ y : Int32, y = x2 + 1 := ⟨_, rfl⟩
                have h := bnd_e ex28 h
                refine lv_iinc (v := x28) (lv' := [(4, .int x28), (3, .int x27), (6, .int x15), (5, .int x14), (2, .int v1), (0, .ref a_t), (1, .int p0)]) hx hb dX3_passNightBy_104 hl (k := 3) rfl (inc_e kI_1 ex28) (by decide) rfl (fun ls hl => ?_)
                refine lv_goto (tgt := 11) hx hb dX3_passNightBy_107 (by decide) ?_
                exact ih x28 x27 w4 (upd w5 x2.toNatClampNeg (-1)) _ _ _ hP hD hS (lv_sub hl [0, 1, 4, 5, 6] rfl) h
          refine lv_icmp_ne (tgt := 39) hx hb dX3_passNightBy_32 (by decide) (fun c30 => ?_) (fun c30 => ?_)
          · have h := it_f c30 h
            refine lv_aload_n hx hb dX3_passNightBy_39 rfl (lv_at hl 4 rfl) ?_
            refine lv_iload hx hb dX3_passNightBy_40 (lv_at hl 0 rfl) ?_
            refine lv_iload_n hx hb dX3_passNightBy_42 rfl (lv_at hl 3 rfl) ?_
            obtain ⟨v31, hv31, h⟩ := bind_e h
            refine callRV (As := [.int x14, .int v1]) (rest := []) (v0 := .int v31) hx hb hml hown hg (c_X3_highAt l D cy a_t (.ref a_t_paints) (.ref a_t_inches) (.int t_night) (g_t_draw) (.ref a_t_kinds) (.int t_men) (.int t_source) (.int t_stride) t_height x14 v1 v31 hv31) q_420 q_646 q_56 q_418 q_419 hd_X3_highAt ⟨(Nat.le_of_ble_eq_true rfl), (Nat.le_of_ble_eq_true rfl)⟩ hK hP [0] rfl 0 3 rfl rfl rfl rfl rfl rfl hl.1 rfl (Nat.le_of_ble_eq_true rfl) dX3_passNightBy_43 ?_
            exact J29 v31 _ _ _ hP hD hS (lv_sub hl [0, 1, 2, 3, 4, 5] rfl) h
          · have h := it_t c30 h
            refine lv_iconst (v := 0) hx hb dX3_passNightBy_35 kI_0 ?_
            refine lv_goto (tgt := 46) hx hb dX3_passNightBy_36 (by decide) ?_
            exact J29 0 _ _ _ hP hD hS (lv_sub hl [0, 1, 2, 3, 4, 5] rfl) h
  exact L10 F 0 p0 t_paints t_inches _ _ _ hP hD hS (lv_sub hl [0, 1, 2, 3, 4] rfl) h

def m_X3_passNight (F : Nat) (t_paints : Nat → Int32) (t_inches : Nat → Int32) (t_night : Int32) (t_kinds : Nat → Int32) (t_men : Int32) (t_source : Int32) (t_stride : Int32) (t_height : Int32) : Option ((Nat → Int32) × (Nat → Int32) × Int32) := (m_X3_inchesTaken F t_inches t_men).bind (fun v1 => (m_X3_passNightBy F t_paints t_inches t_night t_kinds t_men t_source t_stride t_height v1).bind (fun v2 => some (v2.2.1, v2.2.2.1, v2.2.2.2)))
set_option maxHeartbeats 4000000 in
set_option maxRecDepth 100000 in
theorem c_X3_passNight (l : Launch) (D : va_G) (cy : Nat → ClassId) (a_t : Nat) (a_t_paints : Nat) (a_t_inches : Nat) (a_t_kinds : Nat) (sz : Nat) (g_t_draw : Value) (t_paints : Nat → Int32) (t_inches : Nat → Int32) (t_night : Int32) (t_kinds : Nat → Int32) (t_men : Int32) (t_source : Int32) (t_stride : Int32) (t_height : Int32) (F : Nat) (out : (Nat → Int32) × (Nat → Int32) × Int32) (h : m_X3_passNight F t_paints t_inches t_night t_kinds t_men t_source t_stride t_height = some out) : MetM l D cy yX3_passNight cX3_passNight 1 none (rmG 3 71) [.ref a_t] sz [(a_t, .inr (3, [.ref a_t_paints, .ref a_t_inches, .int t_night, g_t_draw, .ref a_t_kinds, .int t_men, .int t_source, .int t_stride, .int t_height])), (a_t_paints, .inl (cy 0, 6, .inl t_paints)), (a_t_inches, .inl (cy 0, 6, .inl t_inches)), (a_t_kinds, .inl (cy 0, 6, .inl t_kinds))] none [(a_t, .inr (3, [.ref a_t_paints, .ref a_t_inches, .int out.2.2, g_t_draw, .ref a_t_kinds, .int t_men, .int t_source, .int t_stride, .int t_height])), (a_t_paints, .inl (cy 0, 6, .inl out.1)), (a_t_inches, .inl (cy 0, 6, .inl out.2.1)), (a_t_kinds, .inl (cy 0, 6, .inl t_kinds))] := by
  refine startMv (own := RX3) (by decide) rfl (Nat.le_of_ble_eq_true rfl) ?_
  intro p e s m below meth c QQ A hx hb hml hown hg hK hP hD hS hA hret ls hl
  have hl : lv_has ls 1 [(0, .ref a_t)] := hl
  unfold m_X3_passNight at h
  refine lv_aload_n hx hb dX3_passNight_0 rfl (lv_at hl 0 rfl) ?_
  refine lv_aload_n hx hb dX3_passNight_1 rfl (lv_at hl 0 rfl) ?_
  obtain ⟨v1, hv1, h⟩ := bind_e h
  refine callRV (As := []) (rest := [.ref a_t]) (v0 := .int v1) hx hb hml hown hg (c_X3_inchesTaken l D cy a_t a_t_inches (.ref a_t_paints) (.int t_night) (g_t_draw) (.ref a_t_kinds) (.int t_source) (.int t_stride) (.int t_height) t_inches t_men F v1 hv1) q_390 q_610 q_56 q_388 q_389 hd_X3_inchesTaken ⟨(Nat.le_of_ble_eq_true rfl), (Nat.le_of_ble_eq_true rfl)⟩ hK hP [0, 2] rfl 0 3 rfl rfl rfl rfl rfl rfl hl.1 rfl (Nat.le_of_ble_eq_true rfl) dX3_passNight_2 ?_
  obtain ⟨v2, hv2, h⟩ := bind_e h
  refine callMV (As := [.int v1]) (rest := []) (wr := []) (w2 := [(a_t, .inr (3, [.ref a_t_paints, .ref a_t_inches, .int v2.2.2.2, g_t_draw, .ref a_t_kinds, .int t_men, .int t_source, .int t_stride, .int t_height])), (a_t_paints, .inl (cy 0, 6, .inl v2.2.1)), (a_t_inches, .inl (cy 0, 6, .inl v2.2.2.1)), (a_t_kinds, .inl (cy 0, 6, .inl t_kinds))]) hx hb hml hown hg (c_X3_passNightBy l D cy a_t a_t_paints a_t_inches a_t_kinds _ (g_t_draw) t_paints t_inches t_night t_kinds t_men t_source t_stride t_height v1 F v2 hv2) q_644 q_641 q_56 q_642 q_643 hd_X3_passNightBy ⟨(Nat.le_of_ble_eq_true rfl), (Nat.le_of_ble_eq_true rfl)⟩ hK hP hD hS hA [0, 1, 2, 3] [] rfl rfl rfl rfl (by decide) [0, 1, 2, 3] rfl rfl 0 3 rfl rfl rfl rfl rfl rfl hl.1 rfl rfl (Nat.le_of_ble_eq_true rfl) dX3_passNight_5 (fun H locs hP hD hS => ?_)
  refine lv_pop hx hb dX3_passNight_8 rfl ?_
  exact hret _ _ _ ls 9 dX3_passNight_9 (by rw [← Option.some.inj h]) hP hD hS

def m_X3_passWhile_L14s (t_kinds : Nat → Int32) (t_men : Int32) (t_source : Int32) (t_stride : Int32) (t_height : Int32) (p0 : Int32) (p1 : Int32) (F : Nat) (k13 : Int32 → (Nat → Int32) → (Nat → Int32) → Int32 → Option (Int32 × (Nat → Int32) × (Nat → Int32) × Int32)) (r15 : Int32 → Int32 → Int32 → (Nat → Int32) → (Nat → Int32) → Int32 → Option (Int32 × (Nat → Int32) × (Nat → Int32) × Int32)) (x3 : Int32) (x4 : Int32) (x5 : Int32) (w6 : Nat → Int32) (w7 : Nat → Int32) (w8 : Int32) : Option (Int32 × (Nat → Int32) × (Nat → Int32) × Int32) := (if p0 ≤ x3 then k13 x4 w6 w7 w8 else (if x4 < p1 then k13 x4 w6 w7 w8 else (m_X3_passNightBy F w6 w7 w8 t_kinds t_men t_source t_stride t_height x5).bind (fun v18 => (m_J6_bitCount_0f7a4 v18.1).bind (fun v19 => bnd (x3 + 1) (fun x20 => r15 x20 v19 v18.1 v18.2.1 v18.2.2.1 v18.2.2.2)))))
def m_X3_passWhile_L14 (t_kinds : Nat → Int32) (t_men : Int32) (t_source : Int32) (t_stride : Int32) (t_height : Int32) (p0 : Int32) (p1 : Int32) (F : Nat) (k13 : Int32 → (Nat → Int32) → (Nat → Int32) → Int32 → Option (Int32 × (Nat → Int32) × (Nat → Int32) × Int32)) : Nat → Int32 → Int32 → Int32 → (Nat → Int32) → (Nat → Int32) → Int32 → Option (Int32 × (Nat → Int32) × (Nat → Int32) × Int32)
  | 0 => fun _ _ _ _ _ _ => none
  | nF + 1 => m_X3_passWhile_L14s t_kinds t_men t_source t_stride t_height p0 p1 F k13 (m_X3_passWhile_L14 t_kinds t_men t_source t_stride t_height p0 p1 F k13 nF)
def m_X3_passWhile (F : Nat) (t_paints : Nat → Int32) (t_inches : Nat → Int32) (t_night : Int32) (t_kinds : Nat → Int32) (t_men : Int32) (t_source : Int32) (t_stride : Int32) (t_height : Int32) (p0 : Int32) (p1 : Int32) : Option (Int32 × (Nat → Int32) × (Nat → Int32) × Int32) := (m_X3_inchesTaken F t_inches t_men).bind (fun v1 => (m_J6_bitCount_0f7a4 v1).bind (fun v2 => m_X3_passWhile_L14 t_kinds t_men t_source t_stride t_height p0 p1 F (fun (x9 : Int32) (w10 : Nat → Int32) (w11 : Nat → Int32) (w12 : Int32) => some (x9, w10, w11, w12)) F 0 v2 v1 t_paints t_inches t_night))
set_option maxHeartbeats 4000000 in
set_option maxRecDepth 100000 in
theorem c_X3_passWhile (l : Launch) (D : va_G) (cy : Nat → ClassId) (a_t : Nat) (a_t_paints : Nat) (a_t_inches : Nat) (a_t_kinds : Nat) (sz : Nat) (g_t_draw : Value) (t_paints : Nat → Int32) (t_inches : Nat → Int32) (t_night : Int32) (t_kinds : Nat → Int32) (t_men : Int32) (t_source : Int32) (t_stride : Int32) (t_height : Int32) (p0 : Int32) (p1 : Int32) (F : Nat) (out : Int32 × (Nat → Int32) × (Nat → Int32) × Int32) (h : m_X3_passWhile F t_paints t_inches t_night t_kinds t_men t_source t_stride t_height p0 p1 = some out) : MetM l D cy yX3_passWhile cX3_passWhile 6 (some .int) (rmG 3 71) [.ref a_t, .int p0, .int p1] sz [(a_t, .inr (3, [.ref a_t_paints, .ref a_t_inches, .int t_night, g_t_draw, .ref a_t_kinds, .int t_men, .int t_source, .int t_stride, .int t_height])), (a_t_paints, .inl (cy 0, 6, .inl t_paints)), (a_t_inches, .inl (cy 0, 6, .inl t_inches)), (a_t_kinds, .inl (cy 0, 6, .inl t_kinds))] (some (.int out.1)) [(a_t, .inr (3, [.ref a_t_paints, .ref a_t_inches, .int out.2.2.2, g_t_draw, .ref a_t_kinds, .int t_men, .int t_source, .int t_stride, .int t_height])), (a_t_paints, .inl (cy 0, 6, .inl out.2.1)), (a_t_inches, .inl (cy 0, 6, .inl out.2.2.1)), (a_t_kinds, .inl (cy 0, 6, .inl t_kinds))] := by
  refine startMi (own := RX3) (by decide) rfl (Nat.le_of_ble_eq_true rfl) ?_
  intro p e s m below meth c QQ A hx hb hml hown hg hK hP hD hS hA hret ls hl
  have hl : lv_has ls 6 [(0, .ref a_t), (1, .int p0), (2, .int p1)] := hl
  unfold m_X3_passWhile at h
  refine lv_aload_n hx hb dX3_passWhile_0 rfl (lv_at hl 0 rfl) ?_
  obtain ⟨v1, hv1, h⟩ := bind_e h
  refine callRV (As := []) (rest := []) (v0 := .int v1) hx hb hml hown hg (c_X3_inchesTaken l D cy a_t a_t_inches (.ref a_t_paints) (.int t_night) (g_t_draw) (.ref a_t_kinds) (.int t_source) (.int t_stride) (.int t_height) t_inches t_men F v1 hv1) q_390 q_610 q_56 q_388 q_389 hd_X3_inchesTaken ⟨(Nat.le_of_ble_eq_true rfl), (Nat.le_of_ble_eq_true rfl)⟩ hK hP [0, 2] rfl 0 3 rfl rfl rfl rfl rfl rfl hl.1 rfl (Nat.le_of_ble_eq_true rfl) dX3_passWhile_1 ?_
  refine lv_istore_n (lv' := [(3, .int v1), (0, .ref a_t), (1, .int p0), (2, .int p1)]) hx hb dX3_passWhile_4 rfl hl (by decide) rfl (fun ls hl => ?_)
  refine lv_iload_n hx hb dX3_passWhile_5 rfl (lv_at hl 0 rfl) ?_
  obtain ⟨v2, hv2, h⟩ := bind_e h
  refine callRS (As := [.int v1]) (rest := []) (v0 := .int v2) hx hb hml hown hg (c_J6_bitCount_0f7a4 l D cy v1 v2 hv2) q_398 q_396 q_64 q_397 hd_J6_bitCount_0f7a4 ⟨(Nat.le_of_ble_eq_true rfl), (Nat.le_of_ble_eq_true rfl)⟩ hK hP [] rfl rfl rfl rfl hl.1 rfl (Nat.le_of_ble_eq_true rfl) dX3_passWhile_6 ?_
  refine lv_istore (lv' := [(4, .int v2), (3, .int v1), (0, .ref a_t), (1, .int p0), (2, .int p1)]) hx hb dX3_passWhile_9 hl (by decide) rfl (fun ls hl => ?_)
  refine lv_iconst (v := 0) hx hb dX3_passWhile_11 kI_0 ?_
  refine lv_istore (lv' := [(5, .int 0), (4, .int v2), (3, .int v1), (0, .ref a_t), (1, .int p0), (2, .int p1)]) hx hb dX3_passWhile_12 hl (by decide) rfl (fun ls hl => ?_)
  obtain ⟨k13, hk13, h⟩ := kap (fun z => m_X3_passWhile_L14 t_kinds t_men t_source t_stride t_height p0 p1 F z F 0 v2 v1 t_paints t_inches t_night) h
  have J13 : ∀ (x9 : Int32) (w10 : Nat → Int32) (w11 : Nat → Int32) (w12 : Int32) (H : Heap) (locs : List Loc) (ls : Array Slot), va_P D vwCl [(a_t, .inr (3, [.ref a_t_paints, .ref a_t_inches, .int w12, g_t_draw, .ref a_t_kinds, .int t_men, .int t_source, .int t_stride, .int t_height])), (a_t_paints, .inl (cy 0, 6, .inl w10)), (a_t_inches, .inl (cy 0, 6, .inl w11)), (a_t_kinds, .inl (cy 0, 6, .inl t_kinds))] H → va_D A [(a_t, .inr (3, [.ref a_t_paints, .ref a_t_inches, .int w12, g_t_draw, .ref a_t_kinds, .int t_men, .int t_source, .int t_stride, .int t_height])), (a_t_paints, .inl (cy 0, 6, .inl w10)), (a_t_inches, .inl (cy 0, 6, .inl w11)), (a_t_kinds, .inl (cy 0, 6, .inl t_kinds))] → va_S A s.heap H locs → lv_has ls 6 [(4, .int x9)] → k13 x9 w10 w11 w12 = some out → W p l e (rmG 3 71) s m [.ref a_t, .int p0, .int p1].toArray below meth c H locs 0 0 QQ (F0 m 44 ls []) := by
    intro x9 w10 w11 w12 H locs ls hP hD hS hl h
    rw [hk13] at h
    refine lv_iload hx hb dX3_passWhile_44 (lv_at hl 0 rfl) ?_
    exact hret _ _ _ _ ls 46 dX3_passWhile_46 rfl (by rw [← Option.some.inj h]) (by rw [← Option.some.inj h]) hP hD hS
  have L14 : ∀ (n14 : Nat) (x3 : Int32) (x4 : Int32) (x5 : Int32) (w6 : Nat → Int32) (w7 : Nat → Int32) (w8 : Int32) (H : Heap) (locs : List Loc) (ls : Array Slot), va_P D vwCl [(a_t, .inr (3, [.ref a_t_paints, .ref a_t_inches, .int w8, g_t_draw, .ref a_t_kinds, .int t_men, .int t_source, .int t_stride, .int t_height])), (a_t_paints, .inl (cy 0, 6, .inl w6)), (a_t_inches, .inl (cy 0, 6, .inl w7)), (a_t_kinds, .inl (cy 0, 6, .inl t_kinds))] H → va_D A [(a_t, .inr (3, [.ref a_t_paints, .ref a_t_inches, .int w8, g_t_draw, .ref a_t_kinds, .int t_men, .int t_source, .int t_stride, .int t_height])), (a_t_paints, .inl (cy 0, 6, .inl w6)), (a_t_inches, .inl (cy 0, 6, .inl w7)), (a_t_kinds, .inl (cy 0, 6, .inl t_kinds))] → va_S A s.heap H locs → lv_has ls 6 [(5, .int x3), (4, .int x4), (3, .int x5), (0, .ref a_t), (1, .int p0), (2, .int p1)] → m_X3_passWhile_L14 t_kinds t_men t_source t_stride t_height p0 p1 F k13 n14 x3 x4 x5 w6 w7 w8 = some out → W p l e (rmG 3 71) s m [.ref a_t, .int p0, .int p1].toArray below meth c H locs 0 0 QQ (F0 m 14 ls []) := by
    intro n14
    induction n14 with
    | zero => intro x3 x4 x5 w6 w7 w8 H locs ls hP hD hS hl h; exact nomatch (show (none : Option (Int32 × (Nat → Int32) × (Nat → Int32) × Int32)) = some out from h)
    | succ n14 ih =>
        intro x3 x4 x5 w6 w7 w8 H locs ls hP hD hS hl h
        have h : m_X3_passWhile_L14s t_kinds t_men t_source t_stride t_height p0 p1 F k13 (m_X3_passWhile_L14 t_kinds t_men t_source t_stride t_height p0 p1 F k13 n14) x3 x4 x5 w6 w7 w8 = some out := h
        unfold m_X3_passWhile_L14s at h
        refine lv_iload hx hb dX3_passWhile_14 (lv_at hl 0 rfl) ?_
        refine lv_iload_n hx hb dX3_passWhile_16 rfl (lv_at hl 4 rfl) ?_
        refine lv_icmp_ge (tgt := 44) hx hb dX3_passWhile_17 (by decide) (fun c16 => ?_) (fun c16 => ?_)
        · have h := it_t c16 h
          exact J13 x4 w6 w7 w8 _ _ _ hP hD hS (lv_sub hl [1] rfl) h
        · have h := it_f c16 h
          refine lv_iload hx hb dX3_passWhile_20 (lv_at hl 1 rfl) ?_
          refine lv_iload_n hx hb dX3_passWhile_22 rfl (lv_at hl 5 rfl) ?_
          refine lv_icmp_lt (tgt := 44) hx hb dX3_passWhile_23 (by decide) (fun c17 => ?_) (fun c17 => ?_)
          · have h := it_t c17 h
            exact J13 x4 w6 w7 w8 _ _ _ hP hD hS (lv_sub hl [1] rfl) h
          · have h := it_f c17 h
            refine lv_aload_n hx hb dX3_passWhile_26 rfl (lv_at hl 3 rfl) ?_
            refine lv_iload_n hx hb dX3_passWhile_27 rfl (lv_at hl 2 rfl) ?_
            obtain ⟨v18, hv18, h⟩ := bind_e h
            refine callMV (As := [.int x5]) (rest := []) (wr := []) (w2 := [(a_t, .inr (3, [.ref a_t_paints, .ref a_t_inches, .int v18.2.2.2, g_t_draw, .ref a_t_kinds, .int t_men, .int t_source, .int t_stride, .int t_height])), (a_t_paints, .inl (cy 0, 6, .inl v18.2.1)), (a_t_inches, .inl (cy 0, 6, .inl v18.2.2.1)), (a_t_kinds, .inl (cy 0, 6, .inl t_kinds))]) hx hb hml hown hg (c_X3_passNightBy l D cy a_t a_t_paints a_t_inches a_t_kinds _ (g_t_draw) w6 w7 w8 t_kinds t_men t_source t_stride t_height x5 F v18 hv18) q_644 q_641 q_56 q_642 q_643 hd_X3_passNightBy ⟨(Nat.le_of_ble_eq_true rfl), (Nat.le_of_ble_eq_true rfl)⟩ hK hP hD hS hA [0, 1, 2, 3] [] rfl rfl rfl rfl (by decide) [0, 1, 2, 3] rfl rfl 0 3 rfl rfl rfl rfl rfl rfl hl.1 rfl rfl (Nat.le_of_ble_eq_true rfl) dX3_passWhile_28 (fun H locs hP hD hS => ?_)
            refine lv_istore_n (lv' := [(3, .int v18.1), (5, .int x3), (4, .int x4), (0, .ref a_t), (1, .int p0), (2, .int p1)]) hx hb dX3_passWhile_31 rfl hl (by decide) rfl (fun ls hl => ?_)
            refine lv_iload_n hx hb dX3_passWhile_32 rfl (lv_at hl 0 rfl) ?_
            obtain ⟨v19, hv19, h⟩ := bind_e h
            refine callRS (As := [.int v18.1]) (rest := []) (v0 := .int v19) hx hb hml hown hg (c_J6_bitCount_0f7a4 l D cy v18.1 v19 hv19) q_398 q_396 q_64 q_397 hd_J6_bitCount_0f7a4 ⟨(Nat.le_of_ble_eq_true rfl), (Nat.le_of_ble_eq_true rfl)⟩ hK hP [] rfl rfl rfl rfl hl.1 rfl (Nat.le_of_ble_eq_true rfl) dX3_passWhile_33 ?_
            refine lv_istore (lv' := [(4, .int v19), (3, .int v18.1), (5, .int x3), (0, .ref a_t), (1, .int p0), (2, .int p1)]) hx hb dX3_passWhile_36 hl (by decide) rfl (fun ls hl => ?_)
            obtain ⟨x20, ex20⟩ : ∃ y : Int32, y = x3 + 1 := ⟨_, rfl⟩
            have h := bnd_e ex20 h
            refine lv_iinc (v := x20) (lv' := [(5, .int x20), (4, .int v19), (3, .int v18.1), (0, .ref a_t), (1, .int p0), (2, .int p1)]) hx hb dX3_passWhile_38 hl (k := 2) rfl (inc_e kI_1 ex20) (by decide) rfl (fun ls hl => ?_)
            refine lv_goto (tgt := 14) hx hb dX3_passWhile_41 (by decide) ?_
            exact ih x20 v19 v18.1 v18.2.1 v18.2.2.1 v18.2.2.2 _ _ _ hP hD hS (lv_sub hl [0, 1, 2, 3, 4, 5] rfl) h
  exact L14 F 0 v2 v1 t_paints t_inches t_night _ _ _ hP hD hS (lv_sub hl [0, 1, 2, 3, 4, 5] rfl) h

def m_X3_marchByDraw (F : Nat) (t_inches : Nat → Int32) (t_draw : Int32) (t_men : Int32) : Option ((Nat → Int32) × Int32) := (if t_men ≤ 0 then some (t_inches, ((t_draw * 1103515245) + 12345) &&& 2147483647) else nzI t_men (bnd (((((t_draw * 1103515245) + 12345) &&& 2147483647) / 65536) - ((((t_draw * 1103515245) + 12345) &&& 2147483647) / 65536) / t_men * t_men) (fun x3 => bnd (((((t_draw * 1103515245) + 12345) &&& 2147483647) / 128) - ((((t_draw * 1103515245) + 12345) &&& 2147483647) / 128) / 12 * 12) (fun x4 => (m_X3_stands t_inches x3).bind (fun v5 => (if v5 = 0 then some (t_inches, ((t_draw * 1103515245) + 12345) &&& 2147483647) else (m_X3_whoIsAt F t_inches t_men x4).bind (fun v7 => (if v7 = (-4) then chk x3 6 (some (upd t_inches x3.toNatClampNeg x4, ((t_draw * 1103515245) + 12345) &&& 2147483647)) else some (t_inches, ((t_draw * 1103515245) + 12345) &&& 2147483647)))))))))
set_option maxHeartbeats 4000000 in
set_option maxRecDepth 100000 in
theorem c_X3_marchByDraw (l : Launch) (D : va_G) (cy : Nat → ClassId) (a_t : Nat) (a_t_inches : Nat) (sz : Nat) (g_t_paints : Value) (g_t_night : Value) (g_t_kinds : Value) (g_t_source : Value) (g_t_stride : Value) (g_t_height : Value) (t_inches : Nat → Int32) (t_draw : Int32) (t_men : Int32) (F : Nat) (out : (Nat → Int32) × Int32) (h : m_X3_marchByDraw F t_inches t_draw t_men = some out) : MetM l D cy yX3_marchByDraw cX3_marchByDraw 3 none (rmG 1 22) [.ref a_t] sz [(a_t, .inr (3, [g_t_paints, .ref a_t_inches, g_t_night, .int t_draw, g_t_kinds, .int t_men, g_t_source, g_t_stride, g_t_height])), (a_t_inches, .inl (cy 0, 6, .inl t_inches))] none [(a_t, .inr (3, [g_t_paints, .ref a_t_inches, g_t_night, .int out.2, g_t_kinds, .int t_men, g_t_source, g_t_stride, g_t_height])), (a_t_inches, .inl (cy 0, 6, .inl out.1))] := by
  refine startMv (own := RX3) (by decide) rfl (Nat.le_of_ble_eq_true rfl) ?_
  intro p e s m below meth c QQ A hx hb hml hown hg hK hP hD hS hA hret ls hl
  have hl : lv_has ls 3 [(0, .ref a_t)] := hl
  unfold m_X3_marchByDraw at h
  refine lv_aload_n hx hb dX3_marchByDraw_0 rfl (lv_at hl 0 rfl) ?_
  refine lv_aload_n hx hb dX3_marchByDraw_1 rfl (lv_at hl 0 rfl) ?_
  refine va_get (D := D) (ci := 3) (v := .int t_draw) (C := RX3) (T := TX3) (N := 9) hx hb hg inG_X3 hown hK hP 0 rfl rfl 3 (by decide) (hg _ q_127) (fun x9 h9 => u_same (hg _ q_126) x9 h9) rfl dX3_marchByDraw_2 ?_
  refine lv_ldc (v := 1103515245) hx hb hown (hg _ q_633) dX3_marchByDraw_5 ?_
  refine lv_imul hx hb dX3_marchByDraw_7 ?_
  refine lv_sipush (v := 12345) hx hb dX3_marchByDraw_8 kS_12345 ?_
  refine lv_iadd hx hb dX3_marchByDraw_11 ?_
  refine lv_ldc (v := 2147483647) hx hb hown (hg _ q_634) dX3_marchByDraw_12 ?_
  refine lv_iand hx hb dX3_marchByDraw_14 ?_
  refine va_put (D := D) (ci := 3) (v := .int (((t_draw * 1103515245) + 12345) &&& 2147483647)) (ty := .int) (C := RX3) (T := TX3) (N := 9) hx hb hg inG_X3 tyX3 tyX3_ok nmX3 hown hK hP hD hS 0 rfl rfl 3 (by decide) (hg _ q_127) (fun x9 h9 => u_same (hg _ q_126) x9 h9) rfl (tyX3_ok 3 (by decide)) rfl rfl (Nat.le_of_ble_eq_true rfl) dX3_marchByDraw_15 (fun H locs hP hD hS => ?_)
  have hP : va_P D vwCl [(a_t, .inr (3, [g_t_paints, .ref a_t_inches, g_t_night, .int (((t_draw * 1103515245) + 12345) &&& 2147483647), g_t_kinds, .int t_men, g_t_source, g_t_stride, g_t_height])), (a_t_inches, .inl (cy 0, 6, .inl t_inches))] H := hP
  have hD : va_D A [(a_t, .inr (3, [g_t_paints, .ref a_t_inches, g_t_night, .int (((t_draw * 1103515245) + 12345) &&& 2147483647), g_t_kinds, .int t_men, g_t_source, g_t_stride, g_t_height])), (a_t_inches, .inl (cy 0, 6, .inl t_inches))] := hD
  refine lv_aload_n hx hb dX3_marchByDraw_18 rfl (lv_at hl 0 rfl) ?_
  refine va_get (D := D) (ci := 3) (v := .int t_men) (C := RX3) (T := TX3) (N := 9) hx hb hg inG_X3 hown hK hP 0 rfl rfl 5 (by decide) (hg _ q_93) (fun _ h9 => h9) rfl dX3_marchByDraw_19 ?_
  refine lv_if_le (tgt := 75) hx hb dX3_marchByDraw_22 (by decide) (fun c1 => ?_) (fun c1 => ?_)
  · have h := it_t c1 h
    exact hret _ _ _ ls 75 dX3_marchByDraw_75 (by rw [← Option.some.inj h]) hP hD hS
  · have h := it_f c1 h
    refine lv_aload_n hx hb dX3_marchByDraw_25 rfl (lv_at hl 0 rfl) ?_
    refine va_get (D := D) (ci := 3) (v := .int (((t_draw * 1103515245) + 12345) &&& 2147483647)) (C := RX3) (T := TX3) (N := 9) hx hb hg inG_X3 hown hK hP 0 rfl rfl 3 (by decide) (hg _ q_127) (fun x9 h9 => u_same (hg _ q_126) x9 h9) rfl dX3_marchByDraw_26 ?_
    refine lv_ldc (v := 65536) hx hb hown (hg _ q_635) dX3_marchByDraw_29 ?_
    refine lv_idiv hx hb dX3_marchByDraw_31 (by decide) ?_
    refine lv_aload_n hx hb dX3_marchByDraw_32 rfl (lv_at hl 0 rfl) ?_
    refine va_get (D := D) (ci := 3) (v := .int t_men) (C := RX3) (T := TX3) (N := 9) hx hb hg inG_X3 hown hK hP 0 rfl rfl 5 (by decide) (hg _ q_93) (fun _ h9 => h9) rfl dX3_marchByDraw_33 ?_
    obtain ⟨hz2, h⟩ := nzI_e h
    refine lv_irem hx hb dX3_marchByDraw_36 hz2 ?_
    refine lv_topi (fun x3 ex3 => ?_)
    have h := bnd_e ex3 h
    refine lv_istore_n (lv' := [(1, .int x3), (0, .ref a_t)]) hx hb dX3_marchByDraw_37 rfl hl (by decide) rfl (fun ls hl => ?_)
    refine lv_aload_n hx hb dX3_marchByDraw_38 rfl (lv_at hl 1 rfl) ?_
    refine va_get (D := D) (ci := 3) (v := .int (((t_draw * 1103515245) + 12345) &&& 2147483647)) (C := RX3) (T := TX3) (N := 9) hx hb hg inG_X3 hown hK hP 0 rfl rfl 3 (by decide) (hg _ q_127) (fun x9 h9 => u_same (hg _ q_126) x9 h9) rfl dX3_marchByDraw_39 ?_
    refine lv_sipush (v := 128) hx hb dX3_marchByDraw_42 kS_128 ?_
    refine lv_idiv hx hb dX3_marchByDraw_45 (by decide) ?_
    refine lv_bipush (v := 12) hx hb dX3_marchByDraw_46 kB_12 ?_
    refine lv_irem hx hb dX3_marchByDraw_48 (by decide) ?_
    refine lv_topi (fun x4 ex4 => ?_)
    have h := bnd_e ex4 h
    refine lv_istore_n (lv' := [(2, .int x4), (1, .int x3), (0, .ref a_t)]) hx hb dX3_marchByDraw_49 rfl hl (by decide) rfl (fun ls hl => ?_)
    refine lv_aload_n hx hb dX3_marchByDraw_50 rfl (lv_at hl 2 rfl) ?_
    refine lv_iload_n hx hb dX3_marchByDraw_51 rfl (lv_at hl 1 rfl) ?_
    obtain ⟨v5, hv5, h⟩ := bind_e h
    refine callRV (As := [.int x3]) (rest := []) (v0 := .int v5) hx hb hml hown hg (c_X3_stands l D cy a_t a_t_inches (g_t_paints) (g_t_night) (.int (((t_draw * 1103515245) + 12345) &&& 2147483647)) (g_t_kinds) (.int t_men) (g_t_source) (g_t_stride) (g_t_height) t_inches x3 v5 hv5) q_386 q_391 q_56 q_384 q_385 hd_X3_stands ⟨(Nat.le_of_ble_eq_true rfl), (Nat.le_of_ble_eq_true rfl)⟩ hK hP [0, 1] rfl 0 3 rfl rfl rfl rfl rfl rfl hl.1 rfl (Nat.le_of_ble_eq_true rfl) dX3_marchByDraw_52 ?_
    refine lv_if_eq (tgt := 75) hx hb dX3_marchByDraw_55 (by decide) (fun c6 => ?_) (fun c6 => ?_)
    · have h := it_t c6 h
      exact hret _ _ _ ls 75 dX3_marchByDraw_75 (by rw [← Option.some.inj h]) hP hD hS
    · have h := it_f c6 h
      refine lv_aload_n hx hb dX3_marchByDraw_58 rfl (lv_at hl 2 rfl) ?_
      refine lv_iload_n hx hb dX3_marchByDraw_59 rfl (lv_at hl 0 rfl) ?_
      obtain ⟨v7, hv7, h⟩ := bind_e h
      refine callRV (As := [.int x4]) (rest := []) (v0 := .int v7) hx hb hml hown hg (c_X3_whoIsAt l D cy a_t a_t_inches (g_t_paints) (g_t_night) (.int (((t_draw * 1103515245) + 12345) &&& 2147483647)) (g_t_kinds) (g_t_source) (g_t_stride) (g_t_height) t_inches t_men x4 F v7 hv7) q_355 q_636 q_56 q_353 q_354 hd_X3_whoIsAt ⟨(Nat.le_of_ble_eq_true rfl), (Nat.le_of_ble_eq_true rfl)⟩ hK hP [0, 1] rfl 0 3 rfl rfl rfl rfl rfl rfl hl.1 rfl (Nat.le_of_ble_eq_true rfl) dX3_marchByDraw_60 ?_
      refine lv_bipush (v := (-4)) hx hb dX3_marchByDraw_63 kB_m4 ?_
      refine lv_icmp_ne (tgt := 75) hx hb dX3_marchByDraw_65 (by decide) (fun c8 => ?_) (fun c8 => ?_)
      · have h := it_f c8 h
        exact hret _ _ _ ls 75 dX3_marchByDraw_75 (by rw [← Option.some.inj h]) hP hD hS
      · have h := it_t c8 h
        refine lv_aload_n hx hb dX3_marchByDraw_68 rfl (lv_at hl 2 rfl) ?_
        refine va_get (D := D) (ci := 3) (v := .ref a_t_inches) (C := RX3) (T := TX3) (N := 9) hx hb hg inG_X3 hown hK hP 0 rfl rfl 1 (by decide) (hg _ q_117) (fun x9 h9 => u_same (hg _ q_116) x9 h9) rfl dX3_marchByDraw_69 ?_
        refine lv_iload_n hx hb dX3_marchByDraw_72 rfl (lv_at hl 1 rfl) ?_
        refine lv_iload_n hx hb dX3_marchByDraw_73 rfl (lv_at hl 0 rfl) ?_
        obtain ⟨hi9, h⟩ := chk_e h
        refine va_iast hx hb hK hP hD hS 1 0 rfl rfl hi9 dX3_marchByDraw_74 (fun H locs hP hD hS => ?_)
        have hP : va_P D vwCl [(a_t, .inr (3, [g_t_paints, .ref a_t_inches, g_t_night, .int (((t_draw * 1103515245) + 12345) &&& 2147483647), g_t_kinds, .int t_men, g_t_source, g_t_stride, g_t_height])), (a_t_inches, .inl (cy 0, 6, .inl (upd t_inches x3.toNatClampNeg x4)))] H := hP
        have hD : va_D A [(a_t, .inr (3, [g_t_paints, .ref a_t_inches, g_t_night, .int (((t_draw * 1103515245) + 12345) &&& 2147483647), g_t_kinds, .int t_men, g_t_source, g_t_stride, g_t_height])), (a_t_inches, .inl (cy 0, 6, .inl (upd t_inches x3.toNatClampNeg x4)))] := hD
        exact hret _ _ _ ls 75 dX3_marchByDraw_75 (by rw [← Option.some.inj h]) hP hD hS

def m_X3_howManyStand (F : Nat) (t_inches : Nat → Int32) (t_men : Int32) : Option (Int32) := (m_X3_inchesTaken F t_inches t_men).bind (fun v1 => (m_J6_bitCount_0f7a4 v1).bind (fun v2 => some v2))
set_option maxHeartbeats 4000000 in
set_option maxRecDepth 100000 in
theorem c_X3_howManyStand (l : Launch) (D : va_G) (cy : Nat → ClassId) (a_t : Nat) (a_t_inches : Nat) (g_t_paints : Value) (g_t_night : Value) (g_t_draw : Value) (g_t_kinds : Value) (g_t_source : Value) (g_t_stride : Value) (g_t_height : Value) (t_inches : Nat → Int32) (t_men : Int32) (F : Nat) (out : Int32) (h : m_X3_howManyStand F t_inches t_men = some out) : MetR l D cy yX3_howManyStand cX3_howManyStand 1 (some .int) (rmG 2 43) [.ref a_t] [(a_t, .inr (3, [g_t_paints, .ref a_t_inches, g_t_night, g_t_draw, g_t_kinds, .int t_men, g_t_source, g_t_stride, g_t_height])), (a_t_inches, .inl (cy 0, 6, .inl t_inches))] (some (.int out)) := by
  refine startR (own := RX3) (by decide) rfl (Nat.le_of_ble_eq_true rfl) ?_
  intro p e s m below meth c QQ hx hb hml hown hg hK hP hret ls hl
  have hl : lv_has ls 1 [(0, .ref a_t)] := hl
  unfold m_X3_howManyStand at h
  refine lv_aload_n hx hb dX3_howManyStand_0 rfl (lv_at hl 0 rfl) ?_
  obtain ⟨v1, hv1, h⟩ := bind_e h
  refine callRV (As := []) (rest := []) (v0 := .int v1) hx hb hml hown hg (c_X3_inchesTaken l D cy a_t a_t_inches (g_t_paints) (g_t_night) (g_t_draw) (g_t_kinds) (g_t_source) (g_t_stride) (g_t_height) t_inches t_men F v1 hv1) q_390 q_610 q_56 q_388 q_389 hd_X3_inchesTaken ⟨(Nat.le_of_ble_eq_true rfl), (Nat.le_of_ble_eq_true rfl)⟩ hK hP [0, 1] rfl 0 3 rfl rfl rfl rfl rfl rfl hl.1 rfl (Nat.le_of_ble_eq_true rfl) dX3_howManyStand_1 ?_
  obtain ⟨v2, hv2, h⟩ := bind_e h
  refine callRS (As := [.int v1]) (rest := []) (v0 := .int v2) hx hb hml hown hg (c_J6_bitCount_0f7a4 l D cy v1 v2 hv2) q_398 q_396 q_64 q_397 hd_J6_bitCount_0f7a4 ⟨(Nat.le_of_ble_eq_true rfl), (Nat.le_of_ble_eq_true rfl)⟩ hK hP [] rfl rfl rfl rfl hl.1 rfl (Nat.le_of_ble_eq_true rfl) dX3_howManyStand_4 ?_
  exact hret _ ls 7 dX3_howManyStand_7 rfl (congrArg (fun z => some (Value.int z)) (Option.some.inj h))

def m_X3_passSome (F : Nat) (t_paints : Nat → Int32) (t_inches : Nat → Int32) (t_night : Int32) (t_kinds : Nat → Int32) (t_men : Int32) (t_source : Int32) (t_stride : Int32) (t_height : Int32) (p0 : Int32) : Option ((Nat → Int32) × (Nat → Int32) × Int32) := (m_X3_passWhile F t_paints t_inches t_night t_kinds t_men t_source t_stride t_height p0 0).bind (fun v1 => some (v1.2.1, v1.2.2.1, v1.2.2.2))
set_option maxHeartbeats 4000000 in
set_option maxRecDepth 100000 in
theorem c_X3_passSome (l : Launch) (D : va_G) (cy : Nat → ClassId) (a_t : Nat) (a_t_paints : Nat) (a_t_inches : Nat) (a_t_kinds : Nat) (sz : Nat) (g_t_draw : Value) (t_paints : Nat → Int32) (t_inches : Nat → Int32) (t_night : Int32) (t_kinds : Nat → Int32) (t_men : Int32) (t_source : Int32) (t_stride : Int32) (t_height : Int32) (p0 : Int32) (F : Nat) (out : (Nat → Int32) × (Nat → Int32) × Int32) (h : m_X3_passSome F t_paints t_inches t_night t_kinds t_men t_source t_stride t_height p0 = some out) : MetM l D cy yX3_passSome cX3_passSome 2 none (rmG 4 96) [.ref a_t, .int p0] sz [(a_t, .inr (3, [.ref a_t_paints, .ref a_t_inches, .int t_night, g_t_draw, .ref a_t_kinds, .int t_men, .int t_source, .int t_stride, .int t_height])), (a_t_paints, .inl (cy 0, 6, .inl t_paints)), (a_t_inches, .inl (cy 0, 6, .inl t_inches)), (a_t_kinds, .inl (cy 0, 6, .inl t_kinds))] none [(a_t, .inr (3, [.ref a_t_paints, .ref a_t_inches, .int out.2.2, g_t_draw, .ref a_t_kinds, .int t_men, .int t_source, .int t_stride, .int t_height])), (a_t_paints, .inl (cy 0, 6, .inl out.1)), (a_t_inches, .inl (cy 0, 6, .inl out.2.1)), (a_t_kinds, .inl (cy 0, 6, .inl t_kinds))] := by
  refine startMv (own := RX3) (by decide) rfl (Nat.le_of_ble_eq_true rfl) ?_
  intro p e s m below meth c QQ A hx hb hml hown hg hK hP hD hS hA hret ls hl
  have hl : lv_has ls 2 [(0, .ref a_t), (1, .int p0)] := hl
  unfold m_X3_passSome at h
  refine lv_aload_n hx hb dX3_passSome_0 rfl (lv_at hl 0 rfl) ?_
  refine lv_iload_n hx hb dX3_passSome_1 rfl (lv_at hl 1 rfl) ?_
  refine lv_iconst (v := 0) hx hb dX3_passSome_2 kI_0 ?_
  obtain ⟨v1, hv1, h⟩ := bind_e h
  refine callMV (As := [.int p0, .int 0]) (rest := []) (wr := []) (w2 := [(a_t, .inr (3, [.ref a_t_paints, .ref a_t_inches, .int v1.2.2.2, g_t_draw, .ref a_t_kinds, .int t_men, .int t_source, .int t_stride, .int t_height])), (a_t_paints, .inl (cy 0, 6, .inl v1.2.1)), (a_t_inches, .inl (cy 0, 6, .inl v1.2.2.1)), (a_t_kinds, .inl (cy 0, 6, .inl t_kinds))]) hx hb hml hown hg (c_X3_passWhile l D cy a_t a_t_paints a_t_inches a_t_kinds _ (g_t_draw) t_paints t_inches t_night t_kinds t_men t_source t_stride t_height p0 0 F v1 hv1) q_697 q_694 q_56 q_695 q_696 hd_X3_passWhile ⟨(Nat.le_of_ble_eq_true rfl), (Nat.le_of_ble_eq_true rfl)⟩ hK hP hD hS hA [0, 1, 2, 3] [] rfl rfl rfl rfl (by decide) [0, 1, 2, 3] rfl rfl 0 3 rfl rfl rfl rfl rfl rfl hl.1 rfl rfl (Nat.le_of_ble_eq_true rfl) dX3_passSome_3 (fun H locs hP hD hS => ?_)
  refine lv_pop hx hb dX3_passSome_6 rfl ?_
  exact hret _ _ _ ls 7 dX3_passSome_7 (by rw [← Option.some.inj h]) hP hD hS
