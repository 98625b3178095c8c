theorem dJ0_isLatin1_aae02_0 : decode cJ0_isLatin1_aae02 0 = .ok (.getstatic 38, 3) := by decide +kernel
theorem dJ0_isLatin1_aae02_3 : decode cJ0_isLatin1_aae02 3 = .ok (.ifCond .eq 14, 3) := by decide +kernel
theorem dJ0_isLatin1_aae02_6 : decode cJ0_isLatin1_aae02 6 = .ok (.aload_n 0, 1) := by decide +kernel
theorem dJ0_isLatin1_aae02_7 : decode cJ0_isLatin1_aae02 7 = .ok (.getfield 15, 3) := by decide +kernel
theorem dJ0_isLatin1_aae02_10 : decode cJ0_isLatin1_aae02 10 = .ok (.ifCond .ne 7, 3) := by decide +kernel
theorem dJ0_isLatin1_aae02_13 : decode cJ0_isLatin1_aae02 13 = .ok (.iconst 1, 1) := by decide +kernel
theorem dJ0_isLatin1_aae02_14 : decode cJ0_isLatin1_aae02 14 = .ok (.goto 4, 3) := by decide +kernel
theorem dJ0_isLatin1_aae02_17 : decode cJ0_isLatin1_aae02 17 = .ok (.iconst 0, 1) := by decide +kernel
theorem dJ0_isLatin1_aae02_18 : decode cJ0_isLatin1_aae02 18 = .ok (.ireturn, 1) := by decide +kernel
theorem dJ0_coder_7d493_0 : decode cJ0_coder_7d493 0 = .ok (.getstatic 38, 3) := by decide +kernel
theorem dJ0_coder_7d493_3 : decode cJ0_coder_7d493 3 = .ok (.ifCond .eq 10, 3) := by decide +kernel
theorem dJ0_coder_7d493_6 : decode cJ0_coder_7d493 6 = .ok (.aload_n 0, 1) := by decide +kernel
theorem dJ0_coder_7d493_7 : decode cJ0_coder_7d493 7 = .ok (.getfield 15, 3) := by decide +kernel
theorem dJ0_coder_7d493_10 : decode cJ0_coder_7d493 10 = .ok (.goto 4, 3) := by decide +kernel
theorem dJ0_coder_7d493_13 : decode cJ0_coder_7d493 13 = .ok (.iconst 1, 1) := by decide +kernel
theorem dJ0_coder_7d493_14 : decode cJ0_coder_7d493 14 = .ok (.ireturn, 1) := by decide +kernel
theorem dJ0_length_8abf5_0 : decode cJ0_length_8abf5 0 = .ok (.aload_n 0, 1) := by decide +kernel
theorem dJ0_length_8abf5_1 : decode cJ0_length_8abf5 1 = .ok (.getfield 9, 3) := by decide +kernel
theorem dJ0_length_8abf5_4 : decode cJ0_length_8abf5 4 = .ok (.arraylength, 1) := by decide +kernel
theorem dJ0_length_8abf5_5 : decode cJ0_length_8abf5 5 = .ok (.aload_n 0, 1) := by decide +kernel
theorem dJ0_length_8abf5_6 : decode cJ0_length_8abf5 6 = .ok (.invokevirtual 335, 3) := by decide +kernel
theorem dJ0_length_8abf5_9 : decode cJ0_length_8abf5 9 = .ok (.ishr, 1) := by decide +kernel
theorem dJ0_length_8abf5_10 : decode cJ0_length_8abf5 10 = .ok (.ireturn, 1) := by decide +kernel
theorem dJ1_canEncode_9a6ad_0 : decode cJ1_canEncode_9a6ad 0 = .ok (.iload_n 0, 1) := by decide +kernel
theorem dJ1_canEncode_9a6ad_1 : decode cJ1_canEncode_9a6ad 1 = .ok (.ifCond .lt 14, 3) := by decide +kernel
theorem dJ1_canEncode_9a6ad_4 : decode cJ1_canEncode_9a6ad 4 = .ok (.iload_n 0, 1) := by decide +kernel
theorem dJ1_canEncode_9a6ad_5 : decode cJ1_canEncode_9a6ad 5 = .ok (.sipush 255, 3) := by decide +kernel
theorem dJ1_canEncode_9a6ad_8 : decode cJ1_canEncode_9a6ad 8 = .ok (.if_icmp .gt 7, 3) := by decide +kernel
theorem dJ1_canEncode_9a6ad_11 : decode cJ1_canEncode_9a6ad 11 = .ok (.iconst 1, 1) := by decide +kernel
theorem dJ1_canEncode_9a6ad_12 : decode cJ1_canEncode_9a6ad 12 = .ok (.goto 4, 3) := by decide +kernel
theorem dJ1_canEncode_9a6ad_15 : decode cJ1_canEncode_9a6ad 15 = .ok (.iconst 0, 1) := by decide +kernel
theorem dJ1_canEncode_9a6ad_16 : decode cJ1_canEncode_9a6ad 16 = .ok (.ireturn, 1) := by decide +kernel
theorem dJ1_indexOfChar_4cfef_0 : decode cJ1_indexOfChar_4cfef 0 = .ok (.iload_n 1, 1) := by decide +kernel
theorem dJ1_indexOfChar_4cfef_1 : decode cJ1_indexOfChar_4cfef 1 = .ok (.i2b, 1) := by decide +kernel
theorem dJ1_indexOfChar_4cfef_2 : decode cJ1_indexOfChar_4cfef 2 = .ok (.istore 4, 2) := by decide +kernel
theorem dJ1_indexOfChar_4cfef_4 : decode cJ1_indexOfChar_4cfef 4 = .ok (.iload_n 2, 1) := by decide +kernel
theorem dJ1_indexOfChar_4cfef_5 : decode cJ1_indexOfChar_4cfef 5 = .ok (.istore 5, 2) := by decide +kernel
theorem dJ1_indexOfChar_4cfef_7 : decode cJ1_indexOfChar_4cfef 7 = .ok (.iload 5, 2) := by decide +kernel
theorem dJ1_indexOfChar_4cfef_9 : decode cJ1_indexOfChar_4cfef 9 = .ok (.iload_n 3, 1) := by decide +kernel
theorem dJ1_indexOfChar_4cfef_10 : decode cJ1_indexOfChar_4cfef 10 = .ok (.if_icmp .ge 21, 3) := by decide +kernel
theorem dJ1_indexOfChar_4cfef_13 : decode cJ1_indexOfChar_4cfef 13 = .ok (.aload_n 0, 1) := by decide +kernel
theorem dJ1_indexOfChar_4cfef_14 : decode cJ1_indexOfChar_4cfef 14 = .ok (.iload 5, 2) := by decide +kernel
theorem dJ1_indexOfChar_4cfef_16 : decode cJ1_indexOfChar_4cfef 16 = .ok (.baload, 1) := by decide +kernel
theorem dJ1_indexOfChar_4cfef_17 : decode cJ1_indexOfChar_4cfef 17 = .ok (.iload 4, 2) := by decide +kernel
theorem dJ1_indexOfChar_4cfef_19 : decode cJ1_indexOfChar_4cfef 19 = .ok (.if_icmp .ne 6, 3) := by decide +kernel
theorem dJ1_indexOfChar_4cfef_22 : decode cJ1_indexOfChar_4cfef 22 = .ok (.iload 5, 2) := by decide +kernel
theorem dJ1_indexOfChar_4cfef_24 : decode cJ1_indexOfChar_4cfef 24 = .ok (.ireturn, 1) := by decide +kernel
theorem dJ1_indexOfChar_4cfef_25 : decode cJ1_indexOfChar_4cfef 25 = .ok (.iinc 5 1, 3) := by decide +kernel
theorem dJ1_indexOfChar_4cfef_28 : decode cJ1_indexOfChar_4cfef 28 = .ok (.goto (-21), 3) := by decide +kernel
theorem dJ1_indexOfChar_4cfef_31 : decode cJ1_indexOfChar_4cfef 31 = .ok (.iconst (-1), 1) := by decide +kernel
theorem dJ1_indexOfChar_4cfef_32 : decode cJ1_indexOfChar_4cfef 32 = .ok (.ireturn, 1) := by decide +kernel
theorem dJ1_indexOf_4cfef_0 : decode cJ1_indexOf_4cfef 0 = .ok (.iload_n 1, 1) := by decide +kernel
theorem dJ1_indexOf_4cfef_1 : decode cJ1_indexOf_4cfef 1 = .ok (.invokestatic 88, 3) := by decide +kernel
theorem dJ1_indexOf_4cfef_4 : decode cJ1_indexOf_4cfef 4 = .ok (.ifCond .ne 5, 3) := by decide +kernel
theorem dJ1_indexOf_4cfef_7 : decode cJ1_indexOf_4cfef 7 = .ok (.iconst (-1), 1) := by decide +kernel
theorem dJ1_indexOf_4cfef_8 : decode cJ1_indexOf_4cfef 8 = .ok (.ireturn, 1) := by decide +kernel
theorem dJ1_indexOf_4cfef_9 : decode cJ1_indexOf_4cfef 9 = .ok (.iload_n 2, 1) := by decide +kernel
theorem dJ1_indexOf_4cfef_10 : decode cJ1_indexOf_4cfef 10 = .ok (.iconst 0, 1) := by decide +kernel
theorem dJ1_indexOf_4cfef_11 : decode cJ1_indexOf_4cfef 11 = .ok (.invokestatic 92, 3) := by decide +kernel
theorem dJ1_indexOf_4cfef_14 : decode cJ1_indexOf_4cfef 14 = .ok (.istore_n 2, 1) := by decide +kernel
theorem dJ1_indexOf_4cfef_15 : decode cJ1_indexOf_4cfef 15 = .ok (.iload_n 3, 1) := by decide +kernel
theorem dJ1_indexOf_4cfef_16 : decode cJ1_indexOf_4cfef 16 = .ok (.aload_n 0, 1) := by decide +kernel
theorem dJ1_indexOf_4cfef_17 : decode cJ1_indexOf_4cfef 17 = .ok (.arraylength, 1) := by decide +kernel
theorem dJ1_indexOf_4cfef_18 : decode cJ1_indexOf_4cfef 18 = .ok (.invokestatic 38, 3) := by decide +kernel
theorem dJ1_indexOf_4cfef_21 : decode cJ1_indexOf_4cfef 21 = .ok (.istore_n 3, 1) := by decide +kernel
theorem dJ1_indexOf_4cfef_22 : decode cJ1_indexOf_4cfef 22 = .ok (.iload_n 2, 1) := by decide +kernel
theorem dJ1_indexOf_4cfef_23 : decode cJ1_indexOf_4cfef 23 = .ok (.iload_n 3, 1) := by decide +kernel
theorem dJ1_indexOf_4cfef_24 : decode cJ1_indexOf_4cfef 24 = .ok (.if_icmp .lt 5, 3) := by decide +kernel
theorem dJ1_indexOf_4cfef_27 : decode cJ1_indexOf_4cfef 27 = .ok (.iconst (-1), 1) := by decide +kernel
theorem dJ1_indexOf_4cfef_28 : decode cJ1_indexOf_4cfef 28 = .ok (.ireturn, 1) := by decide +kernel
theorem dJ1_indexOf_4cfef_29 : decode cJ1_indexOf_4cfef 29 = .ok (.aload_n 0, 1) := by decide +kernel
theorem dJ1_indexOf_4cfef_30 : decode cJ1_indexOf_4cfef 30 = .ok (.iload_n 1, 1) := by decide +kernel
theorem dJ1_indexOf_4cfef_31 : decode cJ1_indexOf_4cfef 31 = .ok (.iload_n 2, 1) := by decide +kernel
theorem dJ1_indexOf_4cfef_32 : decode cJ1_indexOf_4cfef 32 = .ok (.iload_n 3, 1) := by decide +kernel
theorem dJ1_indexOf_4cfef_33 : decode cJ1_indexOf_4cfef 33 = .ok (.invokestatic 95, 3) := by decide +kernel
theorem dJ1_indexOf_4cfef_36 : decode cJ1_indexOf_4cfef 36 = .ok (.ireturn, 1) := by decide +kernel
theorem dJ0_indexOf_7cf53_0 : decode cJ0_indexOf_7cf53 0 = .ok (.aload_n 0, 1) := by decide +kernel
theorem dJ0_indexOf_7cf53_1 : decode cJ0_indexOf_7cf53 1 = .ok (.invokevirtual 492, 3) := by decide +kernel
theorem dJ0_indexOf_7cf53_4 : decode cJ0_indexOf_7cf53 4 = .ok (.ifCond .eq 19, 3) := by decide +kernel
theorem dJ0_indexOf_7cf53_7 : decode cJ0_indexOf_7cf53 7 = .ok (.aload_n 0, 1) := by decide +kernel
theorem dJ0_indexOf_7cf53_8 : decode cJ0_indexOf_7cf53 8 = .ok (.getfield 9, 3) := by decide +kernel
theorem dJ0_indexOf_7cf53_11 : decode cJ0_indexOf_7cf53 11 = .ok (.iload_n 1, 1) := by decide +kernel
theorem dJ0_indexOf_7cf53_12 : decode cJ0_indexOf_7cf53 12 = .ok (.iload_n 2, 1) := by decide +kernel
theorem dJ0_indexOf_7cf53_13 : decode cJ0_indexOf_7cf53 13 = .ok (.aload_n 0, 1) := by decide +kernel
theorem dJ0_indexOf_7cf53_14 : decode cJ0_indexOf_7cf53 14 = .ok (.invokevirtual 505, 3) := by decide +kernel
theorem dJ0_indexOf_7cf53_17 : decode cJ0_indexOf_7cf53 17 = .ok (.invokestatic 637, 3) := by decide +kernel
theorem dJ0_indexOf_7cf53_20 : decode cJ0_indexOf_7cf53 20 = .ok (.goto 16, 3) := by decide +kernel
theorem dJ0_indexOf_7cf53_23 : decode cJ0_indexOf_7cf53 23 = .ok (.aload_n 0, 1) := by decide +kernel
theorem dJ0_indexOf_7cf53_24 : decode cJ0_indexOf_7cf53 24 = .ok (.getfield 9, 3) := by decide +kernel
theorem dJ0_indexOf_7cf53_27 : decode cJ0_indexOf_7cf53 27 = .ok (.iload_n 1, 1) := by decide +kernel
theorem dJ0_indexOf_7cf53_28 : decode cJ0_indexOf_7cf53 28 = .ok (.iload_n 2, 1) := by decide +kernel
theorem dJ0_indexOf_7cf53_29 : decode cJ0_indexOf_7cf53 29 = .ok (.aload_n 0, 1) := by decide +kernel
theorem dJ0_indexOf_7cf53_30 : decode cJ0_indexOf_7cf53 30 = .ok (.invokevirtual 505, 3) := by decide +kernel
theorem dJ0_indexOf_7cf53_33 : decode cJ0_indexOf_7cf53 33 = .ok (.invokestatic 640, 3) := by decide +kernel
theorem dJ0_indexOf_7cf53_36 : decode cJ0_indexOf_7cf53 36 = .ok (.ireturn, 1) := by decide +kernel
theorem dJ0_indexOf_0f7a4_0 : decode cJ0_indexOf_0f7a4 0 = .ok (.aload_n 0, 1) := by decide +kernel
theorem dJ0_indexOf_0f7a4_1 : decode cJ0_indexOf_0f7a4 1 = .ok (.iload_n 1, 1) := by decide +kernel
theorem dJ0_indexOf_0f7a4_2 : decode cJ0_indexOf_0f7a4 2 = .ok (.iconst 0, 1) := by decide +kernel
theorem dJ0_indexOf_0f7a4_3 : decode cJ0_indexOf_0f7a4 3 = .ok (.invokevirtual 633, 3) := by decide +kernel
theorem dJ0_indexOf_0f7a4_6 : decode cJ0_indexOf_0f7a4 6 = .ok (.ireturn, 1) := by decide +kernel
set_option maxHeartbeats 4000000 in
set_option maxRecDepth 100000 in
theorem c_J0_isLatin1_aae02 (l : Launch) (ka kv : Nat) : MetC l ka kv yJ0_isLatin1_aae02 cJ0_isLatin1_aae02 1 (some .boolean) (rmG 0 0) [.ref ka] (some (.int 1)) := by
  refine startC (own := RJ0) (by decide) rfl (Nat.le_of_ble_eq_true rfl) ?_
  intro p e s m below meth c QQ hx hb hml hown hg hC hret ls hl
  have hl : lv_has ls 1 [(0, .ref ka)] := hl
  refine va_gets (v := .int 1) hx hb hC.2.1 va_S.rf hown (hg _ q_513) (fun _ h9 => h9) dJ0_isLatin1_aae02_0 ?_
  refine lv_if_eq (tgt := 17) hx hb dJ0_isLatin1_aae02_3 (by decide) (fun c0 => absurd c0 (by decide)) (fun _ => ?_)
  refine lv_aload_n hx hb dJ0_isLatin1_aae02_6 rfl (lv_at hl 0 rfl) ?_
  refine vk_getf (v := .int 0) hx hb hC.2.2.2.1 va_S.rf hown (hg _ q_1310) (fun _ h9 => h9) dJ0_isLatin1_aae02_7 ?_
  refine lv_if_ne (tgt := 17) hx hb dJ0_isLatin1_aae02_10 (by decide) (fun c0 => absurd (by decide) c0) (fun _ => ?_)
  refine lv_iconst (v := 1) hx hb dJ0_isLatin1_aae02_13 kI_1 ?_
  refine lv_goto (tgt := 18) hx hb dJ0_isLatin1_aae02_14 (by decide) ?_
  exact hret _ ls 18 dJ0_isLatin1_aae02_18 (nar_z (Or.inr rfl)) rfl

set_option maxHeartbeats 4000000 in
set_option maxRecDepth 100000 in
theorem c_J0_coder_7d493 (l : Launch) (ka kv : Nat) : MetC l ka kv yJ0_coder_7d493 cJ0_coder_7d493 1 (some .byte) (rmG 0 0) [.ref ka] (some (.int 0)) := by
  refine startC (own := RJ0) (by decide) rfl (Nat.le_of_ble_eq_true rfl) ?_
  intro p e s m below meth c QQ hx hb hml hown hg hC hret ls hl
  have hl : lv_has ls 1 [(0, .ref ka)] := hl
  refine va_gets (v := .int 1) hx hb hC.2.1 va_S.rf hown (hg _ q_513) (fun _ h9 => h9) dJ0_coder_7d493_0 ?_
  refine lv_if_eq (tgt := 13) hx hb dJ0_coder_7d493_3 (by decide) (fun c0 => absurd c0 (by decide)) (fun _ => ?_)
  refine lv_aload_n hx hb dJ0_coder_7d493_6 rfl (lv_at hl 0 rfl) ?_
  refine vk_getf (v := .int 0) hx hb hC.2.2.2.1 va_S.rf hown (hg _ q_1310) (fun _ h9 => h9) dJ0_coder_7d493_7 ?_
  refine lv_goto (tgt := 14) hx hb dJ0_coder_7d493_10 (by decide) ?_
  exact hret _ ls 14 dJ0_coder_7d493_14 (by decide) rfl

set_option maxHeartbeats 4000000 in
set_option maxRecDepth 100000 in
theorem c_J0_length_8abf5 (l : Launch) (ka kv : Nat) : MetC l ka kv yJ0_length_8abf5 cJ0_length_8abf5 1 (some .int) (rmG 1 20) [.ref ka] (some (.int 5)) := by
  refine startC (own := RJ0) (by decide) rfl (Nat.le_of_ble_eq_true rfl) ?_
  intro p e s m below meth c QQ hx hb hml hown hg hC hret ls hl
  have hl : lv_has ls 1 [(0, .ref ka)] := hl
  refine lv_aload_n hx hb dJ0_length_8abf5_0 rfl (lv_at hl 0 rfl) ?_
  refine vk_getf (v := .ref kv) hx hb hC.2.2.2.2.1 va_S.rf hown (hg _ q_1311) (fun _ h9 => h9) dJ0_length_8abf5_1 ?_
  refine va_tlen (v := 5) hx hb hC.2.2.2.2.2 va_S.rf kO_5 dJ0_length_8abf5_4 ?_
  refine lv_aload_n hx hb dJ0_length_8abf5_5 rfl (lv_at hl 0 rfl) ?_
  refine callCV (As := []) (rest := [.int 5]) (v0 := .int 0) hx hb hml hown hg (c_J0_coder_7d493 l ka kv) q_522 q_519 q_66 q_520 q_521 hd_J0_coder_7d493 ⟨(Nat.le_of_ble_eq_true rfl), (Nat.le_of_ble_eq_true rfl)⟩ hC va_S.rf rfl rfl rfl hl.1 rfl (Nat.le_of_ble_eq_true rfl) dJ0_length_8abf5_6 ?_
  refine lv_ishr hx hb dJ0_length_8abf5_9 ?_
  refine lv_topi (fun x2 ex2 => ?_)
  obtain rfl : x2 = 5 := ex2.trans (by decide)
  exact hret _ ls 10 dJ0_length_8abf5_10 rfl rfl

def m_J1_canEncode_9a6ad (p0 : Int32) : Option Int32 := (if p0 < 0 then some 0 else (if 255 < p0 then some 0 else some 1))
set_option maxHeartbeats 4000000 in
set_option maxRecDepth 100000 in
theorem c_J1_canEncode_9a6ad (l : Launch) (ka kv : Nat) (p0 : Int32) (out : Int32) (h : m_J1_canEncode_9a6ad p0 = some out) : MetC l ka kv yJ1_canEncode_9a6ad cJ1_canEncode_9a6ad 1 (some .boolean) (rmG 0 0) [.int p0] (some (.int out)) := by
  refine startC (own := RJ1) (by decide) rfl (Nat.le_of_ble_eq_true rfl) ?_
  intro p e s m below meth c QQ hx hb hml hown hg hC hret ls hl
  have hl : lv_has ls 1 [(0, .int p0)] := hl
  unfold m_J1_canEncode_9a6ad at h
  refine lv_iload_n hx hb dJ1_canEncode_9a6ad_0 rfl (lv_at hl 0 rfl) ?_
  refine lv_if_lt (tgt := 15) hx hb dJ1_canEncode_9a6ad_1 (by decide) (fun c1 => ?_) (fun c1 => ?_)
  · have h := it_t c1 h
    refine lv_iconst (v := 0) hx hb dJ1_canEncode_9a6ad_15 kI_0 ?_
    exact hret _ ls 16 dJ1_canEncode_9a6ad_16 (nar_z (Or.inl rfl)) (congrArg (fun z => some (Value.int z)) (Option.some.inj h))
  · have h := it_f c1 h
    refine lv_iload_n hx hb dJ1_canEncode_9a6ad_4 rfl (lv_at hl 0 rfl) ?_
    refine lv_sipush (v := 255) hx hb dJ1_canEncode_9a6ad_5 kS_255 ?_
    refine lv_icmp_gt (tgt := 15) hx hb dJ1_canEncode_9a6ad_8 (by decide) (fun c2 => ?_) (fun c2 => ?_)
    · have h := it_t c2 h
      refine lv_iconst (v := 0) hx hb dJ1_canEncode_9a6ad_15 kI_0 ?_
      exact hret _ ls 16 dJ1_canEncode_9a6ad_16 (nar_z (Or.inl rfl)) (congrArg (fun z => some (Value.int z)) (Option.some.inj h))
    · have h := it_f c2 h
      refine lv_iconst (v := 1) hx hb dJ1_canEncode_9a6ad_11 kI_1 ?_
      refine lv_goto (tgt := 16) hx hb dJ1_canEncode_9a6ad_12 (by decide) ?_
      exact hret _ ls 16 dJ1_canEncode_9a6ad_16 (nar_z (Or.inr rfl)) (congrArg (fun z => some (Value.int z)) (Option.some.inj h))

def m_J1_indexOfChar_4cfef (p1 : Int32) : Option Int32 := bnd (p1.toInt8.toInt32) (fun x1 => (if 112 = x1 then some 0 else (if 108 = x1 then some 1 else (if 103 = x1 then some 2 else (if 100 = x1 then some 3 else (if 118 = x1 then some 4 else some (-1)))))))
set_option maxHeartbeats 4000000 in
set_option maxRecDepth 100000 in
theorem c_J1_indexOfChar_4cfef (l : Launch) (ka kv : Nat) (p1 : Int32) (out : Int32) (h : m_J1_indexOfChar_4cfef p1 = some out) : MetC l ka kv yJ1_indexOfChar_4cfef cJ1_indexOfChar_4cfef 6 (some .int) (rmG 0 0) [.ref kv, .int p1, .int 0, .int 5] (some (.int out)) := by
  refine startC (own := RJ1) (by decide) rfl (Nat.le_of_ble_eq_true rfl) ?_
  intro p e s m below meth c QQ hx hb hml hown hg hC hret ls hl
  have hl : lv_has ls 6 [(0, .ref kv), (1, .int p1), (2, .int 0), (3, .int 5)] := hl
  unfold m_J1_indexOfChar_4cfef at h
  refine lv_iload_n hx hb dJ1_indexOfChar_4cfef_0 rfl (lv_at hl 1 rfl) ?_
  refine lv_i2b (v := p1.toInt8.toInt32) hx hb dJ1_indexOfChar_4cfef_1 rfl ?_
  refine lv_topi (fun x1 ex1 => ?_)
  have h := bnd_e ex1 h
  refine lv_istore (lv' := [(4, .int x1), (0, .ref kv), (1, .int p1), (2, .int 0), (3, .int 5)]) hx hb dJ1_indexOfChar_4cfef_2 hl (by decide) rfl (fun ls hl => ?_)
  refine lv_iload_n hx hb dJ1_indexOfChar_4cfef_4 rfl (lv_at hl 3 rfl) ?_
  refine lv_istore (lv' := [(5, .int 0), (4, .int x1), (0, .ref kv), (1, .int p1), (2, .int 0), (3, .int 5)]) hx hb dJ1_indexOfChar_4cfef_5 hl (by decide) rfl (fun ls hl => ?_)
  refine lv_iload hx hb dJ1_indexOfChar_4cfef_7 (lv_at hl 0 rfl) ?_
  refine lv_iload_n hx hb dJ1_indexOfChar_4cfef_9 rfl (lv_at hl 5 rfl) ?_
  refine lv_icmp_ge (tgt := 31) hx hb dJ1_indexOfChar_4cfef_10 (by decide) (fun c0 => absurd c0 (by decide)) (fun _ => ?_)
  refine lv_aload_n hx hb dJ1_indexOfChar_4cfef_13 rfl (lv_at hl 2 rfl) ?_
  refine lv_iload hx hb dJ1_indexOfChar_4cfef_14 (lv_at hl 0 rfl) ?_
  refine va_tb (v := .int 112) hx hb hC.2.2.2.2.2 va_S.rf (vp_in_inb (by decide)) (by rw [kN_0]; rfl) dJ1_indexOfChar_4cfef_16 ?_
  refine lv_iload hx hb dJ1_indexOfChar_4cfef_17 (lv_at hl 1 rfl) ?_
  refine lv_icmp_ne (tgt := 25) hx hb dJ1_indexOfChar_4cfef_19 (by decide) (fun c2 => ?_) (fun c2 => ?_)
  · have h := it_f c2 h
    refine lv_iinc (v := 1) (lv' := [(5, .int 1), (4, .int x1), (0, .ref kv), (1, .int p1), (2, .int 0), (3, .int 5)]) hx hb dJ1_indexOfChar_4cfef_25 hl (k := 0) rfl (by decide) (by decide) rfl (fun ls hl => ?_)
    refine lv_goto (tgt := 7) hx hb dJ1_indexOfChar_4cfef_28 (by decide) ?_
    refine lv_iload hx hb dJ1_indexOfChar_4cfef_7 (lv_at hl 0 rfl) ?_
    refine lv_iload_n hx hb dJ1_indexOfChar_4cfef_9 rfl (lv_at hl 5 rfl) ?_
    refine lv_icmp_ge (tgt := 31) hx hb dJ1_indexOfChar_4cfef_10 (by decide) (fun c0 => absurd c0 (by decide)) (fun _ => ?_)
    refine lv_aload_n hx hb dJ1_indexOfChar_4cfef_13 rfl (lv_at hl 2 rfl) ?_
    refine lv_iload hx hb dJ1_indexOfChar_4cfef_14 (lv_at hl 0 rfl) ?_
    refine va_tb (v := .int 108) hx hb hC.2.2.2.2.2 va_S.rf (vp_in_inb (by decide)) (by rw [kN_1]; rfl) dJ1_indexOfChar_4cfef_16 ?_
    refine lv_iload hx hb dJ1_indexOfChar_4cfef_17 (lv_at hl 1 rfl) ?_
    refine lv_icmp_ne (tgt := 25) hx hb dJ1_indexOfChar_4cfef_19 (by decide) (fun c3 => ?_) (fun c3 => ?_)
    · have h := it_f c3 h
      refine lv_iinc (v := 2) (lv' := [(5, .int 2), (4, .int x1), (0, .ref kv), (1, .int p1), (2, .int 0), (3, .int 5)]) hx hb dJ1_indexOfChar_4cfef_25 hl (k := 0) rfl (by decide) (by decide) rfl (fun ls hl => ?_)
      refine lv_goto (tgt := 7) hx hb dJ1_indexOfChar_4cfef_28 (by decide) ?_
      refine lv_iload hx hb dJ1_indexOfChar_4cfef_7 (lv_at hl 0 rfl) ?_
      refine lv_iload_n hx hb dJ1_indexOfChar_4cfef_9 rfl (lv_at hl 5 rfl) ?_
      refine lv_icmp_ge (tgt := 31) hx hb dJ1_indexOfChar_4cfef_10 (by decide) (fun c0 => absurd c0 (by decide)) (fun _ => ?_)
      refine lv_aload_n hx hb dJ1_indexOfChar_4cfef_13 rfl (lv_at hl 2 rfl) ?_
      refine lv_iload hx hb dJ1_indexOfChar_4cfef_14 (lv_at hl 0 rfl) ?_
      refine va_tb (v := .int 103) hx hb hC.2.2.2.2.2 va_S.rf (vp_in_inb (by decide)) (by rw [kN_2]; rfl) dJ1_indexOfChar_4cfef_16 ?_
      refine lv_iload hx hb dJ1_indexOfChar_4cfef_17 (lv_at hl 1 rfl) ?_
      refine lv_icmp_ne (tgt := 25) hx hb dJ1_indexOfChar_4cfef_19 (by decide) (fun c4 => ?_) (fun c4 => ?_)
      · have h := it_f c4 h
        refine lv_iinc (v := 3) (lv' := [(5, .int 3), (4, .int x1), (0, .ref kv), (1, .int p1), (2, .int 0), (3, .int 5)]) hx hb dJ1_indexOfChar_4cfef_25 hl (k := 0) rfl (by decide) (by decide) rfl (fun ls hl => ?_)
        refine lv_goto (tgt := 7) hx hb dJ1_indexOfChar_4cfef_28 (by decide) ?_
        refine lv_iload hx hb dJ1_indexOfChar_4cfef_7 (lv_at hl 0 rfl) ?_
        refine lv_iload_n hx hb dJ1_indexOfChar_4cfef_9 rfl (lv_at hl 5 rfl) ?_
        refine lv_icmp_ge (tgt := 31) hx hb dJ1_indexOfChar_4cfef_10 (by decide) (fun c0 => absurd c0 (by decide)) (fun _ => ?_)
        refine lv_aload_n hx hb dJ1_indexOfChar_4cfef_13 rfl (lv_at hl 2 rfl) ?_
        refine lv_iload hx hb dJ1_indexOfChar_4cfef_14 (lv_at hl 0 rfl) ?_
        refine va_tb (v := .int 100) hx hb hC.2.2.2.2.2 va_S.rf (vp_in_inb (by decide)) (by rw [kN_3]; rfl) dJ1_indexOfChar_4cfef_16 ?_
        refine lv_iload hx hb dJ1_indexOfChar_4cfef_17 (lv_at hl 1 rfl) ?_
        refine lv_icmp_ne (tgt := 25) hx hb dJ1_indexOfChar_4cfef_19 (by decide) (fun c5 => ?_) (fun c5 => ?_)
        · have h := it_f c5 h
          refine lv_iinc (v := 4) (lv' := [(5, .int 4), (4, .int x1), (0, .ref kv), (1, .int p1), (2, .int 0), (3, .int 5)]) hx hb dJ1_indexOfChar_4cfef_25 hl (k := 0) rfl (by decide) (by decide) rfl (fun ls hl => ?_)
          refine lv_goto (tgt := 7) hx hb dJ1_indexOfChar_4cfef_28 (by decide) ?_
          refine lv_iload hx hb dJ1_indexOfChar_4cfef_7 (lv_at hl 0 rfl) ?_
          refine lv_iload_n hx hb dJ1_indexOfChar_4cfef_9 rfl (lv_at hl 5 rfl) ?_
          refine lv_icmp_ge (tgt := 31) hx hb dJ1_indexOfChar_4cfef_10 (by decide) (fun c0 => absurd c0 (by decide)) (fun _ => ?_)
          refine lv_aload_n hx hb dJ1_indexOfChar_4cfef_13 rfl (lv_at hl 2 rfl) ?_
          refine lv_iload hx hb dJ1_indexOfChar_4cfef_14 (lv_at hl 0 rfl) ?_
          refine va_tb (v := .int 118) hx hb hC.2.2.2.2.2 va_S.rf (vp_in_inb (by decide)) (by rw [kN_4]; rfl) dJ1_indexOfChar_4cfef_16 ?_
          refine lv_iload hx hb dJ1_indexOfChar_4cfef_17 (lv_at hl 1 rfl) ?_
          refine lv_icmp_ne (tgt := 25) hx hb dJ1_indexOfChar_4cfef_19 (by decide) (fun c6 => ?_) (fun c6 => ?_)
          · have h := it_f c6 h
            refine lv_iinc (v := 5) (lv' := [(5, .int 5), (4, .int x1), (0, .ref kv), (1, .int p1), (2, .int 0), (3, .int 5)]) hx hb dJ1_indexOfChar_4cfef_25 hl (k := 0) rfl (by decide) (by decide) rfl (fun ls hl => ?_)
            refine lv_goto (tgt := 7) hx hb dJ1_indexOfChar_4cfef_28 (by decide) ?_
            refine lv_iload hx hb dJ1_indexOfChar_4cfef_7 (lv_at hl 0 rfl) ?_
            refine lv_iload_n hx hb dJ1_indexOfChar_4cfef_9 rfl (lv_at hl 5 rfl) ?_
            refine lv_icmp_ge (tgt := 31) hx hb dJ1_indexOfChar_4cfef_10 (by decide) (fun _ => ?_) (fun c0 => absurd (by decide) c0)
            refine lv_iconst (v := (-1)) hx hb dJ1_indexOfChar_4cfef_31 kI_m1 ?_
            exact hret _ ls 32 dJ1_indexOfChar_4cfef_32 rfl (congrArg (fun z => some (Value.int z)) (Option.some.inj h))
          · have h := it_t c6 h
            refine lv_iload hx hb dJ1_indexOfChar_4cfef_22 (lv_at hl 0 rfl) ?_
            exact hret _ ls 24 dJ1_indexOfChar_4cfef_24 rfl (congrArg (fun z => some (Value.int z)) (Option.some.inj h))
        · have h := it_t c5 h
          refine lv_iload hx hb dJ1_indexOfChar_4cfef_22 (lv_at hl 0 rfl) ?_
          exact hret _ ls 24 dJ1_indexOfChar_4cfef_24 rfl (congrArg (fun z => some (Value.int z)) (Option.some.inj h))
      · have h := it_t c4 h
        refine lv_iload hx hb dJ1_indexOfChar_4cfef_22 (lv_at hl 0 rfl) ?_
        exact hret _ ls 24 dJ1_indexOfChar_4cfef_24 rfl (congrArg (fun z => some (Value.int z)) (Option.some.inj h))
    · have h := it_t c3 h
      refine lv_iload hx hb dJ1_indexOfChar_4cfef_22 (lv_at hl 0 rfl) ?_
      exact hret _ ls 24 dJ1_indexOfChar_4cfef_24 rfl (congrArg (fun z => some (Value.int z)) (Option.some.inj h))
  · have h := it_t c2 h
    refine lv_iload hx hb dJ1_indexOfChar_4cfef_22 (lv_at hl 0 rfl) ?_
    exact hret _ ls 24 dJ1_indexOfChar_4cfef_24 rfl (congrArg (fun z => some (Value.int z)) (Option.some.inj h))

def m_J1_indexOf_4cfef (p1 : Int32) : Option Int32 := (m_J1_canEncode_9a6ad p1).bind (fun v1 => (if v1 = 0 then some (-1) else (m_J1_indexOfChar_4cfef p1).bind (fun v5 => some v5)))
set_option maxHeartbeats 4000000 in
set_option maxRecDepth 100000 in
theorem c_J1_indexOf_4cfef (l : Launch) (ka kv : Nat) (p1 : Int32) (out : Int32) (h : m_J1_indexOf_4cfef p1 = some out) : MetC l ka kv yJ1_indexOf_4cfef cJ1_indexOf_4cfef 4 (some .int) (rmG 1 25) [.ref kv, .int p1, .int 0, .int 5] (some (.int out)) := by
  refine startC (own := RJ1) (by decide) rfl (Nat.le_of_ble_eq_true rfl) ?_
  intro p e s m below meth c QQ hx hb hml hown hg hC hret ls hl
  have hl : lv_has ls 4 [(0, .ref kv), (1, .int p1), (2, .int 0), (3, .int 5)] := hl
  unfold m_J1_indexOf_4cfef at h
  refine lv_iload_n hx hb dJ1_indexOf_4cfef_0 rfl (lv_at hl 1 rfl) ?_
  obtain ⟨v1, hv1, h⟩ := bind_e h
  refine callCS (As := [.int p1]) (rest := []) (v0 := .int v1) hx hb hml hown hg (c_J1_canEncode_9a6ad l ka kv p1 v1 hv1) q_528 q_526 q_67 q_527 hd_J1_canEncode_9a6ad ⟨(Nat.le_of_ble_eq_true rfl), (Nat.le_of_ble_eq_true rfl)⟩ hC va_S.rf rfl rfl rfl hl.1 rfl (Nat.le_of_ble_eq_true rfl) dJ1_indexOf_4cfef_1 ?_
  refine lv_if_ne (tgt := 9) hx hb dJ1_indexOf_4cfef_4 (by decide) (fun c2 => ?_) (fun c2 => ?_)
  · have h := it_f c2 h
    refine lv_iload_n hx hb dJ1_indexOf_4cfef_9 rfl (lv_at hl 2 rfl) ?_
    refine lv_iconst (v := 0) hx hb dJ1_indexOf_4cfef_10 kI_0 ?_
    refine va_mmax hx hb (hml.trans hl.1.symm) hown (hg _ q_529) (hg _ q_422) (hg _ q_65) (hg _ qm_max) (Nat.le_of_ble_eq_true rfl) (Nat.le_of_ble_eq_true rfl) (Nat.le_of_ble_eq_true rfl) (Nat.le_of_ble_eq_true rfl) dJ1_indexOf_4cfef_11 ?_
    refine lv_topi (fun x3 ex3 => ?_)
    obtain rfl : x3 = 0 := ex3.trans (by decide)
    refine lv_istore_n (lv' := [(2, .int 0), (0, .ref kv), (1, .int p1), (3, .int 5)]) hx hb dJ1_indexOf_4cfef_14 rfl hl (by decide) rfl (fun ls hl => ?_)
    refine lv_iload_n hx hb dJ1_indexOf_4cfef_15 rfl (lv_at hl 3 rfl) ?_
    refine lv_aload_n hx hb dJ1_indexOf_4cfef_16 rfl (lv_at hl 1 rfl) ?_
    refine va_tlen (v := 5) hx hb hC.2.2.2.2.2 va_S.rf kO_5 dJ1_indexOf_4cfef_17 ?_
    refine va_mmin hx hb (hml.trans hl.1.symm) hown (hg _ q_530) (hg _ q_531) (hg _ q_65) (hg _ qm_min) (Nat.le_of_ble_eq_true rfl) (Nat.le_of_ble_eq_true rfl) (Nat.le_of_ble_eq_true rfl) (Nat.le_of_ble_eq_true rfl) dJ1_indexOf_4cfef_18 ?_
    refine lv_topi (fun x4 ex4 => ?_)
    obtain rfl : x4 = 5 := ex4.trans (by decide)
    refine lv_istore_n (lv' := [(3, .int 5), (2, .int 0), (0, .ref kv), (1, .int p1)]) hx hb dJ1_indexOf_4cfef_21 rfl hl (by decide) rfl (fun ls hl => ?_)
    refine lv_iload_n hx hb dJ1_indexOf_4cfef_22 rfl (lv_at hl 1 rfl) ?_
    refine lv_iload_n hx hb dJ1_indexOf_4cfef_23 rfl (lv_at hl 0 rfl) ?_
    refine lv_icmp_lt (tgt := 29) hx hb dJ1_indexOf_4cfef_24 (by decide) (fun _ => ?_) (fun c0 => absurd (by decide) c0)
    refine lv_aload_n hx hb dJ1_indexOf_4cfef_29 rfl (lv_at hl 2 rfl) ?_
    refine lv_iload_n hx hb dJ1_indexOf_4cfef_30 rfl (lv_at hl 3 rfl) ?_
    refine lv_iload_n hx hb dJ1_indexOf_4cfef_31 rfl (lv_at hl 1 rfl) ?_
    refine lv_iload_n hx hb dJ1_indexOf_4cfef_32 rfl (lv_at hl 0 rfl) ?_
    obtain ⟨v5, hv5, h⟩ := bind_e h
    refine callCS (As := [.ref kv, .int p1, .int 0, .int 5]) (rest := []) (v0 := .int v5) hx hb hml hown hg (c_J1_indexOfChar_4cfef l ka kv p1 v5 hv5) q_535 q_533 q_67 q_534 hd_J1_indexOfChar_4cfef ⟨(Nat.le_of_ble_eq_true rfl), (Nat.le_of_ble_eq_true rfl)⟩ hC va_S.rf rfl rfl rfl hl.1 rfl (Nat.le_of_ble_eq_true rfl) dJ1_indexOf_4cfef_33 ?_
    exact hret _ ls 36 dJ1_indexOf_4cfef_36 rfl (congrArg (fun z => some (Value.int z)) (Option.some.inj h))
  · have h := it_t c2 h
    refine lv_iconst (v := (-1)) hx hb dJ1_indexOf_4cfef_7 kI_m1 ?_
    exact hret _ ls 8 dJ1_indexOf_4cfef_8 rfl (congrArg (fun z => some (Value.int z)) (Option.some.inj h))

def m_J0_indexOf_7cf53 (p0 : Int32) : Option Int32 := (m_J1_indexOf_4cfef p0).bind (fun v3 => some v3)
set_option maxHeartbeats 4000000 in
set_option maxRecDepth 100000 in
theorem c_J0_indexOf_7cf53 (l : Launch) (ka kv : Nat) (p0 : Int32) (out : Int32) (h : m_J0_indexOf_7cf53 p0 = some out) : MetC l ka kv yJ0_indexOf_7cf53 cJ0_indexOf_7cf53 3 (some .int) (rmG 2 48) [.ref ka, .int p0, .int 0] (some (.int out)) := by
  refine startC (own := RJ0) (by decide) rfl (Nat.le_of_ble_eq_true rfl) ?_
  intro p e s m below meth c QQ hx hb hml hown hg hC hret ls hl
  have hl : lv_has ls 3 [(0, .ref ka), (1, .int p0), (2, .int 0)] := hl
  unfold m_J0_indexOf_7cf53 at h
  refine lv_aload_n hx hb dJ0_indexOf_7cf53_0 rfl (lv_at hl 0 rfl) ?_
  refine callCV (As := []) (rest := []) (v0 := .int 1) hx hb hml hown hg (c_J0_isLatin1_aae02 l ka kv) q_512 q_509 q_66 q_510 q_511 hd_J0_isLatin1_aae02 ⟨(Nat.le_of_ble_eq_true rfl), (Nat.le_of_ble_eq_true rfl)⟩ hC va_S.rf rfl rfl rfl hl.1 rfl (Nat.le_of_ble_eq_true rfl) dJ0_indexOf_7cf53_1 ?_
  refine lv_if_eq (tgt := 23) hx hb dJ0_indexOf_7cf53_4 (by decide) (fun c0 => absurd c0 (by decide)) (fun _ => ?_)
  refine lv_aload_n hx hb dJ0_indexOf_7cf53_7 rfl (lv_at hl 0 rfl) ?_
  refine vk_getf (v := .ref kv) hx hb hC.2.2.2.2.1 va_S.rf hown (hg _ q_1311) (fun _ h9 => h9) dJ0_indexOf_7cf53_8 ?_
  refine lv_iload_n hx hb dJ0_indexOf_7cf53_11 rfl (lv_at hl 1 rfl) ?_
  refine lv_iload_n hx hb dJ0_indexOf_7cf53_12 rfl (lv_at hl 2 rfl) ?_
  refine lv_aload_n hx hb dJ0_indexOf_7cf53_13 rfl (lv_at hl 0 rfl) ?_
  refine callCV (As := []) (rest := [.int 0, .int p0, .ref kv]) (v0 := .int 5) hx hb hml hown hg (c_J0_length_8abf5 l ka kv) q_518 q_515 q_66 q_516 q_517 hd_J0_length_8abf5 ⟨(Nat.le_of_ble_eq_true rfl), (Nat.le_of_ble_eq_true rfl)⟩ hC va_S.rf rfl rfl rfl hl.1 rfl (Nat.le_of_ble_eq_true rfl) dJ0_indexOf_7cf53_14 ?_
  obtain ⟨v3, hv3, h⟩ := bind_e h
  refine callCS (As := [.ref kv, .int p0, .int 0, .int 5]) (rest := []) (v0 := .int v3) hx hb hml hown hg (c_J1_indexOf_4cfef l ka kv p0 v3 hv3) q_525 q_523 q_67 q_524 hd_J1_indexOf_4cfef ⟨(Nat.le_of_ble_eq_true rfl), (Nat.le_of_ble_eq_true rfl)⟩ hC va_S.rf rfl rfl rfl hl.1 rfl (Nat.le_of_ble_eq_true rfl) dJ0_indexOf_7cf53_17 ?_
  refine lv_goto (tgt := 36) hx hb dJ0_indexOf_7cf53_20 (by decide) ?_
  exact hret _ ls 36 dJ0_indexOf_7cf53_36 rfl (congrArg (fun z => some (Value.int z)) (Option.some.inj h))

def m_J0_indexOf_0f7a4 (p0 : Int32) : Option Int32 := (m_J0_indexOf_7cf53 p0).bind (fun v1 => some v1)
set_option maxHeartbeats 4000000 in
set_option maxRecDepth 100000 in
theorem c_J0_indexOf_0f7a4 (l : Launch) (ka kv : Nat) (p0 : Int32) (out : Int32) (h : m_J0_indexOf_0f7a4 p0 = some out) : MetC l ka kv yJ0_indexOf_0f7a4 cJ0_indexOf_0f7a4 2 (some .int) (rmG 3 70) [.ref ka, .int p0] (some (.int out)) := by
  refine startC (own := RJ0) (by decide) rfl (Nat.le_of_ble_eq_true rfl) ?_
  intro p e s m below meth c QQ hx hb hml hown hg hC hret ls hl
  have hl : lv_has ls 2 [(0, .ref ka), (1, .int p0)] := hl
  unfold m_J0_indexOf_0f7a4 at h
  refine lv_aload_n hx hb dJ0_indexOf_0f7a4_0 rfl (lv_at hl 0 rfl) ?_
  refine lv_iload_n hx hb dJ0_indexOf_0f7a4_1 rfl (lv_at hl 1 rfl) ?_
  refine lv_iconst (v := 0) hx hb dJ0_indexOf_0f7a4_2 kI_0 ?_
  obtain ⟨v1, hv1, h⟩ := bind_e h
  refine callCV (As := [.int p0, .int 0]) (rest := []) (v0 := .int v1) hx hb hml hown hg (c_J0_indexOf_7cf53 l ka kv p0 v1 hv1) q_508 q_505 q_66 q_506 q_507 hd_J0_indexOf_7cf53 ⟨(Nat.le_of_ble_eq_true rfl), (Nat.le_of_ble_eq_true rfl)⟩ hC va_S.rf rfl rfl rfl hl.1 rfl (Nat.le_of_ble_eq_true rfl) dJ0_indexOf_0f7a4_3 ?_
  exact hret _ ls 6 dJ0_indexOf_0f7a4_6 rfl (congrArg (fun z => some (Value.int z)) (Option.some.inj h))
