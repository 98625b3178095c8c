/-! constants, and rows at a known place -/
theorem inc_e {x v k : Int32} {n : Int} (hn : Int32.ofInt n = k) (e : v = x + k) : x + Int32.ofInt n = v := by rw [e, hn]
theorem swn {x v : Int32} {k : Int} (hk : v.toInt = k) (h : ¬ x = v) : x.toInt ≠ k := fun q => h (Int32.toInt_inj.mp (q.trans hk.symm))
theorem lsw2 {a1 o1 a2 o2 d k : Int} (h1 : k ≠ a1) (h2 : k ≠ a2) : Op.lookupswitch.offset [(a1, o1), (a2, o2)] d k = d := by
  rw [Op.lookupswitch.offset_cons, if_neg (Ne.symm h1), Op.lookupswitch.offset_cons, if_neg (Ne.symm h2), Op.lookupswitch.offset_nil]
theorem qm_max : Cond.code Lib.Math.max.name Lib.Math.max.code 2 (some .int) ∈ lw_tblG := memT2 _ 130 (by decide +kernel)
theorem qm_min : Cond.code Lib.Math.min.name Lib.Math.min.code 2 (some .int) ∈ lw_tblG := memT2 _ 239 (by decide +kernel)
theorem qm_abs : Cond.code Lib.Math.abs.name Lib.Math.abs.code 1 (some .int) ∈ lw_tblG := memT2 _ 115 (by decide +kernel)
section K2L
variable {p : Program} {l : Launch} {e : Env} {R : Room} {s : State} {m : MethodId} {args : Array Value} {below : List Frame} {meth : Method} {c : Code} {H : Heap} {locs : List Loc} {cells slots : Nat} {Q : State → Prop}
variable {cc : ByteArray} {pc : Nat} {ls : Array Slot} {rest : List Value} {D : va_G} {cl : List vw_C} {A : Nat → Prop} {a : Nat} {tys : List (ClassId × FieldType)} {ws : va_W} {H0 : Heap}
theorem ialdK (hexec : p.tables.exec = Jvm.exec) (hb : c.code = cc) (hK : va_K D cl tys s) (hP : va_P D cl ws H) (q0 t0 : Nat) {cA : ClassId} {n k : Nat} {f : Nat → Int32} (ha : ws[q0]? = some (a, .inl (cA, n, .inl f))) (ht : tys[t0]? = some (cA, .int)) {i : Int32} (hin : vp_in i n) (hk : i.toNatClampNeg = k) (hdg : decode cc pc = .ok (.iaload, 1))
    (kk : W p l e R s m args below meth c H locs cells slots Q (F0 m (pc + 1) ls (.int (f k) :: rest))) : W p l e R s m args below meth c H locs cells slots Q (F0 m pc ls (.int i :: .ref a :: rest)) := by
  subst hk; exact va_iald hexec hb hK hP q0 t0 ha ht hin hdg kk
theorem iastK (hexec : p.tables.exec = Jvm.exec) (hb : c.code = cc) (hK : va_K D cl tys s) (hP : va_P D cl ws H) (hD : va_D A ws) (hS : va_S A H0 H locs) (q0 t0 : Nat) {cA : ClassId} {n k : Nat} {f : Nat → Int32} (ha : ws[q0]? = some (a, .inl (cA, n, .inl f))) (ht : tys[t0]? = some (cA, .int)) {i : Int32} {x : Int32} (hin : vp_in i n) (hk : i.toNatClampNeg = k) (hdg : decode cc pc = .ok (.iastore, 1))
    (kk : ∀ (H1 : Heap) (locs1 : List Loc), va_P D cl (ws.set q0 (a, .inl (cA, n, .inl (upd f k x)))) H1 → va_D A (ws.set q0 (a, .inl (cA, n, .inl (upd f k x)))) → va_S A H0 H1 locs1 → W p l e R s m args below meth c H1 locs1 cells slots Q (F0 m (pc + 1) ls rest)) : W p l e R s m args below meth c H locs cells slots Q (F0 m pc ls (.int x :: .int i :: .ref a :: rest)) := by
  subst hk; exact va_iast hexec hb hK hP hD hS q0 t0 ha ht hin hdg kk
theorem aldqK (hexec : p.tables.exec = Jvm.exec) (hb : c.code = cc) (hK : va_K D cl tys s) (hP : va_P D cl ws H) (q0 t0 : Nat) {cA : ClassId} {C : String} {n : Nat} {f : Nat → Option Nat} (ha : ws[q0]? = some (a, .inl (cA, n, .inr (.inr (.inr (.inr f)))))) (ht : tys[t0]? = some (cA, .object C)) {i : Int32} (hin : vp_in i n) {k x : Nat} (hk : i.toNatClampNeg = k) (hv : f k = some x) (hdg : decode cc pc = .ok (.aaload, 1))
    (kk : W p l e R s m args below meth c H locs cells slots Q (F0 m (pc + 1) ls (.ref x :: rest))) : W p l e R s m args below meth c H locs cells slots Q (F0 m pc ls (.int i :: .ref a :: rest)) := by
  subst hk
  refine va_aldq hexec hb hK hP q0 t0 ha ht hin hdg ?_
  rw [hv]
  exact kk
end K2L
theorem kB_m20 : (Int8.ofInt (-20)).toInt32 = (-20) := by decide +kernel
theorem kB_m14 : (Int8.ofInt (-14)).toInt32 = (-14) := by decide +kernel
theorem kB_m13 : (Int8.ofInt (-13)).toInt32 = (-13) := by decide +kernel
theorem kB_m12 : (Int8.ofInt (-12)).toInt32 = (-12) := by decide +kernel
theorem kB_m11 : (Int8.ofInt (-11)).toInt32 = (-11) := by decide +kernel
theorem kB_m4 : (Int8.ofInt (-4)).toInt32 = (-4) := by decide +kernel
theorem kB_m3 : (Int8.ofInt (-3)).toInt32 = (-3) := by decide +kernel
theorem kB_m2 : (Int8.ofInt (-2)).toInt32 = (-2) := by decide +kernel
theorem kB_6 : (Int8.ofInt 6).toInt32 = 6 := by decide +kernel
theorem kB_7 : (Int8.ofInt 7).toInt32 = 7 := by decide +kernel
theorem kB_8 : (Int8.ofInt 8).toInt32 = 8 := by decide +kernel
theorem kB_9 : (Int8.ofInt 9).toInt32 = 9 := by decide +kernel
theorem kB_10 : (Int8.ofInt 10).toInt32 = 10 := by decide +kernel
theorem kB_11 : (Int8.ofInt 11).toInt32 = 11 := by decide +kernel
theorem kB_12 : (Int8.ofInt 12).toInt32 = 12 := by decide +kernel
theorem kB_13 : (Int8.ofInt 13).toInt32 = 13 := by decide +kernel
theorem kB_14 : (Int8.ofInt 14).toInt32 = 14 := by decide +kernel
theorem kB_16 : (Int8.ofInt 16).toInt32 = 16 := by decide +kernel
theorem kB_24 : (Int8.ofInt 24).toInt32 = 24 := by decide +kernel
theorem kB_30 : (Int8.ofInt 30).toInt32 = 30 := by decide +kernel
theorem kB_32 : (Int8.ofInt 32).toInt32 = 32 := by decide +kernel
theorem kB_40 : (Int8.ofInt 40).toInt32 = 40 := by decide +kernel
theorem kB_43 : (Int8.ofInt 43).toInt32 = 43 := by decide +kernel
theorem kB_44 : (Int8.ofInt 44).toInt32 = 44 := by decide +kernel
theorem kB_48 : (Int8.ofInt 48).toInt32 = 48 := by decide +kernel
theorem kB_57 : (Int8.ofInt 57).toInt32 = 57 := by decide +kernel
theorem kB_59 : (Int8.ofInt 59).toInt32 = 59 := by decide +kernel
theorem kB_60 : (Int8.ofInt 60).toInt32 = 60 := by decide +kernel
theorem kB_61 : (Int8.ofInt 61).toInt32 = 61 := by decide +kernel
theorem kB_63 : (Int8.ofInt 63).toInt32 = 63 := by decide +kernel
theorem kB_64 : (Int8.ofInt 64).toInt32 = 64 := by decide +kernel
theorem kB_94 : (Int8.ofInt 94).toInt32 = 94 := by decide +kernel
theorem kB_100 : (Int8.ofInt 100).toInt32 = 100 := by decide +kernel
theorem kB_103 : (Int8.ofInt 103).toInt32 = 103 := by decide +kernel
theorem kB_108 : (Int8.ofInt 108).toInt32 = 108 := by decide +kernel
theorem kB_112 : (Int8.ofInt 112).toInt32 = 112 := by decide +kernel
theorem kB_118 : (Int8.ofInt 118).toInt32 = 118 := by decide +kernel
theorem kB_126 : (Int8.ofInt 126).toInt32 = 126 := by decide +kernel
theorem kI_m1 : Int32.ofInt (-1) = (-1) := by decide +kernel
theorem kI_0 : Int32.ofInt 0 = 0 := by decide +kernel
theorem kI_1 : Int32.ofInt 1 = 1 := by decide +kernel
theorem kI_2 : Int32.ofInt 2 = 2 := by decide +kernel
theorem kI_3 : Int32.ofInt 3 = 3 := by decide +kernel
theorem kI_4 : Int32.ofInt 4 = 4 := by decide +kernel
theorem kI_5 : Int32.ofInt 5 = 5 := by decide +kernel
theorem kL_0 : Int64.ofNat ((0 : Fin 2) : Nat) = 0 := by decide +kernel
theorem kL_1 : Int64.ofNat ((1 : Fin 2) : Nat) = 1 := by decide +kernel
theorem kN_0 : (0 : Int32).toNatClampNeg = 0 := by decide +kernel
theorem kN_1 : (1 : Int32).toNatClampNeg = 1 := by decide +kernel
theorem kN_2 : (2 : Int32).toNatClampNeg = 2 := by decide +kernel
theorem kN_3 : (3 : Int32).toNatClampNeg = 3 := by decide +kernel
theorem kN_4 : (4 : Int32).toNatClampNeg = 4 := by decide +kernel
theorem kN_5 : (5 : Int32).toNatClampNeg = 5 := by decide +kernel
theorem kO_5 : Int32.ofNat 5 = 5 := by decide +kernel
theorem kO_6 : Int32.ofNat 6 = 6 := by decide +kernel
theorem kO_7 : Int32.ofNat 7 = 7 := by decide +kernel
theorem kO_24 : Int32.ofNat 24 = 24 := by decide +kernel
theorem kP_0 : (nI 0).toNatClampNeg = 0 := rfl
theorem kP_1 : (nI 1).toNatClampNeg = 1 := rfl
theorem kP_2 : (nI 2).toNatClampNeg = 2 := rfl
theorem kP_3 : (nI 3).toNatClampNeg = 3 := rfl
theorem kP_4 : (nI 4).toNatClampNeg = 4 := rfl
theorem kP_5 : (nI 5).toNatClampNeg = 5 := rfl
theorem kP_6 : (nI 6).toNatClampNeg = 6 := rfl
theorem kP_7 : (nI 7).toNatClampNeg = 7 := rfl
theorem kS_128 : (Int16.ofInt 128).toInt32 = 128 := by decide +kernel
theorem kS_255 : (Int16.ofInt 255).toInt32 = 255 := by decide +kernel
theorem kS_1287 : (Int16.ofInt 1287).toInt32 = 1287 := by decide +kernel
theorem kS_4095 : (Int16.ofInt 4095).toInt32 = 4095 := by decide +kernel
theorem kS_9999 : (Int16.ofInt 9999).toInt32 = 9999 := by decide +kernel
theorem kS_12345 : (Int16.ofInt 12345).toInt32 = 12345 := by decide +kernel
theorem hd_J0_coder_7d493 : HdG yJ0_coder_7d493 0 := by decide +kernel
theorem hd_J0_indexOf_0f7a4 : HdG yJ0_indexOf_0f7a4 1 := by decide +kernel
theorem hd_J0_indexOf_7cf53 : HdG yJ0_indexOf_7cf53 2 := by decide +kernel
theorem hd_J0_isLatin1_aae02 : HdG yJ0_isLatin1_aae02 0 := by decide +kernel
theorem hd_J0_length_8abf5 : HdG yJ0_length_8abf5 0 := by decide +kernel
theorem hd_J1_canEncode_9a6ad : HdG yJ1_canEncode_9a6ad 1 := by decide +kernel
theorem hd_J1_indexOfChar_4cfef : HdG yJ1_indexOfChar_4cfef 4 := by decide +kernel
theorem hd_J1_indexOf_4cfef : HdG yJ1_indexOf_4cfef 4 := by decide +kernel
theorem hd_J6_bitCount_0f7a4 : HdG yJ6_bitCount_0f7a4 1 := by decide +kernel
theorem hd_J7_fill_53178 : HdG yJ7_fill_53178 2 := by decide +kernel
theorem hd_J7_fill_d0a16 : HdG yJ7_fill_d0a16 2 := by decide +kernel
theorem hd_X0_takeMoment : HdG yX0_takeMoment 1 := by decide +kernel
theorem hd_X1_beginChoice : HdG yX1_beginChoice 0 := by decide +kernel
theorem hd_X1_behind : HdG yX1_behind 2 := by decide +kernel
theorem hd_X1_chooseChange : HdG yX1_chooseChange 2 := by decide +kernel
theorem hd_X1_choosePost : HdG yX1_choosePost 3 := by decide +kernel
theorem hd_X1_fewestGuards : HdG yX1_fewestGuards 2 := by decide +kernel
theorem hd_X1_filmPaint : HdG yX1_filmPaint 3 := by decide +kernel
theorem hd_X1_firstAlone : HdG yX1_firstAlone 1 := by decide +kernel
theorem hd_X1_firstFallOf : HdG yX1_firstFallOf 2 := by decide +kernel
theorem hd_X1_greatestCalm : HdG yX1_greatestCalm 2 := by decide +kernel
theorem hd_X1_heightsWorn : HdG yX1_heightsWorn 3 := by decide +kernel
theorem hd_X1_kindsWorn : HdG yX1_kindsWorn 3 := by decide +kernel
theorem hd_X1_mayBeAt : HdG yX1_mayBeAt 3 := by decide +kernel
theorem hd_X1_offer : HdG yX1_offer 2 := by decide +kernel
theorem hd_X1_paintsWorn : HdG yX1_paintsWorn 3 := by decide +kernel
theorem hd_X1_safeInches : HdG yX1_safeInches 3 := by decide +kernel
theorem hd_X1_tryPost : HdG yX1_tryPost 4 := by decide +kernel
theorem hd_X1_wearsAs : HdG yX1_wearsAs 2 := by decide +kernel
theorem hd_X2_beginShares : HdG yX2_beginShares 1 := by decide +kernel
theorem hd_X2_nextShares : HdG yX2_nextShares 0 := by decide +kernel
theorem hd_X2_part : HdG yX2_part 3 := by decide +kernel
theorem hd_X2_tryShares : HdG yX2_tryShares 0 := by decide +kernel
theorem hd_X3_addPaint : HdG yX3_addPaint 2 := by decide +kernel
theorem hd_X3_crestBehind : HdG yX3_crestBehind 1 := by decide +kernel
theorem hd_X3_enlist : HdG yX3_enlist 3 := by decide +kernel
theorem hd_X3_gripOf : HdG yX3_gripOf 2 := by decide +kernel
theorem hd_X3_heldBy : HdG yX3_heldBy 2 := by decide +kernel
theorem hd_X3_highAt : HdG yX3_highAt 2 := by decide +kernel
theorem hd_X3_howManyStand : HdG yX3_howManyStand 0 := by decide +kernel
theorem hd_X3_inchesTaken : HdG yX3_inchesTaken 0 := by decide +kernel
theorem hd_X3_isLike : HdG yX3_isLike 1 := by decide +kernel
theorem hd_X3_marchByDraw : HdG yX3_marchByDraw 0 := by decide +kernel
theorem hd_X3_paintOfStanding : HdG yX3_paintOfStanding 0 := by decide +kernel
theorem hd_X3_paintTogether : HdG yX3_paintTogether 0 := by decide +kernel
theorem hd_X3_passNight : HdG yX3_passNight 0 := by decide +kernel
theorem hd_X3_passNightBy : HdG yX3_passNightBy 1 := by decide +kernel
theorem hd_X3_passSome : HdG yX3_passSome 1 := by decide +kernel
theorem hd_X3_passWhile : HdG yX3_passWhile 2 := by decide +kernel
theorem hd_X3_stands : HdG yX3_stands 1 := by decide +kernel
theorem hd_X3_takeAll : HdG yX3_takeAll 1 := by decide +kernel
theorem hd_X3_whoIsAt : HdG yX3_whoIsAt 1 := by decide +kernel
theorem hd_X3_whoIsNextTo : HdG yX3_whoIsNextTo 1 := by decide +kernel
theorem hd_X3_whoStands : HdG yX3_whoStands 0 := by decide +kernel
theorem hd_X4_begin : HdG yX4_begin 2 := by decide +kernel
theorem hd_X4_end : HdG yX4_end 0 := by decide +kernel
theorem hd_X4_hasItems : HdG yX4_hasItems 2 := by decide +kernel
theorem hd_X4_isMissing : HdG yX4_isMissing 0 := by decide +kernel
theorem hd_X4_mark : HdG yX4_mark 2 := by decide +kernel
theorem hd_X4_refusal : HdG yX4_refusal 3 := by decide +kernel
theorem hd_X4_write : HdG yX4_write 2 := by decide +kernel
theorem hd_X5_reduce : HdG yX5_reduce 0 := by decide +kernel
theorem hd_X5_sortMen : HdG yX5_sortMen 1 := by decide +kernel
theorem hd_X5_weigh : HdG yX5_weigh 3 := by decide +kernel
theorem hd_X5_weighShaky : HdG yX5_weighShaky 1 := by decide +kernel
theorem hd_X6_append : HdG yX6_append 1 := by decide +kernel
theorem hd_X6_isAtEnd : HdG yX6_isAtEnd 0 := by decide +kernel
theorem hd_X6_isDigitThere : HdG yX6_isDigitThere 0 := by decide +kernel
theorem hd_X6_isNext : HdG yX6_isNext 1 := by decide +kernel
theorem hd_X6_isThere : HdG yX6_isThere 0 := by decide +kernel
theorem hd_X6_read : HdG yX6_read 0 := by decide +kernel
theorem hd_X6_readDigit : HdG yX6_readDigit 0 := by decide +kernel
theorem hd_X6_readKind : HdG yX6_readKind 0 := by decide +kernel
theorem hd_X6_readMan : HdG yX6_readMan 0 := by decide +kernel
theorem hd_X6_readMen : HdG yX6_readMen 0 := by decide +kernel
theorem hd_X6_readNumber : HdG yX6_readNumber 2 := by decide +kernel
theorem hd_X6_readSign : HdG yX6_readSign 1 := by decide +kernel
theorem hd_X6_skipBlanks : HdG yX6_skipBlanks 0 := by decide +kernel
theorem hd_X7_forgetAll : HdG yX7_forgetAll 0 := by decide +kernel
theorem hd_X7_remember : HdG yX7_remember 1 := by decide +kernel
theorem hd_X7_takeAll : HdG yX7_takeAll 1 := by decide +kernel
theorem hd_X7_takeBack : HdG yX7_takeBack 1 := by decide +kernel
theorem hd_X8_inchOrNone : HdG yX8_inchOrNone 2 := by decide +kernel
theorem hd_X8_isInch : HdG yX8_isInch 1 := by decide +kernel
theorem hd_X8_isLane : HdG yX8_isLane 1 := by decide +kernel
theorem hd_X8_isMan : HdG yX8_isMan 1 := by decide +kernel
theorem hd_X8_isSheet : HdG yX8_isSheet 1 := by decide +kernel
theorem hd_X8_lawPart : HdG yX8_lawPart 1 := by decide +kernel
theorem hd_X8_passNights : HdG yX8_passNights 2 := by decide +kernel
theorem hd_X8_within : HdG yX8_within 3 := by decide +kernel
theorem hd_X9_apart : HdG yX9_apart 2 := by decide +kernel
theorem hd_X9_asides : HdG yX9_asides 0 := by decide +kernel
theorem hd_X9_backs : HdG yX9_backs 0 := by decide +kernel
theorem hd_X9_besides : HdG yX9_besides 1 := by decide +kernel
theorem hd_X9_goesBy : HdG yX9_goesBy 1 := by decide +kernel
theorem hd_X9_goesOn : HdG yX9_goesOn 1 := by decide +kernel
theorem hd_X9_goesTo : HdG yX9_goesTo 2 := by decide +kernel
theorem hd_X9_grip : HdG yX9_grip 1 := by decide +kernel
theorem hd_X9_heldBy : HdG yX9_heldBy 2 := by decide +kernel
theorem hd_X9_here : HdG yX9_here 0 := by decide +kernel
theorem hd_X9_high : HdG yX9_high 2 := by decide +kernel
theorem hd_X9_in : HdG yX9_in 3 := by decide +kernel
theorem hd_X9_inchOf : HdG yX9_inchOf 1 := by decide +kernel
theorem hd_X9_isInch : HdG yX9_isInch 1 := by decide +kernel
theorem hd_X9_isLane : HdG yX9_isLane 1 := by decide +kernel
theorem hd_X9_isMan : HdG yX9_isMan 1 := by decide +kernel
theorem hd_X9_isParted : HdG yX9_isParted 2 := by decide +kernel
theorem hd_X9_isSheet : HdG yX9_isSheet 1 := by decide +kernel
theorem hd_X9_isSo : HdG yX9_isSo 3 := by decide +kernel
theorem hd_X9_manComes : HdG yX9_manComes 3 := by decide +kernel
theorem hd_X9_many : HdG yX9_many 1 := by decide +kernel
theorem hd_X9_mayBe : HdG yX9_mayBe 2 := by decide +kernel
theorem hd_X9_menRead : HdG yX9_menRead 0 := by decide +kernel
theorem hd_X9_must : HdG yX9_must 1 := by decide +kernel
theorem hd_X9_notes : HdG yX9_notes 0 := by decide +kernel
theorem hd_X9_number : HdG yX9_number 2 := by decide +kernel
theorem hd_X9_paintAll : HdG yX9_paintAll 1 := by decide +kernel
theorem hd_X9_paintOf : HdG yX9_paintOf 1 := by decide +kernel
theorem hd_X9_paints : HdG yX9_paints 2 := by decide +kernel
theorem hd_X9_standing : HdG yX9_standing 0 := by decide +kernel
theorem hd_X9_stands : HdG yX9_stands 1 := by decide +kernel
theorem hd_X9_told : HdG yX9_told 2 := by decide +kernel
theorem hd_X9_triesCoats : HdG yX9_triesCoats 1 := by decide +kernel
theorem hd_X9_whoAt : HdG yX9_whoAt 1 := by decide +kernel
theorem hd_X9_why : HdG yX9_why 4 := by decide +kernel
