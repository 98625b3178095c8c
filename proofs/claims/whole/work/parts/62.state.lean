/-! ===== THE LAW: states of class and reference, the law's world ===== -/
abbrev CST : Type := RT × RG × RT × RG × Int32 × (Nat → Int32) × RT × Int32 × Int32 × Int32 × RT × Int32 × Int32 × (Nat → Int32) × Int32 × Int32 × Int32 × Int32 × RT × RT × (Nat → Int32) × (Nat → Int32) × Int32 × Int32 × Int32 × Int32 × (Nat → Nat → Int64) × (Nat → Int32) × (Nat → Int32) × (Nat → Int32) × (Nat → Int32)
abbrev z_now (σ : CST) : RT := σ.1
abbrev z_und (σ : CST) : RG := σ.2.1
abbrev z_kR (σ : CST) : RT := σ.2.2.1
abbrev z_kU (σ : CST) : RG := σ.2.2.2.1
abbrev z_iK (σ : CST) : Int32 := σ.2.2.2.2.1
abbrev z_let (σ : CST) : Nat → Int32 := σ.2.2.2.2.2.1
abbrev z_told (σ : CST) : RT := σ.2.2.2.2.2.2.1
abbrev z_len (σ : CST) : Int32 := σ.2.2.2.2.2.2.2.1
abbrev z_plc (σ : CST) : Int32 := σ.2.2.2.2.2.2.2.2.1
abbrev z_flt (σ : CST) : Int32 := σ.2.2.2.2.2.2.2.2.2.1
abbrev z_oT (σ : CST) : RT := σ.2.2.2.2.2.2.2.2.2.2.1
abbrev z_cho (σ : CST) : Int32 := σ.2.2.2.2.2.2.2.2.2.2.2.1
abbrev z_mos (σ : CST) : Int32 := σ.2.2.2.2.2.2.2.2.2.2.2.2.1
abbrev z_wei (σ : CST) : Nat → Int32 := σ.2.2.2.2.2.2.2.2.2.2.2.2.2.1
abbrev z_sur (σ : CST) : Int32 := σ.2.2.2.2.2.2.2.2.2.2.2.2.2.2.1
abbrev z_sha (σ : CST) : Int32 := σ.2.2.2.2.2.2.2.2.2.2.2.2.2.2.2.1
abbrev z_abo (σ : CST) : Int32 := σ.2.2.2.2.2.2.2.2.2.2.2.2.2.2.2.2.1
abbrev z_bel (σ : CST) : Int32 := σ.2.2.2.2.2.2.2.2.2.2.2.2.2.2.2.2.2.1
abbrev z_ask (σ : CST) : RT := σ.2.2.2.2.2.2.2.2.2.2.2.2.2.2.2.2.2.2.1
abbrev z_pT (σ : CST) : RT := σ.2.2.2.2.2.2.2.2.2.2.2.2.2.2.2.2.2.2.2.1
abbrev z_shs (σ : CST) : Nat → Int32 := σ.2.2.2.2.2.2.2.2.2.2.2.2.2.2.2.2.2.2.2.2.1
abbrev z_bsh (σ : CST) : Nat → Int32 := σ.2.2.2.2.2.2.2.2.2.2.2.2.2.2.2.2.2.2.2.2.2.1
abbrev z_aco (σ : CST) : Int32 := σ.2.2.2.2.2.2.2.2.2.2.2.2.2.2.2.2.2.2.2.2.2.2.1
abbrev z_ani (σ : CST) : Int32 := σ.2.2.2.2.2.2.2.2.2.2.2.2.2.2.2.2.2.2.2.2.2.2.2.1
abbrev z_mst (σ : CST) : Int32 := σ.2.2.2.2.2.2.2.2.2.2.2.2.2.2.2.2.2.2.2.2.2.2.2.2.1
abbrev z_mpa (σ : CST) : Int32 := σ.2.2.2.2.2.2.2.2.2.2.2.2.2.2.2.2.2.2.2.2.2.2.2.2.2.1
abbrev z_itm (σ : CST) : Nat → Nat → Int64 := σ.2.2.2.2.2.2.2.2.2.2.2.2.2.2.2.2.2.2.2.2.2.2.2.2.2.2.1
abbrev z_lan (σ : CST) : Nat → Int32 := σ.2.2.2.2.2.2.2.2.2.2.2.2.2.2.2.2.2.2.2.2.2.2.2.2.2.2.2.1
abbrev z_siz (σ : CST) : Nat → Int32 := σ.2.2.2.2.2.2.2.2.2.2.2.2.2.2.2.2.2.2.2.2.2.2.2.2.2.2.2.2.1
abbrev z_frm (σ : CST) : Nat → Int32 := σ.2.2.2.2.2.2.2.2.2.2.2.2.2.2.2.2.2.2.2.2.2.2.2.2.2.2.2.2.2.1
abbrev z_mrk (σ : CST) : Nat → Int32 := σ.2.2.2.2.2.2.2.2.2.2.2.2.2.2.2.2.2.2.2.2.2.2.2.2.2.2.2.2.2.2
abbrev MST : Type := (Nat → Int32) × (Nat → Int32) × Int32 × Int32 × Int32 × (Nat → Int32) × (Nat → Int32) × (Nat → Int32) × Int32 × (Nat → Int32) × (Nat → Int32) × (Nat → Int32) × Int32 × Int32 × (Nat → Int32) × Int32 × Int32 × (Nat → Int32) × (Nat → Int32) × (Nat → Int64) × (Nat → Int64)
abbrev y_now (μ : MST) : Nat → Int32 := μ.1
abbrev y_tape (μ : MST) : Nat → Int32 := μ.2.1
abbrev y_typed (μ : MST) : Int32 := μ.2.2.1
abbrev y_place (μ : MST) : Int32 := μ.2.2.2.1
abbrev y_isFault (μ : MST) : Int32 := μ.2.2.2.2.1
abbrev y_readLaw (μ : MST) : Nat → Int32 := μ.2.2.2.2.2.1
abbrev y_read (μ : MST) : Nat → Int32 := μ.2.2.2.2.2.2.1
abbrev y_undone (μ : MST) : Nat → Int32 := μ.2.2.2.2.2.2.2.1
abbrev y_undos (μ : MST) : Int32 := μ.2.2.2.2.2.2.2.2.1
abbrev y_aside (μ : MST) : Nat → Int32 := μ.2.2.2.2.2.2.2.2.2.1
abbrev y_coat (μ : MST) : Nat → Int32 := μ.2.2.2.2.2.2.2.2.2.2.1
abbrev y_bestCoats (μ : MST) : Nat → Int32 := μ.2.2.2.2.2.2.2.2.2.2.2.1
abbrev y_bestStand (μ : MST) : Int32 := μ.2.2.2.2.2.2.2.2.2.2.2.2.1
abbrev y_bestPaint (μ : MST) : Int32 := μ.2.2.2.2.2.2.2.2.2.2.2.2.2.1
abbrev y_kept (μ : MST) : Nat → Int32 := μ.2.2.2.2.2.2.2.2.2.2.2.2.2.2.1
abbrev y_keptUndos (μ : MST) : Int32 := μ.2.2.2.2.2.2.2.2.2.2.2.2.2.2.2.1
abbrev y_isKept (μ : MST) : Int32 := μ.2.2.2.2.2.2.2.2.2.2.2.2.2.2.2.2.1
abbrev y_lanes (μ : MST) : Nat → Int32 := μ.2.2.2.2.2.2.2.2.2.2.2.2.2.2.2.2.2.1
abbrev y_sizes (μ : MST) : Nat → Int32 := μ.2.2.2.2.2.2.2.2.2.2.2.2.2.2.2.2.2.2.1
abbrev y_items (μ : MST) : Nat → Int64 := μ.2.2.2.2.2.2.2.2.2.2.2.2.2.2.2.2.2.2.2.1
abbrev y_moved (μ : MST) : Nat → Int64 := μ.2.2.2.2.2.2.2.2.2.2.2.2.2.2.2.2.2.2.2.2
def wL (cy : Nat → ClassId) (oa : Nat) (ad : Nat → Nat) (ob : Nat) (bd : Nat → Nat) (σ : CST) (μ : MST) : va_W := [(oa, .inr (8, [.ref (ad 0), .ref (ad 4), .ref (ad 30), .ref (ad 34), .int ((z_iK σ)), .ref (ad 60), .ref (ad 66), .ref (ad 71), .ref (ad 73), .ref (ad 84)])),
  ((ad 0), .inr (3, [.ref (ad 1), .ref (ad 2), .int ((z_now σ).2.2.1), .int ((z_now σ).2.2.2.1), .ref (ad 3), .int ((z_now σ).2.2.2.2.2.1), .int ((z_now σ).2.2.2.2.2.2.1), .int ((z_now σ).2.2.2.2.2.2.2.1), .int ((z_now σ).2.2.2.2.2.2.2.2)])),
  ((ad 1), .inl (cy 0, 6, .inl ((z_now σ).1))),
  ((ad 2), .inl (cy 0, 6, .inl ((z_now σ).2.1))),
  ((ad 3), .inl (cy 0, 6, .inl ((z_now σ).2.2.2.2.1))),
  ((ad 4), .inr (7, [.ref (ad 5), .int ((z_und σ).2.2.2.2.1), .int ((z_und σ).2.2.2.2.2)])),
  ((ad 5), .inl (cy 3, 8, .inr (.inr (.inr (.inr (fun j => some (ad (6 + 3 * j)))))))),
  ((ad 6), .inr (0, [.ref (ad 7), .ref (ad 8), .int ((z_und σ).2.2.1 0), .int ((z_und σ).2.2.2.1 0)])),
  ((ad 7), .inl (cy 0, 6, .inl ((z_und σ).1 0))),
  ((ad 8), .inl (cy 0, 6, .inl ((z_und σ).2.1 0))),
  ((ad 9), .inr (0, [.ref (ad 10), .ref (ad 11), .int ((z_und σ).2.2.1 1), .int ((z_und σ).2.2.2.1 1)])),
  ((ad 10), .inl (cy 0, 6, .inl ((z_und σ).1 1))),
  ((ad 11), .inl (cy 0, 6, .inl ((z_und σ).2.1 1))),
  ((ad 12), .inr (0, [.ref (ad 13), .ref (ad 14), .int ((z_und σ).2.2.1 2), .int ((z_und σ).2.2.2.1 2)])),
  ((ad 13), .inl (cy 0, 6, .inl ((z_und σ).1 2))),
  ((ad 14), .inl (cy 0, 6, .inl ((z_und σ).2.1 2))),
  ((ad 15), .inr (0, [.ref (ad 16), .ref (ad 17), .int ((z_und σ).2.2.1 3), .int ((z_und σ).2.2.2.1 3)])),
  ((ad 16), .inl (cy 0, 6, .inl ((z_und σ).1 3))),
  ((ad 17), .inl (cy 0, 6, .inl ((z_und σ).2.1 3))),
  ((ad 18), .inr (0, [.ref (ad 19), .ref (ad 20), .int ((z_und σ).2.2.1 4), .int ((z_und σ).2.2.2.1 4)])),
  ((ad 19), .inl (cy 0, 6, .inl ((z_und σ).1 4))),
  ((ad 20), .inl (cy 0, 6, .inl ((z_und σ).2.1 4))),
  ((ad 21), .inr (0, [.ref (ad 22), .ref (ad 23), .int ((z_und σ).2.2.1 5), .int ((z_und σ).2.2.2.1 5)])),
  ((ad 22), .inl (cy 0, 6, .inl ((z_und σ).1 5))),
  ((ad 23), .inl (cy 0, 6, .inl ((z_und σ).2.1 5))),
  ((ad 24), .inr (0, [.ref (ad 25), .ref (ad 26), .int ((z_und σ).2.2.1 6), .int ((z_und σ).2.2.2.1 6)])),
  ((ad 25), .inl (cy 0, 6, .inl ((z_und σ).1 6))),
  ((ad 26), .inl (cy 0, 6, .inl ((z_und σ).2.1 6))),
  ((ad 27), .inr (0, [.ref (ad 28), .ref (ad 29), .int ((z_und σ).2.2.1 7), .int ((z_und σ).2.2.2.1 7)])),
  ((ad 28), .inl (cy 0, 6, .inl ((z_und σ).1 7))),
  ((ad 29), .inl (cy 0, 6, .inl ((z_und σ).2.1 7))),
  ((ad 30), .inr (3, [.ref (ad 31), .ref (ad 32), .int ((z_kR σ).2.2.1), .int ((z_kR σ).2.2.2.1), .ref (ad 33), .int ((z_kR σ).2.2.2.2.2.1), .int ((z_kR σ).2.2.2.2.2.2.1), .int ((z_kR σ).2.2.2.2.2.2.2.1), .int ((z_kR σ).2.2.2.2.2.2.2.2)])),
  ((ad 31), .inl (cy 0, 6, .inl ((z_kR σ).1))),
  ((ad 32), .inl (cy 0, 6, .inl ((z_kR σ).2.1))),
  ((ad 33), .inl (cy 0, 6, .inl ((z_kR σ).2.2.2.2.1))),
  ((ad 34), .inr (7, [.ref (ad 35), .int ((z_kU σ).2.2.2.2.1), .int ((z_kU σ).2.2.2.2.2)])),
  ((ad 35), .inl (cy 3, 8, .inr (.inr (.inr (.inr (fun j => some (ad (36 + 3 * j)))))))),
  ((ad 36), .inr (0, [.ref (ad 37), .ref (ad 38), .int ((z_kU σ).2.2.1 0), .int ((z_kU σ).2.2.2.1 0)])),
  ((ad 37), .inl (cy 0, 6, .inl ((z_kU σ).1 0))),
  ((ad 38), .inl (cy 0, 6, .inl ((z_kU σ).2.1 0))),
  ((ad 39), .inr (0, [.ref (ad 40), .ref (ad 41), .int ((z_kU σ).2.2.1 1), .int ((z_kU σ).2.2.2.1 1)])),
  ((ad 40), .inl (cy 0, 6, .inl ((z_kU σ).1 1))),
  ((ad 41), .inl (cy 0, 6, .inl ((z_kU σ).2.1 1))),
  ((ad 42), .inr (0, [.ref (ad 43), .ref (ad 44), .int ((z_kU σ).2.2.1 2), .int ((z_kU σ).2.2.2.1 2)])),
  ((ad 43), .inl (cy 0, 6, .inl ((z_kU σ).1 2))),
  ((ad 44), .inl (cy 0, 6, .inl ((z_kU σ).2.1 2))),
  ((ad 45), .inr (0, [.ref (ad 46), .ref (ad 47), .int ((z_kU σ).2.2.1 3), .int ((z_kU σ).2.2.2.1 3)])),
  ((ad 46), .inl (cy 0, 6, .inl ((z_kU σ).1 3))),
  ((ad 47), .inl (cy 0, 6, .inl ((z_kU σ).2.1 3))),
  ((ad 48), .inr (0, [.ref (ad 49), .ref (ad 50), .int ((z_kU σ).2.2.1 4), .int ((z_kU σ).2.2.2.1 4)])),
  ((ad 49), .inl (cy 0, 6, .inl ((z_kU σ).1 4))),
  ((ad 50), .inl (cy 0, 6, .inl ((z_kU σ).2.1 4))),
  ((ad 51), .inr (0, [.ref (ad 52), .ref (ad 53), .int ((z_kU σ).2.2.1 5), .int ((z_kU σ).2.2.2.1 5)])),
  ((ad 52), .inl (cy 0, 6, .inl ((z_kU σ).1 5))),
  ((ad 53), .inl (cy 0, 6, .inl ((z_kU σ).2.1 5))),
  ((ad 54), .inr (0, [.ref (ad 55), .ref (ad 56), .int ((z_kU σ).2.2.1 6), .int ((z_kU σ).2.2.2.1 6)])),
  ((ad 55), .inl (cy 0, 6, .inl ((z_kU σ).1 6))),
  ((ad 56), .inl (cy 0, 6, .inl ((z_kU σ).2.1 6))),
  ((ad 57), .inr (0, [.ref (ad 58), .ref (ad 59), .int ((z_kU σ).2.2.1 7), .int ((z_kU σ).2.2.2.1 7)])),
  ((ad 58), .inl (cy 0, 6, .inl ((z_kU σ).1 7))),
  ((ad 59), .inl (cy 0, 6, .inl ((z_kU σ).2.1 7))),
  ((ad 60), .inr (6, [.ref (ad 61), .ref (ad 62), .int ((z_len σ)), .int ((z_plc σ)), .int ((z_flt σ))])),
  ((ad 61), .inl (cy 1, 60, .inl ((z_let σ)))),
  ((ad 62), .inr (3, [.ref (ad 63), .ref (ad 64), .int ((z_told σ).2.2.1), .int ((z_told σ).2.2.2.1), .ref (ad 65), .int ((z_told σ).2.2.2.2.2.1), .int ((z_told σ).2.2.2.2.2.2.1), .int ((z_told σ).2.2.2.2.2.2.2.1), .int ((z_told σ).2.2.2.2.2.2.2.2)])),
  ((ad 63), .inl (cy 0, 6, .inl ((z_told σ).1))),
  ((ad 64), .inl (cy 0, 6, .inl ((z_told σ).2.1))),
  ((ad 65), .inl (cy 0, 6, .inl ((z_told σ).2.2.2.2.1))),
  ((ad 66), .inr (1, [.ref (ad 67), .int ((z_cho σ)), .int ((z_mos σ))])),
  ((ad 67), .inr (3, [.ref (ad 68), .ref (ad 69), .int ((z_oT σ).2.2.1), .int ((z_oT σ).2.2.2.1), .ref (ad 70), .int ((z_oT σ).2.2.2.2.2.1), .int ((z_oT σ).2.2.2.2.2.2.1), .int ((z_oT σ).2.2.2.2.2.2.2.1), .int ((z_oT σ).2.2.2.2.2.2.2.2)])),
  ((ad 68), .inl (cy 0, 6, .inl ((z_oT σ).1))),
  ((ad 69), .inl (cy 0, 6, .inl ((z_oT σ).2.1))),
  ((ad 70), .inl (cy 0, 6, .inl ((z_oT σ).2.2.2.2.1))),
  ((ad 71), .inr (5, [.ref (ad 72), .int ((z_sur σ)), .int ((z_sha σ)), .int ((z_abo σ)), .int ((z_bel σ))])),
  ((ad 72), .inl (cy 0, 7, .inl ((z_wei σ)))),
  ((ad 73), .inr (2, [.ref (ad 74), .ref (ad 78), .ref (ad 82), .ref (ad 83), .int ((z_aco σ)), .int ((z_ani σ)), .int ((z_mst σ)), .int ((z_mpa σ))])),
  ((ad 74), .inr (3, [.ref (ad 75), .ref (ad 76), .int ((z_ask σ).2.2.1), .int ((z_ask σ).2.2.2.1), .ref (ad 77), .int ((z_ask σ).2.2.2.2.2.1), .int ((z_ask σ).2.2.2.2.2.2.1), .int ((z_ask σ).2.2.2.2.2.2.2.1), .int ((z_ask σ).2.2.2.2.2.2.2.2)])),
  ((ad 75), .inl (cy 0, 6, .inl ((z_ask σ).1))),
  ((ad 76), .inl (cy 0, 6, .inl ((z_ask σ).2.1))),
  ((ad 77), .inl (cy 0, 6, .inl ((z_ask σ).2.2.2.2.1))),
  ((ad 78), .inr (3, [.ref (ad 79), .ref (ad 80), .int ((z_pT σ).2.2.1), .int ((z_pT σ).2.2.2.1), .ref (ad 81), .int ((z_pT σ).2.2.2.2.2.1), .int ((z_pT σ).2.2.2.2.2.2.1), .int ((z_pT σ).2.2.2.2.2.2.2.1), .int ((z_pT σ).2.2.2.2.2.2.2.2)])),
  ((ad 79), .inl (cy 0, 6, .inl ((z_pT σ).1))),
  ((ad 80), .inl (cy 0, 6, .inl ((z_pT σ).2.1))),
  ((ad 81), .inl (cy 0, 6, .inl ((z_pT σ).2.2.2.2.1))),
  ((ad 82), .inl (cy 0, 6, .inl ((z_shs σ)))),
  ((ad 83), .inl (cy 0, 6, .inl ((z_bsh σ)))),
  ((ad 84), .inl (cy 4, 4, .inr (.inr (.inr (.inr (fun j => some (ad (85 + 2 * j)))))))),
  ((ad 85), .inr (4, [.ref (ad 86), .int ((z_lan σ) 0), .int ((z_siz σ) 0), .int ((z_frm σ) 0), .int ((z_mrk σ) 0)])),
  ((ad 86), .inl (cy 2, 24, .inr (.inl ((z_itm σ) 0)))),
  ((ad 87), .inr (4, [.ref (ad 88), .int ((z_lan σ) 1), .int ((z_siz σ) 1), .int ((z_frm σ) 1), .int ((z_mrk σ) 1)])),
  ((ad 88), .inl (cy 2, 24, .inr (.inl ((z_itm σ) 1)))),
  ((ad 89), .inr (4, [.ref (ad 90), .int ((z_lan σ) 2), .int ((z_siz σ) 2), .int ((z_frm σ) 2), .int ((z_mrk σ) 2)])),
  ((ad 90), .inl (cy 2, 24, .inr (.inl ((z_itm σ) 2)))),
  ((ad 91), .inr (4, [.ref (ad 92), .int ((z_lan σ) 3), .int ((z_siz σ) 3), .int ((z_frm σ) 3), .int ((z_mrk σ) 3)])),
  ((ad 92), .inl (cy 2, 24, .inr (.inl ((z_itm σ) 3)))),
  (ob, .inr (9, [.ref (bd 0), .ref (bd 1), .int ((y_typed μ)), .int ((y_place μ)), .int ((y_isFault μ)), .ref (bd 2), .ref (bd 3), .ref (bd 4), .int ((y_undos μ)), .ref (bd 5), .ref (bd 6), .ref (bd 7), .int ((y_bestStand μ)), .int ((y_bestPaint μ)), .ref (bd 8), .int ((y_keptUndos μ)), .int ((y_isKept μ)), .ref (bd 9), .ref (bd 10), .ref (bd 11), .ref (bd 12)])),
  ((bd 0), .inl (cy 0, 24, .inl ((y_now μ)))),
  ((bd 1), .inl (cy 0, 60, .inl ((y_tape μ)))),
  ((bd 2), .inl (cy 0, 3, .inl ((y_readLaw μ)))),
  ((bd 3), .inl (cy 0, 18, .inl ((y_read μ)))),
  ((bd 4), .inl (cy 0, 112, .inl ((y_undone μ)))),
  ((bd 5), .inl (cy 0, 24, .inl ((y_aside μ)))),
  ((bd 6), .inl (cy 0, 6, .inl ((y_coat μ)))),
  ((bd 7), .inl (cy 0, 6, .inl ((y_bestCoats μ)))),
  ((bd 8), .inl (cy 0, 136, .inl ((y_kept μ)))),
  ((bd 9), .inl (cy 0, 4, .inl ((y_lanes μ)))),
  ((bd 10), .inl (cy 0, 4, .inl ((y_sizes μ)))),
  ((bd 11), .inl (cy 2, 96, .inr (.inl ((y_items μ))))),
  ((bd 12), .inl (cy 2, 24, .inr (.inl ((y_moved μ)))))]
def INV (σ : CST) (μ : MST) : Prop := InvN (z_now σ) (z_und σ) (y_now μ) (y_undos μ) (y_undone μ) ∧ InvK (z_kR σ) (z_kU σ) (z_iK σ) (y_kept μ) (y_keptUndos μ) (y_isKept μ) ∧ InvT (z_let σ) (z_len σ) (y_tape μ) (y_typed μ) ∧ RWS (z_lan σ) (z_siz σ) (z_itm σ) (y_lanes μ) (y_sizes μ) (y_items μ) ∧ PCa (z_ask σ) (z_aco σ) (z_ani σ) (z_mst σ) (z_mpa σ) (z_bsh σ) ∧ (z_told σ).2.2.1 = 0
def U8_man (σ : CST) (o : Int32 × (Nat → Int32) × (Nat → Int32) × (Nat → Int32) × Int32 × Int32) : CST := ((o.2.1, o.2.2.1, (z_now σ).2.2.1, (z_now σ).2.2.2.1, o.2.2.2.1, o.2.2.2.2.1, (z_now σ).2.2.2.2.2.2.1, (z_now σ).2.2.2.2.2.2.2.1, (z_now σ).2.2.2.2.2.2.2.2), ((z_und σ).1, (z_und σ).2.1, (z_und σ).2.2.1, (z_und σ).2.2.2.1, (z_und σ).2.2.2.2.1, o.2.2.2.2.2), z_kR σ, z_kU σ, z_iK σ, z_let σ, z_told σ, z_len σ, z_plc σ, z_flt σ, z_oT σ, z_cho σ, z_mos σ, z_wei σ, z_sur σ, z_sha σ, z_abo σ, z_bel σ, z_ask σ, z_pT σ, z_shs σ, z_bsh σ, z_aco σ, z_ani σ, z_mst σ, z_mpa σ, z_itm σ, z_lan σ, z_siz σ, z_frm σ, z_mrk σ)
def U9_man (μ : MST) (o : Int32 × (Nat → Int32) × Int32) : MST := (o.2.1, y_tape μ, y_typed μ, y_place μ, y_isFault μ, y_readLaw μ, y_read μ, y_undone μ, o.2.2, y_aside μ, y_coat μ, y_bestCoats μ, y_bestStand μ, y_bestPaint μ, y_kept μ, y_keptUndos μ, y_isKept μ, y_lanes μ, y_sizes μ, y_items μ, y_moved μ)
def U8_rule (σ : CST) (o : Int32 × Int32 × Int32 × Int32) : CST := (((z_now σ).1, (z_now σ).2.1, (z_now σ).2.2.1, (z_now σ).2.2.2.1, (z_now σ).2.2.2.2.1, (z_now σ).2.2.2.2.2.1, o.2.1, o.2.2.1, o.2.2.2), z_und σ, z_kR σ, z_kU σ, z_iK σ, z_let σ, z_told σ, z_len σ, z_plc σ, z_flt σ, z_oT σ, z_cho σ, z_mos σ, z_wei σ, z_sur σ, z_sha σ, z_abo σ, z_bel σ, z_ask σ, z_pT σ, z_shs σ, z_bsh σ, z_aco σ, z_ani σ, z_mst σ, z_mpa σ, z_itm σ, z_lan σ, z_siz σ, z_frm σ, z_mrk σ)
def U9_rule (μ : MST) (o : Int32 × (Nat → Int32)) : MST := (o.2, y_tape μ, y_typed μ, y_place μ, y_isFault μ, y_readLaw μ, y_read μ, y_undone μ, y_undos μ, y_aside μ, y_coat μ, y_bestCoats μ, y_bestStand μ, y_bestPaint μ, y_kept μ, y_keptUndos μ, y_isKept μ, y_lanes μ, y_sizes μ, y_items μ, y_moved μ)
def U8_type (σ : CST) (o : Int32 × (Nat → Int32) × Int32) : CST := (z_now σ, z_und σ, z_kR σ, z_kU σ, z_iK σ, o.2.1, z_told σ, o.2.2, z_plc σ, z_flt σ, z_oT σ, z_cho σ, z_mos σ, z_wei σ, z_sur σ, z_sha σ, z_abo σ, z_bel σ, z_ask σ, z_pT σ, z_shs σ, z_bsh σ, z_aco σ, z_ani σ, z_mst σ, z_mpa σ, z_itm σ, z_lan σ, z_siz σ, z_frm σ, z_mrk σ)
def U9_type (μ : MST) (o : Int32 × (Nat → Int32) × Int32) : MST := (y_now μ, o.2.1, o.2.2, y_place μ, y_isFault μ, y_readLaw μ, y_read μ, y_undone μ, y_undos μ, y_aside μ, y_coat μ, y_bestCoats μ, y_bestStand μ, y_bestPaint μ, y_kept μ, y_keptUndos μ, y_isKept μ, y_lanes μ, y_sizes μ, y_items μ, y_moved μ)
def U8_rim (σ : CST) (o : Int32 × (Nat → Int32) × (Nat → Int32) × Int32 × Int32 × (Nat → Int32) × Int32 × Int32 × Int32 × Int32 × Int32 × (Nat → Int32) × (Nat → Int32) × (Nat → Int32) × Int32 × Int32 × Int32 × Int32 × Int32 × Int32 × Int32) : CST := ((o.2.1, o.2.2.1, o.2.2.2.1, o.2.2.2.2.1, o.2.2.2.2.2.1, o.2.2.2.2.2.2.1, o.2.2.2.2.2.2.2.1, o.2.2.2.2.2.2.2.2.1, o.2.2.2.2.2.2.2.2.2.1), ((z_und σ).1, (z_und σ).2.1, (z_und σ).2.2.1, (z_und σ).2.2.2.1, (z_und σ).2.2.2.2.1, o.2.2.2.2.2.2.2.2.2.2.1), z_kR σ, z_kU σ, z_iK σ, z_let σ, (o.2.2.2.2.2.2.2.2.2.2.2.1, o.2.2.2.2.2.2.2.2.2.2.2.2.1, (z_told σ).2.2.1, (z_told σ).2.2.2.1, o.2.2.2.2.2.2.2.2.2.2.2.2.2.1, o.2.2.2.2.2.2.2.2.2.2.2.2.2.2.1, o.2.2.2.2.2.2.2.2.2.2.2.2.2.2.2.1, o.2.2.2.2.2.2.2.2.2.2.2.2.2.2.2.2.1, o.2.2.2.2.2.2.2.2.2.2.2.2.2.2.2.2.2.1), o.2.2.2.2.2.2.2.2.2.2.2.2.2.2.2.2.2.2.1, o.2.2.2.2.2.2.2.2.2.2.2.2.2.2.2.2.2.2.2.1, o.2.2.2.2.2.2.2.2.2.2.2.2.2.2.2.2.2.2.2.2, z_oT σ, z_cho σ, z_mos σ, z_wei σ, z_sur σ, z_sha σ, z_abo σ, z_bel σ, z_ask σ, z_pT σ, z_shs σ, z_bsh σ, z_aco σ, z_ani σ, z_mst σ, z_mpa σ, z_itm σ, z_lan σ, z_siz σ, z_frm σ, z_mrk σ)
def U9_rim (μ : MST) (o : Int32 × (Nat → Int32) × Int32 × Int32 × Int32 × (Nat → Int32) × (Nat → Int32) × Int32) : MST := (o.2.1, y_tape μ, o.2.2.1, o.2.2.2.1, o.2.2.2.2.1, o.2.2.2.2.2.1, o.2.2.2.2.2.2.1, y_undone μ, o.2.2.2.2.2.2.2, y_aside μ, y_coat μ, y_bestCoats μ, y_bestStand μ, y_bestPaint μ, y_kept μ, y_keptUndos μ, y_isKept μ, y_lanes μ, y_sizes μ, y_items μ, y_moved μ)
def U8_nights (σ : CST) (o : Int32 × (Nat → Int32) × (Nat → Int32) × Int32 × Int32 × (Nat → Nat → Int32) × (Nat → Nat → Int32) × (Nat → Int32) × (Nat → Int32) × Int32 × Int32) : CST := ((o.2.1, o.2.2.1, o.2.2.2.1, o.2.2.2.2.1, (z_now σ).2.2.2.2.1, (z_now σ).2.2.2.2.2.1, (z_now σ).2.2.2.2.2.2.1, (z_now σ).2.2.2.2.2.2.2.1, (z_now σ).2.2.2.2.2.2.2.2), (o.2.2.2.2.2.1, o.2.2.2.2.2.2.1, o.2.2.2.2.2.2.2.1, o.2.2.2.2.2.2.2.2.1, o.2.2.2.2.2.2.2.2.2.1, o.2.2.2.2.2.2.2.2.2.2), z_kR σ, z_kU σ, z_iK σ, z_let σ, z_told σ, z_len σ, z_plc σ, z_flt σ, z_oT σ, z_cho σ, z_mos σ, z_wei σ, z_sur σ, z_sha σ, z_abo σ, z_bel σ, z_ask σ, z_pT σ, z_shs σ, z_bsh σ, z_aco σ, z_ani σ, z_mst σ, z_mpa σ, z_itm σ, z_lan σ, z_siz σ, z_frm σ, z_mrk σ)
def U9_nights (μ : MST) (o : Int32 × (Nat → Int32) × (Nat → Int32) × Int32) : MST := (o.2.1, y_tape μ, y_typed μ, y_place μ, y_isFault μ, y_readLaw μ, y_read μ, o.2.2.1, o.2.2.2, y_aside μ, y_coat μ, y_bestCoats μ, y_bestStand μ, y_bestPaint μ, y_kept μ, y_keptUndos μ, y_isKept μ, y_lanes μ, y_sizes μ, y_items μ, y_moved μ)
def U8_march (σ : CST) (o : Int32 × (Nat → Int32) × (Nat → Nat → Int32) × (Nat → Nat → Int32) × (Nat → Int32) × (Nat → Int32) × Int32 × Int32) : CST := (((z_now σ).1, o.2.1, (z_now σ).2.2.1, (z_now σ).2.2.2.1, (z_now σ).2.2.2.2.1, (z_now σ).2.2.2.2.2.1, (z_now σ).2.2.2.2.2.2.1, (z_now σ).2.2.2.2.2.2.2.1, (z_now σ).2.2.2.2.2.2.2.2), (o.2.2.1, o.2.2.2.1, o.2.2.2.2.1, o.2.2.2.2.2.1, o.2.2.2.2.2.2.1, o.2.2.2.2.2.2.2), z_kR σ, z_kU σ, z_iK σ, z_let σ, z_told σ, z_len σ, z_plc σ, z_flt σ, z_oT σ, z_cho σ, z_mos σ, z_wei σ, z_sur σ, z_sha σ, z_abo σ, z_bel σ, z_ask σ, z_pT σ, z_shs σ, z_bsh σ, z_aco σ, z_ani σ, z_mst σ, z_mpa σ, z_itm σ, z_lan σ, z_siz σ, z_frm σ, z_mrk σ)
def U9_march (μ : MST) (o : Int32 × (Nat → Int32) × (Nat → Int32) × Int32) : MST := (o.2.1, y_tape μ, y_typed μ, y_place μ, y_isFault μ, y_readLaw μ, y_read μ, o.2.2.1, o.2.2.2, y_aside μ, y_coat μ, y_bestCoats μ, y_bestStand μ, y_bestPaint μ, y_kept μ, y_keptUndos μ, y_isKept μ, y_lanes μ, y_sizes μ, y_items μ, y_moved μ)
def U8_put (σ : CST) (o : Int32 × (Nat → Int32) × (Nat → Nat → Int32) × (Nat → Nat → Int32) × (Nat → Int32) × (Nat → Int32) × Int32 × Int32) : CST := (((z_now σ).1, o.2.1, (z_now σ).2.2.1, (z_now σ).2.2.2.1, (z_now σ).2.2.2.2.1, (z_now σ).2.2.2.2.2.1, (z_now σ).2.2.2.2.2.2.1, (z_now σ).2.2.2.2.2.2.2.1, (z_now σ).2.2.2.2.2.2.2.2), (o.2.2.1, o.2.2.2.1, o.2.2.2.2.1, o.2.2.2.2.2.1, o.2.2.2.2.2.2.1, o.2.2.2.2.2.2.2), z_kR σ, z_kU σ, z_iK σ, z_let σ, z_told σ, z_len σ, z_plc σ, z_flt σ, z_oT σ, z_cho σ, z_mos σ, z_wei σ, z_sur σ, z_sha σ, z_abo σ, z_bel σ, z_ask σ, z_pT σ, z_shs σ, z_bsh σ, z_aco σ, z_ani σ, z_mst σ, z_mpa σ, z_itm σ, z_lan σ, z_siz σ, z_frm σ, z_mrk σ)
def U9_put (μ : MST) (o : Int32 × (Nat → Int32) × (Nat → Int32) × Int32) : MST := (o.2.1, y_tape μ, y_typed μ, y_place μ, y_isFault μ, y_readLaw μ, y_read μ, o.2.2.1, o.2.2.2, y_aside μ, y_coat μ, y_bestCoats μ, y_bestStand μ, y_bestPaint μ, y_kept μ, y_keptUndos μ, y_isKept μ, y_lanes μ, y_sizes μ, y_items μ, y_moved μ)
def U8_paint (σ : CST) (o : Int32 × (Nat → Int32) × (Nat → Nat → Int32) × (Nat → Nat → Int32) × (Nat → Int32) × (Nat → Int32) × Int32 × Int32) : CST := ((o.2.1, (z_now σ).2.1, (z_now σ).2.2.1, (z_now σ).2.2.2.1, (z_now σ).2.2.2.2.1, (z_now σ).2.2.2.2.2.1, (z_now σ).2.2.2.2.2.2.1, (z_now σ).2.2.2.2.2.2.2.1, (z_now σ).2.2.2.2.2.2.2.2), (o.2.2.1, o.2.2.2.1, o.2.2.2.2.1, o.2.2.2.2.2.1, o.2.2.2.2.2.2.1, o.2.2.2.2.2.2.2), z_kR σ, z_kU σ, z_iK σ, z_let σ, z_told σ, z_len σ, z_plc σ, z_flt σ, z_oT σ, z_cho σ, z_mos σ, z_wei σ, z_sur σ, z_sha σ, z_abo σ, z_bel σ, z_ask σ, z_pT σ, z_shs σ, z_bsh σ, z_aco σ, z_ani σ, z_mst σ, z_mpa σ, z_itm σ, z_lan σ, z_siz σ, z_frm σ, z_mrk σ)
def U9_paint (μ : MST) (o : Int32 × (Nat → Int32) × (Nat → Int32) × Int32) : MST := (o.2.1, y_tape μ, y_typed μ, y_place μ, y_isFault μ, y_readLaw μ, y_read μ, o.2.2.1, o.2.2.2, y_aside μ, y_coat μ, y_bestCoats μ, y_bestStand μ, y_bestPaint μ, y_kept μ, y_keptUndos μ, y_isKept μ, y_lanes μ, y_sizes μ, y_items μ, y_moved μ)
def U8_drift (σ : CST) (o : Int32 × (Nat → Int32) × (Nat → Int32) × Int32 × Int32 × (Nat → Nat → Int32) × (Nat → Nat → Int32) × (Nat → Int32) × (Nat → Int32) × Int32 × Int32) : CST := ((o.2.1, o.2.2.1, o.2.2.2.1, o.2.2.2.2.1, (z_now σ).2.2.2.2.1, (z_now σ).2.2.2.2.2.1, (z_now σ).2.2.2.2.2.2.1, (z_now σ).2.2.2.2.2.2.2.1, (z_now σ).2.2.2.2.2.2.2.2), (o.2.2.2.2.2.1, o.2.2.2.2.2.2.1, o.2.2.2.2.2.2.2.1, o.2.2.2.2.2.2.2.2.1, o.2.2.2.2.2.2.2.2.2.1, o.2.2.2.2.2.2.2.2.2.2), z_kR σ, z_kU σ, z_iK σ, z_let σ, z_told σ, z_len σ, z_plc σ, z_flt σ, z_oT σ, z_cho σ, z_mos σ, z_wei σ, z_sur σ, z_sha σ, z_abo σ, z_bel σ, z_ask σ, z_pT σ, z_shs σ, z_bsh σ, z_aco σ, z_ani σ, z_mst σ, z_mpa σ, z_itm σ, z_lan σ, z_siz σ, z_frm σ, z_mrk σ)
def U9_drift (μ : MST) (o : Int32 × (Nat → Int32) × (Nat → Int32) × Int32) : MST := (o.2.1, y_tape μ, y_typed μ, y_place μ, y_isFault μ, y_readLaw μ, y_read μ, o.2.2.1, o.2.2.2, y_aside μ, y_coat μ, y_bestCoats μ, y_bestStand μ, y_bestPaint μ, y_kept μ, y_keptUndos μ, y_isKept μ, y_lanes μ, y_sizes μ, y_items μ, y_moved μ)
def U8_undo (σ : CST) (o : Int32 × (Nat → Int32) × (Nat → Int32) × Int32 × Int32 × Int32 × Int32) : CST := ((o.2.1, o.2.2.1, o.2.2.2.1, o.2.2.2.2.1, (z_now σ).2.2.2.2.1, (z_now σ).2.2.2.2.2.1, (z_now σ).2.2.2.2.2.2.1, (z_now σ).2.2.2.2.2.2.2.1, (z_now σ).2.2.2.2.2.2.2.2), ((z_und σ).1, (z_und σ).2.1, (z_und σ).2.2.1, (z_und σ).2.2.2.1, o.2.2.2.2.2.1, o.2.2.2.2.2.2), z_kR σ, z_kU σ, z_iK σ, z_let σ, z_told σ, z_len σ, z_plc σ, z_flt σ, z_oT σ, z_cho σ, z_mos σ, z_wei σ, z_sur σ, z_sha σ, z_abo σ, z_bel σ, z_ask σ, z_pT σ, z_shs σ, z_bsh σ, z_aco σ, z_ani σ, z_mst σ, z_mpa σ, z_itm σ, z_lan σ, z_siz σ, z_frm σ, z_mrk σ)
def U9_undo (μ : MST) (o : Int32 × (Nat → Int32) × Int32) : MST := (o.2.1, y_tape μ, y_typed μ, y_place μ, y_isFault μ, y_readLaw μ, y_read μ, y_undone μ, o.2.2, y_aside μ, y_coat μ, y_bestCoats μ, y_bestStand μ, y_bestPaint μ, y_kept μ, y_keptUndos μ, y_isKept μ, y_lanes μ, y_sizes μ, y_items μ, y_moved μ)
def U8_seed (σ : CST) (o : Int32 × Int32) : CST := (((z_now σ).1, (z_now σ).2.1, (z_now σ).2.2.1, o.2, (z_now σ).2.2.2.2.1, (z_now σ).2.2.2.2.2.1, (z_now σ).2.2.2.2.2.2.1, (z_now σ).2.2.2.2.2.2.2.1, (z_now σ).2.2.2.2.2.2.2.2), z_und σ, z_kR σ, z_kU σ, z_iK σ, z_let σ, z_told σ, z_len σ, z_plc σ, z_flt σ, z_oT σ, z_cho σ, z_mos σ, z_wei σ, z_sur σ, z_sha σ, z_abo σ, z_bel σ, z_ask σ, z_pT σ, z_shs σ, z_bsh σ, z_aco σ, z_ani σ, z_mst σ, z_mpa σ, z_itm σ, z_lan σ, z_siz σ, z_frm σ, z_mrk σ)
def U9_seed (μ : MST) (o : Int32 × (Nat → Int32)) : MST := (o.2, y_tape μ, y_typed μ, y_place μ, y_isFault μ, y_readLaw μ, y_read μ, y_undone μ, y_undos μ, y_aside μ, y_coat μ, y_bestCoats μ, y_bestStand μ, y_bestPaint μ, y_kept μ, y_keptUndos μ, y_isKept μ, y_lanes μ, y_sizes μ, y_items μ, y_moved μ)
def U8_ahead (σ : CST) (o : Int32 × (Nat → Int32) × (Nat → Int32) × Int32 × Int32 × (Nat → Int32) × Int32 × Int32 × Int32 × Int32) : CST := (z_now σ, z_und σ, z_kR σ, z_kU σ, z_iK σ, z_let σ, z_told σ, z_len σ, z_plc σ, z_flt σ, (o.2.1, o.2.2.1, o.2.2.2.1, o.2.2.2.2.1, o.2.2.2.2.2.1, o.2.2.2.2.2.2.1, o.2.2.2.2.2.2.2.1, o.2.2.2.2.2.2.2.2.1, o.2.2.2.2.2.2.2.2.2), z_cho σ, z_mos σ, z_wei σ, z_sur σ, z_sha σ, z_abo σ, z_bel σ, z_ask σ, z_pT σ, z_shs σ, z_bsh σ, z_aco σ, z_ani σ, z_mst σ, z_mpa σ, z_itm σ, z_lan σ, z_siz σ, z_frm σ, z_mrk σ)
def U9_ahead (μ : MST) (o : Int32 × (Nat → Int32) × (Nat → Int32)) : MST := (o.2.1, y_tape μ, y_typed μ, y_place μ, y_isFault μ, y_readLaw μ, y_read μ, y_undone μ, y_undos μ, o.2.2, y_coat μ, y_bestCoats μ, y_bestStand μ, y_bestPaint μ, y_kept μ, y_keptUndos μ, y_isKept μ, y_lanes μ, y_sizes μ, y_items μ, y_moved μ)
def U8_then (σ : CST) (o : Int32 × (Nat → Int32) × (Nat → Int32) × Int32 × Int32 × (Nat → Int32) × Int32 × Int32 × Int32 × Int32) : CST := (z_now σ, z_und σ, z_kR σ, z_kU σ, z_iK σ, z_let σ, z_told σ, z_len σ, z_plc σ, z_flt σ, (o.2.1, o.2.2.1, o.2.2.2.1, o.2.2.2.2.1, o.2.2.2.2.2.1, o.2.2.2.2.2.2.1, o.2.2.2.2.2.2.2.1, o.2.2.2.2.2.2.2.2.1, o.2.2.2.2.2.2.2.2.2), z_cho σ, z_mos σ, z_wei σ, z_sur σ, z_sha σ, z_abo σ, z_bel σ, z_ask σ, z_pT σ, z_shs σ, z_bsh σ, z_aco σ, z_ani σ, z_mst σ, z_mpa σ, z_itm σ, z_lan σ, z_siz σ, z_frm σ, z_mrk σ)
def U9_then (μ : MST) (o : Int32 × (Nat → Int32) × (Nat → Int32)) : MST := (o.2.1, y_tape μ, y_typed μ, y_place μ, y_isFault μ, y_readLaw μ, y_read μ, y_undone μ, y_undos μ, o.2.2, y_coat μ, y_bestCoats μ, y_bestStand μ, y_bestPaint μ, y_kept μ, y_keptUndos μ, y_isKept μ, y_lanes μ, y_sizes μ, y_items μ, y_moved μ)
def U8_falls (σ : CST) (o : Int32 × (Nat → Int32) × (Nat → Int32) × Int32 × Int32 × (Nat → Int32) × Int32 × Int32 × Int32 × Int32) : CST := (z_now σ, z_und σ, z_kR σ, z_kU σ, z_iK σ, z_let σ, z_told σ, z_len σ, z_plc σ, z_flt σ, (o.2.1, o.2.2.1, o.2.2.2.1, o.2.2.2.2.1, o.2.2.2.2.2.1, o.2.2.2.2.2.2.1, o.2.2.2.2.2.2.2.1, o.2.2.2.2.2.2.2.2.1, o.2.2.2.2.2.2.2.2.2), z_cho σ, z_mos σ, z_wei σ, z_sur σ, z_sha σ, z_abo σ, z_bel σ, z_ask σ, z_pT σ, z_shs σ, z_bsh σ, z_aco σ, z_ani σ, z_mst σ, z_mpa σ, z_itm σ, z_lan σ, z_siz σ, z_frm σ, z_mrk σ)
def U9_falls (μ : MST) (o : Int32 × (Nat → Int32) × (Nat → Int32)) : MST := (o.2.1, y_tape μ, y_typed μ, y_place μ, y_isFault μ, y_readLaw μ, y_read μ, y_undone μ, y_undos μ, o.2.2, y_coat μ, y_bestCoats μ, y_bestStand μ, y_bestPaint μ, y_kept μ, y_keptUndos μ, y_isKept μ, y_lanes μ, y_sizes μ, y_items μ, y_moved μ)
def U8_alone (σ : CST) (o : Int32 × (Nat → Int32) × (Nat → Int32) × Int32 × Int32 × (Nat → Int32) × Int32 × Int32 × Int32 × Int32) : CST := (z_now σ, z_und σ, z_kR σ, z_kU σ, z_iK σ, z_let σ, z_told σ, z_len σ, z_plc σ, z_flt σ, (o.2.1, o.2.2.1, o.2.2.2.1, o.2.2.2.2.1, o.2.2.2.2.2.1, o.2.2.2.2.2.2.1, o.2.2.2.2.2.2.2.1, o.2.2.2.2.2.2.2.2.1, o.2.2.2.2.2.2.2.2.2), z_cho σ, z_mos σ, z_wei σ, z_sur σ, z_sha σ, z_abo σ, z_bel σ, z_ask σ, z_pT σ, z_shs σ, z_bsh σ, z_aco σ, z_ani σ, z_mst σ, z_mpa σ, z_itm σ, z_lan σ, z_siz σ, z_frm σ, z_mrk σ)
def U9_alone (μ : MST) (o : Int32 × (Nat → Int32) × (Nat → Int32)) : MST := (o.2.1, y_tape μ, y_typed μ, y_place μ, y_isFault μ, y_readLaw μ, y_read μ, y_undone μ, y_undos μ, o.2.2, y_coat μ, y_bestCoats μ, y_bestStand μ, y_bestPaint μ, y_kept μ, y_keptUndos μ, y_isKept μ, y_lanes μ, y_sizes μ, y_items μ, y_moved μ)
def U8_post (σ : CST) (o : Int32 × (Nat → Int32) × (Nat → Int32) × Int32 × Int32 × (Nat → Int32) × Int32 × Int32 × Int32 × Int32 × Int32 × Int32) : CST := (z_now σ, z_und σ, z_kR σ, z_kU σ, z_iK σ, z_let σ, z_told σ, z_len σ, z_plc σ, z_flt σ, (o.2.1, o.2.2.1, o.2.2.2.1, o.2.2.2.2.1, o.2.2.2.2.2.1, o.2.2.2.2.2.2.1, o.2.2.2.2.2.2.2.1, o.2.2.2.2.2.2.2.2.1, o.2.2.2.2.2.2.2.2.2.1), o.2.2.2.2.2.2.2.2.2.2.1, o.2.2.2.2.2.2.2.2.2.2.2, z_wei σ, z_sur σ, z_sha σ, z_abo σ, z_bel σ, z_ask σ, z_pT σ, z_shs σ, z_bsh σ, z_aco σ, z_ani σ, z_mst σ, z_mpa σ, z_itm σ, z_lan σ, z_siz σ, z_frm σ, z_mrk σ)
def U9_post (μ : MST) (o : Int32 × (Nat → Int32) × (Nat → Int32)) : MST := (o.2.1, y_tape μ, y_typed μ, y_place μ, y_isFault μ, y_readLaw μ, y_read μ, y_undone μ, y_undos μ, o.2.2, y_coat μ, y_bestCoats μ, y_bestStand μ, y_bestPaint μ, y_kept μ, y_keptUndos μ, y_isKept μ, y_lanes μ, y_sizes μ, y_items μ, y_moved μ)
def U8_safe (σ : CST) (o : Int32 × (Nat → Int32) × (Nat → Int32) × Int32 × Int32 × (Nat → Int32) × Int32 × Int32 × Int32 × Int32) : CST := (z_now σ, z_und σ, z_kR σ, z_kU σ, z_iK σ, z_let σ, z_told σ, z_len σ, z_plc σ, z_flt σ, (o.2.1, o.2.2.1, o.2.2.2.1, o.2.2.2.2.1, o.2.2.2.2.2.1, o.2.2.2.2.2.2.1, o.2.2.2.2.2.2.2.1, o.2.2.2.2.2.2.2.2.1, o.2.2.2.2.2.2.2.2.2), z_cho σ, z_mos σ, z_wei σ, z_sur σ, z_sha σ, z_abo σ, z_bel σ, z_ask σ, z_pT σ, z_shs σ, z_bsh σ, z_aco σ, z_ani σ, z_mst σ, z_mpa σ, z_itm σ, z_lan σ, z_siz σ, z_frm σ, z_mrk σ)
def U9_safe (μ : MST) (o : Int32 × (Nat → Int32) × (Nat → Int32)) : MST := (o.2.1, y_tape μ, y_typed μ, y_place μ, y_isFault μ, y_readLaw μ, y_read μ, y_undone μ, y_undos μ, o.2.2, y_coat μ, y_bestCoats μ, y_bestStand μ, y_bestPaint μ, y_kept μ, y_keptUndos μ, y_isKept μ, y_lanes μ, y_sizes μ, y_items μ, y_moved μ)
def U8_change (σ : CST) (o : Int32 × (Nat → Int32) × (Nat → Int32) × Int32 × Int32 × (Nat → Int32) × Int32 × Int32 × Int32 × Int32 × Int32 × Int32) : CST := (z_now σ, z_und σ, z_kR σ, z_kU σ, z_iK σ, z_let σ, z_told σ, z_len σ, z_plc σ, z_flt σ, (o.2.1, o.2.2.1, o.2.2.2.1, o.2.2.2.2.1, o.2.2.2.2.2.1, o.2.2.2.2.2.2.1, o.2.2.2.2.2.2.2.1, o.2.2.2.2.2.2.2.2.1, o.2.2.2.2.2.2.2.2.2.1), o.2.2.2.2.2.2.2.2.2.2.1, o.2.2.2.2.2.2.2.2.2.2.2, z_wei σ, z_sur σ, z_sha σ, z_abo σ, z_bel σ, z_ask σ, z_pT σ, z_shs σ, z_bsh σ, z_aco σ, z_ani σ, z_mst σ, z_mpa σ, z_itm σ, z_lan σ, z_siz σ, z_frm σ, z_mrk σ)
def U9_change (μ : MST) (o : Int32 × (Nat → Int32) × (Nat → Int32)) : MST := (o.2.1, y_tape μ, y_typed μ, y_place μ, y_isFault μ, y_readLaw μ, y_read μ, y_undone μ, y_undos μ, o.2.2, y_coat μ, y_bestCoats μ, y_bestStand μ, y_bestPaint μ, y_kept μ, y_keptUndos μ, y_isKept μ, y_lanes μ, y_sizes μ, y_items μ, y_moved μ)
def U8_coats (σ : CST) (o : Int32 × (Nat → Int32) × (Nat → Int32) × Int32 × Int32 × (Nat → Int32) × Int32 × Int32 × Int32 × Int32 × (Nat → Int32) × (Nat → Int32) × Int32 × Int32 × (Nat → Int32) × Int32 × Int32 × Int32 × Int32 × (Nat → Int32) × (Nat → Int32) × Int32 × Int32 × Int32 × Int32) : CST := (z_now σ, z_und σ, z_kR σ, z_kU σ, z_iK σ, z_let σ, z_told σ, z_len σ, z_plc σ, z_flt σ, z_oT σ, z_cho σ, z_mos σ, z_wei σ, z_sur σ, z_sha σ, z_abo σ, z_bel σ, (o.2.1, o.2.2.1, o.2.2.2.1, o.2.2.2.2.1, o.2.2.2.2.2.1, o.2.2.2.2.2.2.1, o.2.2.2.2.2.2.2.1, o.2.2.2.2.2.2.2.2.1, o.2.2.2.2.2.2.2.2.2.1), (o.2.2.2.2.2.2.2.2.2.2.1, o.2.2.2.2.2.2.2.2.2.2.2.1, o.2.2.2.2.2.2.2.2.2.2.2.2.1, o.2.2.2.2.2.2.2.2.2.2.2.2.2.1, o.2.2.2.2.2.2.2.2.2.2.2.2.2.2.1, o.2.2.2.2.2.2.2.2.2.2.2.2.2.2.2.1, o.2.2.2.2.2.2.2.2.2.2.2.2.2.2.2.2.1, o.2.2.2.2.2.2.2.2.2.2.2.2.2.2.2.2.2.1, o.2.2.2.2.2.2.2.2.2.2.2.2.2.2.2.2.2.2.1), o.2.2.2.2.2.2.2.2.2.2.2.2.2.2.2.2.2.2.2.1, o.2.2.2.2.2.2.2.2.2.2.2.2.2.2.2.2.2.2.2.2.1, o.2.2.2.2.2.2.2.2.2.2.2.2.2.2.2.2.2.2.2.2.2.1, o.2.2.2.2.2.2.2.2.2.2.2.2.2.2.2.2.2.2.2.2.2.2.1, o.2.2.2.2.2.2.2.2.2.2.2.2.2.2.2.2.2.2.2.2.2.2.2.1, o.2.2.2.2.2.2.2.2.2.2.2.2.2.2.2.2.2.2.2.2.2.2.2.2, z_itm σ, z_lan σ, z_siz σ, z_frm σ, z_mrk σ)
def U9_coats (μ : MST) (o : Int32 × (Nat → Int32) × (Nat → Int32) × (Nat → Int32) × (Nat → Int32) × Int32 × Int32) : MST := (o.2.1, y_tape μ, y_typed μ, y_place μ, y_isFault μ, y_readLaw μ, y_read μ, y_undone μ, y_undos μ, o.2.2.1, o.2.2.2.1, o.2.2.2.2.1, o.2.2.2.2.2.1, o.2.2.2.2.2.2, y_kept μ, y_keptUndos μ, y_isKept μ, y_lanes μ, y_sizes μ, y_items μ, y_moved μ)
def U8_calm (σ : CST) (o : Int32 × (Nat → Int32) × (Nat → Int32) × Int32 × Int32 × (Nat → Int32) × Int32 × Int32 × Int32 × Int32) : CST := (z_now σ, z_und σ, z_kR σ, z_kU σ, z_iK σ, z_let σ, z_told σ, z_len σ, z_plc σ, z_flt σ, (o.2.1, o.2.2.1, o.2.2.2.1, o.2.2.2.2.1, o.2.2.2.2.2.1, o.2.2.2.2.2.2.1, o.2.2.2.2.2.2.2.1, o.2.2.2.2.2.2.2.2.1, o.2.2.2.2.2.2.2.2.2), z_cho σ, z_mos σ, z_wei σ, z_sur σ, z_sha σ, z_abo σ, z_bel σ, z_ask σ, z_pT σ, z_shs σ, z_bsh σ, z_aco σ, z_ani σ, z_mst σ, z_mpa σ, z_itm σ, z_lan σ, z_siz σ, z_frm σ, z_mrk σ)
def U9_calm (μ : MST) (o : Int32 × (Nat → Int32) × (Nat → Int32)) : MST := (o.2.1, y_tape μ, y_typed μ, y_place μ, y_isFault μ, y_readLaw μ, y_read μ, y_undone μ, y_undos μ, o.2.2, y_coat μ, y_bestCoats μ, y_bestStand μ, y_bestPaint μ, y_kept μ, y_keptUndos μ, y_isKept μ, y_lanes μ, y_sizes μ, y_items μ, y_moved μ)
def U8_steam (σ : CST) (o : Int32 × (Nat → Int32) × Int32 × Int32 × Int32 × Int32) : CST := (z_now σ, z_und σ, z_kR σ, z_kU σ, z_iK σ, z_let σ, z_told σ, z_len σ, z_plc σ, z_flt σ, z_oT σ, z_cho σ, z_mos σ, o.2.1, o.2.2.1, o.2.2.2.1, o.2.2.2.2.1, o.2.2.2.2.2, z_ask σ, z_pT σ, z_shs σ, z_bsh σ, z_aco σ, z_ani σ, z_mst σ, z_mpa σ, z_itm σ, z_lan σ, z_siz σ, z_frm σ, z_mrk σ)
def U9_steam (μ : MST) (o : Int32 × (Nat → Int32) × (Nat → Int32)) : MST := (o.2.1, y_tape μ, y_typed μ, y_place μ, y_isFault μ, y_readLaw μ, y_read μ, y_undone μ, y_undos μ, o.2.2, y_coat μ, y_bestCoats μ, y_bestStand μ, y_bestPaint μ, y_kept μ, y_keptUndos μ, y_isKept μ, y_lanes μ, y_sizes μ, y_items μ, y_moved μ)
def U8_image (σ : CST) (o : Int32 × (Nat → Int32) × (Nat → Int32) × Int32 × Int32 × (Nat → Int32) × Int32 × Int32 × Int32 × Int32 × (Nat → Nat → Int32) × (Nat → Nat → Int32) × (Nat → Int32) × (Nat → Int32) × Int32 × Int32 × Int32) : CST := (z_now σ, z_und σ, (o.2.1, o.2.2.1, o.2.2.2.1, o.2.2.2.2.1, o.2.2.2.2.2.1, o.2.2.2.2.2.2.1, o.2.2.2.2.2.2.2.1, o.2.2.2.2.2.2.2.2.1, o.2.2.2.2.2.2.2.2.2.1), (o.2.2.2.2.2.2.2.2.2.2.1, o.2.2.2.2.2.2.2.2.2.2.2.1, o.2.2.2.2.2.2.2.2.2.2.2.2.1, o.2.2.2.2.2.2.2.2.2.2.2.2.2.1, o.2.2.2.2.2.2.2.2.2.2.2.2.2.2.1, o.2.2.2.2.2.2.2.2.2.2.2.2.2.2.2.1), o.2.2.2.2.2.2.2.2.2.2.2.2.2.2.2.2, z_let σ, z_told σ, z_len σ, z_plc σ, z_flt σ, z_oT σ, z_cho σ, z_mos σ, z_wei σ, z_sur σ, z_sha σ, z_abo σ, z_bel σ, z_ask σ, z_pT σ, z_shs σ, z_bsh σ, z_aco σ, z_ani σ, z_mst σ, z_mpa σ, z_itm σ, z_lan σ, z_siz σ, z_frm σ, z_mrk σ)
def U9_image (μ : MST) (o : Int32 × (Nat → Int32) × Int32 × Int32) : MST := (y_now μ, y_tape μ, y_typed μ, y_place μ, y_isFault μ, y_readLaw μ, y_read μ, y_undone μ, y_undos μ, y_aside μ, y_coat μ, y_bestCoats μ, y_bestStand μ, y_bestPaint μ, o.2.1, o.2.2.1, o.2.2.2, y_lanes μ, y_sizes μ, y_items μ, y_moved μ)
def U8_restore (σ : CST) (o : Int32 × (Nat → Int32) × (Nat → Int32) × Int32 × Int32 × (Nat → Int32) × Int32 × Int32 × Int32 × Int32 × (Nat → Nat → Int32) × (Nat → Nat → Int32) × (Nat → Int32) × (Nat → Int32) × Int32 × Int32) : CST := ((o.2.1, o.2.2.1, o.2.2.2.1, o.2.2.2.2.1, o.2.2.2.2.2.1, o.2.2.2.2.2.2.1, o.2.2.2.2.2.2.2.1, o.2.2.2.2.2.2.2.2.1, o.2.2.2.2.2.2.2.2.2.1), (o.2.2.2.2.2.2.2.2.2.2.1, o.2.2.2.2.2.2.2.2.2.2.2.1, o.2.2.2.2.2.2.2.2.2.2.2.2.1, o.2.2.2.2.2.2.2.2.2.2.2.2.2.1, o.2.2.2.2.2.2.2.2.2.2.2.2.2.2.1, o.2.2.2.2.2.2.2.2.2.2.2.2.2.2.2), z_kR σ, z_kU σ, z_iK σ, z_let σ, z_told σ, z_len σ, z_plc σ, z_flt σ, z_oT σ, z_cho σ, z_mos σ, z_wei σ, z_sur σ, z_sha σ, z_abo σ, z_bel σ, z_ask σ, z_pT σ, z_shs σ, z_bsh σ, z_aco σ, z_ani σ, z_mst σ, z_mpa σ, z_itm σ, z_lan σ, z_siz σ, z_frm σ, z_mrk σ)
def U9_restore (μ : MST) (o : Int32 × (Nat → Int32) × (Nat → Int32) × Int32) : MST := (o.2.1, y_tape μ, y_typed μ, y_place μ, y_isFault μ, y_readLaw μ, y_read μ, o.2.2.1, o.2.2.2, y_aside μ, y_coat μ, y_bestCoats μ, y_bestStand μ, y_bestPaint μ, y_kept μ, y_keptUndos μ, y_isKept μ, y_lanes μ, y_sizes μ, y_items μ, y_moved μ)
def U8_worn (σ : CST) (o : Int32 × (Nat → Int32) × (Nat → Int32) × Int32 × Int32 × (Nat → Int32) × Int32 × Int32 × Int32 × Int32 × (Nat → Int32) × (Nat → Int32)) : CST := (z_now σ, z_und σ, z_kR σ, z_kU σ, z_iK σ, z_let σ, z_told σ, z_len σ, z_plc σ, z_flt σ, (o.2.1, o.2.2.1, o.2.2.2.1, o.2.2.2.2.1, o.2.2.2.2.2.1, o.2.2.2.2.2.2.1, o.2.2.2.2.2.2.2.1, o.2.2.2.2.2.2.2.2.1, o.2.2.2.2.2.2.2.2.2.1), z_cho σ, z_mos σ, z_wei σ, z_sur σ, z_sha σ, z_abo σ, z_bel σ, z_ask σ, z_pT σ, z_shs σ, z_bsh σ, z_aco σ, z_ani σ, z_mst σ, z_mpa σ, z_itm σ, z_lan σ, z_siz σ, o.2.2.2.2.2.2.2.2.2.2.1, o.2.2.2.2.2.2.2.2.2.2.2)
def U9_worn (μ : MST) (o : Int32 × (Nat → Int32) × (Nat → Int32)) : MST := (o.2.1, y_tape μ, y_typed μ, y_place μ, y_isFault μ, y_readLaw μ, y_read μ, y_undone μ, y_undos μ, o.2.2, y_coat μ, y_bestCoats μ, y_bestStand μ, y_bestPaint μ, y_kept μ, y_keptUndos μ, y_isKept μ, y_lanes μ, y_sizes μ, y_items μ, y_moved μ)
def U8_film (σ : CST) (o : Int32 × (Nat → Int32) × (Nat → Int32) × Int32 × Int32 × (Nat → Int32) × Int32 × Int32 × Int32 × Int32 × (Nat → Nat → Int64) × (Nat → Int32) × (Nat → Int32)) : CST := (z_now σ, z_und σ, z_kR σ, z_kU σ, z_iK σ, z_let σ, z_told σ, z_len σ, z_plc σ, z_flt σ, (o.2.1, o.2.2.1, o.2.2.2.1, o.2.2.2.2.1, o.2.2.2.2.2.1, o.2.2.2.2.2.2.1, o.2.2.2.2.2.2.2.1, o.2.2.2.2.2.2.2.2.1, o.2.2.2.2.2.2.2.2.2.1), z_cho σ, z_mos σ, z_wei σ, z_sur σ, z_sha σ, z_abo σ, z_bel σ, z_ask σ, z_pT σ, z_shs σ, z_bsh σ, z_aco σ, z_ani σ, z_mst σ, z_mpa σ, o.2.2.2.2.2.2.2.2.2.2.1, z_lan σ, z_siz σ, o.2.2.2.2.2.2.2.2.2.2.2.1, o.2.2.2.2.2.2.2.2.2.2.2.2)
def U9_film (μ : MST) (o : Int32 × (Nat → Int32) × (Nat → Int32) × (Nat → Int64)) : MST := (o.2.1, y_tape μ, y_typed μ, y_place μ, y_isFault μ, y_readLaw μ, y_read μ, y_undone μ, y_undos μ, o.2.2.1, y_coat μ, y_bestCoats μ, y_bestStand μ, y_bestPaint μ, y_kept μ, y_keptUndos μ, y_isKept μ, y_lanes μ, y_sizes μ, o.2.2.2, y_moved μ)
def U8_sheet (σ : CST) (o : Int32 × (Nat → Nat → Int64) × (Nat → Int32) × (Nat → Int32)) : CST := (z_now σ, z_und σ, z_kR σ, z_kU σ, z_iK σ, z_let σ, z_told σ, z_len σ, z_plc σ, z_flt σ, z_oT σ, z_cho σ, z_mos σ, z_wei σ, z_sur σ, z_sha σ, z_abo σ, z_bel σ, z_ask σ, z_pT σ, z_shs σ, z_bsh σ, z_aco σ, z_ani σ, z_mst σ, z_mpa σ, o.2.1, o.2.2.1, o.2.2.2, z_frm σ, z_mrk σ)
def U9_sheet (μ : MST) (o : Int32 × (Nat → Int32) × (Nat → Int32) × (Nat → Int64)) : MST := (y_now μ, y_tape μ, y_typed μ, y_place μ, y_isFault μ, y_readLaw μ, y_read μ, y_undone μ, y_undos μ, y_aside μ, y_coat μ, y_bestCoats μ, y_bestStand μ, y_bestPaint μ, y_kept μ, y_keptUndos μ, y_isKept μ, o.2.1, o.2.2.1, o.2.2.2, y_moved μ)
def U8_drop (σ : CST) (o : Int32 × (Nat → Int32)) : CST := (z_now σ, z_und σ, z_kR σ, z_kU σ, z_iK σ, z_let σ, z_told σ, z_len σ, z_plc σ, z_flt σ, z_oT σ, z_cho σ, z_mos σ, z_wei σ, z_sur σ, z_sha σ, z_abo σ, z_bel σ, z_ask σ, z_pT σ, z_shs σ, z_bsh σ, z_aco σ, z_ani σ, z_mst σ, z_mpa σ, z_itm σ, o.2, z_siz σ, z_frm σ, z_mrk σ)
def U9_drop (μ : MST) (o : Int32 × (Nat → Int32)) : MST := (y_now μ, y_tape μ, y_typed μ, y_place μ, y_isFault μ, y_readLaw μ, y_read μ, y_undone μ, y_undos μ, y_aside μ, y_coat μ, y_bestCoats μ, y_bestStand μ, y_bestPaint μ, y_kept μ, y_keptUndos μ, y_isKept μ, o.2, y_sizes μ, y_items μ, y_moved μ)
def U8_item (σ : CST) (o : Int32 × (Nat → Nat → Int64)) : CST := (z_now σ, z_und σ, z_kR σ, z_kU σ, z_iK σ, z_let σ, z_told σ, z_len σ, z_plc σ, z_flt σ, z_oT σ, z_cho σ, z_mos σ, z_wei σ, z_sur σ, z_sha σ, z_abo σ, z_bel σ, z_ask σ, z_pT σ, z_shs σ, z_bsh σ, z_aco σ, z_ani σ, z_mst σ, z_mpa σ, o.2, z_lan σ, z_siz σ, z_frm σ, z_mrk σ)
def U9_item (μ : MST) (o : Int32 × (Nat → Int64)) : MST := (y_now μ, y_tape μ, y_typed μ, y_place μ, y_isFault μ, y_readLaw μ, y_read μ, y_undone μ, y_undos μ, y_aside μ, y_coat μ, y_bestCoats μ, y_bestStand μ, y_bestPaint μ, y_kept μ, y_keptUndos μ, y_isKept μ, y_lanes μ, y_sizes μ, o.2, y_moved μ)
def U8_copy (σ : CST) (o : Int32 × (Nat → Nat → Int64)) : CST := (z_now σ, z_und σ, z_kR σ, z_kU σ, z_iK σ, z_let σ, z_told σ, z_len σ, z_plc σ, z_flt σ, z_oT σ, z_cho σ, z_mos σ, z_wei σ, z_sur σ, z_sha σ, z_abo σ, z_bel σ, z_ask σ, z_pT σ, z_shs σ, z_bsh σ, z_aco σ, z_ani σ, z_mst σ, z_mpa σ, o.2, z_lan σ, z_siz σ, z_frm σ, z_mrk σ)
def U9_copy (μ : MST) (o : Int32 × (Nat → Int64) × (Nat → Int64)) : MST := (y_now μ, y_tape μ, y_typed μ, y_place μ, y_isFault μ, y_readLaw μ, y_read μ, y_undone μ, y_undos μ, y_aside μ, y_coat μ, y_bestCoats μ, y_bestStand μ, y_bestPaint μ, y_kept μ, y_keptUndos μ, y_isKept μ, y_lanes μ, y_sizes μ, o.2.1, o.2.2)
