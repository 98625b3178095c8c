/-! ===== INV: between the class's values and the reference's (what is not named here is free) ===== -/
def InvN (n : RT) (g : RG) (mn : Nat → Int32) (mu : Int32) (md : Nat → Int32) : Prop :=
  ∃ (r : AR) (d : Int32) (P I K N : Nat → Int32) (u x : Nat), n = cR r d P I K ∧ g.2.2.2.2.1 = nI x ∧ g.2.2.2.2.2 = nI u ∧ mn = cN r N ∧ mu = nI u ∧ WF r ∧ aN r ≤ 9999 ∧ 0 ≤ d ∧ N 5 = d ∧ UR r u x g.1 g.2.1 g.2.2.1 g.2.2.2.1 md
def InvK (k : RT) (kg : RG) (ik : Int32) (mk : Nat → Int32) (mku mik : Int32) : Prop := ∃ b, ik = bI b ∧ mik = bI b ∧ KEP b k kg mk mku
def InvT (tl : Nat → Int32) (tn : Int32) (mt : Nat → Int32) (mty : Int32) : Prop := ∃ L, tn = nI L ∧ mty = nI L ∧ TP L tl mt
/-- at the start -/
theorem InvN_0 (P I K N : Nat → Int32) (RP RI : Nat → Nat → Int32) (RN RD U : Nat → Int32) (f : Nat → Int32) (h0 : f 0 = 0) (h1 : f 1 = 0) (h2 : f 2 = 0) (h3 : f 3 = 1) (h4 : f 4 = 5) (h5 : f 5 = 1) :
    InvN (P, I, 0, 1, K, 0, 0, 1, 5) (RP, RI, RN, RD, 0, 0) f 0 U := by
  let r : AR := (0, fun _ => 0, fun _ => 0, fun _ => 0, 0, 1, 5, 0)
  have e1 : P = cP r P := cP_self (fun m hm => absurd hm (Nat.not_lt_zero m))
  have e2 : I = cI r I := cI_self (fun m hm => absurd hm (Nat.not_lt_zero m))
  have e3 : K = cK r K := cK_self (fun m hm => absurd hm (Nat.not_lt_zero m))
  have e4 : f = cN r f := cN_ext h0 h1 h2 h3 h4 (fun m hm => absurd hm (Nat.not_lt_zero m)) (fun m hm => absurd hm (Nat.not_lt_zero m)) (fun m hm => absurd hm (Nat.not_lt_zero m)) (fun _ _ => rfl)
  refine ⟨r, 1, P, I, K, f, 0, 0, ?_, rfl, rfl, e4, rfl, ⟨by decide, fun m hm => absurd hm (Nat.not_lt_zero m), fun a b ha => absurd ha (Nat.not_lt_zero a), by decide, by decide, by decide, by decide⟩, by decide, by decide, h5, by omega, by omega, fun a ha => absurd ha (Nat.not_lt_zero a)⟩
  show (P, I, (0 : Int32), (1 : Int32), K, (0 : Int32), (0 : Int32), (1 : Int32), (5 : Int32)) = (cP r P, cI r I, nI 0, 1, cK r K, nI 0, nI 0, nI 1, nI 5)
  rw [← e1, ← e2, ← e3]; rfl
theorem InvK_0 (k : RT) (kg : RG) (mk : Nat → Int32) (mku : Int32) : InvK k kg 0 mk mku 0 := ⟨false, rfl, rfl, fun h => absurd h (by decide)⟩
theorem InvT_0 (tl mt : Nat → Int32) : InvT tl 0 mt 0 := ⟨0, rfl, rfl, by omega, fun j hj => absurd hj (Nat.not_lt_zero j)⟩
theorem RWS_0 (RS : Nat → Int32) (RX : Nat → Nat → Int64) (ms : Nat → Int32) (mx : Nat → Int64) (RL ml : Nat → Int32) (h : ∀ s, s < 4 → RL s = -1 ∧ ml s = -1) : RWS RL RS RX ml ms mx := fun s hs => Or.inl (h s hs)
theorem PCa_0 (A : RT) (an ms mp : Int32) (bw : Nat → Int32) : PCa A (-1) an ms mp bw := Or.inl rfl
