/-! ===== PURE C: waves, grips and a night, of the class ===== -/
def crest (r : AR) (d : Nat) : Nat := (aS r + (aN r + d) * aT r) % 12
def dist (a b : Nat) : Nat := (a - b) + (b - a)
def hgh (r : AR) (x d : Nat) : Nat := aH r - dist x (crest r d)
def adj (x y : Nat) : Bool := decide (x = y + 1 ∨ x + 1 = y)
def nbs (r : AR) (m : Nat) : Nat := fb_ct (fun a => aSt r a && adj (aI r a) (aI r m)) (aM r)
def grpK (k p nb n mn s : Nat) : Nat := if k = 1 then (p + 2) / 2 else if k = 2 then p + 2 + nb else if k = 3 then (p + 2) / 2 + n % 2 * 3 else if k = 4 then p + 2 + nb + mn - s else p + 2
def grp (r : AR) (m : Nat) : Nat := grpK (aK r m) (aP r m) (nbs r m) (aN r) (aM r) (nSt r)
theorem crest_lt (r : AR) (d : Nat) : crest r d < 12 := Nat.mod_lt _ (by decide)
theorem mul_b {a b c d : Nat} (h1 : a ≤ c) (h2 : b ≤ d) : a * b ≤ c * d := Nat.mul_le_mul h1 h2
theorem crest_C {r : AR} {d : Nat} (hw : WF r) (hd : d ≤ 100) : m_X3_crestBehind (nI (aN r)) (nI (aS r)) (nI (aT r)) (nI d) = some (nI (crest r d)) := by
  unfold m_X3_crestBehind crest
  have h1 : (aN r + d) * aT r ≤ 100100 * 11 := mul_b (by have := hw.2.2.2.2.2.2; omega) (by have := hw.2.2.2.2.1; omega)
  have h2 := hw.2.2.2.1
  rw [nI_add, pk_mul, nI_add, show (12 : Int32) = nI 12 from rfl, pk_rem (by omega) (by decide) (by decide)]
theorem high_all : ∀ h, h < 13 → ∀ a, a < 12 → ∀ b, b < 12 → m_X3_highAt (nI h) (nI a) (nI b) = some (nI (h - dist a b)) := by decide +kernel
theorem high_C {r : AR} {x d : Nat} (hw : WF r) (hx : x < 12) : m_X3_highAt (nI (aH r)) (nI x) (nI (crest r d)) = some (nI (hgh r x d)) := high_all _ (by have := hw.2.2.2.2.2.1; omega) _ hx _ (crest_lt r d)
def nbm (i : Nat) : Nat := 2 ^ (i + 1) ||| 2 ^ i / 2
theorem nbm_all : ∀ i, i < 12 → ((nI (2 ^ i)) <<< ((1 : Int32) &&& 31)) ||| ((nI (2 ^ i)) >>> ((1 : Int32) &&& 31)) = nI (nbm i) := by decide +kernel
theorem nbm_bit : ∀ i, i < 12 → ∀ x, x < 12 → (nbm i).testBit x = adj x i := by decide +kernel
theorem grip_C {P I K : Nat → Int32} {n mn T s j p i k nb : Nat} (hj : j < 6) (hP : P j = nI p) (hI : I j = nI i) (hK : K j = nI k) (hp : p ≤ 9) (hi : i < 12) (hk : k ≤ 4) (hT : T < 4096) (hn : n < 100000) (hmn : mn ≤ 6)
    (hs : fb_ct (fun b => T.testBit b) 12 = s) (hsm : s ≤ mn) (hnb : fb_ct (fun b => (T &&& nbm i).testBit b) 12 = nb) :
    m_X3_gripOf P I (nI n) K (nI mn) (nI j) (nI T) = some (nI (grpK k p nb n mn s)) := by
  have hnb12 : nb ≤ 12 := by rw [← hnb]; exact fb_ct_le _ _
  unfold m_X3_gripOf
  simp only [chk_nI _ hj (by decide : (6 : Nat) < 2 ^ 31), cl (show j < 2 ^ 31 by omega), hP, hI, hK, bnd]
  rw [sh1 i (by omega), nbm_all i hi, fa_and, bc (Nat.lt_of_le_of_lt Nat.and_le_left hT), hnb]
  simp only [Option.bind_some]
  rw [show (2 : Int32) = nI 2 from rfl, show (1 : Int32) = nI 1 from rfl, show (3 : Int32) = nI 3 from rfl, show (4 : Int32) = nI 4 from rfl, nI_add]
  unfold grpK
  have e : ∀ c : Nat, c < 5 → ((nI k = nI c) = (k = c)) := fun c hc => propext (nI_eq (by omega) (by omega))
  simp only [e 1 (by decide), e 2 (by decide), e 3 (by decide), e 4 (by decide)]
  rw [pk_div (by omega) (by decide) (by decide), pk_rem (by omega) (by decide) (by decide), pk_mul, nI_add, nI_add, nI_add, bc hT, hs]
  simp only [Option.bind_some]
  rw [pk_sub (by omega)]
  repeat' split
  all_goals rfl
/-- who falls in this night; the night -/
def fal (r : AR) (m : Nat) : Bool := aSt r m && decide (grp r m < hgh r (aI r m) 0)
def nP (r : AR) (m : Nat) : Nat := if aSt r m && !fal r m && decide (0 < hgh r (aI r m) 0) then aP r m - 1 else aP r m
def nIn (r : AR) (m : Nat) : Nat := if fal r m then 12 else aI r m
def nt (r : AR) : AR := (aM r, aK r, nP r, nIn r, aS r, aT r, aH r, aN r + 1)
theorem nt_WF {r : AR} (hw : WF r) (hn : aN r + 1 < 100000) : WF (nt r) := by
  refine ⟨hw.1, fun m hm => ?_, fun a b ha hb hab h => ?_, hw.2.2.2.1, hw.2.2.2.2.1, hw.2.2.2.2.2.1, hn⟩
  · obtain ⟨h1, h2, h3⟩ := hw.2.1 m hm
    refine ⟨h1, ?_, ?_⟩
    · show nP r m ≤ 9; unfold nP; split <;> omega
    · show nIn r m ≤ 12; unfold nIn; split <;> omega
  · have h' : nIn r a < 12 := h
    show nIn r a ≠ nIn r b
    unfold nIn at h' ⊢
    split at h'
    · omega
    · rename_i hf
      rw [if_neg hf]
      have := hw.2.2.1 a b ha hb hab h'
      split
      · omega
      · exact this
/-- the rim in the middle of a night: those below j have had it -/
def mx (r : AR) (j : Nat) : AR := (aM r, aK r, fun m => if m < j then nP r m else aP r m, fun m => if m < j then nIn r m else aI r m, aS r, aT r, aH r, aN r)
theorem mx_P {r : AR} {P : Nat → Int32} {j : Nat} (hj : j < aM r) : upd (cP (mx r j) P) j (nI (nP r j)) = cP (mx r (j + 1)) P := by
  funext m
  unfold upd cP
  show (if m = j then nI (nP r j) else if m < aM r then nI (if m < j then nP r m else aP r m) else P m) = if m < aM r then nI (if m < j + 1 then nP r m else aP r m) else P m
  by_cases h : m = j
  · subst h; rw [if_pos rfl, if_pos hj, if_pos (by omega)]
  · rw [if_neg h]
    have : (m < j + 1) = (m < j) := propext ⟨fun q => by omega, fun q => by omega⟩
    simp only [this]
theorem mx_I {r : AR} {I : Nat → Int32} {j : Nat} (hj : j < aM r) : upd (cI (mx r j) I) j (eC (nIn r j)) = cI (mx r (j + 1)) I := by
  funext m
  unfold upd cI
  show (if m = j then eC (nIn r j) else if m < aM r then eC (if m < j then nIn r m else aI r m) else I m) = if m < aM r then eC (if m < j + 1 then nIn r m else aI r m) else I m
  by_cases h : m = j
  · subst h; rw [if_pos rfl, if_pos hj, if_pos (by omega)]
  · rw [if_neg h]
    have : (m < j + 1) = (m < j) := propext ⟨fun q => by omega, fun q => by omega⟩
    simp only [this]
theorem mx_at {r : AR} {P I : Nat → Int32} {j : Nat} (hj : j < aM r) : cP (mx r j) P j = nI (aP r j) ∧ cI (mx r j) I j = eC (aI r j) := by
  refine ⟨?_, ?_⟩
  · show (if j < aM r then nI (if j < j then nP r j else aP r j) else P j) = _
    rw [if_pos hj, if_neg (Nat.lt_irrefl j)]
  · show (if j < aM r then eC (if j < j then nIn r j else aI r j) else I j) = _
    rw [if_pos hj, if_neg (Nat.lt_irrefl j)]
theorem mx_same {r : AR} {P : Nat → Int32} {j : Nat} (hj : j < aM r) (h : nP r j = aP r j) : cP (mx r j) P = cP (mx r (j + 1)) P := by
  rw [← mx_P hj, h]
  funext m
  unfold upd
  by_cases e : m = j
  · subst e; rw [if_pos rfl]; exact (mx_at (I := P) hj).1
  · rw [if_neg e]
theorem mx_sameI {r : AR} {I : Nat → Int32} {j : Nat} (hj : j < aM r) (h : nIn r j = aI r j) : cI (mx r j) I = cI (mx r (j + 1)) I := by
  rw [← mx_I hj, h]
  funext m
  unfold upd
  by_cases e : m = j
  · subst e; rw [if_pos rfl]; exact (mx_at (P := I) hj).2
  · rw [if_neg e]
theorem tk_mx_same {r : AR} {j : Nat} (h : nIn r j = aI r j) : ∀ n, tk (mx r (j + 1)) n = tk (mx r j) n
  | 0 => rfl
  | n + 1 => by
    have ih := tk_mx_same h n
    have e : aI (mx r (j + 1)) n = aI (mx r j) n := by
      show (if n < j + 1 then nIn r n else aI r n) = if n < j then nIn r n else aI r n
      by_cases q : n = j
      · subst q; rw [if_pos (by omega), if_neg (by omega), h]
      · have : (n < j + 1) = (n < j) := propext ⟨fun q => by omega, fun q => by omega⟩
        simp only [this]
    unfold tk; rw [ih, e]
theorem tk_mx_fall {r : AR} (hw : WF r) {j : Nat} (hj : j < aM r) (hs : aI r j < 12) (h : nIn r j = 12) : tk (mx r j) (aM r) ^^^ 2 ^ aI r j = tk (mx r (j + 1)) (aM r) := by
  apply Nat.eq_of_testBit_eq
  intro b
  rw [Nat.testBit_xor, Nat.testBit_two_pow]
  have ha : ∀ m, aI (mx r j) m = if m < j then nIn r m else aI r m := fun _ => rfl
  have hb : ∀ m, aI (mx r (j + 1)) m = if m < j + 1 then nIn r m else aI r m := fun _ => rfl
  have hn : ∀ m, nIn r m < 12 → nIn r m = aI r m := fun m q => by
    unfold nIn at q ⊢
    split at q
    · omega
    · rename_i hq; rw [if_neg hq]
  by_cases e : aI r j = b
  · rw [decide_eq_true e]
    have h1 : (tk (mx r j) (aM r)).testBit b = true := (tk_bit _ _ _).mpr ⟨j, hj, by rw [ha, if_neg (Nat.lt_irrefl j)]; exact hs, by rw [ha, if_neg (Nat.lt_irrefl j)]; exact e⟩
    have h2 : (tk (mx r (j + 1)) (aM r)).testBit b = false := by
      cases hc : (tk (mx r (j + 1)) (aM r)).testBit b with
      | false => rfl
      | true =>
        obtain ⟨m, q1, q2, q3⟩ := (tk_bit _ _ _).mp hc
        rw [hb] at q2 q3
        by_cases em : m = j
        · subst em; rw [if_pos (by omega), h] at q2; omega
        · have hI : aI r m = b := by
            split at q3
            · rename_i hlt; rw [if_pos hlt] at q2; rw [← hn m q2]; exact q3
            · exact q3
          exact absurd (e.trans hI.symm) (hw.2.2.1 j m hj q1 (Ne.symm em) hs)
    rw [h1, h2]; rfl
  · rw [decide_eq_false e, Bool.xor_false]
    have : (tk (mx r j) (aM r)).testBit b = true ↔ (tk (mx r (j + 1)) (aM r)).testBit b = true := by
      rw [tk_bit, tk_bit]
      constructor
      · rintro ⟨m, q1, q2, q3⟩
        rw [ha] at q2 q3
        have em : m ≠ j := fun q => by subst q; rw [if_neg (Nat.lt_irrefl m)] at q3; exact e q3
        have : (m < j + 1) = (m < j) := propext ⟨fun q => by omega, fun q => by omega⟩
        exact ⟨m, q1, by rw [hb]; simp only [this]; exact q2, by rw [hb]; simp only [this]; exact q3⟩
      · rintro ⟨m, q1, q2, q3⟩
        rw [hb] at q2 q3
        have em : m ≠ j := fun q => by subst q; rw [if_pos (by omega), h] at q2; omega
        have : (m < j + 1) = (m < j) := propext ⟨fun q => by omega, fun q => by omega⟩
        simp only [this] at q2 q3
        exact ⟨m, q1, by rw [ha]; exact q2, by rw [ha]; exact q3⟩
    exact Bool.eq_iff_iff.mpr this
theorem mx_0 (r : AR) : mx r 0 = r := by
  unfold mx
  have h : ∀ (f g : Nat → Nat), (fun m => if m < 0 then f m else g m) = g := fun f g => funext fun m => if_neg (Nat.not_lt_zero m)
  rw [h, h]; rfl
theorem mx_endP {r : AR} {P : Nat → Int32} : cP (mx r (aM r)) P = cP (nt r) P := by
  funext m
  show (if m < aM r then nI (if m < aM r then nP r m else aP r m) else P m) = if m < aM r then nI (nP r m) else P m
  by_cases h : m < aM r
  · rw [if_pos h, if_pos h, if_pos h]
  · rw [if_neg h, if_neg h]
theorem mx_endI {r : AR} {I : Nat → Int32} : cI (mx r (aM r)) I = cI (nt r) I := by
  funext m
  show (if m < aM r then eC (if m < aM r then nIn r m else aI r m) else I m) = if m < aM r then eC (nIn r m) else I m
  by_cases h : m < aM r
  · rw [if_pos h, if_pos h, if_pos h]
  · rw [if_neg h, if_neg h]
theorem tk_cong {r q : AR} : ∀ {n : Nat}, (∀ m, m < n → aI r m = aI q m) → tk r n = tk q n
  | 0, _ => rfl
  | n + 1, h => by unfold tk; rw [tk_cong (fun m hm => h m (by omega)), h n (by omega)]
theorem tk_end (r : AR) : tk (mx r (aM r)) (aM r) = tk (nt r) (aM r) := tk_cong fun m hm => by
  show (if m < aM r then nIn r m else aI r m) = nIn r m
  rw [if_pos hm]
theorem nSt_le (r : AR) : nSt r ≤ aM r := fb_ct_le _ _
theorem xorI (a b : Nat) : nI a ^^^ nI b = nI (a ^^^ b) := fb_xorI a b
theorem night_C {r : AR} {P I K : Nat → Int32} {F : Nat} (hw : WF r) (hF : 64 ≤ F) :
    m_X3_passNightBy F (cP r P) (cI r I) (nI (aN r)) (cK r K) (nI (aM r)) (nI (aS r)) (nI (aT r)) (nI (aH r)) (nI (tk r (aM r))) = some (nI (tk (nt r) (aM r)), cP (nt r) P, cI (nt r) I, nI (aN r + 1)) := by
  have hM := hw.1
  unfold m_X3_passNightBy
  rw [show (0 : Int32) = nI 0 from rfl, crest_C hw (by decide)]
  simp only [Option.bind_some]
  have key := loopUp (fun n x (s : Int32 × (Nat → Int32) × (Nat → Int32)) => m_X3_passNightBy_L11 (nI (aN r)) (cK r K) (nI (aM r)) (nI (aH r)) (nI (tk r (aM r))) (nI (crest r 0)) (fun (x6 : Int32) (w7 : Nat → Int32) (w8 : Nat → Int32) => some (x6, w7, w8, nI (aN r) + 1)) n x s.1 s.2.1 s.2.2)
    (some (nI (tk (nt r) (aM r)), cP (nt r) P, cI (nt r) I, nI (aN r + 1))) (fun j => (nI (tk (mx r j) (aM r)), cP (mx r j) P, cI (mx r j) I)) (aM r) (fun n => ?_) (fun n j hj => ?_) (aM r) F 0 (by omega) (by omega)
  · simp only [mx_0] at key
    exact key
  · show m_X3_passNightBy_L11s _ _ _ _ _ _ _ _ _ _ _ _ = _
    unfold m_X3_passNightBy_L11s
    rw [if_pos (nIle (by omega) (by omega) (Nat.le_refl _)), tk_end, mx_endP, mx_endI, nI_1]
  · show m_X3_passNightBy_L11s _ _ _ _ _ _ _ _ _ _ _ _ = _
    unfold m_X3_passNightBy_L11s
    obtain ⟨hk, hp, hi⟩ := hw.2.1 j hj
    obtain ⟨eP, eI⟩ := mx_at (r := r) (P := P) (I := I) hj
    rw [if_neg (nInle (by omega) (by omega) hj)]
    simp only [chk_nI _ (show j < 6 by omega) (by decide : (6 : Nat) < 2 ^ 31), cl (show j < 2 ^ 31 by omega), bnd, jn, eP, eI, nI_1]
    by_cases h12 : aI r j < 12
    · have hs : aSt r j = true := by simp [aSt, h12]
      rw [eC_t h12, if_neg (nI_nm1 _ h12).1, high_C hw h12]
      simp only [Option.bind_some]
      have hh : hgh r (aI r j) 0 ≤ 12 := by unfold hgh; have := hw.2.2.2.2.2.1; omega
      have hg := grip_C (P := cP (mx r j) P) (I := cI (mx r j) I) (K := cK r K) (n := aN r) (mn := aM r) (T := tk r (aM r)) (s := nSt r) (j := j) (p := aP r j) (i := aI r j) (k := aK r j) (nb := nbs r j) (by omega) eP (by rw [eI, eC_t h12]) (cK_at hj) hp h12 hk (tk_lt r _) hw.2.2.2.2.2.2 hM
        (by have := many_C hw; rw [bc (tk_lt r _)] at this; have q := Option.some.inj this; exact (nI_eq (by have := fb_ct_le (fun b => (tk r (aM r)).testBit b) 12; omega) (by have := nSt_le r; omega)).mp q) (nSt_le r)
        (by rw [tk_ct hw _ _ (Nat.le_refl _)]; exact fb_ct_cong (fun a _ => by
              by_cases ha : aI r a < 12
              · rw [nbm_bit _ h12 _ ha]
              · simp [aSt, ha]))
      by_cases h0 : hgh r (aI r j) 0 = 0
      · rw [h0, if_pos (by decide)]
        have hf : fal r j = false := by simp [fal, h0]
        have e1 : nP r j = aP r j := by unfold nP; rw [h0]; simp
        have e2 : nIn r j = aI r j := by unfold nIn; rw [hf]; rfl
        rw [tk_mx_same e2, ← mx_same hj e1, ← mx_sameI hj e2]
      · rw [if_neg (nI_nle (by omega) (by omega)), hg]
        simp only [Option.bind_some]
        have hgl : grp r j < 2 ^ 31 := by
          have a1 : nbs r j ≤ aM r := fb_ct_le _ _
          have a2 := hw.2.2.2.2.2.2
          unfold grp grpK; repeat' split
          all_goals omega
        change (if nI (hgh r (aI r j) 0) ≤ nI (grp r j) then _ else _) = _
        by_cases hfl : grp r j < hgh r (aI r j) 0
        · rw [if_neg (nInle (by omega) (by omega) hfl), sh1 _ (by omega), xorI]
          have hf : fal r j = true := by simp [fal, hs, hfl]
          have e1 : nP r j = aP r j := by unfold nP; rw [hf]; simp
          have e2 : nIn r j = 12 := by unfold nIn; rw [hf]; rfl
          rw [tk_mx_fall hw hj h12 e2, ← mx_same hj e1, ← mx_I hj, e2]
          rfl
        · rw [if_pos (nIle (by omega) (by omega) (by omega))]
          have hf : fal r j = false := by simp [fal, hfl]
          have e2 : nIn r j = aI r j := by unfold nIn; rw [hf]; rfl
          rw [tk_mx_same e2, ← mx_sameI hj e2]
          have e1 : nP r j = aP r j - 1 := by unfold nP; rw [hs, hf]; simp [show 0 < hgh r (aI r j) 0 by omega]
          by_cases hp0 : aP r j = 0
          · rw [hp0, if_pos (by decide), ← mx_same hj (by rw [e1, hp0])]
          · rw [if_neg (nI_nle (by omega) (by omega)), ← mx_P hj, e1, show (1 : Int32) = nI 1 from rfl, pk_sub (by omega)]
    · have hs : aSt r j = false := by simp [aSt, h12]
      rw [eC_f h12, if_pos rfl, if_pos (by decide)]
      have hf : fal r j = false := by simp [fal, hs]
      have e1 : nP r j = aP r j := by unfold nP; rw [hs]; simp
      have e2 : nIn r j = aI r j := by unfold nIn; rw [hf]; rfl
      rw [tk_mx_same e2, ← mx_same hj e1, ← mx_sameI hj e2]
