/-! ===== PURE Q: numbers in base B as shares; the next number of the same sum of digits ===== -/
def dgt (B x i : Nat) : Nat := x / B ^ i % B
def ds (B : Nat) : Nat → Nat → Nat
  | 0, _ => 0
  | n + 1, x => x % B + ds B n (x / B)
theorem ds_add {B : Nat} (hB : 0 < B) : ∀ a b X z, z < B ^ a → ds B (a + b) (X * B ^ a + z) = ds B a z + ds B b X
  | 0, b, X, z, h => by
    have : z = 0 := by rw [Nat.pow_zero] at h; omega
    subst this
    rw [Nat.zero_add, Nat.pow_zero, Nat.mul_one, Nat.add_zero]; simp [ds]
  | a + 1, b, X, z, h => by
    have e1 : (X * B ^ (a + 1) + z) % B = z % B := by
      rw [Nat.pow_succ, ← Nat.mul_assoc, Nat.mul_comm _ B, Nat.mul_add_mod]
    have e2 : (X * B ^ (a + 1) + z) / B = X * B ^ a + z / B := by
      rw [Nat.pow_succ, ← Nat.mul_assoc, Nat.mul_comm _ B, Nat.mul_add_div hB]
    have hz : z / B < B ^ a := (Nat.div_lt_iff_lt_mul hB).mpr (by rw [Nat.pow_succ] at h; exact h)
    rw [show a + 1 + b = (a + b) + 1 by omega]
    show (X * B ^ (a + 1) + z) % B + ds B (a + b) ((X * B ^ (a + 1) + z) / B) = z % B + ds B a (z / B) + ds B b X
    rw [e1, e2, ds_add hB a b X (z / B) hz]; omega
theorem ds_zero {B : Nat} : ∀ n, ds B n 0 = 0
  | 0 => rfl
  | n + 1 => by show 0 % B + ds B n (0 / B) = 0; rw [Nat.zero_mod, Nat.zero_div, ds_zero n]
theorem ds_small {B z : Nat} (h : z < B) (n : Nat) : ds B (n + 1) z = z := by
  show z % B + ds B n (z / B) = z
  rw [Nat.mod_eq_of_lt h, Nat.div_eq_of_lt h, ds_zero, Nat.add_zero]
theorem ds_pos {B : Nat} (hB : 0 < B) : ∀ n z, 0 < z → z < B ^ n → 0 < ds B n z
  | 0, z, h, h2 => by rw [Nat.pow_zero] at h2; omega
  | n + 1, z, h, h2 => by
    show 0 < z % B + ds B n (z / B)
    by_cases q : z % B = 0
    · have hz : z / B < B ^ n := (Nat.div_lt_iff_lt_mul hB).mpr (by rw [Nat.pow_succ] at h2; exact h2)
      have h3 := Nat.div_add_mod z B
      have hp : 0 < z / B := by
        rcases Nat.eq_zero_or_pos (z / B) with w | w
        · rw [w, q] at h3; simp at h3; omega
        · exact w
      have := ds_pos hB n (z / B) hp hz
      omega
    · omega
theorem ds_top {B : Nat} (hB : 0 < B) {q a z : Nat} (h1 : a * B ^ q < z) (h2 : z < B ^ (q + 1)) : a < ds B (q + 1) z := by
  have hp : 0 < B ^ q := Nat.pow_pos hB
  have e := Nat.div_add_mod z (B ^ q)
  have hm := Nat.mod_lt z hp
  have hX : z / B ^ q < B := (Nat.div_lt_iff_lt_mul hp).mpr (by rw [Nat.pow_succ, Nat.mul_comm] at h2; exact h2)
  have e2 : z = z / B ^ q * B ^ q + z % B ^ q := by rw [Nat.mul_comm]; exact e.symm
  have e3 : ds B (q + 1) z = ds B q (z % B ^ q) + ds B 1 (z / B ^ q) := by
    conv => lhs; rw [e2]
    exact ds_add hB q 1 _ _ hm
  rw [e3, ds_small hX 0]
  have ha : a ≤ z / B ^ q := (Nat.le_div_iff_mul_le hp).mpr (Nat.le_of_lt h1)
  rcases Nat.lt_or_ge a (z / B ^ q) with w | w
  · omega
  · have ea : z / B ^ q = a := by omega
    have : 0 < z % B ^ q := by
      rcases Nat.eq_zero_or_pos (z % B ^ q) with y | y
      · rw [y, ea] at e2; omega
      · exact y
    have := ds_pos hB q _ this hm
    omega
/-- parted: the digits of x, M of them, sum to k -/
def prt (k M x : Nat) : Bool := decide (ds (k + 1) M x = k)
/-- the last of all -/
theorem last_none {k q x : Nat} (h1 : k * (k + 1) ^ q < x) (h2 : x < (k + 1) ^ (q + 1)) : prt k (q + 1) x = false :=
  decide_eq_false (fun e => by have := ds_top (B := k + 1) (Nat.succ_pos k) h1 h2; omega)
/-- between v and the next there is none -/
theorem gap_none {k b q X a x : Nat} (ha : 0 < a) (hak : a ≤ k) (hX : ds (k + 1) b X + a = k) (hX1 : ds (k + 1) b (X + 1) = ds (k + 1) b X + 1)
    (h1 : X * (k + 1) ^ (q + 1) + a * (k + 1) ^ q < x) (h2 : x < (X + 1) * (k + 1) ^ (q + 1) + (a - 1)) : prt k (q + 1 + b) x = false := by
  have hB : 0 < k + 1 := Nat.succ_pos k
  have hP : 0 < (k + 1) ^ (q + 1) := Nat.pow_pos hB
  have hBP : k + 1 ≤ (k + 1) ^ (q + 1) := by
    have : (k + 1) ^ 1 ≤ (k + 1) ^ (q + 1) := Nat.pow_le_pow_right hB (by omega)
    rw [Nat.pow_one] at this; exact this
  refine decide_eq_false (fun e => ?_)
  rw [Nat.add_mul, Nat.one_mul] at h2
  rcases Nat.lt_or_ge x (X * (k + 1) ^ (q + 1) + (k + 1) ^ (q + 1)) with w | w
  · obtain ⟨z, rfl⟩ : ∃ z, x = X * (k + 1) ^ (q + 1) + z := ⟨x - X * (k + 1) ^ (q + 1), by omega⟩
    have hz : z < (k + 1) ^ (q + 1) := by omega
    rw [ds_add hB (q + 1) b X z hz] at e
    have := ds_top hB (q := q) (a := a) (z := z) (by omega) hz
    omega
  · obtain ⟨z, rfl⟩ : ∃ z, x = (X + 1) * (k + 1) ^ (q + 1) + z := ⟨x - (X + 1) * (k + 1) ^ (q + 1), by rw [Nat.add_mul, Nat.one_mul]; omega⟩
    rw [Nat.add_mul, Nat.one_mul] at h2
    have hz : z < a - 1 := by omega
    rw [ds_add hB (q + 1) b (X + 1) z (by omega), ds_small (show z < k + 1 by omega) q, hX1] at e
    omega
/-- no carry -/
theorem ds_inc {B : Nat} (hB : 0 < B) {b X : Nat} (h : X % B + 1 < B) : ds B (b + 1) (X + 1) = ds B (b + 1) X + 1 := by
  have e := Nat.div_add_mod X B
  have e1 : (X + 1) % B = X % B + 1 := by
    conv => lhs; rw [← e, Nat.add_assoc]
    rw [Nat.mul_add_mod, Nat.mod_eq_of_lt h]
  have e2 : (X + 1) / B = X / B := by
    conv => lhs; rw [← e, Nat.add_assoc]
    rw [Nat.mul_add_div hB, Nat.div_eq_of_lt h, Nat.add_zero]
  show (X + 1) % B + ds B b ((X + 1) / B) = X % B + ds B b (X / B) + 1
  rw [e1, e2]; omega
/-- digits -/
theorem dgt_hi {B : Nat} (hB : 0 < B) {X z q i : Nat} (hz : z < B ^ q) : dgt B (X * B ^ q + z) (q + i) = dgt B X i := by
  unfold dgt
  rw [Nat.pow_add, ← Nat.div_div_eq_div_mul, Nat.mul_comm X, Nat.mul_add_div (Nat.pow_pos hB), Nat.div_eq_of_lt hz, Nat.add_zero]
theorem dgt_lo {B : Nat} (hB : 0 < B) {X z q i : Nat} (hi : i < q) : dgt B (X * B ^ q + z) i = dgt B z i := by
  unfold dgt
  obtain ⟨j, rfl⟩ : ∃ j, q = i + (j + 1) := ⟨q - i - 1, by omega⟩
  rw [Nat.pow_add, Nat.pow_succ, show X * (B ^ i * (B ^ j * B)) + z = B ^ i * (X * B ^ j * B) + z by
    rw [Nat.mul_left_comm, Nat.mul_assoc X], Nat.mul_add_div (Nat.pow_pos hB), Nat.mul_comm _ B, Nat.mul_add_mod]
theorem dgt_inc {B : Nat} (hB : 0 < B) {X : Nat} (h : X % B + 1 < B) : dgt B (X + 1) 0 = dgt B X 0 + 1 ∧ ∀ i, dgt B (X + 1) (i + 1) = dgt B X (i + 1) := by
  have e := Nat.div_add_mod X B
  have e2 : (X + 1) / B = X / B := by
    conv => lhs; rw [← e, Nat.add_assoc]
    rw [Nat.mul_add_div hB, Nat.div_eq_of_lt h, Nat.add_zero]
  constructor
  · unfold dgt
    rw [Nat.pow_zero, Nat.div_one, Nat.div_one]
    conv => lhs; rw [← e, Nat.add_assoc]
    rw [Nat.mul_add_mod, Nat.mod_eq_of_lt h]
  · intro i
    unfold dgt
    rw [Nat.pow_succ, Nat.mul_comm, ← Nat.div_div_eq_div_mul, ← Nat.div_div_eq_div_mul, e2]
theorem dgt_small {B z : Nat} (h : z < B) : dgt B z 0 = z ∧ ∀ i, dgt B z (i + 1) = 0 := by
  have hB : 0 < B := by omega
  constructor
  · unfold dgt; rw [Nat.pow_zero, Nat.div_one, Nat.mod_eq_of_lt h]
  · intro i
    unfold dgt
    rw [Nat.pow_succ, Nat.mul_comm, ← Nat.div_div_eq_div_mul, Nat.div_eq_of_lt h, Nat.zero_div, Nat.zero_mod]
theorem dgt_lt {B : Nat} (hB : 0 < B) (x i : Nat) : dgt B x i < B := Nat.mod_lt _ hB
theorem ds_dgt {B : Nat} (hB : 0 < B) : ∀ n x i, i < n → dgt B x i ≤ ds B n x
  | 0, x, i, h => absurd h (Nat.not_lt_zero i)
  | n + 1, x, 0, _ => by
    show dgt B x 0 ≤ x % B + ds B n (x / B)
    unfold dgt; rw [Nat.pow_zero, Nat.div_one]; omega
  | n + 1, x, i + 1, h => by
    have := ds_dgt hB n (x / B) i (by omega)
    show dgt B x (i + 1) ≤ x % B + ds B n (x / B)
    have e : dgt B x (i + 1) = dgt B (x / B) i := by
      unfold dgt; rw [Nat.pow_succ, Nat.mul_comm, ← Nat.div_div_eq_div_mul]
    rw [e]; omega
/-- x is made of its digits: below q all are nought -/
theorem low_zero {B : Nat} (hB : 0 < B) : ∀ q x, (∀ i, i < q → dgt B x i = 0) → x = x / B ^ q * B ^ q
  | 0, x, _ => by rw [Nat.pow_zero, Nat.div_one, Nat.mul_one]
  | q + 1, x, h => by
    have ih := low_zero hB q x (fun i hi => h i (by omega))
    have h0 : x / B ^ q % B = 0 := h q (by omega)
    have e := Nat.div_add_mod (x / B ^ q) B
    rw [h0, Nat.add_zero] at e
    rw [Nat.pow_succ, ← Nat.div_div_eq_div_mul, Nat.mul_comm (B ^ q) B, ← Nat.mul_assoc, Nat.mul_comm _ B, e]
    exact ih
theorem dgt_out {B M x i : Nat} (hB : 0 < B) (h : x < B ^ M) (hi : M ≤ i) : dgt B x i = 0 := by
  unfold dgt
  have : x < B ^ i := Nat.lt_of_lt_of_le h (Nat.pow_le_pow_right hB hi)
  rw [Nat.div_eq_of_lt this, Nat.zero_mod]
/-- how many are parted -/
theorem ct_blocks (p : Nat → Bool) (B : Nat) : ∀ n, fb_ct p (B * n) = fb_sm (fun y => fb_ct (fun d => p (B * y + d)) B) n
  | 0 => rfl
  | n + 1 => by rw [Nat.mul_succ, fb_ct_split, ct_blocks p B n, fb_sm_succ]
theorem ct_one {s t : Nat} : ∀ B, s < B + t → fb_ct (fun d => decide (d + t = s)) B = if t ≤ s then 1 else 0
  | 0, h => by
    show 0 = _
    rw [if_neg (by omega)]
  | B + 1, h => by
    rw [fb_ct_succ]
    by_cases q : B + t = s
    · have z : fb_ct (fun d => decide (d + t = s)) B = 0 := fb_ct_zero.mpr (fun d hd => decide_eq_false (by omega))
      rw [z, decide_eq_true q, if_pos rfl, if_pos (by omega)]
    · rw [ct_one B (by omega), decide_eq_false q]; rfl
theorem sm_ct (p : Nat → Prop) [DecidablePred p] : ∀ n, fb_sm (fun y => if p y then 1 else 0) n = fb_ct (fun y => decide (p y)) n
  | 0 => rfl
  | n + 1 => by
    rw [fb_sm_succ, fb_ct_succ, sm_ct p n]
    by_cases q : p n
    · rw [if_pos q, decide_eq_true q]; rfl
    · rw [if_neg q, decide_eq_false q]; rfl
def Ee (B M s : Nat) : Nat := fb_ct (fun x => decide (ds B M x = s)) (B ^ M)
def Le (B M s : Nat) : Nat := fb_ct (fun x => decide (ds B M x ≤ s)) (B ^ M)
theorem Ee_succ {B M s : Nat} (h : s < B) : Ee B (M + 1) s = Le B M s := by
  have hB : 0 < B := by omega
  unfold Ee Le
  rw [Nat.pow_succ, Nat.mul_comm, ct_blocks, ← sm_ct]
  refine fb_sm_cong (fun y _ => ?_)
  have : ∀ d, d < B → decide (ds B (M + 1) (B * y + d) = s) = decide (d + ds B M y = s) := fun d hd => by
    show decide ((B * y + d) % B + ds B M ((B * y + d) / B) = s) = _
    rw [Nat.mul_add_mod, Nat.mod_eq_of_lt hd, Nat.mul_add_div hB, Nat.div_eq_of_lt hd, Nat.add_zero]
  rw [fb_ct_cong this, ct_one B (by omega)]
theorem Le_succ (B M s : Nat) : Le B M (s + 1) = Le B M s + Ee B M (s + 1) := by
  unfold Le Ee
  rw [← fb_ct_or (fun k _ z => by have a := of_decide_eq_true z.1; have b := of_decide_eq_true z.2; omega)]
  refine fb_ct_cong (fun x _ => ?_)
  by_cases q : ds B M x ≤ s
  · rw [decide_eq_true q, decide_eq_true (show ds B M x ≤ s + 1 by omega)]; rfl
  · rw [decide_eq_false q, Bool.false_or]
    by_cases w : ds B M x = s + 1
    · rw [decide_eq_true w, decide_eq_true (show ds B M x ≤ s + 1 by omega)]
    · rw [decide_eq_false w, decide_eq_false (show ¬ ds B M x ≤ s + 1 by omega)]
theorem Le_zero (B M : Nat) : Le B M 0 = Ee B M 0 := by
  unfold Le Ee
  refine fb_ct_cong (fun x _ => ?_)
  by_cases w : ds B M x = 0
  · rw [decide_eq_true w, decide_eq_true (show ds B M x ≤ 0 by omega)]
  · rw [decide_eq_false w, decide_eq_false (show ¬ ds B M x ≤ 0 by omega)]
theorem Le_sm (B M : Nat) : ∀ s, Le B M s = fb_sm (fun t => Ee B M t) (s + 1)
  | 0 => by rw [Le_zero]; show _ = 0 + Ee B M 0; rw [Nat.zero_add]
  | s + 1 => by rw [Le_succ, Le_sm B M s, fb_sm_succ (fun t => Ee B M t) (s + 1)]
def En : Nat → Nat → Nat
  | 0 => fun s => if s = 0 then 1 else 0
  | M + 1 => fun s => fb_sm (En M) (s + 1)
theorem Ee_En {B : Nat} : ∀ M s, s < B → Ee B M s = En M s
  | 0, s, _ => by
    unfold Ee
    rw [Nat.pow_zero]
    show 0 + (if decide (0 = s) = true then 1 else 0) = if s = 0 then 1 else 0
    by_cases q : s = 0
    · subst q; rfl
    · rw [decide_eq_false (show ¬ 0 = s by omega), if_neg q]; rfl
  | M + 1, s, h => by
    rw [Ee_succ h, Le_sm]
    exact fb_sm_cong (fun t ht => Ee_En M t (by omega))
theorem En_all : ∀ M, M ≤ 6 → ∀ k, k ≤ 8 → En M k ≤ 1287 := by decide +kernel
theorem prt_few {k M : Nat} (hk : k ≤ 8) (hM : M ≤ 6) : fb_ct (prt k M) ((k + 1) ^ M) ≤ 1287 := by
  have := En_all M hM k hk
  rw [← Ee_En (B := k + 1) M k (by omega)] at this
  exact this
/-- shares as a number -/
def VN (k M : Nat) (w : Nat → Int32) (x : Nat) : Prop := ∀ m, m < M → w m = nI (dgt (k + 1) x (M - 1 - m))
theorem m1_all : ∀ m, m ≤ 6 → (decide (nI m - 1 < 0) = decide (m = 0)) ∧ (decide (0 ≤ nI m - 1) = !decide (m = 0)) := by decide +kernel
theorem m1_s : ∀ m, m ≤ 6 → nI (m + 1) - 1 = nI m ∧ nI (m + 1) - 1 + -1 = nI m - 1 := by decide +kernel
theorem nx_loop {k M v : Nat} (hM : M ≤ 6) (hk : k ≤ 8) (K : Int32 → Int32 → (Nat → Int32) → Option (Int32 × (Nat → Int32))) : ∀ m n w, m < M → m < n → (∀ j, j < m → w j = nI (dgt (k + 1) v (M - 1 - j))) → (∀ j, m ≤ j → j < M - 1 → w j = 0) → (∀ j, m < j → j < M → dgt (k + 1) v (M - 1 - j) = 0) →
    ∃ m' w', m' < M ∧ m_X2_nextShares_L21 K n (nI (dgt (k + 1) v (M - 1 - m))) (nI m - 1) w = K (nI (dgt (k + 1) v (M - 1 - m'))) (nI m' - 1) w' ∧ (∀ j, j < m' → w' j = nI (dgt (k + 1) v (M - 1 - j))) ∧ (∀ j, m' ≤ j → j < M - 1 → w' j = 0) ∧ (∀ j, m' < j → j < M → dgt (k + 1) v (M - 1 - j) = 0) ∧ (m' = 0 ∨ dgt (k + 1) v (M - 1 - m') ≠ 0)
  | 0, n, w, hm, hn, h1, h2, h3 => by
    obtain ⟨n, rfl⟩ : ∃ n', n = n' + 1 := ⟨n - 1, by omega⟩
    refine ⟨0, w, hm, ?_, h1, h2, h3, Or.inl rfl⟩
    show m_X2_nextShares_L21s _ _ _ _ _ = _
    unfold m_X2_nextShares_L21s
    rw [if_pos (by decide)]
  | m + 1, n, w, hm, hn, h1, h2, h3 => by
    obtain ⟨n, rfl⟩ : ∃ n', n = n' + 1 := ⟨n - 1, by omega⟩
    by_cases hz : dgt (k + 1) v (M - 1 - (m + 1)) = 0
    · obtain ⟨m', w', a1, a2, a3, a4, a5, a6⟩ := nx_loop hM hk K m n (upd w m 0) (by omega) (by omega) (fun j hj => by rw [upd_ne (by omega)]; exact h1 j (by omega)) (fun j hj hj2 => by
        by_cases e : j = m
        · subst e; exact upd_eq
        · rw [upd_ne e]; exact h2 j (by omega) hj2) (fun j hj hj2 => by
        by_cases e : j = m + 1
        · subst e; exact hz
        · exact h3 j (by omega) hj2)
      refine ⟨m', w', a1, ?_, a3, a4, a5, a6⟩
      rw [← a2]
      show m_X2_nextShares_L21s _ _ _ _ _ = _
      unfold m_X2_nextShares_L21s
      have q := (m1_all (m + 1) (by omega)).1
      rw [decide_eq_false (show ¬ m + 1 = 0 by omega)] at q
      rw [if_neg (of_decide_eq_false q), hz, if_pos (show nI 0 = 0 from rfl), (m1_s m (by omega)).1]
      simp only [chk_nI _ (show m < 6 by omega) (by decide : (6 : Nat) < 2 ^ 31), cl (show m < 2 ^ 31 by omega), bnd]
      rw [h1 m (by omega)]
      have q2 := (m1_s m (by omega)).2
      rw [(m1_s m (by omega)).1] at q2
      rw [q2]
    · refine ⟨m + 1, w, hm, ?_, h1, h2, h3, Or.inr hz⟩
      show m_X2_nextShares_L21s _ _ _ _ _ = _
      unfold m_X2_nextShares_L21s
      have q := (m1_all (m + 1) (by omega)).1
      rw [decide_eq_false (show ¬ m + 1 = 0 by omega)] at q
      have hl := dgt_lt (B := k + 1) (Nat.succ_pos k) v (M - 1 - (m + 1))
      rw [if_neg (of_decide_eq_false q), if_neg (show ¬ nI (dgt (k + 1) v (M - 1 - (m + 1))) = 0 from fun z => hz ((nI_eq (b := 0) (by omega) (by decide)).mp z))]
theorem nextSh_C {k M v F : Nat} {w : Nat → Int32} (hM0 : 0 < M) (hM : M ≤ 6) (hk : k ≤ 8) (hF : 64 ≤ F) (hv : v < (k + 1) ^ M) (hp : ds (k + 1) M v = k) (hw : VN k M w v) :
    ∃ b w', m_X2_nextShares F (nI M) w = some (bI b, w') ∧ (b = false → ∀ x, v < x → x < (k + 1) ^ M → prt k M x = false) ∧ (b = true → ∃ v', v < v' ∧ v' < (k + 1) ^ M ∧ ds (k + 1) M v' = k ∧ VN k M w' v' ∧ ∀ x, v < x → x < v' → prt k M x = false) := by
  have hB : 0 < k + 1 := Nat.succ_pos k
  have e1 : nI M - 1 = nI (M - 1) := by
    have := (m1_s (M - 1) (by omega)).1
    rw [show M - 1 + 1 = M by omega] at this; exact this
  unfold m_X2_nextShares
  rw [e1]
  simp only [bnd]
  rw [chk_nI _ (by omega) (by decide), cl (by omega)]
  have h0 : w (M - 1) = nI (dgt (k + 1) v (M - 1 - (M - 1))) := hw (M - 1) (by omega)
  rw [h0]
  obtain ⟨m, w', a1, a2, a3, a4, a5, a6⟩ := nx_loop (k := k) (M := M) (v := v) hM hk (fun x9 x10 w11 => (if 0 ≤ x10 then chk x10 6 (chk x10 6 (chk (nI (M - 1)) 6 (some (1, upd (upd w11 x10.toNatClampNeg ((w11 x10.toNatClampNeg) + 1)) (M - 1) (x9 - 1))))) else some (0, w11))) (M - 1) F w (by omega) (by omega) (fun j hj => hw j (by omega)) (fun j hj hj2 => absurd hj (by omega)) (fun j hj hj2 => absurd hj (by omega))
  rw [a2]
  -- the digit a at q, nought below it
  have hlow : ∀ i, i < M - 1 - m → dgt (k + 1) v i = 0 := fun i hi => by
    have := a5 (M - 1 - i) (by omega) (by omega)
    rw [show M - 1 - (M - 1 - i) = i by omega] at this; exact this
  have ev := low_zero hB (M - 1 - m) v hlow
  have hP : 0 < (k + 1) ^ (M - 1 - m) := Nat.pow_pos hB
  by_cases hm : m = 0
  · subst hm
    refine ⟨false, w', by rw [if_neg (by decide)]; rfl, fun _ x hx hx2 => ?_, fun q => absurd q (by decide)⟩
    rw [Nat.sub_zero] at ev hP
    have hlt : v / (k + 1) ^ (M - 1) < k + 1 := (Nat.div_lt_iff_lt_mul hP).mpr (by rw [← Nat.pow_succ', show (M - 1).succ = M by omega]; exact hv)
    have hds : ds (k + 1) M v = v / (k + 1) ^ (M - 1) := by
      have := ds_add hB (M - 1) 1 (v / (k + 1) ^ (M - 1)) 0 hP
      rw [Nat.add_zero, ← ev, show M - 1 + 1 = M by omega, ds_zero, Nat.zero_add, ds_small hlt 0] at this
      exact this
    rw [hp] at hds
    rw [← hds] at ev
    have := last_none (k := k) (q := M - 1) (x := x) (by rw [← ev]; exact hx) (by rw [show M - 1 + 1 = M by omega]; exact hx2)
    rw [show M - 1 + 1 = M by omega] at this; exact this
  · have ha6 : dgt (k + 1) v (M - 1 - m) ≠ 0 := by
      rcases a6 with q | q
      · exact absurd q hm
      · exact q
    obtain ⟨q, hq⟩ : ∃ q, q = M - 1 - m := ⟨_, rfl⟩
    rw [← hq] at ev hP ha6 hlow ⊢
    obtain ⟨a, hadef⟩ : ∃ a, a = dgt (k + 1) v q := ⟨_, rfl⟩
    rw [← hadef] at ha6 ⊢
    have hak : a ≤ k := by have := dgt_lt hB v q; omega
    obtain ⟨X, hX⟩ : ∃ X, X = v / (k + 1) ^ q / (k + 1) := ⟨_, rfl⟩
    have eX : v / (k + 1) ^ q = X * (k + 1) + a := by
      have := Nat.div_add_mod (v / (k + 1) ^ q) (k + 1)
      rw [hX, hadef, Nat.mul_comm]; exact this.symm
    have ev2 : v = X * (k + 1) ^ (q + 1) + a * (k + 1) ^ q := by
      rw [eX] at ev
      rw [Nat.pow_succ, Nat.mul_comm ((k + 1) ^ q) (k + 1), ← Nat.mul_assoc, ← Nat.add_mul]; exact ev
    have haq : a * (k + 1) ^ q < (k + 1) ^ (q + 1) := by
      rw [Nat.pow_succ, Nat.mul_comm]
      exact Nat.mul_lt_mul_of_pos_left (by omega) hP
    have eM : M = q + 1 + m := by omega
    have dsa : ds (k + 1) (q + 1) (a * (k + 1) ^ q) = a := by
      have := ds_add hB q 1 a 0 hP
      rw [Nat.add_zero, ds_zero, Nat.zero_add, ds_small (show a < k + 1 by omega) 0] at this
      exact this
    have dsv : a + ds (k + 1) m X = k := by
      have := ds_add hB (q + 1) m X (a * (k + 1) ^ q) haq
      rw [← ev2, ← eM, hp, dsa] at this
      exact this.symm
    obtain ⟨m', rfl⟩ : ∃ m', m = m' + 1 := ⟨m - 1, by omega⟩
    have hc : X % (k + 1) + 1 < k + 1 := by
      have := ds_dgt hB (m' + 1) X 0 (by omega)
      unfold dgt at this
      rw [Nat.pow_zero, Nat.div_one] at this
      omega
    have hinc := ds_inc hB (b := m') hc
    have hdg := dgt_inc hB hc
    have hPq : 0 < (k + 1) ^ (q + 1) := Nat.pow_pos hB
    have hBq : k + 1 ≤ (k + 1) ^ (q + 1) := by
      have : (k + 1) ^ 1 ≤ (k + 1) ^ (q + 1) := Nat.pow_le_pow_right hB (by omega)
      rw [Nat.pow_one] at this; exact this
    have hXlt : X < (k + 1) ^ (m' + 1) := by
      rcases Nat.lt_or_ge X ((k + 1) ^ (m' + 1)) with z | z
      · exact z
      · have := Nat.mul_le_mul_right ((k + 1) ^ (q + 1)) z
        rw [← Nat.pow_add, show m' + 1 + (q + 1) = M by omega] at this
        omega
    have hX1 : X + 1 < (k + 1) ^ (m' + 1) := by
      rcases Nat.lt_or_ge (X + 1) ((k + 1) ^ (m' + 1)) with z | z
      · exact z
      · exfalso
        have e : X + 1 = (k + 1) ^ (m' + 1) := by omega
        have : (X + 1) % (k + 1) = 0 := by rw [e, Nat.pow_succ, Nat.mul_mod_left]
        have h2 := hdg.1
        unfold dgt at h2
        rw [Nat.pow_zero, Nat.div_one, Nat.div_one, this] at h2
        omega
    have hdX : ∀ i, dgt (k + 1) v (q + 1 + i) = dgt (k + 1) X i := fun i => by rw [ev2]; exact dgt_hi hB haq
    refine ⟨true, upd (upd w' m' (w' m' + 1)) (M - 1) (nI a - 1), ?_, fun z => absurd z (by decide), fun _ => ⟨(X + 1) * (k + 1) ^ (q + 1) + (a - 1), ?_, ?_, ?_, fun j hj => ?_, fun x h1 h2 => ?_⟩⟩
    · have z := (m1_all (m' + 1) (by omega)).2
      rw [decide_eq_false (show ¬ m' + 1 = 0 by omega)] at z
      rw [if_pos (of_decide_eq_true z), (m1_s m' (by omega)).1, chk_nI _ (by omega) (by decide), chk_nI _ (by omega) (by decide), chk_nI _ (by omega) (by decide), cl (by omega)]
      rfl
    · rw [Nat.add_mul, Nat.one_mul]; omega
    · have := Nat.mul_le_mul_right ((k + 1) ^ (q + 1)) hX1
      rw [← Nat.pow_add, show m' + 1 + (q + 1) = M by omega, Nat.succ_mul] at this
      omega
    · rw [eM, ds_add hB (q + 1) (m' + 1) (X + 1) (a - 1) (by omega), ds_small (show a - 1 < k + 1 by omega) q, hinc]; omega
    · by_cases j1 : j = M - 1
      · subst j1
        rw [upd_eq, show M - 1 - (M - 1) = 0 by omega, dgt_lo hB (by omega), (dgt_small (show a - 1 < k + 1 by omega)).1]
        have : ∀ a, a ≤ 8 → a ≠ 0 → nI a - 1 = nI (a - 1) := by decide +kernel
        exact this a (by omega) ha6
      · rw [upd_ne j1]
        by_cases j2 : j = m'
        · subst j2
          rw [upd_eq, a3 j (by omega), show M - 1 - j = q + 1 + 0 by omega, hdX 0, dgt_hi hB (by omega), hdg.1, nI_1]
        · rw [upd_ne j2]
          rcases Nat.lt_or_ge j m' with z | z
          · obtain ⟨i, hi⟩ : ∃ i, M - 1 - j = q + 1 + (i + 1) := ⟨M - 1 - j - (q + 1) - 1, by omega⟩
            rw [a3 j (by omega), hi, hdX, dgt_hi hB (by omega), hdg.2]
          · obtain ⟨i, hi⟩ : ∃ i, M - 1 - j = i + 1 := ⟨M - 1 - j - 1, by omega⟩
            rw [a4 j (by omega) (by omega), hi, dgt_lo hB (by omega), (dgt_small (show a - 1 < k + 1 by omega)).2]; rfl
    · rw [eM]
      exact gap_none (b := m' + 1) (by omega) hak (by omega) hinc (by rw [← ev2]; exact h1) h2
