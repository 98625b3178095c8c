/-! ===== PURE O: steam ===== -/
theorem sm_shift (f : Nat → Nat) (K : Nat) : fb_sm f (K + 1) = f 0 + fb_sm (fun k => f (k + 1)) K := by
  rw [Nat.add_comm K 1, fb_sm_split f 1 K]
  show 0 + f 0 + fb_sm (fun k => f (1 + k)) K = _
  rw [Nat.zero_add]
  congr 1
  exact fb_sm_cong (fun k _ => by rw [Nat.add_comm])
theorem sm_mul (c : Nat) (f : Nat → Nat) : ∀ n, fb_sm (fun k => c * f k) n = c * fb_sm f n
  | 0 => rfl
  | n + 1 => by rw [fb_sm_succ, fb_sm_succ, sm_mul c f n, Nat.mul_add]
/-- the ways in which k of S shaky ones stand -/
def wgt (c : Nat) : Nat → Nat → Nat
  | 0, 0 => 1
  | 0, _ + 1 => 0
  | S + 1, 0 => wgt c S 0 * c
  | S + 1, k + 1 => wgt c S (k + 1) * c + wgt c S k * (10 - c)
theorem wgt_out (c : Nat) : ∀ S k, S < k → wgt c S k = 0
  | 0, 0, h => absurd h (by omega)
  | 0, _ + 1, _ => rfl
  | S + 1, 0, h => absurd h (by omega)
  | S + 1, k + 1, h => by rw [wgt, wgt_out c S (k + 1) (by omega), wgt_out c S k (by omega)]; omega
def Af (c : Nat) : Nat → Nat → Nat
  | 0, t => if t = 0 then 1 else 0
  | S + 1, t => c * Af c S t + (10 - c) * Af c S (t - 1)
theorem Af_sm (c : Nat) : ∀ S t K, S < K → fb_sm (fun k => if t ≤ k then wgt c S k else 0) K = Af c S t
  | 0, t, K, h => by
    obtain ⟨K, rfl⟩ : ∃ K', K = K' + 1 := ⟨K - 1, by omega⟩
    rw [sm_shift]
    have : fb_sm (fun k => if t ≤ k + 1 then wgt c 0 (k + 1) else 0) K = fb_sm (fun _ => 0) K := fb_sm_cong (fun k _ => by rw [wgt]; exact ite_self 0)
    rw [this, fb_sm_const, Nat.mul_zero, Nat.add_zero]
    show (if t ≤ 0 then 1 else 0) = if t = 0 then 1 else 0
    by_cases e : t = 0
    · rw [if_pos e, if_pos (by omega)]
    · rw [if_neg e, if_neg (by omega)]
  | S + 1, t, K, h => by
    obtain ⟨K, rfl⟩ : ∃ K', K = K' + 1 := ⟨K - 1, by omega⟩
    rw [sm_shift]
    have e1 : fb_sm (fun k => if t ≤ k + 1 then wgt c (S + 1) (k + 1) else 0) K = c * fb_sm (fun k => if t ≤ k + 1 then wgt c S (k + 1) else 0) K + (10 - c) * fb_sm (fun k => if t - 1 ≤ k then wgt c S k else 0) K := by
      rw [← sm_mul, ← sm_mul, ← fb_sm_add]
      refine fb_sm_cong (fun k _ => ?_)
      by_cases q : t ≤ k + 1
      · rw [if_pos q, if_pos q, if_pos (by omega), wgt, Nat.mul_comm, Nat.mul_comm (10 - c)]
      · rw [if_neg q, if_neg q, if_neg (by omega)]; rfl
    have e2 := Af_sm c S t (K + 1) (by omega)
    rw [sm_shift] at e2
    rw [e1, Af_sm c S (t - 1) K (by omega)]
    show (if t ≤ 0 then wgt c S 0 * c else 0) + _ = c * Af c S t + (10 - c) * Af c S (t - 1)
    rw [← e2]
    have : (if t ≤ 0 then wgt c S 0 * c else 0) = c * (if t ≤ 0 then wgt c S 0 else 0) := by
      by_cases q : t ≤ 0
      · rw [if_pos q, if_pos q, Nat.mul_comm]
      · rw [if_neg q, if_neg q]; rfl
    rw [this, Nat.mul_add]; omega
theorem Af_le (c : Nat) (hc : c ≤ 10) : ∀ S t, Af c S t ≤ 10 ^ S
  | 0, t => by unfold Af; split <;> decide
  | S + 1, t => by
    have h1 := Nat.mul_le_mul_left c (Af_le c hc S t)
    have h2 := Nat.mul_le_mul_left (10 - c) (Af_le c hc S (t - 1))
    show c * Af c S t + (10 - c) * Af c S (t - 1) ≤ 10 ^ (S + 1)
    have : c * 10 ^ S + (10 - c) * 10 ^ S = 10 ^ (S + 1) := by rw [← Nat.add_mul, Nat.pow_succ, Nat.mul_comm]; congr 1; omega
    omega
/-- the reference's sum over sets: each man is not there, sure, doomed or shaky -/
def okb (e : Nat → Bool) (x : Nat) : Nat → Bool
  | 0 => true
  | k + 1 => okb e x k && (!x.testBit k || e k)
def ptx (c : Nat) (e : Nat → Bool) (x : Nat) : Nat → Nat
  | 0 => 1
  | k + 1 => ptx c e x k * (if e k then (if x.testBit k then c else 10 - c) else 1)
def sxx (e s g : Nat → Bool) (x n : Nat) : Nat := fb_ct (fun k => e k && (s k || (g k && !x.testBit k))) n
def hx (c : Nat) (e s g : Nat → Bool) (t n x : Nat) : Nat := if okb e x n then ptx c e x n * (if t ≤ sxx e s g x n then 1 else 0) else 0
def Tx (c : Nat) (e s g : Nat → Bool) (n t : Nat) : Nat := fb_sm (hx c e s g t n) (2 ^ n)
theorem tb_lo {n x k : Nat} (h : k < n) : (2 ^ n + x).testBit k = x.testBit k := by
  rw [Nat.testBit_two_pow_add_gt h]
theorem tb_hi {n x : Nat} (h : x < 2 ^ n) : (2 ^ n + x).testBit n = true := by
  rw [Nat.testBit_two_pow_add_eq, Nat.testBit_lt_two_pow h]; rfl
theorem okb_cong {e : Nat → Bool} {x y : Nat} : ∀ n, (∀ k, k < n → x.testBit k = y.testBit k) → okb e x n = okb e y n
  | 0, _ => rfl
  | n + 1, h => by rw [okb, okb, okb_cong n (fun k hk => h k (by omega)), h n (by omega)]
theorem ptx_cong {c : Nat} {e : Nat → Bool} {x y : Nat} : ∀ n, (∀ k, k < n → x.testBit k = y.testBit k) → ptx c e x n = ptx c e y n
  | 0, _ => rfl
  | n + 1, h => by rw [ptx, ptx, ptx_cong n (fun k hk => h k (by omega)), h n (by omega)]
theorem Tx_rec {c : Nat} (hc : c ≤ 10) {e s g : Nat → Bool} (n t : Nat) : Tx c e s g (n + 1) t =
    if e n then (if s n then 10 * Tx c e s g n (t - 1) else if g n then c * Tx c e s g n t + (10 - c) * Tx c e s g n (t - 1) else 10 * Tx c e s g n t) else Tx c e s g n t := by
  have h0 : Tx c e s g (n + 1) t = fb_sm (hx c e s g t (n + 1)) (2 ^ n) + fb_sm (fun x => hx c e s g t (n + 1) (2 ^ n + x)) (2 ^ n) := by
    show fb_sm _ (2 ^ (n + 1)) = _
    rw [Nat.pow_succ, Nat.mul_comm, Nat.two_mul, fb_sm_split]
  have lo : ∀ x, x < 2 ^ n → hx c e s g t (n + 1) x = if okb e x n then ptx c e x n * (if e n then 10 - c else 1) * (if t ≤ sxx e s g x n + (if e n && (s n || g n) then 1 else 0) then 1 else 0) else 0 := by
    intro x hxn
    have b : x.testBit n = false := Nat.testBit_lt_two_pow hxn
    unfold hx sxx
    rw [okb, ptx, fb_ct_succ, b]
    simp only [Bool.not_false, Bool.true_or, Bool.and_true, Bool.false_eq_true, if_false]
  have hi : ∀ x, x < 2 ^ n → hx c e s g t (n + 1) (2 ^ n + x) = if okb e x n && e n then ptx c e x n * c * (if t ≤ sxx e s g x n + (if e n && s n then 1 else 0) then 1 else 0) else 0 := by
    intro x hxn
    have b := tb_hi hxn
    have cg : ∀ k, k < n → (2 ^ n + x).testBit k = x.testBit k := fun k hk => tb_lo hk
    unfold hx sxx
    rw [okb, ptx, fb_ct_succ, b, okb_cong n cg, ptx_cong n cg, fb_ct_cong (p := fun k => e k && (s k || (g k && !(2 ^ n + x).testBit k))) (q := fun k => e k && (s k || (g k && !x.testBit k))) (fun k hk => by rw [cg k hk])]
    simp only [Bool.not_true, Bool.false_or, Bool.and_false, Bool.or_false, if_true]
    cases he : e n
    · simp
    · simp
  rw [h0, fb_sm_cong lo, fb_sm_cong hi]
  have z0 : fb_sm (fun _ => 0) (2 ^ n) = 0 := by rw [fb_sm_const, Nat.mul_zero]
  have key : ∀ (a t' : Nat), fb_sm (fun x => if okb e x n then ptx c e x n * a * (if t' ≤ sxx e s g x n then 1 else 0) else 0) (2 ^ n) = a * Tx c e s g n t' := by
    intro a t'
    show _ = a * fb_sm _ _
    rw [← sm_mul]
    refine fb_sm_cong (fun x _ => ?_)
    unfold hx
    split
    · rw [Nat.mul_comm (ptx c e x n) a, Nat.mul_assoc]
    · rfl
  have sub1 : ∀ x : Nat, (t ≤ sxx e s g x n + 1) = (t - 1 ≤ sxx e s g x n) := fun x => propext ⟨fun _ => by omega, fun _ => by omega⟩
  cases he : e n
  · simp only [Bool.false_and, Bool.and_false, Bool.false_eq_true, if_false, Nat.add_zero]
    rw [key 1 t, z0]; omega
  · cases hs : s n
    · cases hg : g n
      · simp only [Bool.and_true, Bool.true_and, Bool.or_false, Bool.false_or, Bool.false_eq_true, if_true, if_false, Nat.add_zero]
        rw [key (10 - c) t, key c t, ← Nat.add_mul]; congr 1; omega
      · simp only [Bool.and_true, Bool.true_and, Bool.or_false, Bool.false_or, Bool.false_eq_true, if_true, if_false, Nat.add_zero, sub1]
        rw [key (10 - c) (t - 1), key c t]; omega
    · simp only [Bool.and_true, Bool.true_and, Bool.true_or, if_true, sub1]
      rw [key (10 - c) (t - 1), key c (t - 1), ← Nat.add_mul]; congr 1; omega
def cS (e s g : Nat → Bool) (n : Nat) : Nat := fb_ct (fun k => e k && s k) n
def cG (e s g : Nat → Bool) (n : Nat) : Nat := fb_ct (fun k => e k && (!s k && g k)) n
def cE (e s g : Nat → Bool) (n : Nat) : Nat := fb_ct (fun k => e k && (s k || !g k)) n
theorem Tx_Af {c : Nat} (hc : c ≤ 10) {e s g : Nat → Bool} : ∀ n t, Tx c e s g n t = 10 ^ cE e s g n * Af c (cG e s g n) (t - cS e s g n)
  | 0, t => by
    show 0 + hx c e s g t 0 0 = 1 * (if t - 0 = 0 then 1 else 0)
    unfold hx okb ptx sxx
    show 0 + (if true = true then 1 * (if t ≤ 0 then 1 else 0) else 0) = 1 * (if t - 0 = 0 then 1 else 0)
    by_cases q : t = 0
    · rw [if_pos rfl, if_pos (by omega), if_pos (by omega)]
    · rw [if_pos rfl, if_neg (by omega), if_neg (by omega)]
  | n + 1, t => by
    rw [Tx_rec hc, Tx_Af hc n t, Tx_Af hc n (t - 1)]
    unfold cE cG cS
    rw [fb_ct_succ, fb_ct_succ, fb_ct_succ]
    cases he : e n
    · simp only [Bool.false_and, Bool.false_eq_true, if_false, Nat.add_zero]
    · cases hs : s n
      · cases hg : g n
        · simp only [Bool.true_and, Bool.not_false, Bool.and_false, Bool.false_or, Bool.or_true, Bool.false_eq_true, if_true, if_false, Nat.add_zero]
          rw [Nat.pow_succ, Nat.mul_comm _ 10, Nat.mul_assoc]
        · simp only [Bool.true_and, Bool.not_false, Bool.and_true, Bool.not_true, Bool.or_false, Bool.false_eq_true, if_true, if_false, Nat.add_zero]
          rw [Af, Nat.mul_add, Nat.mul_left_comm, Nat.mul_left_comm (10 - c), Nat.sub_right_comm]
      · simp only [Bool.true_and, Bool.true_or, Bool.not_true, Bool.false_and, Bool.false_eq_true, if_true, if_false, Nat.add_zero]
        rw [Nat.pow_succ, Nat.mul_comm _ 10, Nat.mul_assoc, Nat.sub_sub, Nat.add_comm 1]
theorem cEG (e s g : Nat → Bool) : ∀ n, cE e s g n + cG e s g n ≤ n
  | 0 => Nat.le_refl 0
  | n + 1 => by
    have ih := cEG e s g n
    unfold cE cG at ih ⊢
    rw [fb_ct_succ, fb_ct_succ]
    cases e n <;> cases s n <;> cases g n <;> simp <;> omega
