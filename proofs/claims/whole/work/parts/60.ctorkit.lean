/-! ===== CONSTRUCTORS: their contract, and the rows that make cells ===== -/
def nestL : List (String × Nat × MethodName) := [(RX8, 9, yX3_init), (RX3, 3, yX0_init), (RX7, 17, yX0_init), (RX8, 31, yX6_init), (RX6, 17, yX3_init), (RX8, 38, yX1_init), (RX1, 11, yX3_init), (RX8, 45, yX5_init), (RX8, 52, yX2_init), (RX2, 11, yX3_init), (RX8, 63, yX4_init)]
def NW (U : State) : Prop := (∀ q ∈ nestL, va_Nw (.methodLinkNest q.1 q.2.1 q.2.2 RX8) U) ∧ va_AO RX0 U ∧ va_AO RX4 U
theorem NW.warm {s U : State} (hW : s.WarmedH U.vm) (h : NW s) : NW U := ⟨fun q hq => va_Nw.warmM hW (h.1 q hq), h.2.1.moved hW.alike, h.2.2.moved hW.alike⟩
theorem NW.same {u U : State} (hv : u.vm = U.vm) (h : NW u) : NW U := ⟨fun q hq => va_Nw.same rfl hv (h.1 q hq), va_AO.moved (by rw [hv]; exact Vm.Alike.refl _) h.2.1, va_AO.moved (by rw [hv]; exact Vm.Alike.refl _) h.2.2⟩
abbrev rmN (f k mc ms : Nat) : Room := { frames := f, cells := mc, slots := ms, locals := k }
def PN (D : va_G) (cy : Nat → ClassId) (av : List Value) (sz : Nat) (w : va_W) : Array Value → State → Prop := va_Pc av (fun U => U.heap.size = sz ∧ va_P D vwCl w U.heap ∧ va_K D vwCl (tyU cy) U ∧ va_D (fun _ => True) w ∧ NW U)
def QN (D : va_G) (cy : Nat → ClassId) (f : (Nat → Nat) → va_W) (A : Nat → Prop) : Array Value → State → Outcome → State → Prop := fun _ st oc t => oc = .returned none ∧ (∃ ad : Nat → Nat, va_P D vwCl (f ad) t.heap ∧ va_D A (f ad)) ∧ va_K D vwCl (tyU cy) t ∧ va_F A st t
abbrev MetN (l : Launch) (D : va_G) (cy : Nat → ClassId) (y : MethodName) (cc : ByteArray) (n : Nat) (fr lo mc ms : Nat) (av : List Value) (sz : Nat) (w : va_W) (f : (Nat → Nat) → va_W) : Prop := Met l y (wsG y cc n none) (rmN fr lo mc ms) (PN D cy av sz w) (QN D cy f (va_A w sz)) mc ms (va_A w sz)
theorem PN_blind (D : va_G) (cy : Nat → ClassId) (av : List Value) (sz : Nat) (w : va_W) : FrameBlind (PN D cy av sz w) := fun a U g mk q => ⟨q.1, q.2.1, q.2.2.1, va_K.moved (u := U) (U := U.calling g mk a) (Vm.Alike.refl U.vm) q.2.2.2.1, q.2.2.2.2.1, NW.same (u := U) (U := U.calling g mk a) rfl q.2.2.2.2.2⟩
def adL (l : List Nat) (k : Nat) : Nat := l.getD k 0
theorem RA_inj {s : State} {a b : ClassId} {ty : FieldType} (h : va_RA s a ty) (k : va_RA s b ty) : a = b := by
  cases ty <;> simp only [va_RA] at h k
  case object C =>
    obtain ⟨_, _, _, _, _, h4⟩ := h
    obtain ⟨_, _, _, _, _, k4⟩ := k
    exact Option.some.inj (h4.symm.trans k4)
  all_goals exact Option.some.inj (h.symm.trans k)
section KN1
variable {l : Launch} {D : va_G} {cy : Nat → ClassId} {y : MethodName} {cc : ByteArray} {n fr lo mc ms : Nat} {av : List Value} {w : va_W} {f : (Nat → Nat) → va_W} {own : String}
theorem startN {sz : Nat} (hy : plainName y.cls = true) (ho : y.cls = own) (hlen : (lg_sl av).length ≤ n)
    (body : ∀ (p : Program) (e : Env) (s : State) (m : MethodId) (below : List Frame) (meth : Method) (c : Code) (QQ : State → Prop) (A : Nat → Prop), p.tables.exec = Jvm.exec → c.code = cc → c.maxLocals = n → s.vm.findClass own = some m.cls → (∀ w ∈ lw_tblG, w.before av.toArray s = true) → meth.name = y.name → NW s → va_K D vwCl (tyU cy) s → va_P D vwCl w s.heap → va_D A w → va_S A s.heap s.heap [] → (∀ q : Nat, s.heap.size ≤ q → A q) →
      (∀ (ad : Nat → Nat) (w2 : va_W) (H : Heap) (locs : List Loc) (ls : Array Slot) (pc : Nat), decode cc pc = .ok (.return_, 1) → w2 = f ad → va_P D vwCl w2 H → va_D A w2 → va_S A s.heap H locs → W p l e (rmN fr lo mc ms) s m av.toArray below meth c H locs mc ms QQ (F0 m pc ls [])) →
      ∀ ls : Array Slot, lv_has ls n (lv_args 0 av) → W p l e (rmN fr lo mc ms) s m av.toArray below meth c s.heap [] 0 0 QQ (F0 m 0 ls [])) :
    MetN l D cy y cc n fr lo mc ms av sz w f := by
  refine Met.ofW (cc := cc) (maxL := n) (ret := none) hy rfl ?_
  intro p e s m args below meth c s₁ B hml hv
  obtain ⟨rfl, rfl, hP, hK, hD, hN⟩ := hv
  have hts := atoms_spec (ws := wsG y cc n none) B.pre
  have hl := lv_entry av (n := n) hlen
  rw [lg_entry_eq]
  refine body p e s m below meth c _ (va_A w s.heap.size) B.exec B.bytes hml (ho ▸ findClass_of_methodNamed B.named) (fun w hw => hts w (List.mem_cons_of_mem _ hw)) (name_of_methodNamed B.named B.method).1 hN hK hP hD.self va_S.rf (fun q h => Or.inr h) (fun ad w2 H locs ls pc hd hw hP hD hS => ?_) _ hl
  subst hw
  exact W.vret B.exec B.bytes B.returns (fun t ht hW => ⟨rfl, ⟨ad, by rw [ht]; exact hP, hD⟩, va_K.moved hW.alike hK, hS.F ht⟩) hS.2.2 hd B.notSynchronized
end KN1
section KN2
variable {p : Program} {l : Launch} {e : Env} {R : Room} {s : State} {m : MethodId} {args : Array Value} {below : List Frame} {meth : Method} {c : Code} {H : Heap} {locs : List Loc} {cells slots : Nat} {Q : State → Prop}
variable {cc bytes : ByteArray} {pc nL maxL index : Nat} {ls : Array Slot} {st0 rest : List Value} {own : String} {y : MethodName} {fr lo mc ms : Nat} {D : va_G} {cy : Nat → ClassId} {b : Nat} {w wc wr : va_W} {f w2 : (Nat → Nat) → va_W} {A : Nat → Prop}
/-- a new array of numbers, in the class that the tables have -/
theorem newaG (hexec : p.tables.exec = Jvm.exec) (hb : c.code = cc) {atype : ArrayType} (harr : (Cond.arrayClass (newarray.typeOf atype)).before args s = true) {ty : FieldType} (hty : newarray.typeOf atype = ty) (hK : va_K D vwCl (tyU cy) s) (hP : va_P D vwCl w H) (hD : va_D A w) (hS : va_S A s.heap H locs) (hA : ∀ q : Nat, s.heap.size ≤ q → A q) (t0 : Nat) {cA : ClassId} (ht : (tyU cy)[t0]? = some (cA, ty))
    {n : Int32} {N' : Nat} {a0 : vp_A} (ha : ∀ cA : ClassId, vp_cell cA a0 = arrV cA N' (fun _ => defaultValue ty)) (hn : ¬ n < 0) (hN : n.toNatClampNeg = N') (hbytes : N' * componentBytes ty ≤ 536870912) (hcells : cells + 1 ≤ R.cells) (hslots : slots + N' ≤ R.slots) (hdg : decode cc pc = .ok (.newarray atype, 2))
    (kk : ∀ (q : Nat) (H1 : Heap), va_P D vwCl (w ++ [(q, .inl (cA, a0))]) H1 → va_D A (w ++ [(q, .inl (cA, a0))]) → va_S A s.heap H1 locs → W p l e R s m args below meth c H1 locs (cells + 1) (slots + N') Q (F0 m (pc + 2) ls (.ref q :: rest))) : W p l e R s m args below meth c H locs cells slots Q (F0 m pc ls (.int n :: rest)) := by
  refine va_newa hexec hb harr hty hK hP hD hS hA ha hn hN hbytes hcells hslots hdg (fun q cB H1 hK1 hP1 hD1 hS1 => ?_)
  have e1 : cA = cB := RA_inj (hK.2 t0 _ ht).2 (hK1.2 5 (cB, ty) rfl).2
  subst e1
  exact kk q H1 hP1 hD1 hS1
/-- .. of references -/
theorem newqG (hexec : p.tables.exec = Jvm.exec) (hb : c.code = cc) {C : String} (hown : s.vm.findClass own = some m.cls) (hclink : (Cond.classLink own index C).before args s = true) (hover : va_AO C s) (hK : va_K D vwCl (tyU cy) s) (hP : va_P D vwCl w H) (hD : va_D A w) (hS : va_S A s.heap H locs) (hA : ∀ q : Nat, s.heap.size ≤ q → A q) (t0 : Nat) {cA : ClassId} (ht : (tyU cy)[t0]? = some (cA, .object C))
    {n : Int32} {N' : Nat} (hn : ¬ n < 0) (hN : n.toNatClampNeg = N') (hbytes : N' * 4 ≤ 536870912) (hcells : cells + 1 ≤ R.cells) (hslots : slots + N' ≤ R.slots) (hdg : decode cc pc = .ok (.anewarray index, 3))
    (kk : ∀ (q : Nat) (H1 : Heap), va_P D vwCl (w ++ [(q, .inl (cA, N', .inr (.inr (.inr (.inr (fun _ => none))))))]) H1 → va_D A (w ++ [(q, .inl (cA, N', .inr (.inr (.inr (.inr (fun _ => none))))))]) → va_S A s.heap H1 locs → W p l e R s m args below meth c H1 locs (cells + 1) (slots + N') Q (F0 m (pc + 3) ls (.ref q :: rest))) : W p l e R s m args below meth c H locs cells slots Q (F0 m pc ls (.int n :: rest)) := by
  refine va_newq hexec hb hown hclink hover hK hP hD hS hA hn hN hbytes hcells hslots hdg (fun q cB H1 hK1 hP1 hD1 hS1 => ?_)
  have e1 : cA = cB := RA_inj (hK.2 t0 _ ht).2 (hK1.2 5 (cB, .object C) rfl).2
  subst e1
  exact kk q H1 hP1 hD1 hS1
/-- what a row of references holds behind its end is nothing's business -/
theorem rowG (q0 : Nat) {a : Nat} {cA : ClassId} {n : Nat} {g h : Nat → Option Nat} (hP : va_P D vwCl w H) (he : w[q0]? = some (a, .inl (cA, n, .inr (.inr (.inr (.inr g)))))) (hgh : ∀ j, j < n → g j = h j) : va_P D vwCl (w.set q0 (a, .inl (cA, n, .inr (.inr (.inr (.inr h)))))) H := by
  intro k x hx
  by_cases hk : q0 = k
  · subst hk
    rw [List.getElem?_set_self (List.getElem?_eq_some_iff.mp he).1] at hx
    cases hx
    have h1 : H[a]? = some (arrV cA n (fun j => va_rf (g j))) := hP q0 _ he
    show H[a]? = some (arrV cA n (fun j => va_rf (h j)))
    rw [h1]
    unfold arrV
    congr 2
    congr 1
    funext j
    exact congrArg va_rf (hgh j.1 j.2)
  · rw [List.getElem?_set_ne hk] at hx
    exact hP k x hx
theorem rowD (q0 : Nat) {a : Nat} {x y : va_E} (hD : va_D A w) (he : w[q0]? = some (a, x)) : va_D A (w.set q0 (a, y)) := hD.set he
/-- a call of a constructor: by the nest, and by its link -/
theorem callN0 (hr : va_Run p l e R s m args below meth c H locs cells slots mc ms (F0 m pc ls st0) rest (QN D cy f (va_A wc H.size) args) (va_A wc H.size)) (hP : va_P D vwCl w H) (hD : va_D A w) (hS : va_S A s.heap H locs) (hA : ∀ q : Nat, s.heap.size ≤ q → A q) (isC isR : List Nat) (hC : isC.map (fun i => w[i]?) = wc.map some) (hR' : isR.map (fun i => w[i]?) = wr.map some) (hnd : va_nd isR = true) (hdis : ∀ i ∈ isR, i ∉ isC) (perm : List Nat) (hpn : va_nd perm = true) (hp : ∀ ad, perm.map (fun i => (wr ++ f ad)[i]?) = (w2 ad).map some)
    (kk : ∀ (ad : Nat → Nat) (H1 : Heap) (locs1 : List Loc), va_P D vwCl (w2 ad) H1 → va_D A (w2 ad) → va_S A s.heap H1 locs1 → W p l e R s m args below meth c H1 locs1 (cells + mc) (slots + ms) Q (F0 m (pc + 3) ls rest)) : W p l e R s m args below meth c H locs cells slots Q (F0 m pc ls st0) := by
  have hFc := va_free hD hS hA isC hC
  intro T hT X
  obtain ⟨v', st₀, t, T', L, h0, X', hL, e1, e2, ⟨hv, ⟨ad, hP1, hD1⟩, hK1, hz, hk⟩, st⟩ := hr T hT X
  cases hv
  rw [h0] at hz hk
  rw [← e1] at hP1 hz hk
  obtain ⟨hP2, hD2⟩ := joinG hP hD hS hA isC isR hC hR' hnd hdis perm hpn (hp ad) hk hP1 hD1
  obtain ⟨t2, a1, b1⟩ := kk ad T'.heap (locs ++ L) hP2 hD2 ⟨Nat.le_trans hS.1 hz, fun q h1 h2 => (hk q (Nat.lt_of_lt_of_le h1 hS.1) (fun z => h2 (hFc q z))).trans (hS.2.1 q h1 h2), fun q hq => by
    rcases List.mem_append.mp hq with h | h
    · exact hS.2.2 q h
    · exact hFc _ (hL q h)⟩ T' rfl X'
  exact ⟨t2, st t2 a1, b1⟩
theorem callNN (hx : p.tables.exec = Jvm.exec) (hb : c.code = cc) (hml : c.maxLocals = nL) (hown : s.vm.findClass own = some m.cls) (hg : ∀ w ∈ lw_tblG, w.before args s = true) (hN : NW s)
    (hM : MetN l D cy y bytes maxL fr lo mc ms [.ref b] H.size wc f) (hcode : Cond.code y bytes maxL none ∈ lw_tblG) (hl : (own, index, y) ∈ nestL) (hini : Cond.initialized y.cls ∈ lw_tblG) (hin : Cond.instanceMethod y ∈ lw_tblG) (hyn : y.name = "<init>") (hd : HdG y 0) (hR : fr + 1 ≤ R.frames ∧ 8 + (maxL + 11) + lo ≤ R.locals) (hroom : cells + mc ≤ R.cells ∧ slots + ms ≤ R.slots)
    (hK : va_K D vwCl (tyU cy) s) (hP : va_P D vwCl w H) (hD : va_D A w) (hS : va_S A s.heap H locs) (hA : ∀ q : Nat, s.heap.size ≤ q → A q) (isC isR : List Nat) (hC : isC.map (fun i => w[i]?) = wc.map some) (hR' : isR.map (fun i => w[i]?) = wr.map some) (hnd : va_nd isR = true) (hnc : va_nd isC = true) (hdis : ∀ i ∈ isR, i ∉ isC) (perm : List Nat) (hpn : va_nd perm = true) (hp : ∀ ad, perm.map (fun i => (wr ++ f ad)[i]?) = (w2 ad).map some)
    (hsz : ls.size = nL) (hst : st0 = .ref b :: rest) (hW : (rest.map fun v => v.category).sum ≤ 8) (hdg : decode cc pc = .ok (.invokespecial index, 3))
    (kk : ∀ (ad : Nat → Nat) (H1 : Heap) (locs1 : List Loc), va_P D vwCl (w2 ad) H1 → va_D A (w2 ad) → va_S A s.heap H1 locs1 → W p l e R s m args below meth c H1 locs1 (cells + mc) (slots + ms) Q (F0 m (pc + 3) ls rest)) : W p l e R s m args below meth c H locs cells slots Q (F0 m pc ls st0) := by
  have hPc : va_P D vwCl wc H := hP.sub isC (filterMap_of_map hC)
  have hDc := hD.sub isC hnc hC
  refine callN0 (va_runIN (As := []) (b := b) (host := RX8) ⟨hx, hb, hml, hown, hg⟩ hM ⟨va_cnB 0 hg (goodG_in hcode) rfl rfl rfl (hN.1 _ hl) (hg _ hini) hd hR, hyn, hg _ hin⟩ ⟨PN_blind D cy _ _ wc, fun U hU hW => ⟨rfl, by rw [hU], by rw [hU]; exact hPc, va_K.moved hW.alike hK, hDc.weaken (fun _ _ _ _ => trivial), NW.warm hW hN⟩⟩ rfl rfl hsz hst (by show 2 * 0 + _ ≤ 8; omega) hdg hroom) hP hD hS hA isC isR hC hR' hnd hdis perm hpn hp kk
theorem callNI (hx : p.tables.exec = Jvm.exec) (hb : c.code = cc) (hml : c.maxLocals = nL) (hown : s.vm.findClass own = some m.cls) (hg : ∀ w ∈ lw_tblG, w.before args s = true) (hN : NW s)
    (hM : MetN l D cy y bytes maxL fr lo mc ms [.ref b] H.size wc f) (hcode : Cond.code y bytes maxL none ∈ lw_tblG) (hl : Cond.methodLink own index y ∈ lw_tblG) (hini : Cond.initialized y.cls ∈ lw_tblG) (hin : Cond.instanceMethod y ∈ lw_tblG) (hyn : y.name = "<init>") (hd : HdG y 0) (hR : fr + 1 ≤ R.frames ∧ 8 + (maxL + 11) + lo ≤ R.locals) (hroom : cells + mc ≤ R.cells ∧ slots + ms ≤ R.slots)
    (hK : va_K D vwCl (tyU cy) s) (hP : va_P D vwCl w H) (hD : va_D A w) (hS : va_S A s.heap H locs) (hA : ∀ q : Nat, s.heap.size ≤ q → A q) (isC isR : List Nat) (hC : isC.map (fun i => w[i]?) = wc.map some) (hR' : isR.map (fun i => w[i]?) = wr.map some) (hnd : va_nd isR = true) (hnc : va_nd isC = true) (hdis : ∀ i ∈ isR, i ∉ isC) (perm : List Nat) (hpn : va_nd perm = true) (hp : ∀ ad, perm.map (fun i => (wr ++ f ad)[i]?) = (w2 ad).map some)
    (hsz : ls.size = nL) (hst : st0 = .ref b :: rest) (hW : (rest.map fun v => v.category).sum ≤ 8) (hdg : decode cc pc = .ok (.invokespecial index, 3))
    (kk : ∀ (ad : Nat → Nat) (H1 : Heap) (locs1 : List Loc), va_P D vwCl (w2 ad) H1 → va_D A (w2 ad) → va_S A s.heap H1 locs1 → W p l e R s m args below meth c H1 locs1 (cells + mc) (slots + ms) Q (F0 m (pc + 3) ls rest)) : W p l e R s m args below meth c H locs cells slots Q (F0 m pc ls st0) := by
  have hPc : va_P D vwCl wc H := hP.sub isC (filterMap_of_map hC)
  have hDc := hD.sub isC hnc hC
  refine callN0 (va_runI (As := []) (b := b) ⟨hx, hb, hml, hown, hg⟩ hM ⟨callB_of 0 hg (goodG_in hcode) rfl rfl rfl (hg _ hini) (hg _ hl) hd hR, hyn, hg _ hin⟩ ⟨PN_blind D cy _ _ wc, fun U hU hW => ⟨rfl, by rw [hU], by rw [hU]; exact hPc, va_K.moved hW.alike hK, hDc.weaken (fun _ _ _ _ => trivial), NW.warm hW hN⟩⟩ rfl rfl hsz hst (by show 2 * 0 + _ ≤ 8; omega) hdg hroom) hP hD hS hA isC isR hC hR' hnd hdis perm hpn hp kk
end KN2
