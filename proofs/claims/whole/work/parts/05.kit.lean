/-! My own walking kit: mirrors are terms of Option; a walk follows the mirror's equation. -/
def bnd {α β : Type} (a : α) (f : α → β) : β := f a
def jn {α β : Type} (k : α) (f : α → β) : β := f k
def inb (i : Int32) (n : Nat) : Bool := !decide (i < 0) && decide (i.toNatClampNeg < n)
def chk {α : Type} (i : Int32) (n : Nat) (x : Option α) : Option α := if inb i n = true then x else none
def nzI {α : Type} (d : Int32) (x : Option α) : Option α := if d = 0 then none else x
def nzL {α : Type} (d : Int64) (x : Option α) : Option α := if d = 0 then none else x
def zb {α : Type} (r : Int32) (x : Option α) : Option α := if r = 0 ∨ r = 1 then x else none
/-- what an arraycopy of n from sp (of n0 places) to dp (of n1) asks -/
def cpk {α : Type} (sp dp n : Int32) (n0 n1 : Nat) (x : Option α) : Option α := if (¬ sp < 0 ∧ ¬ dp < 0 ∧ ¬ n < 0) ∧ sp.toNatClampNeg + n.toNatClampNeg ≤ n0 ∧ dp.toNatClampNeg + n.toNatClampNeg ≤ n1 then x else none
theorem bnd_e {α β : Type} {e x : α} {f : α → Option β} {o : β} (hx : x = e) (h : bnd e f = some o) : f x = some o := by subst hx; exact h
theorem vp_in_inb {i : Int32} {n : Nat} (h : inb i n = true) : vp_in i n := by
  intro q
  unfold inb at h
  rcases q with q | q
  · simp [q] at h
  · simp at h; omega
theorem chk_e {α : Type} {i : Int32} {n : Nat} {x : Option α} {o : α} (h : chk i n x = some o) : vp_in i n ∧ x = some o := by
  unfold chk at h
  split at h
  · rename_i q; exact ⟨vp_in_inb q, h⟩
  · cases h
theorem nzI_e {α : Type} {d : Int32} {x : Option α} {o : α} (h : nzI d x = some o) : ¬ d = 0 ∧ x = some o := by
  unfold nzI at h
  split at h
  · cases h
  · rename_i q; exact ⟨q, h⟩
theorem nzL_e {α : Type} {d : Int64} {x : Option α} {o : α} (h : nzL d x = some o) : ¬ d = 0 ∧ x = some o := by
  unfold nzL at h
  split at h
  · cases h
  · rename_i q; exact ⟨q, h⟩
theorem zb_e {α : Type} {r : Int32} {x : Option α} {o : α} (h : zb r x = some o) : (r = 0 ∨ r = 1) ∧ x = some o := by
  unfold zb at h
  split at h
  · rename_i q; exact ⟨q, h⟩
  · cases h
theorem cpk_e {α : Type} {sp dp n : Int32} {n0 n1 : Nat} {x : Option α} {o : α} (h : cpk sp dp n n0 n1 x = some o) : ((¬ sp < 0 ∧ ¬ dp < 0 ∧ ¬ n < 0) ∧ sp.toNatClampNeg + n.toNatClampNeg ≤ n0 ∧ dp.toNatClampNeg + n.toNatClampNeg ≤ n1) ∧ x = some o := by
  unfold cpk at h
  split at h
  · rename_i q; exact ⟨q, h⟩
  · cases h
theorem bind_e {α β : Type} {x : Option α} {f : α → Option β} {o : β} (h : x.bind f = some o) : ∃ v, x = some v ∧ f v = some o := by
  cases x with
  | none => cases h
  | some v => exact ⟨v, rfl, h⟩
theorem it_t {α : Type} {c : Prop} [Decidable c] {a b : Option α} {o : α} (hc : c) (h : (if c then a else b) = some o) : a = some o := by rw [if_pos hc] at h; exact h
theorem it_f {α : Type} {c : Prop} [Decidable c] {a b : Option α} {o : α} (hc : ¬ c) (h : (if c then a else b) = some o) : b = some o := by rw [if_neg hc] at h; exact h
theorem jn_e {α β : Type} {K : α} {f : α → Option β} {o : β} (h : jn K f = some o) : ∃ k, k = K ∧ f k = some o := ⟨K, rfl, h⟩
theorem kap {α β : Type} {K : α} (f : α → Option β) {o : β} (h : f K = some o) : ∃ k, k = K ∧ f k = some o := ⟨K, rfl, h⟩
theorem nar_z {r : Int32} (h : r = 0 ∨ r = 1) : narrow .boolean (.int r) = .int r := by rcases h with rfl | rfl <;> decide +kernel
theorem fit_z {r : Int32} (h : r = 0 ∨ r = 1) : fits .boolean (.int r) = true := by rcases h with rfl | rfl <;> decide +kernel
theorem filterMap_of_map {α β : Type} {f : α → Option β} : ∀ {is : List α} {l : List β}, is.map f = l.map some → is.filterMap f = l
  | [], [], _ => rfl
  | [], _ :: _, h => by cases h
  | _ :: _, [], h => by cases h
  | i :: is, x :: l, h => by
    have h1 : f i = some x := (List.cons.inj h).1
    have h2 : is.map f = l.map some := (List.cons.inj h).2
    rw [List.filterMap_cons, h1]
    exact congrArg (x :: ·) (filterMap_of_map h2)
/-- the array classes: int, char, long, Moment, Row -/
abbrev tyU (cy : Nat → ClassId) : List (ClassId × FieldType) := [(cy 0, .int), (cy 1, .char), (cy 2, .long), (cy 3, .object RX0), (cy 4, .object RX4)]
abbrev wsG (y : MethodName) (cc : ByteArray) (n : Nat) (r : Option FieldType) : List Cond := .code y cc n r :: lw_tblG
abbrev rmG (f k : Nat) : Room := { frames := f, cells := 0, slots := 0, locals := k }
def PR (D : va_G) (cy : Nat → ClassId) (av : List Value) (w : va_W) : Array Value → State → Prop := va_Pc av (fun U => va_P D vwCl w U.heap ∧ va_K D vwCl (tyU cy) U)
def QR (v : Option Value) : Array Value → State → Outcome → State → Prop := fun _ st oc t => oc = .returned v ∧ t.heap = st.heap
def PM (D : va_G) (cy : Nat → ClassId) (av : List Value) (sz : Nat) (w : va_W) : Array Value → State → Prop := va_Pc av (fun U => U.heap.size = sz ∧ va_P D vwCl w U.heap ∧ va_K D vwCl (tyU cy) U ∧ va_D (fun _ => True) w)
def QM (D : va_G) (cy : Nat → ClassId) (v : Option Value) (w' : va_W) (A : Nat → Prop) : Array Value → State → Outcome → State → Prop := fun _ st oc t => oc = .returned v ∧ va_P D vwCl w' t.heap ∧ va_K D vwCl (tyU cy) t ∧ va_D A w' ∧ va_F A st t
/-- a reading method's contract, a writing one's -/
abbrev MetR (l : Launch) (D : va_G) (cy : Nat → ClassId) (y : MethodName) (cc : ByteArray) (n : Nat) (r : Option FieldType) (rm : Room) (av : List Value) (w : va_W) (v : Option Value) : Prop := Met l y (wsG y cc n r) rm (PR D cy av w) (QR v) 0 0 (fun _ => False)
abbrev MetM (l : Launch) (D : va_G) (cy : Nat → ClassId) (y : MethodName) (cc : ByteArray) (n : Nat) (r : Option FieldType) (rm : Room) (av : List Value) (sz : Nat) (w : va_W) (v : Option Value) (w' : va_W) : Prop := Met l y (wsG y cc n r) rm (PM D cy av sz w) (QM D cy v w' (va_A w sz)) 0 0 (va_A w sz)
theorem PR_blind (D : va_G) (cy : Nat → ClassId) (av : List Value) (w : va_W) : FrameBlind (PR D cy av w) := fun a U g mk q => ⟨q.1, q.2.1, va_K.moved (u := U) (U := U.calling g mk a) (Vm.Alike.refl U.vm) q.2.2⟩
theorem PM_blind (D : va_G) (cy : Nat → ClassId) (av : List Value) (sz : Nat) (w : va_W) : FrameBlind (PM D cy av sz w) := fun a U g mk q => ⟨q.1, q.2.1, q.2.2.1, va_K.moved (u := U) (U := U.calling g mk a) (Vm.Alike.refl U.vm) q.2.2.2.1, q.2.2.2.2⟩
theorem goodG_in {y : Cond} (hy : y ∈ lw_tblG) : GoodIn lw_tblG (y :: lw_tblG) := fun w hw => by
  rcases List.mem_cons.mp hw with rfl | h
  · exact ⟨hy, goodG hy⟩
  · exact ⟨h, goodG h⟩
abbrev HdG (y : MethodName) (n : Nat) : Prop := y.cls ≠ "java/lang/invoke/MethodHandle" ∧ y.cls ≠ "java/lang/invoke/VarHandle" ∧ (parseMethodDescriptor y.desc).map (fun d => d.parameters.length) = some n
section KS
variable {l : Launch} {D : va_G} {cy : Nat → ClassId} {y : MethodName} {cc : ByteArray} {n : Nat} {ty : FieldType} {rm : Room} {av : List Value} {w w' : va_W} {own : String}
/-- the start of a method that only reads and answers an int -/
theorem startR {v : Option Value} (hy : plainName y.cls = true) (ho : y.cls = own) (hlen : (lg_sl av).length ≤ n)
    (body : ∀ (p : Program) (e : Env) (s : State) (m : MethodId) (below : List Frame) (meth : Method) (c : Code) (QQ : State → Prop), p.tables.exec = Jvm.exec → c.code = cc → c.maxLocals = n → s.vm.findClass own = some m.cls → (∀ w ∈ lw_tblG, w.before av.toArray s = true) → va_K D vwCl (tyU cy) s → va_P D vwCl w s.heap →
      (∀ (r : Int32) (ls : Array Slot) (pc : Nat), decode cc pc = .ok (.ireturn, 1) → narrow ty (.int r) = .int r → some (Value.int r) = v → W p l e rm s m av.toArray below meth c s.heap [] 0 0 QQ (F0 m pc ls [.int r])) →
      ∀ ls : Array Slot, lv_has ls n (lv_args 0 av) → W p l e rm s m av.toArray below meth c s.heap [] 0 0 QQ (F0 m 0 ls [])) :
    MetR l D cy y cc n (some ty) rm av w v := by
  refine Met.ofW (cc := cc) (maxL := n) (ret := some ty) hy rfl ?_
  intro p e s m args below meth c s₁ B hml hv
  obtain ⟨rfl, hP, hK⟩ := hv
  have hts := atoms_spec (ws := wsG y cc n (some ty)) B.pre
  have hl := lv_entry av (n := n) hlen
  rw [lg_entry_eq]
  refine body p e s m below meth c _ B.exec B.bytes hml (ho ▸ findClass_of_methodNamed B.named) (fun w hw => hts w (List.mem_cons_of_mem _ hw)) hK hP (fun r ls pc hd hn hv => ?_) _ hl
  exact W.zret B.exec B.bytes B.returns hn (fun t ht hW => ⟨by rw [hv], ht⟩) (fun q hq => by cases hq) hd B.notSynchronized
/-- the start of a method that writes in its world: an int, nothing, a cell -/
theorem startMi {v : Option Value} {sz : Nat} (hy : plainName y.cls = true) (ho : y.cls = own) (hlen : (lg_sl av).length ≤ n)
    (body : ∀ (p : Program) (e : Env) (s : State) (m : MethodId) (below : List Frame) (meth : Method) (c : Code) (QQ : State → Prop) (A : Nat → Prop), p.tables.exec = Jvm.exec → c.code = cc → c.maxLocals = n → s.vm.findClass own = some m.cls → (∀ w ∈ lw_tblG, w.before av.toArray s = true) → va_K D vwCl (tyU cy) s → va_P D vwCl w s.heap → va_D A w → va_S A s.heap s.heap [] → (∀ q : Nat, s.heap.size ≤ q → A q) →
      (∀ (r : Int32) (w2 : va_W) (H : Heap) (locs : List Loc) (ls : Array Slot) (pc : Nat), decode cc pc = .ok (.ireturn, 1) → narrow ty (.int r) = .int r → some (Value.int r) = v → w2 = w' → va_P D vwCl w2 H → va_D A w2 → va_S A s.heap H locs → W p l e rm s m av.toArray below meth c H locs 0 0 QQ (F0 m pc ls [.int r])) →
      ∀ ls : Array Slot, lv_has ls n (lv_args 0 av) → W p l e rm s m av.toArray below meth c s.heap [] 0 0 QQ (F0 m 0 ls [])) :
    MetM l D cy y cc n (some ty) rm av sz w v w' := by
  refine Met.ofW (cc := cc) (maxL := n) (ret := some ty) hy rfl ?_
  intro p e s m args below meth c s₁ B hml hv
  obtain ⟨rfl, rfl, hP, hK, hD⟩ := hv
  have hts := atoms_spec (ws := wsG y cc n (some ty)) B.pre
  have hl := lv_entry av (n := n) hlen
  rw [lg_entry_eq]
  refine body p e s m below meth c _ (va_A w s.heap.size) B.exec B.bytes hml (ho ▸ findClass_of_methodNamed B.named) (fun w hw => hts w (List.mem_cons_of_mem _ hw)) hK hP hD.self va_S.rf (fun q h => Or.inr h) (fun r w2 H locs ls pc hd hn hv hw hP hD hS => ?_) _ hl
  subst hw
  exact W.zret B.exec B.bytes B.returns hn (fun t ht hW => ⟨by rw [hv], by rw [ht]; exact hP, va_K.moved hW.alike hK, hD, hS.F ht⟩) hS.2.2 hd B.notSynchronized
theorem startMv {sz : Nat} (hy : plainName y.cls = true) (ho : y.cls = own) (hlen : (lg_sl av).length ≤ n)
    (body : ∀ (p : Program) (e : Env) (s : State) (m : MethodId) (below : List Frame) (meth : Method) (c : Code) (QQ : State → Prop) (A : Nat → Prop), p.tables.exec = Jvm.exec → c.code = cc → c.maxLocals = n → s.vm.findClass own = some m.cls → (∀ w ∈ lw_tblG, w.before av.toArray s = true) → va_K D vwCl (tyU cy) s → va_P D vwCl w s.heap → va_D A w → va_S A s.heap s.heap [] → (∀ q : Nat, s.heap.size ≤ q → A q) →
      (∀ (w2 : va_W) (H : Heap) (locs : List Loc) (ls : Array Slot) (pc : Nat), decode cc pc = .ok (.return_, 1) → w2 = w' → va_P D vwCl w2 H → va_D A w2 → va_S A s.heap H locs → W p l e rm s m av.toArray below meth c H locs 0 0 QQ (F0 m pc ls [])) →
      ∀ ls : Array Slot, lv_has ls n (lv_args 0 av) → W p l e rm s m av.toArray below meth c s.heap [] 0 0 QQ (F0 m 0 ls [])) :
    MetM l D cy y cc n none rm av sz w none w' := by
  refine Met.ofW (cc := cc) (maxL := n) (ret := none) hy rfl ?_
  intro p e s m args below meth c s₁ B hml hv
  obtain ⟨rfl, rfl, hP, hK, hD⟩ := hv
  have hts := atoms_spec (ws := wsG y cc n none) B.pre
  have hl := lv_entry av (n := n) hlen
  rw [lg_entry_eq]
  refine body p e s m below meth c _ (va_A w s.heap.size) B.exec B.bytes hml (ho ▸ findClass_of_methodNamed B.named) (fun w hw => hts w (List.mem_cons_of_mem _ hw)) hK hP hD.self va_S.rf (fun q h => Or.inr h) (fun w2 H locs ls pc hd hw hP hD hS => ?_) _ hl
  subst hw
  exact W.vret B.exec B.bytes B.returns (fun t ht hW => ⟨rfl, by rw [ht]; exact hP, va_K.moved hW.alike hK, hD, hS.F ht⟩) hS.2.2 hd B.notSynchronized
theorem startMr {a : Nat} {C : String} {sz : Nat} (hy : plainName y.cls = true) (ho : y.cls = own) (hlen : (lg_sl av).length ≤ n)
    (body : ∀ (p : Program) (e : Env) (s : State) (m : MethodId) (below : List Frame) (meth : Method) (c : Code) (QQ : State → Prop) (A : Nat → Prop), p.tables.exec = Jvm.exec → c.code = cc → c.maxLocals = n → s.vm.findClass own = some m.cls → (∀ w ∈ lw_tblG, w.before av.toArray s = true) → va_K D vwCl (tyU cy) s → va_P D vwCl w s.heap → va_D A w → va_S A s.heap s.heap [] → (∀ q : Nat, s.heap.size ≤ q → A q) →
      (∀ (w2 : va_W) (H : Heap) (locs : List Loc) (ls : Array Slot) (pc : Nat), decode cc pc = .ok (.areturn, 1) → w2 = w' → va_P D vwCl w2 H → va_D A w2 → va_S A s.heap H locs → W p l e rm s m av.toArray below meth c H locs 0 0 QQ (F0 m pc ls [.ref a])) →
      ∀ ls : Array Slot, lv_has ls n (lv_args 0 av) → W p l e rm s m av.toArray below meth c s.heap [] 0 0 QQ (F0 m 0 ls [])) :
    MetM l D cy y cc n (some (.object C)) rm av sz w (some (.ref a)) w' := by
  refine Met.ofW (cc := cc) (maxL := n) (ret := some (.object C)) hy rfl ?_
  intro p e s m args below meth c s₁ B hml hv
  obtain ⟨rfl, rfl, hP, hK, hD⟩ := hv
  have hts := atoms_spec (ws := wsG y cc n (some (.object C))) B.pre
  have hl := lv_entry av (n := n) hlen
  rw [lg_entry_eq]
  refine body p e s m below meth c _ (va_A w s.heap.size) B.exec B.bytes hml (ho ▸ findClass_of_methodNamed B.named) (fun w hw => hts w (List.mem_cons_of_mem _ hw)) hK hP hD.self va_S.rf (fun q h => Or.inr h) (fun w2 H locs ls pc hd hw hP hD hS => ?_) _ hl
  subst hw
  exact W.aret B.exec B.bytes B.returns (Or.inl ⟨_, rfl⟩) (Or.inr ⟨_, rfl⟩) (fun t ht hW => ⟨rfl, by rw [ht]; exact hP, va_K.moved hW.alike hK, hD, hS.F ht⟩) hS.2.2 hd B.notSynchronized
end KS
section KC
variable {p : Program} {l : Launch} {e : Env} {R : Room} {s : State} {m : MethodId} {args : Array Value} {below : List Frame} {meth : Method} {c : Code} {H : Heap} {locs : List Loc} {Q : State → Prop}
variable {cc bytes : ByteArray} {pc nL maxL index n : Nat} {ls : Array Slot} {st0 st1 rest As : List Value} {own C : String} {y : MethodName} {ret : Option FieldType} {rm : Room} {D : va_G} {cy : Nat → ClassId} {b : Nat} {w wc wr w1 w2 : va_W} {A : Nat → Prop} {v : Option Value} {v0 : Value}
theorem cbG (hg : ∀ w ∈ lw_tblG, w.before args s = true) (hcode : Cond.code y bytes maxL ret ∈ lw_tblG) (hl : Cond.methodLink own index y ∈ lw_tblG) (hini : Cond.initialized y.cls ∈ lw_tblG) (hd : HdG y n) (hrc : rm.cells = 0) (hrs : rm.slots = 0) (hR : rm.frames + 1 ≤ R.frames ∧ 8 + (maxL + 11) + rm.locals ≤ R.locals) :
    CallB R s args own index y bytes maxL ret (wsG y bytes maxL ret) rm 0 0 n := callB_of n hg (goodG_in hcode) rfl hrc hrs (hg _ hini) (hg _ hl) hd hR
/-- a call of a reading method, on an object -/
theorem callRV (hx : p.tables.exec = Jvm.exec) (hb : c.code = cc) (hml : c.maxLocals = nL) (hown : s.vm.findClass own = some m.cls) (hg : ∀ w ∈ lw_tblG, w.before args s = true)
    (hM : MetR l D cy y bytes maxL ret rm (.ref b :: As) wc (some v0)) (hcode : Cond.code y bytes maxL ret ∈ lw_tblG) (hl : Cond.methodLink own index y ∈ lw_tblG) (hini : Cond.initialized y.cls ∈ lw_tblG) (hin : Cond.instanceMethod y ∈ lw_tblG) (hse : Cond.selects C y y ∈ lw_tblG) (hd : HdG y n) (hR : rm.frames + 1 ≤ R.frames ∧ 8 + (maxL + 11) + rm.locals ≤ R.locals)
    (hK : va_K D vwCl (tyU cy) s) (hP : va_P D vwCl w H) (isC : List Nat) (hC : isC.filterMap (fun i => w[i]?) = wc) (q0 ci : Nat) {q : vw_C} {fs : List Value} (hc : vwCl[ci]? = some q) (he : w[q0]? = some (b, .inr (ci, fs))) (hq : q.1 = C)
    (hrc : rm.cells = 0) (hrs : rm.slots = 0) (hn : As.length = n) (hsz : ls.size = nL) (hst : st0 = As.reverse ++ .ref b :: rest) (hW : (rest.map fun v => v.category).sum ≤ 8) (hdg : decode cc pc = .ok (.invokevirtual index, 3))
    (kk : W p l e R s m args below meth c H locs 0 0 Q (F0 m (pc + 3) ls (v0 :: rest))) : W p l e R s m args below meth c H locs 0 0 Q (F0 m pc ls st0) := by
  subst hq
  have hPc : va_P D vwCl wc H := hP.sub isC hC
  have hr := W.runV (locs := locs) (cells := 0) (slots := 0) (g := F0 m pc ls st0) (below := below) (meth := meth) (e := e) (rest := rest) (As := As) (b := b) ⟨hx, hb, hml, hown, hg⟩ hM ⟨cbG hg hcode hl hini hd hrc hrs hR, hg _ hin, hg _ hse⟩ ⟨PR_blind D cy _ wc, va_recv hK hP hc he, fun U hU hW => ⟨rfl, by rw [hU]; exact hPc, va_K.moved hW.alike hK⟩⟩ rfl hn hsz hst (by show 2 * 0 + _ ≤ 8; omega) hdg ⟨Nat.zero_le _, Nat.zero_le _⟩
  intro T hT X
  obtain ⟨v', st₀, t, T', L, h0, X', hL, e1, ⟨hv, hh⟩, st⟩ := hr T hT X
  cases hv
  obtain ⟨t2, a1, b1⟩ := kk T' (by rw [e1, hh, h0]) (Stand.forget X' (fun q h => (hL q h).elim))
  exact ⟨t2, st t2 a1, b1⟩
/-- .. and of a static one -/
theorem callRS (hx : p.tables.exec = Jvm.exec) (hb : c.code = cc) (hml : c.maxLocals = nL) (hown : s.vm.findClass own = some m.cls) (hg : ∀ w ∈ lw_tblG, w.before args s = true)
    (hM : MetR l D cy y bytes maxL ret rm As wc (some v0)) (hcode : Cond.code y bytes maxL ret ∈ lw_tblG) (hl : Cond.methodLink own index y ∈ lw_tblG) (hini : Cond.initialized y.cls ∈ lw_tblG) (hin : Cond.static y ∈ lw_tblG) (hd : HdG y n) (hR : rm.frames + 1 ≤ R.frames ∧ 8 + (maxL + 11) + rm.locals ≤ R.locals)
    (hK : va_K D vwCl (tyU cy) s) (hP : va_P D vwCl w H) (isC : List Nat) (hC : isC.filterMap (fun i => w[i]?) = wc)
    (hrc : rm.cells = 0) (hrs : rm.slots = 0) (hn : As.length = n) (hsz : ls.size = nL) (hst : st0 = As.reverse ++ rest) (hW : (rest.map fun v => v.category).sum ≤ 8) (hdg : decode cc pc = .ok (.invokestatic index, 3))
    (kk : W p l e R s m args below meth c H locs 0 0 Q (F0 m (pc + 3) ls (v0 :: rest))) : W p l e R s m args below meth c H locs 0 0 Q (F0 m pc ls st0) := by
  have hPc : va_P D vwCl wc H := hP.sub isC hC
  have hr := W.runS (locs := locs) (cells := 0) (slots := 0) (g := F0 m pc ls st0) (below := below) (meth := meth) (e := e) (rest := rest) (As := As) ⟨hx, hb, hml, hown, hg⟩ hM ⟨cbG hg hcode hl hini hd hrc hrs hR, hg _ hin⟩ ⟨PR_blind D cy _ wc, fun U hU hW => ⟨rfl, by rw [hU]; exact hPc, va_K.moved hW.alike hK⟩⟩ rfl hn hsz hst (by show 2 * 0 + _ ≤ 8; omega) hdg ⟨Nat.zero_le _, Nat.zero_le _⟩
  intro T hT X
  obtain ⟨v', st₀, t, T', L, h0, X', hL, e1, ⟨hv, hh⟩, st⟩ := hr T hT X
  cases hv
  obtain ⟨t2, a1, b1⟩ := kk T' (by rw [e1, hh, h0]) (Stand.forget X' (fun q h => (hL q h).elim))
  exact ⟨t2, st t2 a1, b1⟩
/-- behind a call that wrote in a part of the world -/
theorem joinG {H1 : Heap} (hP : va_P D vwCl w H) (hD : va_D A w) (hS : va_S A s.heap H locs) (hA : ∀ q : Nat, s.heap.size ≤ q → A q) (isC isR : List Nat) (hC : isC.map (fun i => w[i]?) = wc.map some) (hR' : isR.map (fun i => w[i]?) = wr.map some) (hnd : va_nd isR = true) (hdis : ∀ i ∈ isR, i ∉ isC) (perm : List Nat) (hpn : va_nd perm = true) (hp : perm.map (fun i => (wr ++ w1)[i]?) = w2.map some)
    (hk : ∀ q : Nat, q < H.size → ¬ va_A wc H.size q → H1[q]? = H[q]?) (hP1 : va_P D vwCl w1 H1) (hD1 : va_D (va_A wc H.size) w1) : va_P D vwCl w2 H1 ∧ va_D A w2 := by
  obtain ⟨a, b⟩ := va_join hP hD isC isR hC hR' hnd hdis hk (va_free hD hS hA isC hC) hP1 hD1
  exact ⟨a.sub perm (filterMap_of_map hp), b.sub perm hpn hp⟩
/-- a call of a writing method, on an object -/
theorem callMV (hx : p.tables.exec = Jvm.exec) (hb : c.code = cc) (hml : c.maxLocals = nL) (hown : s.vm.findClass own = some m.cls) (hg : ∀ w ∈ lw_tblG, w.before args s = true)
    (hM : MetM l D cy y bytes maxL ret rm (.ref b :: As) H.size wc v w1) (hcode : Cond.code y bytes maxL ret ∈ lw_tblG) (hl : Cond.methodLink own index y ∈ lw_tblG) (hini : Cond.initialized y.cls ∈ lw_tblG) (hin : Cond.instanceMethod y ∈ lw_tblG) (hse : Cond.selects C y y ∈ lw_tblG) (hd : HdG y n) (hR : rm.frames + 1 ≤ R.frames ∧ 8 + (maxL + 11) + rm.locals ≤ R.locals)
    (hK : va_K D vwCl (tyU cy) s) (hP : va_P D vwCl w H) (hD : va_D A w) (hS : va_S A s.heap H locs) (hA : ∀ q : Nat, s.heap.size ≤ q → A q) (isC isR : List Nat) (hC : isC.map (fun i => w[i]?) = wc.map some) (hR' : isR.map (fun i => w[i]?) = wr.map some) (hnd : va_nd isR = true) (hnc : va_nd isC = true) (hdis : ∀ i ∈ isR, i ∉ isC) (perm : List Nat) (hpn : va_nd perm = true) (hp : perm.map (fun i => (wr ++ w1)[i]?) = w2.map some)
    (q0 ci : Nat) {q : vw_C} {fs : List Value} (hc : vwCl[ci]? = some q) (he : w[q0]? = some (b, .inr (ci, fs))) (hq : q.1 = C)
    (hrc : rm.cells = 0) (hrs : rm.slots = 0) (hn : As.length = n) (hsz : ls.size = nL) (hst : st0 = As.reverse ++ .ref b :: rest) (hst1 : v.toList ++ rest = st1) (hW : (rest.map fun v => v.category).sum ≤ 8) (hdg : decode cc pc = .ok (.invokevirtual index, 3))
    (kk : ∀ (H1 : Heap) (locs1 : List Loc), va_P D vwCl w2 H1 → va_D A w2 → va_S A s.heap H1 locs1 → W p l e R s m args below meth c H1 locs1 0 0 Q (F0 m (pc + 3) ls st1)) : W p l e R s m args below meth c H locs 0 0 Q (F0 m pc ls st0) := by
  subst hq
  subst hst1
  have hPc : va_P D vwCl wc H := hP.sub isC (filterMap_of_map hC)
  have hDc := hD.sub isC hnc hC
  have hFc := va_free hD hS hA isC hC
  have hr := va_runV (locs := locs) (cells := 0) (slots := 0) (g := F0 m pc ls st0) (below := below) (meth := meth) (e := e) (rest := rest) (As := As) (b := b) ⟨hx, hb, hml, hown, hg⟩ hM ⟨cbG hg hcode hl hini hd hrc hrs hR, hg _ hin, hg _ hse⟩ ⟨PM_blind D cy _ _ wc, va_recv hK hP hc he, fun U hU hW => ⟨rfl, by rw [hU], by rw [hU]; exact hPc, va_K.moved hW.alike hK, hDc.weaken (fun _ _ _ _ => trivial)⟩⟩ rfl hn hsz hst (by show 2 * 0 + _ ≤ 8; omega) hdg ⟨Nat.zero_le _, Nat.zero_le _⟩
  intro T hT X
  obtain ⟨v', st₀, t, T', L, h0, X', hL, e1, e2, ⟨hv, hP1, hK1, hD1, hz, hk⟩, st⟩ := hr T hT X
  cases hv
  rw [h0] at hz hk
  rw [← e1] at hP1 hz hk
  obtain ⟨hP2, hD2⟩ := joinG hP hD hS hA isC isR hC hR' hnd hdis perm hpn hp hk hP1 hD1
  obtain ⟨t2, a1, b1⟩ := kk T'.heap (locs ++ L) hP2 hD2 ⟨Nat.le_trans hS.1 hz, fun q h1 h2 => (hk q (Nat.lt_of_lt_of_le h1 hS.1) (fun z => h2 (hFc q z))).trans (hS.2.1 q h1 h2), fun q hq => by
    rcases List.mem_append.mp hq with h | h
    · exact hS.2.2 q h
    · exact hFc _ (hL q h)⟩ T' rfl X'
  exact ⟨t2, st t2 a1, b1⟩
/-- .. a static one -/
theorem callMS (hx : p.tables.exec = Jvm.exec) (hb : c.code = cc) (hml : c.maxLocals = nL) (hown : s.vm.findClass own = some m.cls) (hg : ∀ w ∈ lw_tblG, w.before args s = true)
    (hM : MetM l D cy y bytes maxL ret rm As H.size wc v w1) (hcode : Cond.code y bytes maxL ret ∈ lw_tblG) (hl : Cond.methodLink own index y ∈ lw_tblG) (hini : Cond.initialized y.cls ∈ lw_tblG) (hin : Cond.static y ∈ lw_tblG) (hd : HdG y n) (hR : rm.frames + 1 ≤ R.frames ∧ 8 + (maxL + 11) + rm.locals ≤ R.locals)
    (hK : va_K D vwCl (tyU cy) s) (hP : va_P D vwCl w H) (hD : va_D A w) (hS : va_S A s.heap H locs) (hA : ∀ q : Nat, s.heap.size ≤ q → A q) (isC isR : List Nat) (hC : isC.map (fun i => w[i]?) = wc.map some) (hR' : isR.map (fun i => w[i]?) = wr.map some) (hnd : va_nd isR = true) (hnc : va_nd isC = true) (hdis : ∀ i ∈ isR, i ∉ isC) (perm : List Nat) (hpn : va_nd perm = true) (hp : perm.map (fun i => (wr ++ w1)[i]?) = w2.map some)
    (hrc : rm.cells = 0) (hrs : rm.slots = 0) (hn : As.length = n) (hsz : ls.size = nL) (hst : st0 = As.reverse ++ rest) (hst1 : v.toList ++ rest = st1) (hW : (rest.map fun v => v.category).sum ≤ 8) (hdg : decode cc pc = .ok (.invokestatic index, 3))
    (kk : ∀ (H1 : Heap) (locs1 : List Loc), va_P D vwCl w2 H1 → va_D A w2 → va_S A s.heap H1 locs1 → W p l e R s m args below meth c H1 locs1 0 0 Q (F0 m (pc + 3) ls st1)) : W p l e R s m args below meth c H locs 0 0 Q (F0 m pc ls st0) := by
  subst hst1
  have hPc : va_P D vwCl wc H := hP.sub isC (filterMap_of_map hC)
  have hDc := hD.sub isC hnc hC
  have hFc := va_free hD hS hA isC hC
  have hr := va_runS (locs := locs) (cells := 0) (slots := 0) (g := F0 m pc ls st0) (below := below) (meth := meth) (e := e) (rest := rest) (As := As) ⟨hx, hb, hml, hown, hg⟩ hM ⟨cbG hg hcode hl hini hd hrc hrs hR, hg _ hin⟩ ⟨PM_blind D cy _ _ wc, fun U hU hW => ⟨rfl, by rw [hU], by rw [hU]; exact hPc, va_K.moved hW.alike hK, hDc.weaken (fun _ _ _ _ => trivial)⟩⟩ rfl hn hsz hst (by show 2 * 0 + _ ≤ 8; omega) hdg ⟨Nat.zero_le _, Nat.zero_le _⟩
  intro T hT X
  obtain ⟨v', st₀, t, T', L, h0, X', hL, e1, e2, ⟨hv, hP1, hK1, hD1, hz, hk⟩, st⟩ := hr T hT X
  cases hv
  rw [h0] at hz hk
  rw [← e1] at hP1 hz hk
  obtain ⟨hP2, hD2⟩ := joinG hP hD hS hA isC isR hC hR' hnd hdis perm hpn hp hk hP1 hD1
  obtain ⟨t2, a1, b1⟩ := kk T'.heap (locs ++ L) hP2 hD2 ⟨Nat.le_trans hS.1 hz, fun q h1 h2 => (hk q (Nat.lt_of_lt_of_le h1 hS.1) (fun z => h2 (hFc q z))).trans (hS.2.1 q h1 h2), fun q hq => by
    rcases List.mem_append.mp hq with h | h
    · exact hS.2.2 q h
    · exact hFc _ (hL q h)⟩ T' rfl X'
  exact ⟨t2, st t2 a1, b1⟩
end KC
section KU
variable {p : Program} {l : Launch} {e : Env} {R : Room} {s : State} {m : MethodId} {args : Array Value} {below : List Frame} {meth : Method} {c : Code} {H : Heap} {locs : List Loc} {Q : State → Prop}
variable {cc bytes : ByteArray} {pc nL maxL index n : Nat} {ls : Array Slot} {st0 st1 rest As : List Value} {own C owner : String} {x y : MethodName} {ret : Option FieldType} {rm : Room} {D : va_G} {cy : Nat → ClassId} {b : Nat} {w wc wr w1 w2 : va_W} {A : Nat → Prop} {v : Option Value} {v0 : Value}
/-- a call of a writing method that the object's class inherits -/
theorem callMU (hx : p.tables.exec = Jvm.exec) (hb : c.code = cc) (hml : c.maxLocals = nL) (hown : s.vm.findClass own = some m.cls) (hg : ∀ w ∈ lw_tblG, w.before args s = true)
    (hM : MetM l D cy y bytes maxL ret rm (.ref b :: As) H.size wc v w1) (hcode : Cond.code y bytes maxL ret ∈ lw_tblG) (hl : Cond.methodLink own index x ∈ lw_tblG) (hini : Cond.initialized y.cls ∈ lw_tblG) (hin : Cond.instanceMethod y ∈ lw_tblG) (hsm : Cond.sameMethod x.cls owner x.name x.desc ∈ lw_tblG) (hse : Cond.selects C x y ∈ lw_tblG) (hyx : y = ⟨owner, x.name, x.desc⟩) (hd : owner ≠ "java/lang/invoke/MethodHandle" ∧ owner ≠ "java/lang/invoke/VarHandle" ∧ (parseMethodDescriptor x.desc).map (fun d => d.parameters.length) = some n) (hR : rm.frames + 1 ≤ R.frames ∧ 8 + (maxL + 11) + rm.locals ≤ R.locals)
    (hK : va_K D vwCl (tyU cy) s) (hP : va_P D vwCl w H) (hD : va_D A w) (hS : va_S A s.heap H locs) (hA : ∀ q : Nat, s.heap.size ≤ q → A q) (isC isR : List Nat) (hC : isC.map (fun i => w[i]?) = wc.map some) (hR' : isR.map (fun i => w[i]?) = wr.map some) (hnd : va_nd isR = true) (hnc : va_nd isC = true) (hdis : ∀ i ∈ isR, i ∉ isC) (perm : List Nat) (hpn : va_nd perm = true) (hp : perm.map (fun i => (wr ++ w1)[i]?) = w2.map some)
    (q0 ci : Nat) {q : vw_C} {fs : List Value} (hc : vwCl[ci]? = some q) (he : w[q0]? = some (b, .inr (ci, fs))) (hq : q.1 = C)
    (hrc : rm.cells = 0) (hrs : rm.slots = 0) (hn : As.length = n) (hsz : ls.size = nL) (hst : st0 = As.reverse ++ .ref b :: rest) (hst1 : v.toList ++ rest = st1) (hW : (rest.map fun v => v.category).sum ≤ 8) (hdg : decode cc pc = .ok (.invokevirtual index, 3))
    (kk : ∀ (H1 : Heap) (locs1 : List Loc), va_P D vwCl w2 H1 → va_D A w2 → va_S A s.heap H1 locs1 → W p l e R s m args below meth c H1 locs1 0 0 Q (F0 m (pc + 3) ls st1)) : W p l e R s m args below meth c H locs 0 0 Q (F0 m pc ls st0) := by
  subst hq
  subst hst1
  have hPc : va_P D vwCl wc H := hP.sub isC (filterMap_of_map hC)
  have hDc := hD.sub isC hnc hC
  have hFc := va_free hD hS hA isC hC
  have hT : GoodIn lw_tblG (va_wsU own index q.1 owner x y (wsG y bytes maxL ret)) := by
    intro w hw
    rcases List.mem_append.mp hw with h | h
    · rcases List.mem_cons.mp h with rfl | h
      · exact ⟨hl, goodG hl⟩
      rcases List.mem_cons.mp h with rfl | h
      · exact ⟨hsm, goodG hsm⟩
      rcases List.mem_cons.mp h with rfl | h
      · exact ⟨hse, goodG hse⟩
      rcases List.mem_cons.mp h with rfl | h
      · exact ⟨hin, goodG hin⟩
      rcases List.mem_cons.mp h with rfl | h
      · exact ⟨hini, goodG hini⟩
      · cases h
    · exact goodG_in hcode w h
  have hr := va_runU (locs := locs) (cells := 0) (slots := 0) (g := F0 m pc ls st0) (below := below) (meth := meth) (e := e) (rest := rest) (As := As) (b := b) ⟨hx, hb, hml, hown, hg⟩ hM (va_cwU n hg hT rfl hrc hrs hyx hd hR) ⟨PM_blind D cy _ _ wc, va_recv hK hP hc he, fun U hU hW => ⟨rfl, by rw [hU], by rw [hU]; exact hPc, va_K.moved hW.alike hK, hDc.weaken (fun _ _ _ _ => trivial)⟩⟩ rfl hn hsz hst (by show 2 * 0 + _ ≤ 8; omega) hdg ⟨Nat.zero_le _, Nat.zero_le _⟩
  intro T hT X
  obtain ⟨v', st₀, t, T', L, h0, X', hL, e1, e2, ⟨hv, hP1, hK1, hD1, hz, hk⟩, st⟩ := hr T hT X
  cases hv
  rw [h0] at hz hk
  rw [← e1] at hP1 hz hk
  obtain ⟨hP2, hD2⟩ := joinG hP hD hS hA isC isR hC hR' hnd hdis perm hpn hp hk hP1 hD1
  obtain ⟨t2, a1, b1⟩ := kk T'.heap (locs ++ L) hP2 hD2 ⟨Nat.le_trans hS.1 hz, fun q h1 h2 => (hk q (Nat.lt_of_lt_of_le h1 hS.1) (fun z => h2 (hFc q z))).trans (hS.2.1 q h1 h2), fun q hq => by
    rcases List.mem_append.mp hq with h | h
    · exact hS.2.2 q h
    · exact hFc _ (hL q h)⟩ T' rfl X'
  exact ⟨t2, st t2 a1, b1⟩
end KU
