/-! The text constant "plgdv" and String's own code over it. -/
def CSt (ka kv : Nat) (A : Nat → Prop) (U : State) (H : Heap) : Prop :=
  vk_R RX6 87 "plgdv" ka U ∧ va_Z "java/lang/String" "COMPACT_STRINGS" "Z" (.int 1) A U H ∧ va_O "java/lang/String" ka A U H ∧ va_OF "java/lang/String" "coder" "B" (.int 0) ka A U H ∧ va_OF "java/lang/String" "value" "[B" (.ref kv) ka A U H ∧ va_T .byte kv 5 (fun j => .int (([112, 108, 103, 100, 118] : List Int32).getD j 0)) A U H
theorem CSt.kept {ka kv : Nat} {A : Nat → Prop} {U : State} {H H1 : Heap} (h : CSt ka kv A U H) (hq : ∀ a : Nat, a < H.size → ¬ A a → H1[a]? = H[a]?) : CSt ka kv A U H1 := ⟨h.1, h.2.1.kept hq, h.2.2.1.kept hq, h.2.2.2.1.kept hq, h.2.2.2.2.1.kept hq, h.2.2.2.2.2.kept hq⟩
theorem CSt.narrow {ka kv : Nat} {A B : Nat → Prop} {U : State} {H : Heap} (h : CSt ka kv A U H) (hAB : ∀ q, B q → A q) : CSt ka kv B U H := ⟨h.1, h.2.1.narrow hAB, h.2.2.1.narrow hAB, h.2.2.2.1.narrow hAB, h.2.2.2.2.1.narrow hAB, h.2.2.2.2.2.narrow hAB⟩
theorem CSt.warm {ka kv : Nat} {A : Nat → Prop} {s U : State} {H : Heap} (hW : s.WarmedH U.vm) (h : CSt ka kv A s H) : CSt ka kv A U H := ⟨vk_R.warm hW h.1, h.2.1.moved hW.alike, va_O.moved hW.alike h.2.2.1, va_OF.moved hW.alike h.2.2.2.1, va_OF.moved hW.alike h.2.2.2.2.1, va_T.moved hW.alike h.2.2.2.2.2⟩
theorem CSt.same {ka kv : Nat} {A : Nat → Prop} {u U : State} {H : Heap} (hv : U.vm = u.vm) (h : CSt ka kv A u H) : CSt ka kv A U H := by
  have ha : u.vm.Alike U.vm := by rw [hv]; exact Vm.Alike.refl _
  exact ⟨vk_R.same hv h.1, h.2.1.moved ha, va_O.moved ha h.2.2.1, va_OF.moved ha h.2.2.2.1, va_OF.moved ha h.2.2.2.2.1, va_T.moved ha h.2.2.2.2.2⟩
/-- a method of String's that only reads the constant -/
def PC (ka kv : Nat) (av : List Value) : Array Value → State → Prop := va_Pc av (fun U => CSt ka kv (fun _ => False) U U.heap)
abbrev MetC (l : Launch) (ka kv : Nat) (y : MethodName) (cc : ByteArray) (n : Nat) (r : Option FieldType) (rm : Room) (av : List Value) (v : Option Value) : Prop := Met l y (wsG y cc n r) rm (PC ka kv av) (QR v) 0 0 (fun _ => False)
theorem PC_blind (ka kv : Nat) (av : List Value) : FrameBlind (PC ka kv av) := fun a U g mk q => ⟨q.1, CSt.same (u := U) (U := U.calling g mk a) rfl q.2⟩
/-- a writing method beside the constant -/
def PMc (D : va_G) (cy : Nat → ClassId) (ka kv : Nat) (av : List Value) (sz : Nat) (w : va_W) : Array Value → State → Prop := va_Pc av (fun U => (U.heap.size = sz ∧ va_P D vwCl w U.heap ∧ va_K D vwCl (tyU cy) U ∧ va_D (fun _ => True) w) ∧ CSt ka kv (va_A w sz) U U.heap)
abbrev MetMc (l : Launch) (D : va_G) (cy : Nat → ClassId) (ka kv : Nat) (y : MethodName) (cc : ByteArray) (n : Nat) (r : Option FieldType) (rm : Room) (av : List Value) (sz : Nat) (w : va_W) (v : Option Value) (w' : va_W) : Prop := Met l y (wsG y cc n r) rm (PMc D cy ka kv av sz w) (QM D cy v w' (va_A w sz)) 0 0 (va_A w sz)
theorem PMc_blind (D : va_G) (cy : Nat → ClassId) (ka kv : Nat) (av : List Value) (sz : Nat) (w : va_W) : FrameBlind (PMc D cy ka kv av sz w) := fun a U g mk q => ⟨q.1, ⟨q.2.1.1, q.2.1.2.1, va_K.moved (u := U) (U := U.calling g mk a) (Vm.Alike.refl U.vm) q.2.1.2.2.1, q.2.1.2.2.2⟩, CSt.same (u := U) (U := U.calling g mk a) rfl q.2.2⟩
section KSS
variable {l : Launch} {D : va_G} {cy : Nat → ClassId} {y : MethodName} {cc : ByteArray} {n : Nat} {ty : FieldType} {rm : Room} {av : List Value} {w w' : va_W} {own : String} {ka kv : Nat}
theorem startC {v : Option Value} (hy : plainName y.cls = true) (ho : y.cls = own) (hlen : (lg_sl av).length ≤ n)
    (body : ∀ (p : Program) (e : Env) (s : State) (m : MethodId) (below : List Frame) (meth : Method) (c : Code) (QQ : State → Prop), p.tables.exec = Jvm.exec → c.code = cc → c.maxLocals = n → s.vm.findClass own = some m.cls → (∀ w ∈ lw_tblG, w.before av.toArray s = true) → CSt ka kv (fun _ => False) s s.heap →
      (∀ (r : Int32) (ls : Array Slot) (pc : Nat), decode cc pc = .ok (.ireturn, 1) → narrow ty (.int r) = .int r → some (Value.int r) = v → W p l e rm s m av.toArray below meth c s.heap [] 0 0 QQ (F0 m pc ls [.int r])) →
      ∀ ls : Array Slot, lv_has ls n (lv_args 0 av) → W p l e rm s m av.toArray below meth c s.heap [] 0 0 QQ (F0 m 0 ls [])) :
    MetC l ka kv y cc n (some ty) rm av v := by
  refine Met.ofW (cc := cc) (maxL := n) (ret := some ty) hy rfl ?_
  intro p e s m args below meth c s₁ B hml hv
  obtain ⟨rfl, hC⟩ := hv
  have hts := atoms_spec (ws := wsG y cc n (some ty)) B.pre
  have hl := lv_entry av (n := n) hlen
  rw [lg_entry_eq]
  refine body p e s m below meth c _ B.exec B.bytes hml (ho ▸ findClass_of_methodNamed B.named) (fun w hw => hts w (List.mem_cons_of_mem _ hw)) hC (fun r ls pc hd hn hv => ?_) _ hl
  exact W.zret B.exec B.bytes B.returns hn (fun t ht hW => ⟨by rw [hv], ht⟩) (fun q hq => by cases hq) hd B.notSynchronized
theorem startMic {v : Option Value} {sz : Nat} (hy : plainName y.cls = true) (ho : y.cls = own) (hlen : (lg_sl av).length ≤ n)
    (body : ∀ (p : Program) (e : Env) (s : State) (m : MethodId) (below : List Frame) (meth : Method) (c : Code) (QQ : State → Prop) (A : Nat → Prop), p.tables.exec = Jvm.exec → c.code = cc → c.maxLocals = n → s.vm.findClass own = some m.cls → (∀ w ∈ lw_tblG, w.before av.toArray s = true) → CSt ka kv A s s.heap → va_K D vwCl (tyU cy) s → va_P D vwCl w s.heap → va_D A w → va_S A s.heap s.heap [] → (∀ q : Nat, s.heap.size ≤ q → A q) →
      (∀ (r : Int32) (w2 : va_W) (H : Heap) (locs : List Loc) (ls : Array Slot) (pc : Nat), decode cc pc = .ok (.ireturn, 1) → narrow ty (.int r) = .int r → some (Value.int r) = v → w2 = w' → va_P D vwCl w2 H → va_D A w2 → va_S A s.heap H locs → W p l e rm s m av.toArray below meth c H locs 0 0 QQ (F0 m pc ls [.int r])) →
      ∀ ls : Array Slot, lv_has ls n (lv_args 0 av) → W p l e rm s m av.toArray below meth c s.heap [] 0 0 QQ (F0 m 0 ls [])) :
    MetMc l D cy ka kv y cc n (some ty) rm av sz w v w' := by
  refine Met.ofW (cc := cc) (maxL := n) (ret := some ty) hy rfl ?_
  intro p e s m args below meth c s₁ B hml hv
  obtain ⟨rfl, ⟨rfl, hP, hK, hD⟩, hC⟩ := hv
  have hts := atoms_spec (ws := wsG y cc n (some ty)) B.pre
  have hl := lv_entry av (n := n) hlen
  rw [lg_entry_eq]
  refine body p e s m below meth c _ (va_A w s.heap.size) B.exec B.bytes hml (ho ▸ findClass_of_methodNamed B.named) (fun w hw => hts w (List.mem_cons_of_mem _ hw)) hC hK hP hD.self va_S.rf (fun q h => Or.inr h) (fun r w2 H locs ls pc hd hn hv hw hP hD hS => ?_) _ hl
  subst hw
  exact W.zret B.exec B.bytes B.returns hn (fun t ht hW => ⟨by rw [hv], by rw [ht]; exact hP, va_K.moved hW.alike hK, hD, hS.F ht⟩) hS.2.2 hd B.notSynchronized
theorem startMvc {sz : Nat} (hy : plainName y.cls = true) (ho : y.cls = own) (hlen : (lg_sl av).length ≤ n)
    (body : ∀ (p : Program) (e : Env) (s : State) (m : MethodId) (below : List Frame) (meth : Method) (c : Code) (QQ : State → Prop) (A : Nat → Prop), p.tables.exec = Jvm.exec → c.code = cc → c.maxLocals = n → s.vm.findClass own = some m.cls → (∀ w ∈ lw_tblG, w.before av.toArray s = true) → CSt ka kv A s s.heap → va_K D vwCl (tyU cy) s → va_P D vwCl w s.heap → va_D A w → va_S A s.heap s.heap [] → (∀ q : Nat, s.heap.size ≤ q → A q) →
      (∀ (w2 : va_W) (H : Heap) (locs : List Loc) (ls : Array Slot) (pc : Nat), decode cc pc = .ok (.return_, 1) → w2 = w' → va_P D vwCl w2 H → va_D A w2 → va_S A s.heap H locs → W p l e rm s m av.toArray below meth c H locs 0 0 QQ (F0 m pc ls [])) →
      ∀ ls : Array Slot, lv_has ls n (lv_args 0 av) → W p l e rm s m av.toArray below meth c s.heap [] 0 0 QQ (F0 m 0 ls [])) :
    MetMc l D cy ka kv y cc n none rm av sz w none w' := by
  refine Met.ofW (cc := cc) (maxL := n) (ret := none) hy rfl ?_
  intro p e s m args below meth c s₁ B hml hv
  obtain ⟨rfl, ⟨rfl, hP, hK, hD⟩, hC⟩ := hv
  have hts := atoms_spec (ws := wsG y cc n none) B.pre
  have hl := lv_entry av (n := n) hlen
  rw [lg_entry_eq]
  refine body p e s m below meth c _ (va_A w s.heap.size) B.exec B.bytes hml (ho ▸ findClass_of_methodNamed B.named) (fun w hw => hts w (List.mem_cons_of_mem _ hw)) hC hK hP hD.self va_S.rf (fun q h => Or.inr h) (fun w2 H locs ls pc hd hw hP hD hS => ?_) _ hl
  subst hw
  exact W.vret B.exec B.bytes B.returns (fun t ht hW => ⟨rfl, by rw [ht]; exact hP, va_K.moved hW.alike hK, hD, hS.F ht⟩) hS.2.2 hd B.notSynchronized
end KSS
section KCS
variable {p : Program} {l : Launch} {e : Env} {R : Room} {s : State} {m : MethodId} {args : Array Value} {below : List Frame} {meth : Method} {c : Code} {H : Heap} {locs : List Loc} {Q : State → Prop}
variable {cc bytes : ByteArray} {pc nL maxL index n : Nat} {ls : Array Slot} {st0 st1 rest As : List Value} {own C : String} {y : MethodName} {ret : Option FieldType} {rm : Room} {D : va_G} {cy : Nat → ClassId} {b ka kv : Nat} {w wc wr w1 w2 : va_W} {A : Nat → Prop} {v : Option Value} {v0 : Value}
/-- a call on the constant -/
theorem callCV (hx : p.tables.exec = Jvm.exec) (hb : c.code = cc) (hml : c.maxLocals = nL) (hown : s.vm.findClass own = some m.cls) (hg : ∀ w ∈ lw_tblG, w.before args s = true)
    (hM : MetC l ka kv y bytes maxL ret rm (.ref ka :: As) (some v0)) (hcode : Cond.code y bytes maxL ret ∈ lw_tblG) (hl : Cond.methodLink own index y ∈ lw_tblG) (hini : Cond.initialized y.cls ∈ lw_tblG) (hin : Cond.instanceMethod y ∈ lw_tblG) (hse : Cond.selects "java/lang/String" y y ∈ lw_tblG) (hd : HdG y n) (hR : rm.frames + 1 ≤ R.frames ∧ 8 + (maxL + 11) + rm.locals ≤ R.locals)
    (hC : CSt ka kv A s s.heap) (hS : va_S A s.heap H locs)
    (hrc : rm.cells = 0) (hrs : rm.slots = 0) (hn : As.length = n) (hsz : ls.size = nL) (hst : st0 = As.reverse ++ .ref ka :: rest) (hW : (rest.map fun v => v.category).sum ≤ 8) (hdg : decode cc pc = .ok (.invokevirtual index, 3))
    (kk : W p l e R s m args below meth c H locs 0 0 Q (F0 m (pc + 3) ls (v0 :: rest))) : W p l e R s m args below meth c H locs 0 0 Q (F0 m pc ls st0) := by
  have hC1 := hC.kept hS.2.1
  have hC2 : CSt ka kv (fun _ => False) s H := hC1.narrow (fun _ h => h.elim)
  have hr := W.runV (locs := locs) (cells := 0) (slots := 0) (g := F0 m pc ls st0) (below := below) (meth := meth) (e := e) (rest := rest) (As := As) (b := ka) ⟨hx, hb, hml, hown, hg⟩ hM ⟨cbG hg hcode hl hini hd hrc hrs hR, hg _ hin, hg _ hse⟩ ⟨PC_blind ka kv _, by obtain ⟨cell, h1, h2, h3, -⟩ := hC1.2.2.1; exact ⟨cell, h1, h2, h3⟩, fun U hU hW => ⟨rfl, by show CSt ka kv _ U U.heap; rw [hU]; exact hC2.warm hW⟩⟩ rfl hn hsz hst (by show 2 * 0 + _ ≤ 8; omega) hdg ⟨Nat.zero_le _, Nat.zero_le _⟩
  intro T hT X
  obtain ⟨v', st₀, t, T', L, h0, X', hL, e1, ⟨hv, hh⟩, st⟩ := hr T hT X
  cases hv
  obtain ⟨t2, a1, b1⟩ := kk T' (by rw [e1, hh, h0]) (Stand.forget X' (fun q h => (hL q h).elim))
  exact ⟨t2, st t2 a1, b1⟩
theorem callCS (hx : p.tables.exec = Jvm.exec) (hb : c.code = cc) (hml : c.maxLocals = nL) (hown : s.vm.findClass own = some m.cls) (hg : ∀ w ∈ lw_tblG, w.before args s = true)
    (hM : MetC l ka kv y bytes maxL ret rm As (some v0)) (hcode : Cond.code y bytes maxL ret ∈ lw_tblG) (hl : Cond.methodLink own index y ∈ lw_tblG) (hini : Cond.initialized y.cls ∈ lw_tblG) (hin : Cond.static y ∈ lw_tblG) (hd : HdG y n) (hR : rm.frames + 1 ≤ R.frames ∧ 8 + (maxL + 11) + rm.locals ≤ R.locals)
    (hC : CSt ka kv A s s.heap) (hS : va_S A s.heap H locs)
    (hrc : rm.cells = 0) (hrs : rm.slots = 0) (hn : As.length = n) (hsz : ls.size = nL) (hst : st0 = As.reverse ++ rest) (hW : (rest.map fun v => v.category).sum ≤ 8) (hdg : decode cc pc = .ok (.invokestatic index, 3))
    (kk : W p l e R s m args below meth c H locs 0 0 Q (F0 m (pc + 3) ls (v0 :: rest))) : W p l e R s m args below meth c H locs 0 0 Q (F0 m pc ls st0) := by
  have hC1 := hC.kept hS.2.1
  have hC2 : CSt ka kv (fun _ => False) s H := hC1.narrow (fun _ h => h.elim)
  have hr := W.runS (locs := locs) (cells := 0) (slots := 0) (g := F0 m pc ls st0) (below := below) (meth := meth) (e := e) (rest := rest) (As := As) ⟨hx, hb, hml, hown, hg⟩ hM ⟨cbG hg hcode hl hini hd hrc hrs hR, hg _ hin⟩ ⟨PC_blind ka kv _, fun U hU hW => ⟨rfl, by show CSt ka kv _ U U.heap; rw [hU]; exact hC2.warm hW⟩⟩ rfl hn hsz hst (by show 2 * 0 + _ ≤ 8; omega) hdg ⟨Nat.zero_le _, Nat.zero_le _⟩
  intro T hT X
  obtain ⟨v', st₀, t, T', L, h0, X', hL, e1, ⟨hv, hh⟩, st⟩ := hr T hT X
  cases hv
  obtain ⟨t2, a1, b1⟩ := kk T' (by rw [e1, hh, h0]) (Stand.forget X' (fun q h => (hL q h).elim))
  exact ⟨t2, st t2 a1, b1⟩
/-- a call of a writing method that reads the constant too -/
theorem callMVc (hx : p.tables.exec = Jvm.exec) (hb : c.code = cc) (hml : c.maxLocals = nL) (hown : s.vm.findClass own = some m.cls) (hg : ∀ w ∈ lw_tblG, w.before args s = true)
    (hM : MetMc l D cy ka kv y bytes maxL ret rm (.ref b :: As) H.size wc v w1) (hcode : Cond.code y bytes maxL ret ∈ lw_tblG) (hl : Cond.methodLink own index y ∈ lw_tblG) (hini : Cond.initialized y.cls ∈ lw_tblG) (hin : Cond.instanceMethod y ∈ lw_tblG) (hse : Cond.selects C y y ∈ lw_tblG) (hd : HdG y n) (hR : rm.frames + 1 ≤ R.frames ∧ 8 + (maxL + 11) + rm.locals ≤ R.locals)
    (hCs : CSt ka kv A s s.heap) (hK : va_K D vwCl (tyU cy) s) (hP : va_P D vwCl w H) (hD : va_D A w) (hS : va_S A s.heap H locs) (hA : ∀ q : Nat, s.heap.size ≤ q → A q) (isC isR : List Nat) (hC : isC.map (fun i => w[i]?) = wc.map some) (hR' : isR.map (fun i => w[i]?) = wr.map some) (hnd : va_nd isR = true) (hnc : va_nd isC = true) (hdis : ∀ i ∈ isR, i ∉ isC) (perm : List Nat) (hpn : va_nd perm = true) (hp : perm.map (fun i => (wr ++ w1)[i]?) = w2.map some)
    (q0 ci : Nat) {q : vw_C} {fs : List Value} (hc : vwCl[ci]? = some q) (he : w[q0]? = some (b, .inr (ci, fs))) (hq : q.1 = C)
    (hrc : rm.cells = 0) (hrs : rm.slots = 0) (hn : As.length = n) (hsz : ls.size = nL) (hst : st0 = As.reverse ++ .ref b :: rest) (hst1 : v.toList ++ rest = st1) (hW : (rest.map fun v => v.category).sum ≤ 8) (hdg : decode cc pc = .ok (.invokevirtual index, 3))
    (kk : ∀ (H1 : Heap) (locs1 : List Loc), va_P D vwCl w2 H1 → va_D A w2 → va_S A s.heap H1 locs1 → W p l e R s m args below meth c H1 locs1 0 0 Q (F0 m (pc + 3) ls st1)) : W p l e R s m args below meth c H locs 0 0 Q (F0 m pc ls st0) := by
  subst hq
  subst hst1
  have hPc : va_P D vwCl wc H := hP.sub isC (filterMap_of_map hC)
  have hDc := hD.sub isC hnc hC
  have hFc := va_free hD hS hA isC hC
  have hC2 : CSt ka kv (va_A wc H.size) s H := (hCs.kept hS.2.1).narrow hFc
  have hr := va_runV (locs := locs) (cells := 0) (slots := 0) (g := F0 m pc ls st0) (below := below) (meth := meth) (e := e) (rest := rest) (As := As) (b := b) ⟨hx, hb, hml, hown, hg⟩ hM ⟨cbG hg hcode hl hini hd hrc hrs hR, hg _ hin, hg _ hse⟩ ⟨PMc_blind D cy ka kv _ _ wc, va_recv hK hP hc he, fun U hU hW => ⟨rfl, ⟨by rw [hU], by rw [hU]; exact hPc, va_K.moved hW.alike hK, hDc.weaken (fun _ _ _ _ => trivial)⟩, by rw [hU]; exact hC2.warm hW⟩⟩ rfl hn hsz hst (by show 2 * 0 + _ ≤ 8; omega) hdg ⟨Nat.zero_le _, Nat.zero_le _⟩
  intro T hT X
  obtain ⟨v', st₀, t, T', L, h0, X', hL, e1, e2, ⟨hv, hP1, hK1, hD1, hz, hk⟩, st⟩ := hr T hT X
  cases hv
  rw [h0] at hz hk
  rw [← e1] at hP1 hz hk
  obtain ⟨hP2, hD2⟩ := joinG hP hD hS hA isC isR hC hR' hnd hdis perm hpn hp hk hP1 hD1
  obtain ⟨t2, a1, b1⟩ := kk T'.heap (locs ++ L) hP2 hD2 ⟨Nat.le_trans hS.1 hz, fun q h1 h2 => (hk q (Nat.lt_of_lt_of_le h1 hS.1) (fun z => h2 (hFc q z))).trans (hS.2.1 q h1 h2), fun q hq => by
    rcases List.mem_append.mp hq with h | h
    · exact hS.2.2 q h
    · exact hFc _ (hL q h)⟩ T' rfl X'
  exact ⟨t2, st t2 a1, b1⟩
end KCS
