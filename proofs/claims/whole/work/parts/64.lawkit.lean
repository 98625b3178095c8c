/-! ===== THE LAW'S CALLS: in a world of many cells ===== -/
/-- the world behind a call: place by place, the caller's cell or the callee's -/
def pkW (w1 : va_W) : List (Option Nat) → va_W → va_W
  | o :: os, c :: cs => (match o with | none => c | some j => w1.getD j c) :: pkW w1 os cs
  | _, _ => []
def okP (isC : List Nat) : Nat → List (Option Nat) → Bool
  | _, [] => true
  | k, o :: os => (match o with | none => !(isC.contains k) | some j => isC[j]? == some k) && okP isC (k + 1) os
theorem okP_get {isC : List Nat} : ∀ {os : List (Option Nat)} {n k : Nat} {o : Option Nat}, okP isC n os = true → os[k]? = some o → (match o with | none => !(isC.contains (n + k)) | some j => isC[j]? == some (n + k)) = true
  | [], n, k, o, _, h => by cases h
  | a :: os, n, 0, o, hk, h => by
    cases h
    exact (Bool.and_eq_true_iff.mp hk).1
  | a :: os, n, k + 1, o, hk, h => by
    have := okP_get (n := n + 1) (k := k) (Bool.and_eq_true_iff.mp hk).2 h
    rwa [show n + 1 + k = n + (k + 1) by omega] at this
theorem pkW_get {w1 : va_W} : ∀ {os : List (Option Nat)} {w : va_W} {k : Nat} {y : Nat × va_E}, (pkW w1 os w)[k]? = some y → ∃ o c, os[k]? = some o ∧ w[k]? = some c ∧ y = (match o with | none => c | some j => w1.getD j c)
  | [], w, k, y, h => by
    cases w <;> cases h
  | a :: os, [], k, y, h => by cases h
  | a :: os, c :: w, 0, y, h => ⟨a, c, rfl, rfl, (Option.some.inj h).symm⟩
  | a :: os, c :: w, k + 1, y, h => pkW_get (os := os) (w := w) (k := k) h
theorem setL_get {isC : List Nat} {w1 w : va_W} {os : List (Option Nat)} (hos : okP isC 0 os = true) {k : Nat} {y : Nat × va_E} (hl : isC.length = w1.length) (h : (pkW w1 os w)[k]? = some y) : (∃ j : Nat, isC[j]? = some k ∧ w1[j]? = some y) ∨ (k ∉ isC ∧ w[k]? = some y) := by
  obtain ⟨o, c, h1, h2, h3⟩ := pkW_get h
  have h4 := okP_get hos h1
  rw [Nat.zero_add] at h4
  cases o with
  | none =>
    refine Or.inr ⟨fun z => ?_, by rw [h3]; exact h2⟩
    have h4 : (!(isC.contains k)) = true := h4
    rw [List.contains_iff_mem.mpr z] at h4
    cases h4
  | some j =>
    have h4 : (isC[j]? == some k) = true := h4
    have h5 : isC[j]? = some k := eq_of_beq h4
    refine Or.inl ⟨j, h5, ?_⟩
    have hj : j < w1.length := by rw [← hl]; exact (List.getElem?_eq_some_iff.mp h5).1
    have h3 : y = w1.getD j c := h3
    rw [h3, List.getD_eq_getElem?_getD, List.getElem?_eq_getElem hj]
    rfl
theorem map_get {isC : List Nat} {w wc : va_W} (hC : isC.map (fun i => w[i]?) = wc.map some) {j : Nat} {x : Nat × va_E} (h : wc[j]? = some x) : ∃ i : Nat, isC[j]? = some i ∧ w[i]? = some x := by
  have h1 : (isC.map (fun i => w[i]?))[j]? = some (some x) := by rw [hC, List.getElem?_map, h]; rfl
  rw [List.getElem?_map] at h1
  cases hi : isC[j]? with
  | none => rw [hi] at h1; cases h1
  | some i => rw [hi] at h1; exact ⟨i, rfl, Option.some.inj h1⟩
/-- behind a call that wrote in a part of the world, and moved nothing -/
theorem setG {D : va_G} {A : Nat → Prop} {w w1 wc w2 : va_W} {H H1 : Heap} (hP : va_P D vwCl w H) (hD : va_D A w) (isC : List Nat) (hC : isC.map (fun i => w[i]?) = wc.map some) (ha : w1.map (fun x => x.1) = wc.map (fun x => x.1)) (os : List (Option Nat)) (hos : okP isC 0 os = true) (h2 : w2 = pkW w1 os w)
    (hk : ∀ q : Nat, q < H.size → ¬ va_A wc H.size q → H1[q]? = H[q]?) (hP1 : va_P D vwCl w1 H1) : va_P D vwCl w2 H1 ∧ va_D A w2 := by
  subst h2
  have l1 : isC.length = wc.length := by have := congrArg List.length hC; rwa [List.length_map, List.length_map] at this
  have l2 : w1.length = wc.length := by have := congrArg List.length ha; rwa [List.length_map, List.length_map] at this
  have hl : isC.length = w1.length := l1.trans l2.symm
  refine ⟨fun k q hq => ?_, ?_⟩
  · rcases setL_get hos hl hq with ⟨j, h3, h4⟩ | ⟨h3, h4⟩
    · exact hP1 j q h4
    · have hb : va_P D vwCl [q] H := fun i x hx => by
        have hz : i < 1 := (List.getElem?_eq_some_iff.mp hx).1
        rw [show i = 0 by omega] at hx
        cases hx
        exact hP k q h4
      have hlt : q.1 < H.size := (hP k q h4).lt
      refine (hb.kept (H1 := H1) (fun i x hx => ?_)) 0 q rfl
      have hz : i < 1 := (List.getElem?_eq_some_iff.mp hx).1
      rw [show i = 0 by omega] at hx
      cases hx
      refine hk _ hlt (fun z => ?_)
      rcases z with ⟨j, e, hj⟩ | z
      · obtain ⟨i, hi, hw⟩ := map_get hC hj
        have hki : k = i := hD.1 k i q (q.1, e) h4 hw rfl
        subst hki
        exact h3 (List.mem_of_getElem? hi)
      · omega
  · have same : ∀ {k : Nat} {q : Nat × va_E}, (pkW w1 os w)[k]? = some q → ∃ q', w[k]? = some q' ∧ q'.1 = q.1 := by
      intro k q hq
      rcases setL_get hos hl hq with ⟨j, h3, h4⟩ | ⟨h3, h4⟩
      · have hj : j < wc.length := by rw [← l2]; exact (List.getElem?_eq_some_iff.mp h4).1
        have h5 : wc[j]? = some wc[j] := List.getElem?_eq_getElem hj
        obtain ⟨i, hi, hw⟩ := map_get hC h5
        rw [h3] at hi
        cases hi
        refine ⟨_, hw, ?_⟩
        have h6 : (w1.map (fun x => x.1))[j]? = some q.1 := by rw [List.getElem?_map, h4]; rfl
        rw [ha, List.getElem?_map, h5] at h6
        exact Option.some.inj h6
      · exact ⟨q, h4, rfl⟩
    refine ⟨fun i j x y hx hy he => ?_, fun k q hq => ?_⟩
    · obtain ⟨x', h3, h4⟩ := same hx
      obtain ⟨y', h5, h6⟩ := same hy
      exact hD.1 i j x' y' h3 h5 (by rw [h4, h6, he])
    · obtain ⟨q', h3, h4⟩ := same hq
      rw [← h4]
      exact hD.2 k q' h3
section KL
variable {p : Program} {l : Launch} {e : Env} {R : Room} {s : State} {m : MethodId} {args : Array Value} {below : List Frame} {meth : Method} {c : Code} {H : Heap} {locs : List Loc} {cells slots : Nat} {Q : State → Prop}
variable {cc bytes : ByteArray} {pc nL maxL index n : Nat} {ls : Array Slot} {st0 st1 rest As : List Value} {own C : String} {y : MethodName} {ret : Option FieldType} {rm : Room} {D : va_G} {cy : Nat → ClassId} {b : Nat} {w wc w1 w2 : va_W} {A : Nat → Prop} {v : Option Value} {v0 : Value} {ka kv : Nat}
theorem callLR (hx : p.tables.exec = Jvm.exec) (hb : c.code = cc) (hml : c.maxLocals = nL) (hown : s.vm.findClass own = some m.cls) (hg : ∀ w ∈ lw_tblG, w.before args s = true)
    (hM : MetR l D cy y bytes maxL ret rm (.ref b :: As) wc (some v0)) (hcode : Cond.code y bytes maxL ret ∈ lw_tblG) (hl : Cond.methodLink own index y ∈ lw_tblG) (hini : Cond.initialized y.cls ∈ lw_tblG) (hin : Cond.instanceMethod y ∈ lw_tblG) (hse : Cond.selects C y y ∈ lw_tblG) (hd : HdG y n) (hR : rm.frames + 1 ≤ R.frames ∧ 8 + (maxL + 11) + rm.locals ≤ R.locals) (hroom : cells ≤ R.cells ∧ slots ≤ R.slots)
    (hK : va_K D vwCl (tyU cy) s) (hP : va_P D vwCl w H) (isC : List Nat) (hC : isC.map (fun i => w[i]?) = wc.map some) (q0 ci : Nat) {q : vw_C} {fs : List Value} (hc : vwCl[ci]? = some q) (he : w[q0]? = some (b, .inr (ci, fs))) (hq : q.1 = C)
    (hrc : rm.cells = 0) (hrs : rm.slots = 0) (hn : As.length = n) (hsz : ls.size = nL) (hst : st0 = As.reverse ++ .ref b :: rest) (hW : (rest.map fun v => v.category).sum ≤ 8) (hdg : decode cc pc = .ok (.invokevirtual index, 3))
    (kk : W p l e R s m args below meth c H locs cells slots Q (F0 m (pc + 3) ls (v0 :: rest))) : W p l e R s m args below meth c H locs cells slots Q (F0 m pc ls st0) := by
  subst hq
  have hPc : va_P D vwCl wc H := hP.sub isC (filterMap_of_map hC)
  have hr := W.runV (locs := locs) (cells := cells) (slots := slots) (g := F0 m pc ls st0) (below := below) (meth := meth) (e := e) (rest := rest) (As := As) (b := b) ⟨hx, hb, hml, hown, hg⟩ hM ⟨cbG hg hcode hl hini hd hrc hrs hR, hg _ hin, hg _ hse⟩ ⟨PR_blind D cy _ wc, va_recv hK hP hc he, fun U hU hW => ⟨rfl, by rw [hU]; exact hPc, va_K.moved hW.alike hK⟩⟩ rfl hn hsz hst (by show 2 * 0 + _ ≤ 8; omega) hdg hroom
  intro T hT X
  obtain ⟨v', st₀, t, T', L, h0, X', hL, e1, ⟨hv, hh⟩, st⟩ := hr T hT X
  cases hv
  obtain ⟨t2, a1, b1⟩ := kk T' (by rw [e1, hh, h0]) (Stand.forget X' (fun q h => (hL q h).elim))
  exact ⟨t2, st t2 a1, b1⟩
theorem callLM (hx : p.tables.exec = Jvm.exec) (hb : c.code = cc) (hml : c.maxLocals = nL) (hown : s.vm.findClass own = some m.cls) (hg : ∀ w ∈ lw_tblG, w.before args s = true)
    (hM : MetM l D cy y bytes maxL ret rm (.ref b :: As) H.size wc v w1) (hcode : Cond.code y bytes maxL ret ∈ lw_tblG) (hl : Cond.methodLink own index y ∈ lw_tblG) (hini : Cond.initialized y.cls ∈ lw_tblG) (hin : Cond.instanceMethod y ∈ lw_tblG) (hse : Cond.selects C y y ∈ lw_tblG) (hd : HdG y n) (hR : rm.frames + 1 ≤ R.frames ∧ 8 + (maxL + 11) + rm.locals ≤ R.locals) (hroom : cells ≤ R.cells ∧ slots ≤ R.slots)
    (hK : va_K D vwCl (tyU cy) s) (hP : va_P D vwCl w H) (hD : va_D A w) (hS : va_S A s.heap H locs) (hA : ∀ q : Nat, s.heap.size ≤ q → A q) (isC : List Nat) (hC : isC.map (fun i => w[i]?) = wc.map some) (hnc : va_nd isC = true) (ha : w1.map (fun x => x.1) = wc.map (fun x => x.1)) (os : List (Option Nat)) (hos : okP isC 0 os = true) (h2 : w2 = pkW w1 os w)
    (q0 ci : Nat) {q : vw_C} {fs : List Value} (hc : vwCl[ci]? = some q) (he : w[q0]? = some (b, .inr (ci, fs))) (hq : q.1 = C)
    (hrc : rm.cells = 0) (hrs : rm.slots = 0) (hn : As.length = n) (hsz : ls.size = nL) (hst : st0 = As.reverse ++ .ref b :: rest) (hst1 : v.toList ++ rest = st1) (hW : (rest.map fun v => v.category).sum ≤ 8) (hdg : decode cc pc = .ok (.invokevirtual index, 3))
    (kk : ∀ (H1 : Heap) (locs1 : List Loc), va_P D vwCl w2 H1 → va_D A w2 → va_S A s.heap H1 locs1 → W p l e R s m args below meth c H1 locs1 cells slots Q (F0 m (pc + 3) ls st1)) : W p l e R s m args below meth c H locs cells slots Q (F0 m pc ls st0) := by
  subst hq
  subst hst1
  have hPc : va_P D vwCl wc H := hP.sub isC (filterMap_of_map hC)
  have hDc := hD.sub isC hnc hC
  have hFc := va_free hD hS hA isC hC
  have hr := va_runV (locs := locs) (cells := cells) (slots := slots) (g := F0 m pc ls st0) (below := below) (meth := meth) (e := e) (rest := rest) (As := As) (b := b) ⟨hx, hb, hml, hown, hg⟩ hM ⟨cbG hg hcode hl hini hd hrc hrs hR, hg _ hin, hg _ hse⟩ ⟨PM_blind D cy _ _ wc, va_recv hK hP hc he, fun U hU hW => ⟨rfl, by rw [hU], by rw [hU]; exact hPc, va_K.moved hW.alike hK, hDc.weaken (fun _ _ _ _ => trivial)⟩⟩ rfl hn hsz hst (by show 2 * 0 + _ ≤ 8; omega) hdg hroom
  intro T hT X
  obtain ⟨v', st₀, t, T', L, h0, X', hL, e1, e2, ⟨hv, hP1, hK1, hD1, hz, hk⟩, st⟩ := hr T hT X
  cases hv
  rw [h0] at hz hk
  rw [← e1] at hP1 hz hk
  obtain ⟨hP2, hD2⟩ := setG hP hD isC hC ha os hos h2 hk hP1
  obtain ⟨t2, a1, b1⟩ := kk T'.heap (locs ++ L) hP2 hD2 ⟨Nat.le_trans hS.1 hz, fun q h1 h2 => (hk q (Nat.lt_of_lt_of_le h1 hS.1) (fun z => h2 (hFc q z))).trans (hS.2.1 q h1 h2), fun q hq => by
    rcases List.mem_append.mp hq with h | h
    · exact hS.2.2 q h
    · exact hFc _ (hL q h)⟩ T' rfl X'
  exact ⟨t2, st t2 a1, b1⟩
theorem callLMc (hx : p.tables.exec = Jvm.exec) (hb : c.code = cc) (hml : c.maxLocals = nL) (hown : s.vm.findClass own = some m.cls) (hg : ∀ w ∈ lw_tblG, w.before args s = true)
    (hM : MetMc l D cy ka kv y bytes maxL ret rm (.ref b :: As) H.size wc v w1) (hcode : Cond.code y bytes maxL ret ∈ lw_tblG) (hl : Cond.methodLink own index y ∈ lw_tblG) (hini : Cond.initialized y.cls ∈ lw_tblG) (hin : Cond.instanceMethod y ∈ lw_tblG) (hse : Cond.selects C y y ∈ lw_tblG) (hd : HdG y n) (hR : rm.frames + 1 ≤ R.frames ∧ 8 + (maxL + 11) + rm.locals ≤ R.locals) (hroom : cells ≤ R.cells ∧ slots ≤ R.slots)
    (hCs : CSt ka kv A s s.heap) (hK : va_K D vwCl (tyU cy) s) (hP : va_P D vwCl w H) (hD : va_D A w) (hS : va_S A s.heap H locs) (hA : ∀ q : Nat, s.heap.size ≤ q → A q) (isC : List Nat) (hC : isC.map (fun i => w[i]?) = wc.map some) (hnc : va_nd isC = true) (ha : w1.map (fun x => x.1) = wc.map (fun x => x.1)) (os : List (Option Nat)) (hos : okP isC 0 os = true) (h2 : w2 = pkW w1 os w)
    (q0 ci : Nat) {q : vw_C} {fs : List Value} (hc : vwCl[ci]? = some q) (he : w[q0]? = some (b, .inr (ci, fs))) (hq : q.1 = C)
    (hrc : rm.cells = 0) (hrs : rm.slots = 0) (hn : As.length = n) (hsz : ls.size = nL) (hst : st0 = As.reverse ++ .ref b :: rest) (hst1 : v.toList ++ rest = st1) (hW : (rest.map fun v => v.category).sum ≤ 8) (hdg : decode cc pc = .ok (.invokevirtual index, 3))
    (kk : ∀ (H1 : Heap) (locs1 : List Loc), va_P D vwCl w2 H1 → va_D A w2 → va_S A s.heap H1 locs1 → W p l e R s m args below meth c H1 locs1 cells slots Q (F0 m (pc + 3) ls st1)) : W p l e R s m args below meth c H locs cells slots Q (F0 m pc ls st0) := by
  subst hq
  subst hst1
  have hPc : va_P D vwCl wc H := hP.sub isC (filterMap_of_map hC)
  have hDc := hD.sub isC hnc hC
  have hFc := va_free hD hS hA isC hC
  have hC2 : CSt ka kv (va_A wc H.size) s H := (hCs.kept hS.2.1).narrow hFc
  have hr := va_runV (locs := locs) (cells := cells) (slots := slots) (g := F0 m pc ls st0) (below := below) (meth := meth) (e := e) (rest := rest) (As := As) (b := b) ⟨hx, hb, hml, hown, hg⟩ hM ⟨cbG hg hcode hl hini hd hrc hrs hR, hg _ hin, hg _ hse⟩ ⟨PMc_blind D cy ka kv _ _ wc, va_recv hK hP hc he, fun U hU hW => ⟨rfl, ⟨by rw [hU], by rw [hU]; exact hPc, va_K.moved hW.alike hK, hDc.weaken (fun _ _ _ _ => trivial)⟩, by rw [hU]; exact hC2.warm hW⟩⟩ rfl hn hsz hst (by show 2 * 0 + _ ≤ 8; omega) hdg hroom
  intro T hT X
  obtain ⟨v', st₀, t, T', L, h0, X', hL, e1, e2, ⟨hv, hP1, hK1, hD1, hz, hk⟩, st⟩ := hr T hT X
  cases hv
  rw [h0] at hz hk
  rw [← e1] at hP1 hz hk
  obtain ⟨hP2, hD2⟩ := setG hP hD isC hC ha os hos h2 hk hP1
  obtain ⟨t2, a1, b1⟩ := kk T'.heap (locs ++ L) hP2 hD2 ⟨Nat.le_trans hS.1 hz, fun q h1 h2 => (hk q (Nat.lt_of_lt_of_le h1 hS.1) (fun z => h2 (hFc q z))).trans (hS.2.1 q h1 h2), fun q hq => by
    rcases List.mem_append.mp hq with h | h
    · exact hS.2.2 q h
    · exact hFc _ (hL q h)⟩ T' rfl X'
  exact ⟨t2, st t2 a1, b1⟩
end KL
