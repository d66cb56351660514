/-! THROWS: contracts of methods that throw; how a throw is made, passed on, caught -/
def kd1_of : Cond → Bool
  | .castable .. => true
  | .superclass .. => true
  | .declares .. => true
  | .codeSync .. => true
  | _ => false
theorem kd1_good {s : State} (w : Cond) (h : kd1_of w = true) : w.onTables = true ∧ w.warmOk s := by
  cases w <;> first | exact ⟨rfl, trivial⟩ | exact ⟨rfl, rfl⟩ | (cases h; done) | (simp [kd1_of] at h; done)
def w1 : List Cond := lw_tbl.filter kd1_of
theorem w1_1 {w : Cond} (h : w ∈ tables_1_1) (k : kd1_of w = true) : w ∈ w1 := List.mem_filter.mpr ⟨List.mem_append_right _ (List.mem_append_left _ h), k⟩
theorem w1_2 {w : Cond} (h : w ∈ tables_1_2) (k : kd1_of w = true) : w ∈ w1 := List.mem_filter.mpr ⟨List.mem_append_right _ (List.mem_append_right _ (List.mem_append_left _ h)), k⟩
theorem w1_3 {w : Cond} (h : w ∈ tables_1_3) (k : kd1_of w = true) : w ∈ w1 := List.mem_filter.mpr ⟨List.mem_append_right _ (List.mem_append_right _ (List.mem_append_right _ h)), k⟩
def tkW (U : State) : Prop := ∀ w ∈ w1, w.before #[] U = true
theorem w1_any {w : Cond} (hw : w ∈ w1) {s U : State} (hW : s.WarmedH U.vm) {a a' : Array Value} (h : w.before a s = true) : w.before a' U = true := by
  obtain ⟨g1, g2⟩ := kd1_good (s := s) w (List.mem_filter.mp hw).2
  have h1 := Cond.before_warmed hW w g2 h
  have e := Cond.onTables_vm (A := a) (A' := a') (U := s) (U' := U) U.vm w g1
  have hU : U.setVm U.vm = U := rfl
  rw [hU] at e
  rw [← e]
  exact h1
theorem tkW.warm {s U : State} (hW : s.WarmedH U.vm) (h : tkW s) : tkW U := fun w hw => w1_any hw hW (h w hw)
theorem tkW.args {s : State} (h : tkW s) (args : Array Value) : ∀ w ∈ w1, w.before args s = true := fun w hw => w1_any (s := s) (U := s) hw (State.WarmedH.refl s) (h w hw)
/-- a static of references: where it lies, and that it is laid -/
def zs (C n d : String) (A : Nat → Prop) (U : State) (H : Heap) : Prop := ∃ (c : ClassId) (k : Class) (i : Nat) (f : Field) (a : Nat) (cell : Cell) (v : Value), U.vm.findClass C = some c ∧ U.fieldFound? C n d = some (c, k, i, f) ∧ f.isStatic = true ∧ k.statics = some a ∧ H[a]? = some cell ∧ cell.vm.isStatics = true ∧ cell.cls = c ∧ f.slot < cell.slots.size ∧ k.staticTypes[f.slot]? = some f.type ∧ cell.slots[f.slot]? = some v ∧ (v = .null ∨ ∃ t, v = .ref t) ∧ ¬ A a
theorem zs.of {args : Array Value} {s : State} {C n d : String} {A : Nat → Prop} (hl : (Cond.laysStatic C n d).before args s = true) (h : (Cond.isRef (.static C n d)).before args s = true) (hA : ∀ a : Nat, a < s.heap.size → ¬ A a) : zs C n d A s s.heap := by
  obtain ⟨c, k, i, f, a, cell, hc, hi, hst, ha, hcell, hs, hcls, hlt, hty⟩ := Cond.laysStatic_spec hl
  cases hv : (Term.static C n d).eval args s none [] s with
  | none => simp [Cond.before, Cond.holds, Cond.value, hv] at h
  | some w =>
    obtain ⟨hst', a', cell', ha', hcell', -, hslot⟩ := Term.static_spec hi hv
    cases ha.symm.trans ha'
    cases hcell.symm.trans hcell'
    simp only [Cond.before, Cond.holds, Cond.value, hv] at h
    refine ⟨c, k, i, f, a, cell, w, hc, hi, hst, ha, hcell, hs, hcls, hlt, hty, hslot, ?_, hA a (Array.getElem?_eq_some_iff.mp hcell).1⟩
    cases w with
    | null => exact Or.inl rfl
    | ref t => exact Or.inr ⟨t, rfl⟩
    | _ => simp at h
theorem zs.moved {C n d : String} {A : Nat → Prop} {u U : State} {H : Heap} (hvm : u.vm.Alike U.vm) (h : zs C n d A u H) : zs C n d A U H := by
  obtain ⟨c, k, i, f, a, cell, v, h1, h2, h3, h4, h5, h6, h7, h8, h9, h10⟩ := h
  obtain ⟨k', hi', he⟩ := State.fieldFound?_setVm hvm h2
  exact ⟨c, k', i, f, a, cell, v, by rw [hvm.findClass]; exact h1, hi', h3, by rw [he]; exact h4, h5, h6, h7, h8, by rw [he]; exact h9, h10⟩
theorem zs.kept {C n d : String} {A : Nat → Prop} {U : State} {H H1 : Heap} (h : zs C n d A U H) (hq : ∀ a : Nat, a < H.size → ¬ A a → H1[a]? = H[a]?) : zs C n d A U H1 := by
  obtain ⟨c, k, i, f, a, cell, v, h1, h2, h3, h4, h5, h6, h7, h8, h9, h10, h11, h12⟩ := h
  exact ⟨c, k, i, f, a, cell, v, h1, h2, h3, h4, by rw [hq a (Array.getElem?_eq_some_iff.mp h5).1 h12]; exact h5, h6, h7, h8, h9, h10, h11, h12⟩
theorem zs.narrow {C n d : String} {A B : Nat → Prop} {U : State} {H : Heap} (h : zs C n d A U H) (hAB : ∀ q, B q → A q) : zs C n d B U H := by
  obtain ⟨c, k, i, f, a, cell, v, h1, h2, h3, h4, h5, h6, h7, h8, h9, h10, h11, h12⟩ := h
  exact ⟨c, k, i, f, a, cell, v, h1, h2, h3, h4, h5, h6, h7, h8, h9, h10, h11, fun z => h12 (hAB a z)⟩
theorem zs.lays {C n d : String} {A : Nat → Prop} {U : State} (h : zs C n d A U U.heap) (args : Array Value) : (Cond.laysStatic C n d).before args U = true := by
  obtain ⟨c, k, i, f, a, cell, v, h1, h2, h3, h4, h5, h6, h7, h8, h9, h10, h11, h12⟩ := h
  simp [Cond.before, Cond.holds, Cond.value, h1, h2, h3, h4, h5, h6, h7, h8, h9]
theorem zs.ref {C n d : String} {A : Nat → Prop} {U : State} (h : zs C n d A U U.heap) (args : Array Value) : (Cond.isRef (.static C n d)).before args U = true := by
  obtain ⟨c, k, i, f, a, cell, v, h1, h2, h3, h4, h5, h6, h7, h8, h9, h10, h11, h12⟩ := h
  have key : (Term.static C n d).eval args U none [] U = some v := by
    simp [Term.eval, State.fieldNamed?, h2, h3, h4, h5, h6, h10]
  rcases h11 with rfl | ⟨t, rfl⟩
  · simp [Cond.before, Cond.holds, Cond.value, key]
  · simp [Cond.before, Cond.holds, Cond.value, key]
def tk_us (A : Nat → Prop) (U : State) (H : Heap) : Prop := zs Bundle.tN "UNASSIGNED_STACK" Bundle.steD A U H ∧ zs Bundle.tN "SUPPRESSED_SENTINEL" Bundle.listD A U H
/-- what throwing asks of the state -/
def tkP (strs : List (Nat × String)) (U : State) : Prop := tkW U ∧ tk_us (fun _ => False) U U.heap ∧ ∀ q ∈ strs, ∃ a, vk_R RX3 q.1 q.2 a U
theorem tkP.to {strs : List (Nat × String)} {s U : State} (hW : s.WarmedH U.vm) (hh : U.heap = s.heap) (h : tkP strs s) : tkP strs U :=
  ⟨h.1.warm hW, ⟨by rw [hh]; exact h.2.1.1.moved hW.alike, by rw [hh]; exact h.2.1.2.moved hW.alike⟩, fun q hq => by obtain ⟨a, ha⟩ := h.2.2 q hq; exact ⟨a, ha.warm hW⟩⟩
theorem tkP.calling {strs : List (Nat × String)} {U : State} (h : tkP strs U) (g : JFrame) (mk : MethodId) (a : Array Value) : tkP strs (U.calling g mk a) :=
  h.to (s := U) (U := U.calling g mk a) (State.WarmedH.refl U) rfl
def th_Q (X : String) (st : State) (o : Outcome) (t : State) : Prop := ∃ x : Addr, o = .threw x ∧ FrameEndT st o t [] 1 6 ∧ st.heap.size ≤ x ∧ ∃ ce : Cell, t.heap[x]? = some ce ∧ ce.vm = .none ∧ st.vm.findClass X = some ce.cls
def MT (l : Launch) (y : MethodName) (ws : List Cond) (rm : Room) (Pc : Array Value → State → Prop) (X : String) : Prop := MetFree l y (headSpec ws rm) Pc (fun _ _ _ _ _ => True) (fun _ st o t => th_Q X st o t)
def TQ (below : List Frame) (X : String) (s : State) : State → Prop := fun t => ∃ o, t.status = .running ∧ Ended t below o ∧ th_Q X s o t
theorem MT.ofW {l : Launch} {y : MethodName} {ws ws' : List Cond} {rm : Room} {Pc : Array Value → State → Prop} {X : String} {cc : ByteArray} {maxL : Nat} {ret : Option FieldType}
    (hy : plainName y.cls = true) (hw : ws = Cond.code y cc maxL ret :: ws')
    (body : ∀ p e s m args below meth c s₁, BodyLoose p l y (headSpec ws rm) cc maxL ret e s m args below meth c s₁ → c.maxLocals = maxL → Pc args s →
      W p l e (headSpec ws rm).room s m args below meth c s.heap [] 0 0 (TQ below X s) (entryFrame m args maxL)) : MT l y ws rm Pc X := by
  refine MetFree.of_bodyS (code := cc) (maxLocals := maxL) (ret := ret) hy ?_ ?_
  · intro args s m h hn
    obtain ⟨meth, c, h1, h2, h3, h4, h5, h6, -, -⟩ := Cond.code_spec hn (atoms_spec (ws := ws) h _ (by rw [hw]; exact List.mem_cons_self))
    exact ⟨meth, c, h1, h2, h3, h4, h5, h6⟩
  · intro p e s m args below meth c s₁ B hml hP _
    have hh0 : s₁.heap = s.heap := by rw [B.state]; rfl
    obtain ⟨t, a1, o, b1, b2, b3⟩ := body p e s m args below meth c s₁ B hml hP s₁ hh0 (Stand.of_body B)
    exact ⟨t, o, a1, b1, b2, b3⟩
section THR
variable {p : Program} {l : Launch} {e : Env} {R : Room} {s : State} {m : MethodId} {args : Array Value} {below : List Frame} {meth : Method} {c : Code} {H : Heap} {locs : List Loc} {cells slots : Nat} {Q : State → Prop}
theorem th_off (hst : l.stackTraces = false) (ha : l.admits e) : e.platform.stackTraces = false := by
  obtain ⟨-, -, -, -, hp, -⟩ := ha
  rw [hp]
  exact hst
/-- throw new X("..") -/
theorem W.thr {cc : ByteArray} {own X tx : String} {inew istr ic q pc : Nat} {ls : Array Slot} {names : List String} (hst : l.stackTraces = false) (hexec : p.tables.exec = Jvm.exec) (hb : c.code = cc) (hown : s.vm.findClass own = some m.cls)
    (hcl : (Cond.classLink own inew X).before args s = true) (hins : (Cond.instantiable X 6).before args s = true) (hini : (Cond.initialized X).before args s = true) (hZ : vk_R own istr tx q s)
    (hat : ∀ a ∈ Bundle.ownAtoms own ic X names, a.before args s = true) (hfit : Bundle.fit X = true) (hnm : ∀ n ∈ names, Bundle.fit n = true) (hE : c.exceptionTable.isEmpty = true) (hsz : ls.size = c.maxLocals)
    (d0 : decode cc pc = .ok (.new inew, 3)) (d3 : decode cc (pc + 3) = .ok (.dup, 1)) (d4 : decode cc (pc + 3 + 1) = .ok (.ldc istr, 2)) (d6 : decode cc (pc + 3 + 1 + 2) = .ok (.invokespecial ic, 3)) (d9 : decode cc (pc + 3 + 1 + 2 + 3) = .ok (.athrow, 1))
    (hfr : names.length + 3 < R.frames) (hlo : 1 + (13 * (names.length + 1) + 42) ≤ R.locals) (hc : 1 ≤ R.cells) (hs : 6 ≤ R.slots) (hlocks : meth.locks = false) :
    W p l e R s m args below meth c s.heap [] 0 0 (TQ below X s) (F0 m pc ls []) := by
  refine W.newc hexec hb hown hcl hins hini rfl d0 (by omega) (by omega) (fun cC kC h1 h2 h3 h4 => ?_)
  refine lv_dup hexec hb d3 rfl ?_
  refine va_ldcS hexec hb hown hZ d4 ?_
  intro T hT Y
  have hnoh : ∀ x ∈ c.exceptionTable.toList, covers x (pc + 3 + 1 + 2 + 3) = false := fun x hx => by
    have : c.exceptionTable.toList = [] := by
      have := Array.isEmpty_iff.mp hE
      rw [this]
    rw [this] at hx
    cases hx
  obtain ⟨U, u1, u2, u3, u4, u5, ce, u6, u7⟩ := Y.ctorThrowS hexec (th_off hst Y.admits) hown hfit hnm hat (fun x hx => absurd hx List.not_mem_nil) (a := s.heap.size) h1 h2 (by rw [hT]; simp) (Nat.le_refl _) (msg := .ref q) rfl
    (g := F0 m (pc + 3 + 1 + 2) ls [.ref q, .ref s.heap.size, .ref s.heap.size]) rfl hsz rfl rfl (rest := []) rfl (by rw [hb]; exact d6) (by rw [hb]; exact d9) hnoh hfr (by simpa [JFrame.monitorRoom, Value.category] using hlo) hlocks
  refine ⟨U, u1, .threw s.heap.size, u2, u3, s.heap.size, rfl, ⟨⟨_, rfl⟩, u4, ?_⟩, Nat.le_refl _, ce, u6, u7.vm, u7.cls⟩
  simpa using u5
theorem sbn_kept {s t : State} {k n : Nat} (h : s.sameButNew t [] k n) {a : Nat} (ha : a < s.heap.size) : t.heap[a]? = s.heap[a]? := by
  obtain ⟨-, -, -, -, -, h6⟩ := h
  obtain ⟨cc, hcc⟩ : ∃ cc, s.heap[a]? = some cc := ⟨_, Array.getElem?_eq_getElem ha⟩
  obtain ⟨c', h1, h2, h3, h4⟩ := h6 a cc hcc
  rw [h1, hcc, h2]
  have : c'.slots = cc.slots := Array.ext_getElem? (fun i => h4 i List.not_mem_nil)
  rw [this]
/-- a call of a method that throws, on its way: the frame below has the throw over it -/
theorem th_call {cc bytes : ByteArray} {nL maxL index n : Nat} {Ts ws : List Cond} {own C X : String} {y : MethodName} {ret : Option FieldType} {rm : Room} {Pc : Array Value → State → Prop} {b : Addr} {As rest : List Value} {g : JFrame}
    (S : CallFix p m c cc nL s args Ts own) (hM : MT l y ws rm Pc X) (cw : CallW R s args own C index y bytes maxL ret ws rm 1 6 n) (hp : PreV s H C b Pc As)
    (hg : g.method = m) (hn : As.length = n) (hsize : g.locals.size = nL) (hstack : g.stack = As.reverse ++ .ref b :: rest) (hW : 2 * g.monitorRoom + (rest.map fun v => v.category).sum ≤ 8) (hdg : decode cc g.pc = .ok (.invokevirtual index, 3)) (hf : cells + 1 ≤ R.cells ∧ slots + 6 ≤ R.slots)
    {T : State} (hT : T.heap = H) (X0 : Stand p l e R s m args below meth c T locs cells slots) :
    ∃ (x : Addr) (U : State) (ce : Cell), Stand p l e R s m args below meth c U locs (cells + 1) (slots + 6) ∧ Steps p.tables e below (T.setTop g) ((U.setTop { g with stack := rest }).pushFrame (.throwing x)) ∧
      H.size ≤ U.heap.size ∧ (∀ a : Nat, a < H.size → U.heap[a]? = H[a]?) ∧ H.size ≤ x ∧ U.heap[x]? = some ce ∧ ce.vm = .none ∧ s.vm.findClass X = some ce.cls := by
  obtain ⟨⟨hrc, hrs, hfr, hlo, hws, hcw, hcode, hini, hy, hlen, hl⟩, hin, hse⟩ := cw
  obtain ⟨hx, hb, hml, ho, -⟩ := S
  obtain ⟨hbl, ⟨cellB, hcB, hoB, hclB⟩, hPc⟩ := hp
  have hK : BackT l R p e below s args y 3 8 (PreOf R 1 6 Pc) (fun A a x B => ∃ (g' : JFrame) (mk : MethodId) (t : State), B.U.heap = t.heap ∧ B.U.vm = t.vm ∧ th_Q X (A.U.calling g' mk a) (.threw x) t ∧ B.locs = A.locs ∧ B.cells = A.cells + 1 ∧ B.slots = A.slots + 6) := by
    refine BackT.of_free (S := headSpec ws rm) (P := Pc) (K := fun _ _ _ _ _ => True) (Q := fun _ st o t => th_Q X st o t) (bytes := bytes) (maxL := maxL) (ret := ret) (E := fun _ st o t L k n => L = [] ∧ k = 1 ∧ n = 6) hM hfr hlo ?_ ?_ (fun _ _ _ _ _ _ _ _ _ => trivial) ?_ ?_
    · intro m' meth' c' A a Y hp
      exact ⟨atoms_intro fun w hw => hws w hw _ _ Y.warmed, hws _ hcw _ _ Y.warmed, word_at Y.warmed (Or.inl (by first | rfl | simp [Cond.onTables, Cond.keeps, Cond.steady])) hini, by rw [show (headSpec ws rm).room.cells = 1 from hrc]; exact hp.1, by rw [show (headSpec ws rm).room.slots = 6 from hrs]; exact hp.2.1⟩
    · intro m' meth' c' A a g' mk Y hp
      exact hbl _ _ _ _ hp.2.2
    · intro a st o t ⟨x, e1, e2, e3⟩
      exact ⟨[], 1, 6, e2, rfl, rfl, rfl⟩
    · intro m' meth' c' A a g' mk v t L k n Y hp hq hF ⟨e0, e1, e2⟩
      subst e0; subst e1; subst e2
      exact ⟨g', mk, t, rfl, rfl, hq, List.append_nil _, rfl, rfl⟩
  obtain ⟨mk, methM, hnamed, hmethM, hstM, habM⟩ := Cond.instanceMethod_spec hin
  obtain ⟨methM', cM, hmethM', -, -, -, -, -, -, hsigM⟩ := Cond.code_spec hnamed hcode
  cases hmethM.symm.trans hmethM'
  obtain ⟨c2, r2, m2, q1, q2, q3, q4, kP, hkP, hkPi⟩ := Cond.selects_spec hse
  cases hclB.symm.trans q1
  cases (State.methodFound?_of_named hnamed hy).symm.trans q2
  cases hnamed.symm.trans q3
  have hselP : selectMethod e.platform s.vm cellB.cls mk = .method mk := by rw [Launch.admits_selectMethod X0.admits]; exact q4
  obtain ⟨vm₁, X₁, hstep₁⟩ := X0.invokevirtual hx ho hl hnamed hmethM hstM hkP hkPi hy (a := b) (cell := cellB) (by rw [hT]; exact hcB)
    (fun z h => by rw [h] at hoB; cases hoB) hselP hmethM habM hkP hkPi (g := g) hg (argsL := As) (rest := rest) (hn.trans (hlen _ hsigM)) hstack (by rw [hb]; exact hdg)
  obtain ⟨v, ⟨U, L, c3, s3⟩, X', ⟨g', mk', t, e1, e2, hq, e4, e5, e6⟩, hsteps⟩ := hK m meth c ⟨T.setVm vm₁, locs, cells, slots⟩ { g with stack := rest } (.invokevirtual index) mk (Value.ref b :: As).toArray X₁ hg (hsize.trans hml.symm) (by rw [hb]; exact hdg) hW (X₁.named hnamed) ⟨hf.1, hf.2, hPc (T.setVm vm₁) hT X₁.warmed⟩
  dsimp only [Pt.U, Pt.locs, Pt.cells, Pt.slots] at X' e1 e2 e4 e5 e6 hsteps
  subst e4; subst e5; subst e6
  obtain ⟨x, ex, ⟨-, hW2, hsame⟩, hsz, ce, hce, hvm, hcls⟩ := hq
  cases ex
  have hheap : ((T.setVm vm₁).calling g' mk' (Value.ref b :: As).toArray).heap = H := hT
  refine ⟨v, U, ce, X', hstep₁ _ (fun acts => by rw [doInvoke_state]; exact hsteps), ?_, fun a ha => ?_, ?_, by rw [e1]; exact hce, hvm, ?_⟩
  · have := hsame.2.1
    rw [hheap] at this
    rw [e1]; exact this
  · have := sbn_kept hsame (a := a) (by rw [hheap]; exact ha)
    rw [hheap] at this
    rw [e1]; exact this
  · rw [hheap] at hsz; exact hsz
  · have : (s.setVm vm₁).vm.Alike s.vm := X₁.warmed.alike.symm
    rw [← (X₁.warmed.alike).findClass]
    exact hcls
/-- a throw goes through a method without handlers -/
theorem W.passT {cc bytes : ByteArray} {nL maxL index n : Nat} {Ts ws : List Cond} {own C X : String} {y : MethodName} {ret : Option FieldType} {rm : Room} {Pc : Array Value → State → Prop} {b : Addr} {As rest : List Value} {pc : Nat} {ls : Array Slot} {st0 : List Value}
    (S : CallFix p m c cc nL s args Ts own) (hM : MT l y ws rm Pc X) (cw : CallW R s args own C index y bytes maxL ret ws rm 1 6 n) (hp : PreV s s.heap C b Pc As)
    (hn : As.length = n) (hsize : ls.size = nL) (hstack : st0 = As.reverse ++ .ref b :: rest) (hW : (rest.map fun v => v.category).sum ≤ 8) (hdg : decode cc pc = .ok (.invokevirtual index, 3)) (hf : 1 ≤ R.cells ∧ 6 ≤ R.slots) (hE : c.exceptionTable.isEmpty = true) (hlocks : meth.locks = false) :
    W p l e R s m args below meth c s.heap [] 0 0 (TQ below X s) (F0 m pc ls st0) := by
  intro T hT X0
  obtain ⟨x, U, ce, X', hst, h1, h2, h3, h4, h5, h6⟩ := th_call S hM cw hp (g := F0 m pc ls st0) rfl hn hsize hstack (by simpa [JFrame.monitorRoom] using hW) hdg (by simpa using hf) hT X0
  have hnoh : ∀ x ∈ c.exceptionTable.toList, covers x pc = false := fun x hx => by
    have : c.exceptionTable.toList = [] := by
      have := Array.isEmpty_iff.mp hE
      rw [this]
    rw [this] at hx
    cases hx
  obtain ⟨a1, a2, a3, a4, a5⟩ := X'.leaveThrown x (g := F0 m pc ls rest) rfl rfl rfl hnoh hlocks
  refine ⟨_, hst.trans a1, .threw x, a2, a3, x, rfl, ⟨⟨_, rfl⟩, a4, by simpa using a5⟩, h3, ce, h4, h5, h6⟩
/-- a throw is caught: rows that are passed, then the one that catches -/
theorem W.catchT {cc bytes : ByteArray} {nL maxL index n : Nat} {Ts ws : List Cond} {own C X : String} {y : MethodName} {ret : Option FieldType} {rm : Room} {Pc : Array Value → State → Prop} {b : Addr} {As rest : List Value} {pc : Nat} {ls : Array Slot} {st0 : List Value}
    (S : CallFix p m c cc nL s args Ts own) (hM : MT l y ws rm Pc X) (cw : CallW R s args own C index y bytes maxL ret ws rm 1 6 n) (hp : PreV s H C b Pc As)
    (hn : As.length = n) (hsize : ls.size = nL) (hstack : st0 = As.reverse ++ .ref b :: rest) (hW : (rest.map fun v => v.category).sum ≤ 8) (hdg : decode cc pc = .ok (.invokevirtual index, 3)) (hf : cells + 1 ≤ R.cells ∧ slots + 6 ≤ R.slots)
    (pre : List ExceptionTableEntry) (x0 : ExceptionTableEntry) (post : List ExceptionTableEntry) (hsplit : c.exceptionTable.toList = pre ++ x0 :: post)
    (hpass : ∀ y ∈ pre, covers y pc = false ∨ (y.catchType ≠ 0 ∧ ∃ nm, (Cond.classLink own y.catchType nm).before args s = true ∧ va_Nc X nm s)) (hcov : covers x0 pc = true) (h0 : x0.catchType ≠ 0) (hlink : (Cond.classLink own x0.catchType X).before args s = true) (hcast : (Cond.castable X X).before args s = true)
    (kk : ∀ (H1 : Heap) (x : Addr), H.size ≤ H1.size → (∀ a : Nat, a < H.size → H1[a]? = H[a]?) → W p l e R s m args below meth c H1 locs (cells + 1) (slots + 6) Q (F0 m x0.handlerPc ls [.ref x])) :
    W p l e R s m args below meth c H locs cells slots Q (F0 m pc ls st0) := by
  intro T hT X0
  obtain ⟨x, U, ce, X', hst, h1, h2, h3, h4, h5, h6⟩ := th_call S hM cw hp (g := F0 m pc ls st0) rfl hn hsize hstack (by simpa [JFrame.monitorRoom] using hW) hdg hf hT X0
  have hown := S.2.2.2.1
  have hpl : e.platform.magicAccessors = ({} : Platform).magicAccessors := by rw [X0.admits.platform]
  obtain ⟨c3, cT, hc3, hcT, hasg⟩ := Cond.castable_spec hcast
  cases h6.symm.trans hc3
  cases h6.symm.trans hcT
  obtain ⟨hend, hk0⟩ := X'.catches_of_link hown h0 hlink h6 hasg
  obtain ⟨vm', XV, hgo⟩ := X'.thenCaughtThrough x (g := F0 m pc ls rest) rfl hst h4 (by rw [h5]; rfl) hk0 pre x0 post hsplit (fun y hy => by
    rcases hpass y hy with q | ⟨q0, nm, q1, cx, ct, q2, q3, q4⟩
    · exact Or.inl q
    · cases h6.symm.trans q2
      obtain ⟨c', hc', hcl⟩ := Cond.classLink_spec hown q1 e.platform hpl
      cases q3.symm.trans hc'
      exact Or.inr ⟨q0, _, hcl, q4⟩) hcov hend
  obtain ⟨t, b1, b2⟩ := kk U.heap x h1 h2 (U.setVm vm') rfl XV
  exact ⟨t, hgo.trans b1, b2⟩
end THR

theorem wx_303 : Cond.castable "java/lang/IndexOutOfBoundsException" "java/lang/IndexOutOfBoundsException" ∈ w1 := w1_2 (List.mem_of_getElem? (i := 63) rfl) rfl
theorem wx_305 : Cond.declares ⟨"java/lang/RuntimeException", "<init>", "(Ljava/lang/String;)V"⟩ ∈ w1 := w1_2 (List.mem_of_getElem? (i := 65) rfl) rfl
theorem wx_307 : Cond.declares ⟨"java/lang/Exception", "<init>", "(Ljava/lang/String;)V"⟩ ∈ w1 := w1_2 (List.mem_of_getElem? (i := 67) rfl) rfl
theorem wx_309 : Cond.declares ⟨"java/lang/Throwable", "<init>", "(Ljava/lang/String;)V"⟩ ∈ w1 := w1_2 (List.mem_of_getElem? (i := 69) rfl) rfl
theorem wx_323 : Cond.superclass "java/lang/Throwable" "java/lang/Object" ∈ w1 := w1_2 (List.mem_of_getElem? (i := 83) rfl) rfl
theorem wx_336 : Cond.codeSync ⟨"java/lang/Throwable", "fillInStackTrace", "()Ljava/lang/Throwable;"⟩ prog_16_method_18_code 1 (some (.object "java/lang/Throwable")) ∈ w1 := w1_2 (List.mem_of_getElem? (i := 96) rfl) rfl
theorem wx_371 : Cond.castable "java/lang/IllegalStateException" "java/lang/IllegalStateException" ∈ w1 := w1_2 (List.mem_of_getElem? (i := 131) rfl) rfl
theorem wx_403 : Cond.castable "java/lang/IllegalArgumentException" "java/lang/IllegalArgumentException" ∈ w1 := w1_2 (List.mem_of_getElem? (i := 163) rfl) rfl
theorem ow_IO {A : Nat → Prop} {args : Array Value} {s : State} (hts : ∀ w ∈ w0, w.before args s = true) (h1 : ∀ w ∈ w1, w.before args s = true) (hz : tk_us A s s.heap) : ∀ a ∈ Bundle.ownAtoms RX3 43 "java/lang/IndexOutOfBoundsException" ["java/lang/RuntimeException", "java/lang/Exception"], a.before args s = true := by
  intro a h
  simp only [Bundle.ownAtoms, Bundle.throwableAtoms, Bundle.throwableSAtoms, Bundle.chainSAtoms, Bundle.passSAtoms, List.cons_append, List.nil_append, List.append_assoc, List.append_nil, List.mem_cons, List.not_mem_nil, or_false] at h
  rcases h with rfl | rfl | rfl | rfl | rfl | rfl | rfl | rfl | rfl | rfl | rfl | rfl | rfl | rfl | rfl | rfl | rfl | rfl | rfl | rfl | rfl | rfl | rfl | rfl | rfl | rfl | rfl | rfl | rfl | rfl | rfl | rfl | rfl | rfl | rfl | rfl | rfl | rfl | rfl | rfl | rfl | rfl | rfl | rfl | rfl | rfl | rfl | rfl | rfl | rfl | rfl | rfl | rfl | rfl | rfl | rfl | rfl
  · exact hts _ wd_6
  · exact h1 _ wx_323
  · exact hts _ wd_332
  · exact h1 _ wx_336
  · exact hts _ wd_339
  · exact hts _ wd_341
  · exact hts _ wd_324
  · exact hts _ wd_325
  · exact hts _ wd_21
  · exact hts _ wd_22
  · exact hts _ wd_326
  · exact hts _ wd_331
  · exact hts _ wd_337
  · exact hts _ wd_357
  · exact hts _ wd_313
  · exact hts _ wd_358
  · exact hts _ wd_315
  · exact hts _ wd_359
  · exact hts _ wd_317
  · exact hts _ wd_327
  · exact hz.1.lays args
  · exact hts _ wd_329
  · exact hz.2.lays args
  · exact hts _ wd_319
  · exact hts _ wd_353
  · exact hts _ wd_354
  · exact hts _ wd_356
  · exact hts _ wd_319
  · exact hts _ wd_344
  · exact hts _ wd_345
  · exact hts _ wd_346
  · exact hts _ wd_347
  · exact h1 _ wx_305
  · exact hts _ wd_347
  · exact hts _ wd_348
  · exact hts _ wd_349
  · exact hts _ wd_350
  · exact h1 _ wx_307
  · exact hts _ wd_350
  · exact hts _ wd_351
  · exact hts _ wd_352
  · exact hts _ wd_353
  · exact h1 _ wx_309
  · exact hts _ wd_343
  · exact hts _ wd_302
  · exact h1 _ wx_303
  · exact hts _ wd_310
  · exact hts _ wd_311
  · exact hts _ wd_312
  · exact hts _ wd_314
  · exact hts _ wd_316
  · exact hts _ wd_318
  · exact hz.1.ref args
  · exact hz.2.ref args
  · exact hts _ wd_322
  · exact hts _ wd_321
  · exact hts _ wd_320

theorem ow_IS {A : Nat → Prop} {args : Array Value} {s : State} (hts : ∀ w ∈ w0, w.before args s = true) (h1 : ∀ w ∈ w1, w.before args s = true) (hz : tk_us A s s.heap) : ∀ a ∈ Bundle.ownAtoms RX3 54 "java/lang/IllegalStateException" ["java/lang/RuntimeException", "java/lang/Exception"], a.before args s = true := by
  intro a h
  simp only [Bundle.ownAtoms, Bundle.throwableAtoms, Bundle.throwableSAtoms, Bundle.chainSAtoms, Bundle.passSAtoms, List.cons_append, List.nil_append, List.append_assoc, List.append_nil, List.mem_cons, List.not_mem_nil, or_false] at h
  rcases h with rfl | rfl | rfl | rfl | rfl | rfl | rfl | rfl | rfl | rfl | rfl | rfl | rfl | rfl | rfl | rfl | rfl | rfl | rfl | rfl | rfl | rfl | rfl | rfl | rfl | rfl | rfl | rfl | rfl | rfl | rfl | rfl | rfl | rfl | rfl | rfl | rfl | rfl | rfl | rfl | rfl | rfl | rfl | rfl | rfl | rfl | rfl | rfl | rfl | rfl | rfl | rfl | rfl | rfl | rfl | rfl | rfl
  · exact hts _ wd_6
  · exact h1 _ wx_323
  · exact hts _ wd_332
  · exact h1 _ wx_336
  · exact hts _ wd_339
  · exact hts _ wd_341
  · exact hts _ wd_324
  · exact hts _ wd_325
  · exact hts _ wd_21
  · exact hts _ wd_22
  · exact hts _ wd_326
  · exact hts _ wd_331
  · exact hts _ wd_337
  · exact hts _ wd_357
  · exact hts _ wd_313
  · exact hts _ wd_358
  · exact hts _ wd_315
  · exact hts _ wd_359
  · exact hts _ wd_317
  · exact hts _ wd_327
  · exact hz.1.lays args
  · exact hts _ wd_329
  · exact hz.2.lays args
  · exact hts _ wd_319
  · exact hts _ wd_353
  · exact hts _ wd_354
  · exact hts _ wd_356
  · exact hts _ wd_319
  · exact hts _ wd_380
  · exact hts _ wd_381
  · exact hts _ wd_382
  · exact hts _ wd_347
  · exact h1 _ wx_305
  · exact hts _ wd_347
  · exact hts _ wd_348
  · exact hts _ wd_349
  · exact hts _ wd_350
  · exact h1 _ wx_307
  · exact hts _ wd_350
  · exact hts _ wd_351
  · exact hts _ wd_352
  · exact hts _ wd_353
  · exact h1 _ wx_309
  · exact hts _ wd_379
  · exact hts _ wd_370
  · exact h1 _ wx_371
  · exact hts _ wd_372
  · exact hts _ wd_335
  · exact hts _ wd_373
  · exact hts _ wd_374
  · exact hts _ wd_375
  · exact hts _ wd_376
  · exact hz.1.ref args
  · exact hz.2.ref args
  · exact hts _ wd_322
  · exact hts _ wd_321
  · exact hts _ wd_377

theorem ow_IA {A : Nat → Prop} {args : Array Value} {s : State} (hts : ∀ w ∈ w0, w.before args s = true) (h1 : ∀ w ∈ w1, w.before args s = true) (hz : tk_us A s s.heap) : ∀ a ∈ Bundle.ownAtoms RX3 72 "java/lang/IllegalArgumentException" ["java/lang/RuntimeException", "java/lang/Exception"], a.before args s = true := by
  intro a h
  simp only [Bundle.ownAtoms, Bundle.throwableAtoms, Bundle.throwableSAtoms, Bundle.chainSAtoms, Bundle.passSAtoms, List.cons_append, List.nil_append, List.append_assoc, List.append_nil, List.mem_cons, List.not_mem_nil, or_false] at h
  rcases h with rfl | rfl | rfl | rfl | rfl | rfl | rfl | rfl | rfl | rfl | rfl | rfl | rfl | rfl | rfl | rfl | rfl | rfl | rfl | rfl | rfl | rfl | rfl | rfl | rfl | rfl | rfl | rfl | rfl | rfl | rfl | rfl | rfl | rfl | rfl | rfl | rfl | rfl | rfl | rfl | rfl | rfl | rfl | rfl | rfl | rfl | rfl | rfl | rfl | rfl | rfl | rfl | rfl | rfl | rfl | rfl | rfl
  · exact hts _ wd_6
  · exact h1 _ wx_323
  · exact hts _ wd_332
  · exact h1 _ wx_336
  · exact hts _ wd_339
  · exact hts _ wd_341
  · exact hts _ wd_324
  · exact hts _ wd_325
  · exact hts _ wd_21
  · exact hts _ wd_22
  · exact hts _ wd_326
  · exact hts _ wd_331
  · exact hts _ wd_337
  · exact hts _ wd_357
  · exact hts _ wd_313
  · exact hts _ wd_358
  · exact hts _ wd_315
  · exact hts _ wd_359
  · exact hts _ wd_317
  · exact hts _ wd_327
  · exact hz.1.lays args
  · exact hts _ wd_329
  · exact hz.2.lays args
  · exact hts _ wd_319
  · exact hts _ wd_353
  · exact hts _ wd_354
  · exact hts _ wd_356
  · exact hts _ wd_319
  · exact hts _ wd_412
  · exact hts _ wd_413
  · exact hts _ wd_414
  · exact hts _ wd_347
  · exact h1 _ wx_305
  · exact hts _ wd_347
  · exact hts _ wd_348
  · exact hts _ wd_349
  · exact hts _ wd_350
  · exact h1 _ wx_307
  · exact hts _ wd_350
  · exact hts _ wd_351
  · exact hts _ wd_352
  · exact hts _ wd_353
  · exact h1 _ wx_309
  · exact hts _ wd_411
  · exact hts _ wd_402
  · exact h1 _ wx_403
  · exact hts _ wd_404
  · exact hts _ wd_334
  · exact hts _ wd_405
  · exact hts _ wd_406
  · exact hts _ wd_407
  · exact hts _ wd_408
  · exact hz.1.ref args
  · exact hz.2.ref args
  · exact hts _ wd_322
  · exact hts _ wd_321
  · exact hts _ wd_409
