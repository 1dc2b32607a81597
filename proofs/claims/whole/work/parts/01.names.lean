/-! ===== BEGIN words of one list among another's, by their places ===== -/
theorem goodIn_r {big : List Cond} (ws : List Cond) (ps : List Nat) (hp : ws = ps.filterMap (fun i => big[i]?)) (h : ws.all goodWord = true) : GoodIn big ws := by
  intro w hw
  have h1 := List.all_eq_true.mp h w hw
  rw [hp] at hw
  obtain ⟨i, -, hi⟩ := List.mem_filterMap.mp hw
  have hm : w ∈ big := by first | exact List.mem_of_getElem? hi | exact List.getElem?_mem hi
  exact ⟨hm, good_of_word h1⟩
theorem goodIn_app {big a b : List Cond} (ha : GoodIn big a) (hb : GoodIn big b) : GoodIn big (a ++ b) := fun w h => (List.mem_append.mp h).elim (ha w) (hb w)
theorem goodIn_ca {big a b : List Cond} {c : Cond} (ha : GoodIn big (c :: a)) (hb : GoodIn big b) : GoodIn big (c :: (a ++ b)) := fun w h => (List.mem_cons.mp h).elim (fun e => ha w (List.mem_cons.mpr (Or.inl e))) (fun h => (List.mem_append.mp h).elim (fun h => ha w (List.mem_cons.mpr (Or.inr h))) (hb w))
theorem goodIn_sub {big ws : List Cond} (hm : ∀ w ∈ ws, w ∈ big) (h : ws.all goodWord = true) : GoodIn big ws := fun w hw => ⟨hm w hw, good_of_word (List.all_eq_true.mp h w hw)⟩
/-! ===== END ===== -/

/-! ===== BEGIN exceptions that leave a method, and their catching by the caller (launches without stack traces) ===== -/
section VXA
/-! The laws vx_back, vx_callV, vx_callS, vx_callSW, vx_throw0, vx_throwS follow proofs of the library, with one case more: JvmDerived/Free/Laws.lean (Back.of_free), Shelf42/LK1.lean (callV, callS), Shelf/KitTraced.lean (throwNew0V, throwNewS). -/
/-- where a method has thrown q: the class by its name, the cell, what was written, the world -/
def vx_T (XC : String → State → State → Prop) (st : State) (q : Addr) (t : State) (mc ms : Nat) (free : Addr → Prop) : Prop :=
  ∃ (E : String) (ce : Cell) (L : List Loc), XC E st t ∧ t.heap[q]? = some ce ∧ ce.vm = .none ∧ st.vm.findClass E = some ce.cls ∧ st.WarmedH t.vm ∧ st.sameButNew ({ t with vm := st.vm } : State) L mc ms ∧ ∀ z ∈ L, free z.base
def vx_Q (Qc : Array Value → State → Outcome → State → Prop) (XC : String → State → State → Prop) (mc ms : Nat) (free : Addr → Prop) : Array Value → State → Outcome → State → Prop := fun a st o t =>
  (Qc a st o t ∧ ∃ L, FrameEnd st o t L mc ms ∧ ∀ q ∈ L, free q.base) ∨ ∃ q, o = .threw q ∧ vx_T XC st q t mc ms free
/-- a callee that returns or throws -/
def vx_Met (l : Launch) (y : MethodName) (ws : List Cond) (rm : Room) (Pc : Array Value → State → Prop) (Qc : Array Value → State → Outcome → State → Prop) (XC : String → State → State → Prop) (mc ms : Nat) (free : Addr → Prop) : Prop :=
  MetFree l y (headSpec ws rm) Pc (fun _ _ _ _ _ => True) (vx_Q Qc XC mc ms free)
def vx_Post (XC : String → State → State → Prop) (mc ms : Nat) (free : Addr → Prop) : Pt → Array Value → Addr → Pt → Prop := fun A a q B =>
  ∃ (g : JFrame) (mk : MethodId) (t : State) (L : List Loc) (E : String) (ce : Cell), B.U.heap = t.heap ∧ B.U.vm = t.vm ∧ XC E (A.U.calling g mk a) t ∧ t.heap[q]? = some ce ∧ ce.vm = .none ∧ A.U.vm.findClass E = some ce.cls ∧ B.locs = A.locs ++ L ∧ (∀ z ∈ L, free z.base) ∧ B.cells = A.cells + mc ∧ B.slots = A.slots + ms
def vx_Back (l : Launch) (R : Room) (p : Program) (e : Env) (below : List Frame) (s : State) (sargs : Array Value) (y : MethodName) (len W9 : Nat)
    (Pre : Pt → Array Value → Prop) (Post : Pt → Array Value → Option Value → Pt → Prop) (PostX : Pt → Array Value → Addr → Pt → Prop) : Prop :=
  ∀ (m : MethodId) (meth : Method) (c : Code) (A : Pt) (g : JFrame) (ig : Instr) (mk : MethodId) (a : Array Value),
    Stand p l e R s m sargs below meth c A.U A.locs A.cells A.slots → g.method = m → g.locals.size = c.maxLocals → decode c.code g.pc = .ok (ig, len) →
    2 * g.monitorRoom + (g.stack.map fun v => v.category).sum ≤ W9 → A.U.methodNamed? y = some mk → Pre A a →
    (∃ (v : Option Value) (B : Pt), Stand p l e R s m sargs below meth c B.U B.locs B.cells B.slots ∧ Post A a v B ∧
      Steps p.tables e below (doInvoke e (A.U.setTop g) [] mk a).1 (B.U.setTop { g with pc := g.pc + len, stack := v.toList ++ g.stack })) ∨
    (∃ (q : Addr) (B : Pt), Stand p l e R s m sargs below meth c B.U B.locs B.cells B.slots ∧ PostX A a q B ∧
      Steps p.tables e below (doInvoke e (A.U.setTop g) [] mk a).1 ((B.U.setTop g).pushFrame (.throwing q)))
section Payer
variable {l : Launch} {R : Room} {p : Program} {e : Env} {below : List Frame} {s : State} {sargs : Array Value} {y : MethodName} {len W9 : Nat}
theorem vx_back {ws : List Cond} {rm : Room} {Pc : Array Value → State → Prop} {Qc : Array Value → State → Outcome → State → Prop} {XC : String → State → State → Prop} {mc ms : Nat} {free : Addr → Prop} {bytes : ByteArray} {maxL : Nat} {ret : Option FieldType}
    (hM : vx_Met l y ws rm Pc Qc XC mc ms free) (hblind : FrameBlind Pc) (hrc : rm.cells = mc) (hrs : rm.slots = ms)
    (hframes : rm.frames + 1 ≤ R.frames) (hlocals : W9 + (maxL + 11) + rm.locals ≤ R.locals)
    (hws : ∀ w ∈ ws, ∀ a' U, s.WarmedH U.vm → w.before a' U = true) (hcode : Cond.code y bytes maxL ret ∈ ws) (hinit : ∀ a' U, s.WarmedH U.vm → (Cond.initialized y.cls).before a' U = true) :
    vx_Back l R p e below s sargs y len W9 (PreOf R mc ms Pc) (PostOf Qc mc ms free) (vx_Post XC mc ms free) := by
  intro m meth c A g ig mk a X hg hsize hdg hW hn hp
  have h1 : (headSpec ws rm).pre.before a A.U = true := atoms_intro fun w hw => hws w hw _ _ X.warmed
  have h2 : (Cond.code y bytes maxL ret).before a A.U = true := hws _ hcode _ _ X.warmed
  have h3 : (Cond.initialized y.cls).before a A.U = true := hinit _ _ X.warmed
  have h4 : A.cells + (headSpec ws rm).room.cells ≤ R.cells := by rw [show (headSpec ws rm).room.cells = mc from hrc]; exact hp.1
  have h5 : A.slots + (headSpec ws rm).room.slots ≤ R.slots := by rw [show (headSpec ws rm).room.slots = ms from hrs]; exact hp.2.1
  have hPc : Pc a (A.U.calling g mk a) := hblind _ _ _ _ hp.2.2
  obtain ⟨U, Ls, c0, s0⟩ := A
  dsimp only [Pt.U, Pt.locs, Pt.cells, Pt.slots] at h1 h2 h3 h4 h5 X hn hPc ⊢
  obtain ⟨methY, cY, hmY, hcY, -, hlY, -, -, -, -⟩ := Cond.code_spec hn h2
  obtain ⟨kY, hkY, -⟩ := className_of_methodNamed hn
  have hinitY : kY.init = .initialized := Cond.initialized_spec (findClass_of_methodNamed hn) hkY h3
  have h : At U g.method c below := by rw [hg]; exact X.here
  have hlocals9 : W9 + (maxL + 11) + (headSpec ws rm).room.locals ≤ R.locals := hlocals
  have happ : (headSpec ws rm).appliesLoose y e.platform (U.calling g mk a) = true :=
    Spec.appliesLoose_calling (g := g) h hdg hn hkY hinitY
      (X.room_calling (g := g) (R' := (headSpec ws rm).room) hsize hmY hcY hframes (by rw [hlY]; omega) h4 h5) h1
  obtain ⟨mid, hmid⟩ := h.above
  have hfr : (U.setTop g).frames = (.java g :: mid) ++ below := by rw [State.frames_setTop' g h.top, hmid]; rfl
  obtain ⟨o, s₂, hsteps, -, hend, hq⟩ := Steps.callFree hM p X.admits X.cas X.clock (acts := []) hfr happ hPc trivial
  have hq' : vx_Q Qc XC mc ms free a (U.calling g mk a) o s₂ := hq
  rw [State.frames_setTop' g h.top] at hend
  obtain ⟨g₀, hg0⟩ := Option.isSome_iff_exists.mp h.top
  obtain ⟨r, hr⟩ := State.topJava?_eq_some.mp hg0
  have hr' : (({ U with heap := s₂.heap, slotsUsed := s₂.slotsUsed } : State).setVm s₂.vm).frames = .java g₀ :: r := hr
  rcases hq' with ⟨hqc, L, hfe, hL⟩ | ⟨q, rfl, E, ce, L, hx, hce, hcv, hcl, hW₂, hsm, hL⟩
  · obtain ⟨⟨v, rfl⟩, hW₂, e2, q2, q3, q4, q5, q6⟩ := id hfe
    have e3 : s₂ = ({ (U.calling g mk a).setFrames s₂.frames with heap := s₂.heap, slotsUsed := s₂.slotsUsed } : State).setVm s₂.vm := by
      have : s₂ = ({ s₂ with vm := (U.calling g mk a).vm } : State).setVm s₂.vm := rfl
      rw [e2] at this
      exact this
    obtain ⟨c₂, i₂, len₂, hc₂, hd₂, hf₂⟩ := hend
    have hW' : U.WarmedH s₂.vm := hW₂
    have hcc : c₂ = c := by
      have h1 : s₂.code? g.method = U.code? g.method := by
        rw [State.code?_eq, State.code?_eq, hW'.alike.method?]
      exact Option.some.inj (hc₂.symm.trans (h1.trans h.code))
    subst hcc
    have hlen : len₂ = len := by rw [hdg] at hd₂; cases hd₂; rfl
    subst hlen
    have hs₂ : s₂ = (({ U with heap := s₂.heap, slotsUsed := s₂.slotsUsed } : State).setVm s₂.vm).setTop { g with pc := g.pc + len₂, stack := v.toList ++ g.stack } := by
      refine e3.trans ?_
      rw [hf₂, State.calling_eq h.top, State.setFrames_setFrames, State.setTop_of_frames _ hr', hr]
      rfl
    have hsame : U.sameButNew ({ U with heap := s₂.heap, slotsUsed := s₂.slotsUsed } : State) L mc ms := by
      refine ⟨?_, q2, q3, q4, q5, q6⟩
      obtain ⟨t, ht, -⟩ := State.frames_cons hr
      show ({ U with heap := s₂.heap, slotsUsed := s₂.slotsUsed } : State) = { U.setFrames U.frames with heap := s₂.heap, slotsUsed := s₂.slotsUsed }
      rw [State.setFrames_self ht]
    subst hg
    refine Or.inl ⟨v, ⟨(({ U with heap := s₂.heap, slotsUsed := s₂.slotsUsed } : State).setVm s₂.vm), Ls ++ L, c0 + mc, s0 + ms⟩,
      ⟨X.admits, X.cas, X.clock, X.frames, X.room, X.hears, X.method, X.code, (X.here.setHeapUsed s₂.heap s₂.slotsUsed).setVm hW'.alike, X.tail, State.WarmedH.trans X.warmed hW', X.limits, X.bytes, X.same.trans (hsame.setVm s.vm)⟩,
      ⟨g, mk, s₂, L, rfl, rfl, hqc, rfl, hL, rfl, rfl⟩, ?_⟩
    show Steps p.tables e below _ ((({ U with heap := s₂.heap, slotsUsed := s₂.slotsUsed } : State).setVm s₂.vm).setTop { g with pc := g.pc + len₂, stack := v.toList ++ g.stack })
    rw [← hs₂]
    exact hsteps
  · obtain ⟨e2, q2, q3, q4, q5, q6⟩ := id hsm
    have e3 : s₂ = ({ (U.calling g mk a).setFrames s₂.frames with heap := s₂.heap, slotsUsed := s₂.slotsUsed } : State).setVm s₂.vm := by
      have : s₂ = ({ s₂ with vm := (U.calling g mk a).vm } : State).setVm s₂.vm := rfl
      rw [e2] at this
      exact this
    have hf₂ : s₂.frames = .throwing q :: .java g :: U.frames.tail := hend
    have hW' : U.WarmedH s₂.vm := hW₂
    have hs₂ : s₂ = ((({ U with heap := s₂.heap, slotsUsed := s₂.slotsUsed } : State).setVm s₂.vm).setTop g).pushFrame (.throwing q) := by
      refine e3.trans ?_
      rw [hf₂, State.calling_eq h.top, State.setFrames_setFrames, State.pushFrame, State.frames_setTop _ hr', State.setTop_of_frames _ hr', State.setFrames_setFrames, hr]
      rfl
    have hsame : U.sameButNew ({ U with heap := s₂.heap, slotsUsed := s₂.slotsUsed } : State) L mc ms := by
      refine ⟨?_, q2, q3, q4, q5, q6⟩
      obtain ⟨t, ht, -⟩ := State.frames_cons hr
      show ({ U with heap := s₂.heap, slotsUsed := s₂.slotsUsed } : State) = { U.setFrames U.frames with heap := s₂.heap, slotsUsed := s₂.slotsUsed }
      rw [State.setFrames_self ht]
    subst hg
    refine Or.inr ⟨q, ⟨(({ U with heap := s₂.heap, slotsUsed := s₂.slotsUsed } : State).setVm s₂.vm), Ls ++ L, c0 + mc, s0 + ms⟩,
      ⟨X.admits, X.cas, X.clock, X.frames, X.room, X.hears, X.method, X.code, (X.here.setHeapUsed s₂.heap s₂.slotsUsed).setVm hW'.alike, X.tail, State.WarmedH.trans X.warmed hW', X.limits, X.bytes, X.same.trans (hsame.setVm s.vm)⟩,
      ⟨g, mk, s₂, L, E, ce, rfl, rfl, hx, hce, hcv, hcl, rfl, hL, rfl, rfl⟩, ?_⟩
    show Steps p.tables e below _ (((({ U with heap := s₂.heap, slotsUsed := s₂.slotsUsed } : State).setVm s₂.vm).setTop g).pushFrame (.throwing q))
    rw [← hs₂]
    exact hsteps
end Payer
section Calls
variable {p : Program} {l : Launch} {e : Env} {R : Room} {s : State} {m : MethodId} {args : Array Value} {below : List Frame} {meth : Method} {c : Code} {T : State} {locs : List Loc} {cells slots : Nat}
theorem vx_callV (X : Stand p l e R s m args below meth c T locs cells slots) (hexec : p.tables.exec = Jvm.exec) {own C : String} {index : Nat} {y : MethodName} {bytes : ByteArray} {maxL : Nat} {ret : Option FieldType}
    (hown : s.vm.findClass own = some m.cls) (hlink : (Cond.methodLink own index y).before args s = true) (hinst : (Cond.instanceMethod y).before args s = true) (hsel : (Cond.selects C y y).before args s = true)
    (hcode : (Cond.code y bytes maxL ret).before args s = true) (hy : y.cls ≠ "java/lang/invoke/MethodHandle" ∧ y.cls ≠ "java/lang/invoke/VarHandle")
    {W9 : Nat} {Pre : Pt → Array Value → Prop} {Post : Pt → Array Value → Option Value → Pt → Prop} {PostX : Pt → Array Value → Addr → Pt → Prop} (hK : vx_Back l R p e below s args y 3 W9 Pre Post PostX)
    {b : Addr} {cellB : Cell} (hcell : T.heap[b]? = some cellB) (hobj : cellB.vm.isStatics = false) (hcls : s.vm.findClass C = some cellB.cls)
    {g : JFrame} (hg : g.method = m) (hsize : g.locals.size = c.maxLocals) {argsL rest : List Value} (hlen : ∀ sig, parseMethodDescriptor y.desc = some sig → argsL.length = sig.parameters.length)
    (hstack : g.stack = argsL.reverse ++ .ref b :: rest) (hW : 2 * g.monitorRoom + (rest.map fun v => v.category).sum ≤ W9) (hdg : decode c.code g.pc = .ok (.invokevirtual index, 3))
    (hpre : ∀ vm₁, s.WarmedH vm₁ → Pre ⟨T.setVm vm₁, locs, cells, slots⟩ (Value.ref b :: argsL).toArray) :
    (∃ (v : Option Value) (vm₁ : Vm) (B : Pt), s.WarmedH vm₁ ∧ Stand p l e R s m args below meth c B.U B.locs B.cells B.slots ∧ Post ⟨T.setVm vm₁, locs, cells, slots⟩ (Value.ref b :: argsL).toArray v B ∧
      ∀ target, Steps p.tables e below (B.U.setTop { g with pc := g.pc + 3, stack := v.toList ++ rest }) target → Steps p.tables e below (T.setTop g) target) ∨
    (∃ (q : Addr) (vm₁ : Vm) (B : Pt), s.WarmedH vm₁ ∧ Stand p l e R s m args below meth c B.U B.locs B.cells B.slots ∧ PostX ⟨T.setVm vm₁, locs, cells, slots⟩ (Value.ref b :: argsL).toArray q B ∧
      Steps p.tables e below (T.setTop g) ((B.U.setTop { g with stack := rest }).pushFrame (.throwing q))) := by
  obtain ⟨mk, methM, hnamed, hmethM, hstM, habM⟩ := Cond.instanceMethod_spec hinst
  obtain ⟨methM', cM, hmethM', -, -, -, -, -, -, hsigM⟩ := Cond.code_spec hnamed hcode
  cases hmethM.symm.trans hmethM'
  obtain ⟨c2, r2, m2, q1, q2, q3, q4, kP, hkP, hkPi⟩ := Cond.selects_spec hsel
  cases hcls.symm.trans q1
  cases (State.methodFound?_of_named hnamed hy).symm.trans q2
  cases hnamed.symm.trans q3
  have hselP : selectMethod e.platform s.vm cellB.cls mk = .method mk := by rw [Launch.admits_selectMethod X.admits]; exact q4
  obtain ⟨vm₁, X₁, hstep₁⟩ := X.invokevirtual hexec hown hlink hnamed hmethM hstM hkP hkPi hy (a := b) (cell := cellB) hcell
    (fun z h => by rw [h] at hobj; cases hobj) hselP hmethM habM hkP hkPi (g := g) hg (argsL := argsL) (rest := rest) (hlen _ hsigM) hstack hdg
  rcases hK m meth c ⟨T.setVm vm₁, locs, cells, slots⟩ { g with stack := rest } (.invokevirtual index) mk (Value.ref b :: argsL).toArray X₁ hg hsize hdg hW (X₁.named hnamed) (hpre vm₁ X₁.warmed) with ⟨v, B, X', hpost, hsteps⟩ | ⟨q, B, X', hpost, hsteps⟩
  · exact Or.inl ⟨v, vm₁, B, X₁.warmed, X', hpost, fun target h => hstep₁ _ fun acts => by rw [doInvoke_state]; exact hsteps.trans h⟩
  · exact Or.inr ⟨q, vm₁, B, X₁.warmed, X', hpost, hstep₁ _ fun acts => by rw [doInvoke_state]; exact hsteps⟩
theorem vx_callS (X : Stand p l e R s m args below meth c T locs cells slots) (hexec : p.tables.exec = Jvm.exec) {own : String} {index : Nat} {y : MethodName} {bytes : ByteArray} {maxL : Nat} {ret : Option FieldType}
    (hown : s.vm.findClass own = some m.cls) (hlink : (Cond.methodLink own index y).before args s = true) (hstat : (Cond.static y).before args s = true) (hinit : (Cond.initialized y.cls).before args s = true)
    (hcode : (Cond.code y bytes maxL ret).before args s = true) (hy : y.cls ≠ "java/lang/invoke/MethodHandle" ∧ y.cls ≠ "java/lang/invoke/VarHandle")
    {W9 : Nat} {Pre : Pt → Array Value → Prop} {Post : Pt → Array Value → Option Value → Pt → Prop} {PostX : Pt → Array Value → Addr → Pt → Prop} (hK : vx_Back l R p e below s args y 3 W9 Pre Post PostX)
    {g : JFrame} (hg : g.method = m) (hsize : g.locals.size = c.maxLocals) {argsL rest : List Value} (hlen : ∀ sig, parseMethodDescriptor y.desc = some sig → argsL.length = sig.parameters.length)
    (hstack : g.stack = argsL.reverse ++ rest) (hW : 2 * g.monitorRoom + (rest.map fun v => v.category).sum ≤ W9) (hdg : decode c.code g.pc = .ok (.invokestatic index, 3))
    (hpre : ∀ vm₁, s.WarmedH vm₁ → Pre ⟨T.setVm vm₁, locs, cells, slots⟩ argsL.toArray) :
    (∃ (v : Option Value) (vm₁ : Vm) (B : Pt), s.WarmedH vm₁ ∧ Stand p l e R s m args below meth c B.U B.locs B.cells B.slots ∧ Post ⟨T.setVm vm₁, locs, cells, slots⟩ argsL.toArray v B ∧
      ∀ target, Steps p.tables e below (B.U.setTop { g with pc := g.pc + 3, stack := v.toList ++ rest }) target → Steps p.tables e below (T.setTop g) target) ∨
    (∃ (q : Addr) (vm₁ : Vm) (B : Pt), s.WarmedH vm₁ ∧ Stand p l e R s m args below meth c B.U B.locs B.cells B.slots ∧ PostX ⟨T.setVm vm₁, locs, cells, slots⟩ argsL.toArray q B ∧
      Steps p.tables e below (T.setTop g) ((B.U.setTop { g with stack := rest }).pushFrame (.throwing q))) := by
  obtain ⟨mk, hnamed⟩ := Cond.code_named hcode
  obtain ⟨methM, cM, hmethM, -, -, -, -, -, -, hsigM⟩ := Cond.code_spec hnamed hcode
  have hstatic : methM.isStatic = true := Cond.static_spec hnamed hmethM hstat
  obtain ⟨kP, hkP, -⟩ := className_of_methodNamed hnamed
  have hinitP : kP.init = .initialized := Cond.initialized_spec (findClass_of_methodNamed hnamed) hkP hinit
  obtain ⟨vm₁, X₁, hstep₁⟩ := X.invokestatic hexec hown hlink hnamed hmethM hstatic hkP hinitP hy (g := g) hg (argsL := argsL) (rest := rest) (hlen _ hsigM) hstack hdg
  rcases hK m meth c ⟨T.setVm vm₁, locs, cells, slots⟩ { g with stack := rest } (.invokestatic index) mk argsL.toArray X₁ hg hsize hdg hW (X₁.named hnamed) (hpre vm₁ X₁.warmed) with ⟨v, B, X', hpost, hsteps⟩ | ⟨q, B, X', hpost, hsteps⟩
  · exact Or.inl ⟨v, vm₁, B, X₁.warmed, X', hpost, fun target h => hstep₁ _ fun acts => by rw [doInvoke_state]; exact hsteps.trans h⟩
  · exact Or.inr ⟨q, vm₁, B, X₁.warmed, X', hpost, hstep₁ _ fun acts => by rw [doInvoke_state]; exact hsteps⟩
end Calls
theorem vx_cls {s : State} {T : State} {vm₁ : Vm} {E : String} {k : ClassId} (hW : s.WarmedH vm₁) (h : (T.setVm vm₁).vm.findClass E = some k) : s.vm.findClass E = some k := by
  have h1 : vm₁.findClass E = some k := h
  rw [hW.alike.findClass] at h1
  exact h1
/-- the method's frame g, with q thrown over it -/
def vx_W (p : Program) (l : Launch) (e : Env) (R : Room) (s : State) (m : MethodId) (args : Array Value) (below : List Frame) (meth : Method) (c : Code) (H : Heap) (locs : List Loc) (cells slots : Nat) (Q : State → Prop) (g : JFrame) (q : Addr) : Prop :=
  ∀ T : State, T.heap = H → Stand p l e R s m args below meth c T locs cells slots → ∃ t, Steps p.tables e below ((T.setTop g).pushFrame (.throwing q)) t ∧ Q t
def vx_Run (p : Program) (l : Launch) (e : Env) (R : Room) (s : State) (m : MethodId) (args : Array Value) (below : List Frame) (meth : Method) (c : Code) (H : Heap) (locs : List Loc) (cells slots mc ms : Nat) (g : JFrame) (rest : List Value) (Qa : State → Outcome → State → Prop) (XC : String → State → State → Prop) (free : Addr → Prop) : Prop :=
  ∀ T : State, T.heap = H → Stand p l e R s m args below meth c T locs cells slots →
    (∃ (v : Option Value) (st₀ t T' : State) (L : List Loc), st₀.heap = H ∧ Stand p l e R s m args below meth c T' (locs ++ L) (cells + mc) (slots + ms) ∧ (∀ q ∈ L, free q.base) ∧ T'.heap = t.heap ∧ T'.vm = t.vm ∧ Qa st₀ (.returned v) t ∧
      Goes p e below T g T' { g with pc := g.pc + 3, stack := v.toList ++ rest }) ∨
    (∃ (q : Addr) (st₀ t T' : State) (L : List Loc) (E : String) (ce : Cell), st₀.heap = H ∧ Stand p l e R s m args below meth c T' (locs ++ L) (cells + mc) (slots + ms) ∧ (∀ z ∈ L, free z.base) ∧ T'.heap = t.heap ∧ T'.vm = t.vm ∧ XC E st₀ t ∧ t.heap[q]? = some ce ∧ ce.vm = .none ∧ s.vm.findClass E = some ce.cls ∧
      Steps p.tables e below (T.setTop g) ((T'.setTop { g with stack := rest }).pushFrame (.throwing q)))
def vx_X {S : Type} (px : S → Prop) (B : String → S → State → Prop) (A : Nat → Prop) : String → State → State → Prop := fun E st t => ∃ u : S, px u ∧ B E u t ∧ va_F A st t
section Runs
variable {p : Program} {l : Launch} {e : Env} {R : Room} {s : State} {m : MethodId} {args : Array Value} {below : List Frame} {meth : Method} {c : Code} {H : Heap} {locs : List Loc} {cells slots : Nat}
variable {y : MethodName} {bytes cc : ByteArray} {maxL nL mc ms n index : Nat} {ret : Option FieldType} {ws : List Cond} {rm : Room} {Pc : Array Value → State → Prop} {Qc : Array Value → State → Outcome → State → Prop} {XC : String → State → State → Prop} {free : Addr → Prop} {Ts : List Cond} {own C : String} {b : Addr} {As rest : List Value} {g : JFrame}
theorem vx_callBack (cb : CallB R s args own index y bytes maxL ret ws rm mc ms n) (hM : vx_Met l y ws rm Pc Qc XC mc ms free) (hbl : FrameBlind Pc) : vx_Back l R p e below s args y 3 8 (PreOf R mc ms Pc) (PostOf Qc mc ms free) (vx_Post XC mc ms free) := by
  obtain ⟨hrc, hrs, hfr, hlo, hws, hcw, -, hini, -⟩ := cb
  exact vx_back (bytes := bytes) (maxL := maxL) (ret := ret) hM hbl hrc hrs hfr hlo hws hcw (fun a' U hW => word_at hW (Or.inl (by first | rfl | simp [Cond.onTables, Cond.keeps, Cond.steady])) hini)
theorem vx_runV (S : CallFix p m c cc nL s args Ts own) (hM : vx_Met l y ws rm Pc Qc XC mc ms free) (cw : CallW R s args own C index y bytes maxL ret ws rm mc ms n) (hp : PreV s H C b Pc As)
    (hg : g.method = m) (hn : As.length = n) (hsize : g.locals.size = nL) (hstack : g.stack = As.reverse ++ .ref b :: rest) (hW : 2 * g.monitorRoom + (rest.map fun v => v.category).sum ≤ 8) (hdg : decode cc g.pc = .ok (.invokevirtual index, 3)) (hf : cells + mc ≤ R.cells ∧ slots + ms ≤ R.slots) :
    vx_Run p l e R s m args below meth c H locs cells slots mc ms g rest (Qc (Value.ref b :: As).toArray) XC free := by
  have hK : vx_Back l R p e below s args y 3 8 (PreOf R mc ms Pc) (PostOf Qc mc ms free) (vx_Post XC mc ms free) := vx_callBack cw.1 hM hp.1
  obtain ⟨⟨-, -, -, -, -, -, hcode, -, hy, hlen, hl⟩, hin, hse⟩ := cw
  obtain ⟨hx, hb, hml, ho, -⟩ := S
  obtain ⟨-, ⟨cellB, hcB, hoB, hclB⟩, hPc⟩ := hp
  intro T hT X
  rcases vx_callV X hx (C := C) (bytes := bytes) (maxL := maxL) (ret := ret) ho hl hin hse hcode hy hK (by rw [hT]; exact hcB) hoB hclB hg (hsize.trans hml.symm) (argsL := As) (rest := rest) (fun sig h => hn.trans (hlen sig h)) hstack hW (by rw [hb]; exact hdg)
    (fun vm₁ hW₁ => ⟨hf.1, hf.2, hPc (T.setVm vm₁) hT hW₁⟩) with ⟨v, vm₁, ⟨U', l2, c2, s2⟩, hW₁, X', ⟨g', mk, t, L, e1, e2, hq, h1, hL, h2, h3⟩, st⟩ | ⟨q, vm₁, ⟨U', l2, c2, s2⟩, hW₁, X', ⟨g', mk, t, L, E, ce, e1, e2, hq, hce, hcv, hcl, h1, hL, h2, h3⟩, st⟩
  · dsimp only [Pt.U, Pt.locs, Pt.cells, Pt.slots] at X' e1 e2 h1 h2 h3 st
    subst h1; subst h2; subst h3
    exact Or.inl ⟨v, (T.setVm vm₁).calling g' mk (Value.ref b :: As).toArray, t, U', L, hT, X', hL, e1, e2, hq, st⟩
  · dsimp only [Pt.U, Pt.locs, Pt.cells, Pt.slots] at X' e1 e2 h1 h2 h3 st hcl
    subst h1; subst h2; subst h3
    exact Or.inr ⟨q, (T.setVm vm₁).calling g' mk (Value.ref b :: As).toArray, t, U', L, E, ce, hT, X', hL, e1, e2, hq, hce, hcv, vx_cls hW₁ hcl, st⟩
theorem vx_runS (S : CallFix p m c cc nL s args Ts own) (hM : vx_Met l y ws rm Pc Qc XC mc ms free) (cw : CallB R s args own index y bytes maxL ret ws rm mc ms n ∧ (Cond.static y).before args s = true) (hp : PreS s H Pc As)
    (hg : g.method = m) (hn : As.length = n) (hsize : g.locals.size = nL) (hstack : g.stack = As.reverse ++ rest) (hW : 2 * g.monitorRoom + (rest.map fun v => v.category).sum ≤ 8) (hdg : decode cc g.pc = .ok (.invokestatic index, 3)) (hf : cells + mc ≤ R.cells ∧ slots + ms ≤ R.slots) :
    vx_Run p l e R s m args below meth c H locs cells slots mc ms g rest (Qc As.toArray) XC free := by
  have hK : vx_Back l R p e below s args y 3 8 (PreOf R mc ms Pc) (PostOf Qc mc ms free) (vx_Post XC mc ms free) := vx_callBack cw.1 hM hp.1
  obtain ⟨⟨-, -, -, -, -, -, hcode, hini, hy, hlen, hl⟩, hstt⟩ := cw
  obtain ⟨hx, hb, hml, ho, -⟩ := S
  intro T hT X
  rcases vx_callS X hx (bytes := bytes) (maxL := maxL) (ret := ret) ho hl hstt hini hcode hy hK hg (hsize.trans hml.symm) (argsL := As) (rest := rest) (fun sig h => hn.trans (hlen sig h)) hstack hW (by rw [hb]; exact hdg)
    (fun vm₁ hW₁ => ⟨hf.1, hf.2, hp.2 (T.setVm vm₁) hT hW₁⟩) with ⟨v, vm₁, ⟨U', l2, c2, s2⟩, hW₁, X', ⟨g', mk, t, L, e1, e2, hq, h1, hL, h2, h3⟩, st⟩ | ⟨q, vm₁, ⟨U', l2, c2, s2⟩, hW₁, X', ⟨g', mk, t, L, E, ce, e1, e2, hq, hce, hcv, hcl, h1, hL, h2, h3⟩, st⟩
  · dsimp only [Pt.U, Pt.locs, Pt.cells, Pt.slots] at X' e1 e2 h1 h2 h3 st
    subst h1; subst h2; subst h3
    exact Or.inl ⟨v, (T.setVm vm₁).calling g' mk As.toArray, t, U', L, hT, X', hL, e1, e2, hq, st⟩
  · dsimp only [Pt.U, Pt.locs, Pt.cells, Pt.slots] at X' e1 e2 h1 h2 h3 st hcl
    subst h1; subst h2; subst h3
    exact Or.inr ⟨q, (T.setVm vm₁).calling g' mk As.toArray, t, U', L, E, ce, hT, X', hL, e1, e2, hq, hce, hcv, vx_cls hW₁ hcl, st⟩
end Runs
section Rows
variable {p : Program} {l : Launch} {e : Env} {R : Room} {s : State} {m : MethodId} {args : Array Value} {below : List Frame} {meth : Method} {c : Code} {H : Heap} {locs : List Loc} {cells slots : Nat} {Q : State → Prop}
variable {mc ms : Nat} {free : Addr → Prop} {A0 A1 : Nat → Prop} {H0 : Heap} {a : Array Value} {pc : Nat} {ls : Array Slot} {st0 rest : List Value}
theorem vx_keep {st₀ t T' : State} {L : List Loc} (h0 : st₀.heap = H) (e1 : T'.heap = t.heap) (hS : va_S A0 H0 H locs) (hA : ∀ q, q < H.size → A1 q → A0 q) (hf : ∀ q, free q → A0 q) (hL : ∀ q ∈ L, free q.base) (hF : va_F A1 st₀ t) :
    H.size ≤ T'.heap.size ∧ (∀ q : Nat, q < H.size → ¬ A1 q → T'.heap[q]? = H[q]?) ∧ va_S A0 H0 T'.heap (locs ++ L) := by
  obtain ⟨hz, hk⟩ := hF
  rw [h0] at hz hk
  exact ⟨by rw [e1]; exact hz, fun q h1 h2 => by rw [e1]; exact hk q h1 h2,
    ⟨Nat.le_trans hS.1 (by rw [e1]; exact hz), fun q h1 h2 => by rw [e1, hk q (Nat.lt_of_lt_of_le h1 hS.1) (fun z => h2 (hA q (Nat.lt_of_lt_of_le h1 hS.1) z))]; exact hS.2.1 q h1 h2, fun q hq => by
      rcases List.mem_append.mp hq with h | h
      · exact hS.2.2 q h
      · exact hf _ (hL q h)⟩⟩
theorem vx_calli {S SX : Type} {post : Int32 → S → Prop} {px : SX → Prop} {B : S → State → Prop} {BX : String → SX → State → Prop} {AX : Nat → Prop} (hr : vx_Run p l e R s m args below meth c H locs cells slots mc ms (F0 m pc ls st0) rest (va_Qi post B A1 a) (vx_X px BX AX) free) (hS : va_S A0 H0 H locs) (hA : ∀ q, q < H.size → A1 q → A0 q) (hf : ∀ q, free q → A0 q) (hAX : ∀ q, q < H.size → AX q → A0 q)
    (kx : ∀ (E : String) (ce : Cell) (q9 : Addr) (u : SX) (t : State) (H1 : Heap) (locs1 : List Loc), t.heap = H1 → s.vm.Alike t.vm → px u → BX E u t → H.size ≤ H1.size → (∀ q : Nat, q < H.size → ¬ AX q → H1[q]? = H[q]?) → va_S A0 H0 H1 locs1 → H1[q9]? = some ce → ce.vm = .none → s.vm.findClass E = some ce.cls → vx_W p l e R s m args below meth c H1 locs1 (cells + mc) (slots + ms) Q (F0 m pc ls rest) q9)
    (kk : ∀ (r : Int32) (u : S) (t : State) (H1 : Heap) (locs1 : List Loc), t.heap = H1 → s.vm.Alike t.vm → post r u → B u t → H.size ≤ H1.size → (∀ q : Nat, q < H.size → ¬ A1 q → H1[q]? = H[q]?) → va_S A0 H0 H1 locs1 → W p l e R s m args below meth c H1 locs1 (cells + mc) (slots + ms) Q (F0 m (pc + 3) ls (.int r :: rest))) : W p l e R s m args below meth c H locs cells slots Q (F0 m pc ls st0) := by
  intro T hT X
  rcases hr T hT X with ⟨v, st₀, t, T', L, h0, X', hL, e1, e2, ⟨⟨r, u, hv, hp, hb⟩, hF⟩, st⟩ | ⟨q, st₀, t, T', L, E, ce, h0, X', hL, e1, e2, ⟨u, hp, hb, hF⟩, hce, hcv, hcl, st⟩
  · cases hv
    obtain ⟨k1, k2, k3⟩ := vx_keep h0 e1 hS hA hf hL hF
    obtain ⟨t2, a1, b1⟩ := kk r u t T'.heap (locs ++ L) e1.symm (by rw [← e2]; exact X'.warmed.alike) hp hb k1 k2 k3 T' rfl X'
    exact ⟨t2, st t2 a1, b1⟩
  · obtain ⟨k1, k2, k3⟩ := vx_keep h0 e1 hS hAX hf hL hF
    obtain ⟨t2, a1, b1⟩ := kx E ce q u t T'.heap (locs ++ L) e1.symm (by rw [← e2]; exact X'.warmed.alike) hp hb k1 k2 k3 (by rw [e1]; exact hce) hcv hcl T' rfl X'
    exact ⟨t2, st.trans a1, b1⟩
theorem vx_calll {S SX : Type} {post : Int64 → S → Prop} {px : SX → Prop} {B : S → State → Prop} {BX : String → SX → State → Prop} {AX : Nat → Prop} (hr : vx_Run p l e R s m args below meth c H locs cells slots mc ms (F0 m pc ls st0) rest (va_Ql post B A1 a) (vx_X px BX AX) free) (hS : va_S A0 H0 H locs) (hA : ∀ q, q < H.size → A1 q → A0 q) (hf : ∀ q, free q → A0 q) (hAX : ∀ q, q < H.size → AX q → A0 q)
    (kx : ∀ (E : String) (ce : Cell) (q9 : Addr) (u : SX) (t : State) (H1 : Heap) (locs1 : List Loc), t.heap = H1 → s.vm.Alike t.vm → px u → BX E u t → H.size ≤ H1.size → (∀ q : Nat, q < H.size → ¬ AX q → H1[q]? = H[q]?) → va_S A0 H0 H1 locs1 → H1[q9]? = some ce → ce.vm = .none → s.vm.findClass E = some ce.cls → vx_W p l e R s m args below meth c H1 locs1 (cells + mc) (slots + ms) Q (F0 m pc ls rest) q9)
    (kk : ∀ (r : Int64) (u : S) (t : State) (H1 : Heap) (locs1 : List Loc), t.heap = H1 → s.vm.Alike t.vm → post r u → B u t → H.size ≤ H1.size → (∀ q : Nat, q < H.size → ¬ A1 q → H1[q]? = H[q]?) → va_S A0 H0 H1 locs1 → W p l e R s m args below meth c H1 locs1 (cells + mc) (slots + ms) Q (F0 m (pc + 3) ls (.long r :: rest))) : W p l e R s m args below meth c H locs cells slots Q (F0 m pc ls st0) := by
  intro T hT X
  rcases hr T hT X with ⟨v, st₀, t, T', L, h0, X', hL, e1, e2, ⟨⟨r, u, hv, hp, hb⟩, hF⟩, st⟩ | ⟨q, st₀, t, T', L, E, ce, h0, X', hL, e1, e2, ⟨u, hp, hb, hF⟩, hce, hcv, hcl, st⟩
  · cases hv
    obtain ⟨k1, k2, k3⟩ := vx_keep h0 e1 hS hA hf hL hF
    obtain ⟨t2, a1, b1⟩ := kk r u t T'.heap (locs ++ L) e1.symm (by rw [← e2]; exact X'.warmed.alike) hp hb k1 k2 k3 T' rfl X'
    exact ⟨t2, st t2 a1, b1⟩
  · obtain ⟨k1, k2, k3⟩ := vx_keep h0 e1 hS hAX hf hL hF
    obtain ⟨t2, a1, b1⟩ := kx E ce q u t T'.heap (locs ++ L) e1.symm (by rw [← e2]; exact X'.warmed.alike) hp hb k1 k2 k3 (by rw [e1]; exact hce) hcv hcl T' rfl X'
    exact ⟨t2, st.trans a1, b1⟩
theorem vx_callf {S SX : Type} {post : UInt32 → S → Prop} {px : SX → Prop} {B : S → State → Prop} {BX : String → SX → State → Prop} {AX : Nat → Prop} (hr : vx_Run p l e R s m args below meth c H locs cells slots mc ms (F0 m pc ls st0) rest (va_Qf post B A1 a) (vx_X px BX AX) free) (hS : va_S A0 H0 H locs) (hA : ∀ q, q < H.size → A1 q → A0 q) (hf : ∀ q, free q → A0 q) (hAX : ∀ q, q < H.size → AX q → A0 q)
    (kx : ∀ (E : String) (ce : Cell) (q9 : Addr) (u : SX) (t : State) (H1 : Heap) (locs1 : List Loc), t.heap = H1 → s.vm.Alike t.vm → px u → BX E u t → H.size ≤ H1.size → (∀ q : Nat, q < H.size → ¬ AX q → H1[q]? = H[q]?) → va_S A0 H0 H1 locs1 → H1[q9]? = some ce → ce.vm = .none → s.vm.findClass E = some ce.cls → vx_W p l e R s m args below meth c H1 locs1 (cells + mc) (slots + ms) Q (F0 m pc ls rest) q9)
    (kk : ∀ (r : UInt32) (u : S) (t : State) (H1 : Heap) (locs1 : List Loc), t.heap = H1 → s.vm.Alike t.vm → post r u → B u t → H.size ≤ H1.size → (∀ q : Nat, q < H.size → ¬ A1 q → H1[q]? = H[q]?) → va_S A0 H0 H1 locs1 → W p l e R s m args below meth c H1 locs1 (cells + mc) (slots + ms) Q (F0 m (pc + 3) ls (.float r :: rest))) : W p l e R s m args below meth c H locs cells slots Q (F0 m pc ls st0) := by
  intro T hT X
  rcases hr T hT X with ⟨v, st₀, t, T', L, h0, X', hL, e1, e2, ⟨⟨r, u, hv, hp, hb⟩, hF⟩, st⟩ | ⟨q, st₀, t, T', L, E, ce, h0, X', hL, e1, e2, ⟨u, hp, hb, hF⟩, hce, hcv, hcl, st⟩
  · cases hv
    obtain ⟨k1, k2, k3⟩ := vx_keep h0 e1 hS hA hf hL hF
    obtain ⟨t2, a1, b1⟩ := kk r u t T'.heap (locs ++ L) e1.symm (by rw [← e2]; exact X'.warmed.alike) hp hb k1 k2 k3 T' rfl X'
    exact ⟨t2, st t2 a1, b1⟩
  · obtain ⟨k1, k2, k3⟩ := vx_keep h0 e1 hS hAX hf hL hF
    obtain ⟨t2, a1, b1⟩ := kx E ce q u t T'.heap (locs ++ L) e1.symm (by rw [← e2]; exact X'.warmed.alike) hp hb k1 k2 k3 (by rw [e1]; exact hce) hcv hcl T' rfl X'
    exact ⟨t2, st.trans a1, b1⟩
theorem vx_calld {S SX : Type} {post : UInt64 → S → Prop} {px : SX → Prop} {B : S → State → Prop} {BX : String → SX → State → Prop} {AX : Nat → Prop} (hr : vx_Run p l e R s m args below meth c H locs cells slots mc ms (F0 m pc ls st0) rest (va_Qd post B A1 a) (vx_X px BX AX) free) (hS : va_S A0 H0 H locs) (hA : ∀ q, q < H.size → A1 q → A0 q) (hf : ∀ q, free q → A0 q) (hAX : ∀ q, q < H.size → AX q → A0 q)
    (kx : ∀ (E : String) (ce : Cell) (q9 : Addr) (u : SX) (t : State) (H1 : Heap) (locs1 : List Loc), t.heap = H1 → s.vm.Alike t.vm → px u → BX E u t → H.size ≤ H1.size → (∀ q : Nat, q < H.size → ¬ AX q → H1[q]? = H[q]?) → va_S A0 H0 H1 locs1 → H1[q9]? = some ce → ce.vm = .none → s.vm.findClass E = some ce.cls → vx_W p l e R s m args below meth c H1 locs1 (cells + mc) (slots + ms) Q (F0 m pc ls rest) q9)
    (kk : ∀ (r : UInt64) (u : S) (t : State) (H1 : Heap) (locs1 : List Loc), t.heap = H1 → s.vm.Alike t.vm → post r u → B u t → H.size ≤ H1.size → (∀ q : Nat, q < H.size → ¬ A1 q → H1[q]? = H[q]?) → va_S A0 H0 H1 locs1 → W p l e R s m args below meth c H1 locs1 (cells + mc) (slots + ms) Q (F0 m (pc + 3) ls (.double r :: rest))) : W p l e R s m args below meth c H locs cells slots Q (F0 m pc ls st0) := by
  intro T hT X
  rcases hr T hT X with ⟨v, st₀, t, T', L, h0, X', hL, e1, e2, ⟨⟨r, u, hv, hp, hb⟩, hF⟩, st⟩ | ⟨q, st₀, t, T', L, E, ce, h0, X', hL, e1, e2, ⟨u, hp, hb, hF⟩, hce, hcv, hcl, st⟩
  · cases hv
    obtain ⟨k1, k2, k3⟩ := vx_keep h0 e1 hS hA hf hL hF
    obtain ⟨t2, a1, b1⟩ := kk r u t T'.heap (locs ++ L) e1.symm (by rw [← e2]; exact X'.warmed.alike) hp hb k1 k2 k3 T' rfl X'
    exact ⟨t2, st t2 a1, b1⟩
  · obtain ⟨k1, k2, k3⟩ := vx_keep h0 e1 hS hAX hf hL hF
    obtain ⟨t2, a1, b1⟩ := kx E ce q u t T'.heap (locs ++ L) e1.symm (by rw [← e2]; exact X'.warmed.alike) hp hb k1 k2 k3 (by rw [e1]; exact hce) hcv hcl T' rfl X'
    exact ⟨t2, st.trans a1, b1⟩
theorem vx_callv {S SX : Type} {post : S → Prop} {px : SX → Prop} {B : S → State → Prop} {BX : String → SX → State → Prop} {AX : Nat → Prop} (hr : vx_Run p l e R s m args below meth c H locs cells slots mc ms (F0 m pc ls st0) rest (va_Qv post B A1 a) (vx_X px BX AX) free) (hS : va_S A0 H0 H locs) (hA : ∀ q, q < H.size → A1 q → A0 q) (hf : ∀ q, free q → A0 q) (hAX : ∀ q, q < H.size → AX q → A0 q)
    (kx : ∀ (E : String) (ce : Cell) (q9 : Addr) (u : SX) (t : State) (H1 : Heap) (locs1 : List Loc), t.heap = H1 → s.vm.Alike t.vm → px u → BX E u t → H.size ≤ H1.size → (∀ q : Nat, q < H.size → ¬ AX q → H1[q]? = H[q]?) → va_S A0 H0 H1 locs1 → H1[q9]? = some ce → ce.vm = .none → s.vm.findClass E = some ce.cls → vx_W p l e R s m args below meth c H1 locs1 (cells + mc) (slots + ms) Q (F0 m pc ls rest) q9)
    (kk : ∀ (u : S) (t : State) (H1 : Heap) (locs1 : List Loc), t.heap = H1 → s.vm.Alike t.vm → post u → B u t → H.size ≤ H1.size → (∀ q : Nat, q < H.size → ¬ A1 q → H1[q]? = H[q]?) → va_S A0 H0 H1 locs1 → W p l e R s m args below meth c H1 locs1 (cells + mc) (slots + ms) Q (F0 m (pc + 3) ls (rest))) : W p l e R s m args below meth c H locs cells slots Q (F0 m pc ls st0) := by
  intro T hT X
  rcases hr T hT X with ⟨v, st₀, t, T', L, h0, X', hL, e1, e2, ⟨⟨u, hv, hp, hb⟩, hF⟩, st⟩ | ⟨q, st₀, t, T', L, E, ce, h0, X', hL, e1, e2, ⟨u, hp, hb, hF⟩, hce, hcv, hcl, st⟩
  · cases hv
    obtain ⟨k1, k2, k3⟩ := vx_keep h0 e1 hS hA hf hL hF
    obtain ⟨t2, a1, b1⟩ := kk u t T'.heap (locs ++ L) e1.symm (by rw [← e2]; exact X'.warmed.alike) hp hb k1 k2 k3 T' rfl X'
    exact ⟨t2, st t2 a1, b1⟩
  · obtain ⟨k1, k2, k3⟩ := vx_keep h0 e1 hS hAX hf hL hF
    obtain ⟨t2, a1, b1⟩ := kx E ce q u t T'.heap (locs ++ L) e1.symm (by rw [← e2]; exact X'.warmed.alike) hp hb k1 k2 k3 (by rw [e1]; exact hce) hcv hcl T' rfl X'
    exact ⟨t2, st.trans a1, b1⟩
/-- caught by the row x of this method's table; the rows ahead don't take it -/
theorem vx_catch {own name : String} {E : String} {ce : Cell} {q : Addr} (hown : s.vm.findClass own = some m.cls) (pre : List ExceptionTableEntry) (x : ExceptionTableEntry) (suf : List ExceptionTableEntry) (hsplit : c.exceptionTable.toList = pre ++ x :: suf)
    (hpass : ∀ z ∈ pre, covers z pc = false ∨ (z.catchType ≠ 0 ∧ ∃ nm : String, (Cond.classLink own z.catchType nm).before args s = true ∧ va_Nc E nm s)) (hx : covers x pc = true) (h0 : x.catchType ≠ 0)
    (hlink : (Cond.classLink own x.catchType name).before args s = true) (hcast : (Cond.castable E name).before args s = true) (hcell : H[q]? = some ce) (hv : ce.vm = .none) (hcl : s.vm.findClass E = some ce.cls)
    (kk : W p l e R s m args below meth c H locs cells slots Q (F0 m x.handlerPc ls [.ref q])) : vx_W p l e R s m args below meth c H locs cells slots Q (F0 m pc ls rest) q := by
  intro T hT X
  have hpl : e.platform.magicAccessors = ({} : Platform).magicAccessors := by rw [X.admits.platform]
  obtain ⟨c3, c4, hc3, hc4, hasg⟩ := Cond.castable_spec hcast
  cases Option.some.inj (hc3.symm.trans hcl)
  obtain ⟨c5, hc5, hcl5⟩ := Cond.classLink_spec hown hlink e.platform hpl
  cases Option.some.inj (hc4.symm.trans hc5)
  obtain ⟨vm', X', st⟩ := X.thenCaughtThrough q (g := F0 m pc ls rest) rfl (Steps.refl _) (by rw [hT]; exact hcell) (by rw [hv]; rfl) (by obtain ⟨k9, h9, -⟩ := Vm.findClass_spec hcl; exact ⟨k9, h9⟩) pre x suf hsplit
    (fun z hz => by
      rcases hpass z hz with h | ⟨hz0, nm, hl1, hn1⟩
      · exact Or.inl h
      · obtain ⟨c6, hc6, hcl6⟩ := Cond.classLink_spec hown hl1 e.platform hpl
        obtain ⟨a8, b8, h1, h2, h3⟩ := hn1
        cases Option.some.inj (h1.symm.trans hcl)
        cases Option.some.inj (h2.symm.trans hc6)
        exact Or.inr ⟨hz0, _, hcl6, h3⟩) hx (Or.inr ⟨h0, c4, hcl5, hasg⟩)
  obtain ⟨t, a1, b1⟩ := kk (T.setVm vm') hT X'
  exact ⟨t, st.trans a1, b1⟩
end Rows
section Ends
variable {p : Program} {l : Launch} {e : Env} {R : Room} {s : State} {m : MethodId} {args : Array Value} {below : List Frame} {meth : Method} {c : Code} {H : Heap} {locs : List Loc} {cells slots : Nat} {Q : State → Prop}
variable {mc ms : Nat} {free : Addr → Prop} {A0 A1 : Nat → Prop} {H0 : Heap} {a : Array Value} {ls : Array Slot} {st0 rest : List Value}
variable {Qc : Array Value → State → Outcome → State → Prop} {XC : String → State → State → Prop}
/-- what a body that may throw owes at its end -/
def vx_MQ (below : List Frame) (Qc : Array Value → State → Outcome → State → Prop) (XC : String → State → State → Prop) (a : Array Value) (s : State) (mc ms : Nat) (free : Addr → Prop) : State → Prop := fun t =>
  ∃ o, t.status = .running ∧ Ended t below o ∧ vx_Q Qc XC mc ms free a s o t
theorem vx_ret {g : JFrame} {mc ms : Nat} (k : W p l e R s m args below meth c H locs cells slots (MQ below Qc args s mc ms free) g) : W p l e R s m args below meth c H locs cells slots (vx_MQ below Qc XC args s mc ms free) g := by
  intro T hT X
  obtain ⟨t, a1, o, b1, b2, b3, b4⟩ := k T hT X
  exact ⟨t, a1, o, b1, b2, Or.inl ⟨b3, b4⟩⟩
/-- not caught here: it goes on to the caller -/
theorem vx_widen {g : JFrame} {q : Addr} {k n : Nat} (h1 : cells ≤ k) (h2 : slots ≤ n) (kk : vx_W p l e R s m args below meth c H locs k n Q g q) : vx_W p l e R s m args below meth c H locs cells slots Q g q := fun T hT X => kk T hT (stand_widen X h1 h2)
theorem vx_out {pc : Nat} {E : String} {ce : Cell} {q : Addr} {mc ms : Nat} (hout : ∀ x ∈ c.exceptionTable.toList, covers x pc = false) (hlocks : meth.locks = false) (hcell : H[q]? = some ce) (hv : ce.vm = .none) (hcl : s.vm.findClass E = some ce.cls)
    (hx : ∀ t : State, t.heap = H → s.vm.Alike t.vm → XC E s t) (hf : ∀ z ∈ locs, free z.base) (hc : cells ≤ mc) (hs : slots ≤ ms) :
    vx_W p l e R s m args below meth c H locs cells slots (vx_MQ below Qc XC args s mc ms free) (F0 m pc ls rest) q := by
  intro T hT X
  obtain ⟨st1, hrun, hend, hW, hsm⟩ := X.leaveThrown q (g := F0 m pc ls rest) rfl rfl rfl hout hlocks
  have hcell9 : (T.setFrames (.throwing q :: below)).heap[q]? = some ce := by
    show T.heap[q]? = some ce
    rw [hT]; exact hcell
  exact ⟨_, st1, .threw q, hrun, hend, Or.inr ⟨q, rfl, E, ce, locs, hx _ hT hW.alike, hcell9, hv, hcl, hW, hsm.mono hc hs, hf⟩⟩
theorem vx_frame {U : State} {k n : Nat} (h : s.sameButNew ({ U with vm := s.vm } : State) locs k n) : s.heap.size ≤ U.heap.size ∧ ∀ q : Nat, q < s.heap.size → (∀ z ∈ locs, z.base ≠ q) → U.heap[q]? = s.heap[q]? := by
  obtain ⟨-, h2, -, -, -, h6⟩ := h
  refine ⟨h2, fun q hq hz => ?_⟩
  obtain ⟨c9, e1, e2, e3, e4⟩ := h6 q _ (Array.getElem?_eq_getElem hq)
  have hs : c9.slots = (s.heap[q]).slots := Array.ext_getElem? fun i => e4 i fun hm => hz _ hm rfl
  have h9 : c9 = s.heap[q] := by
    rw [hs] at e2
    exact e2
  have e5 : U.heap[q]? = some c9 := e1
  rw [e5, h9, Array.getElem?_eq_getElem hq]
/-- the words of a throw but the four that speak of the heap -/
def vx_no (w : Cond) : Bool := decide (w ≠ .isRef (.static Bundle.tN "UNASSIGNED_STACK" Bundle.steD)) && decide (w ≠ .isRef (.static Bundle.tN "SUPPRESSED_SENTINEL" Bundle.listD)) && decide (w ≠ .laysStatic Bundle.tN "UNASSIGNED_STACK" Bundle.steD) && decide (w ≠ .laysStatic Bundle.tN "SUPPRESSED_SENTINEL" Bundle.listD)
def vx_at0 (own : String) (ic : Nat) (X : String) (names : List String) : List Cond := (Bundle.ownAtoms0 own ic X names).filter vx_no
def vx_atS (own : String) (ic : Nat) (X : String) (names : List String) : List Cond := (Bundle.ownAtoms own ic X names).filter vx_no
/-- a word that the tables alone decide, or a good one -/
def vx_ot (w : Cond) : Bool := w.onTables || goodWord w
theorem vx_ot_at {args a' : Array Value} {s U : State} {w : Cond} (hW : s.WarmedH U.vm) (hvm : s.vm = U.vm) (hg : vx_ot w = true) (h : w.before args s = true) : w.before a' U = true := by
  simp only [vx_ot, Bool.or_eq_true] at hg
  rcases hg with hg | hg
  · exact va_tabs hg hvm h
  · exact word_at hW (good_of_word hg) h
/-- a list's words: the good ones out of the method's own list, the others by premises of their own -/
theorem vx_hat {args : Array Value} {s : State} {L B : List Cond} (h1 : ∀ w ∈ L.filter goodWord, w.before args s = true) (h2 : ∀ w ∈ L.filter (fun w => !goodWord w), w ∈ B) (h3 : ∀ w ∈ B, w.before args s = true) : ∀ w ∈ L, w.before args s = true := by
  intro w hw
  by_cases g : goodWord w = true
  · exact h1 w (List.mem_filter.mpr ⟨hw, g⟩)
  · refine h3 w (h2 w (List.mem_filter.mpr ⟨hw, ?_⟩))
    show (!goodWord w) = true
    cases hgw : goodWord w
    · rfl
    · exact absurd hgw g
theorem vx_c {args : Array Value} {s : State} {w : Cond} {B : List Cond} (h : w.before args s = true) (t : ∀ w ∈ B, w.before args s = true) : ∀ w' ∈ w :: B, w'.before args s = true := fun w' h' => (List.mem_cons.mp h').elim (fun e => by rw [e]; exact h) (t w')
theorem vx_n {args : Array Value} {s : State} : ∀ w ∈ ([] : List Cond), w.before args s = true := fun _ h => nomatch h
theorem vx_own {args : Array Value} {s : State} {L : List Cond} (h1 : ∀ w ∈ L.filter vx_no, w.before args s = true)
    (hU : (Cond.isRef (.static Bundle.tN "UNASSIGNED_STACK" Bundle.steD)).before args s = true) (hN : (Cond.isRef (.static Bundle.tN "SUPPRESSED_SENTINEL" Bundle.listD)).before args s = true)
    (lU : (Cond.laysStatic Bundle.tN "UNASSIGNED_STACK" Bundle.steD).before args s = true) (lN : (Cond.laysStatic Bundle.tN "SUPPRESSED_SENTINEL" Bundle.listD).before args s = true) : ∀ w ∈ L, w.before args s = true := by
  intro w hw
  by_cases e1 : w = .isRef (.static Bundle.tN "UNASSIGNED_STACK" Bundle.steD)
  · rw [e1]; exact hU
  · by_cases e2 : w = .isRef (.static Bundle.tN "SUPPRESSED_SENTINEL" Bundle.listD)
    · rw [e2]; exact hN
    · by_cases e3 : w = .laysStatic Bundle.tN "UNASSIGNED_STACK" Bundle.steD
      · rw [e3]; exact lU
      · by_cases e4 : w = .laysStatic Bundle.tN "SUPPRESSED_SENTINEL" Bundle.listD
        · rw [e4]; exact lN
        · exact h1 w (List.mem_filter.mpr ⟨hw, by unfold vx_no; rw [decide_eq_true e1, decide_eq_true e2, decide_eq_true e3, decide_eq_true e4]; rfl⟩)
/-- where a static field lies, its class's statics cell in H -/
def vx_L (C n d : String) (A : Nat → Prop) (U : State) (H : Heap) : Prop := ∃ (c : ClassId) (k : Class) (i : Nat) (f : Field) (a : Nat) (cell : Cell), U.vm.findClass C = some c ∧ U.fieldFound? C n d = some (c, k, i, f) ∧ f.isStatic = true ∧ k.statics = some a ∧ H[a]? = some cell ∧ cell.vm.isStatics = true ∧ cell.cls = c ∧ f.slot < cell.slots.size ∧ k.staticTypes[f.slot]? = some f.type ∧ ¬ A a
theorem vx_L.moved {C n d : String} {A : Nat → Prop} {u U : State} {H : Heap} (hvm : u.vm.Alike U.vm) (h : vx_L C n d A u H) : vx_L C n d A U H := by
  obtain ⟨c, k, i, f, a, cell, h1, h2, h3, h4, h5, h6, h7, h8, h9, h10⟩ := h
  obtain ⟨k', hi', he⟩ := State.fieldFound?_setVm hvm h2
  exact ⟨c, k', i, f, a, cell, by rw [hvm.findClass]; exact h1, hi', h3, by rw [he]; exact h4, h5, h6, h7, h8, by rw [he]; exact h9, h10⟩
theorem vx_L.kept {C n d : String} {A : Nat → Prop} {U : State} {H H1 : Heap} (h : vx_L C n d A U H) (hq : ∀ a : Nat, a < H.size → ¬ A a → H1[a]? = H[a]?) : vx_L C n d A U H1 := by
  obtain ⟨c, k, i, f, a, cell, h1, h2, h3, h4, h5, h6, h7, h8, h9, h10⟩ := h
  exact ⟨c, k, i, f, a, cell, h1, h2, h3, h4, by rw [hq a (Array.getElem?_eq_some_iff.mp h5).1 h10]; exact h5, h6, h7, h8, h9, h10⟩
theorem vx_L.narrow {C n d : String} {A B : Nat → Prop} {U : State} {H : Heap} (h : vx_L C n d A U H) (hAB : ∀ q, B q → A q) : vx_L C n d B U H := by
  obtain ⟨c, k, i, f, a, cell, h1, h2, h3, h4, h5, h6, h7, h8, h9, h10⟩ := h
  exact ⟨c, k, i, f, a, cell, h1, h2, h3, h4, h5, h6, h7, h8, h9, fun z => h10 (hAB _ z)⟩
theorem vx_L.word {C n d : String} {A : Nat → Prop} {s : State} {args : Array Value} (h : vx_L C n d A s s.heap) : (Cond.laysStatic C n d).before args s = true := by
  obtain ⟨c, k, i, f, a, cell, h1, h2, h3, h4, h5, h6, h7, h8, h9, -⟩ := h
  show (Cond.laysStatic C n d).holds args s none s [] = true
  exact Cond.laysStatic_of h1 h2 h3 h4 h5 h6 h7 h8 h9
/-- .. and what it holds: null or some reference -/
def vx_Zq (C n d : String) (A : Nat → Prop) (U : State) (H : Heap) : Prop := va_Zq C n d A U H ∧ vx_L C n d A U H
theorem vx_Zq.moved {C n d : String} {A : Nat → Prop} {u U : State} {H : Heap} (hvm : u.vm.Alike U.vm) (h : vx_Zq C n d A u H) : vx_Zq C n d A U H := ⟨va_Zq.moved hvm h.1, vx_L.moved hvm h.2⟩
theorem vx_Zq.kept {C n d : String} {A : Nat → Prop} {U : State} {H H1 : Heap} (h : vx_Zq C n d A U H) (hq : ∀ a : Nat, a < H.size → ¬ A a → H1[a]? = H[a]?) : vx_Zq C n d A U H1 := ⟨va_Zq.kept h.1 hq, vx_L.kept h.2 hq⟩
theorem vx_Zq.narrow {C n d : String} {A B : Nat → Prop} {U : State} {H : Heap} (h : vx_Zq C n d A U H) (hAB : ∀ q, B q → A q) : vx_Zq C n d B U H := ⟨va_Zq.narrow h.1 hAB, vx_L.narrow h.2 hAB⟩
theorem vx_Zqof {args : Array Value} {s : State} {C n d : String} {A : Nat → Prop} (hl : (Cond.laysStatic C n d).before args s = true) (hini : (Cond.initialized C).before args s = true) (h : (Cond.isRef (.static C n d)).before args s = true) (hA : ∀ a : Nat, a < s.heap.size → ¬ A a) : vx_Zq C n d A s s.heap := by
  refine ⟨va_Zqof hl hini h hA, ?_⟩
  obtain ⟨c, k, i, f, a, cell, h1, h2, h3, h4, h5, h6, h7, h8, h9⟩ := Cond.laysStatic_spec hl
  exact ⟨c, k, i, f, a, cell, h1, h2, h3, h4, h5, h6, h7, h8, h9, hA a (Array.getElem?_eq_some_iff.mp h5).1⟩
theorem vx_isRef {C n d : String} {v : Value} {A : Nat → Prop} {s : State} {args : Array Value} (h : va_Z C n d v A s s.heap) (hv : v.isRef = true) : (Cond.isRef (.static C n d)).before args s = true := by
  obtain ⟨cf, kf, fi, f, a, cell, h1, h2, h3, h4, h5, h6, h7, -⟩ := h
  have he : (Term.static C n d).eval args s none [] s = some v := by
    simp [Term.eval, State.fieldNamed?, h1, h2, h4, h5, h6, h7]
  simp only [Cond.before, Cond.holds, Cond.value, he]
  cases v <;> simp_all [Value.isRef]
theorem vx_isRefq {C n d : String} {A : Nat → Prop} {s : State} {args : Array Value} (h : va_Zq C n d A s s.heap) : (Cond.isRef (.static C n d)).before args s = true := by
  rcases h with h | ⟨t, h⟩
  · exact vx_isRef h rfl
  · exact vx_isRef h rfl
/-- the same frame, seen from here: as if the method were called anew in this heap -/
theorem vx_rebase {T : State} (X : Stand p l e R s m args below meth c T locs cells slots) {R' : Room} (hf : R'.frames ≤ R.frames) (hl : R'.locals ≤ R.locals) (hc : cells + R'.cells ≤ R.cells) (hs : slots + R'.slots ≤ R.slots) :
    Stand p l e R' ((T.setVm s.vm).setFrames (.invoking m args :: below)) m args below meth c T [] 0 0 := by
  have htop : (T.setVm s.vm).topJava?.isSome := X.here.top
  have hF : ((T.setVm s.vm).setFrames (.invoking m args :: below)).frames = .invoking m args :: below := State.frames_setFrames _ (State.cur_lt_of_top htop)
  obtain ⟨g₀, hg0⟩ := Option.isSome_iff_exists.mp htop
  obtain ⟨r, hr⟩ := State.topJava?_eq_some.mp hg0
  have hl9 : e.platform.stackLimits (T.setVm s.vm).me = e.platform.stackLimits s.me := X.limits
  have hb9 : (T.setVm s.vm).me.stackBytes = s.me.stackBytes := X.bytes
  refine ⟨X.admits, X.cas, X.clock, hF, ?_, X.hears, X.method, X.code, X.here, X.tail, X.warmed, ?_, ?_, ?_⟩
  · have h := X.room
    have hU : ((T.setVm s.vm).setFrames (.invoking m args :: below)).localsInUse = s.localsInUse := by
      rw [State.localsInUse_invoking hF (meth := meth) (c := c) X.method X.code, State.localsInUse_invoking X.frames X.method X.code]
    simp only [State.hasRoom, Bool.and_eq_true, decide_eq_true_eq] at h ⊢
    obtain ⟨⟨⟨⟨h1, h2, h3, h4, h5, h6⟩, h7⟩, h8⟩, h9⟩ := h
    rw [X.frames, List.length_cons] at h2 h3
    have q1 := X.heapSize
    have q2 := X.used
    simp only [hF, hU, List.length_cons, State.stackLimits_setFrames, State.stackBytes_setFrames, hl9, hb9]
    refine ⟨⟨⟨⟨by omega, by omega, by omega, by omega, by omega, h6⟩, ?_⟩, ?_⟩, X.book⟩
    · show T.heap.size + R'.cells ≤ e.platform.maxCells
      omega
    · show T.slotsUsed + R'.slots ≤ e.platform.maxSlots
      omega
  · rw [State.stackLimits_setFrames]; rfl
  · rw [State.stackBytes_setFrames]; rfl
  · refine ⟨?_, Nat.le_refl _, Nat.le_refl _, ?_, ?_, fun a c9 h9 => ⟨c9, h9, rfl, rfl, fun _ _ => rfl⟩⟩
    · obtain ⟨t, ht, -⟩ := State.frames_cons hr
      show T.setVm s.vm = { ((T.setVm s.vm).setFrames (.invoking m args :: below)).setFrames (T.setVm s.vm).frames with heap := T.heap, slotsUsed := T.slotsUsed }
      rw [State.setFrames_setFrames, State.setFrames_self ht]
      rfl
    · show T.slotsUsed = T.slotsUsed + ((T.heap.toList.drop T.heap.size).map (·.slots.size)).sum
      rw [List.drop_eq_nil_of_le (Nat.le_of_eq Array.length_toList)]
      rfl
    · show ((T.heap.toList.drop T.heap.size).map (·.slots.size)).sum ≤ 0
      rw [List.drop_eq_nil_of_le (Nat.le_of_eq Array.length_toList)]
      exact Nat.le_refl _
/-- 'throw new E()': new; dup; invokespecial; athrow -/
theorem vx_throw0 {cc : ByteArray} {pc : Nat} (hexec : p.tables.exec = Jvm.exec) (hb : c.code = cc) (hl : l.stackTraces = false) {own cls : String} {names : List String} {ik ic mc ms : Nat} {A : Nat → Prop}
    (hown : s.vm.findClass own = some m.cls) (hcls : Bundle.fit cls = true) (hnames : ∀ n ∈ names, Bundle.fit n = true)
    (hk : (Cond.classLink own ik cls).before args s = true) (hini : (Cond.initialized cls).before args s = true) (hat : ∀ w ∈ vx_at0 own ic cls names, w.before args s = true)
    (hgood : ∀ w ∈ Cond.classLink own ik cls :: Cond.initialized cls :: vx_at0 own ic cls names, vx_ot w = true)
    (hU : vx_Zq Bundle.tN "UNASSIGNED_STACK" Bundle.steD A s s.heap) (hN : vx_Zq Bundle.tN "SUPPRESSED_SENTINEL" Bundle.listD A s s.heap) (hS : va_S A s.heap H locs) (hsize : ls.size = c.maxLocals)
    (d0 : decode cc pc = .ok (.new ik, 3)) (d3 : decode cc (pc + 3) = .ok (.dup, 1)) (d4 : decode cc (pc + 4) = .ok (.invokespecial ic, 3)) (d7 : decode cc (pc + 7) = .ok (.athrow, 1))
    (hout : ∀ x ∈ c.exceptionTable.toList, covers x (pc + 7) = false)
    (hRframes : names.length + 3 < R.frames) (hRlocals : (rest.map fun v => v.category).sum + (13 * (names.length + 1) + 42) ≤ R.locals) (hRcells : cells + 1 ≤ R.cells) (hRslots : slots + 6 ≤ R.slots) (hlocks : meth.locks = false)
    (hx : ∀ t : State, s.vm.Alike t.vm → H.size ≤ t.heap.size → (∀ q : Nat, q < H.size → t.heap[q]? = H[q]?) → XC cls s t)
    (hf : ∀ z ∈ locs, free z.base) (hc : cells + 1 ≤ mc) (hs : slots + 6 ≤ ms) :
    W p l e R s m args below meth c H locs cells slots (vx_MQ below Qc XC args s mc ms free) (F0 m pc ls rest) := by
  intro T hT X
  have htr : e.platform.stackTraces = false := (show e.platform.stackTraces = l.stackTraces by rw [X.admits.platform]).trans hl
  have Y := vx_rebase X (R' := { frames := R.frames, locals := R.locals, cells := 1, slots := 6 }) (Nat.le_refl _) (Nat.le_refl _) hRcells hRslots
  obtain ⟨s', hA⟩ : ∃ z, z = (T.setVm s.vm).setFrames (.invoking m args :: below) := ⟨_, rfl⟩
  rw [← hA] at Y
  have hvm : s'.vm = s.vm := by rw [hA]; rfl
  have hhp : s'.heap = H := by rw [hA]; exact hT
  have hW0 : s.WarmedH s'.vm := by rw [hvm]; exact State.WarmedH.refl s
  have hat' : ∀ w ∈ vx_at0 own ic cls names, w.before args s' = true := fun w hw => vx_ot_at hW0 hvm.symm (hgood w (List.mem_cons_of_mem _ (List.mem_cons_of_mem _ hw))) (hat w hw)
  have hk' : (Cond.classLink own ik cls).before args s' = true := vx_ot_at hW0 hvm.symm (hgood _ List.mem_cons_self) hk
  have hini' : (Cond.initialized cls).before args s' = true := vx_ot_at hW0 hvm.symm (hgood _ (List.mem_cons_of_mem _ List.mem_cons_self)) hini
  have hU' : vx_Zq Bundle.tN "UNASSIGNED_STACK" Bundle.steD A s' s'.heap := by rw [hhp]; exact vx_Zq.moved hW0.alike (hU.kept hS.2.1)
  have hN' : vx_Zq Bundle.tN "SUPPRESSED_SENTINEL" Bundle.listD A s' s'.heap := by rw [hhp]; exact vx_Zq.moved hW0.alike (hN.kept hS.2.1)
  have h : ∀ w ∈ Bundle.ownAtoms0 own ic cls names, w.before args s' = true := vx_own hat' (vx_isRefq hU'.1) (vx_isRefq hN'.1) hU'.2.word hN'.2.word
  have hown' : s'.vm.findClass own = some m.cls := by rw [hvm]; exact hown
  have hins : (Cond.instantiable cls 6).before args s' = true := h _ (by simp [Bundle.ownAtoms0])
  obtain ⟨vm₁, cX, kX, hfX, hkX, -, -, X₁, st1⟩ := Y.newCold hexec (own := own) (C := cls) (index := ik) (n := 6) hown' hk' hins hini'
    (g := F0 m pc ls rest) rfl (by rw [hb]; exact d0) (Nat.le_refl _) (Nat.le_refl _)
  generalize hT1 : (T.setVm vm₁).pushCell { cls := cX, slots := kX.instanceTypes.map defaultValue, vm := .none } = T1 at X₁ st1
  have hcat : (Value.ref T.heap.size).category = 1 := rfl
  have hcellA : T1.heap[T.heap.size]? = some (freshCell cX kX) := by rw [← hT1]; exact State.heap_pushCell_size _ _
  have d3' : decode c.code (pc + 3) = .ok (.dup, 1) := by rw [hb]; exact d3
  obtain ⟨U, hsteps, hrun, hend, hW, hsame, ce, hce, hO⟩ := X₁.ctorThrow0 hexec htr (own := own) (cls := cls) (names := names) (ic := ic) hown' hcls hnames h (fun x hx => nomatch hx) hfX hkX hcellA (by rw [hhp, hT]; exact Nat.le_refl _)
    (g := { method := m, pc := pc + 4, locals := ls, stack := .ref T.heap.size :: .ref T.heap.size :: rest, locked := none }) rfl hsize rfl rfl (rest := rest) rfl
    (by rw [hb]; exact d4) (by rw [hb]; exact d7) hout hRframes (by simp only [List.map_cons, List.sum_cons, hcat]; omega) hlocks
  obtain ⟨f1, f2⟩ := vx_frame hsame
  rw [hhp] at f1 f2
  have hWs : s.WarmedH U.vm := State.WarmedH.trans hW0 hW
  have hcl : s.vm.findClass cls = some ce.cls := by
    have h9 := hO.cls
    rw [hvm] at h9
    exact h9
  have hall : s.sameButNew ({ U with vm := s.vm } : State) locs mc ms := by
    subst hA
    obtain ⟨e1, e2⟩ := hsame
    rw [State.setFrames_setFrames] at e1
    have h2 : (T.setVm s.vm).sameButNew ({ U with vm := s.vm } : State) [] (0 + 1) (0 + 6) := ⟨e1, e2⟩
    have h3 := X.same.trans h2
    rw [List.append_nil] at h3
    exact h3.mono hc hs
  refine ⟨U, ?_, .threw T.heap.size, hrun, hend, Or.inr ⟨T.heap.size, rfl, cls, ce, locs, hx U hWs.alike f1 (fun q hq => f2 q hq (fun z hz => nomatch hz)), hce, hO.vm, hcl, hWs, hall, hf⟩⟩
  refine st1 _ ?_
  show Steps p.tables e below (T1.setTop { method := m, pc := pc + 3, locals := ls, stack := .ref T.heap.size :: rest, locked := none }) _
  jvm_step X₁.here [X₁.here.top, hexec, d3', Value.category]
  exact hsteps
/-- 'throw new E("text")': new; dup; ldc; invokespecial; athrow -/
theorem vx_throwS {cc : ByteArray} {pc : Nat} (hexec : p.tables.exec = Jvm.exec) (hb : c.code = cc) (hl : l.stackTraces = false) {own cls text : String} {names : List String} {ik is ic mc ms sa : Nat} {A : Nat → Prop}
    (hown : s.vm.findClass own = some m.cls) (hcls : Bundle.fit cls = true) (hnames : ∀ n ∈ names, Bundle.fit n = true)
    (hk : (Cond.classLink own ik cls).before args s = true) (hini : (Cond.initialized cls).before args s = true) (hstr : vk_R own is text sa s) (hat : ∀ w ∈ vx_atS own ic cls names, w.before args s = true)
    (hgood : ∀ w ∈ Cond.classLink own ik cls :: Cond.initialized cls :: vx_atS own ic cls names, vx_ot w = true)
    (hU : vx_Zq Bundle.tN "UNASSIGNED_STACK" Bundle.steD A s s.heap) (hN : vx_Zq Bundle.tN "SUPPRESSED_SENTINEL" Bundle.listD A s s.heap) (hS : va_S A s.heap H locs) (hsize : ls.size = c.maxLocals)
    (d0 : decode cc pc = .ok (.new ik, 3)) (d3 : decode cc (pc + 3) = .ok (.dup, 1)) (d4 : decode cc (pc + 4) = .ok (.ldc is, 2)) (d6 : decode cc (pc + 6) = .ok (.invokespecial ic, 3)) (d9 : decode cc (pc + 9) = .ok (.athrow, 1))
    (hout : ∀ x ∈ c.exceptionTable.toList, covers x (pc + 9) = false)
    (hRframes : names.length + 3 < R.frames) (hRlocals : (rest.map fun v => v.category).sum + (13 * (names.length + 1) + 43) ≤ R.locals) (hRcells : cells + 1 ≤ R.cells) (hRslots : slots + 6 ≤ R.slots) (hlocks : meth.locks = false)
    (hx : ∀ t : State, s.vm.Alike t.vm → H.size ≤ t.heap.size → (∀ q : Nat, q < H.size → t.heap[q]? = H[q]?) → XC cls s t)
    (hf : ∀ z ∈ locs, free z.base) (hc : cells + 1 ≤ mc) (hs : slots + 6 ≤ ms) :
    W p l e R s m args below meth c H locs cells slots (vx_MQ below Qc XC args s mc ms free) (F0 m pc ls rest) := by
  intro T hT X
  have htr : e.platform.stackTraces = false := (show e.platform.stackTraces = l.stackTraces by rw [X.admits.platform]).trans hl
  have Y := vx_rebase X (R' := { frames := R.frames, locals := R.locals, cells := 1, slots := 6 }) (Nat.le_refl _) (Nat.le_refl _) hRcells hRslots
  obtain ⟨s', hA⟩ : ∃ z, z = (T.setVm s.vm).setFrames (.invoking m args :: below) := ⟨_, rfl⟩
  rw [← hA] at Y
  have hvm : s'.vm = s.vm := by rw [hA]; rfl
  have hhp : s'.heap = H := by rw [hA]; exact hT
  have hW0 : s.WarmedH s'.vm := by rw [hvm]; exact State.WarmedH.refl s
  have hat' : ∀ w ∈ vx_atS own ic cls names, w.before args s' = true := fun w hw => vx_ot_at hW0 hvm.symm (hgood w (List.mem_cons_of_mem _ (List.mem_cons_of_mem _ hw))) (hat w hw)
  have hk' : (Cond.classLink own ik cls).before args s' = true := vx_ot_at hW0 hvm.symm (hgood _ List.mem_cons_self) hk
  have hini' : (Cond.initialized cls).before args s' = true := vx_ot_at hW0 hvm.symm (hgood _ (List.mem_cons_of_mem _ List.mem_cons_self)) hini
  have hU' : vx_Zq Bundle.tN "UNASSIGNED_STACK" Bundle.steD A s' s'.heap := by rw [hhp]; exact vx_Zq.moved hW0.alike (hU.kept hS.2.1)
  have hN' : vx_Zq Bundle.tN "SUPPRESSED_SENTINEL" Bundle.listD A s' s'.heap := by rw [hhp]; exact vx_Zq.moved hW0.alike (hN.kept hS.2.1)
  have h : ∀ w ∈ Bundle.ownAtoms own ic cls names, w.before args s' = true := vx_own hat' (vx_isRefq hU'.1) (vx_isRefq hN'.1) hU'.2.word hN'.2.word
  have hown' : s'.vm.findClass own = some m.cls := by rw [hvm]; exact hown
  have hins : (Cond.instantiable cls 6).before args s' = true := h _ (by simp [Bundle.ownAtoms])
  obtain ⟨vm₁, cX, kX, hfX, hkX, -, -, X₁, st1⟩ := Y.newCold hexec (own := own) (C := cls) (index := ik) (n := 6) hown' hk' hins hini'
    (g := F0 m pc ls rest) rfl (by rw [hb]; exact d0) (Nat.le_refl _) (Nat.le_refl _)
  generalize hT1 : (T.setVm vm₁).pushCell { cls := cX, slots := kX.instanceTypes.map defaultValue, vm := .none } = T1 at X₁ st1
  have hcat : (Value.ref T.heap.size).category = 1 := rfl
  have hcellA : T1.heap[T.heap.size]? = some (freshCell cX kX) := by rw [← hT1]; exact State.heap_pushCell_size _ _
  have d3' : decode c.code (pc + 3) = .ok (.dup, 1) := by rw [hb]; exact d3
  have d4' : decode c.code (pc + 4) = .ok (.ldc is, 2) := by rw [hb]; exact d4
  have hstr' : vk_R own is text sa s' := vk_R.warm hW0 hstr
  obtain ⟨U, hsteps, hrun, hend, hW, hsame, ce, hce, hO⟩ := X₁.ctorThrowS hexec htr (own := own) (cls := cls) (names := names) (ic := ic) hown' hcls hnames h (fun x hx => nomatch hx) hfX hkX hcellA (by rw [hhp, hT]; exact Nat.le_refl _) (msg := .ref sa) rfl
    (g := { method := m, pc := pc + 6, locals := ls, stack := .ref sa :: .ref T.heap.size :: .ref T.heap.size :: rest, locked := none }) rfl hsize rfl rfl (rest := rest) rfl
    (by rw [hb]; exact d6) (by rw [hb]; exact d9) hout hRframes (by simp only [List.map_cons, List.sum_cons, hcat]; omega) hlocks
  obtain ⟨f1, f2⟩ := vx_frame hsame
  rw [hhp] at f1 f2
  have hWs : s.WarmedH U.vm := State.WarmedH.trans hW0 hW
  have hcl : s.vm.findClass cls = some ce.cls := by
    have h9 := hO.cls
    rw [hvm] at h9
    exact h9
  have hall : s.sameButNew ({ U with vm := s.vm } : State) locs mc ms := by
    subst hA
    obtain ⟨e1, e2⟩ := hsame
    rw [State.setFrames_setFrames] at e1
    have h2 : (T.setVm s.vm).sameButNew ({ U with vm := s.vm } : State) [] (0 + 1) (0 + 6) := ⟨e1, e2⟩
    have h3 := X.same.trans h2
    rw [List.append_nil] at h3
    exact h3.mono hc hs
  refine ⟨U, ?_, .threw T.heap.size, hrun, hend, Or.inr ⟨T.heap.size, rfl, cls, ce, locs, hx U hWs.alike f1 (fun q hq => f2 q hq (fun z hz => nomatch hz)), hce, hO.vm, hcl, hWs, hall, hf⟩⟩
  refine st1 _ ?_
  show Steps p.tables e below (T1.setTop { method := m, pc := pc + 3, locals := ls, stack := .ref T.heap.size :: rest, locked := none }) _
  jvm_step X₁.here [X₁.here.top, hexec, d3', Value.category]
  exact X₁.ldcString hexec (own := own) (text := text) (index := is) (a := sa) hown' hstr'.1 hstr'.2
    (g := { method := m, pc := pc + 4, locals := ls, stack := .ref T.heap.size :: .ref T.heap.size :: rest, locked := none }) rfl d4' _ hsteps
/-- 'throw new E("text")', the text by a wide index -/
theorem vx_throwSW {cc : ByteArray} {pc : Nat} (hexec : p.tables.exec = Jvm.exec) (hb : c.code = cc) (hl : l.stackTraces = false) {own cls text : String} {names : List String} {ik is ic mc ms sa : Nat} {A : Nat → Prop}
    (hown : s.vm.findClass own = some m.cls) (hcls : Bundle.fit cls = true) (hnames : ∀ n ∈ names, Bundle.fit n = true)
    (hk : (Cond.classLink own ik cls).before args s = true) (hini : (Cond.initialized cls).before args s = true) (hstr : vk_R own is text sa s) (hat : ∀ w ∈ vx_atS own ic cls names, w.before args s = true)
    (hgood : ∀ w ∈ Cond.classLink own ik cls :: Cond.initialized cls :: vx_atS own ic cls names, vx_ot w = true)
    (hU : vx_Zq Bundle.tN "UNASSIGNED_STACK" Bundle.steD A s s.heap) (hN : vx_Zq Bundle.tN "SUPPRESSED_SENTINEL" Bundle.listD A s s.heap) (hS : va_S A s.heap H locs) (hsize : ls.size = c.maxLocals)
    (d0 : decode cc pc = .ok (.new ik, 3)) (d3 : decode cc (pc + 3) = .ok (.dup, 1)) (d4 : decode cc (pc + 4) = .ok (.ldc_w is, 3)) (d7 : decode cc (pc + 7) = .ok (.invokespecial ic, 3)) (d10 : decode cc (pc + 10) = .ok (.athrow, 1))
    (hout : ∀ x ∈ c.exceptionTable.toList, covers x (pc + 10) = false)
    (hRframes : names.length + 3 < R.frames) (hRlocals : (rest.map fun v => v.category).sum + (13 * (names.length + 1) + 43) ≤ R.locals) (hRcells : cells + 1 ≤ R.cells) (hRslots : slots + 6 ≤ R.slots) (hlocks : meth.locks = false)
    (hx : ∀ t : State, s.vm.Alike t.vm → H.size ≤ t.heap.size → (∀ q : Nat, q < H.size → t.heap[q]? = H[q]?) → XC cls s t)
    (hf : ∀ z ∈ locs, free z.base) (hc : cells + 1 ≤ mc) (hs : slots + 6 ≤ ms) :
    W p l e R s m args below meth c H locs cells slots (vx_MQ below Qc XC args s mc ms free) (F0 m pc ls rest) := by
  intro T hT X
  have htr : e.platform.stackTraces = false := (show e.platform.stackTraces = l.stackTraces by rw [X.admits.platform]).trans hl
  have Y := vx_rebase X (R' := { frames := R.frames, locals := R.locals, cells := 1, slots := 6 }) (Nat.le_refl _) (Nat.le_refl _) hRcells hRslots
  obtain ⟨s', hA⟩ : ∃ z, z = (T.setVm s.vm).setFrames (.invoking m args :: below) := ⟨_, rfl⟩
  rw [← hA] at Y
  have hvm : s'.vm = s.vm := by rw [hA]; rfl
  have hhp : s'.heap = H := by rw [hA]; exact hT
  have hW0 : s.WarmedH s'.vm := by rw [hvm]; exact State.WarmedH.refl s
  have hat' : ∀ w ∈ vx_atS own ic cls names, w.before args s' = true := fun w hw => vx_ot_at hW0 hvm.symm (hgood w (List.mem_cons_of_mem _ (List.mem_cons_of_mem _ hw))) (hat w hw)
  have hk' : (Cond.classLink own ik cls).before args s' = true := vx_ot_at hW0 hvm.symm (hgood _ List.mem_cons_self) hk
  have hini' : (Cond.initialized cls).before args s' = true := vx_ot_at hW0 hvm.symm (hgood _ (List.mem_cons_of_mem _ List.mem_cons_self)) hini
  have hU' : vx_Zq Bundle.tN "UNASSIGNED_STACK" Bundle.steD A s' s'.heap := by rw [hhp]; exact vx_Zq.moved hW0.alike (hU.kept hS.2.1)
  have hN' : vx_Zq Bundle.tN "SUPPRESSED_SENTINEL" Bundle.listD A s' s'.heap := by rw [hhp]; exact vx_Zq.moved hW0.alike (hN.kept hS.2.1)
  have h : ∀ w ∈ Bundle.ownAtoms own ic cls names, w.before args s' = true := vx_own hat' (vx_isRefq hU'.1) (vx_isRefq hN'.1) hU'.2.word hN'.2.word
  have hown' : s'.vm.findClass own = some m.cls := by rw [hvm]; exact hown
  have hins : (Cond.instantiable cls 6).before args s' = true := h _ (by simp [Bundle.ownAtoms])
  obtain ⟨vm₁, cX, kX, hfX, hkX, -, -, X₁, st1⟩ := Y.newCold hexec (own := own) (C := cls) (index := ik) (n := 6) hown' hk' hins hini'
    (g := F0 m pc ls rest) rfl (by rw [hb]; exact d0) (Nat.le_refl _) (Nat.le_refl _)
  generalize hT1 : (T.setVm vm₁).pushCell { cls := cX, slots := kX.instanceTypes.map defaultValue, vm := .none } = T1 at X₁ st1
  have hcat : (Value.ref T.heap.size).category = 1 := rfl
  have hcellA : T1.heap[T.heap.size]? = some (freshCell cX kX) := by rw [← hT1]; exact State.heap_pushCell_size _ _
  have d3' : decode c.code (pc + 3) = .ok (.dup, 1) := by rw [hb]; exact d3
  have d4' : decode c.code (pc + 4) = .ok (.ldc_w is, 3) := by rw [hb]; exact d4
  have hstr' : vk_R own is text sa s' := vk_R.warm hW0 hstr
  obtain ⟨U, hsteps, hrun, hend, hW, hsame, ce, hce, hO⟩ := X₁.ctorThrowS hexec htr (own := own) (cls := cls) (names := names) (ic := ic) hown' hcls hnames h (fun x hx => nomatch hx) hfX hkX hcellA (by rw [hhp, hT]; exact Nat.le_refl _) (msg := .ref sa) rfl
    (g := { method := m, pc := pc + 7, locals := ls, stack := .ref sa :: .ref T.heap.size :: .ref T.heap.size :: rest, locked := none }) rfl hsize rfl rfl (rest := rest) rfl
    (by rw [hb]; exact d7) (by rw [hb]; exact d10) hout hRframes (by simp only [List.map_cons, List.sum_cons, hcat]; omega) hlocks
  obtain ⟨f1, f2⟩ := vx_frame hsame
  rw [hhp] at f1 f2
  have hWs : s.WarmedH U.vm := State.WarmedH.trans hW0 hW
  have hcl : s.vm.findClass cls = some ce.cls := by
    have h9 := hO.cls
    rw [hvm] at h9
    exact h9
  have hall : s.sameButNew ({ U with vm := s.vm } : State) locs mc ms := by
    subst hA
    obtain ⟨e1, e2⟩ := hsame
    rw [State.setFrames_setFrames] at e1
    have h2 : (T.setVm s.vm).sameButNew ({ U with vm := s.vm } : State) [] (0 + 1) (0 + 6) := ⟨e1, e2⟩
    have h3 := X.same.trans h2
    rw [List.append_nil] at h3
    exact h3.mono hc hs
  refine ⟨U, ?_, .threw T.heap.size, hrun, hend, Or.inr ⟨T.heap.size, rfl, cls, ce, locs, hx U hWs.alike f1 (fun q hq => f2 q hq (fun z hz => nomatch hz)), hce, hO.vm, hcl, hWs, hall, hf⟩⟩
  refine st1 _ ?_
  show Steps p.tables e below (T1.setTop { method := m, pc := pc + 3, locals := ls, stack := .ref T.heap.size :: rest, locked := none }) _
  jvm_step X₁.here [X₁.here.top, hexec, d3', Value.category]
  exact X₁.ldcStringW hexec (own := own) (text := text) (index := is) (a := sa) hown' hstr'.1 hstr'.2
    (g := { method := m, pc := pc + 4, locals := ls, stack := .ref T.heap.size :: .ref T.heap.size :: rest, locked := none }) rfl d4' _ hsteps
end Ends
section Bodies
variable {l : Launch}
theorem vx_ofW {y : MethodName} {ws ws' : List Cond} {rm : Room} {Pc : Array Value → State → Prop} {Qc : Array Value → State → Outcome → State → Prop} {XC : String → State → State → Prop} {mc ms : Nat} {free : Addr → Prop} {cc : ByteArray} {maxL : Nat} {ret : Option FieldType}
    (hy : plainName y.cls = true) (hw : ws = Cond.code y cc maxL ret :: ws')
    (body : ∀ p e s m args below meth c s₁, BodyLoose p l y (headSpec ws rm) cc maxL ret e s m args below meth c s₁ → c.maxLocals = maxL → (∀ x ∈ c.exceptionTable.toList, False) → Pc args s →
      W p l e (headSpec ws rm).room s m args below meth c s.heap [] 0 0 (vx_MQ below Qc XC args s mc ms free) (entryFrame m args maxL)) : vx_Met l y ws rm Pc Qc XC mc ms free := by
  refine MetFree.of_bodyS (code := cc) (maxLocals := maxL) (ret := ret) hy ?_ ?_
  · intro args s m h hn
    obtain ⟨meth, c, h1, h2, h3, h4, h5, h6, -, -⟩ := Cond.code_spec hn (atoms_spec (ws := ws) h _ (by rw [hw]; exact List.mem_cons_self))
    exact ⟨meth, c, h1, h2, h3, h4, h5, h6⟩
  · intro p e s m args below meth c s₁ B hml hP _
    have hh0 : s₁.heap = s.heap := by rw [B.state]; rfl
    have ht : ∀ x ∈ c.exceptionTable.toList, False := by
      obtain ⟨meth9, c9, h1, h2, -, -, -, -, h7, -⟩ := Cond.code_spec B.named (atoms_spec (ws := ws) B.pre _ (by rw [hw]; exact List.mem_cons_self))
      cases Option.some.inj (h1.symm.trans B.method)
      cases Option.some.inj (h2.symm.trans (Stand.of_body B).code)
      intro x hx
      rw [Array.isEmpty_iff.mp h7] at hx
      cases hx
    obtain ⟨t, a1, o, b1, b2, b3⟩ := body p e s m args below meth c s₁ B hml ht hP s₁ hh0 (Stand.of_body B)
    exact ⟨t, o, a1, b1, b2, b3⟩
/-- the table of a body with handlers -/
theorem vx_table {p : Program} {x y : MethodName} {S : Spec} {cc bytes : ByteArray} {maxL maxL' : Nat} {ret ret' : Option FieldType} {e : Env} {s s₁ : State} {m : MethodId} {args : Array Value} {below : List Frame} {meth : Method} {c : Code} {hh : List (Nat × Nat × Nat × Nat)}
    (B : BodyLoose p l y S cc maxL ret e s m args below meth c s₁) (h : (Cond.codeWith y bytes maxL' ret' hh).before args s = true) : c.exceptionTable.toList = tableOf hh := by
  obtain ⟨m9, meth9, c9, hn9, h1, h2, -, -, h6, -⟩ := Cond.codeWith_spec h
  cases Option.some.inj (hn9.symm.trans B.named)
  cases Option.some.inj (h1.symm.trans B.method)
  cases Option.some.inj (h2.symm.trans (Stand.of_body B).code)
  rw [← h6, table_eq]
end Bodies
end VXA
/-! ===== END ===== -/
/-! ===== BEGIN a static call of a method with an exception table ===== -/
section VXS
variable {p : Program} {l : Launch} {e : Env} {R : Room} {s : State} {m : MethodId} {args : Array Value} {below : List Frame} {meth : Method} {c : Code} {T : State} {H : Heap} {locs : List Loc} {cells slots : Nat}
abbrev vx_CSW (R : Room) (s : State) (args : Array Value) (own : String) (index : Nat) (y : MethodName) (bytes : ByteArray) (maxL : Nat) (ret : Option FieldType) (hh : List (Nat × Nat × Nat × Nat)) (ws : List Cond) (rm : Room) (mc ms n : Nat) : Prop :=
  (rm.cells = mc ∧ rm.slots = ms ∧ rm.frames + 1 ≤ R.frames ∧ 8 + (maxL + 11) + rm.locals ≤ R.locals ∧ (∀ w ∈ ws, ∀ (a' : Array Value) (U : State), s.WarmedH U.vm → w.before a' U = true) ∧ Cond.codeWith y bytes maxL ret hh ∈ ws) ∧
  (Cond.codeWith y bytes maxL ret hh).before args s = true ∧ (Cond.initialized y.cls).before args s = true ∧ (y.cls ≠ "java/lang/invoke/MethodHandle" ∧ y.cls ≠ "java/lang/invoke/VarHandle") ∧
  (∀ sig, parseMethodDescriptor y.desc = some sig → n = sig.parameters.length) ∧ (Cond.methodLink own index y).before args s = true ∧ (Cond.static y).before args s = true
theorem vx_cwSW {own : String} {index maxL mc ms : Nat} {y : MethodName} {bytes : ByteArray} {ret : Option FieldType} {hh : List (Nat × Nat × Nat × Nat)} {Ts ws ws' : List Cond} {rm : Room} (n : Nat) (ht : ∀ w ∈ Ts, w.before args s = true) (hT : GoodIn Ts (va_wsS own index y ws)) (hw : ws = Cond.codeWith y bytes maxL ret hh :: ws') (hrc : rm.cells = mc) (hrs : rm.slots = ms)
    (hd : y.cls ≠ "java/lang/invoke/MethodHandle" ∧ y.cls ≠ "java/lang/invoke/VarHandle" ∧ (parseMethodDescriptor y.desc).map (fun d => d.parameters.length) = some n) (hR : rm.frames + 1 ≤ R.frames ∧ 8 + (maxL + 11) + rm.locals ≤ R.locals) :
    vx_CSW R s args own index y bytes maxL ret hh ws rm mc ms n := by
  have ok : ∀ w ∈ va_wsS own index y ws, w.before args s = true := fun w h => ht w (hT w h).1
  have hG : GoodIn Ts ws := fun w h => hT w (by unfold va_wsS; exact List.mem_append_right _ h)
  have hc : Cond.codeWith y bytes maxL ret hh ∈ ws := by rw [hw]; exact List.mem_cons_self
  refine ⟨⟨hrc, hrs, hR.1, hR.2, pay_in ht hG, hc⟩, ht _ (hG _ hc).1, ok _ (by simp [va_wsS]), ⟨hd.1, hd.2.1⟩, fun sig h => ?_, ok _ (by simp [va_wsS]), ok _ (by simp [va_wsS])⟩
  have h2 := hd.2.2
  rw [h] at h2
  exact (Option.some.inj h2).symm
theorem vx_callSW (X : Stand p l e R s m args below meth c T locs cells slots) (hexec : p.tables.exec = Jvm.exec) {own : String} {index : Nat} {y : MethodName} {bytes : ByteArray} {maxL : Nat} {ret : Option FieldType} {hh : List (Nat × Nat × Nat × Nat)}
    (hown : s.vm.findClass own = some m.cls) (hlink : (Cond.methodLink own index y).before args s = true) (hstat : (Cond.static y).before args s = true) (hinit : (Cond.initialized y.cls).before args s = true)
    (hcode : (Cond.codeWith y bytes maxL ret hh).before args s = true) (hy : y.cls ≠ "java/lang/invoke/MethodHandle" ∧ y.cls ≠ "java/lang/invoke/VarHandle")
    {W9 : Nat} {Pre : Pt → Array Value → Prop} {Post : Pt → Array Value → Option Value → Pt → Prop} (hK : Back l R p e below s args y 3 W9 Pre Post)
    {g : JFrame} (hg : g.method = m) (hsize : g.locals.size = c.maxLocals) {argsL rest : List Value} (hlen : ∀ sig, parseMethodDescriptor y.desc = some sig → argsL.length = sig.parameters.length)
    (hstack : g.stack = argsL.reverse ++ rest) (hW : 2 * g.monitorRoom + (rest.map fun v => v.category).sum ≤ W9) (hdg : decode c.code g.pc = .ok (.invokestatic index, 3))
    (hpre : ∀ vm₁, s.WarmedH vm₁ → Pre ⟨T.setVm vm₁, locs, cells, slots⟩ argsL.toArray) :
    ∃ (v : Option Value) (vm₁ : Vm) (B : Pt), s.WarmedH vm₁ ∧ Stand p l e R s m args below meth c B.U B.locs B.cells B.slots ∧ Post ⟨T.setVm vm₁, locs, cells, slots⟩ argsL.toArray v B ∧
      ∀ target, Steps p.tables e below (B.U.setTop { g with pc := g.pc + 3, stack := v.toList ++ rest }) target → Steps p.tables e below (T.setTop g) target := by
  obtain ⟨mk, methM, cM, hnamed, hmethM, -, -, -, -, -, -, hsigM⟩ := Cond.codeWith_spec hcode
  have hstatic : methM.isStatic = true := Cond.static_spec hnamed hmethM hstat
  obtain ⟨kP, hkP, -⟩ := className_of_methodNamed hnamed
  have hinitP : kP.init = .initialized := Cond.initialized_spec (findClass_of_methodNamed hnamed) hkP hinit
  obtain ⟨vm₁, X₁, hstep₁⟩ := X.invokestatic hexec hown hlink hnamed hmethM hstatic hkP hinitP hy (g := g) hg (argsL := argsL) (rest := rest) (hlen _ hsigM) hstack hdg
  obtain ⟨v, B, X', hpost, hsteps⟩ := hK m meth c ⟨T.setVm vm₁, locs, cells, slots⟩ { g with stack := rest } (.invokestatic index) mk argsL.toArray X₁ hg hsize hdg hW (X₁.named hnamed) (hpre vm₁ X₁.warmed)
  exact ⟨v, vm₁, B, X₁.warmed, X', hpost, fun target h => hstep₁ _ fun acts => by rw [doInvoke_state]; exact hsteps.trans h⟩
theorem vx_runSW {y : MethodName} {bytes cc : ByteArray} {maxL nL mc ms n index : Nat} {ret : Option FieldType} {hh : List (Nat × Nat × Nat × Nat)} {ws : List Cond} {rm : Room} {Pc : Array Value → State → Prop} {Qc : Array Value → State → Outcome → State → Prop} {free : Addr → Prop} {Ts : List Cond} {own : String} {As rest : List Value} {g : JFrame}
    (S : CallFix p m c cc nL s args Ts own) (hM : Met l y ws rm Pc Qc mc ms free) (cw : vx_CSW R s args own index y bytes maxL ret hh ws rm mc ms n) (hp : PreS s H Pc As)
    (hg : g.method = m) (hn : As.length = n) (hsize : g.locals.size = nL) (hstack : g.stack = As.reverse ++ rest) (hW : 2 * g.monitorRoom + (rest.map fun v => v.category).sum ≤ 8) (hdg : decode cc g.pc = .ok (.invokestatic index, 3)) (hf : cells + mc ≤ R.cells ∧ slots + ms ≤ R.slots) :
    va_Run p l e R s m args below meth c H locs cells slots mc ms g rest (Qc As.toArray) (free) := by
  obtain ⟨⟨hrc, hrs, hfr, hlo, hws, hcw⟩, hcode, hini, hy, hlen, hl, hstt⟩ := cw
  have hK : Back l R p e below s args y 3 8 (PreOf R mc ms Pc) (PostOf Qc mc ms free) := va_backW (hh := hh) (bytes := bytes) (maxL := maxL) (ret := ret) hM hp.1 hrc hrs hfr hlo hws hcw (fun a' U hW => word_at hW (Or.inl (by first | rfl | simp [Cond.onTables, Cond.keeps, Cond.steady])) hini)
  obtain ⟨hx, hb, hml, ho, -⟩ := S
  intro T hT X
  obtain ⟨v, vm₁, ⟨U', l2, c2, s2⟩, hW₁, X', ⟨g', mk, t, L, e1, e2, hq, h1, hL, h2, h3⟩, st⟩ := vx_callSW X hx (hh := hh) (bytes := bytes) (maxL := maxL) (ret := ret) ho hl hstt hini hcode hy hK hg (hsize.trans hml.symm) (argsL := As) (rest := rest) (fun sig h => hn.trans (hlen sig h)) hstack hW (by rw [hb]; exact hdg)
    (fun vm₁ hW₁ => ⟨hf.1, hf.2, hp.2 (T.setVm vm₁) hT hW₁⟩)
  dsimp only [Pt.U, Pt.locs, Pt.cells, Pt.slots] at X' e1 e2 h1 h2 h3 st
  subst h1; subst h2; subst h3
  exact ⟨v, (T.setVm vm₁).calling g' mk As.toArray, t, U', L, hT, X', hL, e1, e2, hq, st⟩
/-- not caught here, past rows that name other classes: it goes on to the caller -/
theorem vx_outP {p : Program} {l : Launch} {e : Env} {R : Room} {s : State} {m : MethodId} {args : Array Value} {below : List Frame} {meth : Method} {c : Code} {H : Heap} {locs : List Loc} {cells slots : Nat} {free : Addr → Prop} {ls : Array Slot} {rest : List Value} {Qc : Array Value → State → Outcome → State → Prop} {XC : String → State → State → Prop}
    {pc : Nat} {own E : String} {ce : Cell} {q : Addr} {mc ms : Nat} (hown : s.vm.findClass own = some m.cls) (hlocks : meth.locks = false)
    (hpass : ∀ z ∈ c.exceptionTable.toList, covers z pc = false ∨ (z.catchType ≠ 0 ∧ ∃ nm : String, (Cond.classLink own z.catchType nm).before args s = true ∧ va_Nc E nm s)) (hcell : H[q]? = some ce) (hv : ce.vm = .none) (hcl : s.vm.findClass E = some ce.cls)
    (hx : ∀ t : State, t.heap = H → s.vm.Alike t.vm → XC E s t) (hf : ∀ z ∈ locs, free z.base) (hc : cells ≤ mc) (hs : slots ≤ ms) :
    vx_W p l e R s m args below meth c H locs cells slots (vx_MQ below Qc XC args s mc ms free) (F0 m pc ls rest) q := by
  intro T hT X
  have hpl : e.platform.magicAccessors = ({} : Platform).magicAccessors := by rw [X.admits.platform]
  obtain ⟨vm', hW', X', st⟩ := X.outThrough hlocks q (g := F0 m pc ls rest) rfl rfl rfl (cell := ce) (by rw [hT]; exact hcell) (by rw [hv]; rfl)
    (by obtain ⟨k9, h9, -⟩ := Vm.findClass_spec hcl; exact ⟨k9, h9⟩) (fun z hz => by
      rcases hpass z hz with h | ⟨hz0, nm, hl1, hn1⟩
      · exact Or.inl h
      · obtain ⟨c6, hc6, hcl6⟩ := Cond.classLink_spec hown hl1 e.platform hpl
        obtain ⟨a8, b8, h1, h2, h3⟩ := hn1
        cases Option.some.inj (h1.symm.trans hcl)
        cases Option.some.inj (h2.symm.trans hc6)
        exact Or.inr ⟨hz0, _, hcl6, h3⟩)
  obtain ⟨g₀, hfr⟩ := X'.frames_eq
  have hcell9 : ((T.setVm vm').setFrames (.throwing q :: below)).heap[q]? = some ce := by
    show T.heap[q]? = some ce
    rw [hT]; exact hcell
  have hend : Ended ((T.setVm vm').setFrames (.throwing q :: below)) below (.threw q) := State.frames_setFrames _ (State.cur_lt_of_frames hfr)
  refine ⟨(T.setVm vm').setFrames (.throwing q :: below), ?_, .threw q, X'.here.running, hend, Or.inr ⟨q, rfl, E, ce, locs, hx _ hT (X'.ends _).1.alike, hcell9, hv, hcl, (X'.ends _).1, (X'.ends _).2.mono hc hs, hf⟩⟩
  rw [X.pushThrowing_eq]
  exact st
/-- a thing of a world lies in the heap -/
theorem vx_lt {D : va_G} {cl : List vw_C} {ws : va_W} {H1 : Heap} (h : va_P D cl ws H1) {k : Nat} {q : Nat × va_E} (hk : ws[k]? = some q) : q.1 < H1.size := (h k q hk).lt
end VXS
/-! ===== END ===== -/
/-! ===== BEGIN methods with a table of their own: called by a name, returning or throwing ===== -/
section VXH
/-! vx_backW, vx_callVX, vx_callSX, vx_callVW, vx_runVW, vx_runVX, vx_runSX, vx_ofWH follow the same proofs as their sisters above (Free/Laws.lean, Shelf42/LK1.lean); vx_outP calls Shelf42/NT130.lean (outThrough). -/
section
variable {l : Launch} {R : Room} {p : Program} {e : Env} {below : List Frame} {s : State} {sargs : Array Value} {y : MethodName} {len W9 : Nat}
theorem vx_backW {ws : List Cond} {rm : Room} {Pc : Array Value → State → Prop} {Qc : Array Value → State → Outcome → State → Prop} {XC : String → State → State → Prop} {mc ms : Nat} {free : Addr → Prop} {bytes : ByteArray} {maxL : Nat} {ret : Option FieldType} {hh : List (Nat × Nat × Nat × Nat)}
    (hM : vx_Met l y ws rm Pc Qc XC mc ms free) (hblind : FrameBlind Pc) (hrc : rm.cells = mc) (hrs : rm.slots = ms)
    (hframes : rm.frames + 1 ≤ R.frames) (hlocals : W9 + (maxL + 11) + rm.locals ≤ R.locals)
    (hws : ∀ w ∈ ws, ∀ a' U, s.WarmedH U.vm → w.before a' U = true) (hcode : Cond.codeWith y bytes maxL ret hh ∈ ws) (hinit : ∀ a' U, s.WarmedH U.vm → (Cond.initialized y.cls).before a' U = true) :
    vx_Back l R p e below s sargs y len W9 (PreOf R mc ms Pc) (PostOf Qc mc ms free) (vx_Post XC mc ms free) := by
  intro m meth c A g ig mk a X hg hsize hdg hW hn hp
  have h1 : (headSpec ws rm).pre.before a A.U = true := atoms_intro fun w hw => hws w hw _ _ X.warmed
  have h2 : (Cond.codeWith y bytes maxL ret hh).before a A.U = true := hws _ hcode _ _ X.warmed
  have h3 : (Cond.initialized y.cls).before a A.U = true := hinit _ _ X.warmed
  have h4 : A.cells + (headSpec ws rm).room.cells ≤ R.cells := by rw [show (headSpec ws rm).room.cells = mc from hrc]; exact hp.1
  have h5 : A.slots + (headSpec ws rm).room.slots ≤ R.slots := by rw [show (headSpec ws rm).room.slots = ms from hrs]; exact hp.2.1
  have hPc : Pc a (A.U.calling g mk a) := hblind _ _ _ _ hp.2.2
  obtain ⟨U, Ls, c0, s0⟩ := A
  dsimp only [Pt.U, Pt.locs, Pt.cells, Pt.slots] at h1 h2 h3 h4 h5 X hn hPc ⊢
  obtain ⟨m9, methY, cY, hn9, hmY, hcY, -, hlY, -⟩ := Cond.codeWith_spec h2
  cases Option.some.inj (hn9.symm.trans hn)
  obtain ⟨kY, hkY, -⟩ := className_of_methodNamed hn
  have hinitY : kY.init = .initialized := Cond.initialized_spec (findClass_of_methodNamed hn) hkY h3
  have h : At U g.method c below := by rw [hg]; exact X.here
  have hlocals9 : W9 + (maxL + 11) + (headSpec ws rm).room.locals ≤ R.locals := hlocals
  have happ : (headSpec ws rm).appliesLoose y e.platform (U.calling g mk a) = true :=
    Spec.appliesLoose_calling (g := g) h hdg hn hkY hinitY
      (X.room_calling (g := g) (R' := (headSpec ws rm).room) hsize hmY hcY hframes (by rw [hlY]; omega) h4 h5) h1
  obtain ⟨mid, hmid⟩ := h.above
  have hfr : (U.setTop g).frames = (.java g :: mid) ++ below := by rw [State.frames_setTop' g h.top, hmid]; rfl
  obtain ⟨o, s₂, hsteps, -, hend, hq⟩ := Steps.callFree hM p X.admits X.cas X.clock (acts := []) hfr happ hPc trivial
  have hq' : vx_Q Qc XC mc ms free a (U.calling g mk a) o s₂ := hq
  rw [State.frames_setTop' g h.top] at hend
  obtain ⟨g₀, hg0⟩ := Option.isSome_iff_exists.mp h.top
  obtain ⟨r, hr⟩ := State.topJava?_eq_some.mp hg0
  have hr' : (({ U with heap := s₂.heap, slotsUsed := s₂.slotsUsed } : State).setVm s₂.vm).frames = .java g₀ :: r := hr
  rcases hq' with ⟨hqc, L, hfe, hL⟩ | ⟨q, rfl, E, ce, L, hx, hce, hcv, hcl, hW₂, hsm, hL⟩
  · obtain ⟨⟨v, rfl⟩, hW₂, e2, q2, q3, q4, q5, q6⟩ := id hfe
    have e3 : s₂ = ({ (U.calling g mk a).setFrames s₂.frames with heap := s₂.heap, slotsUsed := s₂.slotsUsed } : State).setVm s₂.vm := by
      have : s₂ = ({ s₂ with vm := (U.calling g mk a).vm } : State).setVm s₂.vm := rfl
      rw [e2] at this
      exact this
    obtain ⟨c₂, i₂, len₂, hc₂, hd₂, hf₂⟩ := hend
    have hW' : U.WarmedH s₂.vm := hW₂
    have hcc : c₂ = c := by
      have h1 : s₂.code? g.method = U.code? g.method := by
        rw [State.code?_eq, State.code?_eq, hW'.alike.method?]
      exact Option.some.inj (hc₂.symm.trans (h1.trans h.code))
    subst hcc
    have hlen : len₂ = len := by rw [hdg] at hd₂; cases hd₂; rfl
    subst hlen
    have hs₂ : s₂ = (({ U with heap := s₂.heap, slotsUsed := s₂.slotsUsed } : State).setVm s₂.vm).setTop { g with pc := g.pc + len₂, stack := v.toList ++ g.stack } := by
      refine e3.trans ?_
      rw [hf₂, State.calling_eq h.top, State.setFrames_setFrames, State.setTop_of_frames _ hr', hr]
      rfl
    have hsame : U.sameButNew ({ U with heap := s₂.heap, slotsUsed := s₂.slotsUsed } : State) L mc ms := by
      refine ⟨?_, q2, q3, q4, q5, q6⟩
      obtain ⟨t, ht, -⟩ := State.frames_cons hr
      show ({ U with heap := s₂.heap, slotsUsed := s₂.slotsUsed } : State) = { U.setFrames U.frames with heap := s₂.heap, slotsUsed := s₂.slotsUsed }
      rw [State.setFrames_self ht]
    subst hg
    refine Or.inl ⟨v, ⟨(({ U with heap := s₂.heap, slotsUsed := s₂.slotsUsed } : State).setVm s₂.vm), Ls ++ L, c0 + mc, s0 + ms⟩,
      ⟨X.admits, X.cas, X.clock, X.frames, X.room, X.hears, X.method, X.code, (X.here.setHeapUsed s₂.heap s₂.slotsUsed).setVm hW'.alike, X.tail, State.WarmedH.trans X.warmed hW', X.limits, X.bytes, X.same.trans (hsame.setVm s.vm)⟩,
      ⟨g, mk, s₂, L, rfl, rfl, hqc, rfl, hL, rfl, rfl⟩, ?_⟩
    show Steps p.tables e below _ ((({ U with heap := s₂.heap, slotsUsed := s₂.slotsUsed } : State).setVm s₂.vm).setTop { g with pc := g.pc + len₂, stack := v.toList ++ g.stack })
    rw [← hs₂]
    exact hsteps
  · obtain ⟨e2, q2, q3, q4, q5, q6⟩ := id hsm
    have e3 : s₂ = ({ (U.calling g mk a).setFrames s₂.frames with heap := s₂.heap, slotsUsed := s₂.slotsUsed } : State).setVm s₂.vm := by
      have : s₂ = ({ s₂ with vm := (U.calling g mk a).vm } : State).setVm s₂.vm := rfl
      rw [e2] at this
      exact this
    have hf₂ : s₂.frames = .throwing q :: .java g :: U.frames.tail := hend
    have hW' : U.WarmedH s₂.vm := hW₂
    have hs₂ : s₂ = ((({ U with heap := s₂.heap, slotsUsed := s₂.slotsUsed } : State).setVm s₂.vm).setTop g).pushFrame (.throwing q) := by
      refine e3.trans ?_
      rw [hf₂, State.calling_eq h.top, State.setFrames_setFrames, State.pushFrame, State.frames_setTop _ hr', State.setTop_of_frames _ hr', State.setFrames_setFrames, hr]
      rfl
    have hsame : U.sameButNew ({ U with heap := s₂.heap, slotsUsed := s₂.slotsUsed } : State) L mc ms := by
      refine ⟨?_, q2, q3, q4, q5, q6⟩
      obtain ⟨t, ht, -⟩ := State.frames_cons hr
      show ({ U with heap := s₂.heap, slotsUsed := s₂.slotsUsed } : State) = { U.setFrames U.frames with heap := s₂.heap, slotsUsed := s₂.slotsUsed }
      rw [State.setFrames_self ht]
    subst hg
    refine Or.inr ⟨q, ⟨(({ U with heap := s₂.heap, slotsUsed := s₂.slotsUsed } : State).setVm s₂.vm), Ls ++ L, c0 + mc, s0 + ms⟩,
      ⟨X.admits, X.cas, X.clock, X.frames, X.room, X.hears, X.method, X.code, (X.here.setHeapUsed s₂.heap s₂.slotsUsed).setVm hW'.alike, X.tail, State.WarmedH.trans X.warmed hW', X.limits, X.bytes, X.same.trans (hsame.setVm s.vm)⟩,
      ⟨g, mk, s₂, L, E, ce, rfl, rfl, hx, hce, hcv, hcl, rfl, hL, rfl, rfl⟩, ?_⟩
    show Steps p.tables e below _ (((({ U with heap := s₂.heap, slotsUsed := s₂.slotsUsed } : State).setVm s₂.vm).setTop g).pushFrame (.throwing q))
    rw [← hs₂]
    exact hsteps
end
variable {p : Program} {l : Launch} {e : Env} {R : Room} {s : State} {m : MethodId} {args : Array Value} {below : List Frame} {meth : Method} {c : Code} {T : State} {H : Heap} {locs : List Loc} {cells slots : Nat}
theorem vx_callVX (X : Stand p l e R s m args below meth c T locs cells slots) (hexec : p.tables.exec = Jvm.exec) {own C : String} {index : Nat} {y : MethodName} {bytes : ByteArray} {maxL : Nat} {ret : Option FieldType} {hh : List (Nat × Nat × Nat × Nat)}
    (hown : s.vm.findClass own = some m.cls) (hlink : (Cond.methodLink own index y).before args s = true) (hinst : (Cond.instanceMethod y).before args s = true) (hsel : (Cond.selects C y y).before args s = true)
    (hcode : (Cond.codeWith y bytes maxL ret hh).before args s = true) (hy : y.cls ≠ "java/lang/invoke/MethodHandle" ∧ y.cls ≠ "java/lang/invoke/VarHandle")
    {W9 : Nat} {Pre : Pt → Array Value → Prop} {Post : Pt → Array Value → Option Value → Pt → Prop} {PostX : Pt → Array Value → Addr → Pt → Prop} (hK : vx_Back l R p e below s args y 3 W9 Pre Post PostX)
    {b : Addr} {cellB : Cell} (hcell : T.heap[b]? = some cellB) (hobj : cellB.vm.isStatics = false) (hcls : s.vm.findClass C = some cellB.cls)
    {g : JFrame} (hg : g.method = m) (hsize : g.locals.size = c.maxLocals) {argsL rest : List Value} (hlen : ∀ sig, parseMethodDescriptor y.desc = some sig → argsL.length = sig.parameters.length)
    (hstack : g.stack = argsL.reverse ++ .ref b :: rest) (hW : 2 * g.monitorRoom + (rest.map fun v => v.category).sum ≤ W9) (hdg : decode c.code g.pc = .ok (.invokevirtual index, 3))
    (hpre : ∀ vm₁, s.WarmedH vm₁ → Pre ⟨T.setVm vm₁, locs, cells, slots⟩ (Value.ref b :: argsL).toArray) :
    (∃ (v : Option Value) (vm₁ : Vm) (B : Pt), s.WarmedH vm₁ ∧ Stand p l e R s m args below meth c B.U B.locs B.cells B.slots ∧ Post ⟨T.setVm vm₁, locs, cells, slots⟩ (Value.ref b :: argsL).toArray v B ∧
      ∀ target, Steps p.tables e below (B.U.setTop { g with pc := g.pc + 3, stack := v.toList ++ rest }) target → Steps p.tables e below (T.setTop g) target) ∨
    (∃ (q : Addr) (vm₁ : Vm) (B : Pt), s.WarmedH vm₁ ∧ Stand p l e R s m args below meth c B.U B.locs B.cells B.slots ∧ PostX ⟨T.setVm vm₁, locs, cells, slots⟩ (Value.ref b :: argsL).toArray q B ∧
      Steps p.tables e below (T.setTop g) ((B.U.setTop { g with stack := rest }).pushFrame (.throwing q))) := by
  obtain ⟨mk, methM, hnamed, hmethM, hstM, habM⟩ := Cond.instanceMethod_spec hinst
  obtain ⟨m8, methM', cM, hn8, hmethM', -, -, -, -, -, -, hsigM⟩ := Cond.codeWith_spec hcode
  cases Option.some.inj (hn8.symm.trans hnamed)
  cases hmethM.symm.trans hmethM'
  obtain ⟨c2, r2, m2, q1, q2, q3, q4, kP, hkP, hkPi⟩ := Cond.selects_spec hsel
  cases hcls.symm.trans q1
  cases (State.methodFound?_of_named hnamed hy).symm.trans q2
  cases hnamed.symm.trans q3
  have hselP : selectMethod e.platform s.vm cellB.cls mk = .method mk := by rw [Launch.admits_selectMethod X.admits]; exact q4
  obtain ⟨vm₁, X₁, hstep₁⟩ := X.invokevirtual hexec hown hlink hnamed hmethM hstM hkP hkPi hy (a := b) (cell := cellB) hcell
    (fun z h => by rw [h] at hobj; cases hobj) hselP hmethM habM hkP hkPi (g := g) hg (argsL := argsL) (rest := rest) (hlen _ hsigM) hstack hdg
  rcases hK m meth c ⟨T.setVm vm₁, locs, cells, slots⟩ { g with stack := rest } (.invokevirtual index) mk (Value.ref b :: argsL).toArray X₁ hg hsize hdg hW (X₁.named hnamed) (hpre vm₁ X₁.warmed) with ⟨v, B, X', hpost, hsteps⟩ | ⟨q, B, X', hpost, hsteps⟩
  · exact Or.inl ⟨v, vm₁, B, X₁.warmed, X', hpost, fun target h => hstep₁ _ fun acts => by rw [doInvoke_state]; exact hsteps.trans h⟩
  · exact Or.inr ⟨q, vm₁, B, X₁.warmed, X', hpost, hstep₁ _ fun acts => by rw [doInvoke_state]; exact hsteps⟩
theorem vx_callSX (X : Stand p l e R s m args below meth c T locs cells slots) (hexec : p.tables.exec = Jvm.exec) {own : String} {index : Nat} {y : MethodName} {bytes : ByteArray} {maxL : Nat} {ret : Option FieldType} {hh : List (Nat × Nat × Nat × Nat)}
    (hown : s.vm.findClass own = some m.cls) (hlink : (Cond.methodLink own index y).before args s = true) (hstat : (Cond.static y).before args s = true) (hinit : (Cond.initialized y.cls).before args s = true)
    (hcode : (Cond.codeWith y bytes maxL ret hh).before args s = true) (hy : y.cls ≠ "java/lang/invoke/MethodHandle" ∧ y.cls ≠ "java/lang/invoke/VarHandle")
    {W9 : Nat} {Pre : Pt → Array Value → Prop} {Post : Pt → Array Value → Option Value → Pt → Prop} {PostX : Pt → Array Value → Addr → Pt → Prop} (hK : vx_Back l R p e below s args y 3 W9 Pre Post PostX)
    {g : JFrame} (hg : g.method = m) (hsize : g.locals.size = c.maxLocals) {argsL rest : List Value} (hlen : ∀ sig, parseMethodDescriptor y.desc = some sig → argsL.length = sig.parameters.length)
    (hstack : g.stack = argsL.reverse ++ rest) (hW : 2 * g.monitorRoom + (rest.map fun v => v.category).sum ≤ W9) (hdg : decode c.code g.pc = .ok (.invokestatic index, 3))
    (hpre : ∀ vm₁, s.WarmedH vm₁ → Pre ⟨T.setVm vm₁, locs, cells, slots⟩ argsL.toArray) :
    (∃ (v : Option Value) (vm₁ : Vm) (B : Pt), s.WarmedH vm₁ ∧ Stand p l e R s m args below meth c B.U B.locs B.cells B.slots ∧ Post ⟨T.setVm vm₁, locs, cells, slots⟩ argsL.toArray v B ∧
      ∀ target, Steps p.tables e below (B.U.setTop { g with pc := g.pc + 3, stack := v.toList ++ rest }) target → Steps p.tables e below (T.setTop g) target) ∨
    (∃ (q : Addr) (vm₁ : Vm) (B : Pt), s.WarmedH vm₁ ∧ Stand p l e R s m args below meth c B.U B.locs B.cells B.slots ∧ PostX ⟨T.setVm vm₁, locs, cells, slots⟩ argsL.toArray q B ∧
      Steps p.tables e below (T.setTop g) ((B.U.setTop { g with stack := rest }).pushFrame (.throwing q))) := by
  obtain ⟨mk, methM, cM, hnamed, hmethM, -, -, -, -, -, -, hsigM⟩ := Cond.codeWith_spec hcode
  have hstatic : methM.isStatic = true := Cond.static_spec hnamed hmethM hstat
  obtain ⟨kP, hkP, -⟩ := className_of_methodNamed hnamed
  have hinitP : kP.init = .initialized := Cond.initialized_spec (findClass_of_methodNamed hnamed) hkP hinit
  obtain ⟨vm₁, X₁, hstep₁⟩ := X.invokestatic hexec hown hlink hnamed hmethM hstatic hkP hinitP hy (g := g) hg (argsL := argsL) (rest := rest) (hlen _ hsigM) hstack hdg
  rcases hK m meth c ⟨T.setVm vm₁, locs, cells, slots⟩ { g with stack := rest } (.invokestatic index) mk argsL.toArray X₁ hg hsize hdg hW (X₁.named hnamed) (hpre vm₁ X₁.warmed) with ⟨v, B, X', hpost, hsteps⟩ | ⟨q, B, X', hpost, hsteps⟩
  · exact Or.inl ⟨v, vm₁, B, X₁.warmed, X', hpost, fun target h => hstep₁ _ fun acts => by rw [doInvoke_state]; exact hsteps.trans h⟩
  · exact Or.inr ⟨q, vm₁, B, X₁.warmed, X', hpost, hstep₁ _ fun acts => by rw [doInvoke_state]; exact hsteps⟩
theorem vx_callVW (X : Stand p l e R s m args below meth c T locs cells slots) (hexec : p.tables.exec = Jvm.exec) {own C : String} {index : Nat} {y : MethodName} {bytes : ByteArray} {maxL : Nat} {ret : Option FieldType} {hh : List (Nat × Nat × Nat × Nat)}
    (hown : s.vm.findClass own = some m.cls) (hlink : (Cond.methodLink own index y).before args s = true) (hinst : (Cond.instanceMethod y).before args s = true) (hsel : (Cond.selects C y y).before args s = true)
    (hcode : (Cond.codeWith y bytes maxL ret hh).before args s = true) (hy : y.cls ≠ "java/lang/invoke/MethodHandle" ∧ y.cls ≠ "java/lang/invoke/VarHandle")
    {W9 : Nat} {Pre : Pt → Array Value → Prop} {Post : Pt → Array Value → Option Value → Pt → Prop} (hK : Back l R p e below s args y 3 W9 Pre Post)
    {b : Addr} {cellB : Cell} (hcell : T.heap[b]? = some cellB) (hobj : cellB.vm.isStatics = false) (hcls : s.vm.findClass C = some cellB.cls)
    {g : JFrame} (hg : g.method = m) (hsize : g.locals.size = c.maxLocals) {argsL rest : List Value} (hlen : ∀ sig, parseMethodDescriptor y.desc = some sig → argsL.length = sig.parameters.length)
    (hstack : g.stack = argsL.reverse ++ .ref b :: rest) (hW : 2 * g.monitorRoom + (rest.map fun v => v.category).sum ≤ W9) (hdg : decode c.code g.pc = .ok (.invokevirtual index, 3))
    (hpre : ∀ vm₁, s.WarmedH vm₁ → Pre ⟨T.setVm vm₁, locs, cells, slots⟩ (Value.ref b :: argsL).toArray) :
    ∃ (v : Option Value) (vm₁ : Vm) (B : Pt), s.WarmedH vm₁ ∧ Stand p l e R s m args below meth c B.U B.locs B.cells B.slots ∧ Post ⟨T.setVm vm₁, locs, cells, slots⟩ (Value.ref b :: argsL).toArray v B ∧
      ∀ target, Steps p.tables e below (B.U.setTop { g with pc := g.pc + 3, stack := v.toList ++ rest }) target → Steps p.tables e below (T.setTop g) target := by
  obtain ⟨mk, methM, hnamed, hmethM, hstM, habM⟩ := Cond.instanceMethod_spec hinst
  obtain ⟨m8, methM', cM, hn8, hmethM', -, -, -, -, -, -, hsigM⟩ := Cond.codeWith_spec hcode
  cases Option.some.inj (hn8.symm.trans hnamed)
  cases hmethM.symm.trans hmethM'
  obtain ⟨c2, r2, m2, q1, q2, q3, q4, kP, hkP, hkPi⟩ := Cond.selects_spec hsel
  cases hcls.symm.trans q1
  cases (State.methodFound?_of_named hnamed hy).symm.trans q2
  cases hnamed.symm.trans q3
  have hselP : selectMethod e.platform s.vm cellB.cls mk = .method mk := by rw [Launch.admits_selectMethod X.admits]; exact q4
  obtain ⟨vm₁, X₁, hstep₁⟩ := X.invokevirtual hexec hown hlink hnamed hmethM hstM hkP hkPi hy (a := b) (cell := cellB) hcell
    (fun z h => by rw [h] at hobj; cases hobj) hselP hmethM habM hkP hkPi (g := g) hg (argsL := argsL) (rest := rest) (hlen _ hsigM) hstack hdg
  obtain ⟨v, B, X', hpost, hsteps⟩ := hK m meth c ⟨T.setVm vm₁, locs, cells, slots⟩ { g with stack := rest } (.invokevirtual index) mk (Value.ref b :: argsL).toArray X₁ hg hsize hdg hW (X₁.named hnamed) (hpre vm₁ X₁.warmed)
  exact ⟨v, vm₁, B, X₁.warmed, X', hpost, fun target h => hstep₁ _ fun acts => by rw [doInvoke_state]; exact hsteps.trans h⟩
abbrev vx_CVW (R : Room) (s : State) (args : Array Value) (own C : String) (index : Nat) (y : MethodName) (bytes : ByteArray) (maxL : Nat) (ret : Option FieldType) (hh : List (Nat × Nat × Nat × Nat)) (ws : List Cond) (rm : Room) (mc ms n : Nat) : Prop :=
  (rm.cells = mc ∧ rm.slots = ms ∧ rm.frames + 1 ≤ R.frames ∧ 8 + (maxL + 11) + rm.locals ≤ R.locals ∧ (∀ w ∈ ws, ∀ (a' : Array Value) (U : State), s.WarmedH U.vm → w.before a' U = true) ∧ Cond.codeWith y bytes maxL ret hh ∈ ws) ∧
  (Cond.codeWith y bytes maxL ret hh).before args s = true ∧ (Cond.initialized y.cls).before args s = true ∧ (y.cls ≠ "java/lang/invoke/MethodHandle" ∧ y.cls ≠ "java/lang/invoke/VarHandle") ∧
  (∀ sig, parseMethodDescriptor y.desc = some sig → n = sig.parameters.length) ∧ (Cond.methodLink own index y).before args s = true ∧ (Cond.instanceMethod y).before args s = true ∧ (Cond.selects C y y).before args s = true
theorem vx_cwVW {own C : String} {index maxL mc ms : Nat} {y : MethodName} {bytes : ByteArray} {ret : Option FieldType} {hh : List (Nat × Nat × Nat × Nat)} {Ts ws ws' : List Cond} {rm : Room} (n : Nat) (ht : ∀ w ∈ Ts, w.before args s = true) (hT : GoodIn Ts (wsV own index C y ws)) (hw : ws = Cond.codeWith y bytes maxL ret hh :: ws') (hrc : rm.cells = mc) (hrs : rm.slots = ms)
    (hd : y.cls = C ∧ y.cls ≠ "java/lang/invoke/MethodHandle" ∧ y.cls ≠ "java/lang/invoke/VarHandle" ∧ (parseMethodDescriptor y.desc).map (fun d => d.parameters.length) = some n) (hR : rm.frames + 1 ≤ R.frames ∧ 8 + (maxL + 11) + rm.locals ≤ R.locals) :
    vx_CVW R s args own C index y bytes maxL ret hh ws rm mc ms n := by
  obtain ⟨hC, hd⟩ := hd
  subst hC
  have ok : ∀ w ∈ wsV own index y.cls y ws, w.before args s = true := fun w h => ht w (hT w h).1
  have hG : GoodIn Ts ws := fun w h => hT w (by unfold wsV; exact List.mem_append_right _ h)
  have hc : Cond.codeWith y bytes maxL ret hh ∈ ws := by rw [hw]; exact List.mem_cons_self
  refine ⟨⟨hrc, hrs, hR.1, hR.2, pay_in ht hG, hc⟩, ht _ (hG _ hc).1, ok _ (by simp [wsV]), ⟨hd.1, hd.2.1⟩, fun sig h => ?_, ok _ (by simp [wsV]), ok _ (by simp [wsV]), ok _ (by simp [wsV])⟩
  have h2 := hd.2.2
  rw [h] at h2
  exact (Option.some.inj h2).symm
theorem vx_runVW {y : MethodName} {bytes cc : ByteArray} {maxL nL mc ms n index : Nat} {ret : Option FieldType} {hh : List (Nat × Nat × Nat × Nat)} {ws : List Cond} {rm : Room} {Pc : Array Value → State → Prop} {Qc : Array Value → State → Outcome → State → Prop} {free : Addr → Prop} {Ts : List Cond} {own C : String} {b : Addr} {As rest : List Value} {g : JFrame}
    (S : CallFix p m c cc nL s args Ts own) (hM : Met l y ws rm Pc Qc mc ms free) (cw : vx_CVW R s args own C index y bytes maxL ret hh ws rm mc ms n) (hp : PreV s H C b Pc As)
    (hg : g.method = m) (hn : As.length = n) (hsize : g.locals.size = nL) (hstack : g.stack = As.reverse ++ .ref b :: rest) (hW : 2 * g.monitorRoom + (rest.map fun v => v.category).sum ≤ 8) (hdg : decode cc g.pc = .ok (.invokevirtual index, 3)) (hf : cells + mc ≤ R.cells ∧ slots + ms ≤ R.slots) :
    va_Run p l e R s m args below meth c H locs cells slots mc ms g rest (Qc (Value.ref b :: As).toArray) free := by
  obtain ⟨⟨hrc, hrs, hfr, hlo, hws, hcw⟩, hcode, hini, hy, hlen, hl, hin, hse⟩ := cw
  have hK : Back l R p e below s args y 3 8 (PreOf R mc ms Pc) (PostOf Qc mc ms free) := va_backW (hh := hh) (bytes := bytes) (maxL := maxL) (ret := ret) hM hp.1 hrc hrs hfr hlo hws hcw (fun a' U hW => word_at hW (Or.inl (by first | rfl | simp [Cond.onTables, Cond.keeps, Cond.steady])) hini)
  obtain ⟨hx, hb, hml, ho, -⟩ := S
  obtain ⟨-, ⟨cellB, hcB, hoB, hclB⟩, hPc⟩ := hp
  intro T hT X
  obtain ⟨v, vm₁, ⟨U', l2, c2, s2⟩, hW₁, X', ⟨g', mk, t, L, e1, e2, hq, h1, hL, h2, h3⟩, st⟩ := vx_callVW X hx (C := C) (hh := hh) (bytes := bytes) (maxL := maxL) (ret := ret) ho hl hin hse hcode hy hK (by rw [hT]; exact hcB) hoB hclB hg (hsize.trans hml.symm) (argsL := As) (rest := rest) (fun sig h => hn.trans (hlen sig h)) hstack hW (by rw [hb]; exact hdg)
    (fun vm₁ hW₁ => ⟨hf.1, hf.2, hPc (T.setVm vm₁) hT hW₁⟩)
  dsimp only [Pt.U, Pt.locs, Pt.cells, Pt.slots] at X' e1 e2 h1 h2 h3 st
  subst h1; subst h2; subst h3
  exact ⟨v, (T.setVm vm₁).calling g' mk (Value.ref b :: As).toArray, t, U', L, hT, X', hL, e1, e2, hq, st⟩
section
variable {y : MethodName} {bytes cc : ByteArray} {maxL nL mc ms n index : Nat} {ret : Option FieldType} {ws : List Cond} {rm : Room} {Pc : Array Value → State → Prop} {Qc : Array Value → State → Outcome → State → Prop} {XC : String → State → State → Prop} {free : Addr → Prop} {Ts : List Cond} {own C : String} {b : Addr} {As rest : List Value} {g : JFrame}
theorem vx_runVX {hh : List (Nat × Nat × Nat × Nat)} (S : CallFix p m c cc nL s args Ts own) (hM : vx_Met l y ws rm Pc Qc XC mc ms free) (cw : vx_CVW R s args own C index y bytes maxL ret hh ws rm mc ms n) (hp : PreV s H C b Pc As)
    (hg : g.method = m) (hn : As.length = n) (hsize : g.locals.size = nL) (hstack : g.stack = As.reverse ++ .ref b :: rest) (hW : 2 * g.monitorRoom + (rest.map fun v => v.category).sum ≤ 8) (hdg : decode cc g.pc = .ok (.invokevirtual index, 3)) (hf : cells + mc ≤ R.cells ∧ slots + ms ≤ R.slots) :
    vx_Run p l e R s m args below meth c H locs cells slots mc ms g rest (Qc (Value.ref b :: As).toArray) XC free := by
  obtain ⟨⟨hrc, hrs, hfr, hlo, hws, hcw⟩, hcode, hini, hy, hlen, hl, hin, hse⟩ := cw
  have hK : vx_Back l R p e below s args y 3 8 (PreOf R mc ms Pc) (PostOf Qc mc ms free) (vx_Post XC mc ms free) := vx_backW (hh := hh) (bytes := bytes) (maxL := maxL) (ret := ret) hM hp.1 hrc hrs hfr hlo hws hcw (fun a' U hW => word_at hW (Or.inl (by first | rfl | simp [Cond.onTables, Cond.keeps, Cond.steady])) hini)
  obtain ⟨hx, hb, hml, ho, -⟩ := S
  obtain ⟨-, ⟨cellB, hcB, hoB, hclB⟩, hPc⟩ := hp
  intro T hT X
  rcases vx_callVX X hx (C := C) (hh := hh) (bytes := bytes) (maxL := maxL) (ret := ret) ho hl hin hse hcode hy hK (by rw [hT]; exact hcB) hoB hclB hg (hsize.trans hml.symm) (argsL := As) (rest := rest) (fun sig h => hn.trans (hlen sig h)) hstack hW (by rw [hb]; exact hdg)
    (fun vm₁ hW₁ => ⟨hf.1, hf.2, hPc (T.setVm vm₁) hT hW₁⟩) with ⟨v, vm₁, ⟨U', l2, c2, s2⟩, hW₁, X', ⟨g', mk, t, L, e1, e2, hq, h1, hL, h2, h3⟩, st⟩ | ⟨q, vm₁, ⟨U', l2, c2, s2⟩, hW₁, X', ⟨g', mk, t, L, E, ce, e1, e2, hq, hce, hcv, hcl, h1, hL, h2, h3⟩, st⟩
  · dsimp only [Pt.U, Pt.locs, Pt.cells, Pt.slots] at X' e1 e2 h1 h2 h3 st
    subst h1; subst h2; subst h3
    exact Or.inl ⟨v, (T.setVm vm₁).calling g' mk (Value.ref b :: As).toArray, t, U', L, hT, X', hL, e1, e2, hq, st⟩
  · dsimp only [Pt.U, Pt.locs, Pt.cells, Pt.slots] at X' e1 e2 h1 h2 h3 st hcl
    subst h1; subst h2; subst h3
    exact Or.inr ⟨q, (T.setVm vm₁).calling g' mk (Value.ref b :: As).toArray, t, U', L, E, ce, hT, X', hL, e1, e2, hq, hce, hcv, vx_cls hW₁ hcl, st⟩
theorem vx_runSX {hh : List (Nat × Nat × Nat × Nat)} (S : CallFix p m c cc nL s args Ts own) (hM : vx_Met l y ws rm Pc Qc XC mc ms free) (cw : vx_CSW R s args own index y bytes maxL ret hh ws rm mc ms n) (hp : PreS s H Pc As)
    (hg : g.method = m) (hn : As.length = n) (hsize : g.locals.size = nL) (hstack : g.stack = As.reverse ++ rest) (hW : 2 * g.monitorRoom + (rest.map fun v => v.category).sum ≤ 8) (hdg : decode cc g.pc = .ok (.invokestatic index, 3)) (hf : cells + mc ≤ R.cells ∧ slots + ms ≤ R.slots) :
    vx_Run p l e R s m args below meth c H locs cells slots mc ms g rest (Qc As.toArray) XC free := by
  obtain ⟨⟨hrc, hrs, hfr, hlo, hws, hcw⟩, hcode, hini, hy, hlen, hl, hstt⟩ := cw
  have hK : vx_Back l R p e below s args y 3 8 (PreOf R mc ms Pc) (PostOf Qc mc ms free) (vx_Post XC mc ms free) := vx_backW (hh := hh) (bytes := bytes) (maxL := maxL) (ret := ret) hM hp.1 hrc hrs hfr hlo hws hcw (fun a' U hW => word_at hW (Or.inl (by first | rfl | simp [Cond.onTables, Cond.keeps, Cond.steady])) hini)
  obtain ⟨hx, hb, hml, ho, -⟩ := S
  intro T hT X
  rcases vx_callSX X hx (hh := hh) (bytes := bytes) (maxL := maxL) (ret := ret) ho hl hstt hini hcode hy hK hg (hsize.trans hml.symm) (argsL := As) (rest := rest) (fun sig h => hn.trans (hlen sig h)) hstack hW (by rw [hb]; exact hdg)
    (fun vm₁ hW₁ => ⟨hf.1, hf.2, hp.2 (T.setVm vm₁) hT hW₁⟩) with ⟨v, vm₁, ⟨U', l2, c2, s2⟩, hW₁, X', ⟨g', mk, t, L, e1, e2, hq, h1, hL, h2, h3⟩, st⟩ | ⟨q, vm₁, ⟨U', l2, c2, s2⟩, hW₁, X', ⟨g', mk, t, L, E, ce, e1, e2, hq, hce, hcv, hcl, h1, hL, h2, h3⟩, st⟩
  · dsimp only [Pt.U, Pt.locs, Pt.cells, Pt.slots] at X' e1 e2 h1 h2 h3 st
    subst h1; subst h2; subst h3
    exact Or.inl ⟨v, (T.setVm vm₁).calling g' mk As.toArray, t, U', L, hT, X', hL, e1, e2, hq, st⟩
  · dsimp only [Pt.U, Pt.locs, Pt.cells, Pt.slots] at X' e1 e2 h1 h2 h3 st hcl
    subst h1; subst h2; subst h3
    exact Or.inr ⟨q, (T.setVm vm₁).calling g' mk As.toArray, t, U', L, E, ce, hT, X', hL, e1, e2, hq, hce, hcv, vx_cls hW₁ hcl, st⟩
end
end VXH
theorem vx_ofWH {l : Launch} {y : MethodName} {ws ws' : List Cond} {rm : Room} {Pc : Array Value → State → Prop} {Qc : Array Value → State → Outcome → State → Prop} {XC : String → State → State → Prop} {mc ms : Nat} {free : Addr → Prop} {cc : ByteArray} {maxL : Nat} {ret : Option FieldType} {hh : List (Nat × Nat × Nat × Nat)}
    (hy : plainName y.cls = true) (hw : ws = Cond.codeWith y cc maxL ret hh :: ws')
    (body : ∀ p e s m args below meth c s₁, BodyLoose p l y (headSpec ws rm) cc maxL ret e s m args below meth c s₁ → c.maxLocals = maxL → Pc args s →
      W p l e (headSpec ws rm).room s m args below meth c s.heap [] 0 0 (vx_MQ below Qc XC args s mc ms free) (entryFrame m args maxL)) : vx_Met l y ws rm Pc Qc XC mc ms free := by
  refine MetFree.of_bodyS (code := cc) (maxLocals := maxL) (ret := ret) hy ?_ ?_
  · intro args s m h hn
    obtain ⟨m9, meth, c, hn9, h1, h2, h3, h4, -, h5, h6, -⟩ := Cond.codeWith_spec (atoms_spec (ws := ws) h _ (by rw [hw]; exact List.mem_cons_self))
    cases hn.symm.trans hn9
    exact ⟨meth, c, h1, h2, h3, h4, h5, h6⟩
  · intro p e s m args below meth c s₁ B hml hP _
    have hh0 : s₁.heap = s.heap := by rw [B.state]; rfl
    obtain ⟨t, a1, o, b1, b2, b3⟩ := body p e s m args below meth c s₁ B hml hP s₁ hh0 (Stand.of_body B)
    exact ⟨t, o, a1, b1, b2, b3⟩
/-! ===== END ===== -/

/-! ===== BEGIN printed: names, fields, word lists, decode rows ===== -/
def RX0 : String := "DrumTalk$Land"
def TX0 : u_T := fun k => match k with
  | 0 => ("DrumTalk$Land", "villages", "[LDrumTalk$Village;", true)
  | 1 => ("DrumTalk$Land", "villageCount", "I", false)
  | 2 => ("DrumTalk$Land", "tones", "[I", true)
  | 3 => ("DrumTalk$Land", "toneCounts", "[I", true)
  | 4 => ("DrumTalk$Land", "phraseCount", "I", false)
  | 5 => ("DrumTalk$Land", "beat", "I", false)
  | _ => ("DrumTalk$Land", "drummings", "I", false)
def tyX0 : Nat → FieldType := fun k => match k with
  | 0 => .array (.object "DrumTalk$Village")
  | 1 => .int
  | 2 => .array .int
  | 3 => .array .int
  | 4 => .int
  | 5 => .int
  | _ => .int
abbrev wsX00 : List Cond := u_ws RX0 TX0 7
theorem nmX0 : ∀ a, a < 7 → ∀ b, b < 7 → a ≠ b → (TX0 a).2.1 ≠ (TX0 b).2.1 := by decide +kernel
theorem tyX0_ok : ∀ k, k < 7 → parseFieldDescriptor (TX0 k).2.2.1 = some (tyX0 k) := by decide +kernel
abbrev cX0_init : ByteArray := prog_2_method_1_code
def yX0_init : MethodName := ⟨RX0, "<init>", "()V"⟩
abbrev cX0_copy : ByteArray := prog_2_method_2_code
def yX0_copy : MethodName := ⟨RX0, "copy", "(LDrumTalk$Land;)V"⟩
abbrev cX0_hasVillageAt : ByteArray := prog_2_method_3_code
def yX0_hasVillageAt : MethodName := ⟨RX0, "hasVillageAt", "(II)Z"⟩
abbrev cX0_addVillage : ByteArray := prog_2_method_4_code
def yX0_addVillage : MethodName := ⟨RX0, "addVillage", "(III)I"⟩
abbrev cX0_hasPhrase : ByteArray := prog_2_method_5_code
def yX0_hasPhrase : MethodName := ⟨RX0, "hasPhrase", "(I)Z"⟩
abbrev cX0_addPhrase : ByteArray := prog_2_method_6_code
def yX0_addPhrase : MethodName := ⟨RX0, "addPhrase", "(II)I"⟩
abbrev cX0_figure : ByteArray := prog_2_method_7_code
def yX0_figure : MethodName := ⟨RX0, "figure", "(I)I"⟩
abbrev cX0_drummers : ByteArray := prog_2_method_8_code
def yX0_drummers : MethodName := ⟨RX0, "drummers", "()I"⟩
abbrev cX0_soundsInTheAir : ByteArray := prog_2_method_9_code
def yX0_soundsInTheAir : MethodName := ⟨RX0, "soundsInTheAir", "()I"⟩
abbrev cX0_soundsDrowned : ByteArray := prog_2_method_10_code
def yX0_soundsDrowned : MethodName := ⟨RX0, "soundsDrowned", "()I"⟩
abbrev cX0_knownPairs : ByteArray := prog_2_method_11_code
def yX0_knownPairs : MethodName := ⟨RX0, "knownPairs", "()I"⟩
abbrev cX0_knowersOf : ByteArray := prog_2_method_12_code
def yX0_knowersOf : MethodName := ⟨RX0, "knowersOf", "(I)I"⟩
abbrev cX0_hearersOf : ByteArray := prog_2_method_13_code
def yX0_hearersOf : MethodName := ⟨RX0, "hearersOf", "(I)I"⟩
abbrev cX0_letGo : ByteArray := prog_2_method_14_code
def yX0_letGo : MethodName := ⟨RX0, "letGo", "(I)I"⟩
abbrev cX0_isQuiet : ByteArray := prog_2_method_15_code
def yX0_isQuiet : MethodName := ⟨RX0, "isQuiet", "()Z"⟩
abbrev cX0_goBeat : ByteArray := prog_2_method_16_code
def yX0_goBeat : MethodName := ⟨RX0, "goBeat", "()I"⟩
abbrev cX0_beginDrumming : ByteArray := prog_2_method_17_code
def yX0_beginDrumming : MethodName := ⟨RX0, "beginDrumming", "(I)V"⟩
def RX1 : String := "DrumTalk$Sounds"
def TX1 : u_T := fun k => match k with
  | 0 => ("DrumTalk$Sounds", "phrases", "[I", true)
  | 1 => ("DrumTalk$Sounds", "firstBeats", "[I", true)
  | 2 => ("DrumTalk$Sounds", "lastBeats", "[I", true)
  | 3 => ("DrumTalk$Sounds", "drowned", "[I", true)
  | _ => ("DrumTalk$Sounds", "size", "I", false)
def tyX1 : Nat → FieldType := fun k => match k with
  | 0 => .array .int
  | 1 => .array .int
  | 2 => .array .int
  | 3 => .array .int
  | _ => .int
abbrev wsX10 : List Cond := u_ws RX1 TX1 5
theorem nmX1 : ∀ a, a < 5 → ∀ b, b < 5 → a ≠ b → (TX1 a).2.1 ≠ (TX1 b).2.1 := by decide +kernel
theorem tyX1_ok : ∀ k, k < 5 → parseFieldDescriptor (TX1 k).2.2.1 = some (tyX1 k) := by decide +kernel
abbrev cX1_init : ByteArray := prog_3_method_1_code
def yX1_init : MethodName := ⟨RX1, "<init>", "()V"⟩
abbrev cX1_copy : ByteArray := prog_3_method_2_code
def yX1_copy : MethodName := ⟨RX1, "copy", "(LDrumTalk$Sounds;)V"⟩
abbrev cX1_add : ByteArray := prog_3_method_3_code
def yX1_add : MethodName := ⟨RX1, "add", "(III)V"⟩
abbrev cX1_move : ByteArray := prog_3_method_4_code
def yX1_move : MethodName := ⟨RX1, "move", "(II)V"⟩
abbrev cX1_lasting : ByteArray := prog_3_method_5_code
def yX1_lasting : MethodName := ⟨RX1, "lasting", "(I)I"⟩
abbrev cX1_drown : ByteArray := prog_3_method_6_code
def yX1_drown : MethodName := ⟨RX1, "drown", "(I)V"⟩
def RX2 : String := "DrumTalk$Village"
def TX2 : u_T := fun k => match k with
  | 0 => ("DrumTalk$Village", "x", "I", false)
  | 1 => ("DrumTalk$Village", "y", "I", false)
  | 2 => ("DrumTalk$Village", "drum", "I", false)
  | 3 => ("DrumTalk$Village", "cliff", "Z", false)
  | 4 => ("DrumTalk$Village", "awakeFrom", "I", false)
  | 5 => ("DrumTalk$Village", "awakeBeats", "I", false)
  | 6 => ("DrumTalk$Village", "drumming", "I", false)
  | 7 => ("DrumTalk$Village", "beatsLeft", "I", false)
  | 8 => ("DrumTalk$Village", "queue", "[I", true)
  | 9 => ("DrumTalk$Village", "queued", "I", false)
  | 10 => ("DrumTalk$Village", "knownSince", "[I", true)
  | 11 => ("DrumTalk$Village", "inTheAir", "LDrumTalk$Sounds;", true)
  | _ => ("DrumTalk$Village", "drowned", "I", false)
def tyX2 : Nat → FieldType := fun k => match k with
  | 0 => .int
  | 1 => .int
  | 2 => .int
  | 3 => .boolean
  | 4 => .int
  | 5 => .int
  | 6 => .int
  | 7 => .int
  | 8 => .array .int
  | 9 => .int
  | 10 => .array .int
  | 11 => .object "DrumTalk$Sounds"
  | _ => .int
abbrev wsX20 : List Cond := u_ws RX2 TX2 13
theorem nmX2 : ∀ a, a < 13 → ∀ b, b < 13 → a ≠ b → (TX2 a).2.1 ≠ (TX2 b).2.1 := by decide +kernel
theorem tyX2_ok : ∀ k, k < 13 → parseFieldDescriptor (TX2 k).2.2.1 = some (tyX2 k) := by decide +kernel
abbrev cX2_init : ByteArray := prog_4_method_1_code
def yX2_init : MethodName := ⟨RX2, "<init>", "()V"⟩
abbrev cX2_copy : ByteArray := prog_4_method_2_code
def yX2_copy : MethodName := ⟨RX2, "copy", "(LDrumTalk$Village;)V"⟩
abbrev cX2_figure : ByteArray := prog_4_method_3_code
def yX2_figure : MethodName := ⟨RX2, "figure", "(II)I"⟩
abbrev cX2_isAwake : ByteArray := prog_4_method_4_code
def yX2_isAwake : MethodName := ⟨RX2, "isAwake", "(I)Z"⟩
abbrev cX2_isDrumming : ByteArray := prog_4_method_5_code
def yX2_isDrumming : MethodName := ⟨RX2, "isDrumming", "()Z"⟩
abbrev cX2_isReady : ByteArray := prog_4_method_6_code
def yX2_isReady : MethodName := ⟨RX2, "isReady", "(I)Z"⟩
abbrev cX2_distanceTo : ByteArray := prog_4_method_7_code
def yX2_distanceTo : MethodName := ⟨RX2, "distanceTo", "(LDrumTalk$Village;)I"⟩
abbrev cX2_isHeardAt : ByteArray := prog_4_method_8_code
def yX2_isHeardAt : MethodName := ⟨RX2, "isHeardAt", "(I)Z"⟩
abbrev cX2_isKnown : ByteArray := prog_4_method_9_code
def yX2_isKnown : MethodName := ⟨RX2, "isKnown", "(I)Z"⟩
abbrev cX2_phrasesKnown : ByteArray := prog_4_method_10_code
def yX2_phrasesKnown : MethodName := ⟨RX2, "phrasesKnown", "()I"⟩
abbrev cX2_takeIn : ByteArray := prog_4_method_11_code
def yX2_takeIn : MethodName := ⟨RX2, "takeIn", "(II)V"⟩
abbrev cX2_takeFromQueue : ByteArray := prog_4_method_12_code
def yX2_takeFromQueue : MethodName := ⟨RX2, "takeFromQueue", "()I"⟩
abbrev cX2_drownIfDisturbed : ByteArray := prog_4_method_13_code
def yX2_drownIfDisturbed : MethodName := ⟨RX2, "drownIfDisturbed", "(I)V"⟩
abbrev cX2_endSounds : ByteArray := prog_4_method_14_code
def yX2_endSounds : MethodName := ⟨RX2, "endSounds", "(I)I"⟩
abbrev cX2_endDrumBeat : ByteArray := prog_4_method_15_code
def yX2_endDrumBeat : MethodName := ⟨RX2, "endDrumBeat", "()V"⟩
def RX3 : String := "DrumTalk"
def TX3 : u_T := fun k => match k with
  | 0 => ("DrumTalk", "land", "LDrumTalk$Land;", true)
  | _ => ("DrumTalk", "trial", "LDrumTalk$Land;", true)
def tyX3 : Nat → FieldType := fun k => match k with
  | 0 => .object "DrumTalk$Land"
  | _ => .object "DrumTalk$Land"
abbrev wsX30 : List Cond := u_ws RX3 TX3 2
theorem nmX3 : ∀ a, a < 2 → ∀ b, b < 2 → a ≠ b → (TX3 a).2.1 ≠ (TX3 b).2.1 := by decide +kernel
theorem tyX3_ok : ∀ k, k < 2 → parseFieldDescriptor (TX3 k).2.2.1 = some (tyX3 k) := by decide +kernel
abbrev cX3_init : ByteArray := prog_1_method_1_code
def yX3_init : MethodName := ⟨RX3, "<init>", "()V"⟩
abbrev cX3_found : ByteArray := prog_1_method_2_code
def yX3_found : MethodName := ⟨RX3, "found", "(III)I"⟩
abbrev cX3_setDrum : ByteArray := prog_1_method_3_code
def yX3_setDrum : MethodName := ⟨RX3, "setDrum", "(II)I"⟩
abbrev cX3_setCliff : ByteArray := prog_1_method_4_code
def yX3_setCliff : MethodName := ⟨RX3, "setCliff", "(IZ)Z"⟩
abbrev cX3_setAwake : ByteArray := prog_1_method_5_code
def yX3_setAwake : MethodName := ⟨RX3, "setAwake", "(III)I"⟩
abbrev cX3_phrase : ByteArray := prog_1_method_6_code
def yX3_phrase : MethodName := ⟨RX3, "phrase", "(I)I"⟩
abbrev cX3_tell : ByteArray := prog_1_method_7_code
def yX3_tell : MethodName := ⟨RX3, "tell", "(II)I"⟩
abbrev cX3_village : ByteArray := prog_1_method_8_code
def yX3_village : MethodName := ⟨RX3, "village", "(II)I"⟩
abbrev cX3_queue : ByteArray := prog_1_method_9_code
def yX3_queue : MethodName := ⟨RX3, "queue", "(II)I"⟩
abbrev cX3_knows : ByteArray := prog_1_method_10_code
def yX3_knows : MethodName := ⟨RX3, "knows", "(II)I"⟩
abbrev cX3_sounds : ByteArray := prog_1_method_11_code
def yX3_sounds : MethodName := ⟨RX3, "sounds", "(I)I"⟩
abbrev cX3_count : ByteArray := prog_1_method_12_code
def yX3_count : MethodName := ⟨RX3, "count", "(I)I"⟩
abbrev cX3_way : ByteArray := prog_1_method_13_code
def yX3_way : MethodName := ⟨RX3, "way", "(II)I"⟩
abbrev cX3_pass : ByteArray := prog_1_method_14_code
def yX3_pass : MethodName := ⟨RX3, "pass", "(I)I"⟩
abbrev cX3_reaches : ByteArray := prog_1_method_15_code
def yX3_reaches : MethodName := ⟨RX3, "reaches", "(II)I"⟩
abbrev cX3_best : ByteArray := prog_1_method_16_code
def yX3_best : MethodName := ⟨RX3, "best", "(II)I"⟩
abbrev cX3_larger : ByteArray := prog_1_method_17_code
def yX3_larger : MethodName := ⟨RX3, "larger", "(I)I"⟩
abbrev cX3_known : ByteArray := prog_1_method_18_code
def yX3_known : MethodName := ⟨RX3, "known", "()D"⟩
abbrev cX3_digest : ByteArray := prog_1_method_19_code
def yX3_digest : MethodName := ⟨RX3, "digest", "()J"⟩
abbrev cX3_isPlace : ByteArray := prog_1_method_20_code
def yX3_isPlace : MethodName := ⟨RX3, "isPlace", "(I)Z"⟩
abbrev cX3_isDrum : ByteArray := prog_1_method_21_code
def yX3_isDrum : MethodName := ⟨RX3, "isDrum", "(I)Z"⟩
abbrev cX3_countTones : ByteArray := prog_1_method_22_code
def yX3_countTones : MethodName := ⟨RX3, "countTones", "(I)I"⟩
abbrev cX3_checkVillage : ByteArray := prog_1_method_23_code
def yX3_checkVillage : MethodName := ⟨RX3, "checkVillage", "(I)V"⟩
abbrev cX3_checkPhrase : ByteArray := prog_1_method_24_code
def yX3_checkPhrase : MethodName := ⟨RX3, "checkPhrase", "(I)V"⟩
abbrev cX3_villageOf : ByteArray := prog_1_method_25_code
def yX3_villageOf : MethodName := ⟨RX3, "villageOf", "(I)LDrumTalk$Village;"⟩
abbrev cX3_knowersIfTold : ByteArray := prog_1_method_26_code
def yX3_knowersIfTold : MethodName := ⟨RX3, "knowersIfTold", "(III)I"⟩
abbrev cX3_pairsIfLarger : ByteArray := prog_1_method_27_code
def yX3_pairsIfLarger : MethodName := ⟨RX3, "pairsIfLarger", "(II)I"⟩
abbrev cX3_digestOn : ByteArray := prog_1_method_28_code
def yX3_digestOn : MethodName := ⟨RX3, "digestOn", "(JLDrumTalk$Village;)J"⟩
def RX4 : String := "DrumTalkModel$State"
def TX4 : u_T := fun k => match k with
  | 0 => ("DrumTalkModel$State", "beat", "I", false)
  | 1 => ("DrumTalkModel$State", "begun", "I", false)
  | 2 => ("DrumTalkModel$State", "sounds", "I", false)
  | 3 => ("DrumTalkModel$State", "drum", "[I", true)
  | 4 => ("DrumTalkModel$State", "drums", "[I", true)
  | 5 => ("DrumTalkModel$State", "left", "[I", true)
  | 6 => ("DrumTalkModel$State", "queued", "[I", true)
  | 7 => ("DrumTalkModel$State", "queue", "[I", true)
  | 8 => ("DrumTalkModel$State", "known", "[I", true)
  | 9 => ("DrumTalkModel$State", "drowned", "[I", true)
  | 10 => ("DrumTalkModel$State", "where", "[I", true)
  | 11 => ("DrumTalkModel$State", "what", "[I", true)
  | 12 => ("DrumTalkModel$State", "first", "[I", true)
  | 13 => ("DrumTalkModel$State", "last", "[I", true)
  | 14 => ("DrumTalkModel$State", "lost", "[I", true)
  | _ => ("DrumTalkModel$State", "this$0", "LDrumTalkModel;", true)
def tyX4 : Nat → FieldType := fun k => match k with
  | 0 => .int
  | 1 => .int
  | 2 => .int
  | 3 => .array .int
  | 4 => .array .int
  | 5 => .array .int
  | 6 => .array .int
  | 7 => .array .int
  | 8 => .array .int
  | 9 => .array .int
  | 10 => .array .int
  | 11 => .array .int
  | 12 => .array .int
  | 13 => .array .int
  | 14 => .array .int
  | _ => .object "DrumTalkModel"
abbrev wsX40 : List Cond := u_ws RX4 TX4 16
theorem nmX4 : ∀ a, a < 16 → ∀ b, b < 16 → a ≠ b → (TX4 a).2.1 ≠ (TX4 b).2.1 := by decide +kernel
theorem tyX4_ok : ∀ k, k < 16 → parseFieldDescriptor (TX4 k).2.2.1 = some (tyX4 k) := by decide +kernel
abbrev cX4_init : ByteArray := prog_7_method_1_code
def yX4_init : MethodName := ⟨RX4, "<init>", "(LDrumTalkModel;)V"⟩
abbrev cX4_copy : ByteArray := prog_7_method_2_code
def yX4_copy : MethodName := ⟨RX4, "copy", "([I[II)V"⟩
abbrev cX4_become : ByteArray := prog_7_method_3_code
def yX4_become : MethodName := ⟨RX4, "become", "(LDrumTalkModel$State;)V"⟩
abbrev cX4_isAwake : ByteArray := prog_7_method_4_code
def yX4_isAwake : MethodName := ⟨RX4, "isAwake", "(I)Z"⟩
abbrev cX4_hears : ByteArray := prog_7_method_5_code
def yX4_hears : MethodName := ⟨RX4, "hears", "(II)Z"⟩
abbrev cX4_sound : ByteArray := prog_7_method_6_code
def yX4_sound : MethodName := ⟨RX4, "sound", "(III)V"⟩
abbrev cX4_begin : ByteArray := prog_7_method_7_code
def yX4_begin : MethodName := ⟨RX4, "begin", "(I)V"⟩
abbrev cX4_lasting : ByteArray := prog_7_method_8_code
def yX4_lasting : MethodName := ⟨RX4, "lasting", "(I)I"⟩
abbrev cX4_learns : ByteArray := prog_7_method_9_code
def yX4_learns : MethodName := ⟨RX4, "learns", "(II)Z"⟩
abbrev cX4_put : ByteArray := prog_7_method_10_code
def yX4_put : MethodName := ⟨RX4, "put", "(II)V"⟩
abbrev cX4_pass : ByteArray := prog_7_method_11_code
def yX4_pass : MethodName := ⟨RX4, "pass", "()I"⟩
abbrev cX4_knowing : ByteArray := prog_7_method_12_code
def yX4_knowing : MethodName := ⟨RX4, "knowing", "(I)I"⟩
abbrev cX4_pairs : ByteArray := prog_7_method_13_code
def yX4_pairs : MethodName := ⟨RX4, "pairs", "()I"⟩
def RX5 : String := "DrumTalkModel"
def TX5 : u_T := fun k => match k with
  | 0 => ("DrumTalkModel", "thrown", "I", false)
  | 1 => ("DrumTalkModel", "villages", "I", false)
  | 2 => ("DrumTalkModel", "phrases", "I", false)
  | 3 => ("DrumTalkModel", "x", "[I", true)
  | 4 => ("DrumTalkModel", "y", "[I", true)
  | 5 => ("DrumTalkModel", "cliff", "[I", true)
  | 6 => ("DrumTalkModel", "from", "[I", true)
  | 7 => ("DrumTalkModel", "beats", "[I", true)
  | 8 => ("DrumTalkModel", "tones", "[I", true)
  | 9 => ("DrumTalkModel", "length", "[I", true)
  | 10 => ("DrumTalkModel", "s", "LDrumTalkModel$State;", true)
  | _ => ("DrumTalkModel", "ahead", "LDrumTalkModel$State;", true)
def tyX5 : Nat → FieldType := fun k => match k with
  | 0 => .int
  | 1 => .int
  | 2 => .int
  | 3 => .array .int
  | 4 => .array .int
  | 5 => .array .int
  | 6 => .array .int
  | 7 => .array .int
  | 8 => .array .int
  | 9 => .array .int
  | 10 => .object "DrumTalkModel$State"
  | _ => .object "DrumTalkModel$State"
abbrev wsX50 : List Cond := u_ws RX5 TX5 12
theorem nmX5 : ∀ a, a < 12 → ∀ b, b < 12 → a ≠ b → (TX5 a).2.1 ≠ (TX5 b).2.1 := by decide +kernel
theorem tyX5_ok : ∀ k, k < 12 → parseFieldDescriptor (TX5 k).2.2.1 = some (tyX5 k) := by decide +kernel
abbrev cX5_init : ByteArray := prog_6_method_1_code
def yX5_init : MethodName := ⟨RX5, "<init>", "()V"⟩
abbrev cX5_thrown : ByteArray := prog_6_method_2_code
def yX5_thrown : MethodName := ⟨RX5, "thrown", "()I"⟩
abbrev cX5_no : ByteArray := prog_6_method_3_code
def yX5_no : MethodName := ⟨RX5, "no", "(I)I"⟩
abbrev cX5_isIn : ByteArray := prog_6_method_4_code
def yX5_isIn : MethodName := ⟨RX5, "isIn", "(III)Z"⟩
abbrev cX5_isVillage : ByteArray := prog_6_method_5_code
def yX5_isVillage : MethodName := ⟨RX5, "isVillage", "(I)Z"⟩
abbrev cX5_isPhrase : ByteArray := prog_6_method_6_code
def yX5_isPhrase : MethodName := ⟨RX5, "isPhrase", "(I)Z"⟩
abbrev cX5_far : ByteArray := prog_6_method_7_code
def yX5_far : MethodName := ⟨RX5, "far", "(II)I"⟩
abbrev cX5_found : ByteArray := prog_6_method_8_code
def yX5_found : MethodName := ⟨RX5, "found", "(III)I"⟩
abbrev cX5_setDrum : ByteArray := prog_6_method_9_code
def yX5_setDrum : MethodName := ⟨RX5, "setDrum", "(II)I"⟩
abbrev cX5_setCliff : ByteArray := prog_6_method_10_code
def yX5_setCliff : MethodName := ⟨RX5, "setCliff", "(IZ)Z"⟩
abbrev cX5_setAwake : ByteArray := prog_6_method_11_code
def yX5_setAwake : MethodName := ⟨RX5, "setAwake", "(III)I"⟩
abbrev cX5_phrase : ByteArray := prog_6_method_12_code
def yX5_phrase : MethodName := ⟨RX5, "phrase", "(I)I"⟩
abbrev cX5_tell : ByteArray := prog_6_method_13_code
def yX5_tell : MethodName := ⟨RX5, "tell", "(II)I"⟩
abbrev cX5_villageTold : ByteArray := prog_6_method_14_code
def yX5_villageTold : MethodName := ⟨RX5, "villageTold", "(II)I"⟩
abbrev cX5_village : ByteArray := prog_6_method_15_code
def yX5_village : MethodName := ⟨RX5, "village", "(II)I"⟩
abbrev cX5_queue : ByteArray := prog_6_method_16_code
def yX5_queue : MethodName := ⟨RX5, "queue", "(II)I"⟩
abbrev cX5_knows : ByteArray := prog_6_method_17_code
def yX5_knows : MethodName := ⟨RX5, "knows", "(II)I"⟩
abbrev cX5_sounds : ByteArray := prog_6_method_18_code
def yX5_sounds : MethodName := ⟨RX5, "sounds", "(I)I"⟩
abbrev cX5_counted : ByteArray := prog_6_method_19_code
def yX5_counted : MethodName := ⟨RX5, "counted", "(I)I"⟩
abbrev cX5_count : ByteArray := prog_6_method_20_code
def yX5_count : MethodName := ⟨RX5, "count", "(I)I"⟩
abbrev cX5_way : ByteArray := prog_6_method_21_code
def yX5_way : MethodName := ⟨RX5, "way", "(II)I"⟩
abbrev cX5_pass : ByteArray := prog_6_method_22_code
def yX5_pass : MethodName := ⟨RX5, "pass", "(I)I"⟩
abbrev cX5_reaches : ByteArray := prog_6_method_23_code
def yX5_reaches : MethodName := ⟨RX5, "reaches", "(II)I"⟩
abbrev cX5_best : ByteArray := prog_6_method_24_code
def yX5_best : MethodName := ⟨RX5, "best", "(II)I"⟩
abbrev cX5_larger : ByteArray := prog_6_method_25_code
def yX5_larger : MethodName := ⟨RX5, "larger", "(I)I"⟩
abbrev cX5_known : ByteArray := prog_6_method_26_code
def yX5_known : MethodName := ⟨RX5, "known", "()D"⟩
abbrev cX5_digest : ByteArray := prog_6_method_27_code
def yX5_digest : MethodName := ⟨RX5, "digest", "()J"⟩
def RJx145de : String := "java/io/Serializable"
def TJx145de : u_T := fun k => match k with
  | _ => ("", "", "", false)
def tyJx145de : Nat → FieldType := fun k => match k with
  | _ => .int
abbrev wsJx145de0 : List Cond := u_ws RJx145de TJx145de 0
theorem nmJx145de : ∀ a, a < 0 → ∀ b, b < 0 → a ≠ b → (TJx145de a).2.1 ≠ (TJx145de b).2.1 := by decide +kernel
theorem tyJx145de_ok : ∀ k, k < 0 → parseFieldDescriptor (TJx145de k).2.2.1 = some (tyJx145de k) := by decide +kernel
def RJ9 : String := "java/lang/Math"
def TJ9 : u_T := fun k => match k with
  | _ => ("", "", "", false)
def tyJ9 : Nat → FieldType := fun k => match k with
  | _ => .int
abbrev wsJ90 : List Cond := u_ws RJ9 TJ9 0
theorem nmJ9 : ∀ a, a < 0 → ∀ b, b < 0 → a ≠ b → (TJ9 a).2.1 ≠ (TJ9 b).2.1 := by decide +kernel
theorem tyJ9_ok : ∀ k, k < 0 → parseFieldDescriptor (TJ9 k).2.2.1 = some (tyJ9 k) := by decide +kernel
abbrev cJ9_floorMod_7cf53 : ByteArray := prog_12_method_50_code
def yJ9_floorMod_7cf53 : MethodName := ⟨RJ9, "floorMod", "(II)I"⟩
abbrev cJ9_abs_0f7a4 : ByteArray := prog_12_method_59_code
def yJ9_abs_0f7a4 : MethodName := ⟨RJ9, "abs", "(I)I"⟩
abbrev cJ9_max_7cf53 : ByteArray := prog_12_method_65_code
def yJ9_max_7cf53 : MethodName := ⟨RJ9, "max", "(II)I"⟩
def RJ0 : String := "java/lang/String"
def TJ0 : u_T := fun k => match k with
  | _ => ("", "", "", false)
def tyJ0 : Nat → FieldType := fun k => match k with
  | _ => .int
abbrev wsJ00 : List Cond := u_ws RJ0 TJ0 0
theorem nmJ0 : ∀ a, a < 0 → ∀ b, b < 0 → a ≠ b → (TJ0 a).2.1 ≠ (TJ0 b).2.1 := by decide +kernel
theorem tyJ0_ok : ∀ k, k < 0 → parseFieldDescriptor (TJ0 k).2.2.1 = some (tyJ0 k) := by decide +kernel
def RJ10 : String := "java/lang/System"
def TJ10 : u_T := fun k => match k with
  | _ => ("", "", "", false)
def tyJ10 : Nat → FieldType := fun k => match k with
  | _ => .int
abbrev wsJ100 : List Cond := u_ws RJ10 TJ10 0
theorem nmJ10 : ∀ a, a < 0 → ∀ b, b < 0 → a ≠ b → (TJ10 a).2.1 ≠ (TJ10 b).2.1 := by decide +kernel
theorem tyJ10_ok : ∀ k, k < 0 → parseFieldDescriptor (TJ10 k).2.2.1 = some (tyJ10 k) := by decide +kernel
def RJ7 : String := "java/util/Arrays"
def TJ7 : u_T := fun k => match k with
  | _ => ("", "", "", false)
def tyJ7 : Nat → FieldType := fun k => match k with
  | _ => .int
abbrev wsJ70 : List Cond := u_ws RJ7 TJ7 0
theorem nmJ7 : ∀ a, a < 0 → ∀ b, b < 0 → a ≠ b → (TJ7 a).2.1 ≠ (TJ7 b).2.1 := by decide +kernel
theorem tyJ7_ok : ∀ k, k < 0 → parseFieldDescriptor (TJ7 k).2.2.1 = some (tyJ7 k) := by decide +kernel
abbrev cJ7_fill_53178 : ByteArray := prog_17_method_103_code
def yJ7_fill_53178 : MethodName := ⟨RJ7, "fill", "([II)V"⟩
def RL : String := "DrumTalkLaw"
abbrev cL_found : ByteArray := method_3_code
def yL_found : MethodName := ⟨RL, "found", "(LDrumTalk;III[J)I"⟩
abbrev cL_setDrum : ByteArray := method_4_code
def yL_setDrum : MethodName := ⟨RL, "setDrum", "(LDrumTalk;II[J)I"⟩
abbrev cL_setCliff : ByteArray := method_5_code
def yL_setCliff : MethodName := ⟨RL, "setCliff", "(LDrumTalk;IZ[J)I"⟩
abbrev cL_setAwake : ByteArray := method_6_code
def yL_setAwake : MethodName := ⟨RL, "setAwake", "(LDrumTalk;III[J)I"⟩
abbrev cL_phrase : ByteArray := method_7_code
def yL_phrase : MethodName := ⟨RL, "phrase", "(LDrumTalk;I[J)I"⟩
abbrev cL_tell : ByteArray := method_8_code
def yL_tell : MethodName := ⟨RL, "tell", "(LDrumTalk;II[J)I"⟩
abbrev cL_village : ByteArray := method_9_code
def yL_village : MethodName := ⟨RL, "village", "(LDrumTalk;II[J)I"⟩
abbrev cL_queue : ByteArray := method_10_code
def yL_queue : MethodName := ⟨RL, "queue", "(LDrumTalk;II[J)I"⟩
abbrev cL_knows : ByteArray := method_11_code
def yL_knows : MethodName := ⟨RL, "knows", "(LDrumTalk;II[J)I"⟩
abbrev cL_sounds : ByteArray := method_12_code
def yL_sounds : MethodName := ⟨RL, "sounds", "(LDrumTalk;I[J)I"⟩
abbrev cL_count : ByteArray := method_13_code
def yL_count : MethodName := ⟨RL, "count", "(LDrumTalk;I[J)I"⟩
abbrev cL_way : ByteArray := method_14_code
def yL_way : MethodName := ⟨RL, "way", "(LDrumTalk;II[J)I"⟩
abbrev cL_pass : ByteArray := method_15_code
def yL_pass : MethodName := ⟨RL, "pass", "(LDrumTalk;I[J)I"⟩
abbrev cL_reaches : ByteArray := method_16_code
def yL_reaches : MethodName := ⟨RL, "reaches", "(LDrumTalk;II[J)I"⟩
abbrev cL_best : ByteArray := method_17_code
def yL_best : MethodName := ⟨RL, "best", "(LDrumTalk;II[J)I"⟩
abbrev cL_larger : ByteArray := method_18_code
def yL_larger : MethodName := ⟨RL, "larger", "(LDrumTalk;I[J)I"⟩
abbrev cL_law : ByteArray := code
def yL_law : MethodName := ⟨RL, "law", "([I)Z"⟩
def wsX1_init : List Cond := .code yX1_init cX1_init 1 none :: ([.methodLink RX1 3 objectInit, .instanceMethod objectInit, .code objectInit ⟨#[0xb1]⟩ 1 none, .arrayClass .int, .fieldLink RX1 9 "DrumTalk$Sounds" "phrases" "[I", .fieldLink RX1 15 "DrumTalk$Sounds" "firstBeats" "[I", .fieldLink RX1 18 "DrumTalk$Sounds" "lastBeats" "[I", .fieldLink RX1 21 "DrumTalk$Sounds" "drowned" "[I"] ++ wsX10)
def wsJ7_fill_53178 : List Cond := .code yJ7_fill_53178 cJ7_fill_53178 4 none :: ([])
def wsX2_init : List Cond := .code yX2_init cX2_init 1 none :: ([.methodLink RX2 3 objectInit, .instanceMethod objectInit, .code objectInit ⟨#[0xb1]⟩ 1 none, .fieldLink RX2 9 "DrumTalk$Village" "drum" "I", .fieldLink RX2 15 "DrumTalk$Village" "awakeBeats" "I", .fieldLink RX2 18 "DrumTalk$Village" "drumming" "I", .arrayClass .int, .fieldLink RX2 21 "DrumTalk$Village" "queue" "[I", .fieldLink RX2 25 "DrumTalk$Village" "knownSince" "[I", .classLink RX2 28 RX1, .instantiable RX1 5, .initialized RX1, .fieldLink RX2 31 "DrumTalk$Village" "inTheAir" "LDrumTalk$Sounds;", .instanceMethod yX1_init, .code yX1_init cX1_init 1 none, .methodLink RX1 3 objectInit, .fieldLink RX1 9 "DrumTalk$Sounds" "phrases" "[I", .fieldLink RX1 15 "DrumTalk$Sounds" "firstBeats" "[I", .fieldLink RX1 18 "DrumTalk$Sounds" "lastBeats" "[I", .fieldLink RX1 21 "DrumTalk$Sounds" "drowned" "[I", .methodLink RX2 35 yJ7_fill_53178, .static yJ7_fill_53178, .initialized RJ7, .code yJ7_fill_53178 cJ7_fill_53178 4 none] ++ wsX20 ++ wsX10)
def wsX0_init_r1 : List Cond := [Cond.methodLink RX0 3 objectInit, Cond.instanceMethod objectInit, Cond.code objectInit ⟨#[0xb1]⟩ 1 none, Cond.classLink RX0 9 RX2, Cond.fieldLink RX0 11 "DrumTalk$Land" "villages" "[LDrumTalk$Village;", Cond.arrayClass .int, Cond.fieldLink RX0 17 "DrumTalk$Land" "tones" "[I", Cond.fieldLink RX0 21 "DrumTalk$Land" "toneCounts" "[I", Cond.instantiable RX2 13, Cond.initialized RX2, Cond.methodLink RX0 24 yX2_init, Cond.instanceMethod yX2_init, Cond.code yX2_init cX2_init 1 none, Cond.methodLink RX2 3 objectInit, Cond.fieldLink RX2 9 "DrumTalk$Village" "drum" "I", Cond.fieldLink RX2 15 "DrumTalk$Village" "awakeBeats" "I", Cond.fieldLink RX2 18 "DrumTalk$Village" "drumming" "I", Cond.fieldLink RX2 21 "DrumTalk$Village" "queue" "[I", Cond.fieldLink RX2 25 "DrumTalk$Village" "knownSince" "[I", Cond.classLink RX2 28 RX1, Cond.instantiable RX1 5, Cond.initialized RX1, Cond.fieldLink RX2 31 "DrumTalk$Village" "inTheAir" "LDrumTalk$Sounds;", Cond.instanceMethod yX1_init]
def wsX0_init_r2 : List Cond := [Cond.code yX1_init cX1_init 1 none, Cond.methodLink RX1 3 objectInit, Cond.fieldLink RX1 9 "DrumTalk$Sounds" "phrases" "[I", Cond.fieldLink RX1 15 "DrumTalk$Sounds" "firstBeats" "[I", Cond.fieldLink RX1 18 "DrumTalk$Sounds" "lastBeats" "[I", Cond.fieldLink RX1 21 "DrumTalk$Sounds" "drowned" "[I", Cond.methodLink RX2 35 yJ7_fill_53178, Cond.static yJ7_fill_53178, Cond.initialized RJ7, Cond.code yJ7_fill_53178 cJ7_fill_53178 4 none]
def wsX0_init : List Cond := .code yX0_init cX0_init 2 none :: ((wsX0_init_r1 ++ wsX0_init_r2) ++ wsX00 ++ wsX20 ++ wsX10)
def wsX1_copy : List Cond := .code yX1_copy cX1_copy 2 none :: ([.fieldLink RX1 9 "DrumTalk$Sounds" "phrases" "[I", .fieldLink RX1 24 "DrumTalk$Sounds" "size" "I", .methodLink RX1 28 arraycopyName, .native arraycopyName, .static arraycopyName, .initialized "java/lang/System", .fieldLink RX1 15 "DrumTalk$Sounds" "firstBeats" "[I", .fieldLink RX1 18 "DrumTalk$Sounds" "lastBeats" "[I", .fieldLink RX1 21 "DrumTalk$Sounds" "drowned" "[I"] ++ wsX10)
def wsX2_copy_r1 : List Cond := [Cond.fieldLink RX2 41 "DrumTalk$Village" "x" "I", Cond.fieldLink RX2 44 "DrumTalk$Village" "y" "I", Cond.fieldLink RX2 9 "DrumTalk$Village" "drum" "I", Cond.fieldLink RX2 47 "DrumTalk$Village" "cliff" "Z", Cond.fieldLink RX2 51 "DrumTalk$Village" "awakeFrom" "I", Cond.fieldLink RX2 15 "DrumTalk$Village" "awakeBeats" "I", Cond.fieldLink RX2 18 "DrumTalk$Village" "drumming" "I", Cond.fieldLink RX2 54 "DrumTalk$Village" "beatsLeft" "I", Cond.fieldLink RX2 21 "DrumTalk$Village" "queue" "[I", Cond.methodLink RX2 57 arraycopyName, Cond.native arraycopyName, Cond.static arraycopyName, Cond.initialized "java/lang/System", Cond.fieldLink RX2 63 "DrumTalk$Village" "queued" "I", Cond.fieldLink RX2 25 "DrumTalk$Village" "knownSince" "[I", Cond.fieldLink RX2 31 "DrumTalk$Village" "inTheAir" "LDrumTalk$Sounds;", Cond.fieldLink RX2 70 "DrumTalk$Village" "drowned" "I", Cond.methodLink RX2 66 yX1_copy, Cond.instanceMethod yX1_copy, Cond.selects RX1 yX1_copy yX1_copy, Cond.initialized RX1, Cond.code yX1_copy cX1_copy 2 none, Cond.fieldLink RX1 9 "DrumTalk$Sounds" "phrases" "[I", Cond.fieldLink RX1 24 "DrumTalk$Sounds" "size" "I"]
def wsX2_copy_r2 : List Cond := [Cond.methodLink RX1 28 arraycopyName, Cond.fieldLink RX1 15 "DrumTalk$Sounds" "firstBeats" "[I", Cond.fieldLink RX1 18 "DrumTalk$Sounds" "lastBeats" "[I", Cond.fieldLink RX1 21 "DrumTalk$Sounds" "drowned" "[I"]
def wsX2_copy : List Cond := .code yX2_copy cX2_copy 2 none :: ((wsX2_copy_r1 ++ wsX2_copy_r2) ++ wsX20 ++ wsX10)
def wsX0_copy_r1 : List Cond := [Cond.fieldLink RX0 25 "DrumTalk$Land" "villageCount" "I", Cond.fieldLink RX0 11 "DrumTalk$Land" "villages" "[LDrumTalk$Village;", Cond.fieldLink RX0 17 "DrumTalk$Land" "tones" "[I", Cond.methodLink RX0 33 arraycopyName, Cond.native arraycopyName, Cond.static arraycopyName, Cond.initialized "java/lang/System", Cond.fieldLink RX0 21 "DrumTalk$Land" "toneCounts" "[I", Cond.fieldLink RX0 39 "DrumTalk$Land" "phraseCount" "I", Cond.fieldLink RX0 42 "DrumTalk$Land" "beat" "I", Cond.fieldLink RX0 45 "DrumTalk$Land" "drummings" "I", Cond.methodLink RX0 29 yX2_copy, Cond.instanceMethod yX2_copy, Cond.selects RX2 yX2_copy yX2_copy, Cond.initialized RX2, Cond.code yX2_copy cX2_copy 2 none, Cond.fieldLink RX2 41 "DrumTalk$Village" "x" "I", Cond.fieldLink RX2 44 "DrumTalk$Village" "y" "I", Cond.fieldLink RX2 9 "DrumTalk$Village" "drum" "I", Cond.fieldLink RX2 47 "DrumTalk$Village" "cliff" "Z", Cond.fieldLink RX2 51 "DrumTalk$Village" "awakeFrom" "I", Cond.fieldLink RX2 15 "DrumTalk$Village" "awakeBeats" "I", Cond.fieldLink RX2 18 "DrumTalk$Village" "drumming" "I", Cond.fieldLink RX2 54 "DrumTalk$Village" "beatsLeft" "I"]
def wsX0_copy_r2 : List Cond := [Cond.fieldLink RX2 21 "DrumTalk$Village" "queue" "[I", Cond.methodLink RX2 57 arraycopyName, Cond.fieldLink RX2 63 "DrumTalk$Village" "queued" "I", Cond.fieldLink RX2 25 "DrumTalk$Village" "knownSince" "[I", Cond.fieldLink RX2 31 "DrumTalk$Village" "inTheAir" "LDrumTalk$Sounds;", Cond.fieldLink RX2 70 "DrumTalk$Village" "drowned" "I", Cond.methodLink RX2 66 yX1_copy, Cond.instanceMethod yX1_copy, Cond.selects RX1 yX1_copy yX1_copy, Cond.initialized RX1, Cond.code yX1_copy cX1_copy 2 none, Cond.fieldLink RX1 9 "DrumTalk$Sounds" "phrases" "[I", Cond.fieldLink RX1 24 "DrumTalk$Sounds" "size" "I", Cond.methodLink RX1 28 arraycopyName, Cond.fieldLink RX1 15 "DrumTalk$Sounds" "firstBeats" "[I", Cond.fieldLink RX1 18 "DrumTalk$Sounds" "lastBeats" "[I", Cond.fieldLink RX1 21 "DrumTalk$Sounds" "drowned" "[I"]
def wsX0_copy : List Cond := .code yX0_copy cX0_copy 3 none :: ((wsX0_copy_r1 ++ wsX0_copy_r2) ++ wsX00 ++ wsX20 ++ wsX10)
def wsX0_hasVillageAt : List Cond := .code yX0_hasVillageAt cX0_hasVillageAt 4 (some .boolean) :: ([.fieldLink RX0 25 "DrumTalk$Land" "villageCount" "I", .fieldLink RX0 11 "DrumTalk$Land" "villages" "[LDrumTalk$Village;", .fieldLink RX0 48 "DrumTalk$Village" "x" "I", .fieldLink RX0 51 "DrumTalk$Village" "y" "I"] ++ wsX00 ++ wsX20)
def wsX0_addVillage : List Cond := .code yX0_addVillage cX0_addVillage 5 (some .int) :: ([.fieldLink RX0 25 "DrumTalk$Land" "villageCount" "I", .fieldLink RX0 11 "DrumTalk$Land" "villages" "[LDrumTalk$Village;", .fieldLink RX0 48 "DrumTalk$Village" "x" "I", .fieldLink RX0 51 "DrumTalk$Village" "y" "I", .fieldLink RX0 54 "DrumTalk$Village" "drum" "I"] ++ wsX00 ++ wsX20)
def wsX0_hasPhrase : List Cond := .code yX0_hasPhrase cX0_hasPhrase 3 (some .boolean) :: ([.fieldLink RX0 39 "DrumTalk$Land" "phraseCount" "I", .fieldLink RX0 17 "DrumTalk$Land" "tones" "[I"] ++ wsX00)
def wsX0_addPhrase : List Cond := .code yX0_addPhrase cX0_addPhrase 3 (some .int) :: ([.fieldLink RX0 39 "DrumTalk$Land" "phraseCount" "I", .fieldLink RX0 17 "DrumTalk$Land" "tones" "[I", .fieldLink RX0 21 "DrumTalk$Land" "toneCounts" "[I"] ++ wsX00)
def wsX2_isDrumming : List Cond := .code yX2_isDrumming cX2_isDrumming 1 (some .boolean) :: ([.fieldLink RX2 18 "DrumTalk$Village" "drumming" "I"] ++ wsX20)
def wsX0_drummers : List Cond := .code yX0_drummers cX0_drummers 3 (some .int) :: ([.fieldLink RX0 25 "DrumTalk$Land" "villageCount" "I", .fieldLink RX0 11 "DrumTalk$Land" "villages" "[LDrumTalk$Village;", .methodLink RX0 70 yX2_isDrumming, .instanceMethod yX2_isDrumming, .selects RX2 yX2_isDrumming yX2_isDrumming, .initialized RX2, .code yX2_isDrumming cX2_isDrumming 1 (some .boolean), .fieldLink RX2 18 "DrumTalk$Village" "drumming" "I"] ++ wsX00 ++ wsX20)
def wsX0_soundsInTheAir : List Cond := .code yX0_soundsInTheAir cX0_soundsInTheAir 3 (some .int) :: ([.fieldLink RX0 25 "DrumTalk$Land" "villageCount" "I", .fieldLink RX0 11 "DrumTalk$Land" "villages" "[LDrumTalk$Village;", .fieldLink RX0 74 "DrumTalk$Village" "inTheAir" "LDrumTalk$Sounds;", .fieldLink RX0 78 "DrumTalk$Sounds" "size" "I"] ++ wsX00 ++ wsX20 ++ wsX10)
def wsX0_soundsDrowned : List Cond := .code yX0_soundsDrowned cX0_soundsDrowned 3 (some .int) :: ([.fieldLink RX0 25 "DrumTalk$Land" "villageCount" "I", .fieldLink RX0 11 "DrumTalk$Land" "villages" "[LDrumTalk$Village;", .fieldLink RX0 83 "DrumTalk$Village" "drowned" "I"] ++ wsX00 ++ wsX20)
def wsX2_isKnown : List Cond := .code yX2_isKnown cX2_isKnown 2 (some .boolean) :: ([.fieldLink RX2 25 "DrumTalk$Village" "knownSince" "[I"] ++ wsX20)
def wsX2_phrasesKnown : List Cond := .code yX2_phrasesKnown cX2_phrasesKnown 3 (some .int) :: ([.methodLink RX2 95 yX2_isKnown, .instanceMethod yX2_isKnown, .selects RX2 yX2_isKnown yX2_isKnown, .initialized RX2, .code yX2_isKnown cX2_isKnown 2 (some .boolean), .fieldLink RX2 25 "DrumTalk$Village" "knownSince" "[I"] ++ wsX20)
def wsX0_knownPairs : List Cond := .code yX0_knownPairs cX0_knownPairs 3 (some .int) :: ([.fieldLink RX0 25 "DrumTalk$Land" "villageCount" "I", .fieldLink RX0 11 "DrumTalk$Land" "villages" "[LDrumTalk$Village;", .methodLink RX0 86 yX2_phrasesKnown, .instanceMethod yX2_phrasesKnown, .selects RX2 yX2_phrasesKnown yX2_phrasesKnown, .initialized RX2, .code yX2_phrasesKnown cX2_phrasesKnown 3 (some .int), .methodLink RX2 95 yX2_isKnown, .instanceMethod yX2_isKnown, .selects RX2 yX2_isKnown yX2_isKnown, .code yX2_isKnown cX2_isKnown 2 (some .boolean), .fieldLink RX2 25 "DrumTalk$Village" "knownSince" "[I"] ++ wsX00 ++ wsX20)
def wsX0_figure_r1 : List Cond := [Cond.fieldLink RX0 42 "DrumTalk$Land" "beat" "I", Cond.fieldLink RX0 25 "DrumTalk$Land" "villageCount" "I", Cond.fieldLink RX0 39 "DrumTalk$Land" "phraseCount" "I", Cond.fieldLink RX0 45 "DrumTalk$Land" "drummings" "I", Cond.methodLink RX0 57 yX0_drummers, Cond.instanceMethod yX0_drummers, Cond.selects RX0 yX0_drummers yX0_drummers, Cond.initialized RX0, Cond.code yX0_drummers cX0_drummers 3 (some .int), Cond.fieldLink RX0 11 "DrumTalk$Land" "villages" "[LDrumTalk$Village;", Cond.methodLink RX0 70 yX2_isDrumming, Cond.instanceMethod yX2_isDrumming, Cond.selects RX2 yX2_isDrumming yX2_isDrumming, Cond.initialized RX2, Cond.code yX2_isDrumming cX2_isDrumming 1 (some .boolean), Cond.fieldLink RX2 18 "DrumTalk$Village" "drumming" "I", Cond.methodLink RX0 61 yX0_soundsInTheAir, Cond.instanceMethod yX0_soundsInTheAir, Cond.selects RX0 yX0_soundsInTheAir yX0_soundsInTheAir, Cond.code yX0_soundsInTheAir cX0_soundsInTheAir 3 (some .int), Cond.fieldLink RX0 74 "DrumTalk$Village" "inTheAir" "LDrumTalk$Sounds;", Cond.fieldLink RX0 78 "DrumTalk$Sounds" "size" "I", Cond.methodLink RX0 64 yX0_soundsDrowned, Cond.instanceMethod yX0_soundsDrowned]
def wsX0_figure_r2 : List Cond := [Cond.selects RX0 yX0_soundsDrowned yX0_soundsDrowned, Cond.code yX0_soundsDrowned cX0_soundsDrowned 3 (some .int), Cond.fieldLink RX0 83 "DrumTalk$Village" "drowned" "I", Cond.methodLink RX0 67 yX0_knownPairs, Cond.instanceMethod yX0_knownPairs, Cond.selects RX0 yX0_knownPairs yX0_knownPairs, Cond.code yX0_knownPairs cX0_knownPairs 3 (some .int), Cond.methodLink RX0 86 yX2_phrasesKnown, Cond.instanceMethod yX2_phrasesKnown, Cond.selects RX2 yX2_phrasesKnown yX2_phrasesKnown, Cond.code yX2_phrasesKnown cX2_phrasesKnown 3 (some .int), Cond.methodLink RX2 95 yX2_isKnown, Cond.instanceMethod yX2_isKnown, Cond.selects RX2 yX2_isKnown yX2_isKnown, Cond.code yX2_isKnown cX2_isKnown 2 (some .boolean), Cond.fieldLink RX2 25 "DrumTalk$Village" "knownSince" "[I"]
def wsX0_figure : List Cond := .code yX0_figure cX0_figure 2 (some .int) :: ((wsX0_figure_r1 ++ wsX0_figure_r2) ++ wsX00 ++ wsX20 ++ wsX10)
def wsX0_knowersOf : List Cond := .code yX0_knowersOf cX0_knowersOf 4 (some .int) :: ([.fieldLink RX0 25 "DrumTalk$Land" "villageCount" "I", .fieldLink RX0 11 "DrumTalk$Land" "villages" "[LDrumTalk$Village;", .methodLink RX0 89 yX2_isKnown, .instanceMethod yX2_isKnown, .selects RX2 yX2_isKnown yX2_isKnown, .initialized RX2, .code yX2_isKnown cX2_isKnown 2 (some .boolean), .fieldLink RX2 25 "DrumTalk$Village" "knownSince" "[I"] ++ wsX00 ++ wsX20)
def wsX2_distanceTo : List Cond := .code yX2_distanceTo cX2_distanceTo 2 (some .int) :: ([.fieldLink RX2 41 "DrumTalk$Village" "x" "I", .methodLink RX2 91 Lib.Math.abs.name, .static Lib.Math.abs.name, .initialized "java/lang/Math", .code Lib.Math.abs.name Lib.Math.abs.code 1 (some .int), .fieldLink RX2 44 "DrumTalk$Village" "y" "I"] ++ wsX20)
def wsX2_isHeardAt : List Cond := .code yX2_isHeardAt cX2_isHeardAt 2 (some .boolean) :: ([.fieldLink RX2 9 "DrumTalk$Village" "drum" "I"] ++ wsX20)
def wsX0_hearersOf : List Cond := .code yX0_hearersOf cX0_hearersOf 5 (some .int) :: ([.fieldLink RX0 25 "DrumTalk$Land" "villageCount" "I", .fieldLink RX0 11 "DrumTalk$Land" "villages" "[LDrumTalk$Village;", .methodLink RX0 93 yX2_distanceTo, .instanceMethod yX2_distanceTo, .selects RX2 yX2_distanceTo yX2_distanceTo, .initialized RX2, .code yX2_distanceTo cX2_distanceTo 2 (some .int), .fieldLink RX2 41 "DrumTalk$Village" "x" "I", .methodLink RX2 91 Lib.Math.abs.name, .static Lib.Math.abs.name, .initialized "java/lang/Math", .code Lib.Math.abs.name Lib.Math.abs.code 1 (some .int), .fieldLink RX2 44 "DrumTalk$Village" "y" "I", .methodLink RX0 97 yX2_isHeardAt, .instanceMethod yX2_isHeardAt, .selects RX2 yX2_isHeardAt yX2_isHeardAt, .code yX2_isHeardAt cX2_isHeardAt 2 (some .boolean), .fieldLink RX2 9 "DrumTalk$Village" "drum" "I"] ++ wsX00 ++ wsX20)
def wsX0_isQuiet : List Cond := .code yX0_isQuiet cX0_isQuiet 3 (some .boolean) :: ([.fieldLink RX0 25 "DrumTalk$Land" "villageCount" "I", .fieldLink RX0 11 "DrumTalk$Land" "villages" "[LDrumTalk$Village;", .fieldLink RX0 106 "DrumTalk$Village" "queued" "I", .fieldLink RX0 74 "DrumTalk$Village" "inTheAir" "LDrumTalk$Sounds;", .fieldLink RX0 78 "DrumTalk$Sounds" "size" "I", .methodLink RX0 70 yX2_isDrumming, .instanceMethod yX2_isDrumming, .selects RX2 yX2_isDrumming yX2_isDrumming, .initialized RX2, .code yX2_isDrumming cX2_isDrumming 1 (some .boolean), .fieldLink RX2 18 "DrumTalk$Village" "drumming" "I"] ++ wsX00 ++ wsX20 ++ wsX10)
def wsJ9_floorMod_7cf53 : List Cond := .code yJ9_floorMod_7cf53 cJ9_floorMod_7cf53 3 (some .int) :: ([])
def wsX2_isAwake : List Cond := .code yX2_isAwake cX2_isAwake 2 (some .boolean) :: ([.fieldLink RX2 51 "DrumTalk$Village" "awakeFrom" "I", .fieldLink RX2 15 "DrumTalk$Village" "awakeBeats" "I", .methodLink RX2 81 yJ9_floorMod_7cf53, .static yJ9_floorMod_7cf53, .initialized RJ9, .code yJ9_floorMod_7cf53 cJ9_floorMod_7cf53 3 (some .int)] ++ wsX20)
def wsX2_isReady : List Cond := .code yX2_isReady cX2_isReady 2 (some .boolean) :: ([.fieldLink RX2 63 "DrumTalk$Village" "queued" "I", .methodLink RX2 87 yX2_isDrumming, .instanceMethod yX2_isDrumming, .selects RX2 yX2_isDrumming yX2_isDrumming, .initialized RX2, .code yX2_isDrumming cX2_isDrumming 1 (some .boolean), .fieldLink RX2 18 "DrumTalk$Village" "drumming" "I", .methodLink RX2 73 yX2_isAwake, .instanceMethod yX2_isAwake, .selects RX2 yX2_isAwake yX2_isAwake, .code yX2_isAwake cX2_isAwake 2 (some .boolean), .fieldLink RX2 51 "DrumTalk$Village" "awakeFrom" "I", .fieldLink RX2 15 "DrumTalk$Village" "awakeBeats" "I", .methodLink RX2 81 yJ9_floorMod_7cf53, .static yJ9_floorMod_7cf53, .initialized RJ9, .code yJ9_floorMod_7cf53 cJ9_floorMod_7cf53 3 (some .int)] ++ wsX20)
def wsX2_takeFromQueue : List Cond := .code yX2_takeFromQueue cX2_takeFromQueue 2 (some .int) :: ([.fieldLink RX2 63 "DrumTalk$Village" "queued" "I", .fieldLink RX2 21 "DrumTalk$Village" "queue" "[I", .methodLink RX2 57 arraycopyName, .native arraycopyName, .static arraycopyName, .initialized "java/lang/System"] ++ wsX20)
def wsX1_add : List Cond := .code yX1_add cX1_add 4 none :: ([.fieldLink RX1 24 "DrumTalk$Sounds" "size" "I", .fieldLink RX1 9 "DrumTalk$Sounds" "phrases" "[I", .fieldLink RX1 15 "DrumTalk$Sounds" "firstBeats" "[I", .fieldLink RX1 18 "DrumTalk$Sounds" "lastBeats" "[I", .fieldLink RX1 21 "DrumTalk$Sounds" "drowned" "[I"] ++ wsX10)
def wsX0_beginDrumming_r1 : List Cond := [Cond.fieldLink RX0 11 "DrumTalk$Land" "villages" "[LDrumTalk$Village;", Cond.fieldLink RX0 39 "DrumTalk$Land" "phraseCount" "I", Cond.fieldLink RX0 21 "DrumTalk$Land" "toneCounts" "[I", Cond.fieldLink RX0 129 "DrumTalk$Village" "drumming" "I", Cond.fieldLink RX0 132 "DrumTalk$Village" "beatsLeft" "I", Cond.fieldLink RX0 45 "DrumTalk$Land" "drummings" "I", Cond.fieldLink RX0 25 "DrumTalk$Land" "villageCount" "I", Cond.fieldLink RX0 42 "DrumTalk$Land" "beat" "I", Cond.fieldLink RX0 74 "DrumTalk$Village" "inTheAir" "LDrumTalk$Sounds;", Cond.fieldLink RX0 139 "DrumTalk$Village" "cliff" "Z", Cond.methodLink RX0 126 yX2_takeFromQueue, Cond.instanceMethod yX2_takeFromQueue, Cond.selects RX2 yX2_takeFromQueue yX2_takeFromQueue, Cond.initialized RX2, Cond.code yX2_takeFromQueue cX2_takeFromQueue 2 (some .int), Cond.fieldLink RX2 63 "DrumTalk$Village" "queued" "I", Cond.fieldLink RX2 21 "DrumTalk$Village" "queue" "[I", Cond.methodLink RX2 57 arraycopyName, Cond.native arraycopyName, Cond.static arraycopyName, Cond.initialized "java/lang/System", Cond.methodLink RX0 93 yX2_distanceTo, Cond.instanceMethod yX2_distanceTo, Cond.selects RX2 yX2_distanceTo yX2_distanceTo]
def wsX0_beginDrumming_r2 : List Cond := [Cond.code yX2_distanceTo cX2_distanceTo 2 (some .int), Cond.fieldLink RX2 41 "DrumTalk$Village" "x" "I", Cond.methodLink RX2 91 Lib.Math.abs.name, Cond.static Lib.Math.abs.name, Cond.initialized "java/lang/Math", Cond.code Lib.Math.abs.name Lib.Math.abs.code 1 (some .int), Cond.fieldLink RX2 44 "DrumTalk$Village" "y" "I", Cond.methodLink RX0 97 yX2_isHeardAt, Cond.instanceMethod yX2_isHeardAt, Cond.selects RX2 yX2_isHeardAt yX2_isHeardAt, Cond.code yX2_isHeardAt cX2_isHeardAt 2 (some .boolean), Cond.fieldLink RX2 9 "DrumTalk$Village" "drum" "I", Cond.methodLink RX0 135 yX1_add, Cond.instanceMethod yX1_add, Cond.selects RX1 yX1_add yX1_add, Cond.initialized RX1, Cond.code yX1_add cX1_add 4 none, Cond.fieldLink RX1 24 "DrumTalk$Sounds" "size" "I", Cond.fieldLink RX1 9 "DrumTalk$Sounds" "phrases" "[I", Cond.fieldLink RX1 15 "DrumTalk$Sounds" "firstBeats" "[I", Cond.fieldLink RX1 18 "DrumTalk$Sounds" "lastBeats" "[I", Cond.fieldLink RX1 21 "DrumTalk$Sounds" "drowned" "[I"]
def wsX0_beginDrumming : List Cond := .code yX0_beginDrumming cX0_beginDrumming 9 none :: ((wsX0_beginDrumming_r1 ++ wsX0_beginDrumming_r2) ++ wsX00 ++ wsX20 ++ wsX10)
def wsX1_lasting : List Cond := .code yX1_lasting cX1_lasting 4 (some .int) :: ([.fieldLink RX1 24 "DrumTalk$Sounds" "size" "I", .fieldLink RX1 15 "DrumTalk$Sounds" "firstBeats" "[I"] ++ wsX10)
def wsX1_drown : List Cond := .code yX1_drown cX1_drown 3 none :: ([.fieldLink RX1 24 "DrumTalk$Sounds" "size" "I", .fieldLink RX1 15 "DrumTalk$Sounds" "firstBeats" "[I", .fieldLink RX1 21 "DrumTalk$Sounds" "drowned" "[I"] ++ wsX10)
def wsX2_drownIfDisturbed_r1 : List Cond := [Cond.fieldLink RX2 31 "DrumTalk$Village" "inTheAir" "LDrumTalk$Sounds;", Cond.methodLink RX2 73 yX2_isAwake, Cond.instanceMethod yX2_isAwake, Cond.selects RX2 yX2_isAwake yX2_isAwake, Cond.initialized RX2, Cond.code yX2_isAwake cX2_isAwake 2 (some .boolean), Cond.fieldLink RX2 51 "DrumTalk$Village" "awakeFrom" "I", Cond.fieldLink RX2 15 "DrumTalk$Village" "awakeBeats" "I", Cond.methodLink RX2 81 yJ9_floorMod_7cf53, Cond.static yJ9_floorMod_7cf53, Cond.initialized RJ9, Cond.code yJ9_floorMod_7cf53 cJ9_floorMod_7cf53 3 (some .int), Cond.methodLink RX2 87 yX2_isDrumming, Cond.instanceMethod yX2_isDrumming, Cond.selects RX2 yX2_isDrumming yX2_isDrumming, Cond.code yX2_isDrumming cX2_isDrumming 1 (some .boolean), Cond.fieldLink RX2 18 "DrumTalk$Village" "drumming" "I", Cond.methodLink RX2 98 yX1_lasting, Cond.instanceMethod yX1_lasting, Cond.selects RX1 yX1_lasting yX1_lasting, Cond.initialized RX1, Cond.code yX1_lasting cX1_lasting 4 (some .int), Cond.fieldLink RX1 24 "DrumTalk$Sounds" "size" "I", Cond.fieldLink RX1 15 "DrumTalk$Sounds" "firstBeats" "[I"]
def wsX2_drownIfDisturbed_r2 : List Cond := [Cond.methodLink RX2 101 yX1_drown, Cond.instanceMethod yX1_drown, Cond.selects RX1 yX1_drown yX1_drown, Cond.code yX1_drown cX1_drown 3 none, Cond.fieldLink RX1 21 "DrumTalk$Sounds" "drowned" "[I"]
def wsX2_drownIfDisturbed : List Cond := .code yX2_drownIfDisturbed cX2_drownIfDisturbed 2 none :: ((wsX2_drownIfDisturbed_r1 ++ wsX2_drownIfDisturbed_r2) ++ wsX20 ++ wsX10)
def wsX1_move : List Cond := .code yX1_move cX1_move 3 none :: ([.fieldLink RX1 24 "DrumTalk$Sounds" "size" "I", .fieldLink RX1 9 "DrumTalk$Sounds" "phrases" "[I", .fieldLink RX1 15 "DrumTalk$Sounds" "firstBeats" "[I", .fieldLink RX1 18 "DrumTalk$Sounds" "lastBeats" "[I", .fieldLink RX1 21 "DrumTalk$Sounds" "drowned" "[I"] ++ wsX10)
def wsX2_takeIn : List Cond := .code yX2_takeIn cX2_takeIn 3 none :: ([.fieldLink RX2 25 "DrumTalk$Village" "knownSince" "[I", .fieldLink RX2 63 "DrumTalk$Village" "queued" "I", .fieldLink RX2 21 "DrumTalk$Village" "queue" "[I"] ++ wsX20)
def wsX2_endSounds_r1 : List Cond := [Cond.fieldLink RX2 31 "DrumTalk$Village" "inTheAir" "LDrumTalk$Sounds;", Cond.fieldLink RX2 105 "DrumTalk$Sounds" "size" "I", Cond.fieldLink RX2 108 "DrumTalk$Sounds" "lastBeats" "[I", Cond.fieldLink RX2 115 "DrumTalk$Sounds" "drowned" "[I", Cond.fieldLink RX2 70 "DrumTalk$Village" "drowned" "I", Cond.fieldLink RX2 117 "DrumTalk$Sounds" "phrases" "[I", Cond.methodLink RX2 111 yX1_move, Cond.instanceMethod yX1_move, Cond.selects RX1 yX1_move yX1_move, Cond.initialized RX1, Cond.code yX1_move cX1_move 3 none, Cond.fieldLink RX1 24 "DrumTalk$Sounds" "size" "I", Cond.fieldLink RX1 9 "DrumTalk$Sounds" "phrases" "[I", Cond.fieldLink RX1 15 "DrumTalk$Sounds" "firstBeats" "[I", Cond.fieldLink RX1 18 "DrumTalk$Sounds" "lastBeats" "[I", Cond.fieldLink RX1 21 "DrumTalk$Sounds" "drowned" "[I", Cond.methodLink RX2 95 yX2_isKnown, Cond.instanceMethod yX2_isKnown, Cond.selects RX2 yX2_isKnown yX2_isKnown, Cond.initialized RX2, Cond.code yX2_isKnown cX2_isKnown 2 (some .boolean), Cond.fieldLink RX2 25 "DrumTalk$Village" "knownSince" "[I", Cond.methodLink RX2 120 yX2_takeIn, Cond.instanceMethod yX2_takeIn]
def wsX2_endSounds_r2 : List Cond := [Cond.selects RX2 yX2_takeIn yX2_takeIn, Cond.code yX2_takeIn cX2_takeIn 3 none, Cond.fieldLink RX2 63 "DrumTalk$Village" "queued" "I", Cond.fieldLink RX2 21 "DrumTalk$Village" "queue" "[I"]
def wsX2_endSounds : List Cond := .code yX2_endSounds cX2_endSounds 5 (some .int) :: ((wsX2_endSounds_r1 ++ wsX2_endSounds_r2) ++ wsX20 ++ wsX10)
def wsX2_endDrumBeat : List Cond := .code yX2_endDrumBeat cX2_endDrumBeat 1 none :: ([.fieldLink RX2 54 "DrumTalk$Village" "beatsLeft" "I", .fieldLink RX2 18 "DrumTalk$Village" "drumming" "I", .methodLink RX2 87 yX2_isDrumming, .instanceMethod yX2_isDrumming, .selects RX2 yX2_isDrumming yX2_isDrumming, .initialized RX2, .code yX2_isDrumming cX2_isDrumming 1 (some .boolean)] ++ wsX20)
def wsX0_goBeat_r1 : List Cond := [Cond.fieldLink RX0 25 "DrumTalk$Land" "villageCount" "I", Cond.fieldLink RX0 11 "DrumTalk$Land" "villages" "[LDrumTalk$Village;", Cond.fieldLink RX0 42 "DrumTalk$Land" "beat" "I", Cond.methodLink RX0 109 yX2_isReady, Cond.instanceMethod yX2_isReady, Cond.selects RX2 yX2_isReady yX2_isReady, Cond.initialized RX2, Cond.code yX2_isReady cX2_isReady 2 (some .boolean), Cond.fieldLink RX2 63 "DrumTalk$Village" "queued" "I", Cond.methodLink RX2 87 yX2_isDrumming, Cond.instanceMethod yX2_isDrumming, Cond.selects RX2 yX2_isDrumming yX2_isDrumming, Cond.code yX2_isDrumming cX2_isDrumming 1 (some .boolean), Cond.fieldLink RX2 18 "DrumTalk$Village" "drumming" "I", Cond.methodLink RX2 73 yX2_isAwake, Cond.instanceMethod yX2_isAwake, Cond.selects RX2 yX2_isAwake yX2_isAwake, Cond.code yX2_isAwake cX2_isAwake 2 (some .boolean), Cond.fieldLink RX2 51 "DrumTalk$Village" "awakeFrom" "I", Cond.fieldLink RX2 15 "DrumTalk$Village" "awakeBeats" "I", Cond.methodLink RX2 81 yJ9_floorMod_7cf53, Cond.static yJ9_floorMod_7cf53, Cond.initialized RJ9, Cond.code yJ9_floorMod_7cf53 cJ9_floorMod_7cf53 3 (some .int)]
def wsX0_goBeat_r2 : List Cond := [Cond.methodLink RX0 112 yX0_beginDrumming, Cond.instanceMethod yX0_beginDrumming, Cond.selects RX0 yX0_beginDrumming yX0_beginDrumming, Cond.initialized RX0, Cond.code yX0_beginDrumming cX0_beginDrumming 9 none, Cond.fieldLink RX0 39 "DrumTalk$Land" "phraseCount" "I", Cond.fieldLink RX0 21 "DrumTalk$Land" "toneCounts" "[I", Cond.fieldLink RX0 129 "DrumTalk$Village" "drumming" "I", Cond.fieldLink RX0 132 "DrumTalk$Village" "beatsLeft" "I", Cond.fieldLink RX0 45 "DrumTalk$Land" "drummings" "I", Cond.fieldLink RX0 74 "DrumTalk$Village" "inTheAir" "LDrumTalk$Sounds;", Cond.fieldLink RX0 139 "DrumTalk$Village" "cliff" "Z", Cond.methodLink RX0 126 yX2_takeFromQueue, Cond.instanceMethod yX2_takeFromQueue, Cond.selects RX2 yX2_takeFromQueue yX2_takeFromQueue, Cond.code yX2_takeFromQueue cX2_takeFromQueue 2 (some .int), Cond.fieldLink RX2 21 "DrumTalk$Village" "queue" "[I", Cond.methodLink RX2 57 arraycopyName, Cond.native arraycopyName, Cond.static arraycopyName, Cond.initialized "java/lang/System", Cond.methodLink RX0 93 yX2_distanceTo, Cond.instanceMethod yX2_distanceTo, Cond.selects RX2 yX2_distanceTo yX2_distanceTo]
def wsX0_goBeat_r3 : List Cond := [Cond.code yX2_distanceTo cX2_distanceTo 2 (some .int), Cond.fieldLink RX2 41 "DrumTalk$Village" "x" "I", Cond.methodLink RX2 91 Lib.Math.abs.name, Cond.static Lib.Math.abs.name, Cond.initialized "java/lang/Math", Cond.code Lib.Math.abs.name Lib.Math.abs.code 1 (some .int), Cond.fieldLink RX2 44 "DrumTalk$Village" "y" "I", Cond.methodLink RX0 97 yX2_isHeardAt, Cond.instanceMethod yX2_isHeardAt, Cond.selects RX2 yX2_isHeardAt yX2_isHeardAt, Cond.code yX2_isHeardAt cX2_isHeardAt 2 (some .boolean), Cond.fieldLink RX2 9 "DrumTalk$Village" "drum" "I", Cond.methodLink RX0 135 yX1_add, Cond.instanceMethod yX1_add, Cond.selects RX1 yX1_add yX1_add, Cond.initialized RX1, Cond.code yX1_add cX1_add 4 none, Cond.fieldLink RX1 24 "DrumTalk$Sounds" "size" "I", Cond.fieldLink RX1 9 "DrumTalk$Sounds" "phrases" "[I", Cond.fieldLink RX1 15 "DrumTalk$Sounds" "firstBeats" "[I", Cond.fieldLink RX1 18 "DrumTalk$Sounds" "lastBeats" "[I", Cond.fieldLink RX1 21 "DrumTalk$Sounds" "drowned" "[I", Cond.methodLink RX0 116 yX2_drownIfDisturbed, Cond.instanceMethod yX2_drownIfDisturbed]
def wsX0_goBeat_r4 : List Cond := [Cond.selects RX2 yX2_drownIfDisturbed yX2_drownIfDisturbed, Cond.code yX2_drownIfDisturbed cX2_drownIfDisturbed 2 none, Cond.fieldLink RX2 31 "DrumTalk$Village" "inTheAir" "LDrumTalk$Sounds;", Cond.methodLink RX2 98 yX1_lasting, Cond.instanceMethod yX1_lasting, Cond.selects RX1 yX1_lasting yX1_lasting, Cond.code yX1_lasting cX1_lasting 4 (some .int), Cond.methodLink RX2 101 yX1_drown, Cond.instanceMethod yX1_drown, Cond.selects RX1 yX1_drown yX1_drown, Cond.code yX1_drown cX1_drown 3 none, Cond.methodLink RX0 119 yX2_endSounds, Cond.instanceMethod yX2_endSounds, Cond.selects RX2 yX2_endSounds yX2_endSounds, Cond.code yX2_endSounds cX2_endSounds 5 (some .int), Cond.fieldLink RX2 105 "DrumTalk$Sounds" "size" "I", Cond.fieldLink RX2 108 "DrumTalk$Sounds" "lastBeats" "[I", Cond.fieldLink RX2 115 "DrumTalk$Sounds" "drowned" "[I", Cond.fieldLink RX2 70 "DrumTalk$Village" "drowned" "I", Cond.fieldLink RX2 117 "DrumTalk$Sounds" "phrases" "[I", Cond.methodLink RX2 111 yX1_move, Cond.instanceMethod yX1_move, Cond.selects RX1 yX1_move yX1_move, Cond.code yX1_move cX1_move 3 none]
def wsX0_goBeat_r5 : List Cond := [Cond.methodLink RX2 95 yX2_isKnown, Cond.instanceMethod yX2_isKnown, Cond.selects RX2 yX2_isKnown yX2_isKnown, Cond.code yX2_isKnown cX2_isKnown 2 (some .boolean), Cond.fieldLink RX2 25 "DrumTalk$Village" "knownSince" "[I", Cond.methodLink RX2 120 yX2_takeIn, Cond.instanceMethod yX2_takeIn, Cond.selects RX2 yX2_takeIn yX2_takeIn, Cond.code yX2_takeIn cX2_takeIn 3 none, Cond.methodLink RX0 123 yX2_endDrumBeat, Cond.instanceMethod yX2_endDrumBeat, Cond.selects RX2 yX2_endDrumBeat yX2_endDrumBeat, Cond.code yX2_endDrumBeat cX2_endDrumBeat 1 none, Cond.fieldLink RX2 54 "DrumTalk$Village" "beatsLeft" "I"]
def wsX0_goBeat : List Cond := .code yX0_goBeat cX0_goBeat 3 (some .int) :: ((wsX0_goBeat_r1 ++ (wsX0_goBeat_r2 ++ (wsX0_goBeat_r3 ++ (wsX0_goBeat_r4 ++ wsX0_goBeat_r5)))) ++ wsX00 ++ wsX20 ++ wsX10)
def wsX0_letGo_r1 : List Cond := [Cond.fieldLink RX0 42 "DrumTalk$Land" "beat" "I", Cond.methodLink RX0 100 yX0_isQuiet, Cond.instanceMethod yX0_isQuiet, Cond.selects RX0 yX0_isQuiet yX0_isQuiet, Cond.initialized RX0, Cond.code yX0_isQuiet cX0_isQuiet 3 (some .boolean), Cond.fieldLink RX0 25 "DrumTalk$Land" "villageCount" "I", Cond.fieldLink RX0 11 "DrumTalk$Land" "villages" "[LDrumTalk$Village;", Cond.fieldLink RX0 106 "DrumTalk$Village" "queued" "I", Cond.fieldLink RX0 74 "DrumTalk$Village" "inTheAir" "LDrumTalk$Sounds;", Cond.fieldLink RX0 78 "DrumTalk$Sounds" "size" "I", Cond.methodLink RX0 70 yX2_isDrumming, Cond.instanceMethod yX2_isDrumming, Cond.selects RX2 yX2_isDrumming yX2_isDrumming, Cond.initialized RX2, Cond.code yX2_isDrumming cX2_isDrumming 1 (some .boolean), Cond.fieldLink RX2 18 "DrumTalk$Village" "drumming" "I", Cond.methodLink RX0 103 yX0_goBeat, Cond.instanceMethod yX0_goBeat, Cond.selects RX0 yX0_goBeat yX0_goBeat, Cond.code yX0_goBeat cX0_goBeat 3 (some .int), Cond.methodLink RX0 109 yX2_isReady, Cond.instanceMethod yX2_isReady, Cond.selects RX2 yX2_isReady yX2_isReady]
def wsX0_letGo_r2 : List Cond := [Cond.code yX2_isReady cX2_isReady 2 (some .boolean), Cond.fieldLink RX2 63 "DrumTalk$Village" "queued" "I", Cond.methodLink RX2 87 yX2_isDrumming, Cond.methodLink RX2 73 yX2_isAwake, Cond.instanceMethod yX2_isAwake, Cond.selects RX2 yX2_isAwake yX2_isAwake, Cond.code yX2_isAwake cX2_isAwake 2 (some .boolean), Cond.fieldLink RX2 51 "DrumTalk$Village" "awakeFrom" "I", Cond.fieldLink RX2 15 "DrumTalk$Village" "awakeBeats" "I", Cond.methodLink RX2 81 yJ9_floorMod_7cf53, Cond.static yJ9_floorMod_7cf53, Cond.initialized RJ9, Cond.code yJ9_floorMod_7cf53 cJ9_floorMod_7cf53 3 (some .int), Cond.methodLink RX0 112 yX0_beginDrumming, Cond.instanceMethod yX0_beginDrumming, Cond.selects RX0 yX0_beginDrumming yX0_beginDrumming, Cond.code yX0_beginDrumming cX0_beginDrumming 9 none, Cond.fieldLink RX0 39 "DrumTalk$Land" "phraseCount" "I", Cond.fieldLink RX0 21 "DrumTalk$Land" "toneCounts" "[I", Cond.fieldLink RX0 129 "DrumTalk$Village" "drumming" "I", Cond.fieldLink RX0 132 "DrumTalk$Village" "beatsLeft" "I", Cond.fieldLink RX0 45 "DrumTalk$Land" "drummings" "I", Cond.fieldLink RX0 139 "DrumTalk$Village" "cliff" "Z", Cond.methodLink RX0 126 yX2_takeFromQueue]
def wsX0_letGo_r3 : List Cond := [Cond.instanceMethod yX2_takeFromQueue, Cond.selects RX2 yX2_takeFromQueue yX2_takeFromQueue, Cond.code yX2_takeFromQueue cX2_takeFromQueue 2 (some .int), Cond.fieldLink RX2 21 "DrumTalk$Village" "queue" "[I", Cond.methodLink RX2 57 arraycopyName, Cond.native arraycopyName, Cond.static arraycopyName, Cond.initialized "java/lang/System", Cond.methodLink RX0 93 yX2_distanceTo, Cond.instanceMethod yX2_distanceTo, Cond.selects RX2 yX2_distanceTo yX2_distanceTo, Cond.code yX2_distanceTo cX2_distanceTo 2 (some .int), Cond.fieldLink RX2 41 "DrumTalk$Village" "x" "I", Cond.methodLink RX2 91 Lib.Math.abs.name, Cond.static Lib.Math.abs.name, Cond.initialized "java/lang/Math", Cond.code Lib.Math.abs.name Lib.Math.abs.code 1 (some .int), Cond.fieldLink RX2 44 "DrumTalk$Village" "y" "I", Cond.methodLink RX0 97 yX2_isHeardAt, Cond.instanceMethod yX2_isHeardAt, Cond.selects RX2 yX2_isHeardAt yX2_isHeardAt, Cond.code yX2_isHeardAt cX2_isHeardAt 2 (some .boolean), Cond.fieldLink RX2 9 "DrumTalk$Village" "drum" "I", Cond.methodLink RX0 135 yX1_add]
def wsX0_letGo_r4 : List Cond := [Cond.instanceMethod yX1_add, Cond.selects RX1 yX1_add yX1_add, Cond.initialized RX1, Cond.code yX1_add cX1_add 4 none, Cond.fieldLink RX1 24 "DrumTalk$Sounds" "size" "I", Cond.fieldLink RX1 9 "DrumTalk$Sounds" "phrases" "[I", Cond.fieldLink RX1 15 "DrumTalk$Sounds" "firstBeats" "[I", Cond.fieldLink RX1 18 "DrumTalk$Sounds" "lastBeats" "[I", Cond.fieldLink RX1 21 "DrumTalk$Sounds" "drowned" "[I", Cond.methodLink RX0 116 yX2_drownIfDisturbed, Cond.instanceMethod yX2_drownIfDisturbed, Cond.selects RX2 yX2_drownIfDisturbed yX2_drownIfDisturbed, Cond.code yX2_drownIfDisturbed cX2_drownIfDisturbed 2 none, Cond.fieldLink RX2 31 "DrumTalk$Village" "inTheAir" "LDrumTalk$Sounds;", Cond.methodLink RX2 98 yX1_lasting, Cond.instanceMethod yX1_lasting, Cond.selects RX1 yX1_lasting yX1_lasting, Cond.code yX1_lasting cX1_lasting 4 (some .int), Cond.methodLink RX2 101 yX1_drown, Cond.instanceMethod yX1_drown, Cond.selects RX1 yX1_drown yX1_drown, Cond.code yX1_drown cX1_drown 3 none, Cond.methodLink RX0 119 yX2_endSounds, Cond.instanceMethod yX2_endSounds]
def wsX0_letGo_r5 : List Cond := [Cond.selects RX2 yX2_endSounds yX2_endSounds, Cond.code yX2_endSounds cX2_endSounds 5 (some .int), Cond.fieldLink RX2 105 "DrumTalk$Sounds" "size" "I", Cond.fieldLink RX2 108 "DrumTalk$Sounds" "lastBeats" "[I", Cond.fieldLink RX2 115 "DrumTalk$Sounds" "drowned" "[I", Cond.fieldLink RX2 70 "DrumTalk$Village" "drowned" "I", Cond.fieldLink RX2 117 "DrumTalk$Sounds" "phrases" "[I", Cond.methodLink RX2 111 yX1_move, Cond.instanceMethod yX1_move, Cond.selects RX1 yX1_move yX1_move, Cond.code yX1_move cX1_move 3 none, Cond.methodLink RX2 95 yX2_isKnown, Cond.instanceMethod yX2_isKnown, Cond.selects RX2 yX2_isKnown yX2_isKnown, Cond.code yX2_isKnown cX2_isKnown 2 (some .boolean), Cond.fieldLink RX2 25 "DrumTalk$Village" "knownSince" "[I", Cond.methodLink RX2 120 yX2_takeIn, Cond.instanceMethod yX2_takeIn, Cond.selects RX2 yX2_takeIn yX2_takeIn, Cond.code yX2_takeIn cX2_takeIn 3 none, Cond.methodLink RX0 123 yX2_endDrumBeat, Cond.instanceMethod yX2_endDrumBeat, Cond.selects RX2 yX2_endDrumBeat yX2_endDrumBeat, Cond.code yX2_endDrumBeat cX2_endDrumBeat 1 none]
def wsX0_letGo_r6 : List Cond := [Cond.fieldLink RX2 54 "DrumTalk$Village" "beatsLeft" "I"]
def wsX0_letGo : List Cond := .code yX0_letGo cX0_letGo 4 (some .int) :: ((wsX0_letGo_r1 ++ (wsX0_letGo_r2 ++ (wsX0_letGo_r3 ++ (wsX0_letGo_r4 ++ (wsX0_letGo_r5 ++ wsX0_letGo_r6))))) ++ wsX00 ++ wsX20 ++ wsX10)
def wsX2_figure_r1 : List Cond := [Cond.fieldLink RX2 41 "DrumTalk$Village" "x" "I", Cond.fieldLink RX2 44 "DrumTalk$Village" "y" "I", Cond.fieldLink RX2 9 "DrumTalk$Village" "drum" "I", Cond.fieldLink RX2 47 "DrumTalk$Village" "cliff" "Z", Cond.fieldLink RX2 18 "DrumTalk$Village" "drumming" "I", Cond.fieldLink RX2 54 "DrumTalk$Village" "beatsLeft" "I", Cond.fieldLink RX2 63 "DrumTalk$Village" "queued" "I", Cond.fieldLink RX2 70 "DrumTalk$Village" "drowned" "I", Cond.methodLink RX2 73 yX2_isAwake, Cond.instanceMethod yX2_isAwake, Cond.selects RX2 yX2_isAwake yX2_isAwake, Cond.initialized RX2, Cond.code yX2_isAwake cX2_isAwake 2 (some .boolean), Cond.fieldLink RX2 51 "DrumTalk$Village" "awakeFrom" "I", Cond.fieldLink RX2 15 "DrumTalk$Village" "awakeBeats" "I", Cond.methodLink RX2 81 yJ9_floorMod_7cf53, Cond.static yJ9_floorMod_7cf53, Cond.initialized RJ9, Cond.code yJ9_floorMod_7cf53 cJ9_floorMod_7cf53 3 (some .int), Cond.methodLink RX2 77 yX2_phrasesKnown, Cond.instanceMethod yX2_phrasesKnown, Cond.selects RX2 yX2_phrasesKnown yX2_phrasesKnown, Cond.code yX2_phrasesKnown cX2_phrasesKnown 3 (some .int), Cond.methodLink RX2 95 yX2_isKnown]
def wsX2_figure_r2 : List Cond := [Cond.instanceMethod yX2_isKnown, Cond.selects RX2 yX2_isKnown yX2_isKnown, Cond.code yX2_isKnown cX2_isKnown 2 (some .boolean), Cond.fieldLink RX2 25 "DrumTalk$Village" "knownSince" "[I"]
def wsX2_figure : List Cond := .code yX2_figure cX2_figure 3 (some .int) :: ((wsX2_figure_r1 ++ wsX2_figure_r2) ++ wsX20)
def wsX3_init_r1 : List Cond := [Cond.methodLink RX3 3 objectInit, Cond.instanceMethod objectInit, Cond.code objectInit ⟨#[0xb1]⟩ 1 none, Cond.classLink RX3 9 RX0, Cond.instantiable RX0 7, Cond.initialized RX0, Cond.fieldLink RX3 12 "DrumTalk" "land" "LDrumTalk$Land;", Cond.fieldLink RX3 16 "DrumTalk" "trial" "LDrumTalk$Land;", Cond.methodLink RX3 11 yX0_init, Cond.instanceMethod yX0_init, Cond.code yX0_init cX0_init 2 none, Cond.methodLink RX0 3 objectInit, Cond.classLink RX0 9 RX2, Cond.fieldLink RX0 11 "DrumTalk$Land" "villages" "[LDrumTalk$Village;", Cond.arrayClass .int, Cond.fieldLink RX0 17 "DrumTalk$Land" "tones" "[I", Cond.fieldLink RX0 21 "DrumTalk$Land" "toneCounts" "[I", Cond.instantiable RX2 13, Cond.initialized RX2, Cond.methodLink RX0 24 yX2_init, Cond.instanceMethod yX2_init, Cond.code yX2_init cX2_init 1 none, Cond.methodLink RX2 3 objectInit, Cond.fieldLink RX2 9 "DrumTalk$Village" "drum" "I"]
def wsX3_init_r2 : List Cond := [Cond.fieldLink RX2 15 "DrumTalk$Village" "awakeBeats" "I", Cond.fieldLink RX2 18 "DrumTalk$Village" "drumming" "I", Cond.fieldLink RX2 21 "DrumTalk$Village" "queue" "[I", Cond.fieldLink RX2 25 "DrumTalk$Village" "knownSince" "[I", Cond.classLink RX2 28 RX1, Cond.instantiable RX1 5, Cond.initialized RX1, Cond.fieldLink RX2 31 "DrumTalk$Village" "inTheAir" "LDrumTalk$Sounds;", Cond.instanceMethod yX1_init, Cond.code yX1_init cX1_init 1 none, Cond.methodLink RX1 3 objectInit, Cond.fieldLink RX1 9 "DrumTalk$Sounds" "phrases" "[I", Cond.fieldLink RX1 15 "DrumTalk$Sounds" "firstBeats" "[I", Cond.fieldLink RX1 18 "DrumTalk$Sounds" "lastBeats" "[I", Cond.fieldLink RX1 21 "DrumTalk$Sounds" "drowned" "[I", Cond.methodLink RX2 35 yJ7_fill_53178, Cond.static yJ7_fill_53178, Cond.initialized RJ7, Cond.code yJ7_fill_53178 cJ7_fill_53178 4 none]
def wsX3_init : List Cond := .code yX3_init cX3_init 1 none :: ((wsX3_init_r1 ++ wsX3_init_r2) ++ wsX00 ++ wsX30 ++ wsX20 ++ wsX10)
def wsX3_isPlace : List Cond := .code yX3_isPlace cX3_isPlace 1 (some .boolean) :: ([])
def wsX3_isDrum : List Cond := .code yX3_isDrum cX3_isDrum 1 (some .boolean) :: ([])
def wsX3_found_r1 : List Cond := [Cond.classLink RX3 26 "java/lang/IllegalArgumentException", Cond.initialized "java/lang/IllegalArgumentException", Cond.classLink RX3 41 "java/lang/IllegalStateException", Cond.initialized "java/lang/IllegalStateException", Cond.fieldLink RX3 12 "DrumTalk" "land" "LDrumTalk$Land;", Cond.fieldLink RX3 33 "DrumTalk$Land" "villageCount" "I", Cond.methodLink RX3 19 yX3_isPlace, Cond.static yX3_isPlace, Cond.initialized RX3, Cond.code yX3_isPlace cX3_isPlace 1 (some .boolean), Cond.methodLink RX3 23 yX3_isDrum, Cond.static yX3_isDrum, Cond.code yX3_isDrum cX3_isDrum 1 (some .boolean), Cond.methodLink RX3 37 yX0_hasVillageAt, Cond.instanceMethod yX0_hasVillageAt, Cond.selects RX0 yX0_hasVillageAt yX0_hasVillageAt, Cond.initialized RX0, Cond.code yX0_hasVillageAt cX0_hasVillageAt 4 (some .boolean), Cond.fieldLink RX0 25 "DrumTalk$Land" "villageCount" "I", Cond.fieldLink RX0 11 "DrumTalk$Land" "villages" "[LDrumTalk$Village;", Cond.fieldLink RX0 48 "DrumTalk$Village" "x" "I", Cond.fieldLink RX0 51 "DrumTalk$Village" "y" "I", Cond.methodLink RX3 46 yX0_addVillage, Cond.instanceMethod yX0_addVillage]
def wsX3_found_r2 : List Cond := [Cond.selects RX0 yX0_addVillage yX0_addVillage, Cond.code yX0_addVillage cX0_addVillage 5 (some .int), Cond.fieldLink RX0 54 "DrumTalk$Village" "drum" "I"]
def wsX3_found : List Cond := .code yX3_found cX3_found 4 (some .int) :: ((wsX3_found_r1 ++ wsX3_found_r2) ++ wsX30 ++ wsX00 ++ wsX20 ++ (vx_atS RX3 30 "java/lang/IllegalArgumentException" ["java/lang/RuntimeException", "java/lang/Exception"]).filter goodWord ++ (vx_atS RX3 45 "java/lang/IllegalStateException" ["java/lang/RuntimeException", "java/lang/Exception"]).filter goodWord)
def wsX3_checkVillage : List Cond := .code yX3_checkVillage cX3_checkVillage 2 none :: ([.classLink RX3 107 "java/lang/IndexOutOfBoundsException", .initialized "java/lang/IndexOutOfBoundsException", .fieldLink RX3 12 "DrumTalk" "land" "LDrumTalk$Land;", .fieldLink RX3 33 "DrumTalk$Land" "villageCount" "I"] ++ wsX30 ++ wsX00 ++ (vx_atS RX3 111 "java/lang/IndexOutOfBoundsException" ["java/lang/RuntimeException", "java/lang/Exception"]).filter goodWord)
def wsX3_villageOf : List Cond := .code yX3_villageOf cX3_villageOf 2 (some (.object "DrumTalk$Village")) :: ([.fieldLink RX3 12 "DrumTalk" "land" "LDrumTalk$Land;", .fieldLink RX3 152 "DrumTalk$Land" "villages" "[LDrumTalk$Village;", .methodLink RX3 137 yX3_checkVillage, .instanceMethod yX3_checkVillage, .selects RX3 yX3_checkVillage yX3_checkVillage, .initialized RX3, .code yX3_checkVillage cX3_checkVillage 2 none, .classLink RX3 107 "java/lang/IndexOutOfBoundsException", .initialized "java/lang/IndexOutOfBoundsException", .fieldLink RX3 33 "DrumTalk$Land" "villageCount" "I"] ++ wsX30 ++ wsX00 ++ (vx_atS RX3 111 "java/lang/IndexOutOfBoundsException" ["java/lang/RuntimeException", "java/lang/Exception"]).filter goodWord)
def wsX3_setDrum : List Cond := .code yX3_setDrum cX3_setDrum 5 (some .int) :: ([.classLink RX3 26 "java/lang/IllegalArgumentException", .initialized "java/lang/IllegalArgumentException", .fieldLink RX3 56 "DrumTalk$Village" "drum" "I", .methodLink RX3 50 yX3_villageOf, .instanceMethod yX3_villageOf, .selects RX3 yX3_villageOf yX3_villageOf, .initialized RX3, .code yX3_villageOf cX3_villageOf 2 (some (.object "DrumTalk$Village")), .fieldLink RX3 12 "DrumTalk" "land" "LDrumTalk$Land;", .fieldLink RX3 152 "DrumTalk$Land" "villages" "[LDrumTalk$Village;", .methodLink RX3 137 yX3_checkVillage, .instanceMethod yX3_checkVillage, .selects RX3 yX3_checkVillage yX3_checkVillage, .code yX3_checkVillage cX3_checkVillage 2 none, .classLink RX3 107 "java/lang/IndexOutOfBoundsException", .initialized "java/lang/IndexOutOfBoundsException", .fieldLink RX3 33 "DrumTalk$Land" "villageCount" "I", .methodLink RX3 23 yX3_isDrum, .static yX3_isDrum, .code yX3_isDrum cX3_isDrum 1 (some .boolean)] ++ wsX20 ++ wsX30 ++ wsX00 ++ (vx_atS RX3 30 "java/lang/IllegalArgumentException" ["java/lang/RuntimeException", "java/lang/Exception"]).filter goodWord ++ (vx_atS RX3 111 "java/lang/IndexOutOfBoundsException" ["java/lang/RuntimeException", "java/lang/Exception"]).filter goodWord)
def wsX3_setCliff : List Cond := .code yX3_setCliff cX3_setCliff 5 (some .boolean) :: ([.fieldLink RX3 61 "DrumTalk$Village" "cliff" "Z", .methodLink RX3 50 yX3_villageOf, .instanceMethod yX3_villageOf, .selects RX3 yX3_villageOf yX3_villageOf, .initialized RX3, .code yX3_villageOf cX3_villageOf 2 (some (.object "DrumTalk$Village")), .fieldLink RX3 12 "DrumTalk" "land" "LDrumTalk$Land;", .fieldLink RX3 152 "DrumTalk$Land" "villages" "[LDrumTalk$Village;", .methodLink RX3 137 yX3_checkVillage, .instanceMethod yX3_checkVillage, .selects RX3 yX3_checkVillage yX3_checkVillage, .code yX3_checkVillage cX3_checkVillage 2 none, .classLink RX3 107 "java/lang/IndexOutOfBoundsException", .initialized "java/lang/IndexOutOfBoundsException", .fieldLink RX3 33 "DrumTalk$Land" "villageCount" "I"] ++ wsX20 ++ wsX30 ++ wsX00 ++ (vx_atS RX3 111 "java/lang/IndexOutOfBoundsException" ["java/lang/RuntimeException", "java/lang/Exception"]).filter goodWord)
def wsX3_setAwake : List Cond := .code yX3_setAwake cX3_setAwake 6 (some .int) :: ([.classLink RX3 26 "java/lang/IllegalArgumentException", .initialized "java/lang/IllegalArgumentException", .fieldLink RX3 67 "DrumTalk$Village" "awakeBeats" "I", .fieldLink RX3 70 "DrumTalk$Village" "awakeFrom" "I", .methodLink RX3 50 yX3_villageOf, .instanceMethod yX3_villageOf, .selects RX3 yX3_villageOf yX3_villageOf, .initialized RX3, .code yX3_villageOf cX3_villageOf 2 (some (.object "DrumTalk$Village")), .fieldLink RX3 12 "DrumTalk" "land" "LDrumTalk$Land;", .fieldLink RX3 152 "DrumTalk$Land" "villages" "[LDrumTalk$Village;", .methodLink RX3 137 yX3_checkVillage, .instanceMethod yX3_checkVillage, .selects RX3 yX3_checkVillage yX3_checkVillage, .code yX3_checkVillage cX3_checkVillage 2 none, .classLink RX3 107 "java/lang/IndexOutOfBoundsException", .initialized "java/lang/IndexOutOfBoundsException", .fieldLink RX3 33 "DrumTalk$Land" "villageCount" "I"] ++ wsX20 ++ wsX30 ++ wsX00 ++ (vx_atS RX3 30 "java/lang/IllegalArgumentException" ["java/lang/RuntimeException", "java/lang/Exception"]).filter goodWord ++ (vx_atS RX3 111 "java/lang/IndexOutOfBoundsException" ["java/lang/RuntimeException", "java/lang/Exception"]).filter goodWord)
def wsX3_countTones : List Cond := .code yX3_countTones cX3_countTones 4 (some .int) :: ([])
def wsX3_phrase : List Cond := .code yX3_phrase cX3_phrase 3 (some .int) :: ([.classLink RX3 26 "java/lang/IllegalArgumentException", .initialized "java/lang/IllegalArgumentException", .classLink RX3 41 "java/lang/IllegalStateException", .initialized "java/lang/IllegalStateException", .fieldLink RX3 12 "DrumTalk" "land" "LDrumTalk$Land;", .fieldLink RX3 79 "DrumTalk$Land" "phraseCount" "I", .methodLink RX3 73 yX3_countTones, .static yX3_countTones, .initialized RX3, .code yX3_countTones cX3_countTones 4 (some .int), .methodLink RX3 82 yX0_hasPhrase, .instanceMethod yX0_hasPhrase, .selects RX0 yX0_hasPhrase yX0_hasPhrase, .initialized RX0, .code yX0_hasPhrase cX0_hasPhrase 3 (some .boolean), .fieldLink RX0 39 "DrumTalk$Land" "phraseCount" "I", .fieldLink RX0 17 "DrumTalk$Land" "tones" "[I", .methodLink RX3 87 yX0_addPhrase, .instanceMethod yX0_addPhrase, .selects RX0 yX0_addPhrase yX0_addPhrase, .code yX0_addPhrase cX0_addPhrase 3 (some .int), .fieldLink RX0 21 "DrumTalk$Land" "toneCounts" "[I"] ++ wsX30 ++ wsX00 ++ (vx_atS RX3 30 "java/lang/IllegalArgumentException" ["java/lang/RuntimeException", "java/lang/Exception"]).filter goodWord ++ (vx_atS RX3 45 "java/lang/IllegalStateException" ["java/lang/RuntimeException", "java/lang/Exception"]).filter goodWord)
def wsX3_checkPhrase : List Cond := .code yX3_checkPhrase cX3_checkPhrase 2 none :: ([.classLink RX3 107 "java/lang/IndexOutOfBoundsException", .initialized "java/lang/IndexOutOfBoundsException", .fieldLink RX3 12 "DrumTalk" "land" "LDrumTalk$Land;", .fieldLink RX3 79 "DrumTalk$Land" "phraseCount" "I"] ++ wsX30 ++ wsX00 ++ (vx_atS RX3 111 "java/lang/IndexOutOfBoundsException" ["java/lang/RuntimeException", "java/lang/Exception"]).filter goodWord)
def wsX3_tell_r1 : List Cond := [Cond.classLink RX3 41 "java/lang/IllegalStateException", Cond.initialized "java/lang/IllegalStateException", Cond.fieldLink RX3 95 "DrumTalk$Village" "queued" "I", Cond.fieldLink RX3 12 "DrumTalk" "land" "LDrumTalk$Land;", Cond.fieldLink RX3 100 "DrumTalk$Land" "beat" "I", Cond.methodLink RX3 50 yX3_villageOf, Cond.instanceMethod yX3_villageOf, Cond.selects RX3 yX3_villageOf yX3_villageOf, Cond.initialized RX3, Cond.code yX3_villageOf cX3_villageOf 2 (some (.object "DrumTalk$Village")), Cond.fieldLink RX3 152 "DrumTalk$Land" "villages" "[LDrumTalk$Village;", Cond.methodLink RX3 137 yX3_checkVillage, Cond.instanceMethod yX3_checkVillage, Cond.selects RX3 yX3_checkVillage yX3_checkVillage, Cond.code yX3_checkVillage cX3_checkVillage 2 none, Cond.classLink RX3 107 "java/lang/IndexOutOfBoundsException", Cond.initialized "java/lang/IndexOutOfBoundsException", Cond.fieldLink RX3 33 "DrumTalk$Land" "villageCount" "I", Cond.methodLink RX3 91 yX3_checkPhrase, Cond.instanceMethod yX3_checkPhrase, Cond.selects RX3 yX3_checkPhrase yX3_checkPhrase, Cond.code yX3_checkPhrase cX3_checkPhrase 2 none, Cond.fieldLink RX3 79 "DrumTalk$Land" "phraseCount" "I", Cond.methodLink RX3 103 yX2_takeIn]
def wsX3_tell_r2 : List Cond := [Cond.instanceMethod yX2_takeIn, Cond.selects RX2 yX2_takeIn yX2_takeIn, Cond.initialized RX2, Cond.code yX2_takeIn cX2_takeIn 3 none, Cond.fieldLink RX2 25 "DrumTalk$Village" "knownSince" "[I", Cond.fieldLink RX2 63 "DrumTalk$Village" "queued" "I", Cond.fieldLink RX2 21 "DrumTalk$Village" "queue" "[I"]
def wsX3_tell : List Cond := .code yX3_tell cX3_tell 4 (some .int) :: ((wsX3_tell_r1 ++ wsX3_tell_r2) ++ wsX20 ++ wsX30 ++ wsX00 ++ (vx_atS RX3 45 "java/lang/IllegalStateException" ["java/lang/RuntimeException", "java/lang/Exception"]).filter goodWord ++ (vx_atS RX3 111 "java/lang/IndexOutOfBoundsException" ["java/lang/RuntimeException", "java/lang/Exception"]).filter goodWord)
def wsX3_village_r1 : List Cond := [Cond.classLink RX3 107 "java/lang/IndexOutOfBoundsException", Cond.initialized "java/lang/IndexOutOfBoundsException", Cond.fieldLink RX3 12 "DrumTalk" "land" "LDrumTalk$Land;", Cond.fieldLink RX3 100 "DrumTalk$Land" "beat" "I", Cond.methodLink RX3 50 yX3_villageOf, Cond.instanceMethod yX3_villageOf, Cond.selects RX3 yX3_villageOf yX3_villageOf, Cond.initialized RX3, Cond.code yX3_villageOf cX3_villageOf 2 (some (.object "DrumTalk$Village")), Cond.fieldLink RX3 152 "DrumTalk$Land" "villages" "[LDrumTalk$Village;", Cond.methodLink RX3 137 yX3_checkVillage, Cond.instanceMethod yX3_checkVillage, Cond.selects RX3 yX3_checkVillage yX3_checkVillage, Cond.code yX3_checkVillage cX3_checkVillage 2 none, Cond.fieldLink RX3 33 "DrumTalk$Land" "villageCount" "I", Cond.methodLink RX3 112 yX2_figure, Cond.instanceMethod yX2_figure, Cond.selects RX2 yX2_figure yX2_figure, Cond.initialized RX2, Cond.code yX2_figure cX2_figure 3 (some .int), Cond.fieldLink RX2 41 "DrumTalk$Village" "x" "I", Cond.fieldLink RX2 44 "DrumTalk$Village" "y" "I", Cond.fieldLink RX2 9 "DrumTalk$Village" "drum" "I", Cond.fieldLink RX2 47 "DrumTalk$Village" "cliff" "Z"]
def wsX3_village_r2 : List Cond := [Cond.fieldLink RX2 18 "DrumTalk$Village" "drumming" "I", Cond.fieldLink RX2 54 "DrumTalk$Village" "beatsLeft" "I", Cond.fieldLink RX2 63 "DrumTalk$Village" "queued" "I", Cond.fieldLink RX2 70 "DrumTalk$Village" "drowned" "I", Cond.methodLink RX2 73 yX2_isAwake, Cond.instanceMethod yX2_isAwake, Cond.selects RX2 yX2_isAwake yX2_isAwake, Cond.code yX2_isAwake cX2_isAwake 2 (some .boolean), Cond.fieldLink RX2 51 "DrumTalk$Village" "awakeFrom" "I", Cond.fieldLink RX2 15 "DrumTalk$Village" "awakeBeats" "I", Cond.methodLink RX2 81 yJ9_floorMod_7cf53, Cond.static yJ9_floorMod_7cf53, Cond.initialized RJ9, Cond.code yJ9_floorMod_7cf53 cJ9_floorMod_7cf53 3 (some .int), Cond.methodLink RX2 77 yX2_phrasesKnown, Cond.instanceMethod yX2_phrasesKnown, Cond.selects RX2 yX2_phrasesKnown yX2_phrasesKnown, Cond.code yX2_phrasesKnown cX2_phrasesKnown 3 (some .int), Cond.methodLink RX2 95 yX2_isKnown, Cond.instanceMethod yX2_isKnown, Cond.selects RX2 yX2_isKnown yX2_isKnown, Cond.code yX2_isKnown cX2_isKnown 2 (some .boolean), Cond.fieldLink RX2 25 "DrumTalk$Village" "knownSince" "[I"]
def wsX3_village : List Cond := .code yX3_village cX3_village 4 (some .int) :: ((wsX3_village_r1 ++ wsX3_village_r2) ++ wsX30 ++ wsX00 ++ wsX20 ++ (vx_atS RX3 111 "java/lang/IndexOutOfBoundsException" ["java/lang/RuntimeException", "java/lang/Exception"]).filter goodWord)
def wsX3_queue : List Cond := .code yX3_queue cX3_queue 4 (some .int) :: ([.classLink RX3 107 "java/lang/IndexOutOfBoundsException", .initialized "java/lang/IndexOutOfBoundsException", .fieldLink RX3 95 "DrumTalk$Village" "queued" "I", .fieldLink RX3 117 "DrumTalk$Village" "queue" "[I", .methodLink RX3 50 yX3_villageOf, .instanceMethod yX3_villageOf, .selects RX3 yX3_villageOf yX3_villageOf, .initialized RX3, .code yX3_villageOf cX3_villageOf 2 (some (.object "DrumTalk$Village")), .fieldLink RX3 12 "DrumTalk" "land" "LDrumTalk$Land;", .fieldLink RX3 152 "DrumTalk$Land" "villages" "[LDrumTalk$Village;", .methodLink RX3 137 yX3_checkVillage, .instanceMethod yX3_checkVillage, .selects RX3 yX3_checkVillage yX3_checkVillage, .code yX3_checkVillage cX3_checkVillage 2 none, .fieldLink RX3 33 "DrumTalk$Land" "villageCount" "I"] ++ wsX20 ++ wsX30 ++ wsX00 ++ (vx_atS RX3 111 "java/lang/IndexOutOfBoundsException" ["java/lang/RuntimeException", "java/lang/Exception"]).filter goodWord)
def wsX3_knows : List Cond := .code yX3_knows cX3_knows 4 (some .int) :: ([.fieldLink RX3 121 "DrumTalk$Village" "knownSince" "[I", .methodLink RX3 50 yX3_villageOf, .instanceMethod yX3_villageOf, .selects RX3 yX3_villageOf yX3_villageOf, .initialized RX3, .code yX3_villageOf cX3_villageOf 2 (some (.object "DrumTalk$Village")), .fieldLink RX3 12 "DrumTalk" "land" "LDrumTalk$Land;", .fieldLink RX3 152 "DrumTalk$Land" "villages" "[LDrumTalk$Village;", .methodLink RX3 137 yX3_checkVillage, .instanceMethod yX3_checkVillage, .selects RX3 yX3_checkVillage yX3_checkVillage, .code yX3_checkVillage cX3_checkVillage 2 none, .classLink RX3 107 "java/lang/IndexOutOfBoundsException", .initialized "java/lang/IndexOutOfBoundsException", .fieldLink RX3 33 "DrumTalk$Land" "villageCount" "I", .methodLink RX3 91 yX3_checkPhrase, .instanceMethod yX3_checkPhrase, .selects RX3 yX3_checkPhrase yX3_checkPhrase, .code yX3_checkPhrase cX3_checkPhrase 2 none, .fieldLink RX3 79 "DrumTalk$Land" "phraseCount" "I"] ++ wsX20 ++ wsX30 ++ wsX00 ++ (vx_atS RX3 111 "java/lang/IndexOutOfBoundsException" ["java/lang/RuntimeException", "java/lang/Exception"]).filter goodWord)
def wsX3_sounds : List Cond := .code yX3_sounds cX3_sounds 2 (some .int) :: ([.fieldLink RX3 124 "DrumTalk$Village" "inTheAir" "LDrumTalk$Sounds;", .fieldLink RX3 12 "DrumTalk" "land" "LDrumTalk$Land;", .fieldLink RX3 100 "DrumTalk$Land" "beat" "I", .methodLink RX3 50 yX3_villageOf, .instanceMethod yX3_villageOf, .selects RX3 yX3_villageOf yX3_villageOf, .initialized RX3, .code yX3_villageOf cX3_villageOf 2 (some (.object "DrumTalk$Village")), .fieldLink RX3 152 "DrumTalk$Land" "villages" "[LDrumTalk$Village;", .methodLink RX3 137 yX3_checkVillage, .instanceMethod yX3_checkVillage, .selects RX3 yX3_checkVillage yX3_checkVillage, .code yX3_checkVillage cX3_checkVillage 2 none, .classLink RX3 107 "java/lang/IndexOutOfBoundsException", .initialized "java/lang/IndexOutOfBoundsException", .fieldLink RX3 33 "DrumTalk$Land" "villageCount" "I", .methodLink RX3 128 yX1_lasting, .instanceMethod yX1_lasting, .selects RX1 yX1_lasting yX1_lasting, .initialized RX1, .code yX1_lasting cX1_lasting 4 (some .int), .fieldLink RX1 24 "DrumTalk$Sounds" "size" "I", .fieldLink RX1 15 "DrumTalk$Sounds" "firstBeats" "[I"] ++ wsX20 ++ wsX30 ++ wsX00 ++ wsX10 ++ (vx_atS RX3 111 "java/lang/IndexOutOfBoundsException" ["java/lang/RuntimeException", "java/lang/Exception"]).filter goodWord)
def wsX3_count_r1 : List Cond := [Cond.classLink RX3 107 "java/lang/IndexOutOfBoundsException", Cond.initialized "java/lang/IndexOutOfBoundsException", Cond.fieldLink RX3 12 "DrumTalk" "land" "LDrumTalk$Land;", Cond.methodLink RX3 135 yX0_figure, Cond.instanceMethod yX0_figure, Cond.selects RX0 yX0_figure yX0_figure, Cond.initialized RX0, Cond.code yX0_figure cX0_figure 2 (some .int), Cond.fieldLink RX0 42 "DrumTalk$Land" "beat" "I", Cond.fieldLink RX0 25 "DrumTalk$Land" "villageCount" "I", Cond.fieldLink RX0 39 "DrumTalk$Land" "phraseCount" "I", Cond.fieldLink RX0 45 "DrumTalk$Land" "drummings" "I", Cond.methodLink RX0 57 yX0_drummers, Cond.instanceMethod yX0_drummers, Cond.selects RX0 yX0_drummers yX0_drummers, Cond.code yX0_drummers cX0_drummers 3 (some .int), Cond.fieldLink RX0 11 "DrumTalk$Land" "villages" "[LDrumTalk$Village;", Cond.methodLink RX0 70 yX2_isDrumming, Cond.instanceMethod yX2_isDrumming, Cond.selects RX2 yX2_isDrumming yX2_isDrumming, Cond.initialized RX2, Cond.code yX2_isDrumming cX2_isDrumming 1 (some .boolean), Cond.fieldLink RX2 18 "DrumTalk$Village" "drumming" "I", Cond.methodLink RX0 61 yX0_soundsInTheAir]
def wsX3_count_r2 : List Cond := [Cond.instanceMethod yX0_soundsInTheAir, Cond.selects RX0 yX0_soundsInTheAir yX0_soundsInTheAir, Cond.code yX0_soundsInTheAir cX0_soundsInTheAir 3 (some .int), Cond.fieldLink RX0 74 "DrumTalk$Village" "inTheAir" "LDrumTalk$Sounds;", Cond.fieldLink RX0 78 "DrumTalk$Sounds" "size" "I", Cond.methodLink RX0 64 yX0_soundsDrowned, Cond.instanceMethod yX0_soundsDrowned, Cond.selects RX0 yX0_soundsDrowned yX0_soundsDrowned, Cond.code yX0_soundsDrowned cX0_soundsDrowned 3 (some .int), Cond.fieldLink RX0 83 "DrumTalk$Village" "drowned" "I", Cond.methodLink RX0 67 yX0_knownPairs, Cond.instanceMethod yX0_knownPairs, Cond.selects RX0 yX0_knownPairs yX0_knownPairs, Cond.code yX0_knownPairs cX0_knownPairs 3 (some .int), Cond.methodLink RX0 86 yX2_phrasesKnown, Cond.instanceMethod yX2_phrasesKnown, Cond.selects RX2 yX2_phrasesKnown yX2_phrasesKnown, Cond.code yX2_phrasesKnown cX2_phrasesKnown 3 (some .int), Cond.methodLink RX2 95 yX2_isKnown, Cond.instanceMethod yX2_isKnown, Cond.selects RX2 yX2_isKnown yX2_isKnown, Cond.code yX2_isKnown cX2_isKnown 2 (some .boolean), Cond.fieldLink RX2 25 "DrumTalk$Village" "knownSince" "[I"]
def wsX3_count : List Cond := .code yX3_count cX3_count 2 (some .int) :: ((wsX3_count_r1 ++ wsX3_count_r2) ++ wsX30 ++ wsX00 ++ wsX20 ++ wsX10 ++ (vx_atS RX3 111 "java/lang/IndexOutOfBoundsException" ["java/lang/RuntimeException", "java/lang/Exception"]).filter goodWord)
def wsX3_way_r1 : List Cond := [Cond.fieldLink RX3 12 "DrumTalk" "land" "LDrumTalk$Land;", Cond.methodLink RX3 137 yX3_checkVillage, Cond.instanceMethod yX3_checkVillage, Cond.selects RX3 yX3_checkVillage yX3_checkVillage, Cond.initialized RX3, Cond.code yX3_checkVillage cX3_checkVillage 2 none, Cond.classLink RX3 107 "java/lang/IndexOutOfBoundsException", Cond.initialized "java/lang/IndexOutOfBoundsException", Cond.fieldLink RX3 33 "DrumTalk$Land" "villageCount" "I", Cond.methodLink RX3 140 yX0_hearersOf, Cond.instanceMethod yX0_hearersOf, Cond.selects RX0 yX0_hearersOf yX0_hearersOf, Cond.initialized RX0, Cond.code yX0_hearersOf cX0_hearersOf 5 (some .int), Cond.fieldLink RX0 25 "DrumTalk$Land" "villageCount" "I", Cond.fieldLink RX0 11 "DrumTalk$Land" "villages" "[LDrumTalk$Village;", Cond.methodLink RX0 93 yX2_distanceTo, Cond.instanceMethod yX2_distanceTo, Cond.selects RX2 yX2_distanceTo yX2_distanceTo, Cond.initialized RX2, Cond.code yX2_distanceTo cX2_distanceTo 2 (some .int), Cond.fieldLink RX2 41 "DrumTalk$Village" "x" "I", Cond.methodLink RX2 91 Lib.Math.abs.name, Cond.static Lib.Math.abs.name]
def wsX3_way_r2 : List Cond := [Cond.initialized "java/lang/Math", Cond.code Lib.Math.abs.name Lib.Math.abs.code 1 (some .int), Cond.fieldLink RX2 44 "DrumTalk$Village" "y" "I", Cond.methodLink RX0 97 yX2_isHeardAt, Cond.instanceMethod yX2_isHeardAt, Cond.selects RX2 yX2_isHeardAt yX2_isHeardAt, Cond.code yX2_isHeardAt cX2_isHeardAt 2 (some .boolean), Cond.fieldLink RX2 9 "DrumTalk$Village" "drum" "I"]
def wsX3_way : List Cond := .code yX3_way cX3_way 5 (some .int) :: ((wsX3_way_r1 ++ wsX3_way_r2) ++ wsX30 ++ wsX00 ++ wsX20 ++ (vx_atS RX3 111 "java/lang/IndexOutOfBoundsException" ["java/lang/RuntimeException", "java/lang/Exception"]).filter goodWord)
def wsX3_pass_r1 : List Cond := [Cond.classLink RX3 26 "java/lang/IllegalArgumentException", Cond.initialized "java/lang/IllegalArgumentException", Cond.fieldLink RX3 12 "DrumTalk" "land" "LDrumTalk$Land;", Cond.methodLink RX3 145 yX0_letGo, Cond.instanceMethod yX0_letGo, Cond.selects RX0 yX0_letGo yX0_letGo, Cond.initialized RX0, Cond.code yX0_letGo cX0_letGo 4 (some .int), Cond.fieldLink RX0 42 "DrumTalk$Land" "beat" "I", Cond.methodLink RX0 100 yX0_isQuiet, Cond.instanceMethod yX0_isQuiet, Cond.selects RX0 yX0_isQuiet yX0_isQuiet, Cond.code yX0_isQuiet cX0_isQuiet 3 (some .boolean), Cond.fieldLink RX0 25 "DrumTalk$Land" "villageCount" "I", Cond.fieldLink RX0 11 "DrumTalk$Land" "villages" "[LDrumTalk$Village;", Cond.fieldLink RX0 106 "DrumTalk$Village" "queued" "I", Cond.fieldLink RX0 74 "DrumTalk$Village" "inTheAir" "LDrumTalk$Sounds;", Cond.fieldLink RX0 78 "DrumTalk$Sounds" "size" "I", Cond.methodLink RX0 70 yX2_isDrumming, Cond.instanceMethod yX2_isDrumming, Cond.selects RX2 yX2_isDrumming yX2_isDrumming, Cond.initialized RX2, Cond.code yX2_isDrumming cX2_isDrumming 1 (some .boolean), Cond.fieldLink RX2 18 "DrumTalk$Village" "drumming" "I"]
def wsX3_pass_r2 : List Cond := [Cond.methodLink RX0 103 yX0_goBeat, Cond.instanceMethod yX0_goBeat, Cond.selects RX0 yX0_goBeat yX0_goBeat, Cond.code yX0_goBeat cX0_goBeat 3 (some .int), Cond.methodLink RX0 109 yX2_isReady, Cond.instanceMethod yX2_isReady, Cond.selects RX2 yX2_isReady yX2_isReady, Cond.code yX2_isReady cX2_isReady 2 (some .boolean), Cond.fieldLink RX2 63 "DrumTalk$Village" "queued" "I", Cond.methodLink RX2 87 yX2_isDrumming, Cond.methodLink RX2 73 yX2_isAwake, Cond.instanceMethod yX2_isAwake, Cond.selects RX2 yX2_isAwake yX2_isAwake, Cond.code yX2_isAwake cX2_isAwake 2 (some .boolean), Cond.fieldLink RX2 51 "DrumTalk$Village" "awakeFrom" "I", Cond.fieldLink RX2 15 "DrumTalk$Village" "awakeBeats" "I", Cond.methodLink RX2 81 yJ9_floorMod_7cf53, Cond.static yJ9_floorMod_7cf53, Cond.initialized RJ9, Cond.code yJ9_floorMod_7cf53 cJ9_floorMod_7cf53 3 (some .int), Cond.methodLink RX0 112 yX0_beginDrumming, Cond.instanceMethod yX0_beginDrumming, Cond.selects RX0 yX0_beginDrumming yX0_beginDrumming, Cond.code yX0_beginDrumming cX0_beginDrumming 9 none]
def wsX3_pass_r3 : List Cond := [Cond.fieldLink RX0 39 "DrumTalk$Land" "phraseCount" "I", Cond.fieldLink RX0 21 "DrumTalk$Land" "toneCounts" "[I", Cond.fieldLink RX0 129 "DrumTalk$Village" "drumming" "I", Cond.fieldLink RX0 132 "DrumTalk$Village" "beatsLeft" "I", Cond.fieldLink RX0 45 "DrumTalk$Land" "drummings" "I", Cond.fieldLink RX0 139 "DrumTalk$Village" "cliff" "Z", Cond.methodLink RX0 126 yX2_takeFromQueue, Cond.instanceMethod yX2_takeFromQueue, Cond.selects RX2 yX2_takeFromQueue yX2_takeFromQueue, Cond.code yX2_takeFromQueue cX2_takeFromQueue 2 (some .int), Cond.fieldLink RX2 21 "DrumTalk$Village" "queue" "[I", Cond.methodLink RX2 57 arraycopyName, Cond.native arraycopyName, Cond.static arraycopyName, Cond.initialized "java/lang/System", Cond.methodLink RX0 93 yX2_distanceTo, Cond.instanceMethod yX2_distanceTo, Cond.selects RX2 yX2_distanceTo yX2_distanceTo, Cond.code yX2_distanceTo cX2_distanceTo 2 (some .int), Cond.fieldLink RX2 41 "DrumTalk$Village" "x" "I", Cond.methodLink RX2 91 Lib.Math.abs.name, Cond.static Lib.Math.abs.name, Cond.initialized "java/lang/Math", Cond.code Lib.Math.abs.name Lib.Math.abs.code 1 (some .int)]
def wsX3_pass_r4 : List Cond := [Cond.fieldLink RX2 44 "DrumTalk$Village" "y" "I", Cond.methodLink RX0 97 yX2_isHeardAt, Cond.instanceMethod yX2_isHeardAt, Cond.selects RX2 yX2_isHeardAt yX2_isHeardAt, Cond.code yX2_isHeardAt cX2_isHeardAt 2 (some .boolean), Cond.fieldLink RX2 9 "DrumTalk$Village" "drum" "I", Cond.methodLink RX0 135 yX1_add, Cond.instanceMethod yX1_add, Cond.selects RX1 yX1_add yX1_add, Cond.initialized RX1, Cond.code yX1_add cX1_add 4 none, Cond.fieldLink RX1 24 "DrumTalk$Sounds" "size" "I", Cond.fieldLink RX1 9 "DrumTalk$Sounds" "phrases" "[I", Cond.fieldLink RX1 15 "DrumTalk$Sounds" "firstBeats" "[I", Cond.fieldLink RX1 18 "DrumTalk$Sounds" "lastBeats" "[I", Cond.fieldLink RX1 21 "DrumTalk$Sounds" "drowned" "[I", Cond.methodLink RX0 116 yX2_drownIfDisturbed, Cond.instanceMethod yX2_drownIfDisturbed, Cond.selects RX2 yX2_drownIfDisturbed yX2_drownIfDisturbed, Cond.code yX2_drownIfDisturbed cX2_drownIfDisturbed 2 none, Cond.fieldLink RX2 31 "DrumTalk$Village" "inTheAir" "LDrumTalk$Sounds;", Cond.methodLink RX2 98 yX1_lasting, Cond.instanceMethod yX1_lasting, Cond.selects RX1 yX1_lasting yX1_lasting]
def wsX3_pass_r5 : List Cond := [Cond.code yX1_lasting cX1_lasting 4 (some .int), Cond.methodLink RX2 101 yX1_drown, Cond.instanceMethod yX1_drown, Cond.selects RX1 yX1_drown yX1_drown, Cond.code yX1_drown cX1_drown 3 none, Cond.methodLink RX0 119 yX2_endSounds, Cond.instanceMethod yX2_endSounds, Cond.selects RX2 yX2_endSounds yX2_endSounds, Cond.code yX2_endSounds cX2_endSounds 5 (some .int), Cond.fieldLink RX2 105 "DrumTalk$Sounds" "size" "I", Cond.fieldLink RX2 108 "DrumTalk$Sounds" "lastBeats" "[I", Cond.fieldLink RX2 115 "DrumTalk$Sounds" "drowned" "[I", Cond.fieldLink RX2 70 "DrumTalk$Village" "drowned" "I", Cond.fieldLink RX2 117 "DrumTalk$Sounds" "phrases" "[I", Cond.methodLink RX2 111 yX1_move, Cond.instanceMethod yX1_move, Cond.selects RX1 yX1_move yX1_move, Cond.code yX1_move cX1_move 3 none, Cond.methodLink RX2 95 yX2_isKnown, Cond.instanceMethod yX2_isKnown, Cond.selects RX2 yX2_isKnown yX2_isKnown, Cond.code yX2_isKnown cX2_isKnown 2 (some .boolean), Cond.fieldLink RX2 25 "DrumTalk$Village" "knownSince" "[I", Cond.methodLink RX2 120 yX2_takeIn]
def wsX3_pass_r6 : List Cond := [Cond.instanceMethod yX2_takeIn, Cond.selects RX2 yX2_takeIn yX2_takeIn, Cond.code yX2_takeIn cX2_takeIn 3 none, Cond.methodLink RX0 123 yX2_endDrumBeat, Cond.instanceMethod yX2_endDrumBeat, Cond.selects RX2 yX2_endDrumBeat yX2_endDrumBeat, Cond.code yX2_endDrumBeat cX2_endDrumBeat 1 none, Cond.fieldLink RX2 54 "DrumTalk$Village" "beatsLeft" "I"]
def wsX3_pass : List Cond := .code yX3_pass cX3_pass 2 (some .int) :: ((wsX3_pass_r1 ++ (wsX3_pass_r2 ++ (wsX3_pass_r3 ++ (wsX3_pass_r4 ++ (wsX3_pass_r5 ++ wsX3_pass_r6))))) ++ wsX30 ++ wsX00 ++ wsX20 ++ wsX10 ++ (vx_atS RX3 30 "java/lang/IllegalArgumentException" ["java/lang/RuntimeException", "java/lang/Exception"]).filter goodWord)
def wsX3_reaches_r1 : List Cond := [Cond.fieldLink RX3 16 "DrumTalk" "trial" "LDrumTalk$Land;", Cond.fieldLink RX3 12 "DrumTalk" "land" "LDrumTalk$Land;", Cond.fieldLink RX3 152 "DrumTalk$Land" "villages" "[LDrumTalk$Village;", Cond.methodLink RX3 137 yX3_checkVillage, Cond.instanceMethod yX3_checkVillage, Cond.selects RX3 yX3_checkVillage yX3_checkVillage, Cond.initialized RX3, Cond.code yX3_checkVillage cX3_checkVillage 2 none, Cond.classLink RX3 107 "java/lang/IndexOutOfBoundsException", Cond.initialized "java/lang/IndexOutOfBoundsException", Cond.fieldLink RX3 33 "DrumTalk$Land" "villageCount" "I", Cond.methodLink RX3 91 yX3_checkPhrase, Cond.instanceMethod yX3_checkPhrase, Cond.selects RX3 yX3_checkPhrase yX3_checkPhrase, Cond.code yX3_checkPhrase cX3_checkPhrase 2 none, Cond.fieldLink RX3 79 "DrumTalk$Land" "phraseCount" "I", Cond.methodLink RX3 148 yX0_copy, Cond.instanceMethod yX0_copy, Cond.selects RX0 yX0_copy yX0_copy, Cond.initialized RX0, Cond.code yX0_copy cX0_copy 3 none, Cond.fieldLink RX0 25 "DrumTalk$Land" "villageCount" "I", Cond.fieldLink RX0 11 "DrumTalk$Land" "villages" "[LDrumTalk$Village;", Cond.fieldLink RX0 17 "DrumTalk$Land" "tones" "[I"]
def wsX3_reaches_r2 : List Cond := [Cond.methodLink RX0 33 arraycopyName, Cond.native arraycopyName, Cond.static arraycopyName, Cond.initialized "java/lang/System", Cond.fieldLink RX0 21 "DrumTalk$Land" "toneCounts" "[I", Cond.fieldLink RX0 39 "DrumTalk$Land" "phraseCount" "I", Cond.fieldLink RX0 42 "DrumTalk$Land" "beat" "I", Cond.fieldLink RX0 45 "DrumTalk$Land" "drummings" "I", Cond.methodLink RX0 29 yX2_copy, Cond.instanceMethod yX2_copy, Cond.selects RX2 yX2_copy yX2_copy, Cond.initialized RX2, Cond.code yX2_copy cX2_copy 2 none, Cond.fieldLink RX2 41 "DrumTalk$Village" "x" "I", Cond.fieldLink RX2 44 "DrumTalk$Village" "y" "I", Cond.fieldLink RX2 9 "DrumTalk$Village" "drum" "I", Cond.fieldLink RX2 47 "DrumTalk$Village" "cliff" "Z", Cond.fieldLink RX2 51 "DrumTalk$Village" "awakeFrom" "I", Cond.fieldLink RX2 15 "DrumTalk$Village" "awakeBeats" "I", Cond.fieldLink RX2 18 "DrumTalk$Village" "drumming" "I", Cond.fieldLink RX2 54 "DrumTalk$Village" "beatsLeft" "I", Cond.fieldLink RX2 21 "DrumTalk$Village" "queue" "[I", Cond.methodLink RX2 57 arraycopyName, Cond.fieldLink RX2 63 "DrumTalk$Village" "queued" "I"]
def wsX3_reaches_r3 : List Cond := [Cond.fieldLink RX2 25 "DrumTalk$Village" "knownSince" "[I", Cond.fieldLink RX2 31 "DrumTalk$Village" "inTheAir" "LDrumTalk$Sounds;", Cond.fieldLink RX2 70 "DrumTalk$Village" "drowned" "I", Cond.methodLink RX2 66 yX1_copy, Cond.instanceMethod yX1_copy, Cond.selects RX1 yX1_copy yX1_copy, Cond.initialized RX1, Cond.code yX1_copy cX1_copy 2 none, Cond.fieldLink RX1 9 "DrumTalk$Sounds" "phrases" "[I", Cond.fieldLink RX1 24 "DrumTalk$Sounds" "size" "I", Cond.methodLink RX1 28 arraycopyName, Cond.fieldLink RX1 15 "DrumTalk$Sounds" "firstBeats" "[I", Cond.fieldLink RX1 18 "DrumTalk$Sounds" "lastBeats" "[I", Cond.fieldLink RX1 21 "DrumTalk$Sounds" "drowned" "[I", Cond.methodLink RX3 156 yX2_isKnown, Cond.instanceMethod yX2_isKnown, Cond.selects RX2 yX2_isKnown yX2_isKnown, Cond.code yX2_isKnown cX2_isKnown 2 (some .boolean), Cond.methodLink RX3 145 yX0_letGo, Cond.instanceMethod yX0_letGo, Cond.selects RX0 yX0_letGo yX0_letGo, Cond.code yX0_letGo cX0_letGo 4 (some .int), Cond.methodLink RX0 100 yX0_isQuiet, Cond.instanceMethod yX0_isQuiet]
def wsX3_reaches_r4 : List Cond := [Cond.selects RX0 yX0_isQuiet yX0_isQuiet, Cond.code yX0_isQuiet cX0_isQuiet 3 (some .boolean), Cond.fieldLink RX0 106 "DrumTalk$Village" "queued" "I", Cond.fieldLink RX0 74 "DrumTalk$Village" "inTheAir" "LDrumTalk$Sounds;", Cond.fieldLink RX0 78 "DrumTalk$Sounds" "size" "I", Cond.methodLink RX0 70 yX2_isDrumming, Cond.instanceMethod yX2_isDrumming, Cond.selects RX2 yX2_isDrumming yX2_isDrumming, Cond.code yX2_isDrumming cX2_isDrumming 1 (some .boolean), Cond.methodLink RX0 103 yX0_goBeat, Cond.instanceMethod yX0_goBeat, Cond.selects RX0 yX0_goBeat yX0_goBeat, Cond.code yX0_goBeat cX0_goBeat 3 (some .int), Cond.methodLink RX0 109 yX2_isReady, Cond.instanceMethod yX2_isReady, Cond.selects RX2 yX2_isReady yX2_isReady, Cond.code yX2_isReady cX2_isReady 2 (some .boolean), Cond.methodLink RX2 87 yX2_isDrumming, Cond.methodLink RX2 73 yX2_isAwake, Cond.instanceMethod yX2_isAwake, Cond.selects RX2 yX2_isAwake yX2_isAwake, Cond.code yX2_isAwake cX2_isAwake 2 (some .boolean), Cond.methodLink RX2 81 yJ9_floorMod_7cf53, Cond.static yJ9_floorMod_7cf53]
def wsX3_reaches_r5 : List Cond := [Cond.initialized RJ9, Cond.code yJ9_floorMod_7cf53 cJ9_floorMod_7cf53 3 (some .int), Cond.methodLink RX0 112 yX0_beginDrumming, Cond.instanceMethod yX0_beginDrumming, Cond.selects RX0 yX0_beginDrumming yX0_beginDrumming, Cond.code yX0_beginDrumming cX0_beginDrumming 9 none, Cond.fieldLink RX0 129 "DrumTalk$Village" "drumming" "I", Cond.fieldLink RX0 132 "DrumTalk$Village" "beatsLeft" "I", Cond.fieldLink RX0 139 "DrumTalk$Village" "cliff" "Z", Cond.methodLink RX0 126 yX2_takeFromQueue, Cond.instanceMethod yX2_takeFromQueue, Cond.selects RX2 yX2_takeFromQueue yX2_takeFromQueue, Cond.code yX2_takeFromQueue cX2_takeFromQueue 2 (some .int), Cond.methodLink RX0 93 yX2_distanceTo, Cond.instanceMethod yX2_distanceTo, Cond.selects RX2 yX2_distanceTo yX2_distanceTo, Cond.code yX2_distanceTo cX2_distanceTo 2 (some .int), Cond.methodLink RX2 91 Lib.Math.abs.name, Cond.static Lib.Math.abs.name, Cond.initialized "java/lang/Math", Cond.code Lib.Math.abs.name Lib.Math.abs.code 1 (some .int), Cond.methodLink RX0 97 yX2_isHeardAt, Cond.instanceMethod yX2_isHeardAt, Cond.selects RX2 yX2_isHeardAt yX2_isHeardAt]
def wsX3_reaches_r6 : List Cond := [Cond.code yX2_isHeardAt cX2_isHeardAt 2 (some .boolean), Cond.methodLink RX0 135 yX1_add, Cond.instanceMethod yX1_add, Cond.selects RX1 yX1_add yX1_add, Cond.code yX1_add cX1_add 4 none, Cond.methodLink RX0 116 yX2_drownIfDisturbed, Cond.instanceMethod yX2_drownIfDisturbed, Cond.selects RX2 yX2_drownIfDisturbed yX2_drownIfDisturbed, Cond.code yX2_drownIfDisturbed cX2_drownIfDisturbed 2 none, Cond.methodLink RX2 98 yX1_lasting, Cond.instanceMethod yX1_lasting, Cond.selects RX1 yX1_lasting yX1_lasting, Cond.code yX1_lasting cX1_lasting 4 (some .int), Cond.methodLink RX2 101 yX1_drown, Cond.instanceMethod yX1_drown, Cond.selects RX1 yX1_drown yX1_drown, Cond.code yX1_drown cX1_drown 3 none, Cond.methodLink RX0 119 yX2_endSounds, Cond.instanceMethod yX2_endSounds, Cond.selects RX2 yX2_endSounds yX2_endSounds, Cond.code yX2_endSounds cX2_endSounds 5 (some .int), Cond.fieldLink RX2 105 "DrumTalk$Sounds" "size" "I", Cond.fieldLink RX2 108 "DrumTalk$Sounds" "lastBeats" "[I", Cond.fieldLink RX2 115 "DrumTalk$Sounds" "drowned" "[I"]
def wsX3_reaches_r7 : List Cond := [Cond.fieldLink RX2 117 "DrumTalk$Sounds" "phrases" "[I", Cond.methodLink RX2 111 yX1_move, Cond.instanceMethod yX1_move, Cond.selects RX1 yX1_move yX1_move, Cond.code yX1_move cX1_move 3 none, Cond.methodLink RX2 95 yX2_isKnown, Cond.methodLink RX2 120 yX2_takeIn, Cond.instanceMethod yX2_takeIn, Cond.selects RX2 yX2_takeIn yX2_takeIn, Cond.code yX2_takeIn cX2_takeIn 3 none, Cond.methodLink RX0 123 yX2_endDrumBeat, Cond.instanceMethod yX2_endDrumBeat, Cond.selects RX2 yX2_endDrumBeat yX2_endDrumBeat, Cond.code yX2_endDrumBeat cX2_endDrumBeat 1 none]
def wsX3_reaches : List Cond := .code yX3_reaches cX3_reaches 5 (some .int) :: ((wsX3_reaches_r1 ++ (wsX3_reaches_r2 ++ (wsX3_reaches_r3 ++ (wsX3_reaches_r4 ++ (wsX3_reaches_r5 ++ (wsX3_reaches_r6 ++ wsX3_reaches_r7)))))) ++ wsX30 ++ wsX00 ++ wsX20 ++ wsX10 ++ (vx_atS RX3 111 "java/lang/IndexOutOfBoundsException" ["java/lang/RuntimeException", "java/lang/Exception"]).filter goodWord)
def wsX3_knowersIfTold_r1 : List Cond := [Cond.fieldLink RX3 16 "DrumTalk" "trial" "LDrumTalk$Land;", Cond.fieldLink RX3 12 "DrumTalk" "land" "LDrumTalk$Land;", Cond.fieldLink RX3 152 "DrumTalk$Land" "villages" "[LDrumTalk$Village;", Cond.fieldLink RX3 95 "DrumTalk$Village" "queued" "I", Cond.fieldLink RX3 100 "DrumTalk$Land" "beat" "I", Cond.methodLink RX3 148 yX0_copy, Cond.instanceMethod yX0_copy, Cond.selects RX0 yX0_copy yX0_copy, Cond.initialized RX0, Cond.code yX0_copy cX0_copy 3 none, Cond.fieldLink RX0 25 "DrumTalk$Land" "villageCount" "I", Cond.fieldLink RX0 11 "DrumTalk$Land" "villages" "[LDrumTalk$Village;", Cond.fieldLink RX0 17 "DrumTalk$Land" "tones" "[I", Cond.methodLink RX0 33 arraycopyName, Cond.native arraycopyName, Cond.static arraycopyName, Cond.initialized "java/lang/System", Cond.fieldLink RX0 21 "DrumTalk$Land" "toneCounts" "[I", Cond.fieldLink RX0 39 "DrumTalk$Land" "phraseCount" "I", Cond.fieldLink RX0 42 "DrumTalk$Land" "beat" "I", Cond.fieldLink RX0 45 "DrumTalk$Land" "drummings" "I", Cond.methodLink RX0 29 yX2_copy, Cond.instanceMethod yX2_copy, Cond.selects RX2 yX2_copy yX2_copy]
def wsX3_knowersIfTold_r2 : List Cond := [Cond.initialized RX2, Cond.code yX2_copy cX2_copy 2 none, Cond.fieldLink RX2 41 "DrumTalk$Village" "x" "I", Cond.fieldLink RX2 44 "DrumTalk$Village" "y" "I", Cond.fieldLink RX2 9 "DrumTalk$Village" "drum" "I", Cond.fieldLink RX2 47 "DrumTalk$Village" "cliff" "Z", Cond.fieldLink RX2 51 "DrumTalk$Village" "awakeFrom" "I", Cond.fieldLink RX2 15 "DrumTalk$Village" "awakeBeats" "I", Cond.fieldLink RX2 18 "DrumTalk$Village" "drumming" "I", Cond.fieldLink RX2 54 "DrumTalk$Village" "beatsLeft" "I", Cond.fieldLink RX2 21 "DrumTalk$Village" "queue" "[I", Cond.methodLink RX2 57 arraycopyName, Cond.fieldLink RX2 63 "DrumTalk$Village" "queued" "I", Cond.fieldLink RX2 25 "DrumTalk$Village" "knownSince" "[I", Cond.fieldLink RX2 31 "DrumTalk$Village" "inTheAir" "LDrumTalk$Sounds;", Cond.fieldLink RX2 70 "DrumTalk$Village" "drowned" "I", Cond.methodLink RX2 66 yX1_copy, Cond.instanceMethod yX1_copy, Cond.selects RX1 yX1_copy yX1_copy, Cond.initialized RX1, Cond.code yX1_copy cX1_copy 2 none, Cond.fieldLink RX1 9 "DrumTalk$Sounds" "phrases" "[I", Cond.fieldLink RX1 24 "DrumTalk$Sounds" "size" "I", Cond.methodLink RX1 28 arraycopyName]
def wsX3_knowersIfTold_r3 : List Cond := [Cond.fieldLink RX1 15 "DrumTalk$Sounds" "firstBeats" "[I", Cond.fieldLink RX1 18 "DrumTalk$Sounds" "lastBeats" "[I", Cond.fieldLink RX1 21 "DrumTalk$Sounds" "drowned" "[I", Cond.methodLink RX3 145 yX0_letGo, Cond.instanceMethod yX0_letGo, Cond.selects RX0 yX0_letGo yX0_letGo, Cond.code yX0_letGo cX0_letGo 4 (some .int), Cond.methodLink RX0 100 yX0_isQuiet, Cond.instanceMethod yX0_isQuiet, Cond.selects RX0 yX0_isQuiet yX0_isQuiet, Cond.code yX0_isQuiet cX0_isQuiet 3 (some .boolean), Cond.fieldLink RX0 106 "DrumTalk$Village" "queued" "I", Cond.fieldLink RX0 74 "DrumTalk$Village" "inTheAir" "LDrumTalk$Sounds;", Cond.fieldLink RX0 78 "DrumTalk$Sounds" "size" "I", Cond.methodLink RX0 70 yX2_isDrumming, Cond.instanceMethod yX2_isDrumming, Cond.selects RX2 yX2_isDrumming yX2_isDrumming, Cond.code yX2_isDrumming cX2_isDrumming 1 (some .boolean), Cond.methodLink RX0 103 yX0_goBeat, Cond.instanceMethod yX0_goBeat, Cond.selects RX0 yX0_goBeat yX0_goBeat, Cond.code yX0_goBeat cX0_goBeat 3 (some .int), Cond.methodLink RX0 109 yX2_isReady, Cond.instanceMethod yX2_isReady]
def wsX3_knowersIfTold_r4 : List Cond := [Cond.selects RX2 yX2_isReady yX2_isReady, Cond.code yX2_isReady cX2_isReady 2 (some .boolean), Cond.methodLink RX2 87 yX2_isDrumming, Cond.methodLink RX2 73 yX2_isAwake, Cond.instanceMethod yX2_isAwake, Cond.selects RX2 yX2_isAwake yX2_isAwake, Cond.code yX2_isAwake cX2_isAwake 2 (some .boolean), Cond.methodLink RX2 81 yJ9_floorMod_7cf53, Cond.static yJ9_floorMod_7cf53, Cond.initialized RJ9, Cond.code yJ9_floorMod_7cf53 cJ9_floorMod_7cf53 3 (some .int), Cond.methodLink RX0 112 yX0_beginDrumming, Cond.instanceMethod yX0_beginDrumming, Cond.selects RX0 yX0_beginDrumming yX0_beginDrumming, Cond.code yX0_beginDrumming cX0_beginDrumming 9 none, Cond.fieldLink RX0 129 "DrumTalk$Village" "drumming" "I", Cond.fieldLink RX0 132 "DrumTalk$Village" "beatsLeft" "I", Cond.fieldLink RX0 139 "DrumTalk$Village" "cliff" "Z", Cond.methodLink RX0 126 yX2_takeFromQueue, Cond.instanceMethod yX2_takeFromQueue, Cond.selects RX2 yX2_takeFromQueue yX2_takeFromQueue, Cond.code yX2_takeFromQueue cX2_takeFromQueue 2 (some .int), Cond.methodLink RX0 93 yX2_distanceTo, Cond.instanceMethod yX2_distanceTo]
def wsX3_knowersIfTold_r5 : List Cond := [Cond.selects RX2 yX2_distanceTo yX2_distanceTo, Cond.code yX2_distanceTo cX2_distanceTo 2 (some .int), Cond.methodLink RX2 91 Lib.Math.abs.name, Cond.static Lib.Math.abs.name, Cond.initialized "java/lang/Math", Cond.code Lib.Math.abs.name Lib.Math.abs.code 1 (some .int), Cond.methodLink RX0 97 yX2_isHeardAt, Cond.instanceMethod yX2_isHeardAt, Cond.selects RX2 yX2_isHeardAt yX2_isHeardAt, Cond.code yX2_isHeardAt cX2_isHeardAt 2 (some .boolean), Cond.methodLink RX0 135 yX1_add, Cond.instanceMethod yX1_add, Cond.selects RX1 yX1_add yX1_add, Cond.code yX1_add cX1_add 4 none, Cond.methodLink RX0 116 yX2_drownIfDisturbed, Cond.instanceMethod yX2_drownIfDisturbed, Cond.selects RX2 yX2_drownIfDisturbed yX2_drownIfDisturbed, Cond.code yX2_drownIfDisturbed cX2_drownIfDisturbed 2 none, Cond.methodLink RX2 98 yX1_lasting, Cond.instanceMethod yX1_lasting, Cond.selects RX1 yX1_lasting yX1_lasting, Cond.code yX1_lasting cX1_lasting 4 (some .int), Cond.methodLink RX2 101 yX1_drown, Cond.instanceMethod yX1_drown]
def wsX3_knowersIfTold_r6 : List Cond := [Cond.selects RX1 yX1_drown yX1_drown, Cond.code yX1_drown cX1_drown 3 none, Cond.methodLink RX0 119 yX2_endSounds, Cond.instanceMethod yX2_endSounds, Cond.selects RX2 yX2_endSounds yX2_endSounds, Cond.code yX2_endSounds cX2_endSounds 5 (some .int), Cond.fieldLink RX2 105 "DrumTalk$Sounds" "size" "I", Cond.fieldLink RX2 108 "DrumTalk$Sounds" "lastBeats" "[I", Cond.fieldLink RX2 115 "DrumTalk$Sounds" "drowned" "[I", Cond.fieldLink RX2 117 "DrumTalk$Sounds" "phrases" "[I", Cond.methodLink RX2 111 yX1_move, Cond.instanceMethod yX1_move, Cond.selects RX1 yX1_move yX1_move, Cond.code yX1_move cX1_move 3 none, Cond.methodLink RX2 95 yX2_isKnown, Cond.instanceMethod yX2_isKnown, Cond.selects RX2 yX2_isKnown yX2_isKnown, Cond.code yX2_isKnown cX2_isKnown 2 (some .boolean), Cond.methodLink RX2 120 yX2_takeIn, Cond.instanceMethod yX2_takeIn, Cond.selects RX2 yX2_takeIn yX2_takeIn, Cond.code yX2_takeIn cX2_takeIn 3 none, Cond.methodLink RX0 123 yX2_endDrumBeat, Cond.instanceMethod yX2_endDrumBeat]
def wsX3_knowersIfTold_r7 : List Cond := [Cond.selects RX2 yX2_endDrumBeat yX2_endDrumBeat, Cond.code yX2_endDrumBeat cX2_endDrumBeat 1 none, Cond.methodLink RX3 103 yX2_takeIn, Cond.methodLink RX3 159 yX0_knowersOf, Cond.instanceMethod yX0_knowersOf, Cond.selects RX0 yX0_knowersOf yX0_knowersOf, Cond.code yX0_knowersOf cX0_knowersOf 4 (some .int), Cond.methodLink RX0 89 yX2_isKnown]
def wsX3_knowersIfTold : List Cond := .code yX3_knowersIfTold cX3_knowersIfTold 5 (some .int) :: ((wsX3_knowersIfTold_r1 ++ (wsX3_knowersIfTold_r2 ++ (wsX3_knowersIfTold_r3 ++ (wsX3_knowersIfTold_r4 ++ (wsX3_knowersIfTold_r5 ++ (wsX3_knowersIfTold_r6 ++ wsX3_knowersIfTold_r7)))))) ++ wsX30 ++ wsX00 ++ wsX20 ++ wsX10)
def wsX3_best_r1 : List Cond := [Cond.fieldLink RX3 16 "DrumTalk" "trial" "LDrumTalk$Land;", Cond.fieldLink RX3 12 "DrumTalk" "land" "LDrumTalk$Land;", Cond.methodLink RX3 137 yX3_checkVillage, Cond.instanceMethod yX3_checkVillage, Cond.selects RX3 yX3_checkVillage yX3_checkVillage, Cond.initialized RX3, Cond.code yX3_checkVillage cX3_checkVillage 2 none, Cond.classLink RX3 107 "java/lang/IndexOutOfBoundsException", Cond.initialized "java/lang/IndexOutOfBoundsException", Cond.fieldLink RX3 33 "DrumTalk$Land" "villageCount" "I", Cond.methodLink RX3 91 yX3_checkPhrase, Cond.instanceMethod yX3_checkPhrase, Cond.selects RX3 yX3_checkPhrase yX3_checkPhrase, Cond.code yX3_checkPhrase cX3_checkPhrase 2 none, Cond.fieldLink RX3 79 "DrumTalk$Land" "phraseCount" "I", Cond.methodLink RX3 148 yX0_copy, Cond.instanceMethod yX0_copy, Cond.selects RX0 yX0_copy yX0_copy, Cond.initialized RX0, Cond.code yX0_copy cX0_copy 3 none, Cond.fieldLink RX0 25 "DrumTalk$Land" "villageCount" "I", Cond.fieldLink RX0 11 "DrumTalk$Land" "villages" "[LDrumTalk$Village;", Cond.fieldLink RX0 17 "DrumTalk$Land" "tones" "[I", Cond.methodLink RX0 33 arraycopyName]
def wsX3_best_r2 : List Cond := [Cond.native arraycopyName, Cond.static arraycopyName, Cond.initialized "java/lang/System", Cond.fieldLink RX0 21 "DrumTalk$Land" "toneCounts" "[I", Cond.fieldLink RX0 39 "DrumTalk$Land" "phraseCount" "I", Cond.fieldLink RX0 42 "DrumTalk$Land" "beat" "I", Cond.fieldLink RX0 45 "DrumTalk$Land" "drummings" "I", Cond.methodLink RX0 29 yX2_copy, Cond.instanceMethod yX2_copy, Cond.selects RX2 yX2_copy yX2_copy, Cond.initialized RX2, Cond.code yX2_copy cX2_copy 2 none, Cond.fieldLink RX2 41 "DrumTalk$Village" "x" "I", Cond.fieldLink RX2 44 "DrumTalk$Village" "y" "I", Cond.fieldLink RX2 9 "DrumTalk$Village" "drum" "I", Cond.fieldLink RX2 47 "DrumTalk$Village" "cliff" "Z", Cond.fieldLink RX2 51 "DrumTalk$Village" "awakeFrom" "I", Cond.fieldLink RX2 15 "DrumTalk$Village" "awakeBeats" "I", Cond.fieldLink RX2 18 "DrumTalk$Village" "drumming" "I", Cond.fieldLink RX2 54 "DrumTalk$Village" "beatsLeft" "I", Cond.fieldLink RX2 21 "DrumTalk$Village" "queue" "[I", Cond.methodLink RX2 57 arraycopyName, Cond.fieldLink RX2 63 "DrumTalk$Village" "queued" "I", Cond.fieldLink RX2 25 "DrumTalk$Village" "knownSince" "[I"]
def wsX3_best_r3 : List Cond := [Cond.fieldLink RX2 31 "DrumTalk$Village" "inTheAir" "LDrumTalk$Sounds;", Cond.fieldLink RX2 70 "DrumTalk$Village" "drowned" "I", Cond.methodLink RX2 66 yX1_copy, Cond.instanceMethod yX1_copy, Cond.selects RX1 yX1_copy yX1_copy, Cond.initialized RX1, Cond.code yX1_copy cX1_copy 2 none, Cond.fieldLink RX1 9 "DrumTalk$Sounds" "phrases" "[I", Cond.fieldLink RX1 24 "DrumTalk$Sounds" "size" "I", Cond.methodLink RX1 28 arraycopyName, Cond.fieldLink RX1 15 "DrumTalk$Sounds" "firstBeats" "[I", Cond.fieldLink RX1 18 "DrumTalk$Sounds" "lastBeats" "[I", Cond.fieldLink RX1 21 "DrumTalk$Sounds" "drowned" "[I", Cond.methodLink RX3 145 yX0_letGo, Cond.instanceMethod yX0_letGo, Cond.selects RX0 yX0_letGo yX0_letGo, Cond.code yX0_letGo cX0_letGo 4 (some .int), Cond.methodLink RX0 100 yX0_isQuiet, Cond.instanceMethod yX0_isQuiet, Cond.selects RX0 yX0_isQuiet yX0_isQuiet, Cond.code yX0_isQuiet cX0_isQuiet 3 (some .boolean), Cond.fieldLink RX0 106 "DrumTalk$Village" "queued" "I", Cond.fieldLink RX0 74 "DrumTalk$Village" "inTheAir" "LDrumTalk$Sounds;", Cond.fieldLink RX0 78 "DrumTalk$Sounds" "size" "I"]
def wsX3_best_r4 : List Cond := [Cond.methodLink RX0 70 yX2_isDrumming, Cond.instanceMethod yX2_isDrumming, Cond.selects RX2 yX2_isDrumming yX2_isDrumming, Cond.code yX2_isDrumming cX2_isDrumming 1 (some .boolean), Cond.methodLink RX0 103 yX0_goBeat, Cond.instanceMethod yX0_goBeat, Cond.selects RX0 yX0_goBeat yX0_goBeat, Cond.code yX0_goBeat cX0_goBeat 3 (some .int), Cond.methodLink RX0 109 yX2_isReady, Cond.instanceMethod yX2_isReady, Cond.selects RX2 yX2_isReady yX2_isReady, Cond.code yX2_isReady cX2_isReady 2 (some .boolean), Cond.methodLink RX2 87 yX2_isDrumming, Cond.methodLink RX2 73 yX2_isAwake, Cond.instanceMethod yX2_isAwake, Cond.selects RX2 yX2_isAwake yX2_isAwake, Cond.code yX2_isAwake cX2_isAwake 2 (some .boolean), Cond.methodLink RX2 81 yJ9_floorMod_7cf53, Cond.static yJ9_floorMod_7cf53, Cond.initialized RJ9, Cond.code yJ9_floorMod_7cf53 cJ9_floorMod_7cf53 3 (some .int), Cond.methodLink RX0 112 yX0_beginDrumming, Cond.instanceMethod yX0_beginDrumming, Cond.selects RX0 yX0_beginDrumming yX0_beginDrumming]
def wsX3_best_r5 : List Cond := [Cond.code yX0_beginDrumming cX0_beginDrumming 9 none, Cond.fieldLink RX0 129 "DrumTalk$Village" "drumming" "I", Cond.fieldLink RX0 132 "DrumTalk$Village" "beatsLeft" "I", Cond.fieldLink RX0 139 "DrumTalk$Village" "cliff" "Z", Cond.methodLink RX0 126 yX2_takeFromQueue, Cond.instanceMethod yX2_takeFromQueue, Cond.selects RX2 yX2_takeFromQueue yX2_takeFromQueue, Cond.code yX2_takeFromQueue cX2_takeFromQueue 2 (some .int), Cond.methodLink RX0 93 yX2_distanceTo, Cond.instanceMethod yX2_distanceTo, Cond.selects RX2 yX2_distanceTo yX2_distanceTo, Cond.code yX2_distanceTo cX2_distanceTo 2 (some .int), Cond.methodLink RX2 91 Lib.Math.abs.name, Cond.static Lib.Math.abs.name, Cond.initialized "java/lang/Math", Cond.code Lib.Math.abs.name Lib.Math.abs.code 1 (some .int), Cond.methodLink RX0 97 yX2_isHeardAt, Cond.instanceMethod yX2_isHeardAt, Cond.selects RX2 yX2_isHeardAt yX2_isHeardAt, Cond.code yX2_isHeardAt cX2_isHeardAt 2 (some .boolean), Cond.methodLink RX0 135 yX1_add, Cond.instanceMethod yX1_add, Cond.selects RX1 yX1_add yX1_add, Cond.code yX1_add cX1_add 4 none]
def wsX3_best_r6 : List Cond := [Cond.methodLink RX0 116 yX2_drownIfDisturbed, Cond.instanceMethod yX2_drownIfDisturbed, Cond.selects RX2 yX2_drownIfDisturbed yX2_drownIfDisturbed, Cond.code yX2_drownIfDisturbed cX2_drownIfDisturbed 2 none, Cond.methodLink RX2 98 yX1_lasting, Cond.instanceMethod yX1_lasting, Cond.selects RX1 yX1_lasting yX1_lasting, Cond.code yX1_lasting cX1_lasting 4 (some .int), Cond.methodLink RX2 101 yX1_drown, Cond.instanceMethod yX1_drown, Cond.selects RX1 yX1_drown yX1_drown, Cond.code yX1_drown cX1_drown 3 none, Cond.methodLink RX0 119 yX2_endSounds, Cond.instanceMethod yX2_endSounds, Cond.selects RX2 yX2_endSounds yX2_endSounds, Cond.code yX2_endSounds cX2_endSounds 5 (some .int), Cond.fieldLink RX2 105 "DrumTalk$Sounds" "size" "I", Cond.fieldLink RX2 108 "DrumTalk$Sounds" "lastBeats" "[I", Cond.fieldLink RX2 115 "DrumTalk$Sounds" "drowned" "[I", Cond.fieldLink RX2 117 "DrumTalk$Sounds" "phrases" "[I", Cond.methodLink RX2 111 yX1_move, Cond.instanceMethod yX1_move, Cond.selects RX1 yX1_move yX1_move, Cond.code yX1_move cX1_move 3 none]
def wsX3_best_r7 : List Cond := [Cond.methodLink RX2 95 yX2_isKnown, Cond.instanceMethod yX2_isKnown, Cond.selects RX2 yX2_isKnown yX2_isKnown, Cond.code yX2_isKnown cX2_isKnown 2 (some .boolean), Cond.methodLink RX2 120 yX2_takeIn, Cond.instanceMethod yX2_takeIn, Cond.selects RX2 yX2_takeIn yX2_takeIn, Cond.code yX2_takeIn cX2_takeIn 3 none, Cond.methodLink RX0 123 yX2_endDrumBeat, Cond.instanceMethod yX2_endDrumBeat, Cond.selects RX2 yX2_endDrumBeat yX2_endDrumBeat, Cond.code yX2_endDrumBeat cX2_endDrumBeat 1 none, Cond.methodLink RX3 159 yX0_knowersOf, Cond.instanceMethod yX0_knowersOf, Cond.selects RX0 yX0_knowersOf yX0_knowersOf, Cond.code yX0_knowersOf cX0_knowersOf 4 (some .int), Cond.methodLink RX0 89 yX2_isKnown, Cond.methodLink RX3 162 yX3_knowersIfTold, Cond.instanceMethod yX3_knowersIfTold, Cond.selects RX3 yX3_knowersIfTold yX3_knowersIfTold, Cond.code yX3_knowersIfTold cX3_knowersIfTold 5 (some .int), Cond.fieldLink RX3 152 "DrumTalk$Land" "villages" "[LDrumTalk$Village;", Cond.fieldLink RX3 95 "DrumTalk$Village" "queued" "I", Cond.fieldLink RX3 100 "DrumTalk$Land" "beat" "I"]
def wsX3_best_r8 : List Cond := [Cond.methodLink RX3 103 yX2_takeIn]
def wsX3_best : List Cond := .code yX3_best cX3_best 7 (some .int) :: ((wsX3_best_r1 ++ (wsX3_best_r2 ++ (wsX3_best_r3 ++ (wsX3_best_r4 ++ (wsX3_best_r5 ++ (wsX3_best_r6 ++ (wsX3_best_r7 ++ wsX3_best_r8))))))) ++ wsX30 ++ wsX00 ++ wsX20 ++ wsX10 ++ (vx_atS RX3 111 "java/lang/IndexOutOfBoundsException" ["java/lang/RuntimeException", "java/lang/Exception"]).filter goodWord)
def wsX3_pairsIfLarger_r1 : List Cond := [Cond.fieldLink RX3 16 "DrumTalk" "trial" "LDrumTalk$Land;", Cond.fieldLink RX3 12 "DrumTalk" "land" "LDrumTalk$Land;", Cond.fieldLink RX3 152 "DrumTalk$Land" "villages" "[LDrumTalk$Village;", Cond.fieldLink RX3 56 "DrumTalk$Village" "drum" "I", Cond.methodLink RX3 148 yX0_copy, Cond.instanceMethod yX0_copy, Cond.selects RX0 yX0_copy yX0_copy, Cond.initialized RX0, Cond.code yX0_copy cX0_copy 3 none, Cond.fieldLink RX0 25 "DrumTalk$Land" "villageCount" "I", Cond.fieldLink RX0 11 "DrumTalk$Land" "villages" "[LDrumTalk$Village;", Cond.fieldLink RX0 17 "DrumTalk$Land" "tones" "[I", Cond.methodLink RX0 33 arraycopyName, Cond.native arraycopyName, Cond.static arraycopyName, Cond.initialized "java/lang/System", Cond.fieldLink RX0 21 "DrumTalk$Land" "toneCounts" "[I", Cond.fieldLink RX0 39 "DrumTalk$Land" "phraseCount" "I", Cond.fieldLink RX0 42 "DrumTalk$Land" "beat" "I", Cond.fieldLink RX0 45 "DrumTalk$Land" "drummings" "I", Cond.methodLink RX0 29 yX2_copy, Cond.instanceMethod yX2_copy, Cond.selects RX2 yX2_copy yX2_copy, Cond.initialized RX2]
def wsX3_pairsIfLarger_r2 : List Cond := [Cond.code yX2_copy cX2_copy 2 none, Cond.fieldLink RX2 41 "DrumTalk$Village" "x" "I", Cond.fieldLink RX2 44 "DrumTalk$Village" "y" "I", Cond.fieldLink RX2 9 "DrumTalk$Village" "drum" "I", Cond.fieldLink RX2 47 "DrumTalk$Village" "cliff" "Z", Cond.fieldLink RX2 51 "DrumTalk$Village" "awakeFrom" "I", Cond.fieldLink RX2 15 "DrumTalk$Village" "awakeBeats" "I", Cond.fieldLink RX2 18 "DrumTalk$Village" "drumming" "I", Cond.fieldLink RX2 54 "DrumTalk$Village" "beatsLeft" "I", Cond.fieldLink RX2 21 "DrumTalk$Village" "queue" "[I", Cond.methodLink RX2 57 arraycopyName, Cond.fieldLink RX2 63 "DrumTalk$Village" "queued" "I", Cond.fieldLink RX2 25 "DrumTalk$Village" "knownSince" "[I", Cond.fieldLink RX2 31 "DrumTalk$Village" "inTheAir" "LDrumTalk$Sounds;", Cond.fieldLink RX2 70 "DrumTalk$Village" "drowned" "I", Cond.methodLink RX2 66 yX1_copy, Cond.instanceMethod yX1_copy, Cond.selects RX1 yX1_copy yX1_copy, Cond.initialized RX1, Cond.code yX1_copy cX1_copy 2 none, Cond.fieldLink RX1 9 "DrumTalk$Sounds" "phrases" "[I", Cond.fieldLink RX1 24 "DrumTalk$Sounds" "size" "I", Cond.methodLink RX1 28 arraycopyName, Cond.fieldLink RX1 15 "DrumTalk$Sounds" "firstBeats" "[I"]
def wsX3_pairsIfLarger_r3 : List Cond := [Cond.fieldLink RX1 18 "DrumTalk$Sounds" "lastBeats" "[I", Cond.fieldLink RX1 21 "DrumTalk$Sounds" "drowned" "[I", Cond.methodLink RX3 145 yX0_letGo, Cond.instanceMethod yX0_letGo, Cond.selects RX0 yX0_letGo yX0_letGo, Cond.code yX0_letGo cX0_letGo 4 (some .int), Cond.methodLink RX0 100 yX0_isQuiet, Cond.instanceMethod yX0_isQuiet, Cond.selects RX0 yX0_isQuiet yX0_isQuiet, Cond.code yX0_isQuiet cX0_isQuiet 3 (some .boolean), Cond.fieldLink RX0 106 "DrumTalk$Village" "queued" "I", Cond.fieldLink RX0 74 "DrumTalk$Village" "inTheAir" "LDrumTalk$Sounds;", Cond.fieldLink RX0 78 "DrumTalk$Sounds" "size" "I", Cond.methodLink RX0 70 yX2_isDrumming, Cond.instanceMethod yX2_isDrumming, Cond.selects RX2 yX2_isDrumming yX2_isDrumming, Cond.code yX2_isDrumming cX2_isDrumming 1 (some .boolean), Cond.methodLink RX0 103 yX0_goBeat, Cond.instanceMethod yX0_goBeat, Cond.selects RX0 yX0_goBeat yX0_goBeat, Cond.code yX0_goBeat cX0_goBeat 3 (some .int), Cond.methodLink RX0 109 yX2_isReady, Cond.instanceMethod yX2_isReady, Cond.selects RX2 yX2_isReady yX2_isReady]
def wsX3_pairsIfLarger_r4 : List Cond := [Cond.code yX2_isReady cX2_isReady 2 (some .boolean), Cond.methodLink RX2 87 yX2_isDrumming, Cond.methodLink RX2 73 yX2_isAwake, Cond.instanceMethod yX2_isAwake, Cond.selects RX2 yX2_isAwake yX2_isAwake, Cond.code yX2_isAwake cX2_isAwake 2 (some .boolean), Cond.methodLink RX2 81 yJ9_floorMod_7cf53, Cond.static yJ9_floorMod_7cf53, Cond.initialized RJ9, Cond.code yJ9_floorMod_7cf53 cJ9_floorMod_7cf53 3 (some .int), Cond.methodLink RX0 112 yX0_beginDrumming, Cond.instanceMethod yX0_beginDrumming, Cond.selects RX0 yX0_beginDrumming yX0_beginDrumming, Cond.code yX0_beginDrumming cX0_beginDrumming 9 none, Cond.fieldLink RX0 129 "DrumTalk$Village" "drumming" "I", Cond.fieldLink RX0 132 "DrumTalk$Village" "beatsLeft" "I", Cond.fieldLink RX0 139 "DrumTalk$Village" "cliff" "Z", Cond.methodLink RX0 126 yX2_takeFromQueue, Cond.instanceMethod yX2_takeFromQueue, Cond.selects RX2 yX2_takeFromQueue yX2_takeFromQueue, Cond.code yX2_takeFromQueue cX2_takeFromQueue 2 (some .int), Cond.methodLink RX0 93 yX2_distanceTo, Cond.instanceMethod yX2_distanceTo, Cond.selects RX2 yX2_distanceTo yX2_distanceTo]
def wsX3_pairsIfLarger_r5 : List Cond := [Cond.code yX2_distanceTo cX2_distanceTo 2 (some .int), Cond.methodLink RX2 91 Lib.Math.abs.name, Cond.static Lib.Math.abs.name, Cond.initialized "java/lang/Math", Cond.code Lib.Math.abs.name Lib.Math.abs.code 1 (some .int), Cond.methodLink RX0 97 yX2_isHeardAt, Cond.instanceMethod yX2_isHeardAt, Cond.selects RX2 yX2_isHeardAt yX2_isHeardAt, Cond.code yX2_isHeardAt cX2_isHeardAt 2 (some .boolean), Cond.methodLink RX0 135 yX1_add, Cond.instanceMethod yX1_add, Cond.selects RX1 yX1_add yX1_add, Cond.code yX1_add cX1_add 4 none, Cond.methodLink RX0 116 yX2_drownIfDisturbed, Cond.instanceMethod yX2_drownIfDisturbed, Cond.selects RX2 yX2_drownIfDisturbed yX2_drownIfDisturbed, Cond.code yX2_drownIfDisturbed cX2_drownIfDisturbed 2 none, Cond.methodLink RX2 98 yX1_lasting, Cond.instanceMethod yX1_lasting, Cond.selects RX1 yX1_lasting yX1_lasting, Cond.code yX1_lasting cX1_lasting 4 (some .int), Cond.methodLink RX2 101 yX1_drown, Cond.instanceMethod yX1_drown, Cond.selects RX1 yX1_drown yX1_drown]
def wsX3_pairsIfLarger_r6 : List Cond := [Cond.code yX1_drown cX1_drown 3 none, Cond.methodLink RX0 119 yX2_endSounds, Cond.instanceMethod yX2_endSounds, Cond.selects RX2 yX2_endSounds yX2_endSounds, Cond.code yX2_endSounds cX2_endSounds 5 (some .int), Cond.fieldLink RX2 105 "DrumTalk$Sounds" "size" "I", Cond.fieldLink RX2 108 "DrumTalk$Sounds" "lastBeats" "[I", Cond.fieldLink RX2 115 "DrumTalk$Sounds" "drowned" "[I", Cond.fieldLink RX2 117 "DrumTalk$Sounds" "phrases" "[I", Cond.methodLink RX2 111 yX1_move, Cond.instanceMethod yX1_move, Cond.selects RX1 yX1_move yX1_move, Cond.code yX1_move cX1_move 3 none, Cond.methodLink RX2 95 yX2_isKnown, Cond.instanceMethod yX2_isKnown, Cond.selects RX2 yX2_isKnown yX2_isKnown, Cond.code yX2_isKnown cX2_isKnown 2 (some .boolean), Cond.methodLink RX2 120 yX2_takeIn, Cond.instanceMethod yX2_takeIn, Cond.selects RX2 yX2_takeIn yX2_takeIn, Cond.code yX2_takeIn cX2_takeIn 3 none, Cond.methodLink RX0 123 yX2_endDrumBeat, Cond.instanceMethod yX2_endDrumBeat, Cond.selects RX2 yX2_endDrumBeat yX2_endDrumBeat]
def wsX3_pairsIfLarger_r7 : List Cond := [Cond.code yX2_endDrumBeat cX2_endDrumBeat 1 none, Cond.methodLink RX3 167 yX0_knownPairs, Cond.instanceMethod yX0_knownPairs, Cond.selects RX0 yX0_knownPairs yX0_knownPairs, Cond.code yX0_knownPairs cX0_knownPairs 3 (some .int), Cond.methodLink RX0 86 yX2_phrasesKnown, Cond.instanceMethod yX2_phrasesKnown, Cond.selects RX2 yX2_phrasesKnown yX2_phrasesKnown, Cond.code yX2_phrasesKnown cX2_phrasesKnown 3 (some .int)]
def wsX3_pairsIfLarger : List Cond := .code yX3_pairsIfLarger cX3_pairsIfLarger 3 (some .int) :: ((wsX3_pairsIfLarger_r1 ++ (wsX3_pairsIfLarger_r2 ++ (wsX3_pairsIfLarger_r3 ++ (wsX3_pairsIfLarger_r4 ++ (wsX3_pairsIfLarger_r5 ++ (wsX3_pairsIfLarger_r6 ++ wsX3_pairsIfLarger_r7)))))) ++ wsX30 ++ wsX00 ++ wsX20 ++ wsX10)
def wsX3_larger_r1 : List Cond := [Cond.classLink RX3 26 "java/lang/IllegalArgumentException", Cond.initialized "java/lang/IllegalArgumentException", Cond.fieldLink RX3 16 "DrumTalk" "trial" "LDrumTalk$Land;", Cond.fieldLink RX3 12 "DrumTalk" "land" "LDrumTalk$Land;", Cond.fieldLink RX3 33 "DrumTalk$Land" "villageCount" "I", Cond.fieldLink RX3 152 "DrumTalk$Land" "villages" "[LDrumTalk$Village;", Cond.fieldLink RX3 56 "DrumTalk$Village" "drum" "I", Cond.methodLink RX3 148 yX0_copy, Cond.instanceMethod yX0_copy, Cond.selects RX0 yX0_copy yX0_copy, Cond.initialized RX0, Cond.code yX0_copy cX0_copy 3 none, Cond.fieldLink RX0 25 "DrumTalk$Land" "villageCount" "I", Cond.fieldLink RX0 11 "DrumTalk$Land" "villages" "[LDrumTalk$Village;", Cond.fieldLink RX0 17 "DrumTalk$Land" "tones" "[I", Cond.methodLink RX0 33 arraycopyName, Cond.native arraycopyName, Cond.static arraycopyName, Cond.initialized "java/lang/System", Cond.fieldLink RX0 21 "DrumTalk$Land" "toneCounts" "[I", Cond.fieldLink RX0 39 "DrumTalk$Land" "phraseCount" "I", Cond.fieldLink RX0 42 "DrumTalk$Land" "beat" "I", Cond.fieldLink RX0 45 "DrumTalk$Land" "drummings" "I", Cond.methodLink RX0 29 yX2_copy]
def wsX3_larger_r2 : List Cond := [Cond.instanceMethod yX2_copy, Cond.selects RX2 yX2_copy yX2_copy, Cond.initialized RX2, Cond.code yX2_copy cX2_copy 2 none, Cond.fieldLink RX2 41 "DrumTalk$Village" "x" "I", Cond.fieldLink RX2 44 "DrumTalk$Village" "y" "I", Cond.fieldLink RX2 9 "DrumTalk$Village" "drum" "I", Cond.fieldLink RX2 47 "DrumTalk$Village" "cliff" "Z", Cond.fieldLink RX2 51 "DrumTalk$Village" "awakeFrom" "I", Cond.fieldLink RX2 15 "DrumTalk$Village" "awakeBeats" "I", Cond.fieldLink RX2 18 "DrumTalk$Village" "drumming" "I", Cond.fieldLink RX2 54 "DrumTalk$Village" "beatsLeft" "I", Cond.fieldLink RX2 21 "DrumTalk$Village" "queue" "[I", Cond.methodLink RX2 57 arraycopyName, Cond.fieldLink RX2 63 "DrumTalk$Village" "queued" "I", Cond.fieldLink RX2 25 "DrumTalk$Village" "knownSince" "[I", Cond.fieldLink RX2 31 "DrumTalk$Village" "inTheAir" "LDrumTalk$Sounds;", Cond.fieldLink RX2 70 "DrumTalk$Village" "drowned" "I", Cond.methodLink RX2 66 yX1_copy, Cond.instanceMethod yX1_copy, Cond.selects RX1 yX1_copy yX1_copy, Cond.initialized RX1, Cond.code yX1_copy cX1_copy 2 none, Cond.fieldLink RX1 9 "DrumTalk$Sounds" "phrases" "[I"]
def wsX3_larger_r3 : List Cond := [Cond.fieldLink RX1 24 "DrumTalk$Sounds" "size" "I", Cond.methodLink RX1 28 arraycopyName, Cond.fieldLink RX1 15 "DrumTalk$Sounds" "firstBeats" "[I", Cond.fieldLink RX1 18 "DrumTalk$Sounds" "lastBeats" "[I", Cond.fieldLink RX1 21 "DrumTalk$Sounds" "drowned" "[I", Cond.methodLink RX3 145 yX0_letGo, Cond.instanceMethod yX0_letGo, Cond.selects RX0 yX0_letGo yX0_letGo, Cond.code yX0_letGo cX0_letGo 4 (some .int), Cond.methodLink RX0 100 yX0_isQuiet, Cond.instanceMethod yX0_isQuiet, Cond.selects RX0 yX0_isQuiet yX0_isQuiet, Cond.code yX0_isQuiet cX0_isQuiet 3 (some .boolean), Cond.fieldLink RX0 106 "DrumTalk$Village" "queued" "I", Cond.fieldLink RX0 74 "DrumTalk$Village" "inTheAir" "LDrumTalk$Sounds;", Cond.fieldLink RX0 78 "DrumTalk$Sounds" "size" "I", Cond.methodLink RX0 70 yX2_isDrumming, Cond.instanceMethod yX2_isDrumming, Cond.selects RX2 yX2_isDrumming yX2_isDrumming, Cond.code yX2_isDrumming cX2_isDrumming 1 (some .boolean), Cond.methodLink RX0 103 yX0_goBeat, Cond.instanceMethod yX0_goBeat, Cond.selects RX0 yX0_goBeat yX0_goBeat, Cond.code yX0_goBeat cX0_goBeat 3 (some .int)]
def wsX3_larger_r4 : List Cond := [Cond.methodLink RX0 109 yX2_isReady, Cond.instanceMethod yX2_isReady, Cond.selects RX2 yX2_isReady yX2_isReady, Cond.code yX2_isReady cX2_isReady 2 (some .boolean), Cond.methodLink RX2 87 yX2_isDrumming, Cond.methodLink RX2 73 yX2_isAwake, Cond.instanceMethod yX2_isAwake, Cond.selects RX2 yX2_isAwake yX2_isAwake, Cond.code yX2_isAwake cX2_isAwake 2 (some .boolean), Cond.methodLink RX2 81 yJ9_floorMod_7cf53, Cond.static yJ9_floorMod_7cf53, Cond.initialized RJ9, Cond.code yJ9_floorMod_7cf53 cJ9_floorMod_7cf53 3 (some .int), Cond.methodLink RX0 112 yX0_beginDrumming, Cond.instanceMethod yX0_beginDrumming, Cond.selects RX0 yX0_beginDrumming yX0_beginDrumming, Cond.code yX0_beginDrumming cX0_beginDrumming 9 none, Cond.fieldLink RX0 129 "DrumTalk$Village" "drumming" "I", Cond.fieldLink RX0 132 "DrumTalk$Village" "beatsLeft" "I", Cond.fieldLink RX0 139 "DrumTalk$Village" "cliff" "Z", Cond.methodLink RX0 126 yX2_takeFromQueue, Cond.instanceMethod yX2_takeFromQueue, Cond.selects RX2 yX2_takeFromQueue yX2_takeFromQueue, Cond.code yX2_takeFromQueue cX2_takeFromQueue 2 (some .int)]
def wsX3_larger_r5 : List Cond := [Cond.methodLink RX0 93 yX2_distanceTo, Cond.instanceMethod yX2_distanceTo, Cond.selects RX2 yX2_distanceTo yX2_distanceTo, Cond.code yX2_distanceTo cX2_distanceTo 2 (some .int), Cond.methodLink RX2 91 Lib.Math.abs.name, Cond.static Lib.Math.abs.name, Cond.initialized "java/lang/Math", Cond.code Lib.Math.abs.name Lib.Math.abs.code 1 (some .int), Cond.methodLink RX0 97 yX2_isHeardAt, Cond.instanceMethod yX2_isHeardAt, Cond.selects RX2 yX2_isHeardAt yX2_isHeardAt, Cond.code yX2_isHeardAt cX2_isHeardAt 2 (some .boolean), Cond.methodLink RX0 135 yX1_add, Cond.instanceMethod yX1_add, Cond.selects RX1 yX1_add yX1_add, Cond.code yX1_add cX1_add 4 none, Cond.methodLink RX0 116 yX2_drownIfDisturbed, Cond.instanceMethod yX2_drownIfDisturbed, Cond.selects RX2 yX2_drownIfDisturbed yX2_drownIfDisturbed, Cond.code yX2_drownIfDisturbed cX2_drownIfDisturbed 2 none, Cond.methodLink RX2 98 yX1_lasting, Cond.instanceMethod yX1_lasting, Cond.selects RX1 yX1_lasting yX1_lasting, Cond.code yX1_lasting cX1_lasting 4 (some .int)]
def wsX3_larger_r6 : List Cond := [Cond.methodLink RX2 101 yX1_drown, Cond.instanceMethod yX1_drown, Cond.selects RX1 yX1_drown yX1_drown, Cond.code yX1_drown cX1_drown 3 none, Cond.methodLink RX0 119 yX2_endSounds, Cond.instanceMethod yX2_endSounds, Cond.selects RX2 yX2_endSounds yX2_endSounds, Cond.code yX2_endSounds cX2_endSounds 5 (some .int), Cond.fieldLink RX2 105 "DrumTalk$Sounds" "size" "I", Cond.fieldLink RX2 108 "DrumTalk$Sounds" "lastBeats" "[I", Cond.fieldLink RX2 115 "DrumTalk$Sounds" "drowned" "[I", Cond.fieldLink RX2 117 "DrumTalk$Sounds" "phrases" "[I", Cond.methodLink RX2 111 yX1_move, Cond.instanceMethod yX1_move, Cond.selects RX1 yX1_move yX1_move, Cond.code yX1_move cX1_move 3 none, Cond.methodLink RX2 95 yX2_isKnown, Cond.instanceMethod yX2_isKnown, Cond.selects RX2 yX2_isKnown yX2_isKnown, Cond.code yX2_isKnown cX2_isKnown 2 (some .boolean), Cond.methodLink RX2 120 yX2_takeIn, Cond.instanceMethod yX2_takeIn, Cond.selects RX2 yX2_takeIn yX2_takeIn, Cond.code yX2_takeIn cX2_takeIn 3 none]
def wsX3_larger_r7 : List Cond := [Cond.methodLink RX0 123 yX2_endDrumBeat, Cond.instanceMethod yX2_endDrumBeat, Cond.selects RX2 yX2_endDrumBeat yX2_endDrumBeat, Cond.code yX2_endDrumBeat cX2_endDrumBeat 1 none, Cond.methodLink RX3 167 yX0_knownPairs, Cond.instanceMethod yX0_knownPairs, Cond.selects RX0 yX0_knownPairs yX0_knownPairs, Cond.code yX0_knownPairs cX0_knownPairs 3 (some .int), Cond.methodLink RX0 86 yX2_phrasesKnown, Cond.instanceMethod yX2_phrasesKnown, Cond.selects RX2 yX2_phrasesKnown yX2_phrasesKnown, Cond.code yX2_phrasesKnown cX2_phrasesKnown 3 (some .int), Cond.methodLink RX3 171 yX3_pairsIfLarger, Cond.instanceMethod yX3_pairsIfLarger, Cond.selects RX3 yX3_pairsIfLarger yX3_pairsIfLarger, Cond.initialized RX3, Cond.code yX3_pairsIfLarger cX3_pairsIfLarger 3 (some .int)]
def wsX3_larger : List Cond := .code yX3_larger cX3_larger 6 (some .int) :: ((wsX3_larger_r1 ++ (wsX3_larger_r2 ++ (wsX3_larger_r3 ++ (wsX3_larger_r4 ++ (wsX3_larger_r5 ++ (wsX3_larger_r6 ++ wsX3_larger_r7)))))) ++ wsX30 ++ wsX00 ++ wsX20 ++ wsX10 ++ (vx_atS RX3 30 "java/lang/IllegalArgumentException" ["java/lang/RuntimeException", "java/lang/Exception"]).filter goodWord)
def wsX3_known : List Cond := .code yX3_known cX3_known 2 (some .double) :: ([.fieldLink RX3 12 "DrumTalk" "land" "LDrumTalk$Land;", .fieldLink RX3 33 "DrumTalk$Land" "villageCount" "I", .fieldLink RX3 79 "DrumTalk$Land" "phraseCount" "I", .methodLink RX3 167 yX0_knownPairs, .instanceMethod yX0_knownPairs, .selects RX0 yX0_knownPairs yX0_knownPairs, .initialized RX0, .code yX0_knownPairs cX0_knownPairs 3 (some .int), .fieldLink RX0 25 "DrumTalk$Land" "villageCount" "I", .fieldLink RX0 11 "DrumTalk$Land" "villages" "[LDrumTalk$Village;", .methodLink RX0 86 yX2_phrasesKnown, .instanceMethod yX2_phrasesKnown, .selects RX2 yX2_phrasesKnown yX2_phrasesKnown, .initialized RX2, .code yX2_phrasesKnown cX2_phrasesKnown 3 (some .int), .methodLink RX2 95 yX2_isKnown, .instanceMethod yX2_isKnown, .selects RX2 yX2_isKnown yX2_isKnown, .code yX2_isKnown cX2_isKnown 2 (some .boolean), .fieldLink RX2 25 "DrumTalk$Village" "knownSince" "[I"] ++ wsX30 ++ wsX00 ++ wsX20)
def wsX3_digestOn_r1 : List Cond := [Cond.constantLong RX3 176 (31), Cond.fieldLink RX3 12 "DrumTalk" "land" "LDrumTalk$Land;", Cond.fieldLink RX3 100 "DrumTalk$Land" "beat" "I", Cond.fieldLink RX3 124 "DrumTalk$Village" "inTheAir" "LDrumTalk$Sounds;", Cond.fieldLink RX3 95 "DrumTalk$Village" "queued" "I", Cond.fieldLink RX3 117 "DrumTalk$Village" "queue" "[I", Cond.fieldLink RX3 79 "DrumTalk$Land" "phraseCount" "I", Cond.fieldLink RX3 121 "DrumTalk$Village" "knownSince" "[I", Cond.methodLink RX3 112 yX2_figure, Cond.instanceMethod yX2_figure, Cond.selects RX2 yX2_figure yX2_figure, Cond.initialized RX2, Cond.code yX2_figure cX2_figure 3 (some .int), Cond.fieldLink RX2 41 "DrumTalk$Village" "x" "I", Cond.fieldLink RX2 44 "DrumTalk$Village" "y" "I", Cond.fieldLink RX2 9 "DrumTalk$Village" "drum" "I", Cond.fieldLink RX2 47 "DrumTalk$Village" "cliff" "Z", Cond.fieldLink RX2 18 "DrumTalk$Village" "drumming" "I", Cond.fieldLink RX2 54 "DrumTalk$Village" "beatsLeft" "I", Cond.fieldLink RX2 63 "DrumTalk$Village" "queued" "I", Cond.fieldLink RX2 70 "DrumTalk$Village" "drowned" "I", Cond.methodLink RX2 73 yX2_isAwake, Cond.instanceMethod yX2_isAwake, Cond.selects RX2 yX2_isAwake yX2_isAwake]
def wsX3_digestOn_r2 : List Cond := [Cond.code yX2_isAwake cX2_isAwake 2 (some .boolean), Cond.fieldLink RX2 51 "DrumTalk$Village" "awakeFrom" "I", Cond.fieldLink RX2 15 "DrumTalk$Village" "awakeBeats" "I", Cond.methodLink RX2 81 yJ9_floorMod_7cf53, Cond.static yJ9_floorMod_7cf53, Cond.initialized RJ9, Cond.code yJ9_floorMod_7cf53 cJ9_floorMod_7cf53 3 (some .int), Cond.methodLink RX2 77 yX2_phrasesKnown, Cond.instanceMethod yX2_phrasesKnown, Cond.selects RX2 yX2_phrasesKnown yX2_phrasesKnown, Cond.code yX2_phrasesKnown cX2_phrasesKnown 3 (some .int), Cond.methodLink RX2 95 yX2_isKnown, Cond.instanceMethod yX2_isKnown, Cond.selects RX2 yX2_isKnown yX2_isKnown, Cond.code yX2_isKnown cX2_isKnown 2 (some .boolean), Cond.fieldLink RX2 25 "DrumTalk$Village" "knownSince" "[I", Cond.methodLink RX3 128 yX1_lasting, Cond.instanceMethod yX1_lasting, Cond.selects RX1 yX1_lasting yX1_lasting, Cond.initialized RX1, Cond.code yX1_lasting cX1_lasting 4 (some .int), Cond.fieldLink RX1 24 "DrumTalk$Sounds" "size" "I", Cond.fieldLink RX1 15 "DrumTalk$Sounds" "firstBeats" "[I"]
def wsX3_digestOn : List Cond := .code yX3_digestOn cX3_digestOn 7 (some .long) :: ((wsX3_digestOn_r1 ++ wsX3_digestOn_r2) ++ wsX30 ++ wsX00 ++ wsX20 ++ wsX10)
def wsX3_digest_r1 : List Cond := [Cond.constantLong RX3 174 (769), Cond.constantLong RX3 176 (31), Cond.fieldLink RX3 12 "DrumTalk" "land" "LDrumTalk$Land;", Cond.fieldLink RX3 79 "DrumTalk$Land" "phraseCount" "I", Cond.fieldLink RX3 178 "DrumTalk$Land" "tones" "[I", Cond.fieldLink RX3 33 "DrumTalk$Land" "villageCount" "I", Cond.fieldLink RX3 152 "DrumTalk$Land" "villages" "[LDrumTalk$Village;", Cond.methodLink RX3 135 yX0_figure, Cond.instanceMethod yX0_figure, Cond.selects RX0 yX0_figure yX0_figure, Cond.initialized RX0, Cond.code yX0_figure cX0_figure 2 (some .int), Cond.fieldLink RX0 42 "DrumTalk$Land" "beat" "I", Cond.fieldLink RX0 25 "DrumTalk$Land" "villageCount" "I", Cond.fieldLink RX0 39 "DrumTalk$Land" "phraseCount" "I", Cond.fieldLink RX0 45 "DrumTalk$Land" "drummings" "I", Cond.methodLink RX0 57 yX0_drummers, Cond.instanceMethod yX0_drummers, Cond.selects RX0 yX0_drummers yX0_drummers, Cond.code yX0_drummers cX0_drummers 3 (some .int), Cond.fieldLink RX0 11 "DrumTalk$Land" "villages" "[LDrumTalk$Village;", Cond.methodLink RX0 70 yX2_isDrumming, Cond.instanceMethod yX2_isDrumming, Cond.selects RX2 yX2_isDrumming yX2_isDrumming]
def wsX3_digest_r2 : List Cond := [Cond.initialized RX2, Cond.code yX2_isDrumming cX2_isDrumming 1 (some .boolean), Cond.fieldLink RX2 18 "DrumTalk$Village" "drumming" "I", Cond.methodLink RX0 61 yX0_soundsInTheAir, Cond.instanceMethod yX0_soundsInTheAir, Cond.selects RX0 yX0_soundsInTheAir yX0_soundsInTheAir, Cond.code yX0_soundsInTheAir cX0_soundsInTheAir 3 (some .int), Cond.fieldLink RX0 74 "DrumTalk$Village" "inTheAir" "LDrumTalk$Sounds;", Cond.fieldLink RX0 78 "DrumTalk$Sounds" "size" "I", Cond.methodLink RX0 64 yX0_soundsDrowned, Cond.instanceMethod yX0_soundsDrowned, Cond.selects RX0 yX0_soundsDrowned yX0_soundsDrowned, Cond.code yX0_soundsDrowned cX0_soundsDrowned 3 (some .int), Cond.fieldLink RX0 83 "DrumTalk$Village" "drowned" "I", Cond.methodLink RX0 67 yX0_knownPairs, Cond.instanceMethod yX0_knownPairs, Cond.selects RX0 yX0_knownPairs yX0_knownPairs, Cond.code yX0_knownPairs cX0_knownPairs 3 (some .int), Cond.methodLink RX0 86 yX2_phrasesKnown, Cond.instanceMethod yX2_phrasesKnown, Cond.selects RX2 yX2_phrasesKnown yX2_phrasesKnown, Cond.code yX2_phrasesKnown cX2_phrasesKnown 3 (some .int), Cond.methodLink RX2 95 yX2_isKnown, Cond.instanceMethod yX2_isKnown]
def wsX3_digest_r3 : List Cond := [Cond.selects RX2 yX2_isKnown yX2_isKnown, Cond.code yX2_isKnown cX2_isKnown 2 (some .boolean), Cond.fieldLink RX2 25 "DrumTalk$Village" "knownSince" "[I", Cond.methodLink RX3 181 yX3_digestOn, Cond.instanceMethod yX3_digestOn, Cond.selects RX3 yX3_digestOn yX3_digestOn, Cond.initialized RX3, Cond.code yX3_digestOn cX3_digestOn 7 (some .long), Cond.fieldLink RX3 100 "DrumTalk$Land" "beat" "I", Cond.fieldLink RX3 124 "DrumTalk$Village" "inTheAir" "LDrumTalk$Sounds;", Cond.fieldLink RX3 95 "DrumTalk$Village" "queued" "I", Cond.fieldLink RX3 117 "DrumTalk$Village" "queue" "[I", Cond.fieldLink RX3 121 "DrumTalk$Village" "knownSince" "[I", Cond.methodLink RX3 112 yX2_figure, Cond.instanceMethod yX2_figure, Cond.selects RX2 yX2_figure yX2_figure, Cond.code yX2_figure cX2_figure 3 (some .int), Cond.fieldLink RX2 41 "DrumTalk$Village" "x" "I", Cond.fieldLink RX2 44 "DrumTalk$Village" "y" "I", Cond.fieldLink RX2 9 "DrumTalk$Village" "drum" "I", Cond.fieldLink RX2 47 "DrumTalk$Village" "cliff" "Z", Cond.fieldLink RX2 54 "DrumTalk$Village" "beatsLeft" "I", Cond.fieldLink RX2 63 "DrumTalk$Village" "queued" "I", Cond.fieldLink RX2 70 "DrumTalk$Village" "drowned" "I"]
def wsX3_digest_r4 : List Cond := [Cond.methodLink RX2 73 yX2_isAwake, Cond.instanceMethod yX2_isAwake, Cond.selects RX2 yX2_isAwake yX2_isAwake, Cond.code yX2_isAwake cX2_isAwake 2 (some .boolean), Cond.fieldLink RX2 51 "DrumTalk$Village" "awakeFrom" "I", Cond.fieldLink RX2 15 "DrumTalk$Village" "awakeBeats" "I", Cond.methodLink RX2 81 yJ9_floorMod_7cf53, Cond.static yJ9_floorMod_7cf53, Cond.initialized RJ9, Cond.code yJ9_floorMod_7cf53 cJ9_floorMod_7cf53 3 (some .int), Cond.methodLink RX2 77 yX2_phrasesKnown, Cond.methodLink RX3 128 yX1_lasting, Cond.instanceMethod yX1_lasting, Cond.selects RX1 yX1_lasting yX1_lasting, Cond.initialized RX1, Cond.code yX1_lasting cX1_lasting 4 (some .int), Cond.fieldLink RX1 24 "DrumTalk$Sounds" "size" "I", Cond.fieldLink RX1 15 "DrumTalk$Sounds" "firstBeats" "[I"]
def wsX3_digest : List Cond := .code yX3_digest cX3_digest 4 (some .long) :: ((wsX3_digest_r1 ++ (wsX3_digest_r2 ++ (wsX3_digest_r3 ++ wsX3_digest_r4))) ++ wsX30 ++ wsX00 ++ wsX20 ++ wsX10)
def wsX4_init : List Cond := .code yX4_init cX4_init 2 none :: ([.fieldLink RX4 3 "DrumTalkModel$State" "this$0" "LDrumTalkModel;", .methodLink RX4 9 objectInit, .instanceMethod objectInit, .code objectInit ⟨#[0xb1]⟩ 1 none, .arrayClass .int, .fieldLink RX4 15 "DrumTalkModel$State" "drum" "[I", .fieldLink RX4 19 "DrumTalkModel$State" "drums" "[I", .fieldLink RX4 22 "DrumTalkModel$State" "left" "[I", .fieldLink RX4 25 "DrumTalkModel$State" "queued" "[I", .fieldLink RX4 28 "DrumTalkModel$State" "queue" "[I", .fieldLink RX4 31 "DrumTalkModel$State" "known" "[I", .fieldLink RX4 34 "DrumTalkModel$State" "drowned" "[I", .fieldLink RX4 37 "DrumTalkModel$State" "where" "[I", .fieldLink RX4 40 "DrumTalkModel$State" "what" "[I", .fieldLink RX4 43 "DrumTalkModel$State" "first" "[I", .fieldLink RX4 46 "DrumTalkModel$State" "last" "[I", .fieldLink RX4 49 "DrumTalkModel$State" "lost" "[I"] ++ wsX40)
def wsX4_copy : List Cond := .code yX4_copy cX4_copy 4 none :: ([.methodLink RX4 52 arraycopyName, .native arraycopyName, .static arraycopyName, .initialized "java/lang/System"])
def wsX4_become : List Cond := .code yX4_become cX4_become 2 none :: ([.fieldLink RX4 58 "DrumTalkModel$State" "beat" "I", .fieldLink RX4 62 "DrumTalkModel$State" "begun" "I", .fieldLink RX4 65 "DrumTalkModel$State" "sounds" "I", .fieldLink RX4 15 "DrumTalkModel$State" "drum" "[I", .fieldLink RX4 19 "DrumTalkModel$State" "drums" "[I", .fieldLink RX4 22 "DrumTalkModel$State" "left" "[I", .fieldLink RX4 25 "DrumTalkModel$State" "queued" "[I", .fieldLink RX4 28 "DrumTalkModel$State" "queue" "[I", .fieldLink RX4 31 "DrumTalkModel$State" "known" "[I", .fieldLink RX4 34 "DrumTalkModel$State" "drowned" "[I", .fieldLink RX4 37 "DrumTalkModel$State" "where" "[I", .fieldLink RX4 40 "DrumTalkModel$State" "what" "[I", .fieldLink RX4 43 "DrumTalkModel$State" "first" "[I", .fieldLink RX4 46 "DrumTalkModel$State" "last" "[I", .fieldLink RX4 49 "DrumTalkModel$State" "lost" "[I", .methodLink RX4 68 yX4_copy, .instanceMethod yX4_copy, .selects RX4 yX4_copy yX4_copy, .initialized RX4, .code yX4_copy cX4_copy 4 none, .methodLink RX4 52 arraycopyName, .native arraycopyName, .static arraycopyName, .initialized "java/lang/System"] ++ wsX40)
def wsX4_isAwake : List Cond := .code yX4_isAwake cX4_isAwake 2 (some .boolean) :: ([.fieldLink RX4 58 "DrumTalkModel$State" "beat" "I", .fieldLink RX4 3 "DrumTalkModel$State" "this$0" "LDrumTalkModel;"] ++ wsX40 ++ wsX50)
def wsX5_far : List Cond := .code yX5_far cX5_far 3 (some .int) :: ([.fieldLink RX5 9 "DrumTalkModel" "x" "[I", .methodLink RX5 60 Lib.Math.abs.name, .static Lib.Math.abs.name, .initialized "java/lang/Math", .code Lib.Math.abs.name Lib.Math.abs.code 1 (some .int), .fieldLink RX5 13 "DrumTalkModel" "y" "[I"] ++ wsX50)
def wsX4_hears : List Cond := .code yX4_hears cX4_hears 3 (some .boolean) :: ([.fieldLink RX4 3 "DrumTalkModel$State" "this$0" "LDrumTalkModel;", .fieldLink RX4 15 "DrumTalkModel$State" "drum" "[I", .instanceMethod yX5_far, .initialized RX5, .selects RX5 yX5_far yX5_far, .code yX5_far cX5_far 3 (some .int), .fieldLink RX5 9 "DrumTalkModel" "x" "[I", .methodLink RX5 60 Lib.Math.abs.name, .static Lib.Math.abs.name, .initialized "java/lang/Math", .code Lib.Math.abs.name Lib.Math.abs.code 1 (some .int), .fieldLink RX5 13 "DrumTalkModel" "y" "[I"] ++ wsX40 ++ wsX50)
def wsX4_sound : List Cond := .code yX4_sound cX4_sound 4 none :: ([.fieldLink RX4 37 "DrumTalkModel$State" "where" "[I", .fieldLink RX4 65 "DrumTalkModel$State" "sounds" "I", .fieldLink RX4 40 "DrumTalkModel$State" "what" "[I", .fieldLink RX4 43 "DrumTalkModel$State" "first" "[I", .fieldLink RX4 46 "DrumTalkModel$State" "last" "[I", .fieldLink RX4 3 "DrumTalkModel$State" "this$0" "LDrumTalkModel;", .fieldLink RX4 49 "DrumTalkModel$State" "lost" "[I"] ++ wsX40 ++ wsX50)
def wsX4_begin_r1 : List Cond := [Cond.fieldLink RX4 19 "DrumTalkModel$State" "drums" "[I", Cond.fieldLink RX4 25 "DrumTalkModel$State" "queued" "[I", Cond.fieldLink RX4 28 "DrumTalkModel$State" "queue" "[I", Cond.methodLink RX4 52 arraycopyName, Cond.native arraycopyName, Cond.static arraycopyName, Cond.initialized "java/lang/System", Cond.fieldLink RX4 22 "DrumTalkModel$State" "left" "[I", Cond.fieldLink RX4 3 "DrumTalkModel$State" "this$0" "LDrumTalkModel;", Cond.fieldLink RX4 62 "DrumTalkModel$State" "begun" "I", Cond.fieldLink RX4 58 "DrumTalkModel$State" "beat" "I", Cond.methodLink RX4 85 yX4_isAwake, Cond.instanceMethod yX4_isAwake, Cond.selects RX4 yX4_isAwake yX4_isAwake, Cond.initialized RX4, Cond.code yX4_isAwake cX4_isAwake 2 (some .boolean), Cond.methodLink RX4 92 yX4_hears, Cond.instanceMethod yX4_hears, Cond.selects RX4 yX4_hears yX4_hears, Cond.code yX4_hears cX4_hears 3 (some .boolean), Cond.fieldLink RX4 15 "DrumTalkModel$State" "drum" "[I", Cond.instanceMethod yX5_far, Cond.initialized RX5, Cond.selects RX5 yX5_far yX5_far]
def wsX4_begin_r2 : List Cond := [Cond.code yX5_far cX5_far 3 (some .int), Cond.fieldLink RX5 9 "DrumTalkModel" "x" "[I", Cond.methodLink RX5 60 Lib.Math.abs.name, Cond.static Lib.Math.abs.name, Cond.initialized "java/lang/Math", Cond.code Lib.Math.abs.name Lib.Math.abs.code 1 (some .int), Cond.fieldLink RX5 13 "DrumTalkModel" "y" "[I", Cond.methodLink RX4 96 yX4_sound, Cond.instanceMethod yX4_sound, Cond.selects RX4 yX4_sound yX4_sound, Cond.code yX4_sound cX4_sound 4 none, Cond.fieldLink RX4 37 "DrumTalkModel$State" "where" "[I", Cond.fieldLink RX4 65 "DrumTalkModel$State" "sounds" "I", Cond.fieldLink RX4 40 "DrumTalkModel$State" "what" "[I", Cond.fieldLink RX4 43 "DrumTalkModel$State" "first" "[I", Cond.fieldLink RX4 46 "DrumTalkModel$State" "last" "[I", Cond.fieldLink RX4 49 "DrumTalkModel$State" "lost" "[I"]
def wsX4_begin : List Cond := .code yX4_begin cX4_begin 5 none :: ((wsX4_begin_r1 ++ wsX4_begin_r2) ++ wsX40 ++ wsX50)
def wsX4_lasting : List Cond := .code yX4_lasting cX4_lasting 4 (some .int) :: ([.fieldLink RX4 65 "DrumTalkModel$State" "sounds" "I", .fieldLink RX4 37 "DrumTalkModel$State" "where" "[I", .fieldLink RX4 43 "DrumTalkModel$State" "first" "[I", .fieldLink RX4 58 "DrumTalkModel$State" "beat" "I", .fieldLink RX4 46 "DrumTalkModel$State" "last" "[I"] ++ wsX40)
def wsX4_learns : List Cond := .code yX4_learns cX4_learns 3 (some .boolean) :: ([.fieldLink RX4 31 "DrumTalkModel$State" "known" "[I", .fieldLink RX4 58 "DrumTalkModel$State" "beat" "I"] ++ wsX40)
def wsX4_put : List Cond := .code yX4_put cX4_put 3 none :: ([.fieldLink RX4 28 "DrumTalkModel$State" "queue" "[I", .fieldLink RX4 25 "DrumTalkModel$State" "queued" "[I"] ++ wsX40)
def wsX4_pass_r1 : List Cond := [Cond.fieldLink RX4 3 "DrumTalkModel$State" "this$0" "LDrumTalkModel;", Cond.fieldLink RX4 19 "DrumTalkModel$State" "drums" "[I", Cond.fieldLink RX4 65 "DrumTalkModel$State" "sounds" "I", Cond.fieldLink RX4 37 "DrumTalkModel$State" "where" "[I", Cond.fieldLink RX4 43 "DrumTalkModel$State" "first" "[I", Cond.fieldLink RX4 58 "DrumTalkModel$State" "beat" "I", Cond.fieldLink RX4 49 "DrumTalkModel$State" "lost" "[I", Cond.fieldLink RX4 46 "DrumTalkModel$State" "last" "[I", Cond.fieldLink RX4 40 "DrumTalkModel$State" "what" "[I", Cond.fieldLink RX4 34 "DrumTalkModel$State" "drowned" "[I", Cond.fieldLink RX4 25 "DrumTalkModel$State" "queued" "[I", Cond.fieldLink RX4 22 "DrumTalkModel$State" "left" "[I", Cond.methodLink RX4 118 Lib.Math.max.name, Cond.static Lib.Math.max.name, Cond.initialized "java/lang/Math", Cond.code Lib.Math.max.name Lib.Math.max.code 2 (some .int), Cond.methodLink RX4 103 yX4_begin, Cond.instanceMethod yX4_begin, Cond.selects RX4 yX4_begin yX4_begin, Cond.initialized RX4, Cond.code yX4_begin cX4_begin 5 none, Cond.fieldLink RX4 28 "DrumTalkModel$State" "queue" "[I", Cond.methodLink RX4 52 arraycopyName, Cond.native arraycopyName]
def wsX4_pass_r2 : List Cond := [Cond.static arraycopyName, Cond.initialized "java/lang/System", Cond.fieldLink RX4 62 "DrumTalkModel$State" "begun" "I", Cond.methodLink RX4 85 yX4_isAwake, Cond.instanceMethod yX4_isAwake, Cond.selects RX4 yX4_isAwake yX4_isAwake, Cond.code yX4_isAwake cX4_isAwake 2 (some .boolean), Cond.methodLink RX4 92 yX4_hears, Cond.instanceMethod yX4_hears, Cond.selects RX4 yX4_hears yX4_hears, Cond.code yX4_hears cX4_hears 3 (some .boolean), Cond.fieldLink RX4 15 "DrumTalkModel$State" "drum" "[I", Cond.instanceMethod yX5_far, Cond.initialized RX5, Cond.selects RX5 yX5_far yX5_far, Cond.code yX5_far cX5_far 3 (some .int), Cond.fieldLink RX5 9 "DrumTalkModel" "x" "[I", Cond.methodLink RX5 60 Lib.Math.abs.name, Cond.static Lib.Math.abs.name, Cond.code Lib.Math.abs.name Lib.Math.abs.code 1 (some .int), Cond.fieldLink RX5 13 "DrumTalkModel" "y" "[I", Cond.methodLink RX4 96 yX4_sound, Cond.instanceMethod yX4_sound, Cond.selects RX4 yX4_sound yX4_sound]
def wsX4_pass_r3 : List Cond := [Cond.code yX4_sound cX4_sound 4 none, Cond.methodLink RX4 107 yX4_lasting, Cond.instanceMethod yX4_lasting, Cond.selects RX4 yX4_lasting yX4_lasting, Cond.code yX4_lasting cX4_lasting 4 (some .int), Cond.methodLink RX4 111 yX4_learns, Cond.instanceMethod yX4_learns, Cond.selects RX4 yX4_learns yX4_learns, Cond.code yX4_learns cX4_learns 3 (some .boolean), Cond.fieldLink RX4 31 "DrumTalkModel$State" "known" "[I", Cond.methodLink RX4 114 yX4_put, Cond.instanceMethod yX4_put, Cond.selects RX4 yX4_put yX4_put, Cond.code yX4_put cX4_put 3 none]
def wsX4_pass : List Cond := .code yX4_pass cX4_pass 4 (some .int) :: ((wsX4_pass_r1 ++ (wsX4_pass_r2 ++ wsX4_pass_r3)) ++ wsX40 ++ wsX50)
def wsX4_knowing : List Cond := .code yX4_knowing cX4_knowing 4 (some .int) :: ([.fieldLink RX4 3 "DrumTalkModel$State" "this$0" "LDrumTalkModel;", .fieldLink RX4 31 "DrumTalkModel$State" "known" "[I"] ++ wsX40 ++ wsX50)
def wsX4_pairs : List Cond := .code yX4_pairs cX4_pairs 3 (some .int) :: ([.fieldLink RX4 3 "DrumTalkModel$State" "this$0" "LDrumTalkModel;", .methodLink RX4 126 yX4_knowing, .instanceMethod yX4_knowing, .selects RX4 yX4_knowing yX4_knowing, .initialized RX4, .code yX4_knowing cX4_knowing 4 (some .int), .fieldLink RX4 31 "DrumTalkModel$State" "known" "[I"] ++ wsX40 ++ wsX50)
def wsX5_init_r1 : List Cond := [Cond.methodLink RX5 1 objectInit, Cond.instanceMethod objectInit, Cond.code objectInit ⟨#[0xb1]⟩ 1 none, Cond.arrayClass .int, Cond.fieldLink RX5 9 "DrumTalkModel" "x" "[I", Cond.fieldLink RX5 13 "DrumTalkModel" "y" "[I", Cond.fieldLink RX5 16 "DrumTalkModel" "cliff" "[I", Cond.fieldLink RX5 19 "DrumTalkModel" "from" "[I", Cond.fieldLink RX5 22 "DrumTalkModel" "beats" "[I", Cond.fieldLink RX5 25 "DrumTalkModel" "tones" "[I", Cond.fieldLink RX5 28 "DrumTalkModel" "length" "[I", Cond.classLink RX5 31 RX4, Cond.instantiable RX4 16, Cond.initialized RX4, Cond.fieldLink RX5 36 "DrumTalkModel" "s" "LDrumTalkModel$State;", Cond.fieldLink RX5 40 "DrumTalkModel" "ahead" "LDrumTalkModel$State;", Cond.instanceMethod yX4_init, Cond.code yX4_init cX4_init 2 none, Cond.fieldLink RX4 3 "DrumTalkModel$State" "this$0" "LDrumTalkModel;", Cond.methodLink RX4 9 objectInit, Cond.fieldLink RX4 15 "DrumTalkModel$State" "drum" "[I", Cond.fieldLink RX4 19 "DrumTalkModel$State" "drums" "[I", Cond.fieldLink RX4 22 "DrumTalkModel$State" "left" "[I", Cond.fieldLink RX4 25 "DrumTalkModel$State" "queued" "[I"]
def wsX5_init_r2 : List Cond := [Cond.fieldLink RX4 28 "DrumTalkModel$State" "queue" "[I", Cond.fieldLink RX4 31 "DrumTalkModel$State" "known" "[I", Cond.fieldLink RX4 34 "DrumTalkModel$State" "drowned" "[I", Cond.fieldLink RX4 37 "DrumTalkModel$State" "where" "[I", Cond.fieldLink RX4 40 "DrumTalkModel$State" "what" "[I", Cond.fieldLink RX4 43 "DrumTalkModel$State" "first" "[I", Cond.fieldLink RX4 46 "DrumTalkModel$State" "last" "[I", Cond.fieldLink RX4 49 "DrumTalkModel$State" "lost" "[I"]
def wsX5_init : List Cond := .code yX5_init cX5_init 2 none :: ((wsX5_init_r1 ++ wsX5_init_r2) ++ wsX50 ++ wsX40)
def wsX5_thrown : List Cond := .code yX5_thrown cX5_thrown 1 (some .int) :: ([.fieldLink RX5 46 "DrumTalkModel" "thrown" "I"] ++ wsX50)
def wsX5_no : List Cond := .code yX5_no cX5_no 2 (some .int) :: ([.fieldLink RX5 46 "DrumTalkModel" "thrown" "I"] ++ wsX50)
def wsX5_isIn : List Cond := .code yX5_isIn cX5_isIn 3 (some .boolean) :: ([])
def wsX5_isVillage : List Cond := .code yX5_isVillage cX5_isVillage 2 (some .boolean) :: ([.fieldLink RX5 50 "DrumTalkModel" "villages" "I", .methodLink RX5 53 yX5_isIn, .static yX5_isIn, .initialized RX5, .code yX5_isIn cX5_isIn 3 (some .boolean)] ++ wsX50)
def wsX5_isPhrase : List Cond := .code yX5_isPhrase cX5_isPhrase 2 (some .boolean) :: ([.fieldLink RX5 57 "DrumTalkModel" "phrases" "I", .methodLink RX5 53 yX5_isIn, .static yX5_isIn, .initialized RX5, .code yX5_isIn cX5_isIn 3 (some .boolean)] ++ wsX50)
def wsX5_found : List Cond := .code yX5_found cX5_found 6 (some .int) :: ([.fieldLink RX5 46 "DrumTalkModel" "thrown" "I", .fieldLink RX5 50 "DrumTalkModel" "villages" "I", .fieldLink RX5 9 "DrumTalkModel" "x" "[I", .fieldLink RX5 13 "DrumTalkModel" "y" "[I", .fieldLink RX5 22 "DrumTalkModel" "beats" "[I", .fieldLink RX5 36 "DrumTalkModel" "s" "LDrumTalkModel$State;", .methodLink RX5 53 yX5_isIn, .static yX5_isIn, .initialized RX5, .code yX5_isIn cX5_isIn 3 (some .boolean), .methodLink RX5 66 yX5_no, .instanceMethod yX5_no, .selects RX5 yX5_no yX5_no, .code yX5_no cX5_no 2 (some .int)] ++ wsX50 ++ wsX40)
def wsX5_setDrum : List Cond := .code yX5_setDrum cX5_setDrum 4 (some .int) :: ([.fieldLink RX5 46 "DrumTalkModel" "thrown" "I", .fieldLink RX5 36 "DrumTalkModel" "s" "LDrumTalkModel$State;", .methodLink RX5 75 yX5_isVillage, .instanceMethod yX5_isVillage, .selects RX5 yX5_isVillage yX5_isVillage, .initialized RX5, .code yX5_isVillage cX5_isVillage 2 (some .boolean), .fieldLink RX5 50 "DrumTalkModel" "villages" "I", .methodLink RX5 53 yX5_isIn, .static yX5_isIn, .code yX5_isIn cX5_isIn 3 (some .boolean), .methodLink RX5 66 yX5_no, .instanceMethod yX5_no, .selects RX5 yX5_no yX5_no, .code yX5_no cX5_no 2 (some .int)] ++ wsX50 ++ wsX40)
def wsX5_setCliff : List Cond := .code yX5_setCliff cX5_setCliff 4 (some .boolean) :: ([.fieldLink RX5 46 "DrumTalkModel" "thrown" "I", .fieldLink RX5 16 "DrumTalkModel" "cliff" "[I", .methodLink RX5 75 yX5_isVillage, .instanceMethod yX5_isVillage, .selects RX5 yX5_isVillage yX5_isVillage, .initialized RX5, .code yX5_isVillage cX5_isVillage 2 (some .boolean), .fieldLink RX5 50 "DrumTalkModel" "villages" "I", .methodLink RX5 53 yX5_isIn, .static yX5_isIn, .code yX5_isIn cX5_isIn 3 (some .boolean), .methodLink RX5 66 yX5_no, .instanceMethod yX5_no, .selects RX5 yX5_no yX5_no, .code yX5_no cX5_no 2 (some .int)] ++ wsX50)
def wsX5_setAwake : List Cond := .code yX5_setAwake cX5_setAwake 5 (some .int) :: ([.fieldLink RX5 46 "DrumTalkModel" "thrown" "I", .fieldLink RX5 22 "DrumTalkModel" "beats" "[I", .fieldLink RX5 19 "DrumTalkModel" "from" "[I", .methodLink RX5 75 yX5_isVillage, .instanceMethod yX5_isVillage, .selects RX5 yX5_isVillage yX5_isVillage, .initialized RX5, .code yX5_isVillage cX5_isVillage 2 (some .boolean), .fieldLink RX5 50 "DrumTalkModel" "villages" "I", .methodLink RX5 53 yX5_isIn, .static yX5_isIn, .code yX5_isIn cX5_isIn 3 (some .boolean), .methodLink RX5 66 yX5_no, .instanceMethod yX5_no, .selects RX5 yX5_no yX5_no, .code yX5_no cX5_no 2 (some .int)] ++ wsX50)
def wsX5_phrase : List Cond := .code yX5_phrase cX5_phrase 6 (some .int) :: ([.fieldLink RX5 46 "DrumTalkModel" "thrown" "I", .fieldLink RX5 57 "DrumTalkModel" "phrases" "I", .fieldLink RX5 25 "DrumTalkModel" "tones" "[I", .fieldLink RX5 28 "DrumTalkModel" "length" "[I", .methodLink RX5 53 yX5_isIn, .static yX5_isIn, .initialized RX5, .code yX5_isIn cX5_isIn 3 (some .boolean), .methodLink RX5 66 yX5_no, .instanceMethod yX5_no, .selects RX5 yX5_no yX5_no, .code yX5_no cX5_no 2 (some .int)] ++ wsX50)
def wsX5_tell_r1 : List Cond := [Cond.fieldLink RX5 46 "DrumTalkModel" "thrown" "I", Cond.fieldLink RX5 36 "DrumTalkModel" "s" "LDrumTalkModel$State;", Cond.methodLink RX5 75 yX5_isVillage, Cond.instanceMethod yX5_isVillage, Cond.selects RX5 yX5_isVillage yX5_isVillage, Cond.initialized RX5, Cond.code yX5_isVillage cX5_isVillage 2 (some .boolean), Cond.fieldLink RX5 50 "DrumTalkModel" "villages" "I", Cond.methodLink RX5 53 yX5_isIn, Cond.static yX5_isIn, Cond.code yX5_isIn cX5_isIn 3 (some .boolean), Cond.methodLink RX5 79 yX5_isPhrase, Cond.instanceMethod yX5_isPhrase, Cond.selects RX5 yX5_isPhrase yX5_isPhrase, Cond.code yX5_isPhrase cX5_isPhrase 2 (some .boolean), Cond.fieldLink RX5 57 "DrumTalkModel" "phrases" "I", Cond.methodLink RX5 66 yX5_no, Cond.instanceMethod yX5_no, Cond.selects RX5 yX5_no yX5_no, Cond.code yX5_no cX5_no 2 (some .int), Cond.methodLink RX5 85 yX4_learns, Cond.instanceMethod yX4_learns, Cond.selects RX4 yX4_learns yX4_learns, Cond.initialized RX4]
def wsX5_tell_r2 : List Cond := [Cond.code yX4_learns cX4_learns 3 (some .boolean), Cond.fieldLink RX4 31 "DrumTalkModel$State" "known" "[I", Cond.fieldLink RX4 58 "DrumTalkModel$State" "beat" "I", Cond.methodLink RX5 89 yX4_put, Cond.instanceMethod yX4_put, Cond.selects RX4 yX4_put yX4_put, Cond.code yX4_put cX4_put 3 none, Cond.fieldLink RX4 28 "DrumTalkModel$State" "queue" "[I", Cond.fieldLink RX4 25 "DrumTalkModel$State" "queued" "[I"]
def wsX5_tell : List Cond := .code yX5_tell cX5_tell 3 (some .int) :: ((wsX5_tell_r1 ++ wsX5_tell_r2) ++ wsX50 ++ wsX40)
def wsX5_villageTold : List Cond := .code yX5_villageTold cX5_villageTold 5 (some .int) :: ([.fieldLink RX5 57 "DrumTalkModel" "phrases" "I", .fieldLink RX5 36 "DrumTalkModel" "s" "LDrumTalkModel$State;", .arrayClass .int, .fieldLink RX5 9 "DrumTalkModel" "x" "[I", .fieldLink RX5 13 "DrumTalkModel" "y" "[I", .fieldLink RX5 16 "DrumTalkModel" "cliff" "[I", .methodLink RX5 93 yX4_isAwake, .instanceMethod yX4_isAwake, .selects RX4 yX4_isAwake yX4_isAwake, .initialized RX4, .code yX4_isAwake cX4_isAwake 2 (some .boolean), .fieldLink RX4 58 "DrumTalkModel$State" "beat" "I", .fieldLink RX4 3 "DrumTalkModel$State" "this$0" "LDrumTalkModel;"] ++ wsX50 ++ wsX40)
def wsX5_village_r1 : List Cond := [Cond.fieldLink RX5 46 "DrumTalkModel" "thrown" "I", Cond.methodLink RX5 75 yX5_isVillage, Cond.instanceMethod yX5_isVillage, Cond.selects RX5 yX5_isVillage yX5_isVillage, Cond.initialized RX5, Cond.code yX5_isVillage cX5_isVillage 2 (some .boolean), Cond.fieldLink RX5 50 "DrumTalkModel" "villages" "I", Cond.methodLink RX5 53 yX5_isIn, Cond.static yX5_isIn, Cond.code yX5_isIn cX5_isIn 3 (some .boolean), Cond.methodLink RX5 102 yX5_villageTold, Cond.instanceMethod yX5_villageTold, Cond.selects RX5 yX5_villageTold yX5_villageTold, Cond.code yX5_villageTold cX5_villageTold 5 (some .int), Cond.fieldLink RX5 57 "DrumTalkModel" "phrases" "I", Cond.fieldLink RX5 36 "DrumTalkModel" "s" "LDrumTalkModel$State;", Cond.arrayClass .int, Cond.fieldLink RX5 9 "DrumTalkModel" "x" "[I", Cond.fieldLink RX5 13 "DrumTalkModel" "y" "[I", Cond.fieldLink RX5 16 "DrumTalkModel" "cliff" "[I", Cond.methodLink RX5 93 yX4_isAwake, Cond.instanceMethod yX4_isAwake, Cond.selects RX4 yX4_isAwake yX4_isAwake, Cond.initialized RX4]
def wsX5_village_r2 : List Cond := [Cond.code yX4_isAwake cX4_isAwake 2 (some .boolean), Cond.fieldLink RX4 58 "DrumTalkModel$State" "beat" "I", Cond.fieldLink RX4 3 "DrumTalkModel$State" "this$0" "LDrumTalkModel;", Cond.methodLink RX5 66 yX5_no, Cond.instanceMethod yX5_no, Cond.selects RX5 yX5_no yX5_no, Cond.code yX5_no cX5_no 2 (some .int)]
def wsX5_village : List Cond := .code yX5_village cX5_village 3 (some .int) :: ((wsX5_village_r1 ++ wsX5_village_r2) ++ wsX50 ++ wsX40)
def wsX5_queue : List Cond := .code yX5_queue cX5_queue 3 (some .int) :: ([.fieldLink RX5 46 "DrumTalkModel" "thrown" "I", .fieldLink RX5 36 "DrumTalkModel" "s" "LDrumTalkModel$State;", .methodLink RX5 75 yX5_isVillage, .instanceMethod yX5_isVillage, .selects RX5 yX5_isVillage yX5_isVillage, .initialized RX5, .code yX5_isVillage cX5_isVillage 2 (some .boolean), .fieldLink RX5 50 "DrumTalkModel" "villages" "I", .methodLink RX5 53 yX5_isIn, .static yX5_isIn, .code yX5_isIn cX5_isIn 3 (some .boolean), .methodLink RX5 66 yX5_no, .instanceMethod yX5_no, .selects RX5 yX5_no yX5_no, .code yX5_no cX5_no 2 (some .int)] ++ wsX50 ++ wsX40)
def wsX5_knows : List Cond := .code yX5_knows cX5_knows 3 (some .int) :: ([.fieldLink RX5 46 "DrumTalkModel" "thrown" "I", .fieldLink RX5 36 "DrumTalkModel" "s" "LDrumTalkModel$State;", .methodLink RX5 75 yX5_isVillage, .instanceMethod yX5_isVillage, .selects RX5 yX5_isVillage yX5_isVillage, .initialized RX5, .code yX5_isVillage cX5_isVillage 2 (some .boolean), .fieldLink RX5 50 "DrumTalkModel" "villages" "I", .methodLink RX5 53 yX5_isIn, .static yX5_isIn, .code yX5_isIn cX5_isIn 3 (some .boolean), .methodLink RX5 79 yX5_isPhrase, .instanceMethod yX5_isPhrase, .selects RX5 yX5_isPhrase yX5_isPhrase, .code yX5_isPhrase cX5_isPhrase 2 (some .boolean), .fieldLink RX5 57 "DrumTalkModel" "phrases" "I", .methodLink RX5 66 yX5_no, .instanceMethod yX5_no, .selects RX5 yX5_no yX5_no, .code yX5_no cX5_no 2 (some .int)] ++ wsX50 ++ wsX40)
def wsX5_sounds_r1 : List Cond := [Cond.fieldLink RX5 46 "DrumTalkModel" "thrown" "I", Cond.fieldLink RX5 36 "DrumTalkModel" "s" "LDrumTalkModel$State;", Cond.methodLink RX5 75 yX5_isVillage, Cond.instanceMethod yX5_isVillage, Cond.selects RX5 yX5_isVillage yX5_isVillage, Cond.initialized RX5, Cond.code yX5_isVillage cX5_isVillage 2 (some .boolean), Cond.fieldLink RX5 50 "DrumTalkModel" "villages" "I", Cond.methodLink RX5 53 yX5_isIn, Cond.static yX5_isIn, Cond.code yX5_isIn cX5_isIn 3 (some .boolean), Cond.methodLink RX5 109 yX4_lasting, Cond.instanceMethod yX4_lasting, Cond.selects RX4 yX4_lasting yX4_lasting, Cond.initialized RX4, Cond.code yX4_lasting cX4_lasting 4 (some .int), Cond.fieldLink RX4 65 "DrumTalkModel$State" "sounds" "I", Cond.fieldLink RX4 37 "DrumTalkModel$State" "where" "[I", Cond.fieldLink RX4 43 "DrumTalkModel$State" "first" "[I", Cond.fieldLink RX4 58 "DrumTalkModel$State" "beat" "I", Cond.fieldLink RX4 46 "DrumTalkModel$State" "last" "[I", Cond.methodLink RX5 66 yX5_no, Cond.instanceMethod yX5_no, Cond.selects RX5 yX5_no yX5_no]
def wsX5_sounds_r2 : List Cond := [Cond.code yX5_no cX5_no 2 (some .int)]
def wsX5_sounds : List Cond := .code yX5_sounds cX5_sounds 2 (some .int) :: ((wsX5_sounds_r1 ++ wsX5_sounds_r2) ++ wsX50 ++ wsX40)
def wsX5_counted : List Cond := .code yX5_counted cX5_counted 5 (some .int) :: ([.fieldLink RX5 50 "DrumTalkModel" "villages" "I", .fieldLink RX5 36 "DrumTalkModel" "s" "LDrumTalkModel$State;", .arrayClass .int, .fieldLink RX5 57 "DrumTalkModel" "phrases" "I", .methodLink RX5 121 yX4_pairs, .instanceMethod yX4_pairs, .selects RX4 yX4_pairs yX4_pairs, .initialized RX4, .code yX4_pairs cX4_pairs 3 (some .int), .fieldLink RX4 3 "DrumTalkModel$State" "this$0" "LDrumTalkModel;", .methodLink RX4 126 yX4_knowing, .instanceMethod yX4_knowing, .selects RX4 yX4_knowing yX4_knowing, .code yX4_knowing cX4_knowing 4 (some .int), .fieldLink RX4 31 "DrumTalkModel$State" "known" "[I"] ++ wsX50 ++ wsX40)
def wsX5_count_r1 : List Cond := [Cond.fieldLink RX5 46 "DrumTalkModel" "thrown" "I", Cond.methodLink RX5 53 yX5_isIn, Cond.static yX5_isIn, Cond.initialized RX5, Cond.code yX5_isIn cX5_isIn 3 (some .boolean), Cond.methodLink RX5 125 yX5_counted, Cond.instanceMethod yX5_counted, Cond.selects RX5 yX5_counted yX5_counted, Cond.code yX5_counted cX5_counted 5 (some .int), Cond.fieldLink RX5 50 "DrumTalkModel" "villages" "I", Cond.fieldLink RX5 36 "DrumTalkModel" "s" "LDrumTalkModel$State;", Cond.arrayClass .int, Cond.fieldLink RX5 57 "DrumTalkModel" "phrases" "I", Cond.methodLink RX5 121 yX4_pairs, Cond.instanceMethod yX4_pairs, Cond.selects RX4 yX4_pairs yX4_pairs, Cond.initialized RX4, Cond.code yX4_pairs cX4_pairs 3 (some .int), Cond.fieldLink RX4 3 "DrumTalkModel$State" "this$0" "LDrumTalkModel;", Cond.methodLink RX4 126 yX4_knowing, Cond.instanceMethod yX4_knowing, Cond.selects RX4 yX4_knowing yX4_knowing, Cond.code yX4_knowing cX4_knowing 4 (some .int), Cond.fieldLink RX4 31 "DrumTalkModel$State" "known" "[I"]
def wsX5_count_r2 : List Cond := [Cond.methodLink RX5 66 yX5_no, Cond.instanceMethod yX5_no, Cond.selects RX5 yX5_no yX5_no, Cond.code yX5_no cX5_no 2 (some .int)]
def wsX5_count : List Cond := .code yX5_count cX5_count 2 (some .int) :: ((wsX5_count_r1 ++ wsX5_count_r2) ++ wsX50 ++ wsX40)
def wsX5_way_r1 : List Cond := [Cond.fieldLink RX5 46 "DrumTalkModel" "thrown" "I", Cond.fieldLink RX5 50 "DrumTalkModel" "villages" "I", Cond.fieldLink RX5 36 "DrumTalkModel" "s" "LDrumTalkModel$State;", Cond.methodLink RX5 75 yX5_isVillage, Cond.instanceMethod yX5_isVillage, Cond.selects RX5 yX5_isVillage yX5_isVillage, Cond.initialized RX5, Cond.code yX5_isVillage cX5_isVillage 2 (some .boolean), Cond.methodLink RX5 53 yX5_isIn, Cond.static yX5_isIn, Cond.code yX5_isIn cX5_isIn 3 (some .boolean), Cond.methodLink RX5 66 yX5_no, Cond.instanceMethod yX5_no, Cond.selects RX5 yX5_no yX5_no, Cond.code yX5_no cX5_no 2 (some .int), Cond.methodLink RX5 128 yX4_hears, Cond.instanceMethod yX4_hears, Cond.selects RX4 yX4_hears yX4_hears, Cond.initialized RX4, Cond.code yX4_hears cX4_hears 3 (some .boolean), Cond.fieldLink RX4 3 "DrumTalkModel$State" "this$0" "LDrumTalkModel;", Cond.fieldLink RX4 15 "DrumTalkModel$State" "drum" "[I", Cond.instanceMethod yX5_far, Cond.selects RX5 yX5_far yX5_far]
def wsX5_way_r2 : List Cond := [Cond.code yX5_far cX5_far 3 (some .int), Cond.fieldLink RX5 9 "DrumTalkModel" "x" "[I", Cond.methodLink RX5 60 Lib.Math.abs.name, Cond.static Lib.Math.abs.name, Cond.initialized "java/lang/Math", Cond.code Lib.Math.abs.name Lib.Math.abs.code 1 (some .int), Cond.fieldLink RX5 13 "DrumTalkModel" "y" "[I"]
def wsX5_way : List Cond := .code yX5_way cX5_way 8 (some .int) :: ((wsX5_way_r1 ++ wsX5_way_r2) ++ wsX50 ++ wsX40)
def wsX5_pass_r1 : List Cond := [Cond.fieldLink RX5 46 "DrumTalkModel" "thrown" "I", Cond.fieldLink RX5 36 "DrumTalkModel" "s" "LDrumTalkModel$State;", Cond.methodLink RX5 53 yX5_isIn, Cond.static yX5_isIn, Cond.initialized RX5, Cond.code yX5_isIn cX5_isIn 3 (some .boolean), Cond.methodLink RX5 66 yX5_no, Cond.instanceMethod yX5_no, Cond.selects RX5 yX5_no yX5_no, Cond.code yX5_no cX5_no 2 (some .int), Cond.methodLink RX5 131 yX4_pass, Cond.instanceMethod yX4_pass, Cond.selects RX4 yX4_pass yX4_pass, Cond.initialized RX4, Cond.code yX4_pass cX4_pass 4 (some .int), Cond.fieldLink RX4 3 "DrumTalkModel$State" "this$0" "LDrumTalkModel;", Cond.fieldLink RX4 19 "DrumTalkModel$State" "drums" "[I", Cond.fieldLink RX4 65 "DrumTalkModel$State" "sounds" "I", Cond.fieldLink RX4 37 "DrumTalkModel$State" "where" "[I", Cond.fieldLink RX4 43 "DrumTalkModel$State" "first" "[I", Cond.fieldLink RX4 58 "DrumTalkModel$State" "beat" "I", Cond.fieldLink RX4 49 "DrumTalkModel$State" "lost" "[I", Cond.fieldLink RX4 46 "DrumTalkModel$State" "last" "[I", Cond.fieldLink RX4 40 "DrumTalkModel$State" "what" "[I"]
def wsX5_pass_r2 : List Cond := [Cond.fieldLink RX4 34 "DrumTalkModel$State" "drowned" "[I", Cond.fieldLink RX4 25 "DrumTalkModel$State" "queued" "[I", Cond.fieldLink RX4 22 "DrumTalkModel$State" "left" "[I", Cond.methodLink RX4 118 Lib.Math.max.name, Cond.static Lib.Math.max.name, Cond.initialized "java/lang/Math", Cond.code Lib.Math.max.name Lib.Math.max.code 2 (some .int), Cond.methodLink RX4 103 yX4_begin, Cond.instanceMethod yX4_begin, Cond.selects RX4 yX4_begin yX4_begin, Cond.code yX4_begin cX4_begin 5 none, Cond.fieldLink RX4 28 "DrumTalkModel$State" "queue" "[I", Cond.methodLink RX4 52 arraycopyName, Cond.native arraycopyName, Cond.static arraycopyName, Cond.initialized "java/lang/System", Cond.fieldLink RX4 62 "DrumTalkModel$State" "begun" "I", Cond.methodLink RX4 85 yX4_isAwake, Cond.instanceMethod yX4_isAwake, Cond.selects RX4 yX4_isAwake yX4_isAwake, Cond.code yX4_isAwake cX4_isAwake 2 (some .boolean), Cond.methodLink RX4 92 yX4_hears, Cond.instanceMethod yX4_hears, Cond.selects RX4 yX4_hears yX4_hears]
def wsX5_pass_r3 : List Cond := [Cond.code yX4_hears cX4_hears 3 (some .boolean), Cond.fieldLink RX4 15 "DrumTalkModel$State" "drum" "[I", Cond.instanceMethod yX5_far, Cond.selects RX5 yX5_far yX5_far, Cond.code yX5_far cX5_far 3 (some .int), Cond.fieldLink RX5 9 "DrumTalkModel" "x" "[I", Cond.methodLink RX5 60 Lib.Math.abs.name, Cond.static Lib.Math.abs.name, Cond.code Lib.Math.abs.name Lib.Math.abs.code 1 (some .int), Cond.fieldLink RX5 13 "DrumTalkModel" "y" "[I", Cond.methodLink RX4 96 yX4_sound, Cond.instanceMethod yX4_sound, Cond.selects RX4 yX4_sound yX4_sound, Cond.code yX4_sound cX4_sound 4 none, Cond.methodLink RX4 107 yX4_lasting, Cond.instanceMethod yX4_lasting, Cond.selects RX4 yX4_lasting yX4_lasting, Cond.code yX4_lasting cX4_lasting 4 (some .int), Cond.methodLink RX4 111 yX4_learns, Cond.instanceMethod yX4_learns, Cond.selects RX4 yX4_learns yX4_learns, Cond.code yX4_learns cX4_learns 3 (some .boolean), Cond.fieldLink RX4 31 "DrumTalkModel$State" "known" "[I", Cond.methodLink RX4 114 yX4_put]
def wsX5_pass_r4 : List Cond := [Cond.instanceMethod yX4_put, Cond.selects RX4 yX4_put yX4_put, Cond.code yX4_put cX4_put 3 none]
def wsX5_pass : List Cond := .code yX5_pass cX5_pass 4 (some .int) :: ((wsX5_pass_r1 ++ (wsX5_pass_r2 ++ (wsX5_pass_r3 ++ wsX5_pass_r4))) ++ wsX50 ++ wsX40)
def wsX5_reaches_r1 : List Cond := [Cond.fieldLink RX5 46 "DrumTalkModel" "thrown" "I", Cond.fieldLink RX5 40 "DrumTalkModel" "ahead" "LDrumTalkModel$State;", Cond.fieldLink RX5 36 "DrumTalkModel" "s" "LDrumTalkModel$State;", Cond.methodLink RX5 75 yX5_isVillage, Cond.instanceMethod yX5_isVillage, Cond.selects RX5 yX5_isVillage yX5_isVillage, Cond.initialized RX5, Cond.code yX5_isVillage cX5_isVillage 2 (some .boolean), Cond.fieldLink RX5 50 "DrumTalkModel" "villages" "I", Cond.methodLink RX5 53 yX5_isIn, Cond.static yX5_isIn, Cond.code yX5_isIn cX5_isIn 3 (some .boolean), Cond.methodLink RX5 79 yX5_isPhrase, Cond.instanceMethod yX5_isPhrase, Cond.selects RX5 yX5_isPhrase yX5_isPhrase, Cond.code yX5_isPhrase cX5_isPhrase 2 (some .boolean), Cond.fieldLink RX5 57 "DrumTalkModel" "phrases" "I", Cond.methodLink RX5 66 yX5_no, Cond.instanceMethod yX5_no, Cond.selects RX5 yX5_no yX5_no, Cond.code yX5_no cX5_no 2 (some .int), Cond.methodLink RX5 134 yX4_become, Cond.instanceMethod yX4_become, Cond.selects RX4 yX4_become yX4_become]
def wsX5_reaches_r2 : List Cond := [Cond.initialized RX4, Cond.code yX4_become cX4_become 2 none, Cond.fieldLink RX4 58 "DrumTalkModel$State" "beat" "I", Cond.fieldLink RX4 62 "DrumTalkModel$State" "begun" "I", Cond.fieldLink RX4 65 "DrumTalkModel$State" "sounds" "I", Cond.fieldLink RX4 15 "DrumTalkModel$State" "drum" "[I", Cond.fieldLink RX4 19 "DrumTalkModel$State" "drums" "[I", Cond.fieldLink RX4 22 "DrumTalkModel$State" "left" "[I", Cond.fieldLink RX4 25 "DrumTalkModel$State" "queued" "[I", Cond.fieldLink RX4 28 "DrumTalkModel$State" "queue" "[I", Cond.fieldLink RX4 31 "DrumTalkModel$State" "known" "[I", Cond.fieldLink RX4 34 "DrumTalkModel$State" "drowned" "[I", Cond.fieldLink RX4 37 "DrumTalkModel$State" "where" "[I", Cond.fieldLink RX4 40 "DrumTalkModel$State" "what" "[I", Cond.fieldLink RX4 43 "DrumTalkModel$State" "first" "[I", Cond.fieldLink RX4 46 "DrumTalkModel$State" "last" "[I", Cond.fieldLink RX4 49 "DrumTalkModel$State" "lost" "[I", Cond.methodLink RX4 68 yX4_copy, Cond.instanceMethod yX4_copy, Cond.selects RX4 yX4_copy yX4_copy, Cond.code yX4_copy cX4_copy 4 none, Cond.methodLink RX4 52 arraycopyName, Cond.native arraycopyName, Cond.static arraycopyName]
def wsX5_reaches_r3 : List Cond := [Cond.initialized "java/lang/System", Cond.methodLink RX5 131 yX4_pass, Cond.instanceMethod yX4_pass, Cond.selects RX4 yX4_pass yX4_pass, Cond.code yX4_pass cX4_pass 4 (some .int), Cond.fieldLink RX4 3 "DrumTalkModel$State" "this$0" "LDrumTalkModel;", Cond.methodLink RX4 118 Lib.Math.max.name, Cond.static Lib.Math.max.name, Cond.initialized "java/lang/Math", Cond.code Lib.Math.max.name Lib.Math.max.code 2 (some .int), Cond.methodLink RX4 103 yX4_begin, Cond.instanceMethod yX4_begin, Cond.selects RX4 yX4_begin yX4_begin, Cond.code yX4_begin cX4_begin 5 none, Cond.methodLink RX4 85 yX4_isAwake, Cond.instanceMethod yX4_isAwake, Cond.selects RX4 yX4_isAwake yX4_isAwake, Cond.code yX4_isAwake cX4_isAwake 2 (some .boolean), Cond.methodLink RX4 92 yX4_hears, Cond.instanceMethod yX4_hears, Cond.selects RX4 yX4_hears yX4_hears, Cond.code yX4_hears cX4_hears 3 (some .boolean), Cond.instanceMethod yX5_far, Cond.selects RX5 yX5_far yX5_far]
def wsX5_reaches_r4 : List Cond := [Cond.code yX5_far cX5_far 3 (some .int), Cond.fieldLink RX5 9 "DrumTalkModel" "x" "[I", Cond.methodLink RX5 60 Lib.Math.abs.name, Cond.static Lib.Math.abs.name, Cond.code Lib.Math.abs.name Lib.Math.abs.code 1 (some .int), Cond.fieldLink RX5 13 "DrumTalkModel" "y" "[I", Cond.methodLink RX4 96 yX4_sound, Cond.instanceMethod yX4_sound, Cond.selects RX4 yX4_sound yX4_sound, Cond.code yX4_sound cX4_sound 4 none, Cond.methodLink RX4 107 yX4_lasting, Cond.instanceMethod yX4_lasting, Cond.selects RX4 yX4_lasting yX4_lasting, Cond.code yX4_lasting cX4_lasting 4 (some .int), Cond.methodLink RX4 111 yX4_learns, Cond.instanceMethod yX4_learns, Cond.selects RX4 yX4_learns yX4_learns, Cond.code yX4_learns cX4_learns 3 (some .boolean), Cond.methodLink RX4 114 yX4_put, Cond.instanceMethod yX4_put, Cond.selects RX4 yX4_put yX4_put, Cond.code yX4_put cX4_put 3 none]
def wsX5_reaches : List Cond := .code yX5_reaches cX5_reaches 4 (some .int) :: ((wsX5_reaches_r1 ++ (wsX5_reaches_r2 ++ (wsX5_reaches_r3 ++ wsX5_reaches_r4))) ++ wsX50 ++ wsX40)
def wsX5_best_r1 : List Cond := [Cond.fieldLink RX5 46 "DrumTalkModel" "thrown" "I", Cond.fieldLink RX5 40 "DrumTalkModel" "ahead" "LDrumTalkModel$State;", Cond.fieldLink RX5 36 "DrumTalkModel" "s" "LDrumTalkModel$State;", Cond.methodLink RX5 141 Lib.Math.max.name, Cond.static Lib.Math.max.name, Cond.initialized "java/lang/Math", Cond.code Lib.Math.max.name Lib.Math.max.code 2 (some .int), Cond.methodLink RX5 75 yX5_isVillage, Cond.instanceMethod yX5_isVillage, Cond.selects RX5 yX5_isVillage yX5_isVillage, Cond.initialized RX5, Cond.code yX5_isVillage cX5_isVillage 2 (some .boolean), Cond.fieldLink RX5 50 "DrumTalkModel" "villages" "I", Cond.methodLink RX5 53 yX5_isIn, Cond.static yX5_isIn, Cond.code yX5_isIn cX5_isIn 3 (some .boolean), Cond.methodLink RX5 79 yX5_isPhrase, Cond.instanceMethod yX5_isPhrase, Cond.selects RX5 yX5_isPhrase yX5_isPhrase, Cond.code yX5_isPhrase cX5_isPhrase 2 (some .boolean), Cond.fieldLink RX5 57 "DrumTalkModel" "phrases" "I", Cond.methodLink RX5 66 yX5_no, Cond.instanceMethod yX5_no, Cond.selects RX5 yX5_no yX5_no]
def wsX5_best_r2 : List Cond := [Cond.code yX5_no cX5_no 2 (some .int), Cond.methodLink RX5 134 yX4_become, Cond.instanceMethod yX4_become, Cond.selects RX4 yX4_become yX4_become, Cond.initialized RX4, Cond.code yX4_become cX4_become 2 none, Cond.fieldLink RX4 58 "DrumTalkModel$State" "beat" "I", Cond.fieldLink RX4 62 "DrumTalkModel$State" "begun" "I", Cond.fieldLink RX4 65 "DrumTalkModel$State" "sounds" "I", Cond.fieldLink RX4 15 "DrumTalkModel$State" "drum" "[I", Cond.fieldLink RX4 19 "DrumTalkModel$State" "drums" "[I", Cond.fieldLink RX4 22 "DrumTalkModel$State" "left" "[I", Cond.fieldLink RX4 25 "DrumTalkModel$State" "queued" "[I", Cond.fieldLink RX4 28 "DrumTalkModel$State" "queue" "[I", Cond.fieldLink RX4 31 "DrumTalkModel$State" "known" "[I", Cond.fieldLink RX4 34 "DrumTalkModel$State" "drowned" "[I", Cond.fieldLink RX4 37 "DrumTalkModel$State" "where" "[I", Cond.fieldLink RX4 40 "DrumTalkModel$State" "what" "[I", Cond.fieldLink RX4 43 "DrumTalkModel$State" "first" "[I", Cond.fieldLink RX4 46 "DrumTalkModel$State" "last" "[I", Cond.fieldLink RX4 49 "DrumTalkModel$State" "lost" "[I", Cond.methodLink RX4 68 yX4_copy, Cond.instanceMethod yX4_copy, Cond.selects RX4 yX4_copy yX4_copy]
def wsX5_best_r3 : List Cond := [Cond.code yX4_copy cX4_copy 4 none, Cond.methodLink RX4 52 arraycopyName, Cond.native arraycopyName, Cond.static arraycopyName, Cond.initialized "java/lang/System", Cond.methodLink RX5 85 yX4_learns, Cond.instanceMethod yX4_learns, Cond.selects RX4 yX4_learns yX4_learns, Cond.code yX4_learns cX4_learns 3 (some .boolean), Cond.methodLink RX5 89 yX4_put, Cond.instanceMethod yX4_put, Cond.selects RX4 yX4_put yX4_put, Cond.code yX4_put cX4_put 3 none, Cond.methodLink RX5 131 yX4_pass, Cond.instanceMethod yX4_pass, Cond.selects RX4 yX4_pass yX4_pass, Cond.code yX4_pass cX4_pass 4 (some .int), Cond.fieldLink RX4 3 "DrumTalkModel$State" "this$0" "LDrumTalkModel;", Cond.methodLink RX4 118 Lib.Math.max.name, Cond.methodLink RX4 103 yX4_begin, Cond.instanceMethod yX4_begin, Cond.selects RX4 yX4_begin yX4_begin, Cond.code yX4_begin cX4_begin 5 none, Cond.methodLink RX4 85 yX4_isAwake]
def wsX5_best_r4 : List Cond := [Cond.instanceMethod yX4_isAwake, Cond.selects RX4 yX4_isAwake yX4_isAwake, Cond.code yX4_isAwake cX4_isAwake 2 (some .boolean), Cond.methodLink RX4 92 yX4_hears, Cond.instanceMethod yX4_hears, Cond.selects RX4 yX4_hears yX4_hears, Cond.code yX4_hears cX4_hears 3 (some .boolean), Cond.instanceMethod yX5_far, Cond.selects RX5 yX5_far yX5_far, Cond.code yX5_far cX5_far 3 (some .int), Cond.fieldLink RX5 9 "DrumTalkModel" "x" "[I", Cond.methodLink RX5 60 Lib.Math.abs.name, Cond.static Lib.Math.abs.name, Cond.code Lib.Math.abs.name Lib.Math.abs.code 1 (some .int), Cond.fieldLink RX5 13 "DrumTalkModel" "y" "[I", Cond.methodLink RX4 96 yX4_sound, Cond.instanceMethod yX4_sound, Cond.selects RX4 yX4_sound yX4_sound, Cond.code yX4_sound cX4_sound 4 none, Cond.methodLink RX4 107 yX4_lasting, Cond.instanceMethod yX4_lasting, Cond.selects RX4 yX4_lasting yX4_lasting, Cond.code yX4_lasting cX4_lasting 4 (some .int), Cond.methodLink RX4 111 yX4_learns]
def wsX5_best_r5 : List Cond := [Cond.methodLink RX4 114 yX4_put, Cond.methodLink RX5 138 yX4_knowing, Cond.instanceMethod yX4_knowing, Cond.selects RX4 yX4_knowing yX4_knowing, Cond.code yX4_knowing cX4_knowing 4 (some .int)]
def wsX5_best : List Cond := .code yX5_best cX5_best 7 (some .int) :: ((wsX5_best_r1 ++ (wsX5_best_r2 ++ (wsX5_best_r3 ++ (wsX5_best_r4 ++ wsX5_best_r5)))) ++ wsX50 ++ wsX40)
def wsX5_larger_r1 : List Cond := [Cond.fieldLink RX5 46 "DrumTalkModel" "thrown" "I", Cond.fieldLink RX5 50 "DrumTalkModel" "villages" "I", Cond.fieldLink RX5 36 "DrumTalkModel" "s" "LDrumTalkModel$State;", Cond.fieldLink RX5 40 "DrumTalkModel" "ahead" "LDrumTalkModel$State;", Cond.methodLink RX5 141 Lib.Math.max.name, Cond.static Lib.Math.max.name, Cond.initialized "java/lang/Math", Cond.code Lib.Math.max.name Lib.Math.max.code 2 (some .int), Cond.methodLink RX5 53 yX5_isIn, Cond.static yX5_isIn, Cond.initialized RX5, Cond.code yX5_isIn cX5_isIn 3 (some .boolean), Cond.methodLink RX5 66 yX5_no, Cond.instanceMethod yX5_no, Cond.selects RX5 yX5_no yX5_no, Cond.code yX5_no cX5_no 2 (some .int), Cond.methodLink RX5 134 yX4_become, Cond.instanceMethod yX4_become, Cond.selects RX4 yX4_become yX4_become, Cond.initialized RX4, Cond.code yX4_become cX4_become 2 none, Cond.fieldLink RX4 58 "DrumTalkModel$State" "beat" "I", Cond.fieldLink RX4 62 "DrumTalkModel$State" "begun" "I", Cond.fieldLink RX4 65 "DrumTalkModel$State" "sounds" "I"]
def wsX5_larger_r2 : List Cond := [Cond.fieldLink RX4 15 "DrumTalkModel$State" "drum" "[I", Cond.fieldLink RX4 19 "DrumTalkModel$State" "drums" "[I", Cond.fieldLink RX4 22 "DrumTalkModel$State" "left" "[I", Cond.fieldLink RX4 25 "DrumTalkModel$State" "queued" "[I", Cond.fieldLink RX4 28 "DrumTalkModel$State" "queue" "[I", Cond.fieldLink RX4 31 "DrumTalkModel$State" "known" "[I", Cond.fieldLink RX4 34 "DrumTalkModel$State" "drowned" "[I", Cond.fieldLink RX4 37 "DrumTalkModel$State" "where" "[I", Cond.fieldLink RX4 40 "DrumTalkModel$State" "what" "[I", Cond.fieldLink RX4 43 "DrumTalkModel$State" "first" "[I", Cond.fieldLink RX4 46 "DrumTalkModel$State" "last" "[I", Cond.fieldLink RX4 49 "DrumTalkModel$State" "lost" "[I", Cond.methodLink RX4 68 yX4_copy, Cond.instanceMethod yX4_copy, Cond.selects RX4 yX4_copy yX4_copy, Cond.code yX4_copy cX4_copy 4 none, Cond.methodLink RX4 52 arraycopyName, Cond.native arraycopyName, Cond.static arraycopyName, Cond.initialized "java/lang/System", Cond.methodLink RX5 131 yX4_pass, Cond.instanceMethod yX4_pass, Cond.selects RX4 yX4_pass yX4_pass, Cond.code yX4_pass cX4_pass 4 (some .int)]
def wsX5_larger_r3 : List Cond := [Cond.fieldLink RX4 3 "DrumTalkModel$State" "this$0" "LDrumTalkModel;", Cond.methodLink RX4 118 Lib.Math.max.name, Cond.methodLink RX4 103 yX4_begin, Cond.instanceMethod yX4_begin, Cond.selects RX4 yX4_begin yX4_begin, Cond.code yX4_begin cX4_begin 5 none, Cond.methodLink RX4 85 yX4_isAwake, Cond.instanceMethod yX4_isAwake, Cond.selects RX4 yX4_isAwake yX4_isAwake, Cond.code yX4_isAwake cX4_isAwake 2 (some .boolean), Cond.methodLink RX4 92 yX4_hears, Cond.instanceMethod yX4_hears, Cond.selects RX4 yX4_hears yX4_hears, Cond.code yX4_hears cX4_hears 3 (some .boolean), Cond.instanceMethod yX5_far, Cond.selects RX5 yX5_far yX5_far, Cond.code yX5_far cX5_far 3 (some .int), Cond.fieldLink RX5 9 "DrumTalkModel" "x" "[I", Cond.methodLink RX5 60 Lib.Math.abs.name, Cond.static Lib.Math.abs.name, Cond.code Lib.Math.abs.name Lib.Math.abs.code 1 (some .int), Cond.fieldLink RX5 13 "DrumTalkModel" "y" "[I", Cond.methodLink RX4 96 yX4_sound, Cond.instanceMethod yX4_sound]
def wsX5_larger_r4 : List Cond := [Cond.selects RX4 yX4_sound yX4_sound, Cond.code yX4_sound cX4_sound 4 none, Cond.methodLink RX4 107 yX4_lasting, Cond.instanceMethod yX4_lasting, Cond.selects RX4 yX4_lasting yX4_lasting, Cond.code yX4_lasting cX4_lasting 4 (some .int), Cond.methodLink RX4 111 yX4_learns, Cond.instanceMethod yX4_learns, Cond.selects RX4 yX4_learns yX4_learns, Cond.code yX4_learns cX4_learns 3 (some .boolean), Cond.methodLink RX4 114 yX4_put, Cond.instanceMethod yX4_put, Cond.selects RX4 yX4_put yX4_put, Cond.code yX4_put cX4_put 3 none, Cond.methodLink RX5 121 yX4_pairs, Cond.instanceMethod yX4_pairs, Cond.selects RX4 yX4_pairs yX4_pairs, Cond.code yX4_pairs cX4_pairs 3 (some .int), Cond.methodLink RX4 126 yX4_knowing, Cond.instanceMethod yX4_knowing, Cond.selects RX4 yX4_knowing yX4_knowing, Cond.code yX4_knowing cX4_knowing 4 (some .int)]
def wsX5_larger : List Cond := .code yX5_larger cX5_larger 6 (some .int) :: ((wsX5_larger_r1 ++ (wsX5_larger_r2 ++ (wsX5_larger_r3 ++ wsX5_larger_r4))) ++ wsX50 ++ wsX40)
def wsX5_known : List Cond := .code yX5_known cX5_known 1 (some .double) :: ([.fieldLink RX5 46 "DrumTalkModel" "thrown" "I", .fieldLink RX5 50 "DrumTalkModel" "villages" "I", .fieldLink RX5 57 "DrumTalkModel" "phrases" "I", .fieldLink RX5 36 "DrumTalkModel" "s" "LDrumTalkModel$State;", .methodLink RX5 121 yX4_pairs, .instanceMethod yX4_pairs, .selects RX4 yX4_pairs yX4_pairs, .initialized RX4, .code yX4_pairs cX4_pairs 3 (some .int), .fieldLink RX4 3 "DrumTalkModel$State" "this$0" "LDrumTalkModel;", .methodLink RX4 126 yX4_knowing, .instanceMethod yX4_knowing, .selects RX4 yX4_knowing yX4_knowing, .code yX4_knowing cX4_knowing 4 (some .int), .fieldLink RX4 31 "DrumTalkModel$State" "known" "[I"] ++ wsX50 ++ wsX40)
def wsX5_digest_r1 : List Cond := [Cond.fieldLink RX5 46 "DrumTalkModel" "thrown" "I", Cond.constantLong RX5 144 (769), Cond.constantLong RX5 146 (31), Cond.fieldLink RX5 57 "DrumTalkModel" "phrases" "I", Cond.fieldLink RX5 25 "DrumTalkModel" "tones" "[I", Cond.fieldLink RX5 50 "DrumTalkModel" "villages" "I", Cond.fieldLink RX5 36 "DrumTalkModel" "s" "LDrumTalkModel$State;", Cond.methodLink RX5 125 yX5_counted, Cond.instanceMethod yX5_counted, Cond.selects RX5 yX5_counted yX5_counted, Cond.initialized RX5, Cond.code yX5_counted cX5_counted 5 (some .int), Cond.arrayClass .int, Cond.methodLink RX5 121 yX4_pairs, Cond.instanceMethod yX4_pairs, Cond.selects RX4 yX4_pairs yX4_pairs, Cond.initialized RX4, Cond.code yX4_pairs cX4_pairs 3 (some .int), Cond.fieldLink RX4 3 "DrumTalkModel$State" "this$0" "LDrumTalkModel;", Cond.methodLink RX4 126 yX4_knowing, Cond.instanceMethod yX4_knowing, Cond.selects RX4 yX4_knowing yX4_knowing, Cond.code yX4_knowing cX4_knowing 4 (some .int), Cond.fieldLink RX4 31 "DrumTalkModel$State" "known" "[I"]
def wsX5_digest_r2 : List Cond := [Cond.methodLink RX5 102 yX5_villageTold, Cond.instanceMethod yX5_villageTold, Cond.selects RX5 yX5_villageTold yX5_villageTold, Cond.code yX5_villageTold cX5_villageTold 5 (some .int), Cond.fieldLink RX5 9 "DrumTalkModel" "x" "[I", Cond.fieldLink RX5 13 "DrumTalkModel" "y" "[I", Cond.fieldLink RX5 16 "DrumTalkModel" "cliff" "[I", Cond.methodLink RX5 93 yX4_isAwake, Cond.instanceMethod yX4_isAwake, Cond.selects RX4 yX4_isAwake yX4_isAwake, Cond.code yX4_isAwake cX4_isAwake 2 (some .boolean), Cond.fieldLink RX4 58 "DrumTalkModel$State" "beat" "I", Cond.methodLink RX5 109 yX4_lasting, Cond.instanceMethod yX4_lasting, Cond.selects RX4 yX4_lasting yX4_lasting, Cond.code yX4_lasting cX4_lasting 4 (some .int), Cond.fieldLink RX4 65 "DrumTalkModel$State" "sounds" "I", Cond.fieldLink RX4 37 "DrumTalkModel$State" "where" "[I", Cond.fieldLink RX4 43 "DrumTalkModel$State" "first" "[I", Cond.fieldLink RX4 46 "DrumTalkModel$State" "last" "[I"]
def wsX5_digest : List Cond := .code yX5_digest cX5_digest 5 (some .long) :: ((wsX5_digest_r1 ++ wsX5_digest_r2) ++ wsX50 ++ wsX40)
def wsJ9_abs_0f7a4 : List Cond := .code yJ9_abs_0f7a4 cJ9_abs_0f7a4 1 (some .int) :: ([])
def wsJ9_max_7cf53 : List Cond := .code yJ9_max_7cf53 cJ9_max_7cf53 2 (some .int) :: ([])
def wsL_found_r1 : List Cond := [Cond.classLink RL 13 "java/lang/IllegalArgumentException", Cond.classLink RL 15 "java/lang/IllegalStateException", Cond.methodLink RL 7 yX3_found, Cond.instanceMethod yX3_found, Cond.selects RX3 yX3_found yX3_found, Cond.initialized RX3, Cond.code yX3_found cX3_found 4 (some .int), Cond.classLink RX3 26 "java/lang/IllegalArgumentException", Cond.initialized "java/lang/IllegalArgumentException", Cond.classLink RX3 41 "java/lang/IllegalStateException", Cond.initialized "java/lang/IllegalStateException", Cond.fieldLink RX3 12 "DrumTalk" "land" "LDrumTalk$Land;", Cond.fieldLink RX3 33 "DrumTalk$Land" "villageCount" "I", Cond.methodLink RX3 19 yX3_isPlace, Cond.static yX3_isPlace, Cond.code yX3_isPlace cX3_isPlace 1 (some .boolean), Cond.methodLink RX3 23 yX3_isDrum, Cond.static yX3_isDrum, Cond.code yX3_isDrum cX3_isDrum 1 (some .boolean), Cond.methodLink RX3 37 yX0_hasVillageAt, Cond.instanceMethod yX0_hasVillageAt, Cond.selects RX0 yX0_hasVillageAt yX0_hasVillageAt, Cond.initialized RX0, Cond.code yX0_hasVillageAt cX0_hasVillageAt 4 (some .boolean)]
def wsL_found_r2 : List Cond := [Cond.fieldLink RX0 25 "DrumTalk$Land" "villageCount" "I", Cond.fieldLink RX0 11 "DrumTalk$Land" "villages" "[LDrumTalk$Village;", Cond.fieldLink RX0 48 "DrumTalk$Village" "x" "I", Cond.fieldLink RX0 51 "DrumTalk$Village" "y" "I", Cond.methodLink RX3 46 yX0_addVillage, Cond.instanceMethod yX0_addVillage, Cond.selects RX0 yX0_addVillage yX0_addVillage, Cond.code yX0_addVillage cX0_addVillage 5 (some .int), Cond.fieldLink RX0 54 "DrumTalk$Village" "drum" "I"]
def wsL_found : List Cond := .codeWith yL_found cL_found 6 (some .int) [(0, 12, 15, 13), (0, 12, 19, 15)] :: ((wsL_found_r1 ++ wsL_found_r2) ++ wsX30 ++ wsX00 ++ wsX20 ++ (vx_atS RX3 30 "java/lang/IllegalArgumentException" ["java/lang/RuntimeException", "java/lang/Exception"]).filter goodWord ++ (vx_atS RX3 45 "java/lang/IllegalStateException" ["java/lang/RuntimeException", "java/lang/Exception"]).filter goodWord)
def wsL_setDrum_r1 : List Cond := [Cond.classLink RL 21 "java/lang/IndexOutOfBoundsException", Cond.classLink RL 13 "java/lang/IllegalArgumentException", Cond.methodLink RL 17 yX3_setDrum, Cond.instanceMethod yX3_setDrum, Cond.selects RX3 yX3_setDrum yX3_setDrum, Cond.initialized RX3, Cond.code yX3_setDrum cX3_setDrum 5 (some .int), Cond.classLink RX3 26 "java/lang/IllegalArgumentException", Cond.initialized "java/lang/IllegalArgumentException", Cond.fieldLink RX3 56 "DrumTalk$Village" "drum" "I", Cond.methodLink RX3 50 yX3_villageOf, Cond.instanceMethod yX3_villageOf, Cond.selects RX3 yX3_villageOf yX3_villageOf, Cond.code yX3_villageOf cX3_villageOf 2 (some (.object "DrumTalk$Village")), Cond.fieldLink RX3 12 "DrumTalk" "land" "LDrumTalk$Land;", Cond.fieldLink RX3 152 "DrumTalk$Land" "villages" "[LDrumTalk$Village;", Cond.methodLink RX3 137 yX3_checkVillage, Cond.instanceMethod yX3_checkVillage, Cond.selects RX3 yX3_checkVillage yX3_checkVillage, Cond.code yX3_checkVillage cX3_checkVillage 2 none, Cond.classLink RX3 107 "java/lang/IndexOutOfBoundsException", Cond.initialized "java/lang/IndexOutOfBoundsException", Cond.fieldLink RX3 33 "DrumTalk$Land" "villageCount" "I", Cond.methodLink RX3 23 yX3_isDrum]
def wsL_setDrum_r2 : List Cond := [Cond.static yX3_isDrum, Cond.code yX3_isDrum cX3_isDrum 1 (some .boolean)]
def wsL_setDrum : List Cond := .codeWith yL_setDrum cL_setDrum 5 (some .int) [(0, 10, 13, 21), (0, 10, 17, 13)] :: ((wsL_setDrum_r1 ++ wsL_setDrum_r2) ++ wsX20 ++ wsX30 ++ wsX00 ++ (vx_atS RX3 30 "java/lang/IllegalArgumentException" ["java/lang/RuntimeException", "java/lang/Exception"]).filter goodWord ++ (vx_atS RX3 111 "java/lang/IndexOutOfBoundsException" ["java/lang/RuntimeException", "java/lang/Exception"]).filter goodWord)
def wsL_setCliff : List Cond := .codeWith yL_setCliff cL_setCliff 5 (some .int) [(0, 17, 20, 21)] :: ([.classLink RL 21 "java/lang/IndexOutOfBoundsException", .methodLink RL 23 yX3_setCliff, .instanceMethod yX3_setCliff, .selects RX3 yX3_setCliff yX3_setCliff, .initialized RX3, .code yX3_setCliff cX3_setCliff 5 (some .boolean), .fieldLink RX3 61 "DrumTalk$Village" "cliff" "Z", .methodLink RX3 50 yX3_villageOf, .instanceMethod yX3_villageOf, .selects RX3 yX3_villageOf yX3_villageOf, .code yX3_villageOf cX3_villageOf 2 (some (.object "DrumTalk$Village")), .fieldLink RX3 12 "DrumTalk" "land" "LDrumTalk$Land;", .fieldLink RX3 152 "DrumTalk$Land" "villages" "[LDrumTalk$Village;", .methodLink RX3 137 yX3_checkVillage, .instanceMethod yX3_checkVillage, .selects RX3 yX3_checkVillage yX3_checkVillage, .code yX3_checkVillage cX3_checkVillage 2 none, .classLink RX3 107 "java/lang/IndexOutOfBoundsException", .initialized "java/lang/IndexOutOfBoundsException", .fieldLink RX3 33 "DrumTalk$Land" "villageCount" "I"] ++ wsX20 ++ wsX30 ++ wsX00 ++ (vx_atS RX3 111 "java/lang/IndexOutOfBoundsException" ["java/lang/RuntimeException", "java/lang/Exception"]).filter goodWord)
def wsL_setAwake : List Cond := .codeWith yL_setAwake cL_setAwake 6 (some .int) [(0, 12, 15, 21), (0, 12, 19, 13)] :: ([.classLink RL 21 "java/lang/IndexOutOfBoundsException", .classLink RL 13 "java/lang/IllegalArgumentException", .methodLink RL 27 yX3_setAwake, .instanceMethod yX3_setAwake, .selects RX3 yX3_setAwake yX3_setAwake, .initialized RX3, .code yX3_setAwake cX3_setAwake 6 (some .int), .classLink RX3 26 "java/lang/IllegalArgumentException", .initialized "java/lang/IllegalArgumentException", .fieldLink RX3 67 "DrumTalk$Village" "awakeBeats" "I", .fieldLink RX3 70 "DrumTalk$Village" "awakeFrom" "I", .methodLink RX3 50 yX3_villageOf, .instanceMethod yX3_villageOf, .selects RX3 yX3_villageOf yX3_villageOf, .code yX3_villageOf cX3_villageOf 2 (some (.object "DrumTalk$Village")), .fieldLink RX3 12 "DrumTalk" "land" "LDrumTalk$Land;", .fieldLink RX3 152 "DrumTalk$Land" "villages" "[LDrumTalk$Village;", .methodLink RX3 137 yX3_checkVillage, .instanceMethod yX3_checkVillage, .selects RX3 yX3_checkVillage yX3_checkVillage, .code yX3_checkVillage cX3_checkVillage 2 none, .classLink RX3 107 "java/lang/IndexOutOfBoundsException", .initialized "java/lang/IndexOutOfBoundsException", .fieldLink RX3 33 "DrumTalk$Land" "villageCount" "I"] ++ wsX20 ++ wsX30 ++ wsX00 ++ (vx_atS RX3 30 "java/lang/IllegalArgumentException" ["java/lang/RuntimeException", "java/lang/Exception"]).filter goodWord ++ (vx_atS RX3 111 "java/lang/IndexOutOfBoundsException" ["java/lang/RuntimeException", "java/lang/Exception"]).filter goodWord)
def wsL_phrase_r1 : List Cond := [Cond.classLink RL 13 "java/lang/IllegalArgumentException", Cond.classLink RL 15 "java/lang/IllegalStateException", Cond.methodLink RL 30 yX3_phrase, Cond.instanceMethod yX3_phrase, Cond.selects RX3 yX3_phrase yX3_phrase, Cond.initialized RX3, Cond.code yX3_phrase cX3_phrase 3 (some .int), Cond.classLink RX3 26 "java/lang/IllegalArgumentException", Cond.initialized "java/lang/IllegalArgumentException", Cond.classLink RX3 41 "java/lang/IllegalStateException", Cond.initialized "java/lang/IllegalStateException", Cond.fieldLink RX3 12 "DrumTalk" "land" "LDrumTalk$Land;", Cond.fieldLink RX3 79 "DrumTalk$Land" "phraseCount" "I", Cond.methodLink RX3 73 yX3_countTones, Cond.static yX3_countTones, Cond.code yX3_countTones cX3_countTones 4 (some .int), Cond.methodLink RX3 82 yX0_hasPhrase, Cond.instanceMethod yX0_hasPhrase, Cond.selects RX0 yX0_hasPhrase yX0_hasPhrase, Cond.initialized RX0, Cond.code yX0_hasPhrase cX0_hasPhrase 3 (some .boolean), Cond.fieldLink RX0 39 "DrumTalk$Land" "phraseCount" "I", Cond.fieldLink RX0 17 "DrumTalk$Land" "tones" "[I", Cond.methodLink RX3 87 yX0_addPhrase]
def wsL_phrase_r2 : List Cond := [Cond.instanceMethod yX0_addPhrase, Cond.selects RX0 yX0_addPhrase yX0_addPhrase, Cond.code yX0_addPhrase cX0_addPhrase 3 (some .int), Cond.fieldLink RX0 21 "DrumTalk$Land" "toneCounts" "[I"]
def wsL_phrase : List Cond := .codeWith yL_phrase cL_phrase 4 (some .int) [(0, 9, 12, 13), (0, 9, 15, 15)] :: ((wsL_phrase_r1 ++ wsL_phrase_r2) ++ wsX30 ++ wsX00 ++ (vx_atS RX3 30 "java/lang/IllegalArgumentException" ["java/lang/RuntimeException", "java/lang/Exception"]).filter goodWord ++ (vx_atS RX3 45 "java/lang/IllegalStateException" ["java/lang/RuntimeException", "java/lang/Exception"]).filter goodWord)
def wsL_tell_r1 : List Cond := [Cond.classLink RL 21 "java/lang/IndexOutOfBoundsException", Cond.classLink RL 15 "java/lang/IllegalStateException", Cond.methodLink RL 34 yX3_tell, Cond.instanceMethod yX3_tell, Cond.selects RX3 yX3_tell yX3_tell, Cond.initialized RX3, Cond.code yX3_tell cX3_tell 4 (some .int), Cond.classLink RX3 41 "java/lang/IllegalStateException", Cond.initialized "java/lang/IllegalStateException", Cond.fieldLink RX3 95 "DrumTalk$Village" "queued" "I", Cond.fieldLink RX3 12 "DrumTalk" "land" "LDrumTalk$Land;", Cond.fieldLink RX3 100 "DrumTalk$Land" "beat" "I", Cond.methodLink RX3 50 yX3_villageOf, Cond.instanceMethod yX3_villageOf, Cond.selects RX3 yX3_villageOf yX3_villageOf, Cond.code yX3_villageOf cX3_villageOf 2 (some (.object "DrumTalk$Village")), Cond.fieldLink RX3 152 "DrumTalk$Land" "villages" "[LDrumTalk$Village;", Cond.methodLink RX3 137 yX3_checkVillage, Cond.instanceMethod yX3_checkVillage, Cond.selects RX3 yX3_checkVillage yX3_checkVillage, Cond.code yX3_checkVillage cX3_checkVillage 2 none, Cond.classLink RX3 107 "java/lang/IndexOutOfBoundsException", Cond.initialized "java/lang/IndexOutOfBoundsException", Cond.fieldLink RX3 33 "DrumTalk$Land" "villageCount" "I"]
def wsL_tell_r2 : List Cond := [Cond.methodLink RX3 91 yX3_checkPhrase, Cond.instanceMethod yX3_checkPhrase, Cond.selects RX3 yX3_checkPhrase yX3_checkPhrase, Cond.code yX3_checkPhrase cX3_checkPhrase 2 none, Cond.fieldLink RX3 79 "DrumTalk$Land" "phraseCount" "I", Cond.methodLink RX3 103 yX2_takeIn, Cond.instanceMethod yX2_takeIn, Cond.selects RX2 yX2_takeIn yX2_takeIn, Cond.initialized RX2, Cond.code yX2_takeIn cX2_takeIn 3 none, Cond.fieldLink RX2 25 "DrumTalk$Village" "knownSince" "[I", Cond.fieldLink RX2 63 "DrumTalk$Village" "queued" "I", Cond.fieldLink RX2 21 "DrumTalk$Village" "queue" "[I"]
def wsL_tell : List Cond := .codeWith yL_tell cL_tell 5 (some .int) [(0, 10, 13, 21), (0, 10, 17, 15)] :: ((wsL_tell_r1 ++ wsL_tell_r2) ++ wsX20 ++ wsX30 ++ wsX00 ++ (vx_atS RX3 45 "java/lang/IllegalStateException" ["java/lang/RuntimeException", "java/lang/Exception"]).filter goodWord ++ (vx_atS RX3 111 "java/lang/IndexOutOfBoundsException" ["java/lang/RuntimeException", "java/lang/Exception"]).filter goodWord)
def wsL_village_r1 : List Cond := [Cond.classLink RL 21 "java/lang/IndexOutOfBoundsException", Cond.methodLink RL 37 yX3_village, Cond.instanceMethod yX3_village, Cond.selects RX3 yX3_village yX3_village, Cond.initialized RX3, Cond.code yX3_village cX3_village 4 (some .int), Cond.classLink RX3 107 "java/lang/IndexOutOfBoundsException", Cond.initialized "java/lang/IndexOutOfBoundsException", Cond.fieldLink RX3 12 "DrumTalk" "land" "LDrumTalk$Land;", Cond.fieldLink RX3 100 "DrumTalk$Land" "beat" "I", Cond.methodLink RX3 50 yX3_villageOf, Cond.instanceMethod yX3_villageOf, Cond.selects RX3 yX3_villageOf yX3_villageOf, Cond.code yX3_villageOf cX3_villageOf 2 (some (.object "DrumTalk$Village")), Cond.fieldLink RX3 152 "DrumTalk$Land" "villages" "[LDrumTalk$Village;", Cond.methodLink RX3 137 yX3_checkVillage, Cond.instanceMethod yX3_checkVillage, Cond.selects RX3 yX3_checkVillage yX3_checkVillage, Cond.code yX3_checkVillage cX3_checkVillage 2 none, Cond.fieldLink RX3 33 "DrumTalk$Land" "villageCount" "I", Cond.methodLink RX3 112 yX2_figure, Cond.instanceMethod yX2_figure, Cond.selects RX2 yX2_figure yX2_figure, Cond.initialized RX2]
def wsL_village_r2 : List Cond := [Cond.code yX2_figure cX2_figure 3 (some .int), Cond.fieldLink RX2 41 "DrumTalk$Village" "x" "I", Cond.fieldLink RX2 44 "DrumTalk$Village" "y" "I", Cond.fieldLink RX2 9 "DrumTalk$Village" "drum" "I", Cond.fieldLink RX2 47 "DrumTalk$Village" "cliff" "Z", Cond.fieldLink RX2 18 "DrumTalk$Village" "drumming" "I", Cond.fieldLink RX2 54 "DrumTalk$Village" "beatsLeft" "I", Cond.fieldLink RX2 63 "DrumTalk$Village" "queued" "I", Cond.fieldLink RX2 70 "DrumTalk$Village" "drowned" "I", Cond.methodLink RX2 73 yX2_isAwake, Cond.instanceMethod yX2_isAwake, Cond.selects RX2 yX2_isAwake yX2_isAwake, Cond.code yX2_isAwake cX2_isAwake 2 (some .boolean), Cond.fieldLink RX2 51 "DrumTalk$Village" "awakeFrom" "I", Cond.fieldLink RX2 15 "DrumTalk$Village" "awakeBeats" "I", Cond.methodLink RX2 81 yJ9_floorMod_7cf53, Cond.static yJ9_floorMod_7cf53, Cond.initialized RJ9, Cond.code yJ9_floorMod_7cf53 cJ9_floorMod_7cf53 3 (some .int), Cond.methodLink RX2 77 yX2_phrasesKnown, Cond.instanceMethod yX2_phrasesKnown, Cond.selects RX2 yX2_phrasesKnown yX2_phrasesKnown, Cond.code yX2_phrasesKnown cX2_phrasesKnown 3 (some .int), Cond.methodLink RX2 95 yX2_isKnown]
def wsL_village_r3 : List Cond := [Cond.instanceMethod yX2_isKnown, Cond.selects RX2 yX2_isKnown yX2_isKnown, Cond.code yX2_isKnown cX2_isKnown 2 (some .boolean), Cond.fieldLink RX2 25 "DrumTalk$Village" "knownSince" "[I"]
def wsL_village : List Cond := .codeWith yL_village cL_village 5 (some .int) [(0, 10, 13, 21)] :: ((wsL_village_r1 ++ (wsL_village_r2 ++ wsL_village_r3)) ++ wsX30 ++ wsX00 ++ wsX20 ++ (vx_atS RX3 111 "java/lang/IndexOutOfBoundsException" ["java/lang/RuntimeException", "java/lang/Exception"]).filter goodWord)
def wsL_queue : List Cond := .codeWith yL_queue cL_queue 5 (some .int) [(0, 10, 13, 21)] :: ([.classLink RL 21 "java/lang/IndexOutOfBoundsException", .methodLink RL 40 yX3_queue, .instanceMethod yX3_queue, .selects RX3 yX3_queue yX3_queue, .initialized RX3, .code yX3_queue cX3_queue 4 (some .int), .classLink RX3 107 "java/lang/IndexOutOfBoundsException", .initialized "java/lang/IndexOutOfBoundsException", .fieldLink RX3 95 "DrumTalk$Village" "queued" "I", .fieldLink RX3 117 "DrumTalk$Village" "queue" "[I", .methodLink RX3 50 yX3_villageOf, .instanceMethod yX3_villageOf, .selects RX3 yX3_villageOf yX3_villageOf, .code yX3_villageOf cX3_villageOf 2 (some (.object "DrumTalk$Village")), .fieldLink RX3 12 "DrumTalk" "land" "LDrumTalk$Land;", .fieldLink RX3 152 "DrumTalk$Land" "villages" "[LDrumTalk$Village;", .methodLink RX3 137 yX3_checkVillage, .instanceMethod yX3_checkVillage, .selects RX3 yX3_checkVillage yX3_checkVillage, .code yX3_checkVillage cX3_checkVillage 2 none, .fieldLink RX3 33 "DrumTalk$Land" "villageCount" "I"] ++ wsX20 ++ wsX30 ++ wsX00 ++ (vx_atS RX3 111 "java/lang/IndexOutOfBoundsException" ["java/lang/RuntimeException", "java/lang/Exception"]).filter goodWord)
def wsL_knows_r1 : List Cond := [Cond.classLink RL 21 "java/lang/IndexOutOfBoundsException", Cond.methodLink RL 43 yX3_knows, Cond.instanceMethod yX3_knows, Cond.selects RX3 yX3_knows yX3_knows, Cond.initialized RX3, Cond.code yX3_knows cX3_knows 4 (some .int), Cond.fieldLink RX3 121 "DrumTalk$Village" "knownSince" "[I", Cond.methodLink RX3 50 yX3_villageOf, Cond.instanceMethod yX3_villageOf, Cond.selects RX3 yX3_villageOf yX3_villageOf, Cond.code yX3_villageOf cX3_villageOf 2 (some (.object "DrumTalk$Village")), Cond.fieldLink RX3 12 "DrumTalk" "land" "LDrumTalk$Land;", Cond.fieldLink RX3 152 "DrumTalk$Land" "villages" "[LDrumTalk$Village;", Cond.methodLink RX3 137 yX3_checkVillage, Cond.instanceMethod yX3_checkVillage, Cond.selects RX3 yX3_checkVillage yX3_checkVillage, Cond.code yX3_checkVillage cX3_checkVillage 2 none, Cond.classLink RX3 107 "java/lang/IndexOutOfBoundsException", Cond.initialized "java/lang/IndexOutOfBoundsException", Cond.fieldLink RX3 33 "DrumTalk$Land" "villageCount" "I", Cond.methodLink RX3 91 yX3_checkPhrase, Cond.instanceMethod yX3_checkPhrase, Cond.selects RX3 yX3_checkPhrase yX3_checkPhrase, Cond.code yX3_checkPhrase cX3_checkPhrase 2 none]
def wsL_knows_r2 : List Cond := [Cond.fieldLink RX3 79 "DrumTalk$Land" "phraseCount" "I"]
def wsL_knows : List Cond := .codeWith yL_knows cL_knows 5 (some .int) [(0, 10, 13, 21)] :: ((wsL_knows_r1 ++ wsL_knows_r2) ++ wsX20 ++ wsX30 ++ wsX00 ++ (vx_atS RX3 111 "java/lang/IndexOutOfBoundsException" ["java/lang/RuntimeException", "java/lang/Exception"]).filter goodWord)
def wsL_sounds_r1 : List Cond := [Cond.classLink RL 21 "java/lang/IndexOutOfBoundsException", Cond.methodLink RL 46 yX3_sounds, Cond.instanceMethod yX3_sounds, Cond.selects RX3 yX3_sounds yX3_sounds, Cond.initialized RX3, Cond.code yX3_sounds cX3_sounds 2 (some .int), Cond.fieldLink RX3 124 "DrumTalk$Village" "inTheAir" "LDrumTalk$Sounds;", Cond.fieldLink RX3 12 "DrumTalk" "land" "LDrumTalk$Land;", Cond.fieldLink RX3 100 "DrumTalk$Land" "beat" "I", Cond.methodLink RX3 50 yX3_villageOf, Cond.instanceMethod yX3_villageOf, Cond.selects RX3 yX3_villageOf yX3_villageOf, Cond.code yX3_villageOf cX3_villageOf 2 (some (.object "DrumTalk$Village")), Cond.fieldLink RX3 152 "DrumTalk$Land" "villages" "[LDrumTalk$Village;", Cond.methodLink RX3 137 yX3_checkVillage, Cond.instanceMethod yX3_checkVillage, Cond.selects RX3 yX3_checkVillage yX3_checkVillage, Cond.code yX3_checkVillage cX3_checkVillage 2 none, Cond.classLink RX3 107 "java/lang/IndexOutOfBoundsException", Cond.initialized "java/lang/IndexOutOfBoundsException", Cond.fieldLink RX3 33 "DrumTalk$Land" "villageCount" "I", Cond.methodLink RX3 128 yX1_lasting, Cond.instanceMethod yX1_lasting, Cond.selects RX1 yX1_lasting yX1_lasting]
def wsL_sounds_r2 : List Cond := [Cond.initialized RX1, Cond.code yX1_lasting cX1_lasting 4 (some .int), Cond.fieldLink RX1 24 "DrumTalk$Sounds" "size" "I", Cond.fieldLink RX1 15 "DrumTalk$Sounds" "firstBeats" "[I"]
def wsL_sounds : List Cond := .codeWith yL_sounds cL_sounds 4 (some .int) [(0, 9, 12, 21)] :: ((wsL_sounds_r1 ++ wsL_sounds_r2) ++ wsX20 ++ wsX30 ++ wsX00 ++ wsX10 ++ (vx_atS RX3 111 "java/lang/IndexOutOfBoundsException" ["java/lang/RuntimeException", "java/lang/Exception"]).filter goodWord)
def wsL_count_r1 : List Cond := [Cond.classLink RL 21 "java/lang/IndexOutOfBoundsException", Cond.methodLink RL 49 yX3_count, Cond.instanceMethod yX3_count, Cond.selects RX3 yX3_count yX3_count, Cond.initialized RX3, Cond.code yX3_count cX3_count 2 (some .int), Cond.classLink RX3 107 "java/lang/IndexOutOfBoundsException", Cond.initialized "java/lang/IndexOutOfBoundsException", Cond.fieldLink RX3 12 "DrumTalk" "land" "LDrumTalk$Land;", Cond.methodLink RX3 135 yX0_figure, Cond.instanceMethod yX0_figure, Cond.selects RX0 yX0_figure yX0_figure, Cond.initialized RX0, Cond.code yX0_figure cX0_figure 2 (some .int), Cond.fieldLink RX0 42 "DrumTalk$Land" "beat" "I", Cond.fieldLink RX0 25 "DrumTalk$Land" "villageCount" "I", Cond.fieldLink RX0 39 "DrumTalk$Land" "phraseCount" "I", Cond.fieldLink RX0 45 "DrumTalk$Land" "drummings" "I", Cond.methodLink RX0 57 yX0_drummers, Cond.instanceMethod yX0_drummers, Cond.selects RX0 yX0_drummers yX0_drummers, Cond.code yX0_drummers cX0_drummers 3 (some .int), Cond.fieldLink RX0 11 "DrumTalk$Land" "villages" "[LDrumTalk$Village;", Cond.methodLink RX0 70 yX2_isDrumming]
def wsL_count_r2 : List Cond := [Cond.instanceMethod yX2_isDrumming, Cond.selects RX2 yX2_isDrumming yX2_isDrumming, Cond.initialized RX2, Cond.code yX2_isDrumming cX2_isDrumming 1 (some .boolean), Cond.fieldLink RX2 18 "DrumTalk$Village" "drumming" "I", Cond.methodLink RX0 61 yX0_soundsInTheAir, Cond.instanceMethod yX0_soundsInTheAir, Cond.selects RX0 yX0_soundsInTheAir yX0_soundsInTheAir, Cond.code yX0_soundsInTheAir cX0_soundsInTheAir 3 (some .int), Cond.fieldLink RX0 74 "DrumTalk$Village" "inTheAir" "LDrumTalk$Sounds;", Cond.fieldLink RX0 78 "DrumTalk$Sounds" "size" "I", Cond.methodLink RX0 64 yX0_soundsDrowned, Cond.instanceMethod yX0_soundsDrowned, Cond.selects RX0 yX0_soundsDrowned yX0_soundsDrowned, Cond.code yX0_soundsDrowned cX0_soundsDrowned 3 (some .int), Cond.fieldLink RX0 83 "DrumTalk$Village" "drowned" "I", Cond.methodLink RX0 67 yX0_knownPairs, Cond.instanceMethod yX0_knownPairs, Cond.selects RX0 yX0_knownPairs yX0_knownPairs, Cond.code yX0_knownPairs cX0_knownPairs 3 (some .int), Cond.methodLink RX0 86 yX2_phrasesKnown, Cond.instanceMethod yX2_phrasesKnown, Cond.selects RX2 yX2_phrasesKnown yX2_phrasesKnown, Cond.code yX2_phrasesKnown cX2_phrasesKnown 3 (some .int)]
def wsL_count_r3 : List Cond := [Cond.methodLink RX2 95 yX2_isKnown, Cond.instanceMethod yX2_isKnown, Cond.selects RX2 yX2_isKnown yX2_isKnown, Cond.code yX2_isKnown cX2_isKnown 2 (some .boolean), Cond.fieldLink RX2 25 "DrumTalk$Village" "knownSince" "[I"]
def wsL_count : List Cond := .codeWith yL_count cL_count 4 (some .int) [(0, 9, 12, 21)] :: ((wsL_count_r1 ++ (wsL_count_r2 ++ wsL_count_r3)) ++ wsX30 ++ wsX00 ++ wsX20 ++ wsX10 ++ (vx_atS RX3 111 "java/lang/IndexOutOfBoundsException" ["java/lang/RuntimeException", "java/lang/Exception"]).filter goodWord)
def wsL_way_r1 : List Cond := [Cond.classLink RL 21 "java/lang/IndexOutOfBoundsException", Cond.methodLink RL 52 yX3_way, Cond.instanceMethod yX3_way, Cond.selects RX3 yX3_way yX3_way, Cond.initialized RX3, Cond.code yX3_way cX3_way 5 (some .int), Cond.fieldLink RX3 12 "DrumTalk" "land" "LDrumTalk$Land;", Cond.methodLink RX3 137 yX3_checkVillage, Cond.instanceMethod yX3_checkVillage, Cond.selects RX3 yX3_checkVillage yX3_checkVillage, Cond.code yX3_checkVillage cX3_checkVillage 2 none, Cond.classLink RX3 107 "java/lang/IndexOutOfBoundsException", Cond.initialized "java/lang/IndexOutOfBoundsException", Cond.fieldLink RX3 33 "DrumTalk$Land" "villageCount" "I", Cond.methodLink RX3 140 yX0_hearersOf, Cond.instanceMethod yX0_hearersOf, Cond.selects RX0 yX0_hearersOf yX0_hearersOf, Cond.initialized RX0, Cond.code yX0_hearersOf cX0_hearersOf 5 (some .int), Cond.fieldLink RX0 25 "DrumTalk$Land" "villageCount" "I", Cond.fieldLink RX0 11 "DrumTalk$Land" "villages" "[LDrumTalk$Village;", Cond.methodLink RX0 93 yX2_distanceTo, Cond.instanceMethod yX2_distanceTo, Cond.selects RX2 yX2_distanceTo yX2_distanceTo]
def wsL_way_r2 : List Cond := [Cond.initialized RX2, Cond.code yX2_distanceTo cX2_distanceTo 2 (some .int), Cond.fieldLink RX2 41 "DrumTalk$Village" "x" "I", Cond.methodLink RX2 91 Lib.Math.abs.name, Cond.static Lib.Math.abs.name, Cond.initialized "java/lang/Math", Cond.code Lib.Math.abs.name Lib.Math.abs.code 1 (some .int), Cond.fieldLink RX2 44 "DrumTalk$Village" "y" "I", Cond.methodLink RX0 97 yX2_isHeardAt, Cond.instanceMethod yX2_isHeardAt, Cond.selects RX2 yX2_isHeardAt yX2_isHeardAt, Cond.code yX2_isHeardAt cX2_isHeardAt 2 (some .boolean), Cond.fieldLink RX2 9 "DrumTalk$Village" "drum" "I"]
def wsL_way : List Cond := .codeWith yL_way cL_way 5 (some .int) [(0, 10, 13, 21)] :: ((wsL_way_r1 ++ wsL_way_r2) ++ wsX30 ++ wsX00 ++ wsX20 ++ (vx_atS RX3 111 "java/lang/IndexOutOfBoundsException" ["java/lang/RuntimeException", "java/lang/Exception"]).filter goodWord)
def wsL_pass_r1 : List Cond := [Cond.classLink RL 13 "java/lang/IllegalArgumentException", Cond.methodLink RL 55 yX3_pass, Cond.instanceMethod yX3_pass, Cond.selects RX3 yX3_pass yX3_pass, Cond.initialized RX3, Cond.code yX3_pass cX3_pass 2 (some .int), Cond.classLink RX3 26 "java/lang/IllegalArgumentException", Cond.initialized "java/lang/IllegalArgumentException", Cond.fieldLink RX3 12 "DrumTalk" "land" "LDrumTalk$Land;", Cond.methodLink RX3 145 yX0_letGo, Cond.instanceMethod yX0_letGo, Cond.selects RX0 yX0_letGo yX0_letGo, Cond.initialized RX0, Cond.code yX0_letGo cX0_letGo 4 (some .int), Cond.fieldLink RX0 42 "DrumTalk$Land" "beat" "I", Cond.methodLink RX0 100 yX0_isQuiet, Cond.instanceMethod yX0_isQuiet, Cond.selects RX0 yX0_isQuiet yX0_isQuiet, Cond.code yX0_isQuiet cX0_isQuiet 3 (some .boolean), Cond.fieldLink RX0 25 "DrumTalk$Land" "villageCount" "I", Cond.fieldLink RX0 11 "DrumTalk$Land" "villages" "[LDrumTalk$Village;", Cond.fieldLink RX0 106 "DrumTalk$Village" "queued" "I", Cond.fieldLink RX0 74 "DrumTalk$Village" "inTheAir" "LDrumTalk$Sounds;", Cond.fieldLink RX0 78 "DrumTalk$Sounds" "size" "I"]
def wsL_pass_r2 : List Cond := [Cond.methodLink RX0 70 yX2_isDrumming, Cond.instanceMethod yX2_isDrumming, Cond.selects RX2 yX2_isDrumming yX2_isDrumming, Cond.initialized RX2, Cond.code yX2_isDrumming cX2_isDrumming 1 (some .boolean), Cond.fieldLink RX2 18 "DrumTalk$Village" "drumming" "I", Cond.methodLink RX0 103 yX0_goBeat, Cond.instanceMethod yX0_goBeat, Cond.selects RX0 yX0_goBeat yX0_goBeat, Cond.code yX0_goBeat cX0_goBeat 3 (some .int), Cond.methodLink RX0 109 yX2_isReady, Cond.instanceMethod yX2_isReady, Cond.selects RX2 yX2_isReady yX2_isReady, Cond.code yX2_isReady cX2_isReady 2 (some .boolean), Cond.fieldLink RX2 63 "DrumTalk$Village" "queued" "I", Cond.methodLink RX2 87 yX2_isDrumming, Cond.methodLink RX2 73 yX2_isAwake, Cond.instanceMethod yX2_isAwake, Cond.selects RX2 yX2_isAwake yX2_isAwake, Cond.code yX2_isAwake cX2_isAwake 2 (some .boolean), Cond.fieldLink RX2 51 "DrumTalk$Village" "awakeFrom" "I", Cond.fieldLink RX2 15 "DrumTalk$Village" "awakeBeats" "I", Cond.methodLink RX2 81 yJ9_floorMod_7cf53, Cond.static yJ9_floorMod_7cf53]
def wsL_pass_r3 : List Cond := [Cond.initialized RJ9, Cond.code yJ9_floorMod_7cf53 cJ9_floorMod_7cf53 3 (some .int), Cond.methodLink RX0 112 yX0_beginDrumming, Cond.instanceMethod yX0_beginDrumming, Cond.selects RX0 yX0_beginDrumming yX0_beginDrumming, Cond.code yX0_beginDrumming cX0_beginDrumming 9 none, Cond.fieldLink RX0 39 "DrumTalk$Land" "phraseCount" "I", Cond.fieldLink RX0 21 "DrumTalk$Land" "toneCounts" "[I", Cond.fieldLink RX0 129 "DrumTalk$Village" "drumming" "I", Cond.fieldLink RX0 132 "DrumTalk$Village" "beatsLeft" "I", Cond.fieldLink RX0 45 "DrumTalk$Land" "drummings" "I", Cond.fieldLink RX0 139 "DrumTalk$Village" "cliff" "Z", Cond.methodLink RX0 126 yX2_takeFromQueue, Cond.instanceMethod yX2_takeFromQueue, Cond.selects RX2 yX2_takeFromQueue yX2_takeFromQueue, Cond.code yX2_takeFromQueue cX2_takeFromQueue 2 (some .int), Cond.fieldLink RX2 21 "DrumTalk$Village" "queue" "[I", Cond.methodLink RX2 57 arraycopyName, Cond.native arraycopyName, Cond.static arraycopyName, Cond.initialized "java/lang/System", Cond.methodLink RX0 93 yX2_distanceTo, Cond.instanceMethod yX2_distanceTo, Cond.selects RX2 yX2_distanceTo yX2_distanceTo]
def wsL_pass_r4 : List Cond := [Cond.code yX2_distanceTo cX2_distanceTo 2 (some .int), Cond.fieldLink RX2 41 "DrumTalk$Village" "x" "I", Cond.methodLink RX2 91 Lib.Math.abs.name, Cond.static Lib.Math.abs.name, Cond.initialized "java/lang/Math", Cond.code Lib.Math.abs.name Lib.Math.abs.code 1 (some .int), Cond.fieldLink RX2 44 "DrumTalk$Village" "y" "I", Cond.methodLink RX0 97 yX2_isHeardAt, Cond.instanceMethod yX2_isHeardAt, Cond.selects RX2 yX2_isHeardAt yX2_isHeardAt, Cond.code yX2_isHeardAt cX2_isHeardAt 2 (some .boolean), Cond.fieldLink RX2 9 "DrumTalk$Village" "drum" "I", Cond.methodLink RX0 135 yX1_add, Cond.instanceMethod yX1_add, Cond.selects RX1 yX1_add yX1_add, Cond.initialized RX1, Cond.code yX1_add cX1_add 4 none, Cond.fieldLink RX1 24 "DrumTalk$Sounds" "size" "I", Cond.fieldLink RX1 9 "DrumTalk$Sounds" "phrases" "[I", Cond.fieldLink RX1 15 "DrumTalk$Sounds" "firstBeats" "[I", Cond.fieldLink RX1 18 "DrumTalk$Sounds" "lastBeats" "[I", Cond.fieldLink RX1 21 "DrumTalk$Sounds" "drowned" "[I", Cond.methodLink RX0 116 yX2_drownIfDisturbed, Cond.instanceMethod yX2_drownIfDisturbed]
def wsL_pass_r5 : List Cond := [Cond.selects RX2 yX2_drownIfDisturbed yX2_drownIfDisturbed, Cond.code yX2_drownIfDisturbed cX2_drownIfDisturbed 2 none, Cond.fieldLink RX2 31 "DrumTalk$Village" "inTheAir" "LDrumTalk$Sounds;", Cond.methodLink RX2 98 yX1_lasting, Cond.instanceMethod yX1_lasting, Cond.selects RX1 yX1_lasting yX1_lasting, Cond.code yX1_lasting cX1_lasting 4 (some .int), Cond.methodLink RX2 101 yX1_drown, Cond.instanceMethod yX1_drown, Cond.selects RX1 yX1_drown yX1_drown, Cond.code yX1_drown cX1_drown 3 none, Cond.methodLink RX0 119 yX2_endSounds, Cond.instanceMethod yX2_endSounds, Cond.selects RX2 yX2_endSounds yX2_endSounds, Cond.code yX2_endSounds cX2_endSounds 5 (some .int), Cond.fieldLink RX2 105 "DrumTalk$Sounds" "size" "I", Cond.fieldLink RX2 108 "DrumTalk$Sounds" "lastBeats" "[I", Cond.fieldLink RX2 115 "DrumTalk$Sounds" "drowned" "[I", Cond.fieldLink RX2 70 "DrumTalk$Village" "drowned" "I", Cond.fieldLink RX2 117 "DrumTalk$Sounds" "phrases" "[I", Cond.methodLink RX2 111 yX1_move, Cond.instanceMethod yX1_move, Cond.selects RX1 yX1_move yX1_move, Cond.code yX1_move cX1_move 3 none]
def wsL_pass_r6 : List Cond := [Cond.methodLink RX2 95 yX2_isKnown, Cond.instanceMethod yX2_isKnown, Cond.selects RX2 yX2_isKnown yX2_isKnown, Cond.code yX2_isKnown cX2_isKnown 2 (some .boolean), Cond.fieldLink RX2 25 "DrumTalk$Village" "knownSince" "[I", Cond.methodLink RX2 120 yX2_takeIn, Cond.instanceMethod yX2_takeIn, Cond.selects RX2 yX2_takeIn yX2_takeIn, Cond.code yX2_takeIn cX2_takeIn 3 none, Cond.methodLink RX0 123 yX2_endDrumBeat, Cond.instanceMethod yX2_endDrumBeat, Cond.selects RX2 yX2_endDrumBeat yX2_endDrumBeat, Cond.code yX2_endDrumBeat cX2_endDrumBeat 1 none, Cond.fieldLink RX2 54 "DrumTalk$Village" "beatsLeft" "I"]
def wsL_pass : List Cond := .codeWith yL_pass cL_pass 4 (some .int) [(0, 9, 12, 13)] :: ((wsL_pass_r1 ++ (wsL_pass_r2 ++ (wsL_pass_r3 ++ (wsL_pass_r4 ++ (wsL_pass_r5 ++ wsL_pass_r6))))) ++ wsX30 ++ wsX00 ++ wsX20 ++ wsX10 ++ (vx_atS RX3 30 "java/lang/IllegalArgumentException" ["java/lang/RuntimeException", "java/lang/Exception"]).filter goodWord)
def wsL_reaches_r1 : List Cond := [Cond.classLink RL 21 "java/lang/IndexOutOfBoundsException", Cond.methodLink RL 58 yX3_reaches, Cond.instanceMethod yX3_reaches, Cond.selects RX3 yX3_reaches yX3_reaches, Cond.initialized RX3, Cond.code yX3_reaches cX3_reaches 5 (some .int), Cond.fieldLink RX3 16 "DrumTalk" "trial" "LDrumTalk$Land;", Cond.fieldLink RX3 12 "DrumTalk" "land" "LDrumTalk$Land;", Cond.fieldLink RX3 152 "DrumTalk$Land" "villages" "[LDrumTalk$Village;", Cond.methodLink RX3 137 yX3_checkVillage, Cond.instanceMethod yX3_checkVillage, Cond.selects RX3 yX3_checkVillage yX3_checkVillage, Cond.code yX3_checkVillage cX3_checkVillage 2 none, Cond.classLink RX3 107 "java/lang/IndexOutOfBoundsException", Cond.initialized "java/lang/IndexOutOfBoundsException", Cond.fieldLink RX3 33 "DrumTalk$Land" "villageCount" "I", Cond.methodLink RX3 91 yX3_checkPhrase, Cond.instanceMethod yX3_checkPhrase, Cond.selects RX3 yX3_checkPhrase yX3_checkPhrase, Cond.code yX3_checkPhrase cX3_checkPhrase 2 none, Cond.fieldLink RX3 79 "DrumTalk$Land" "phraseCount" "I", Cond.methodLink RX3 148 yX0_copy, Cond.instanceMethod yX0_copy, Cond.selects RX0 yX0_copy yX0_copy]
def wsL_reaches_r2 : List Cond := [Cond.initialized RX0, Cond.code yX0_copy cX0_copy 3 none, Cond.fieldLink RX0 25 "DrumTalk$Land" "villageCount" "I", Cond.fieldLink RX0 11 "DrumTalk$Land" "villages" "[LDrumTalk$Village;", Cond.fieldLink RX0 17 "DrumTalk$Land" "tones" "[I", Cond.methodLink RX0 33 arraycopyName, Cond.native arraycopyName, Cond.static arraycopyName, Cond.initialized "java/lang/System", Cond.fieldLink RX0 21 "DrumTalk$Land" "toneCounts" "[I", Cond.fieldLink RX0 39 "DrumTalk$Land" "phraseCount" "I", Cond.fieldLink RX0 42 "DrumTalk$Land" "beat" "I", Cond.fieldLink RX0 45 "DrumTalk$Land" "drummings" "I", Cond.methodLink RX0 29 yX2_copy, Cond.instanceMethod yX2_copy, Cond.selects RX2 yX2_copy yX2_copy, Cond.initialized RX2, Cond.code yX2_copy cX2_copy 2 none, Cond.fieldLink RX2 41 "DrumTalk$Village" "x" "I", Cond.fieldLink RX2 44 "DrumTalk$Village" "y" "I", Cond.fieldLink RX2 9 "DrumTalk$Village" "drum" "I", Cond.fieldLink RX2 47 "DrumTalk$Village" "cliff" "Z", Cond.fieldLink RX2 51 "DrumTalk$Village" "awakeFrom" "I", Cond.fieldLink RX2 15 "DrumTalk$Village" "awakeBeats" "I"]
def wsL_reaches_r3 : List Cond := [Cond.fieldLink RX2 18 "DrumTalk$Village" "drumming" "I", Cond.fieldLink RX2 54 "DrumTalk$Village" "beatsLeft" "I", Cond.fieldLink RX2 21 "DrumTalk$Village" "queue" "[I", Cond.methodLink RX2 57 arraycopyName, Cond.fieldLink RX2 63 "DrumTalk$Village" "queued" "I", Cond.fieldLink RX2 25 "DrumTalk$Village" "knownSince" "[I", Cond.fieldLink RX2 31 "DrumTalk$Village" "inTheAir" "LDrumTalk$Sounds;", Cond.fieldLink RX2 70 "DrumTalk$Village" "drowned" "I", Cond.methodLink RX2 66 yX1_copy, Cond.instanceMethod yX1_copy, Cond.selects RX1 yX1_copy yX1_copy, Cond.initialized RX1, Cond.code yX1_copy cX1_copy 2 none, Cond.fieldLink RX1 9 "DrumTalk$Sounds" "phrases" "[I", Cond.fieldLink RX1 24 "DrumTalk$Sounds" "size" "I", Cond.methodLink RX1 28 arraycopyName, Cond.fieldLink RX1 15 "DrumTalk$Sounds" "firstBeats" "[I", Cond.fieldLink RX1 18 "DrumTalk$Sounds" "lastBeats" "[I", Cond.fieldLink RX1 21 "DrumTalk$Sounds" "drowned" "[I", Cond.methodLink RX3 156 yX2_isKnown, Cond.instanceMethod yX2_isKnown, Cond.selects RX2 yX2_isKnown yX2_isKnown, Cond.code yX2_isKnown cX2_isKnown 2 (some .boolean), Cond.methodLink RX3 145 yX0_letGo]
def wsL_reaches_r4 : List Cond := [Cond.instanceMethod yX0_letGo, Cond.selects RX0 yX0_letGo yX0_letGo, Cond.code yX0_letGo cX0_letGo 4 (some .int), Cond.methodLink RX0 100 yX0_isQuiet, Cond.instanceMethod yX0_isQuiet, Cond.selects RX0 yX0_isQuiet yX0_isQuiet, Cond.code yX0_isQuiet cX0_isQuiet 3 (some .boolean), Cond.fieldLink RX0 106 "DrumTalk$Village" "queued" "I", Cond.fieldLink RX0 74 "DrumTalk$Village" "inTheAir" "LDrumTalk$Sounds;", Cond.fieldLink RX0 78 "DrumTalk$Sounds" "size" "I", Cond.methodLink RX0 70 yX2_isDrumming, Cond.instanceMethod yX2_isDrumming, Cond.selects RX2 yX2_isDrumming yX2_isDrumming, Cond.code yX2_isDrumming cX2_isDrumming 1 (some .boolean), Cond.methodLink RX0 103 yX0_goBeat, Cond.instanceMethod yX0_goBeat, Cond.selects RX0 yX0_goBeat yX0_goBeat, Cond.code yX0_goBeat cX0_goBeat 3 (some .int), Cond.methodLink RX0 109 yX2_isReady, Cond.instanceMethod yX2_isReady, Cond.selects RX2 yX2_isReady yX2_isReady, Cond.code yX2_isReady cX2_isReady 2 (some .boolean), Cond.methodLink RX2 87 yX2_isDrumming, Cond.methodLink RX2 73 yX2_isAwake]
def wsL_reaches_r5 : List Cond := [Cond.instanceMethod yX2_isAwake, Cond.selects RX2 yX2_isAwake yX2_isAwake, Cond.code yX2_isAwake cX2_isAwake 2 (some .boolean), Cond.methodLink RX2 81 yJ9_floorMod_7cf53, Cond.static yJ9_floorMod_7cf53, Cond.initialized RJ9, Cond.code yJ9_floorMod_7cf53 cJ9_floorMod_7cf53 3 (some .int), Cond.methodLink RX0 112 yX0_beginDrumming, Cond.instanceMethod yX0_beginDrumming, Cond.selects RX0 yX0_beginDrumming yX0_beginDrumming, Cond.code yX0_beginDrumming cX0_beginDrumming 9 none, Cond.fieldLink RX0 129 "DrumTalk$Village" "drumming" "I", Cond.fieldLink RX0 132 "DrumTalk$Village" "beatsLeft" "I", Cond.fieldLink RX0 139 "DrumTalk$Village" "cliff" "Z", Cond.methodLink RX0 126 yX2_takeFromQueue, Cond.instanceMethod yX2_takeFromQueue, Cond.selects RX2 yX2_takeFromQueue yX2_takeFromQueue, Cond.code yX2_takeFromQueue cX2_takeFromQueue 2 (some .int), Cond.methodLink RX0 93 yX2_distanceTo, Cond.instanceMethod yX2_distanceTo, Cond.selects RX2 yX2_distanceTo yX2_distanceTo, Cond.code yX2_distanceTo cX2_distanceTo 2 (some .int), Cond.methodLink RX2 91 Lib.Math.abs.name, Cond.static Lib.Math.abs.name]
def wsL_reaches_r6 : List Cond := [Cond.initialized "java/lang/Math", Cond.code Lib.Math.abs.name Lib.Math.abs.code 1 (some .int), Cond.methodLink RX0 97 yX2_isHeardAt, Cond.instanceMethod yX2_isHeardAt, Cond.selects RX2 yX2_isHeardAt yX2_isHeardAt, Cond.code yX2_isHeardAt cX2_isHeardAt 2 (some .boolean), Cond.methodLink RX0 135 yX1_add, Cond.instanceMethod yX1_add, Cond.selects RX1 yX1_add yX1_add, Cond.code yX1_add cX1_add 4 none, Cond.methodLink RX0 116 yX2_drownIfDisturbed, Cond.instanceMethod yX2_drownIfDisturbed, Cond.selects RX2 yX2_drownIfDisturbed yX2_drownIfDisturbed, Cond.code yX2_drownIfDisturbed cX2_drownIfDisturbed 2 none, Cond.methodLink RX2 98 yX1_lasting, Cond.instanceMethod yX1_lasting, Cond.selects RX1 yX1_lasting yX1_lasting, Cond.code yX1_lasting cX1_lasting 4 (some .int), Cond.methodLink RX2 101 yX1_drown, Cond.instanceMethod yX1_drown, Cond.selects RX1 yX1_drown yX1_drown, Cond.code yX1_drown cX1_drown 3 none, Cond.methodLink RX0 119 yX2_endSounds, Cond.instanceMethod yX2_endSounds]
def wsL_reaches_r7 : List Cond := [Cond.selects RX2 yX2_endSounds yX2_endSounds, Cond.code yX2_endSounds cX2_endSounds 5 (some .int), Cond.fieldLink RX2 105 "DrumTalk$Sounds" "size" "I", Cond.fieldLink RX2 108 "DrumTalk$Sounds" "lastBeats" "[I", Cond.fieldLink RX2 115 "DrumTalk$Sounds" "drowned" "[I", Cond.fieldLink RX2 117 "DrumTalk$Sounds" "phrases" "[I", Cond.methodLink RX2 111 yX1_move, Cond.instanceMethod yX1_move, Cond.selects RX1 yX1_move yX1_move, Cond.code yX1_move cX1_move 3 none, Cond.methodLink RX2 95 yX2_isKnown, Cond.methodLink RX2 120 yX2_takeIn, Cond.instanceMethod yX2_takeIn, Cond.selects RX2 yX2_takeIn yX2_takeIn, Cond.code yX2_takeIn cX2_takeIn 3 none, Cond.methodLink RX0 123 yX2_endDrumBeat, Cond.instanceMethod yX2_endDrumBeat, Cond.selects RX2 yX2_endDrumBeat yX2_endDrumBeat, Cond.code yX2_endDrumBeat cX2_endDrumBeat 1 none]
def wsL_reaches : List Cond := .codeWith yL_reaches cL_reaches 5 (some .int) [(0, 10, 13, 21)] :: ((wsL_reaches_r1 ++ (wsL_reaches_r2 ++ (wsL_reaches_r3 ++ (wsL_reaches_r4 ++ (wsL_reaches_r5 ++ (wsL_reaches_r6 ++ wsL_reaches_r7)))))) ++ wsX30 ++ wsX00 ++ wsX20 ++ wsX10 ++ (vx_atS RX3 111 "java/lang/IndexOutOfBoundsException" ["java/lang/RuntimeException", "java/lang/Exception"]).filter goodWord)
def wsL_best_r1 : List Cond := [Cond.classLink RL 21 "java/lang/IndexOutOfBoundsException", Cond.methodLink RL 61 yX3_best, Cond.instanceMethod yX3_best, Cond.selects RX3 yX3_best yX3_best, Cond.initialized RX3, Cond.code yX3_best cX3_best 7 (some .int), Cond.fieldLink RX3 16 "DrumTalk" "trial" "LDrumTalk$Land;", Cond.fieldLink RX3 12 "DrumTalk" "land" "LDrumTalk$Land;", Cond.methodLink RX3 137 yX3_checkVillage, Cond.instanceMethod yX3_checkVillage, Cond.selects RX3 yX3_checkVillage yX3_checkVillage, Cond.code yX3_checkVillage cX3_checkVillage 2 none, Cond.classLink RX3 107 "java/lang/IndexOutOfBoundsException", Cond.initialized "java/lang/IndexOutOfBoundsException", Cond.fieldLink RX3 33 "DrumTalk$Land" "villageCount" "I", Cond.methodLink RX3 91 yX3_checkPhrase, Cond.instanceMethod yX3_checkPhrase, Cond.selects RX3 yX3_checkPhrase yX3_checkPhrase, Cond.code yX3_checkPhrase cX3_checkPhrase 2 none, Cond.fieldLink RX3 79 "DrumTalk$Land" "phraseCount" "I", Cond.methodLink RX3 148 yX0_copy, Cond.instanceMethod yX0_copy, Cond.selects RX0 yX0_copy yX0_copy, Cond.initialized RX0]
def wsL_best_r2 : List Cond := [Cond.code yX0_copy cX0_copy 3 none, Cond.fieldLink RX0 25 "DrumTalk$Land" "villageCount" "I", Cond.fieldLink RX0 11 "DrumTalk$Land" "villages" "[LDrumTalk$Village;", Cond.fieldLink RX0 17 "DrumTalk$Land" "tones" "[I", Cond.methodLink RX0 33 arraycopyName, Cond.native arraycopyName, Cond.static arraycopyName, Cond.initialized "java/lang/System", Cond.fieldLink RX0 21 "DrumTalk$Land" "toneCounts" "[I", Cond.fieldLink RX0 39 "DrumTalk$Land" "phraseCount" "I", Cond.fieldLink RX0 42 "DrumTalk$Land" "beat" "I", Cond.fieldLink RX0 45 "DrumTalk$Land" "drummings" "I", Cond.methodLink RX0 29 yX2_copy, Cond.instanceMethod yX2_copy, Cond.selects RX2 yX2_copy yX2_copy, Cond.initialized RX2, Cond.code yX2_copy cX2_copy 2 none, Cond.fieldLink RX2 41 "DrumTalk$Village" "x" "I", Cond.fieldLink RX2 44 "DrumTalk$Village" "y" "I", Cond.fieldLink RX2 9 "DrumTalk$Village" "drum" "I", Cond.fieldLink RX2 47 "DrumTalk$Village" "cliff" "Z", Cond.fieldLink RX2 51 "DrumTalk$Village" "awakeFrom" "I", Cond.fieldLink RX2 15 "DrumTalk$Village" "awakeBeats" "I", Cond.fieldLink RX2 18 "DrumTalk$Village" "drumming" "I"]
def wsL_best_r3 : List Cond := [Cond.fieldLink RX2 54 "DrumTalk$Village" "beatsLeft" "I", Cond.fieldLink RX2 21 "DrumTalk$Village" "queue" "[I", Cond.methodLink RX2 57 arraycopyName, Cond.fieldLink RX2 63 "DrumTalk$Village" "queued" "I", Cond.fieldLink RX2 25 "DrumTalk$Village" "knownSince" "[I", Cond.fieldLink RX2 31 "DrumTalk$Village" "inTheAir" "LDrumTalk$Sounds;", Cond.fieldLink RX2 70 "DrumTalk$Village" "drowned" "I", Cond.methodLink RX2 66 yX1_copy, Cond.instanceMethod yX1_copy, Cond.selects RX1 yX1_copy yX1_copy, Cond.initialized RX1, Cond.code yX1_copy cX1_copy 2 none, Cond.fieldLink RX1 9 "DrumTalk$Sounds" "phrases" "[I", Cond.fieldLink RX1 24 "DrumTalk$Sounds" "size" "I", Cond.methodLink RX1 28 arraycopyName, Cond.fieldLink RX1 15 "DrumTalk$Sounds" "firstBeats" "[I", Cond.fieldLink RX1 18 "DrumTalk$Sounds" "lastBeats" "[I", Cond.fieldLink RX1 21 "DrumTalk$Sounds" "drowned" "[I", Cond.methodLink RX3 145 yX0_letGo, Cond.instanceMethod yX0_letGo, Cond.selects RX0 yX0_letGo yX0_letGo, Cond.code yX0_letGo cX0_letGo 4 (some .int), Cond.methodLink RX0 100 yX0_isQuiet, Cond.instanceMethod yX0_isQuiet]
def wsL_best_r4 : List Cond := [Cond.selects RX0 yX0_isQuiet yX0_isQuiet, Cond.code yX0_isQuiet cX0_isQuiet 3 (some .boolean), Cond.fieldLink RX0 106 "DrumTalk$Village" "queued" "I", Cond.fieldLink RX0 74 "DrumTalk$Village" "inTheAir" "LDrumTalk$Sounds;", Cond.fieldLink RX0 78 "DrumTalk$Sounds" "size" "I", Cond.methodLink RX0 70 yX2_isDrumming, Cond.instanceMethod yX2_isDrumming, Cond.selects RX2 yX2_isDrumming yX2_isDrumming, Cond.code yX2_isDrumming cX2_isDrumming 1 (some .boolean), Cond.methodLink RX0 103 yX0_goBeat, Cond.instanceMethod yX0_goBeat, Cond.selects RX0 yX0_goBeat yX0_goBeat, Cond.code yX0_goBeat cX0_goBeat 3 (some .int), Cond.methodLink RX0 109 yX2_isReady, Cond.instanceMethod yX2_isReady, Cond.selects RX2 yX2_isReady yX2_isReady, Cond.code yX2_isReady cX2_isReady 2 (some .boolean), Cond.methodLink RX2 87 yX2_isDrumming, Cond.methodLink RX2 73 yX2_isAwake, Cond.instanceMethod yX2_isAwake, Cond.selects RX2 yX2_isAwake yX2_isAwake, Cond.code yX2_isAwake cX2_isAwake 2 (some .boolean), Cond.methodLink RX2 81 yJ9_floorMod_7cf53, Cond.static yJ9_floorMod_7cf53]
def wsL_best_r5 : List Cond := [Cond.initialized RJ9, Cond.code yJ9_floorMod_7cf53 cJ9_floorMod_7cf53 3 (some .int), Cond.methodLink RX0 112 yX0_beginDrumming, Cond.instanceMethod yX0_beginDrumming, Cond.selects RX0 yX0_beginDrumming yX0_beginDrumming, Cond.code yX0_beginDrumming cX0_beginDrumming 9 none, Cond.fieldLink RX0 129 "DrumTalk$Village" "drumming" "I", Cond.fieldLink RX0 132 "DrumTalk$Village" "beatsLeft" "I", Cond.fieldLink RX0 139 "DrumTalk$Village" "cliff" "Z", Cond.methodLink RX0 126 yX2_takeFromQueue, Cond.instanceMethod yX2_takeFromQueue, Cond.selects RX2 yX2_takeFromQueue yX2_takeFromQueue, Cond.code yX2_takeFromQueue cX2_takeFromQueue 2 (some .int), Cond.methodLink RX0 93 yX2_distanceTo, Cond.instanceMethod yX2_distanceTo, Cond.selects RX2 yX2_distanceTo yX2_distanceTo, Cond.code yX2_distanceTo cX2_distanceTo 2 (some .int), Cond.methodLink RX2 91 Lib.Math.abs.name, Cond.static Lib.Math.abs.name, Cond.initialized "java/lang/Math", Cond.code Lib.Math.abs.name Lib.Math.abs.code 1 (some .int), Cond.methodLink RX0 97 yX2_isHeardAt, Cond.instanceMethod yX2_isHeardAt, Cond.selects RX2 yX2_isHeardAt yX2_isHeardAt]
def wsL_best_r6 : List Cond := [Cond.code yX2_isHeardAt cX2_isHeardAt 2 (some .boolean), Cond.methodLink RX0 135 yX1_add, Cond.instanceMethod yX1_add, Cond.selects RX1 yX1_add yX1_add, Cond.code yX1_add cX1_add 4 none, Cond.methodLink RX0 116 yX2_drownIfDisturbed, Cond.instanceMethod yX2_drownIfDisturbed, Cond.selects RX2 yX2_drownIfDisturbed yX2_drownIfDisturbed, Cond.code yX2_drownIfDisturbed cX2_drownIfDisturbed 2 none, Cond.methodLink RX2 98 yX1_lasting, Cond.instanceMethod yX1_lasting, Cond.selects RX1 yX1_lasting yX1_lasting, Cond.code yX1_lasting cX1_lasting 4 (some .int), Cond.methodLink RX2 101 yX1_drown, Cond.instanceMethod yX1_drown, Cond.selects RX1 yX1_drown yX1_drown, Cond.code yX1_drown cX1_drown 3 none, Cond.methodLink RX0 119 yX2_endSounds, Cond.instanceMethod yX2_endSounds, Cond.selects RX2 yX2_endSounds yX2_endSounds, Cond.code yX2_endSounds cX2_endSounds 5 (some .int), Cond.fieldLink RX2 105 "DrumTalk$Sounds" "size" "I", Cond.fieldLink RX2 108 "DrumTalk$Sounds" "lastBeats" "[I", Cond.fieldLink RX2 115 "DrumTalk$Sounds" "drowned" "[I"]
def wsL_best_r7 : List Cond := [Cond.fieldLink RX2 117 "DrumTalk$Sounds" "phrases" "[I", Cond.methodLink RX2 111 yX1_move, Cond.instanceMethod yX1_move, Cond.selects RX1 yX1_move yX1_move, Cond.code yX1_move cX1_move 3 none, Cond.methodLink RX2 95 yX2_isKnown, Cond.instanceMethod yX2_isKnown, Cond.selects RX2 yX2_isKnown yX2_isKnown, Cond.code yX2_isKnown cX2_isKnown 2 (some .boolean), Cond.methodLink RX2 120 yX2_takeIn, Cond.instanceMethod yX2_takeIn, Cond.selects RX2 yX2_takeIn yX2_takeIn, Cond.code yX2_takeIn cX2_takeIn 3 none, Cond.methodLink RX0 123 yX2_endDrumBeat, Cond.instanceMethod yX2_endDrumBeat, Cond.selects RX2 yX2_endDrumBeat yX2_endDrumBeat, Cond.code yX2_endDrumBeat cX2_endDrumBeat 1 none, Cond.methodLink RX3 159 yX0_knowersOf, Cond.instanceMethod yX0_knowersOf, Cond.selects RX0 yX0_knowersOf yX0_knowersOf, Cond.code yX0_knowersOf cX0_knowersOf 4 (some .int), Cond.methodLink RX0 89 yX2_isKnown, Cond.methodLink RX3 162 yX3_knowersIfTold, Cond.instanceMethod yX3_knowersIfTold]
def wsL_best_r8 : List Cond := [Cond.selects RX3 yX3_knowersIfTold yX3_knowersIfTold, Cond.code yX3_knowersIfTold cX3_knowersIfTold 5 (some .int), Cond.fieldLink RX3 152 "DrumTalk$Land" "villages" "[LDrumTalk$Village;", Cond.fieldLink RX3 95 "DrumTalk$Village" "queued" "I", Cond.fieldLink RX3 100 "DrumTalk$Land" "beat" "I", Cond.methodLink RX3 103 yX2_takeIn]
def wsL_best : List Cond := .codeWith yL_best cL_best 5 (some .int) [(0, 10, 13, 21)] :: ((wsL_best_r1 ++ (wsL_best_r2 ++ (wsL_best_r3 ++ (wsL_best_r4 ++ (wsL_best_r5 ++ (wsL_best_r6 ++ (wsL_best_r7 ++ wsL_best_r8))))))) ++ wsX30 ++ wsX00 ++ wsX20 ++ wsX10 ++ (vx_atS RX3 111 "java/lang/IndexOutOfBoundsException" ["java/lang/RuntimeException", "java/lang/Exception"]).filter goodWord)
def wsL_larger_r1 : List Cond := [Cond.classLink RL 13 "java/lang/IllegalArgumentException", Cond.methodLink RL 64 yX3_larger, Cond.instanceMethod yX3_larger, Cond.selects RX3 yX3_larger yX3_larger, Cond.initialized RX3, Cond.code yX3_larger cX3_larger 6 (some .int), Cond.classLink RX3 26 "java/lang/IllegalArgumentException", Cond.initialized "java/lang/IllegalArgumentException", Cond.fieldLink RX3 16 "DrumTalk" "trial" "LDrumTalk$Land;", Cond.fieldLink RX3 12 "DrumTalk" "land" "LDrumTalk$Land;", Cond.fieldLink RX3 33 "DrumTalk$Land" "villageCount" "I", Cond.fieldLink RX3 152 "DrumTalk$Land" "villages" "[LDrumTalk$Village;", Cond.fieldLink RX3 56 "DrumTalk$Village" "drum" "I", Cond.methodLink RX3 148 yX0_copy, Cond.instanceMethod yX0_copy, Cond.selects RX0 yX0_copy yX0_copy, Cond.initialized RX0, Cond.code yX0_copy cX0_copy 3 none, Cond.fieldLink RX0 25 "DrumTalk$Land" "villageCount" "I", Cond.fieldLink RX0 11 "DrumTalk$Land" "villages" "[LDrumTalk$Village;", Cond.fieldLink RX0 17 "DrumTalk$Land" "tones" "[I", Cond.methodLink RX0 33 arraycopyName, Cond.native arraycopyName, Cond.static arraycopyName]
def wsL_larger_r2 : List Cond := [Cond.initialized "java/lang/System", Cond.fieldLink RX0 21 "DrumTalk$Land" "toneCounts" "[I", Cond.fieldLink RX0 39 "DrumTalk$Land" "phraseCount" "I", Cond.fieldLink RX0 42 "DrumTalk$Land" "beat" "I", Cond.fieldLink RX0 45 "DrumTalk$Land" "drummings" "I", Cond.methodLink RX0 29 yX2_copy, Cond.instanceMethod yX2_copy, Cond.selects RX2 yX2_copy yX2_copy, Cond.initialized RX2, Cond.code yX2_copy cX2_copy 2 none, Cond.fieldLink RX2 41 "DrumTalk$Village" "x" "I", Cond.fieldLink RX2 44 "DrumTalk$Village" "y" "I", Cond.fieldLink RX2 9 "DrumTalk$Village" "drum" "I", Cond.fieldLink RX2 47 "DrumTalk$Village" "cliff" "Z", Cond.fieldLink RX2 51 "DrumTalk$Village" "awakeFrom" "I", Cond.fieldLink RX2 15 "DrumTalk$Village" "awakeBeats" "I", Cond.fieldLink RX2 18 "DrumTalk$Village" "drumming" "I", Cond.fieldLink RX2 54 "DrumTalk$Village" "beatsLeft" "I", Cond.fieldLink RX2 21 "DrumTalk$Village" "queue" "[I", Cond.methodLink RX2 57 arraycopyName, Cond.fieldLink RX2 63 "DrumTalk$Village" "queued" "I", Cond.fieldLink RX2 25 "DrumTalk$Village" "knownSince" "[I", Cond.fieldLink RX2 31 "DrumTalk$Village" "inTheAir" "LDrumTalk$Sounds;", Cond.fieldLink RX2 70 "DrumTalk$Village" "drowned" "I"]
def wsL_larger_r3 : List Cond := [Cond.methodLink RX2 66 yX1_copy, Cond.instanceMethod yX1_copy, Cond.selects RX1 yX1_copy yX1_copy, Cond.initialized RX1, Cond.code yX1_copy cX1_copy 2 none, Cond.fieldLink RX1 9 "DrumTalk$Sounds" "phrases" "[I", Cond.fieldLink RX1 24 "DrumTalk$Sounds" "size" "I", Cond.methodLink RX1 28 arraycopyName, Cond.fieldLink RX1 15 "DrumTalk$Sounds" "firstBeats" "[I", Cond.fieldLink RX1 18 "DrumTalk$Sounds" "lastBeats" "[I", Cond.fieldLink RX1 21 "DrumTalk$Sounds" "drowned" "[I", Cond.methodLink RX3 145 yX0_letGo, Cond.instanceMethod yX0_letGo, Cond.selects RX0 yX0_letGo yX0_letGo, Cond.code yX0_letGo cX0_letGo 4 (some .int), Cond.methodLink RX0 100 yX0_isQuiet, Cond.instanceMethod yX0_isQuiet, Cond.selects RX0 yX0_isQuiet yX0_isQuiet, Cond.code yX0_isQuiet cX0_isQuiet 3 (some .boolean), Cond.fieldLink RX0 106 "DrumTalk$Village" "queued" "I", Cond.fieldLink RX0 74 "DrumTalk$Village" "inTheAir" "LDrumTalk$Sounds;", Cond.fieldLink RX0 78 "DrumTalk$Sounds" "size" "I", Cond.methodLink RX0 70 yX2_isDrumming, Cond.instanceMethod yX2_isDrumming]
def wsL_larger_r4 : List Cond := [Cond.selects RX2 yX2_isDrumming yX2_isDrumming, Cond.code yX2_isDrumming cX2_isDrumming 1 (some .boolean), Cond.methodLink RX0 103 yX0_goBeat, Cond.instanceMethod yX0_goBeat, Cond.selects RX0 yX0_goBeat yX0_goBeat, Cond.code yX0_goBeat cX0_goBeat 3 (some .int), Cond.methodLink RX0 109 yX2_isReady, Cond.instanceMethod yX2_isReady, Cond.selects RX2 yX2_isReady yX2_isReady, Cond.code yX2_isReady cX2_isReady 2 (some .boolean), Cond.methodLink RX2 87 yX2_isDrumming, Cond.methodLink RX2 73 yX2_isAwake, Cond.instanceMethod yX2_isAwake, Cond.selects RX2 yX2_isAwake yX2_isAwake, Cond.code yX2_isAwake cX2_isAwake 2 (some .boolean), Cond.methodLink RX2 81 yJ9_floorMod_7cf53, Cond.static yJ9_floorMod_7cf53, Cond.initialized RJ9, Cond.code yJ9_floorMod_7cf53 cJ9_floorMod_7cf53 3 (some .int), Cond.methodLink RX0 112 yX0_beginDrumming, Cond.instanceMethod yX0_beginDrumming, Cond.selects RX0 yX0_beginDrumming yX0_beginDrumming, Cond.code yX0_beginDrumming cX0_beginDrumming 9 none, Cond.fieldLink RX0 129 "DrumTalk$Village" "drumming" "I"]
def wsL_larger_r5 : List Cond := [Cond.fieldLink RX0 132 "DrumTalk$Village" "beatsLeft" "I", Cond.fieldLink RX0 139 "DrumTalk$Village" "cliff" "Z", Cond.methodLink RX0 126 yX2_takeFromQueue, Cond.instanceMethod yX2_takeFromQueue, Cond.selects RX2 yX2_takeFromQueue yX2_takeFromQueue, Cond.code yX2_takeFromQueue cX2_takeFromQueue 2 (some .int), Cond.methodLink RX0 93 yX2_distanceTo, Cond.instanceMethod yX2_distanceTo, Cond.selects RX2 yX2_distanceTo yX2_distanceTo, Cond.code yX2_distanceTo cX2_distanceTo 2 (some .int), Cond.methodLink RX2 91 Lib.Math.abs.name, Cond.static Lib.Math.abs.name, Cond.initialized "java/lang/Math", Cond.code Lib.Math.abs.name Lib.Math.abs.code 1 (some .int), Cond.methodLink RX0 97 yX2_isHeardAt, Cond.instanceMethod yX2_isHeardAt, Cond.selects RX2 yX2_isHeardAt yX2_isHeardAt, Cond.code yX2_isHeardAt cX2_isHeardAt 2 (some .boolean), Cond.methodLink RX0 135 yX1_add, Cond.instanceMethod yX1_add, Cond.selects RX1 yX1_add yX1_add, Cond.code yX1_add cX1_add 4 none, Cond.methodLink RX0 116 yX2_drownIfDisturbed, Cond.instanceMethod yX2_drownIfDisturbed]
def wsL_larger_r6 : List Cond := [Cond.selects RX2 yX2_drownIfDisturbed yX2_drownIfDisturbed, Cond.code yX2_drownIfDisturbed cX2_drownIfDisturbed 2 none, Cond.methodLink RX2 98 yX1_lasting, Cond.instanceMethod yX1_lasting, Cond.selects RX1 yX1_lasting yX1_lasting, Cond.code yX1_lasting cX1_lasting 4 (some .int), Cond.methodLink RX2 101 yX1_drown, Cond.instanceMethod yX1_drown, Cond.selects RX1 yX1_drown yX1_drown, Cond.code yX1_drown cX1_drown 3 none, Cond.methodLink RX0 119 yX2_endSounds, Cond.instanceMethod yX2_endSounds, Cond.selects RX2 yX2_endSounds yX2_endSounds, Cond.code yX2_endSounds cX2_endSounds 5 (some .int), Cond.fieldLink RX2 105 "DrumTalk$Sounds" "size" "I", Cond.fieldLink RX2 108 "DrumTalk$Sounds" "lastBeats" "[I", Cond.fieldLink RX2 115 "DrumTalk$Sounds" "drowned" "[I", Cond.fieldLink RX2 117 "DrumTalk$Sounds" "phrases" "[I", Cond.methodLink RX2 111 yX1_move, Cond.instanceMethod yX1_move, Cond.selects RX1 yX1_move yX1_move, Cond.code yX1_move cX1_move 3 none, Cond.methodLink RX2 95 yX2_isKnown, Cond.instanceMethod yX2_isKnown]
def wsL_larger_r7 : List Cond := [Cond.selects RX2 yX2_isKnown yX2_isKnown, Cond.code yX2_isKnown cX2_isKnown 2 (some .boolean), Cond.methodLink RX2 120 yX2_takeIn, Cond.instanceMethod yX2_takeIn, Cond.selects RX2 yX2_takeIn yX2_takeIn, Cond.code yX2_takeIn cX2_takeIn 3 none, Cond.methodLink RX0 123 yX2_endDrumBeat, Cond.instanceMethod yX2_endDrumBeat, Cond.selects RX2 yX2_endDrumBeat yX2_endDrumBeat, Cond.code yX2_endDrumBeat cX2_endDrumBeat 1 none, Cond.methodLink RX3 167 yX0_knownPairs, Cond.instanceMethod yX0_knownPairs, Cond.selects RX0 yX0_knownPairs yX0_knownPairs, Cond.code yX0_knownPairs cX0_knownPairs 3 (some .int), Cond.methodLink RX0 86 yX2_phrasesKnown, Cond.instanceMethod yX2_phrasesKnown, Cond.selects RX2 yX2_phrasesKnown yX2_phrasesKnown, Cond.code yX2_phrasesKnown cX2_phrasesKnown 3 (some .int), Cond.methodLink RX3 171 yX3_pairsIfLarger, Cond.instanceMethod yX3_pairsIfLarger, Cond.selects RX3 yX3_pairsIfLarger yX3_pairsIfLarger, Cond.code yX3_pairsIfLarger cX3_pairsIfLarger 3 (some .int)]
def wsL_larger : List Cond := .codeWith yL_larger cL_larger 4 (some .int) [(0, 9, 12, 13)] :: ((wsL_larger_r1 ++ (wsL_larger_r2 ++ (wsL_larger_r3 ++ (wsL_larger_r4 ++ (wsL_larger_r5 ++ (wsL_larger_r6 ++ wsL_larger_r7)))))) ++ wsX30 ++ wsX00 ++ wsX20 ++ wsX10 ++ (vx_atS RX3 30 "java/lang/IllegalArgumentException" ["java/lang/RuntimeException", "java/lang/Exception"]).filter goodWord)
abbrev vwCl : List vw_C := [(RX0, TX0, 7), (RX1, TX1, 5), (RX2, TX2, 13), (RX3, TX3, 2), (RX4, TX4, 16), (RX5, TX5, 12)]
