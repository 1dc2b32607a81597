section
-- ===== PART A: goes FIRST, ahead of the names: the tables' words, and 'selects' of the private methods out of them =====
/-- a private method of a class that the tables say can be made, by its rows of tables_1 -/
def lw_okq (q : MethodName × Nat) : Prop := (q.1.cls ≠ "java/lang/invoke/MethodHandle" ∧ q.1.cls ≠ "java/lang/invoke/VarHandle") ∧ Cond.instantiable q.1.cls q.2 ∈ tables_1 ∧ Cond.privateMethod q.1 ∈ tables_1 ∧ Cond.instanceMethod q.1 ∈ tables_1
theorem lw_p0 : lw_okq (⟨"DrumTalk", "digestOn", "(JLDrumTalk$Village;)J"⟩, 2) := ⟨⟨by decide +kernel, by decide +kernel⟩, List.mem_of_getElem? (i := 17) (by decide +kernel), List.mem_of_getElem? (i := 203) (by decide +kernel), List.mem_of_getElem? (i := 204) (by decide +kernel)⟩
theorem lw_p1 : lw_okq (⟨"java/lang/Throwable", "fillInStackTrace", "(I)Ljava/lang/Throwable;"⟩, 6) := ⟨⟨by decide +kernel, by decide +kernel⟩, List.mem_of_getElem? (i := 276) (by decide +kernel), List.mem_of_getElem? (i := 274) (by decide +kernel), List.mem_of_getElem? (i := 275) (by decide +kernel)⟩
theorem lw_p2 : lw_okq (⟨"DrumTalk", "villageOf", "(I)LDrumTalk$Village;"⟩, 2) := ⟨⟨by decide +kernel, by decide +kernel⟩, List.mem_of_getElem? (i := 17) (by decide +kernel), List.mem_of_getElem? (i := 338) (by decide +kernel), List.mem_of_getElem? (i := 339) (by decide +kernel)⟩
theorem lw_p3 : lw_okq (⟨"DrumTalk", "checkVillage", "(I)V"⟩, 2) := ⟨⟨by decide +kernel, by decide +kernel⟩, List.mem_of_getElem? (i := 17) (by decide +kernel), List.mem_of_getElem? (i := 342) (by decide +kernel), List.mem_of_getElem? (i := 343) (by decide +kernel)⟩
theorem lw_p4 : lw_okq (⟨"DrumTalk", "checkPhrase", "(I)V"⟩, 2) := ⟨⟨by decide +kernel, by decide +kernel⟩, List.mem_of_getElem? (i := 17) (by decide +kernel), List.mem_of_getElem? (i := 405) (by decide +kernel), List.mem_of_getElem? (i := 406) (by decide +kernel)⟩
theorem lw_p5 : lw_okq (⟨"DrumTalk", "knowersIfTold", "(III)I"⟩, 2) := ⟨⟨by decide +kernel, by decide +kernel⟩, List.mem_of_getElem? (i := 17) (by decide +kernel), List.mem_of_getElem? (i := 571) (by decide +kernel), List.mem_of_getElem? (i := 572) (by decide +kernel)⟩
theorem lw_p6 : lw_okq (⟨"DrumTalk", "pairsIfLarger", "(II)I"⟩, 2) := ⟨⟨by decide +kernel, by decide +kernel⟩, List.mem_of_getElem? (i := 17) (by decide +kernel), List.mem_of_getElem? (i := 583) (by decide +kernel), List.mem_of_getElem? (i := 584) (by decide +kernel)⟩
theorem lw_p7 : lw_okq (⟨"DrumTalkModel", "no", "(I)I"⟩, 12) := ⟨⟨by decide +kernel, by decide +kernel⟩, List.mem_of_getElem? (i := 587) (by decide +kernel), List.mem_of_getElem? (i := 712) (by decide +kernel), List.mem_of_getElem? (i := 713) (by decide +kernel)⟩
theorem lw_p8 : lw_okq (⟨"DrumTalkModel", "isVillage", "(I)Z"⟩, 12) := ⟨⟨by decide +kernel, by decide +kernel⟩, List.mem_of_getElem? (i := 587) (by decide +kernel), List.mem_of_getElem? (i := 720) (by decide +kernel), List.mem_of_getElem? (i := 721) (by decide +kernel)⟩
theorem lw_p9 : lw_okq (⟨"DrumTalkModel", "isPhrase", "(I)Z"⟩, 12) := ⟨⟨by decide +kernel, by decide +kernel⟩, List.mem_of_getElem? (i := 587) (by decide +kernel), List.mem_of_getElem? (i := 740) (by decide +kernel), List.mem_of_getElem? (i := 741) (by decide +kernel)⟩
theorem lw_p10 : lw_okq (⟨"DrumTalkModel", "villageTold", "(II)I"⟩, 12) := ⟨⟨by decide +kernel, by decide +kernel⟩, List.mem_of_getElem? (i := 587) (by decide +kernel), List.mem_of_getElem? (i := 756) (by decide +kernel), List.mem_of_getElem? (i := 757) (by decide +kernel)⟩
theorem lw_p11 : lw_okq (⟨"DrumTalkModel", "counted", "(I)I"⟩, 12) := ⟨⟨by decide +kernel, by decide +kernel⟩, List.mem_of_getElem? (i := 587) (by decide +kernel), List.mem_of_getElem? (i := 784) (by decide +kernel), List.mem_of_getElem? (i := 785) (by decide +kernel)⟩
theorem lw_p12 : lw_okq (⟨"DrumTalkModel", "far", "(II)I"⟩, 12) := ⟨⟨by decide +kernel, by decide +kernel⟩, List.mem_of_getElem? (i := 587) (by decide +kernel), List.mem_of_getElem? (i := 804) (by decide +kernel), List.mem_of_getElem? (i := 805) (by decide +kernel)⟩
theorem lw_p13 : lw_okq (⟨"DrumTalkModel$State", "begin", "(I)V"⟩, 16) := ⟨⟨by decide +kernel, by decide +kernel⟩, List.mem_of_getElem? (i := 593) (by decide +kernel), List.mem_of_getElem? (i := 817) (by decide +kernel), List.mem_of_getElem? (i := 818) (by decide +kernel)⟩
theorem lw_p14 : lw_okq (⟨"DrumTalkModel$State", "sound", "(III)V"⟩, 16) := ⟨⟨by decide +kernel, by decide +kernel⟩, List.mem_of_getElem? (i := 593) (by decide +kernel), List.mem_of_getElem? (i := 824) (by decide +kernel), List.mem_of_getElem? (i := 825) (by decide +kernel)⟩
theorem lw_p15 : lw_okq (⟨"DrumTalkModel$State", "copy", "([I[II)V"⟩, 16) := ⟨⟨by decide +kernel, by decide +kernel⟩, List.mem_of_getElem? (i := 593) (by decide +kernel), List.mem_of_getElem? (i := 842) (by decide +kernel), List.mem_of_getElem? (i := 843) (by decide +kernel)⟩
def lw_privs_1 : List (MethodName × Nat) := [(⟨"DrumTalk", "digestOn", "(JLDrumTalk$Village;)J"⟩, 2), (⟨"java/lang/Throwable", "fillInStackTrace", "(I)Ljava/lang/Throwable;"⟩, 6), (⟨"DrumTalk", "villageOf", "(I)LDrumTalk$Village;"⟩, 2), (⟨"DrumTalk", "checkVillage", "(I)V"⟩, 2), (⟨"DrumTalk", "checkPhrase", "(I)V"⟩, 2), (⟨"DrumTalk", "knowersIfTold", "(III)I"⟩, 2), (⟨"DrumTalk", "pairsIfLarger", "(II)I"⟩, 2), (⟨"DrumTalkModel", "no", "(I)I"⟩, 12), (⟨"DrumTalkModel", "isVillage", "(I)Z"⟩, 12), (⟨"DrumTalkModel", "isPhrase", "(I)Z"⟩, 12), (⟨"DrumTalkModel", "villageTold", "(II)I"⟩, 12), (⟨"DrumTalkModel", "counted", "(I)I"⟩, 12), (⟨"DrumTalkModel", "far", "(II)I"⟩, 12), (⟨"DrumTalkModel$State", "begin", "(I)V"⟩, 16), (⟨"DrumTalkModel$State", "sound", "(III)V"⟩, 16), (⟨"DrumTalkModel$State", "copy", "([I[II)V"⟩, 16)]
theorem lw_r1 : ∀ q ∈ lw_privs_1, lw_okq q := List.forall_mem_cons.mpr ⟨lw_p0, List.forall_mem_cons.mpr ⟨lw_p1, List.forall_mem_cons.mpr ⟨lw_p2, List.forall_mem_cons.mpr ⟨lw_p3, List.forall_mem_cons.mpr ⟨lw_p4, List.forall_mem_cons.mpr ⟨lw_p5, List.forall_mem_cons.mpr ⟨lw_p6, List.forall_mem_cons.mpr ⟨lw_p7, List.forall_mem_cons.mpr ⟨lw_p8, List.forall_mem_cons.mpr ⟨lw_p9, List.forall_mem_cons.mpr ⟨lw_p10, List.forall_mem_cons.mpr ⟨lw_p11, List.forall_mem_cons.mpr ⟨lw_p12, List.forall_mem_cons.mpr ⟨lw_p13, List.forall_mem_cons.mpr ⟨lw_p14, List.forall_mem_cons.mpr ⟨lw_p15, fun _ h => absurd h List.not_mem_nil⟩⟩⟩⟩⟩⟩⟩⟩⟩⟩⟩⟩⟩⟩⟩⟩
def lw_privs : List (MethodName × Nat) := lw_privs_1
def lw_tbl : List Cond := k2_sels lw_privs ++ tables_1
theorem lw_privs_ok : ∀ q ∈ lw_privs, lw_okq q := lw_r1
/-- the streams that the claim lets the run draw from -/
abbrev lw_cs : List Choice := [Jvm.Choice.named "NaN.bits"]
theorem lw_bits : nanBits ∈ lw_cs := by first | decide | exact List.mem_cons_self | simp [lw_cs, nanBits]
-- ===== end of PART A; then your names; then what follows =====
end
section
/-! ===== BEGIN words of one list among another's, by their places ===== -/
theorem goodIn_r {big : List Cond} (ws : List Cond) (ps : List Nat) (hp : ws = ps.filterMap (fun i => big[i]?)) (h : ws.all goodWord = true) : GoodIn big ws := by
  intro w hw
  have h1 := List.all_eq_true.mp h w hw
  rw [hp] at hw
  obtain ⟨i, -, hi⟩ := List.mem_filterMap.mp hw
  have hm : w ∈ big := by first | exact List.mem_of_getElem? hi | exact List.getElem?_mem hi
  exact ⟨hm, good_of_word h1⟩
theorem goodIn_app {big a b : List Cond} (ha : GoodIn big a) (hb : GoodIn big b) : GoodIn big (a ++ b) := fun w h => (List.mem_append.mp h).elim (ha w) (hb w)
theorem goodIn_ca {big a b : List Cond} {c : Cond} (ha : GoodIn big (c :: a)) (hb : GoodIn big b) : GoodIn big (c :: (a ++ b)) := fun w h => (List.mem_cons.mp h).elim (fun e => ha w (List.mem_cons.mpr (Or.inl e))) (fun h => (List.mem_append.mp h).elim (fun h => ha w (List.mem_cons.mpr (Or.inr h))) (hb w))
theorem goodIn_sub {big ws : List Cond} (hm : ∀ w ∈ ws, w ∈ big) (h : ws.all goodWord = true) : GoodIn big ws := fun w hw => ⟨hm w hw, good_of_word (List.all_eq_true.mp h w hw)⟩
/-! ===== END ===== -/

/-! ===== BEGIN exceptions that leave a method, and their catching by the caller (launches without stack traces) ===== -/
section VXA
/-! The laws vx_back, vx_callV, vx_callS, vx_callSW, vx_throw0, vx_throwS follow proofs of the library, with one case more: JvmDerived/Free/Laws.lean (Back.of_free), Shelf42/LK1.lean (callV, callS), Shelf/KitTraced.lean (throwNew0V, throwNewS). -/
/-- where a method has thrown q: the class by its name, the cell, what was written, the world -/
def vx_T (XC : String → State → State → Prop) (st : State) (q : Addr) (t : State) (mc ms : Nat) (free : Addr → Prop) : Prop :=
  ∃ (E : String) (ce : Cell) (L : List Loc), XC E st t ∧ t.heap[q]? = some ce ∧ ce.vm = .none ∧ st.vm.findClass E = some ce.cls ∧ st.WarmedH t.vm ∧ st.sameButNew ({ t with vm := st.vm } : State) L mc ms ∧ ∀ z ∈ L, free z.base
def vx_Q (Qc : Array Value → State → Outcome → State → Prop) (XC : String → State → State → Prop) (mc ms : Nat) (free : Addr → Prop) : Array Value → State → Outcome → State → Prop := fun a st o t =>
  (Qc a st o t ∧ ∃ L, FrameEnd st o t L mc ms ∧ ∀ q ∈ L, free q.base) ∨ ∃ q, o = .threw q ∧ vx_T XC st q t mc ms free
/-- a callee that returns or throws -/
def vx_Met (l : Launch) (y : MethodName) (ws : List Cond) (rm : Room) (Pc : Array Value → State → Prop) (Qc : Array Value → State → Outcome → State → Prop) (XC : String → State → State → Prop) (mc ms : Nat) (free : Addr → Prop) : Prop :=
  MetFree l y (headSpec ws rm) Pc (fun _ _ _ _ _ => True) (vx_Q Qc XC mc ms free)
def vx_Post (XC : String → State → State → Prop) (mc ms : Nat) (free : Addr → Prop) : Pt → Array Value → Addr → Pt → Prop := fun A a q B =>
  ∃ (g : JFrame) (mk : MethodId) (t : State) (L : List Loc) (E : String) (ce : Cell), B.U.heap = t.heap ∧ B.U.vm = t.vm ∧ XC E (A.U.calling g mk a) t ∧ t.heap[q]? = some ce ∧ ce.vm = .none ∧ A.U.vm.findClass E = some ce.cls ∧ B.locs = A.locs ++ L ∧ (∀ z ∈ L, free z.base) ∧ B.cells = A.cells + mc ∧ B.slots = A.slots + ms
def vx_Back (l : Launch) (R : Room) (p : Program) (e : Env) (below : List Frame) (s : State) (sargs : Array Value) (y : MethodName) (len W9 : Nat)
    (Pre : Pt → Array Value → Prop) (Post : Pt → Array Value → Option Value → Pt → Prop) (PostX : Pt → Array Value → Addr → Pt → Prop) : Prop :=
  ∀ (m : MethodId) (meth : Method) (c : Code) (A : Pt) (g : JFrame) (ig : Instr) (mk : MethodId) (a : Array Value),
    Stand p l e R s m sargs below meth c A.U A.locs A.cells A.slots → g.method = m → g.locals.size = c.maxLocals → decode c.code g.pc = .ok (ig, len) →
    2 * g.monitorRoom + (g.stack.map fun v => v.category).sum ≤ W9 → A.U.methodNamed? y = some mk → Pre A a →
    (∃ (v : Option Value) (B : Pt), Stand p l e R s m sargs below meth c B.U B.locs B.cells B.slots ∧ Post A a v B ∧
      Steps p.tables e below (doInvoke e (A.U.setTop g) [] mk a).1 (B.U.setTop { g with pc := g.pc + len, stack := v.toList ++ g.stack })) ∨
    (∃ (q : Addr) (B : Pt), Stand p l e R s m sargs below meth c B.U B.locs B.cells B.slots ∧ PostX A a q B ∧
      Steps p.tables e below (doInvoke e (A.U.setTop g) [] mk a).1 ((B.U.setTop g).pushFrame (.throwing q)))
section Payer
variable {l : Launch} {R : Room} {p : Program} {e : Env} {below : List Frame} {s : State} {sargs : Array Value} {y : MethodName} {len W9 : Nat}
theorem vx_back {ws : List Cond} {rm : Room} {Pc : Array Value → State → Prop} {Qc : Array Value → State → Outcome → State → Prop} {XC : String → State → State → Prop} {mc ms : Nat} {free : Addr → Prop} {bytes : ByteArray} {maxL : Nat} {ret : Option FieldType}
    (hM : vx_Met l y ws rm Pc Qc XC mc ms free) (hblind : FrameBlind Pc) (hrc : rm.cells = mc) (hrs : rm.slots = ms)
    (hframes : rm.frames + 1 ≤ R.frames) (hlocals : W9 + (maxL + 11) + rm.locals ≤ R.locals)
    (hws : ∀ w ∈ ws, ∀ a' U, s.WarmedH U.vm → w.before a' U = true) (hcode : Cond.code y bytes maxL ret ∈ ws) (hinit : ∀ a' U, s.WarmedH U.vm → (Cond.initialized y.cls).before a' U = true) :
    vx_Back l R p e below s sargs y len W9 (PreOf R mc ms Pc) (PostOf Qc mc ms free) (vx_Post XC mc ms free) := by
  intro m meth c A g ig mk a X hg hsize hdg hW hn hp
  have h1 : (headSpec ws rm).pre.before a A.U = true := atoms_intro fun w hw => hws w hw _ _ X.warmed
  have h2 : (Cond.code y bytes maxL ret).before a A.U = true := hws _ hcode _ _ X.warmed
  have h3 : (Cond.initialized y.cls).before a A.U = true := hinit _ _ X.warmed
  have h4 : A.cells + (headSpec ws rm).room.cells ≤ R.cells := by rw [show (headSpec ws rm).room.cells = mc from hrc]; exact hp.1
  have h5 : A.slots + (headSpec ws rm).room.slots ≤ R.slots := by rw [show (headSpec ws rm).room.slots = ms from hrs]; exact hp.2.1
  have hPc : Pc a (A.U.calling g mk a) := hblind _ _ _ _ hp.2.2
  obtain ⟨U, Ls, c0, s0⟩ := A
  dsimp only [Pt.U, Pt.locs, Pt.cells, Pt.slots] at h1 h2 h3 h4 h5 X hn hPc ⊢
  obtain ⟨methY, cY, hmY, hcY, -, hlY, -, -, -, -⟩ := Cond.code_spec hn h2
  obtain ⟨kY, hkY, -⟩ := className_of_methodNamed hn
  have hinitY : kY.init = .initialized := Cond.initialized_spec (findClass_of_methodNamed hn) hkY h3
  have h : At U g.method c below := by rw [hg]; exact X.here
  have hlocals9 : W9 + (maxL + 11) + (headSpec ws rm).room.locals ≤ R.locals := hlocals
  have happ : (headSpec ws rm).appliesLoose y e.platform (U.calling g mk a) = true :=
    Spec.appliesLoose_calling (g := g) h hdg hn hkY hinitY
      (X.room_calling (g := g) (R' := (headSpec ws rm).room) hsize hmY hcY hframes (by rw [hlY]; omega) h4 h5) h1
  obtain ⟨mid, hmid⟩ := h.above
  have hfr : (U.setTop g).frames = (.java g :: mid) ++ below := by rw [State.frames_setTop' g h.top, hmid]; rfl
  obtain ⟨o, s₂, hsteps, -, hend, hq⟩ := Steps.callFree hM p X.admits X.cas X.clock (acts := []) hfr happ hPc trivial
  have hq' : vx_Q Qc XC mc ms free a (U.calling g mk a) o s₂ := hq
  rw [State.frames_setTop' g h.top] at hend
  obtain ⟨g₀, hg0⟩ := Option.isSome_iff_exists.mp h.top
  obtain ⟨r, hr⟩ := State.topJava?_eq_some.mp hg0
  have hr' : (({ U with heap := s₂.heap, slotsUsed := s₂.slotsUsed } : State).setVm s₂.vm).frames = .java g₀ :: r := hr
  rcases hq' with ⟨hqc, L, hfe, hL⟩ | ⟨q, rfl, E, ce, L, hx, hce, hcv, hcl, hW₂, hsm, hL⟩
  · obtain ⟨⟨v, rfl⟩, hW₂, e2, q2, q3, q4, q5, q6⟩ := id hfe
    have e3 : s₂ = ({ (U.calling g mk a).setFrames s₂.frames with heap := s₂.heap, slotsUsed := s₂.slotsUsed } : State).setVm s₂.vm := by
      have : s₂ = ({ s₂ with vm := (U.calling g mk a).vm } : State).setVm s₂.vm := rfl
      rw [e2] at this
      exact this
    obtain ⟨c₂, i₂, len₂, hc₂, hd₂, hf₂⟩ := hend
    have hW' : U.WarmedH s₂.vm := hW₂
    have hcc : c₂ = c := by
      have h1 : s₂.code? g.method = U.code? g.method := by
        rw [State.code?_eq, State.code?_eq, hW'.alike.method?]
      exact Option.some.inj (hc₂.symm.trans (h1.trans h.code))
    subst hcc
    have hlen : len₂ = len := by rw [hdg] at hd₂; cases hd₂; rfl
    subst hlen
    have hs₂ : s₂ = (({ U with heap := s₂.heap, slotsUsed := s₂.slotsUsed } : State).setVm s₂.vm).setTop { g with pc := g.pc + len₂, stack := v.toList ++ g.stack } := by
      refine e3.trans ?_
      rw [hf₂, State.calling_eq h.top, State.setFrames_setFrames, State.setTop_of_frames _ hr', hr]
      rfl
    have hsame : U.sameButNew ({ U with heap := s₂.heap, slotsUsed := s₂.slotsUsed } : State) L mc ms := by
      refine ⟨?_, q2, q3, q4, q5, q6⟩
      obtain ⟨t, ht, -⟩ := State.frames_cons hr
      show ({ U with heap := s₂.heap, slotsUsed := s₂.slotsUsed } : State) = { U.setFrames U.frames with heap := s₂.heap, slotsUsed := s₂.slotsUsed }
      rw [State.setFrames_self ht]
    subst hg
    refine Or.inl ⟨v, ⟨(({ U with heap := s₂.heap, slotsUsed := s₂.slotsUsed } : State).setVm s₂.vm), Ls ++ L, c0 + mc, s0 + ms⟩,
      ⟨X.admits, X.cas, X.clock, X.frames, X.room, X.hears, X.method, X.code, (X.here.setHeapUsed s₂.heap s₂.slotsUsed).setVm hW'.alike, X.tail, State.WarmedH.trans X.warmed hW', X.limits, X.bytes, X.same.trans (hsame.setVm s.vm)⟩,
      ⟨g, mk, s₂, L, rfl, rfl, hqc, rfl, hL, rfl, rfl⟩, ?_⟩
    show Steps p.tables e below _ ((({ U with heap := s₂.heap, slotsUsed := s₂.slotsUsed } : State).setVm s₂.vm).setTop { g with pc := g.pc + len₂, stack := v.toList ++ g.stack })
    rw [← hs₂]
    exact hsteps
  · obtain ⟨e2, q2, q3, q4, q5, q6⟩ := id hsm
    have e3 : s₂ = ({ (U.calling g mk a).setFrames s₂.frames with heap := s₂.heap, slotsUsed := s₂.slotsUsed } : State).setVm s₂.vm := by
      have : s₂ = ({ s₂ with vm := (U.calling g mk a).vm } : State).setVm s₂.vm := rfl
      rw [e2] at this
      exact this
    have hf₂ : s₂.frames = .throwing q :: .java g :: U.frames.tail := hend
    have hW' : U.WarmedH s₂.vm := hW₂
    have hs₂ : s₂ = ((({ U with heap := s₂.heap, slotsUsed := s₂.slotsUsed } : State).setVm s₂.vm).setTop g).pushFrame (.throwing q) := by
      refine e3.trans ?_
      rw [hf₂, State.calling_eq h.top, State.setFrames_setFrames, State.pushFrame, State.frames_setTop _ hr', State.setTop_of_frames _ hr', State.setFrames_setFrames, hr]
      rfl
    have hsame : U.sameButNew ({ U with heap := s₂.heap, slotsUsed := s₂.slotsUsed } : State) L mc ms := by
      refine ⟨?_, q2, q3, q4, q5, q6⟩
      obtain ⟨t, ht, -⟩ := State.frames_cons hr
      show ({ U with heap := s₂.heap, slotsUsed := s₂.slotsUsed } : State) = { U.setFrames U.frames with heap := s₂.heap, slotsUsed := s₂.slotsUsed }
      rw [State.setFrames_self ht]
    subst hg
    refine Or.inr ⟨q, ⟨(({ U with heap := s₂.heap, slotsUsed := s₂.slotsUsed } : State).setVm s₂.vm), Ls ++ L, c0 + mc, s0 + ms⟩,
      ⟨X.admits, X.cas, X.clock, X.frames, X.room, X.hears, X.method, X.code, (X.here.setHeapUsed s₂.heap s₂.slotsUsed).setVm hW'.alike, X.tail, State.WarmedH.trans X.warmed hW', X.limits, X.bytes, X.same.trans (hsame.setVm s.vm)⟩,
      ⟨g, mk, s₂, L, E, ce, rfl, rfl, hx, hce, hcv, hcl, rfl, hL, rfl, rfl⟩, ?_⟩
    show Steps p.tables e below _ (((({ U with heap := s₂.heap, slotsUsed := s₂.slotsUsed } : State).setVm s₂.vm).setTop g).pushFrame (.throwing q))
    rw [← hs₂]
    exact hsteps
end Payer
section Calls
variable {p : Program} {l : Launch} {e : Env} {R : Room} {s : State} {m : MethodId} {args : Array Value} {below : List Frame} {meth : Method} {c : Code} {T : State} {locs : List Loc} {cells slots : Nat}
theorem vx_callV (X : Stand p l e R s m args below meth c T locs cells slots) (hexec : p.tables.exec = Jvm.exec) {own C : String} {index : Nat} {y : MethodName} {bytes : ByteArray} {maxL : Nat} {ret : Option FieldType}
    (hown : s.vm.findClass own = some m.cls) (hlink : (Cond.methodLink own index y).before args s = true) (hinst : (Cond.instanceMethod y).before args s = true) (hsel : (Cond.selects C y y).before args s = true)
    (hcode : (Cond.code y bytes maxL ret).before args s = true) (hy : y.cls ≠ "java/lang/invoke/MethodHandle" ∧ y.cls ≠ "java/lang/invoke/VarHandle")
    {W9 : Nat} {Pre : Pt → Array Value → Prop} {Post : Pt → Array Value → Option Value → Pt → Prop} {PostX : Pt → Array Value → Addr → Pt → Prop} (hK : vx_Back l R p e below s args y 3 W9 Pre Post PostX)
    {b : Addr} {cellB : Cell} (hcell : T.heap[b]? = some cellB) (hobj : cellB.vm.isStatics = false) (hcls : s.vm.findClass C = some cellB.cls)
    {g : JFrame} (hg : g.method = m) (hsize : g.locals.size = c.maxLocals) {argsL rest : List Value} (hlen : ∀ sig, parseMethodDescriptor y.desc = some sig → argsL.length = sig.parameters.length)
    (hstack : g.stack = argsL.reverse ++ .ref b :: rest) (hW : 2 * g.monitorRoom + (rest.map fun v => v.category).sum ≤ W9) (hdg : decode c.code g.pc = .ok (.invokevirtual index, 3))
    (hpre : ∀ vm₁, s.WarmedH vm₁ → Pre ⟨T.setVm vm₁, locs, cells, slots⟩ (Value.ref b :: argsL).toArray) :
    (∃ (v : Option Value) (vm₁ : Vm) (B : Pt), s.WarmedH vm₁ ∧ Stand p l e R s m args below meth c B.U B.locs B.cells B.slots ∧ Post ⟨T.setVm vm₁, locs, cells, slots⟩ (Value.ref b :: argsL).toArray v B ∧
      ∀ target, Steps p.tables e below (B.U.setTop { g with pc := g.pc + 3, stack := v.toList ++ rest }) target → Steps p.tables e below (T.setTop g) target) ∨
    (∃ (q : Addr) (vm₁ : Vm) (B : Pt), s.WarmedH vm₁ ∧ Stand p l e R s m args below meth c B.U B.locs B.cells B.slots ∧ PostX ⟨T.setVm vm₁, locs, cells, slots⟩ (Value.ref b :: argsL).toArray q B ∧
      Steps p.tables e below (T.setTop g) ((B.U.setTop { g with stack := rest }).pushFrame (.throwing q))) := by
  obtain ⟨mk, methM, hnamed, hmethM, hstM, habM⟩ := Cond.instanceMethod_spec hinst
  obtain ⟨methM', cM, hmethM', -, -, -, -, -, -, hsigM⟩ := Cond.code_spec hnamed hcode
  cases hmethM.symm.trans hmethM'
  obtain ⟨c2, r2, m2, q1, q2, q3, q4, kP, hkP, hkPi⟩ := Cond.selects_spec hsel
  cases hcls.symm.trans q1
  cases (State.methodFound?_of_named hnamed hy).symm.trans q2
  cases hnamed.symm.trans q3
  have hselP : selectMethod e.platform s.vm cellB.cls mk = .method mk := by rw [Launch.admits_selectMethod X.admits]; exact q4
  obtain ⟨vm₁, X₁, hstep₁⟩ := X.invokevirtual hexec hown hlink hnamed hmethM hstM hkP hkPi hy (a := b) (cell := cellB) hcell
    (fun z h => by rw [h] at hobj; cases hobj) hselP hmethM habM hkP hkPi (g := g) hg (argsL := argsL) (rest := rest) (hlen _ hsigM) hstack hdg
  rcases hK m meth c ⟨T.setVm vm₁, locs, cells, slots⟩ { g with stack := rest } (.invokevirtual index) mk (Value.ref b :: argsL).toArray X₁ hg hsize hdg hW (X₁.named hnamed) (hpre vm₁ X₁.warmed) with ⟨v, B, X', hpost, hsteps⟩ | ⟨q, B, X', hpost, hsteps⟩
  · exact Or.inl ⟨v, vm₁, B, X₁.warmed, X', hpost, fun target h => hstep₁ _ fun acts => by rw [doInvoke_state]; exact hsteps.trans h⟩
  · exact Or.inr ⟨q, vm₁, B, X₁.warmed, X', hpost, hstep₁ _ fun acts => by rw [doInvoke_state]; exact hsteps⟩
theorem vx_callS (X : Stand p l e R s m args below meth c T locs cells slots) (hexec : p.tables.exec = Jvm.exec) {own : String} {index : Nat} {y : MethodName} {bytes : ByteArray} {maxL : Nat} {ret : Option FieldType}
    (hown : s.vm.findClass own = some m.cls) (hlink : (Cond.methodLink own index y).before args s = true) (hstat : (Cond.static y).before args s = true) (hinit : (Cond.initialized y.cls).before args s = true)
    (hcode : (Cond.code y bytes maxL ret).before args s = true) (hy : y.cls ≠ "java/lang/invoke/MethodHandle" ∧ y.cls ≠ "java/lang/invoke/VarHandle")
    {W9 : Nat} {Pre : Pt → Array Value → Prop} {Post : Pt → Array Value → Option Value → Pt → Prop} {PostX : Pt → Array Value → Addr → Pt → Prop} (hK : vx_Back l R p e below s args y 3 W9 Pre Post PostX)
    {g : JFrame} (hg : g.method = m) (hsize : g.locals.size = c.maxLocals) {argsL rest : List Value} (hlen : ∀ sig, parseMethodDescriptor y.desc = some sig → argsL.length = sig.parameters.length)
    (hstack : g.stack = argsL.reverse ++ rest) (hW : 2 * g.monitorRoom + (rest.map fun v => v.category).sum ≤ W9) (hdg : decode c.code g.pc = .ok (.invokestatic index, 3))
    (hpre : ∀ vm₁, s.WarmedH vm₁ → Pre ⟨T.setVm vm₁, locs, cells, slots⟩ argsL.toArray) :
    (∃ (v : Option Value) (vm₁ : Vm) (B : Pt), s.WarmedH vm₁ ∧ Stand p l e R s m args below meth c B.U B.locs B.cells B.slots ∧ Post ⟨T.setVm vm₁, locs, cells, slots⟩ argsL.toArray v B ∧
      ∀ target, Steps p.tables e below (B.U.setTop { g with pc := g.pc + 3, stack := v.toList ++ rest }) target → Steps p.tables e below (T.setTop g) target) ∨
    (∃ (q : Addr) (vm₁ : Vm) (B : Pt), s.WarmedH vm₁ ∧ Stand p l e R s m args below meth c B.U B.locs B.cells B.slots ∧ PostX ⟨T.setVm vm₁, locs, cells, slots⟩ argsL.toArray q B ∧
      Steps p.tables e below (T.setTop g) ((B.U.setTop { g with stack := rest }).pushFrame (.throwing q))) := by
  obtain ⟨mk, hnamed⟩ := Cond.code_named hcode
  obtain ⟨methM, cM, hmethM, -, -, -, -, -, -, hsigM⟩ := Cond.code_spec hnamed hcode
  have hstatic : methM.isStatic = true := Cond.static_spec hnamed hmethM hstat
  obtain ⟨kP, hkP, -⟩ := className_of_methodNamed hnamed
  have hinitP : kP.init = .initialized := Cond.initialized_spec (findClass_of_methodNamed hnamed) hkP hinit
  obtain ⟨vm₁, X₁, hstep₁⟩ := X.invokestatic hexec hown hlink hnamed hmethM hstatic hkP hinitP hy (g := g) hg (argsL := argsL) (rest := rest) (hlen _ hsigM) hstack hdg
  rcases hK m meth c ⟨T.setVm vm₁, locs, cells, slots⟩ { g with stack := rest } (.invokestatic index) mk argsL.toArray X₁ hg hsize hdg hW (X₁.named hnamed) (hpre vm₁ X₁.warmed) with ⟨v, B, X', hpost, hsteps⟩ | ⟨q, B, X', hpost, hsteps⟩
  · exact Or.inl ⟨v, vm₁, B, X₁.warmed, X', hpost, fun target h => hstep₁ _ fun acts => by rw [doInvoke_state]; exact hsteps.trans h⟩
  · exact Or.inr ⟨q, vm₁, B, X₁.warmed, X', hpost, hstep₁ _ fun acts => by rw [doInvoke_state]; exact hsteps⟩
end Calls
theorem vx_cls {s : State} {T : State} {vm₁ : Vm} {E : String} {k : ClassId} (hW : s.WarmedH vm₁) (h : (T.setVm vm₁).vm.findClass E = some k) : s.vm.findClass E = some k := by
  have h1 : vm₁.findClass E = some k := h
  rw [hW.alike.findClass] at h1
  exact h1
/-- the method's frame g, with q thrown over it -/
def vx_W (p : Program) (l : Launch) (e : Env) (R : Room) (s : State) (m : MethodId) (args : Array Value) (below : List Frame) (meth : Method) (c : Code) (H : Heap) (locs : List Loc) (cells slots : Nat) (Q : State → Prop) (g : JFrame) (q : Addr) : Prop :=
  ∀ T : State, T.heap = H → Stand p l e R s m args below meth c T locs cells slots → ∃ t, Steps p.tables e below ((T.setTop g).pushFrame (.throwing q)) t ∧ Q t
def vx_Run (p : Program) (l : Launch) (e : Env) (R : Room) (s : State) (m : MethodId) (args : Array Value) (below : List Frame) (meth : Method) (c : Code) (H : Heap) (locs : List Loc) (cells slots mc ms : Nat) (g : JFrame) (rest : List Value) (Qa : State → Outcome → State → Prop) (XC : String → State → State → Prop) (free : Addr → Prop) : Prop :=
  ∀ T : State, T.heap = H → Stand p l e R s m args below meth c T locs cells slots →
    (∃ (v : Option Value) (st₀ t T' : State) (L : List Loc), st₀.heap = H ∧ Stand p l e R s m args below meth c T' (locs ++ L) (cells + mc) (slots + ms) ∧ (∀ q ∈ L, free q.base) ∧ T'.heap = t.heap ∧ T'.vm = t.vm ∧ Qa st₀ (.returned v) t ∧
      Goes p e below T g T' { g with pc := g.pc + 3, stack := v.toList ++ rest }) ∨
    (∃ (q : Addr) (st₀ t T' : State) (L : List Loc) (E : String) (ce : Cell), st₀.heap = H ∧ Stand p l e R s m args below meth c T' (locs ++ L) (cells + mc) (slots + ms) ∧ (∀ z ∈ L, free z.base) ∧ T'.heap = t.heap ∧ T'.vm = t.vm ∧ XC E st₀ t ∧ t.heap[q]? = some ce ∧ ce.vm = .none ∧ s.vm.findClass E = some ce.cls ∧
      Steps p.tables e below (T.setTop g) ((T'.setTop { g with stack := rest }).pushFrame (.throwing q)))
def vx_X {S : Type} (px : S → Prop) (B : String → S → State → Prop) (A : Nat → Prop) : String → State → State → Prop := fun E st t => ∃ u : S, px u ∧ B E u t ∧ va_F A st t
section Runs
variable {p : Program} {l : Launch} {e : Env} {R : Room} {s : State} {m : MethodId} {args : Array Value} {below : List Frame} {meth : Method} {c : Code} {H : Heap} {locs : List Loc} {cells slots : Nat}
variable {y : MethodName} {bytes cc : ByteArray} {maxL nL mc ms n index : Nat} {ret : Option FieldType} {ws : List Cond} {rm : Room} {Pc : Array Value → State → Prop} {Qc : Array Value → State → Outcome → State → Prop} {XC : String → State → State → Prop} {free : Addr → Prop} {Ts : List Cond} {own C : String} {b : Addr} {As rest : List Value} {g : JFrame}
theorem vx_callBack (cb : CallB R s args own index y bytes maxL ret ws rm mc ms n) (hM : vx_Met l y ws rm Pc Qc XC mc ms free) (hbl : FrameBlind Pc) : vx_Back l R p e below s args y 3 8 (PreOf R mc ms Pc) (PostOf Qc mc ms free) (vx_Post XC mc ms free) := by
  obtain ⟨hrc, hrs, hfr, hlo, hws, hcw, -, hini, -⟩ := cb
  exact vx_back (bytes := bytes) (maxL := maxL) (ret := ret) hM hbl hrc hrs hfr hlo hws hcw (fun a' U hW => word_at hW (Or.inl (by first | rfl | simp [Cond.onTables, Cond.keeps, Cond.steady])) hini)
theorem vx_runV (S : CallFix p m c cc nL s args Ts own) (hM : vx_Met l y ws rm Pc Qc XC mc ms free) (cw : CallW R s args own C index y bytes maxL ret ws rm mc ms n) (hp : PreV s H C b Pc As)
    (hg : g.method = m) (hn : As.length = n) (hsize : g.locals.size = nL) (hstack : g.stack = As.reverse ++ .ref b :: rest) (hW : 2 * g.monitorRoom + (rest.map fun v => v.category).sum ≤ 8) (hdg : decode cc g.pc = .ok (.invokevirtual index, 3)) (hf : cells + mc ≤ R.cells ∧ slots + ms ≤ R.slots) :
    vx_Run p l e R s m args below meth c H locs cells slots mc ms g rest (Qc (Value.ref b :: As).toArray) XC free := by
  have hK : vx_Back l R p e below s args y 3 8 (PreOf R mc ms Pc) (PostOf Qc mc ms free) (vx_Post XC mc ms free) := vx_callBack cw.1 hM hp.1
  obtain ⟨⟨-, -, -, -, -, -, hcode, -, hy, hlen, hl⟩, hin, hse⟩ := cw
  obtain ⟨hx, hb, hml, ho, -⟩ := S
  obtain ⟨-, ⟨cellB, hcB, hoB, hclB⟩, hPc⟩ := hp
  intro T hT X
  rcases vx_callV X hx (C := C) (bytes := bytes) (maxL := maxL) (ret := ret) ho hl hin hse hcode hy hK (by rw [hT]; exact hcB) hoB hclB hg (hsize.trans hml.symm) (argsL := As) (rest := rest) (fun sig h => hn.trans (hlen sig h)) hstack hW (by rw [hb]; exact hdg)
    (fun vm₁ hW₁ => ⟨hf.1, hf.2, hPc (T.setVm vm₁) hT hW₁⟩) with ⟨v, vm₁, ⟨U', l2, c2, s2⟩, hW₁, X', ⟨g', mk, t, L, e1, e2, hq, h1, hL, h2, h3⟩, st⟩ | ⟨q, vm₁, ⟨U', l2, c2, s2⟩, hW₁, X', ⟨g', mk, t, L, E, ce, e1, e2, hq, hce, hcv, hcl, h1, hL, h2, h3⟩, st⟩
  · dsimp only [Pt.U, Pt.locs, Pt.cells, Pt.slots] at X' e1 e2 h1 h2 h3 st
    subst h1; subst h2; subst h3
    exact Or.inl ⟨v, (T.setVm vm₁).calling g' mk (Value.ref b :: As).toArray, t, U', L, hT, X', hL, e1, e2, hq, st⟩
  · dsimp only [Pt.U, Pt.locs, Pt.cells, Pt.slots] at X' e1 e2 h1 h2 h3 st hcl
    subst h1; subst h2; subst h3
    exact Or.inr ⟨q, (T.setVm vm₁).calling g' mk (Value.ref b :: As).toArray, t, U', L, E, ce, hT, X', hL, e1, e2, hq, hce, hcv, vx_cls hW₁ hcl, st⟩
theorem vx_runS (S : CallFix p m c cc nL s args Ts own) (hM : vx_Met l y ws rm Pc Qc XC mc ms free) (cw : CallB R s args own index y bytes maxL ret ws rm mc ms n ∧ (Cond.static y).before args s = true) (hp : PreS s H Pc As)
    (hg : g.method = m) (hn : As.length = n) (hsize : g.locals.size = nL) (hstack : g.stack = As.reverse ++ rest) (hW : 2 * g.monitorRoom + (rest.map fun v => v.category).sum ≤ 8) (hdg : decode cc g.pc = .ok (.invokestatic index, 3)) (hf : cells + mc ≤ R.cells ∧ slots + ms ≤ R.slots) :
    vx_Run p l e R s m args below meth c H locs cells slots mc ms g rest (Qc As.toArray) XC free := by
  have hK : vx_Back l R p e below s args y 3 8 (PreOf R mc ms Pc) (PostOf Qc mc ms free) (vx_Post XC mc ms free) := vx_callBack cw.1 hM hp.1
  obtain ⟨⟨-, -, -, -, -, -, hcode, hini, hy, hlen, hl⟩, hstt⟩ := cw
  obtain ⟨hx, hb, hml, ho, -⟩ := S
  intro T hT X
  rcases vx_callS X hx (bytes := bytes) (maxL := maxL) (ret := ret) ho hl hstt hini hcode hy hK hg (hsize.trans hml.symm) (argsL := As) (rest := rest) (fun sig h => hn.trans (hlen sig h)) hstack hW (by rw [hb]; exact hdg)
    (fun vm₁ hW₁ => ⟨hf.1, hf.2, hp.2 (T.setVm vm₁) hT hW₁⟩) with ⟨v, vm₁, ⟨U', l2, c2, s2⟩, hW₁, X', ⟨g', mk, t, L, e1, e2, hq, h1, hL, h2, h3⟩, st⟩ | ⟨q, vm₁, ⟨U', l2, c2, s2⟩, hW₁, X', ⟨g', mk, t, L, E, ce, e1, e2, hq, hce, hcv, hcl, h1, hL, h2, h3⟩, st⟩
  · dsimp only [Pt.U, Pt.locs, Pt.cells, Pt.slots] at X' e1 e2 h1 h2 h3 st
    subst h1; subst h2; subst h3
    exact Or.inl ⟨v, (T.setVm vm₁).calling g' mk As.toArray, t, U', L, hT, X', hL, e1, e2, hq, st⟩
  · dsimp only [Pt.U, Pt.locs, Pt.cells, Pt.slots] at X' e1 e2 h1 h2 h3 st hcl
    subst h1; subst h2; subst h3
    exact Or.inr ⟨q, (T.setVm vm₁).calling g' mk As.toArray, t, U', L, E, ce, hT, X', hL, e1, e2, hq, hce, hcv, vx_cls hW₁ hcl, st⟩
end Runs
section Rows
variable {p : Program} {l : Launch} {e : Env} {R : Room} {s : State} {m : MethodId} {args : Array Value} {below : List Frame} {meth : Method} {c : Code} {H : Heap} {locs : List Loc} {cells slots : Nat} {Q : State → Prop}
variable {mc ms : Nat} {free : Addr → Prop} {A0 A1 : Nat → Prop} {H0 : Heap} {a : Array Value} {pc : Nat} {ls : Array Slot} {st0 rest : List Value}
theorem vx_keep {st₀ t T' : State} {L : List Loc} (h0 : st₀.heap = H) (e1 : T'.heap = t.heap) (hS : va_S A0 H0 H locs) (hA : ∀ q, q < H.size → A1 q → A0 q) (hf : ∀ q, free q → A0 q) (hL : ∀ q ∈ L, free q.base) (hF : va_F A1 st₀ t) :
    H.size ≤ T'.heap.size ∧ (∀ q : Nat, q < H.size → ¬ A1 q → T'.heap[q]? = H[q]?) ∧ va_S A0 H0 T'.heap (locs ++ L) := by
  obtain ⟨hz, hk⟩ := hF
  rw [h0] at hz hk
  exact ⟨by rw [e1]; exact hz, fun q h1 h2 => by rw [e1]; exact hk q h1 h2,
    ⟨Nat.le_trans hS.1 (by rw [e1]; exact hz), fun q h1 h2 => by rw [e1, hk q (Nat.lt_of_lt_of_le h1 hS.1) (fun z => h2 (hA q (Nat.lt_of_lt_of_le h1 hS.1) z))]; exact hS.2.1 q h1 h2, fun q hq => by
      rcases List.mem_append.mp hq with h | h
      · exact hS.2.2 q h
      · exact hf _ (hL q h)⟩⟩
theorem vx_calli {S SX : Type} {post : Int32 → S → Prop} {px : SX → Prop} {B : S → State → Prop} {BX : String → SX → State → Prop} {AX : Nat → Prop} (hr : vx_Run p l e R s m args below meth c H locs cells slots mc ms (F0 m pc ls st0) rest (va_Qi post B A1 a) (vx_X px BX AX) free) (hS : va_S A0 H0 H locs) (hA : ∀ q, q < H.size → A1 q → A0 q) (hf : ∀ q, free q → A0 q) (hAX : ∀ q, q < H.size → AX q → A0 q)
    (kx : ∀ (E : String) (ce : Cell) (q9 : Addr) (u : SX) (t : State) (H1 : Heap) (locs1 : List Loc), t.heap = H1 → s.vm.Alike t.vm → px u → BX E u t → H.size ≤ H1.size → (∀ q : Nat, q < H.size → ¬ AX q → H1[q]? = H[q]?) → va_S A0 H0 H1 locs1 → H1[q9]? = some ce → ce.vm = .none → s.vm.findClass E = some ce.cls → vx_W p l e R s m args below meth c H1 locs1 (cells + mc) (slots + ms) Q (F0 m pc ls rest) q9)
    (kk : ∀ (r : Int32) (u : S) (t : State) (H1 : Heap) (locs1 : List Loc), t.heap = H1 → s.vm.Alike t.vm → post r u → B u t → H.size ≤ H1.size → (∀ q : Nat, q < H.size → ¬ A1 q → H1[q]? = H[q]?) → va_S A0 H0 H1 locs1 → W p l e R s m args below meth c H1 locs1 (cells + mc) (slots + ms) Q (F0 m (pc + 3) ls (.int r :: rest))) : W p l e R s m args below meth c H locs cells slots Q (F0 m pc ls st0) := by
  intro T hT X
  rcases hr T hT X with ⟨v, st₀, t, T', L, h0, X', hL, e1, e2, ⟨⟨r, u, hv, hp, hb⟩, hF⟩, st⟩ | ⟨q, st₀, t, T', L, E, ce, h0, X', hL, e1, e2, ⟨u, hp, hb, hF⟩, hce, hcv, hcl, st⟩
  · cases hv
    obtain ⟨k1, k2, k3⟩ := vx_keep h0 e1 hS hA hf hL hF
    obtain ⟨t2, a1, b1⟩ := kk r u t T'.heap (locs ++ L) e1.symm (by rw [← e2]; exact X'.warmed.alike) hp hb k1 k2 k3 T' rfl X'
    exact ⟨t2, st t2 a1, b1⟩
  · obtain ⟨k1, k2, k3⟩ := vx_keep h0 e1 hS hAX hf hL hF
    obtain ⟨t2, a1, b1⟩ := kx E ce q u t T'.heap (locs ++ L) e1.symm (by rw [← e2]; exact X'.warmed.alike) hp hb k1 k2 k3 (by rw [e1]; exact hce) hcv hcl T' rfl X'
    exact ⟨t2, st.trans a1, b1⟩
theorem vx_calll {S SX : Type} {post : Int64 → S → Prop} {px : SX → Prop} {B : S → State → Prop} {BX : String → SX → State → Prop} {AX : Nat → Prop} (hr : vx_Run p l e R s m args below meth c H locs cells slots mc ms (F0 m pc ls st0) rest (va_Ql post B A1 a) (vx_X px BX AX) free) (hS : va_S A0 H0 H locs) (hA : ∀ q, q < H.size → A1 q → A0 q) (hf : ∀ q, free q → A0 q) (hAX : ∀ q, q < H.size → AX q → A0 q)
    (kx : ∀ (E : String) (ce : Cell) (q9 : Addr) (u : SX) (t : State) (H1 : Heap) (locs1 : List Loc), t.heap = H1 → s.vm.Alike t.vm → px u → BX E u t → H.size ≤ H1.size → (∀ q : Nat, q < H.size → ¬ AX q → H1[q]? = H[q]?) → va_S A0 H0 H1 locs1 → H1[q9]? = some ce → ce.vm = .none → s.vm.findClass E = some ce.cls → vx_W p l e R s m args below meth c H1 locs1 (cells + mc) (slots + ms) Q (F0 m pc ls rest) q9)
    (kk : ∀ (r : Int64) (u : S) (t : State) (H1 : Heap) (locs1 : List Loc), t.heap = H1 → s.vm.Alike t.vm → post r u → B u t → H.size ≤ H1.size → (∀ q : Nat, q < H.size → ¬ A1 q → H1[q]? = H[q]?) → va_S A0 H0 H1 locs1 → W p l e R s m args below meth c H1 locs1 (cells + mc) (slots + ms) Q (F0 m (pc + 3) ls (.long r :: rest))) : W p l e R s m args below meth c H locs cells slots Q (F0 m pc ls st0) := by
  intro T hT X
  rcases hr T hT X with ⟨v, st₀, t, T', L, h0, X', hL, e1, e2, ⟨⟨r, u, hv, hp, hb⟩, hF⟩, st⟩ | ⟨q, st₀, t, T', L, E, ce, h0, X', hL, e1, e2, ⟨u, hp, hb, hF⟩, hce, hcv, hcl, st⟩
  · cases hv
    obtain ⟨k1, k2, k3⟩ := vx_keep h0 e1 hS hA hf hL hF
    obtain ⟨t2, a1, b1⟩ := kk r u t T'.heap (locs ++ L) e1.symm (by rw [← e2]; exact X'.warmed.alike) hp hb k1 k2 k3 T' rfl X'
    exact ⟨t2, st t2 a1, b1⟩
  · obtain ⟨k1, k2, k3⟩ := vx_keep h0 e1 hS hAX hf hL hF
    obtain ⟨t2, a1, b1⟩ := kx E ce q u t T'.heap (locs ++ L) e1.symm (by rw [← e2]; exact X'.warmed.alike) hp hb k1 k2 k3 (by rw [e1]; exact hce) hcv hcl T' rfl X'
    exact ⟨t2, st.trans a1, b1⟩
theorem vx_callf {S SX : Type} {post : UInt32 → S → Prop} {px : SX → Prop} {B : S → State → Prop} {BX : String → SX → State → Prop} {AX : Nat → Prop} (hr : vx_Run p l e R s m args below meth c H locs cells slots mc ms (F0 m pc ls st0) rest (va_Qf post B A1 a) (vx_X px BX AX) free) (hS : va_S A0 H0 H locs) (hA : ∀ q, q < H.size → A1 q → A0 q) (hf : ∀ q, free q → A0 q) (hAX : ∀ q, q < H.size → AX q → A0 q)
    (kx : ∀ (E : String) (ce : Cell) (q9 : Addr) (u : SX) (t : State) (H1 : Heap) (locs1 : List Loc), t.heap = H1 → s.vm.Alike t.vm → px u → BX E u t → H.size ≤ H1.size → (∀ q : Nat, q < H.size → ¬ AX q → H1[q]? = H[q]?) → va_S A0 H0 H1 locs1 → H1[q9]? = some ce → ce.vm = .none → s.vm.findClass E = some ce.cls → vx_W p l e R s m args below meth c H1 locs1 (cells + mc) (slots + ms) Q (F0 m pc ls rest) q9)
    (kk : ∀ (r : UInt32) (u : S) (t : State) (H1 : Heap) (locs1 : List Loc), t.heap = H1 → s.vm.Alike t.vm → post r u → B u t → H.size ≤ H1.size → (∀ q : Nat, q < H.size → ¬ A1 q → H1[q]? = H[q]?) → va_S A0 H0 H1 locs1 → W p l e R s m args below meth c H1 locs1 (cells + mc) (slots + ms) Q (F0 m (pc + 3) ls (.float r :: rest))) : W p l e R s m args below meth c H locs cells slots Q (F0 m pc ls st0) := by
  intro T hT X
  rcases hr T hT X with ⟨v, st₀, t, T', L, h0, X', hL, e1, e2, ⟨⟨r, u, hv, hp, hb⟩, hF⟩, st⟩ | ⟨q, st₀, t, T', L, E, ce, h0, X', hL, e1, e2, ⟨u, hp, hb, hF⟩, hce, hcv, hcl, st⟩
  · cases hv
    obtain ⟨k1, k2, k3⟩ := vx_keep h0 e1 hS hA hf hL hF
    obtain ⟨t2, a1, b1⟩ := kk r u t T'.heap (locs ++ L) e1.symm (by rw [← e2]; exact X'.warmed.alike) hp hb k1 k2 k3 T' rfl X'
    exact ⟨t2, st t2 a1, b1⟩
  · obtain ⟨k1, k2, k3⟩ := vx_keep h0 e1 hS hAX hf hL hF
    obtain ⟨t2, a1, b1⟩ := kx E ce q u t T'.heap (locs ++ L) e1.symm (by rw [← e2]; exact X'.warmed.alike) hp hb k1 k2 k3 (by rw [e1]; exact hce) hcv hcl T' rfl X'
    exact ⟨t2, st.trans a1, b1⟩
theorem vx_calld {S SX : Type} {post : UInt64 → S → Prop} {px : SX → Prop} {B : S → State → Prop} {BX : String → SX → State → Prop} {AX : Nat → Prop} (hr : vx_Run p l e R s m args below meth c H locs cells slots mc ms (F0 m pc ls st0) rest (va_Qd post B A1 a) (vx_X px BX AX) free) (hS : va_S A0 H0 H locs) (hA : ∀ q, q < H.size → A1 q → A0 q) (hf : ∀ q, free q → A0 q) (hAX : ∀ q, q < H.size → AX q → A0 q)
    (kx : ∀ (E : String) (ce : Cell) (q9 : Addr) (u : SX) (t : State) (H1 : Heap) (locs1 : List Loc), t.heap = H1 → s.vm.Alike t.vm → px u → BX E u t → H.size ≤ H1.size → (∀ q : Nat, q < H.size → ¬ AX q → H1[q]? = H[q]?) → va_S A0 H0 H1 locs1 → H1[q9]? = some ce → ce.vm = .none → s.vm.findClass E = some ce.cls → vx_W p l e R s m args below meth c H1 locs1 (cells + mc) (slots + ms) Q (F0 m pc ls rest) q9)
    (kk : ∀ (r : UInt64) (u : S) (t : State) (H1 : Heap) (locs1 : List Loc), t.heap = H1 → s.vm.Alike t.vm → post r u → B u t → H.size ≤ H1.size → (∀ q : Nat, q < H.size → ¬ A1 q → H1[q]? = H[q]?) → va_S A0 H0 H1 locs1 → W p l e R s m args below meth c H1 locs1 (cells + mc) (slots + ms) Q (F0 m (pc + 3) ls (.double r :: rest))) : W p l e R s m args below meth c H locs cells slots Q (F0 m pc ls st0) := by
  intro T hT X
  rcases hr T hT X with ⟨v, st₀, t, T', L, h0, X', hL, e1, e2, ⟨⟨r, u, hv, hp, hb⟩, hF⟩, st⟩ | ⟨q, st₀, t, T', L, E, ce, h0, X', hL, e1, e2, ⟨u, hp, hb, hF⟩, hce, hcv, hcl, st⟩
  · cases hv
    obtain ⟨k1, k2, k3⟩ := vx_keep h0 e1 hS hA hf hL hF
    obtain ⟨t2, a1, b1⟩ := kk r u t T'.heap (locs ++ L) e1.symm (by rw [← e2]; exact X'.warmed.alike) hp hb k1 k2 k3 T' rfl X'
    exact ⟨t2, st t2 a1, b1⟩
  · obtain ⟨k1, k2, k3⟩ := vx_keep h0 e1 hS hAX hf hL hF
    obtain ⟨t2, a1, b1⟩ := kx E ce q u t T'.heap (locs ++ L) e1.symm (by rw [← e2]; exact X'.warmed.alike) hp hb k1 k2 k3 (by rw [e1]; exact hce) hcv hcl T' rfl X'
    exact ⟨t2, st.trans a1, b1⟩
theorem vx_callv {S SX : Type} {post : S → Prop} {px : SX → Prop} {B : S → State → Prop} {BX : String → SX → State → Prop} {AX : Nat → Prop} (hr : vx_Run p l e R s m args below meth c H locs cells slots mc ms (F0 m pc ls st0) rest (va_Qv post B A1 a) (vx_X px BX AX) free) (hS : va_S A0 H0 H locs) (hA : ∀ q, q < H.size → A1 q → A0 q) (hf : ∀ q, free q → A0 q) (hAX : ∀ q, q < H.size → AX q → A0 q)
    (kx : ∀ (E : String) (ce : Cell) (q9 : Addr) (u : SX) (t : State) (H1 : Heap) (locs1 : List Loc), t.heap = H1 → s.vm.Alike t.vm → px u → BX E u t → H.size ≤ H1.size → (∀ q : Nat, q < H.size → ¬ AX q → H1[q]? = H[q]?) → va_S A0 H0 H1 locs1 → H1[q9]? = some ce → ce.vm = .none → s.vm.findClass E = some ce.cls → vx_W p l e R s m args below meth c H1 locs1 (cells + mc) (slots + ms) Q (F0 m pc ls rest) q9)
    (kk : ∀ (u : S) (t : State) (H1 : Heap) (locs1 : List Loc), t.heap = H1 → s.vm.Alike t.vm → post u → B u t → H.size ≤ H1.size → (∀ q : Nat, q < H.size → ¬ A1 q → H1[q]? = H[q]?) → va_S A0 H0 H1 locs1 → W p l e R s m args below meth c H1 locs1 (cells + mc) (slots + ms) Q (F0 m (pc + 3) ls (rest))) : W p l e R s m args below meth c H locs cells slots Q (F0 m pc ls st0) := by
  intro T hT X
  rcases hr T hT X with ⟨v, st₀, t, T', L, h0, X', hL, e1, e2, ⟨⟨u, hv, hp, hb⟩, hF⟩, st⟩ | ⟨q, st₀, t, T', L, E, ce, h0, X', hL, e1, e2, ⟨u, hp, hb, hF⟩, hce, hcv, hcl, st⟩
  · cases hv
    obtain ⟨k1, k2, k3⟩ := vx_keep h0 e1 hS hA hf hL hF
    obtain ⟨t2, a1, b1⟩ := kk u t T'.heap (locs ++ L) e1.symm (by rw [← e2]; exact X'.warmed.alike) hp hb k1 k2 k3 T' rfl X'
    exact ⟨t2, st t2 a1, b1⟩
  · obtain ⟨k1, k2, k3⟩ := vx_keep h0 e1 hS hAX hf hL hF
    obtain ⟨t2, a1, b1⟩ := kx E ce q u t T'.heap (locs ++ L) e1.symm (by rw [← e2]; exact X'.warmed.alike) hp hb k1 k2 k3 (by rw [e1]; exact hce) hcv hcl T' rfl X'
    exact ⟨t2, st.trans a1, b1⟩
/-- caught by the row x of this method's table; the rows ahead don't take it -/
theorem vx_catch {own name : String} {E : String} {ce : Cell} {q : Addr} (hown : s.vm.findClass own = some m.cls) (pre : List ExceptionTableEntry) (x : ExceptionTableEntry) (suf : List ExceptionTableEntry) (hsplit : c.exceptionTable.toList = pre ++ x :: suf)
    (hpass : ∀ z ∈ pre, covers z pc = false ∨ (z.catchType ≠ 0 ∧ ∃ nm : String, (Cond.classLink own z.catchType nm).before args s = true ∧ va_Nc E nm s)) (hx : covers x pc = true) (h0 : x.catchType ≠ 0)
    (hlink : (Cond.classLink own x.catchType name).before args s = true) (hcast : (Cond.castable E name).before args s = true) (hcell : H[q]? = some ce) (hv : ce.vm = .none) (hcl : s.vm.findClass E = some ce.cls)
    (kk : W p l e R s m args below meth c H locs cells slots Q (F0 m x.handlerPc ls [.ref q])) : vx_W p l e R s m args below meth c H locs cells slots Q (F0 m pc ls rest) q := by
  intro T hT X
  have hpl : e.platform.magicAccessors = ({} : Platform).magicAccessors := by rw [X.admits.platform]
  obtain ⟨c3, c4, hc3, hc4, hasg⟩ := Cond.castable_spec hcast
  cases Option.some.inj (hc3.symm.trans hcl)
  obtain ⟨c5, hc5, hcl5⟩ := Cond.classLink_spec hown hlink e.platform hpl
  cases Option.some.inj (hc4.symm.trans hc5)
  obtain ⟨vm', X', st⟩ := X.thenCaughtThrough q (g := F0 m pc ls rest) rfl (Steps.refl _) (by rw [hT]; exact hcell) (by rw [hv]; rfl) (by obtain ⟨k9, h9, -⟩ := Vm.findClass_spec hcl; exact ⟨k9, h9⟩) pre x suf hsplit
    (fun z hz => by
      rcases hpass z hz with h | ⟨hz0, nm, hl1, hn1⟩
      · exact Or.inl h
      · obtain ⟨c6, hc6, hcl6⟩ := Cond.classLink_spec hown hl1 e.platform hpl
        obtain ⟨a8, b8, h1, h2, h3⟩ := hn1
        cases Option.some.inj (h1.symm.trans hcl)
        cases Option.some.inj (h2.symm.trans hc6)
        exact Or.inr ⟨hz0, _, hcl6, h3⟩) hx (Or.inr ⟨h0, c4, hcl5, hasg⟩)
  obtain ⟨t, a1, b1⟩ := kk (T.setVm vm') hT X'
  exact ⟨t, st.trans a1, b1⟩
end Rows
section Ends
variable {p : Program} {l : Launch} {e : Env} {R : Room} {s : State} {m : MethodId} {args : Array Value} {below : List Frame} {meth : Method} {c : Code} {H : Heap} {locs : List Loc} {cells slots : Nat} {Q : State → Prop}
variable {mc ms : Nat} {free : Addr → Prop} {A0 A1 : Nat → Prop} {H0 : Heap} {a : Array Value} {ls : Array Slot} {st0 rest : List Value}
variable {Qc : Array Value → State → Outcome → State → Prop} {XC : String → State → State → Prop}
/-- what a body that may throw owes at its end -/
def vx_MQ (below : List Frame) (Qc : Array Value → State → Outcome → State → Prop) (XC : String → State → State → Prop) (a : Array Value) (s : State) (mc ms : Nat) (free : Addr → Prop) : State → Prop := fun t =>
  ∃ o, t.status = .running ∧ Ended t below o ∧ vx_Q Qc XC mc ms free a s o t
theorem vx_ret {g : JFrame} {mc ms : Nat} (k : W p l e R s m args below meth c H locs cells slots (MQ below Qc args s mc ms free) g) : W p l e R s m args below meth c H locs cells slots (vx_MQ below Qc XC args s mc ms free) g := by
  intro T hT X
  obtain ⟨t, a1, o, b1, b2, b3, b4⟩ := k T hT X
  exact ⟨t, a1, o, b1, b2, Or.inl ⟨b3, b4⟩⟩
/-- not caught here: it goes on to the caller -/
theorem vx_widen {g : JFrame} {q : Addr} {k n : Nat} (h1 : cells ≤ k) (h2 : slots ≤ n) (kk : vx_W p l e R s m args below meth c H locs k n Q g q) : vx_W p l e R s m args below meth c H locs cells slots Q g q := fun T hT X => kk T hT (stand_widen X h1 h2)
theorem vx_out {pc : Nat} {E : String} {ce : Cell} {q : Addr} {mc ms : Nat} (hout : ∀ x ∈ c.exceptionTable.toList, covers x pc = false) (hlocks : meth.locks = false) (hcell : H[q]? = some ce) (hv : ce.vm = .none) (hcl : s.vm.findClass E = some ce.cls)
    (hx : ∀ t : State, t.heap = H → s.vm.Alike t.vm → XC E s t) (hf : ∀ z ∈ locs, free z.base) (hc : cells ≤ mc) (hs : slots ≤ ms) :
    vx_W p l e R s m args below meth c H locs cells slots (vx_MQ below Qc XC args s mc ms free) (F0 m pc ls rest) q := by
  intro T hT X
  obtain ⟨st1, hrun, hend, hW, hsm⟩ := X.leaveThrown q (g := F0 m pc ls rest) rfl rfl rfl hout hlocks
  have hcell9 : (T.setFrames (.throwing q :: below)).heap[q]? = some ce := by
    show T.heap[q]? = some ce
    rw [hT]; exact hcell
  exact ⟨_, st1, .threw q, hrun, hend, Or.inr ⟨q, rfl, E, ce, locs, hx _ hT hW.alike, hcell9, hv, hcl, hW, hsm.mono hc hs, hf⟩⟩
theorem vx_frame {U : State} {k n : Nat} (h : s.sameButNew ({ U with vm := s.vm } : State) locs k n) : s.heap.size ≤ U.heap.size ∧ ∀ q : Nat, q < s.heap.size → (∀ z ∈ locs, z.base ≠ q) → U.heap[q]? = s.heap[q]? := by
  obtain ⟨-, h2, -, -, -, h6⟩ := h
  refine ⟨h2, fun q hq hz => ?_⟩
  obtain ⟨c9, e1, e2, e3, e4⟩ := h6 q _ (Array.getElem?_eq_getElem hq)
  have hs : c9.slots = (s.heap[q]).slots := Array.ext_getElem? fun i => e4 i fun hm => hz _ hm rfl
  have h9 : c9 = s.heap[q] := by
    rw [hs] at e2
    exact e2
  have e5 : U.heap[q]? = some c9 := e1
  rw [e5, h9, Array.getElem?_eq_getElem hq]
/-- the words of a throw but the four that speak of the heap -/
def vx_no (w : Cond) : Bool := decide (w ≠ .isRef (.static Bundle.tN "UNASSIGNED_STACK" Bundle.steD)) && decide (w ≠ .isRef (.static Bundle.tN "SUPPRESSED_SENTINEL" Bundle.listD)) && decide (w ≠ .laysStatic Bundle.tN "UNASSIGNED_STACK" Bundle.steD) && decide (w ≠ .laysStatic Bundle.tN "SUPPRESSED_SENTINEL" Bundle.listD)
def vx_at0 (own : String) (ic : Nat) (X : String) (names : List String) : List Cond := (Bundle.ownAtoms0 own ic X names).filter vx_no
def vx_atS (own : String) (ic : Nat) (X : String) (names : List String) : List Cond := (Bundle.ownAtoms own ic X names).filter vx_no
/-- a word that the tables alone decide, or a good one -/
def vx_ot (w : Cond) : Bool := w.onTables || goodWord w
theorem vx_ot_at {args a' : Array Value} {s U : State} {w : Cond} (hW : s.WarmedH U.vm) (hvm : s.vm = U.vm) (hg : vx_ot w = true) (h : w.before args s = true) : w.before a' U = true := by
  simp only [vx_ot, Bool.or_eq_true] at hg
  rcases hg with hg | hg
  · exact va_tabs hg hvm h
  · exact word_at hW (good_of_word hg) h
/-- a list's words: the good ones out of the method's own list, the others by premises of their own -/
theorem vx_hat {args : Array Value} {s : State} {L B : List Cond} (h1 : ∀ w ∈ L.filter goodWord, w.before args s = true) (h2 : ∀ w ∈ L.filter (fun w => !goodWord w), w ∈ B) (h3 : ∀ w ∈ B, w.before args s = true) : ∀ w ∈ L, w.before args s = true := by
  intro w hw
  by_cases g : goodWord w = true
  · exact h1 w (List.mem_filter.mpr ⟨hw, g⟩)
  · refine h3 w (h2 w (List.mem_filter.mpr ⟨hw, ?_⟩))
    show (!goodWord w) = true
    cases hgw : goodWord w
    · rfl
    · exact absurd hgw g
theorem vx_c {args : Array Value} {s : State} {w : Cond} {B : List Cond} (h : w.before args s = true) (t : ∀ w ∈ B, w.before args s = true) : ∀ w' ∈ w :: B, w'.before args s = true := fun w' h' => (List.mem_cons.mp h').elim (fun e => by rw [e]; exact h) (t w')
theorem vx_n {args : Array Value} {s : State} : ∀ w ∈ ([] : List Cond), w.before args s = true := fun _ h => nomatch h
theorem vx_own {args : Array Value} {s : State} {L : List Cond} (h1 : ∀ w ∈ L.filter vx_no, w.before args s = true)
    (hU : (Cond.isRef (.static Bundle.tN "UNASSIGNED_STACK" Bundle.steD)).before args s = true) (hN : (Cond.isRef (.static Bundle.tN "SUPPRESSED_SENTINEL" Bundle.listD)).before args s = true)
    (lU : (Cond.laysStatic Bundle.tN "UNASSIGNED_STACK" Bundle.steD).before args s = true) (lN : (Cond.laysStatic Bundle.tN "SUPPRESSED_SENTINEL" Bundle.listD).before args s = true) : ∀ w ∈ L, w.before args s = true := by
  intro w hw
  by_cases e1 : w = .isRef (.static Bundle.tN "UNASSIGNED_STACK" Bundle.steD)
  · rw [e1]; exact hU
  · by_cases e2 : w = .isRef (.static Bundle.tN "SUPPRESSED_SENTINEL" Bundle.listD)
    · rw [e2]; exact hN
    · by_cases e3 : w = .laysStatic Bundle.tN "UNASSIGNED_STACK" Bundle.steD
      · rw [e3]; exact lU
      · by_cases e4 : w = .laysStatic Bundle.tN "SUPPRESSED_SENTINEL" Bundle.listD
        · rw [e4]; exact lN
        · exact h1 w (List.mem_filter.mpr ⟨hw, by unfold vx_no; rw [decide_eq_true e1, decide_eq_true e2, decide_eq_true e3, decide_eq_true e4]; rfl⟩)
/-- where a static field lies, its class's statics cell in H -/
def vx_L (C n d : String) (A : Nat → Prop) (U : State) (H : Heap) : Prop := ∃ (c : ClassId) (k : Class) (i : Nat) (f : Field) (a : Nat) (cell : Cell), U.vm.findClass C = some c ∧ U.fieldFound? C n d = some (c, k, i, f) ∧ f.isStatic = true ∧ k.statics = some a ∧ H[a]? = some cell ∧ cell.vm.isStatics = true ∧ cell.cls = c ∧ f.slot < cell.slots.size ∧ k.staticTypes[f.slot]? = some f.type ∧ ¬ A a
theorem vx_L.moved {C n d : String} {A : Nat → Prop} {u U : State} {H : Heap} (hvm : u.vm.Alike U.vm) (h : vx_L C n d A u H) : vx_L C n d A U H := by
  obtain ⟨c, k, i, f, a, cell, h1, h2, h3, h4, h5, h6, h7, h8, h9, h10⟩ := h
  obtain ⟨k', hi', he⟩ := State.fieldFound?_setVm hvm h2
  exact ⟨c, k', i, f, a, cell, by rw [hvm.findClass]; exact h1, hi', h3, by rw [he]; exact h4, h5, h6, h7, h8, by rw [he]; exact h9, h10⟩
theorem vx_L.kept {C n d : String} {A : Nat → Prop} {U : State} {H H1 : Heap} (h : vx_L C n d A U H) (hq : ∀ a : Nat, a < H.size → ¬ A a → H1[a]? = H[a]?) : vx_L C n d A U H1 := by
  obtain ⟨c, k, i, f, a, cell, h1, h2, h3, h4, h5, h6, h7, h8, h9, h10⟩ := h
  exact ⟨c, k, i, f, a, cell, h1, h2, h3, h4, by rw [hq a (Array.getElem?_eq_some_iff.mp h5).1 h10]; exact h5, h6, h7, h8, h9, h10⟩
theorem vx_L.narrow {C n d : String} {A B : Nat → Prop} {U : State} {H : Heap} (h : vx_L C n d A U H) (hAB : ∀ q, B q → A q) : vx_L C n d B U H := by
  obtain ⟨c, k, i, f, a, cell, h1, h2, h3, h4, h5, h6, h7, h8, h9, h10⟩ := h
  exact ⟨c, k, i, f, a, cell, h1, h2, h3, h4, h5, h6, h7, h8, h9, fun z => h10 (hAB _ z)⟩
theorem vx_L.word {C n d : String} {A : Nat → Prop} {s : State} {args : Array Value} (h : vx_L C n d A s s.heap) : (Cond.laysStatic C n d).before args s = true := by
  obtain ⟨c, k, i, f, a, cell, h1, h2, h3, h4, h5, h6, h7, h8, h9, -⟩ := h
  show (Cond.laysStatic C n d).holds args s none s [] = true
  exact Cond.laysStatic_of h1 h2 h3 h4 h5 h6 h7 h8 h9
/-- .. and what it holds: null or some reference -/
def vx_Zq (C n d : String) (A : Nat → Prop) (U : State) (H : Heap) : Prop := va_Zq C n d A U H ∧ vx_L C n d A U H
theorem vx_Zq.moved {C n d : String} {A : Nat → Prop} {u U : State} {H : Heap} (hvm : u.vm.Alike U.vm) (h : vx_Zq C n d A u H) : vx_Zq C n d A U H := ⟨va_Zq.moved hvm h.1, vx_L.moved hvm h.2⟩
theorem vx_Zq.kept {C n d : String} {A : Nat → Prop} {U : State} {H H1 : Heap} (h : vx_Zq C n d A U H) (hq : ∀ a : Nat, a < H.size → ¬ A a → H1[a]? = H[a]?) : vx_Zq C n d A U H1 := ⟨va_Zq.kept h.1 hq, vx_L.kept h.2 hq⟩
theorem vx_Zq.narrow {C n d : String} {A B : Nat → Prop} {U : State} {H : Heap} (h : vx_Zq C n d A U H) (hAB : ∀ q, B q → A q) : vx_Zq C n d B U H := ⟨va_Zq.narrow h.1 hAB, vx_L.narrow h.2 hAB⟩
theorem vx_Zqof {args : Array Value} {s : State} {C n d : String} {A : Nat → Prop} (hl : (Cond.laysStatic C n d).before args s = true) (hini : (Cond.initialized C).before args s = true) (h : (Cond.isRef (.static C n d)).before args s = true) (hA : ∀ a : Nat, a < s.heap.size → ¬ A a) : vx_Zq C n d A s s.heap := by
  refine ⟨va_Zqof hl hini h hA, ?_⟩
  obtain ⟨c, k, i, f, a, cell, h1, h2, h3, h4, h5, h6, h7, h8, h9⟩ := Cond.laysStatic_spec hl
  exact ⟨c, k, i, f, a, cell, h1, h2, h3, h4, h5, h6, h7, h8, h9, hA a (Array.getElem?_eq_some_iff.mp h5).1⟩
theorem vx_isRef {C n d : String} {v : Value} {A : Nat → Prop} {s : State} {args : Array Value} (h : va_Z C n d v A s s.heap) (hv : v.isRef = true) : (Cond.isRef (.static C n d)).before args s = true := by
  obtain ⟨cf, kf, fi, f, a, cell, h1, h2, h3, h4, h5, h6, h7, -⟩ := h
  have he : (Term.static C n d).eval args s none [] s = some v := by
    simp [Term.eval, State.fieldNamed?, h1, h2, h4, h5, h6, h7]
  simp only [Cond.before, Cond.holds, Cond.value, he]
  cases v <;> simp_all [Value.isRef]
theorem vx_isRefq {C n d : String} {A : Nat → Prop} {s : State} {args : Array Value} (h : va_Zq C n d A s s.heap) : (Cond.isRef (.static C n d)).before args s = true := by
  rcases h with h | ⟨t, h⟩
  · exact vx_isRef h rfl
  · exact vx_isRef h rfl
/-- the same frame, seen from here: as if the method were called anew in this heap -/
theorem vx_rebase {T : State} (X : Stand p l e R s m args below meth c T locs cells slots) {R' : Room} (hf : R'.frames ≤ R.frames) (hl : R'.locals ≤ R.locals) (hc : cells + R'.cells ≤ R.cells) (hs : slots + R'.slots ≤ R.slots) :
    Stand p l e R' ((T.setVm s.vm).setFrames (.invoking m args :: below)) m args below meth c T [] 0 0 := by
  have htop : (T.setVm s.vm).topJava?.isSome := X.here.top
  have hF : ((T.setVm s.vm).setFrames (.invoking m args :: below)).frames = .invoking m args :: below := State.frames_setFrames _ (State.cur_lt_of_top htop)
  obtain ⟨g₀, hg0⟩ := Option.isSome_iff_exists.mp htop
  obtain ⟨r, hr⟩ := State.topJava?_eq_some.mp hg0
  have hl9 : e.platform.stackLimits (T.setVm s.vm).me = e.platform.stackLimits s.me := X.limits
  have hb9 : (T.setVm s.vm).me.stackBytes = s.me.stackBytes := X.bytes
  refine ⟨X.admits, X.cas, X.clock, hF, ?_, X.hears, X.method, X.code, X.here, X.tail, X.warmed, ?_, ?_, ?_⟩
  · have h := X.room
    have hU : ((T.setVm s.vm).setFrames (.invoking m args :: below)).localsInUse = s.localsInUse := by
      rw [State.localsInUse_invoking hF (meth := meth) (c := c) X.method X.code, State.localsInUse_invoking X.frames X.method X.code]
    simp only [State.hasRoom, Bool.and_eq_true, decide_eq_true_eq] at h ⊢
    obtain ⟨⟨⟨⟨h1, h2, h3, h4, h5, h6⟩, h7⟩, h8⟩, h9⟩ := h
    rw [X.frames, List.length_cons] at h2 h3
    have q1 := X.heapSize
    have q2 := X.used
    simp only [hF, hU, List.length_cons, State.stackLimits_setFrames, State.stackBytes_setFrames, hl9, hb9]
    refine ⟨⟨⟨⟨by omega, by omega, by omega, by omega, by omega, h6⟩, ?_⟩, ?_⟩, X.book⟩
    · show T.heap.size + R'.cells ≤ e.platform.maxCells
      omega
    · show T.slotsUsed + R'.slots ≤ e.platform.maxSlots
      omega
  · rw [State.stackLimits_setFrames]; rfl
  · rw [State.stackBytes_setFrames]; rfl
  · refine ⟨?_, Nat.le_refl _, Nat.le_refl _, ?_, ?_, fun a c9 h9 => ⟨c9, h9, rfl, rfl, fun _ _ => rfl⟩⟩
    · obtain ⟨t, ht, -⟩ := State.frames_cons hr
      show T.setVm s.vm = { ((T.setVm s.vm).setFrames (.invoking m args :: below)).setFrames (T.setVm s.vm).frames with heap := T.heap, slotsUsed := T.slotsUsed }
      rw [State.setFrames_setFrames, State.setFrames_self ht]
      rfl
    · show T.slotsUsed = T.slotsUsed + ((T.heap.toList.drop T.heap.size).map (·.slots.size)).sum
      rw [List.drop_eq_nil_of_le (Nat.le_of_eq Array.length_toList)]
      rfl
    · show ((T.heap.toList.drop T.heap.size).map (·.slots.size)).sum ≤ 0
      rw [List.drop_eq_nil_of_le (Nat.le_of_eq Array.length_toList)]
      exact Nat.le_refl _
/-- 'throw new E()': new; dup; invokespecial; athrow -/
theorem vx_throw0 {cc : ByteArray} {pc : Nat} (hexec : p.tables.exec = Jvm.exec) (hb : c.code = cc) (hl : l.stackTraces = false) {own cls : String} {names : List String} {ik ic mc ms : Nat} {A : Nat → Prop}
    (hown : s.vm.findClass own = some m.cls) (hcls : Bundle.fit cls = true) (hnames : ∀ n ∈ names, Bundle.fit n = true)
    (hk : (Cond.classLink own ik cls).before args s = true) (hini : (Cond.initialized cls).before args s = true) (hat : ∀ w ∈ vx_at0 own ic cls names, w.before args s = true)
    (hgood : ∀ w ∈ Cond.classLink own ik cls :: Cond.initialized cls :: vx_at0 own ic cls names, vx_ot w = true)
    (hU : vx_Zq Bundle.tN "UNASSIGNED_STACK" Bundle.steD A s s.heap) (hN : vx_Zq Bundle.tN "SUPPRESSED_SENTINEL" Bundle.listD A s s.heap) (hS : va_S A s.heap H locs) (hsize : ls.size = c.maxLocals)
    (d0 : decode cc pc = .ok (.new ik, 3)) (d3 : decode cc (pc + 3) = .ok (.dup, 1)) (d4 : decode cc (pc + 4) = .ok (.invokespecial ic, 3)) (d7 : decode cc (pc + 7) = .ok (.athrow, 1))
    (hout : ∀ x ∈ c.exceptionTable.toList, covers x (pc + 7) = false)
    (hRframes : names.length + 3 < R.frames) (hRlocals : (rest.map fun v => v.category).sum + (13 * (names.length + 1) + 42) ≤ R.locals) (hRcells : cells + 1 ≤ R.cells) (hRslots : slots + 6 ≤ R.slots) (hlocks : meth.locks = false)
    (hx : ∀ t : State, s.vm.Alike t.vm → H.size ≤ t.heap.size → (∀ q : Nat, q < H.size → t.heap[q]? = H[q]?) → XC cls s t)
    (hf : ∀ z ∈ locs, free z.base) (hc : cells + 1 ≤ mc) (hs : slots + 6 ≤ ms) :
    W p l e R s m args below meth c H locs cells slots (vx_MQ below Qc XC args s mc ms free) (F0 m pc ls rest) := by
  intro T hT X
  have htr : e.platform.stackTraces = false := (show e.platform.stackTraces = l.stackTraces by rw [X.admits.platform]).trans hl
  have Y := vx_rebase X (R' := { frames := R.frames, locals := R.locals, cells := 1, slots := 6 }) (Nat.le_refl _) (Nat.le_refl _) hRcells hRslots
  obtain ⟨s', hA⟩ : ∃ z, z = (T.setVm s.vm).setFrames (.invoking m args :: below) := ⟨_, rfl⟩
  rw [← hA] at Y
  have hvm : s'.vm = s.vm := by rw [hA]; rfl
  have hhp : s'.heap = H := by rw [hA]; exact hT
  have hW0 : s.WarmedH s'.vm := by rw [hvm]; exact State.WarmedH.refl s
  have hat' : ∀ w ∈ vx_at0 own ic cls names, w.before args s' = true := fun w hw => vx_ot_at hW0 hvm.symm (hgood w (List.mem_cons_of_mem _ (List.mem_cons_of_mem _ hw))) (hat w hw)
  have hk' : (Cond.classLink own ik cls).before args s' = true := vx_ot_at hW0 hvm.symm (hgood _ List.mem_cons_self) hk
  have hini' : (Cond.initialized cls).before args s' = true := vx_ot_at hW0 hvm.symm (hgood _ (List.mem_cons_of_mem _ List.mem_cons_self)) hini
  have hU' : vx_Zq Bundle.tN "UNASSIGNED_STACK" Bundle.steD A s' s'.heap := by rw [hhp]; exact vx_Zq.moved hW0.alike (hU.kept hS.2.1)
  have hN' : vx_Zq Bundle.tN "SUPPRESSED_SENTINEL" Bundle.listD A s' s'.heap := by rw [hhp]; exact vx_Zq.moved hW0.alike (hN.kept hS.2.1)
  have h : ∀ w ∈ Bundle.ownAtoms0 own ic cls names, w.before args s' = true := vx_own hat' (vx_isRefq hU'.1) (vx_isRefq hN'.1) hU'.2.word hN'.2.word
  have hown' : s'.vm.findClass own = some m.cls := by rw [hvm]; exact hown
  have hins : (Cond.instantiable cls 6).before args s' = true := h _ (by simp [Bundle.ownAtoms0])
  obtain ⟨vm₁, cX, kX, hfX, hkX, -, -, X₁, st1⟩ := Y.newCold hexec (own := own) (C := cls) (index := ik) (n := 6) hown' hk' hins hini'
    (g := F0 m pc ls rest) rfl (by rw [hb]; exact d0) (Nat.le_refl _) (Nat.le_refl _)
  generalize hT1 : (T.setVm vm₁).pushCell { cls := cX, slots := kX.instanceTypes.map defaultValue, vm := .none } = T1 at X₁ st1
  have hcat : (Value.ref T.heap.size).category = 1 := rfl
  have hcellA : T1.heap[T.heap.size]? = some (freshCell cX kX) := by rw [← hT1]; exact State.heap_pushCell_size _ _
  have d3' : decode c.code (pc + 3) = .ok (.dup, 1) := by rw [hb]; exact d3
  obtain ⟨U, hsteps, hrun, hend, hW, hsame, ce, hce, hO⟩ := X₁.ctorThrow0 hexec htr (own := own) (cls := cls) (names := names) (ic := ic) hown' hcls hnames h (fun x hx => nomatch hx) hfX hkX hcellA (by rw [hhp, hT]; exact Nat.le_refl _)
    (g := { method := m, pc := pc + 4, locals := ls, stack := .ref T.heap.size :: .ref T.heap.size :: rest, locked := none }) rfl hsize rfl rfl (rest := rest) rfl
    (by rw [hb]; exact d4) (by rw [hb]; exact d7) hout hRframes (by simp only [List.map_cons, List.sum_cons, hcat]; omega) hlocks
  obtain ⟨f1, f2⟩ := vx_frame hsame
  rw [hhp] at f1 f2
  have hWs : s.WarmedH U.vm := State.WarmedH.trans hW0 hW
  have hcl : s.vm.findClass cls = some ce.cls := by
    have h9 := hO.cls
    rw [hvm] at h9
    exact h9
  have hall : s.sameButNew ({ U with vm := s.vm } : State) locs mc ms := by
    subst hA
    obtain ⟨e1, e2⟩ := hsame
    rw [State.setFrames_setFrames] at e1
    have h2 : (T.setVm s.vm).sameButNew ({ U with vm := s.vm } : State) [] (0 + 1) (0 + 6) := ⟨e1, e2⟩
    have h3 := X.same.trans h2
    rw [List.append_nil] at h3
    exact h3.mono hc hs
  refine ⟨U, ?_, .threw T.heap.size, hrun, hend, Or.inr ⟨T.heap.size, rfl, cls, ce, locs, hx U hWs.alike f1 (fun q hq => f2 q hq (fun z hz => nomatch hz)), hce, hO.vm, hcl, hWs, hall, hf⟩⟩
  refine st1 _ ?_
  show Steps p.tables e below (T1.setTop { method := m, pc := pc + 3, locals := ls, stack := .ref T.heap.size :: rest, locked := none }) _
  jvm_step X₁.here [X₁.here.top, hexec, d3', Value.category]
  exact hsteps
/-- 'throw new E("text")': new; dup; ldc; invokespecial; athrow -/
theorem vx_throwS {cc : ByteArray} {pc : Nat} (hexec : p.tables.exec = Jvm.exec) (hb : c.code = cc) (hl : l.stackTraces = false) {own cls text : String} {names : List String} {ik is ic mc ms sa : Nat} {A : Nat → Prop}
    (hown : s.vm.findClass own = some m.cls) (hcls : Bundle.fit cls = true) (hnames : ∀ n ∈ names, Bundle.fit n = true)
    (hk : (Cond.classLink own ik cls).before args s = true) (hini : (Cond.initialized cls).before args s = true) (hstr : vk_R own is text sa s) (hat : ∀ w ∈ vx_atS own ic cls names, w.before args s = true)
    (hgood : ∀ w ∈ Cond.classLink own ik cls :: Cond.initialized cls :: vx_atS own ic cls names, vx_ot w = true)
    (hU : vx_Zq Bundle.tN "UNASSIGNED_STACK" Bundle.steD A s s.heap) (hN : vx_Zq Bundle.tN "SUPPRESSED_SENTINEL" Bundle.listD A s s.heap) (hS : va_S A s.heap H locs) (hsize : ls.size = c.maxLocals)
    (d0 : decode cc pc = .ok (.new ik, 3)) (d3 : decode cc (pc + 3) = .ok (.dup, 1)) (d4 : decode cc (pc + 4) = .ok (.ldc is, 2)) (d6 : decode cc (pc + 6) = .ok (.invokespecial ic, 3)) (d9 : decode cc (pc + 9) = .ok (.athrow, 1))
    (hout : ∀ x ∈ c.exceptionTable.toList, covers x (pc + 9) = false)
    (hRframes : names.length + 3 < R.frames) (hRlocals : (rest.map fun v => v.category).sum + (13 * (names.length + 1) + 43) ≤ R.locals) (hRcells : cells + 1 ≤ R.cells) (hRslots : slots + 6 ≤ R.slots) (hlocks : meth.locks = false)
    (hx : ∀ t : State, s.vm.Alike t.vm → H.size ≤ t.heap.size → (∀ q : Nat, q < H.size → t.heap[q]? = H[q]?) → XC cls s t)
    (hf : ∀ z ∈ locs, free z.base) (hc : cells + 1 ≤ mc) (hs : slots + 6 ≤ ms) :
    W p l e R s m args below meth c H locs cells slots (vx_MQ below Qc XC args s mc ms free) (F0 m pc ls rest) := by
  intro T hT X
  have htr : e.platform.stackTraces = false := (show e.platform.stackTraces = l.stackTraces by rw [X.admits.platform]).trans hl
  have Y := vx_rebase X (R' := { frames := R.frames, locals := R.locals, cells := 1, slots := 6 }) (Nat.le_refl _) (Nat.le_refl _) hRcells hRslots
  obtain ⟨s', hA⟩ : ∃ z, z = (T.setVm s.vm).setFrames (.invoking m args :: below) := ⟨_, rfl⟩
  rw [← hA] at Y
  have hvm : s'.vm = s.vm := by rw [hA]; rfl
  have hhp : s'.heap = H := by rw [hA]; exact hT
  have hW0 : s.WarmedH s'.vm := by rw [hvm]; exact State.WarmedH.refl s
  have hat' : ∀ w ∈ vx_atS own ic cls names, w.before args s' = true := fun w hw => vx_ot_at hW0 hvm.symm (hgood w (List.mem_cons_of_mem _ (List.mem_cons_of_mem _ hw))) (hat w hw)
  have hk' : (Cond.classLink own ik cls).before args s' = true := vx_ot_at hW0 hvm.symm (hgood _ List.mem_cons_self) hk
  have hini' : (Cond.initialized cls).before args s' = true := vx_ot_at hW0 hvm.symm (hgood _ (List.mem_cons_of_mem _ List.mem_cons_self)) hini
  have hU' : vx_Zq Bundle.tN "UNASSIGNED_STACK" Bundle.steD A s' s'.heap := by rw [hhp]; exact vx_Zq.moved hW0.alike (hU.kept hS.2.1)
  have hN' : vx_Zq Bundle.tN "SUPPRESSED_SENTINEL" Bundle.listD A s' s'.heap := by rw [hhp]; exact vx_Zq.moved hW0.alike (hN.kept hS.2.1)
  have h : ∀ w ∈ Bundle.ownAtoms own ic cls names, w.before args s' = true := vx_own hat' (vx_isRefq hU'.1) (vx_isRefq hN'.1) hU'.2.word hN'.2.word
  have hown' : s'.vm.findClass own = some m.cls := by rw [hvm]; exact hown
  have hins : (Cond.instantiable cls 6).before args s' = true := h _ (by simp [Bundle.ownAtoms])
  obtain ⟨vm₁, cX, kX, hfX, hkX, -, -, X₁, st1⟩ := Y.newCold hexec (own := own) (C := cls) (index := ik) (n := 6) hown' hk' hins hini'
    (g := F0 m pc ls rest) rfl (by rw [hb]; exact d0) (Nat.le_refl _) (Nat.le_refl _)
  generalize hT1 : (T.setVm vm₁).pushCell { cls := cX, slots := kX.instanceTypes.map defaultValue, vm := .none } = T1 at X₁ st1
  have hcat : (Value.ref T.heap.size).category = 1 := rfl
  have hcellA : T1.heap[T.heap.size]? = some (freshCell cX kX) := by rw [← hT1]; exact State.heap_pushCell_size _ _
  have d3' : decode c.code (pc + 3) = .ok (.dup, 1) := by rw [hb]; exact d3
  have d4' : decode c.code (pc + 4) = .ok (.ldc is, 2) := by rw [hb]; exact d4
  have hstr' : vk_R own is text sa s' := vk_R.warm hW0 hstr
  obtain ⟨U, hsteps, hrun, hend, hW, hsame, ce, hce, hO⟩ := X₁.ctorThrowS hexec htr (own := own) (cls := cls) (names := names) (ic := ic) hown' hcls hnames h (fun x hx => nomatch hx) hfX hkX hcellA (by rw [hhp, hT]; exact Nat.le_refl _) (msg := .ref sa) rfl
    (g := { method := m, pc := pc + 6, locals := ls, stack := .ref sa :: .ref T.heap.size :: .ref T.heap.size :: rest, locked := none }) rfl hsize rfl rfl (rest := rest) rfl
    (by rw [hb]; exact d6) (by rw [hb]; exact d9) hout hRframes (by simp only [List.map_cons, List.sum_cons, hcat]; omega) hlocks
  obtain ⟨f1, f2⟩ := vx_frame hsame
  rw [hhp] at f1 f2
  have hWs : s.WarmedH U.vm := State.WarmedH.trans hW0 hW
  have hcl : s.vm.findClass cls = some ce.cls := by
    have h9 := hO.cls
    rw [hvm] at h9
    exact h9
  have hall : s.sameButNew ({ U with vm := s.vm } : State) locs mc ms := by
    subst hA
    obtain ⟨e1, e2⟩ := hsame
    rw [State.setFrames_setFrames] at e1
    have h2 : (T.setVm s.vm).sameButNew ({ U with vm := s.vm } : State) [] (0 + 1) (0 + 6) := ⟨e1, e2⟩
    have h3 := X.same.trans h2
    rw [List.append_nil] at h3
    exact h3.mono hc hs
  refine ⟨U, ?_, .threw T.heap.size, hrun, hend, Or.inr ⟨T.heap.size, rfl, cls, ce, locs, hx U hWs.alike f1 (fun q hq => f2 q hq (fun z hz => nomatch hz)), hce, hO.vm, hcl, hWs, hall, hf⟩⟩
  refine st1 _ ?_
  show Steps p.tables e below (T1.setTop { method := m, pc := pc + 3, locals := ls, stack := .ref T.heap.size :: rest, locked := none }) _
  jvm_step X₁.here [X₁.here.top, hexec, d3', Value.category]
  exact X₁.ldcString hexec (own := own) (text := text) (index := is) (a := sa) hown' hstr'.1 hstr'.2
    (g := { method := m, pc := pc + 4, locals := ls, stack := .ref T.heap.size :: .ref T.heap.size :: rest, locked := none }) rfl d4' _ hsteps
/-- 'throw new E("text")', the text by a wide index -/
theorem vx_throwSW {cc : ByteArray} {pc : Nat} (hexec : p.tables.exec = Jvm.exec) (hb : c.code = cc) (hl : l.stackTraces = false) {own cls text : String} {names : List String} {ik is ic mc ms sa : Nat} {A : Nat → Prop}
    (hown : s.vm.findClass own = some m.cls) (hcls : Bundle.fit cls = true) (hnames : ∀ n ∈ names, Bundle.fit n = true)
    (hk : (Cond.classLink own ik cls).before args s = true) (hini : (Cond.initialized cls).before args s = true) (hstr : vk_R own is text sa s) (hat : ∀ w ∈ vx_atS own ic cls names, w.before args s = true)
    (hgood : ∀ w ∈ Cond.classLink own ik cls :: Cond.initialized cls :: vx_atS own ic cls names, vx_ot w = true)
    (hU : vx_Zq Bundle.tN "UNASSIGNED_STACK" Bundle.steD A s s.heap) (hN : vx_Zq Bundle.tN "SUPPRESSED_SENTINEL" Bundle.listD A s s.heap) (hS : va_S A s.heap H locs) (hsize : ls.size = c.maxLocals)
    (d0 : decode cc pc = .ok (.new ik, 3)) (d3 : decode cc (pc + 3) = .ok (.dup, 1)) (d4 : decode cc (pc + 4) = .ok (.ldc_w is, 3)) (d7 : decode cc (pc + 7) = .ok (.invokespecial ic, 3)) (d10 : decode cc (pc + 10) = .ok (.athrow, 1))
    (hout : ∀ x ∈ c.exceptionTable.toList, covers x (pc + 10) = false)
    (hRframes : names.length + 3 < R.frames) (hRlocals : (rest.map fun v => v.category).sum + (13 * (names.length + 1) + 43) ≤ R.locals) (hRcells : cells + 1 ≤ R.cells) (hRslots : slots + 6 ≤ R.slots) (hlocks : meth.locks = false)
    (hx : ∀ t : State, s.vm.Alike t.vm → H.size ≤ t.heap.size → (∀ q : Nat, q < H.size → t.heap[q]? = H[q]?) → XC cls s t)
    (hf : ∀ z ∈ locs, free z.base) (hc : cells + 1 ≤ mc) (hs : slots + 6 ≤ ms) :
    W p l e R s m args below meth c H locs cells slots (vx_MQ below Qc XC args s mc ms free) (F0 m pc ls rest) := by
  intro T hT X
  have htr : e.platform.stackTraces = false := (show e.platform.stackTraces = l.stackTraces by rw [X.admits.platform]).trans hl
  have Y := vx_rebase X (R' := { frames := R.frames, locals := R.locals, cells := 1, slots := 6 }) (Nat.le_refl _) (Nat.le_refl _) hRcells hRslots
  obtain ⟨s', hA⟩ : ∃ z, z = (T.setVm s.vm).setFrames (.invoking m args :: below) := ⟨_, rfl⟩
  rw [← hA] at Y
  have hvm : s'.vm = s.vm := by rw [hA]; rfl
  have hhp : s'.heap = H := by rw [hA]; exact hT
  have hW0 : s.WarmedH s'.vm := by rw [hvm]; exact State.WarmedH.refl s
  have hat' : ∀ w ∈ vx_atS own ic cls names, w.before args s' = true := fun w hw => vx_ot_at hW0 hvm.symm (hgood w (List.mem_cons_of_mem _ (List.mem_cons_of_mem _ hw))) (hat w hw)
  have hk' : (Cond.classLink own ik cls).before args s' = true := vx_ot_at hW0 hvm.symm (hgood _ List.mem_cons_self) hk
  have hini' : (Cond.initialized cls).before args s' = true := vx_ot_at hW0 hvm.symm (hgood _ (List.mem_cons_of_mem _ List.mem_cons_self)) hini
  have hU' : vx_Zq Bundle.tN "UNASSIGNED_STACK" Bundle.steD A s' s'.heap := by rw [hhp]; exact vx_Zq.moved hW0.alike (hU.kept hS.2.1)
  have hN' : vx_Zq Bundle.tN "SUPPRESSED_SENTINEL" Bundle.listD A s' s'.heap := by rw [hhp]; exact vx_Zq.moved hW0.alike (hN.kept hS.2.1)
  have h : ∀ w ∈ Bundle.ownAtoms own ic cls names, w.before args s' = true := vx_own hat' (vx_isRefq hU'.1) (vx_isRefq hN'.1) hU'.2.word hN'.2.word
  have hown' : s'.vm.findClass own = some m.cls := by rw [hvm]; exact hown
  have hins : (Cond.instantiable cls 6).before args s' = true := h _ (by simp [Bundle.ownAtoms])
  obtain ⟨vm₁, cX, kX, hfX, hkX, -, -, X₁, st1⟩ := Y.newCold hexec (own := own) (C := cls) (index := ik) (n := 6) hown' hk' hins hini'
    (g := F0 m pc ls rest) rfl (by rw [hb]; exact d0) (Nat.le_refl _) (Nat.le_refl _)
  generalize hT1 : (T.setVm vm₁).pushCell { cls := cX, slots := kX.instanceTypes.map defaultValue, vm := .none } = T1 at X₁ st1
  have hcat : (Value.ref T.heap.size).category = 1 := rfl
  have hcellA : T1.heap[T.heap.size]? = some (freshCell cX kX) := by rw [← hT1]; exact State.heap_pushCell_size _ _
  have d3' : decode c.code (pc + 3) = .ok (.dup, 1) := by rw [hb]; exact d3
  have d4' : decode c.code (pc + 4) = .ok (.ldc_w is, 3) := by rw [hb]; exact d4
  have hstr' : vk_R own is text sa s' := vk_R.warm hW0 hstr
  obtain ⟨U, hsteps, hrun, hend, hW, hsame, ce, hce, hO⟩ := X₁.ctorThrowS hexec htr (own := own) (cls := cls) (names := names) (ic := ic) hown' hcls hnames h (fun x hx => nomatch hx) hfX hkX hcellA (by rw [hhp, hT]; exact Nat.le_refl _) (msg := .ref sa) rfl
    (g := { method := m, pc := pc + 7, locals := ls, stack := .ref sa :: .ref T.heap.size :: .ref T.heap.size :: rest, locked := none }) rfl hsize rfl rfl (rest := rest) rfl
    (by rw [hb]; exact d7) (by rw [hb]; exact d10) hout hRframes (by simp only [List.map_cons, List.sum_cons, hcat]; omega) hlocks
  obtain ⟨f1, f2⟩ := vx_frame hsame
  rw [hhp] at f1 f2
  have hWs : s.WarmedH U.vm := State.WarmedH.trans hW0 hW
  have hcl : s.vm.findClass cls = some ce.cls := by
    have h9 := hO.cls
    rw [hvm] at h9
    exact h9
  have hall : s.sameButNew ({ U with vm := s.vm } : State) locs mc ms := by
    subst hA
    obtain ⟨e1, e2⟩ := hsame
    rw [State.setFrames_setFrames] at e1
    have h2 : (T.setVm s.vm).sameButNew ({ U with vm := s.vm } : State) [] (0 + 1) (0 + 6) := ⟨e1, e2⟩
    have h3 := X.same.trans h2
    rw [List.append_nil] at h3
    exact h3.mono hc hs
  refine ⟨U, ?_, .threw T.heap.size, hrun, hend, Or.inr ⟨T.heap.size, rfl, cls, ce, locs, hx U hWs.alike f1 (fun q hq => f2 q hq (fun z hz => nomatch hz)), hce, hO.vm, hcl, hWs, hall, hf⟩⟩
  refine st1 _ ?_
  show Steps p.tables e below (T1.setTop { method := m, pc := pc + 3, locals := ls, stack := .ref T.heap.size :: rest, locked := none }) _
  jvm_step X₁.here [X₁.here.top, hexec, d3', Value.category]
  exact X₁.ldcStringW hexec (own := own) (text := text) (index := is) (a := sa) hown' hstr'.1 hstr'.2
    (g := { method := m, pc := pc + 4, locals := ls, stack := .ref T.heap.size :: .ref T.heap.size :: rest, locked := none }) rfl d4' _ hsteps
end Ends
section Bodies
variable {l : Launch}
theorem vx_ofW {y : MethodName} {ws ws' : List Cond} {rm : Room} {Pc : Array Value → State → Prop} {Qc : Array Value → State → Outcome → State → Prop} {XC : String → State → State → Prop} {mc ms : Nat} {free : Addr → Prop} {cc : ByteArray} {maxL : Nat} {ret : Option FieldType}
    (hy : plainName y.cls = true) (hw : ws = Cond.code y cc maxL ret :: ws')
    (body : ∀ p e s m args below meth c s₁, BodyLoose p l y (headSpec ws rm) cc maxL ret e s m args below meth c s₁ → c.maxLocals = maxL → (∀ x ∈ c.exceptionTable.toList, False) → Pc args s →
      W p l e (headSpec ws rm).room s m args below meth c s.heap [] 0 0 (vx_MQ below Qc XC args s mc ms free) (entryFrame m args maxL)) : vx_Met l y ws rm Pc Qc XC mc ms free := by
  refine MetFree.of_bodyS (code := cc) (maxLocals := maxL) (ret := ret) hy ?_ ?_
  · intro args s m h hn
    obtain ⟨meth, c, h1, h2, h3, h4, h5, h6, -, -⟩ := Cond.code_spec hn (atoms_spec (ws := ws) h _ (by rw [hw]; exact List.mem_cons_self))
    exact ⟨meth, c, h1, h2, h3, h4, h5, h6⟩
  · intro p e s m args below meth c s₁ B hml hP _
    have hh0 : s₁.heap = s.heap := by rw [B.state]; rfl
    have ht : ∀ x ∈ c.exceptionTable.toList, False := by
      obtain ⟨meth9, c9, h1, h2, -, -, -, -, h7, -⟩ := Cond.code_spec B.named (atoms_spec (ws := ws) B.pre _ (by rw [hw]; exact List.mem_cons_self))
      cases Option.some.inj (h1.symm.trans B.method)
      cases Option.some.inj (h2.symm.trans (Stand.of_body B).code)
      intro x hx
      rw [Array.isEmpty_iff.mp h7] at hx
      cases hx
    obtain ⟨t, a1, o, b1, b2, b3⟩ := body p e s m args below meth c s₁ B hml ht hP s₁ hh0 (Stand.of_body B)
    exact ⟨t, o, a1, b1, b2, b3⟩
/-- the table of a body with handlers -/
theorem vx_table {p : Program} {x y : MethodName} {S : Spec} {cc bytes : ByteArray} {maxL maxL' : Nat} {ret ret' : Option FieldType} {e : Env} {s s₁ : State} {m : MethodId} {args : Array Value} {below : List Frame} {meth : Method} {c : Code} {hh : List (Nat × Nat × Nat × Nat)}
    (B : BodyLoose p l y S cc maxL ret e s m args below meth c s₁) (h : (Cond.codeWith y bytes maxL' ret' hh).before args s = true) : c.exceptionTable.toList = tableOf hh := by
  obtain ⟨m9, meth9, c9, hn9, h1, h2, -, -, h6, -⟩ := Cond.codeWith_spec h
  cases Option.some.inj (hn9.symm.trans B.named)
  cases Option.some.inj (h1.symm.trans B.method)
  cases Option.some.inj (h2.symm.trans (Stand.of_body B).code)
  rw [← h6, table_eq]
end Bodies
end VXA
/-! ===== END ===== -/
/-! ===== BEGIN a static call of a method with an exception table ===== -/
section VXS
variable {p : Program} {l : Launch} {e : Env} {R : Room} {s : State} {m : MethodId} {args : Array Value} {below : List Frame} {meth : Method} {c : Code} {T : State} {H : Heap} {locs : List Loc} {cells slots : Nat}
abbrev vx_CSW (R : Room) (s : State) (args : Array Value) (own : String) (index : Nat) (y : MethodName) (bytes : ByteArray) (maxL : Nat) (ret : Option FieldType) (hh : List (Nat × Nat × Nat × Nat)) (ws : List Cond) (rm : Room) (mc ms n : Nat) : Prop :=
  (rm.cells = mc ∧ rm.slots = ms ∧ rm.frames + 1 ≤ R.frames ∧ 8 + (maxL + 11) + rm.locals ≤ R.locals ∧ (∀ w ∈ ws, ∀ (a' : Array Value) (U : State), s.WarmedH U.vm → w.before a' U = true) ∧ Cond.codeWith y bytes maxL ret hh ∈ ws) ∧
  (Cond.codeWith y bytes maxL ret hh).before args s = true ∧ (Cond.initialized y.cls).before args s = true ∧ (y.cls ≠ "java/lang/invoke/MethodHandle" ∧ y.cls ≠ "java/lang/invoke/VarHandle") ∧
  (∀ sig, parseMethodDescriptor y.desc = some sig → n = sig.parameters.length) ∧ (Cond.methodLink own index y).before args s = true ∧ (Cond.static y).before args s = true
theorem vx_cwSW {own : String} {index maxL mc ms : Nat} {y : MethodName} {bytes : ByteArray} {ret : Option FieldType} {hh : List (Nat × Nat × Nat × Nat)} {Ts ws ws' : List Cond} {rm : Room} (n : Nat) (ht : ∀ w ∈ Ts, w.before args s = true) (hT : GoodIn Ts (va_wsS own index y ws)) (hw : ws = Cond.codeWith y bytes maxL ret hh :: ws') (hrc : rm.cells = mc) (hrs : rm.slots = ms)
    (hd : y.cls ≠ "java/lang/invoke/MethodHandle" ∧ y.cls ≠ "java/lang/invoke/VarHandle" ∧ (parseMethodDescriptor y.desc).map (fun d => d.parameters.length) = some n) (hR : rm.frames + 1 ≤ R.frames ∧ 8 + (maxL + 11) + rm.locals ≤ R.locals) :
    vx_CSW R s args own index y bytes maxL ret hh ws rm mc ms n := by
  have ok : ∀ w ∈ va_wsS own index y ws, w.before args s = true := fun w h => ht w (hT w h).1
  have hG : GoodIn Ts ws := fun w h => hT w (by unfold va_wsS; exact List.mem_append_right _ h)
  have hc : Cond.codeWith y bytes maxL ret hh ∈ ws := by rw [hw]; exact List.mem_cons_self
  refine ⟨⟨hrc, hrs, hR.1, hR.2, pay_in ht hG, hc⟩, ht _ (hG _ hc).1, ok _ (by simp [va_wsS]), ⟨hd.1, hd.2.1⟩, fun sig h => ?_, ok _ (by simp [va_wsS]), ok _ (by simp [va_wsS])⟩
  have h2 := hd.2.2
  rw [h] at h2
  exact (Option.some.inj h2).symm
theorem vx_callSW (X : Stand p l e R s m args below meth c T locs cells slots) (hexec : p.tables.exec = Jvm.exec) {own : String} {index : Nat} {y : MethodName} {bytes : ByteArray} {maxL : Nat} {ret : Option FieldType} {hh : List (Nat × Nat × Nat × Nat)}
    (hown : s.vm.findClass own = some m.cls) (hlink : (Cond.methodLink own index y).before args s = true) (hstat : (Cond.static y).before args s = true) (hinit : (Cond.initialized y.cls).before args s = true)
    (hcode : (Cond.codeWith y bytes maxL ret hh).before args s = true) (hy : y.cls ≠ "java/lang/invoke/MethodHandle" ∧ y.cls ≠ "java/lang/invoke/VarHandle")
    {W9 : Nat} {Pre : Pt → Array Value → Prop} {Post : Pt → Array Value → Option Value → Pt → Prop} (hK : Back l R p e below s args y 3 W9 Pre Post)
    {g : JFrame} (hg : g.method = m) (hsize : g.locals.size = c.maxLocals) {argsL rest : List Value} (hlen : ∀ sig, parseMethodDescriptor y.desc = some sig → argsL.length = sig.parameters.length)
    (hstack : g.stack = argsL.reverse ++ rest) (hW : 2 * g.monitorRoom + (rest.map fun v => v.category).sum ≤ W9) (hdg : decode c.code g.pc = .ok (.invokestatic index, 3))
    (hpre : ∀ vm₁, s.WarmedH vm₁ → Pre ⟨T.setVm vm₁, locs, cells, slots⟩ argsL.toArray) :
    ∃ (v : Option Value) (vm₁ : Vm) (B : Pt), s.WarmedH vm₁ ∧ Stand p l e R s m args below meth c B.U B.locs B.cells B.slots ∧ Post ⟨T.setVm vm₁, locs, cells, slots⟩ argsL.toArray v B ∧
      ∀ target, Steps p.tables e below (B.U.setTop { g with pc := g.pc + 3, stack := v.toList ++ rest }) target → Steps p.tables e below (T.setTop g) target := by
  obtain ⟨mk, methM, cM, hnamed, hmethM, -, -, -, -, -, -, hsigM⟩ := Cond.codeWith_spec hcode
  have hstatic : methM.isStatic = true := Cond.static_spec hnamed hmethM hstat
  obtain ⟨kP, hkP, -⟩ := className_of_methodNamed hnamed
  have hinitP : kP.init = .initialized := Cond.initialized_spec (findClass_of_methodNamed hnamed) hkP hinit
  obtain ⟨vm₁, X₁, hstep₁⟩ := X.invokestatic hexec hown hlink hnamed hmethM hstatic hkP hinitP hy (g := g) hg (argsL := argsL) (rest := rest) (hlen _ hsigM) hstack hdg
  obtain ⟨v, B, X', hpost, hsteps⟩ := hK m meth c ⟨T.setVm vm₁, locs, cells, slots⟩ { g with stack := rest } (.invokestatic index) mk argsL.toArray X₁ hg hsize hdg hW (X₁.named hnamed) (hpre vm₁ X₁.warmed)
  exact ⟨v, vm₁, B, X₁.warmed, X', hpost, fun target h => hstep₁ _ fun acts => by rw [doInvoke_state]; exact hsteps.trans h⟩
theorem vx_runSW {y : MethodName} {bytes cc : ByteArray} {maxL nL mc ms n index : Nat} {ret : Option FieldType} {hh : List (Nat × Nat × Nat × Nat)} {ws : List Cond} {rm : Room} {Pc : Array Value → State → Prop} {Qc : Array Value → State → Outcome → State → Prop} {free : Addr → Prop} {Ts : List Cond} {own : String} {As rest : List Value} {g : JFrame}
    (S : CallFix p m c cc nL s args Ts own) (hM : Met l y ws rm Pc Qc mc ms free) (cw : vx_CSW R s args own index y bytes maxL ret hh ws rm mc ms n) (hp : PreS s H Pc As)
    (hg : g.method = m) (hn : As.length = n) (hsize : g.locals.size = nL) (hstack : g.stack = As.reverse ++ rest) (hW : 2 * g.monitorRoom + (rest.map fun v => v.category).sum ≤ 8) (hdg : decode cc g.pc = .ok (.invokestatic index, 3)) (hf : cells + mc ≤ R.cells ∧ slots + ms ≤ R.slots) :
    va_Run p l e R s m args below meth c H locs cells slots mc ms g rest (Qc As.toArray) (free) := by
  obtain ⟨⟨hrc, hrs, hfr, hlo, hws, hcw⟩, hcode, hini, hy, hlen, hl, hstt⟩ := cw
  have hK : Back l R p e below s args y 3 8 (PreOf R mc ms Pc) (PostOf Qc mc ms free) := va_backW (hh := hh) (bytes := bytes) (maxL := maxL) (ret := ret) hM hp.1 hrc hrs hfr hlo hws hcw (fun a' U hW => word_at hW (Or.inl (by first | rfl | simp [Cond.onTables, Cond.keeps, Cond.steady])) hini)
  obtain ⟨hx, hb, hml, ho, -⟩ := S
  intro T hT X
  obtain ⟨v, vm₁, ⟨U', l2, c2, s2⟩, hW₁, X', ⟨g', mk, t, L, e1, e2, hq, h1, hL, h2, h3⟩, st⟩ := vx_callSW X hx (hh := hh) (bytes := bytes) (maxL := maxL) (ret := ret) ho hl hstt hini hcode hy hK hg (hsize.trans hml.symm) (argsL := As) (rest := rest) (fun sig h => hn.trans (hlen sig h)) hstack hW (by rw [hb]; exact hdg)
    (fun vm₁ hW₁ => ⟨hf.1, hf.2, hp.2 (T.setVm vm₁) hT hW₁⟩)
  dsimp only [Pt.U, Pt.locs, Pt.cells, Pt.slots] at X' e1 e2 h1 h2 h3 st
  subst h1; subst h2; subst h3
  exact ⟨v, (T.setVm vm₁).calling g' mk As.toArray, t, U', L, hT, X', hL, e1, e2, hq, st⟩
/-- not caught here, past rows that name other classes: it goes on to the caller -/
theorem vx_outP {p : Program} {l : Launch} {e : Env} {R : Room} {s : State} {m : MethodId} {args : Array Value} {below : List Frame} {meth : Method} {c : Code} {H : Heap} {locs : List Loc} {cells slots : Nat} {free : Addr → Prop} {ls : Array Slot} {rest : List Value} {Qc : Array Value → State → Outcome → State → Prop} {XC : String → State → State → Prop}
    {pc : Nat} {own E : String} {ce : Cell} {q : Addr} {mc ms : Nat} (hown : s.vm.findClass own = some m.cls) (hlocks : meth.locks = false)
    (hpass : ∀ z ∈ c.exceptionTable.toList, covers z pc = false ∨ (z.catchType ≠ 0 ∧ ∃ nm : String, (Cond.classLink own z.catchType nm).before args s = true ∧ va_Nc E nm s)) (hcell : H[q]? = some ce) (hv : ce.vm = .none) (hcl : s.vm.findClass E = some ce.cls)
    (hx : ∀ t : State, t.heap = H → s.vm.Alike t.vm → XC E s t) (hf : ∀ z ∈ locs, free z.base) (hc : cells ≤ mc) (hs : slots ≤ ms) :
    vx_W p l e R s m args below meth c H locs cells slots (vx_MQ below Qc XC args s mc ms free) (F0 m pc ls rest) q := by
  intro T hT X
  have hpl : e.platform.magicAccessors = ({} : Platform).magicAccessors := by rw [X.admits.platform]
  obtain ⟨vm', hW', X', st⟩ := X.outThrough hlocks q (g := F0 m pc ls rest) rfl rfl rfl (cell := ce) (by rw [hT]; exact hcell) (by rw [hv]; rfl)
    (by obtain ⟨k9, h9, -⟩ := Vm.findClass_spec hcl; exact ⟨k9, h9⟩) (fun z hz => by
      rcases hpass z hz with h | ⟨hz0, nm, hl1, hn1⟩
      · exact Or.inl h
      · obtain ⟨c6, hc6, hcl6⟩ := Cond.classLink_spec hown hl1 e.platform hpl
        obtain ⟨a8, b8, h1, h2, h3⟩ := hn1
        cases Option.some.inj (h1.symm.trans hcl)
        cases Option.some.inj (h2.symm.trans hc6)
        exact Or.inr ⟨hz0, _, hcl6, h3⟩)
  obtain ⟨g₀, hfr⟩ := X'.frames_eq
  have hcell9 : ((T.setVm vm').setFrames (.throwing q :: below)).heap[q]? = some ce := by
    show T.heap[q]? = some ce
    rw [hT]; exact hcell
  have hend : Ended ((T.setVm vm').setFrames (.throwing q :: below)) below (.threw q) := State.frames_setFrames _ (State.cur_lt_of_frames hfr)
  refine ⟨(T.setVm vm').setFrames (.throwing q :: below), ?_, .threw q, X'.here.running, hend, Or.inr ⟨q, rfl, E, ce, locs, hx _ hT (X'.ends _).1.alike, hcell9, hv, hcl, (X'.ends _).1, (X'.ends _).2.mono hc hs, hf⟩⟩
  rw [X.pushThrowing_eq]
  exact st
/-- a thing of a world lies in the heap -/
theorem vx_lt {D : va_G} {cl : List vw_C} {ws : va_W} {H1 : Heap} (h : va_P D cl ws H1) {k : Nat} {q : Nat × va_E} (hk : ws[k]? = some q) : q.1 < H1.size := (h k q hk).lt
end VXS
/-! ===== END ===== -/
/-! ===== BEGIN methods with a table of their own: called by a name, returning or throwing ===== -/
section VXH
/-! vx_backW, vx_callVX, vx_callSX, vx_callVW, vx_runVW, vx_runVX, vx_runSX, vx_ofWH follow the same proofs as their sisters above (Free/Laws.lean, Shelf42/LK1.lean); vx_outP calls Shelf42/NT130.lean (outThrough). -/
section
variable {l : Launch} {R : Room} {p : Program} {e : Env} {below : List Frame} {s : State} {sargs : Array Value} {y : MethodName} {len W9 : Nat}
theorem vx_backW {ws : List Cond} {rm : Room} {Pc : Array Value → State → Prop} {Qc : Array Value → State → Outcome → State → Prop} {XC : String → State → State → Prop} {mc ms : Nat} {free : Addr → Prop} {bytes : ByteArray} {maxL : Nat} {ret : Option FieldType} {hh : List (Nat × Nat × Nat × Nat)}
    (hM : vx_Met l y ws rm Pc Qc XC mc ms free) (hblind : FrameBlind Pc) (hrc : rm.cells = mc) (hrs : rm.slots = ms)
    (hframes : rm.frames + 1 ≤ R.frames) (hlocals : W9 + (maxL + 11) + rm.locals ≤ R.locals)
    (hws : ∀ w ∈ ws, ∀ a' U, s.WarmedH U.vm → w.before a' U = true) (hcode : Cond.codeWith y bytes maxL ret hh ∈ ws) (hinit : ∀ a' U, s.WarmedH U.vm → (Cond.initialized y.cls).before a' U = true) :
    vx_Back l R p e below s sargs y len W9 (PreOf R mc ms Pc) (PostOf Qc mc ms free) (vx_Post XC mc ms free) := by
  intro m meth c A g ig mk a X hg hsize hdg hW hn hp
  have h1 : (headSpec ws rm).pre.before a A.U = true := atoms_intro fun w hw => hws w hw _ _ X.warmed
  have h2 : (Cond.codeWith y bytes maxL ret hh).before a A.U = true := hws _ hcode _ _ X.warmed
  have h3 : (Cond.initialized y.cls).before a A.U = true := hinit _ _ X.warmed
  have h4 : A.cells + (headSpec ws rm).room.cells ≤ R.cells := by rw [show (headSpec ws rm).room.cells = mc from hrc]; exact hp.1
  have h5 : A.slots + (headSpec ws rm).room.slots ≤ R.slots := by rw [show (headSpec ws rm).room.slots = ms from hrs]; exact hp.2.1
  have hPc : Pc a (A.U.calling g mk a) := hblind _ _ _ _ hp.2.2
  obtain ⟨U, Ls, c0, s0⟩ := A
  dsimp only [Pt.U, Pt.locs, Pt.cells, Pt.slots] at h1 h2 h3 h4 h5 X hn hPc ⊢
  obtain ⟨m9, methY, cY, hn9, hmY, hcY, -, hlY, -⟩ := Cond.codeWith_spec h2
  cases Option.some.inj (hn9.symm.trans hn)
  obtain ⟨kY, hkY, -⟩ := className_of_methodNamed hn
  have hinitY : kY.init = .initialized := Cond.initialized_spec (findClass_of_methodNamed hn) hkY h3
  have h : At U g.method c below := by rw [hg]; exact X.here
  have hlocals9 : W9 + (maxL + 11) + (headSpec ws rm).room.locals ≤ R.locals := hlocals
  have happ : (headSpec ws rm).appliesLoose y e.platform (U.calling g mk a) = true :=
    Spec.appliesLoose_calling (g := g) h hdg hn hkY hinitY
      (X.room_calling (g := g) (R' := (headSpec ws rm).room) hsize hmY hcY hframes (by rw [hlY]; omega) h4 h5) h1
  obtain ⟨mid, hmid⟩ := h.above
  have hfr : (U.setTop g).frames = (.java g :: mid) ++ below := by rw [State.frames_setTop' g h.top, hmid]; rfl
  obtain ⟨o, s₂, hsteps, -, hend, hq⟩ := Steps.callFree hM p X.admits X.cas X.clock (acts := []) hfr happ hPc trivial
  have hq' : vx_Q Qc XC mc ms free a (U.calling g mk a) o s₂ := hq
  rw [State.frames_setTop' g h.top] at hend
  obtain ⟨g₀, hg0⟩ := Option.isSome_iff_exists.mp h.top
  obtain ⟨r, hr⟩ := State.topJava?_eq_some.mp hg0
  have hr' : (({ U with heap := s₂.heap, slotsUsed := s₂.slotsUsed } : State).setVm s₂.vm).frames = .java g₀ :: r := hr
  rcases hq' with ⟨hqc, L, hfe, hL⟩ | ⟨q, rfl, E, ce, L, hx, hce, hcv, hcl, hW₂, hsm, hL⟩
  · obtain ⟨⟨v, rfl⟩, hW₂, e2, q2, q3, q4, q5, q6⟩ := id hfe
    have e3 : s₂ = ({ (U.calling g mk a).setFrames s₂.frames with heap := s₂.heap, slotsUsed := s₂.slotsUsed } : State).setVm s₂.vm := by
      have : s₂ = ({ s₂ with vm := (U.calling g mk a).vm } : State).setVm s₂.vm := rfl
      rw [e2] at this
      exact this
    obtain ⟨c₂, i₂, len₂, hc₂, hd₂, hf₂⟩ := hend
    have hW' : U.WarmedH s₂.vm := hW₂
    have hcc : c₂ = c := by
      have h1 : s₂.code? g.method = U.code? g.method := by
        rw [State.code?_eq, State.code?_eq, hW'.alike.method?]
      exact Option.some.inj (hc₂.symm.trans (h1.trans h.code))
    subst hcc
    have hlen : len₂ = len := by rw [hdg] at hd₂; cases hd₂; rfl
    subst hlen
    have hs₂ : s₂ = (({ U with heap := s₂.heap, slotsUsed := s₂.slotsUsed } : State).setVm s₂.vm).setTop { g with pc := g.pc + len₂, stack := v.toList ++ g.stack } := by
      refine e3.trans ?_
      rw [hf₂, State.calling_eq h.top, State.setFrames_setFrames, State.setTop_of_frames _ hr', hr]
      rfl
    have hsame : U.sameButNew ({ U with heap := s₂.heap, slotsUsed := s₂.slotsUsed } : State) L mc ms := by
      refine ⟨?_, q2, q3, q4, q5, q6⟩
      obtain ⟨t, ht, -⟩ := State.frames_cons hr
      show ({ U with heap := s₂.heap, slotsUsed := s₂.slotsUsed } : State) = { U.setFrames U.frames with heap := s₂.heap, slotsUsed := s₂.slotsUsed }
      rw [State.setFrames_self ht]
    subst hg
    refine Or.inl ⟨v, ⟨(({ U with heap := s₂.heap, slotsUsed := s₂.slotsUsed } : State).setVm s₂.vm), Ls ++ L, c0 + mc, s0 + ms⟩,
      ⟨X.admits, X.cas, X.clock, X.frames, X.room, X.hears, X.method, X.code, (X.here.setHeapUsed s₂.heap s₂.slotsUsed).setVm hW'.alike, X.tail, State.WarmedH.trans X.warmed hW', X.limits, X.bytes, X.same.trans (hsame.setVm s.vm)⟩,
      ⟨g, mk, s₂, L, rfl, rfl, hqc, rfl, hL, rfl, rfl⟩, ?_⟩
    show Steps p.tables e below _ ((({ U with heap := s₂.heap, slotsUsed := s₂.slotsUsed } : State).setVm s₂.vm).setTop { g with pc := g.pc + len₂, stack := v.toList ++ g.stack })
    rw [← hs₂]
    exact hsteps
  · obtain ⟨e2, q2, q3, q4, q5, q6⟩ := id hsm
    have e3 : s₂ = ({ (U.calling g mk a).setFrames s₂.frames with heap := s₂.heap, slotsUsed := s₂.slotsUsed } : State).setVm s₂.vm := by
      have : s₂ = ({ s₂ with vm := (U.calling g mk a).vm } : State).setVm s₂.vm := rfl
      rw [e2] at this
      exact this
    have hf₂ : s₂.frames = .throwing q :: .java g :: U.frames.tail := hend
    have hW' : U.WarmedH s₂.vm := hW₂
    have hs₂ : s₂ = ((({ U with heap := s₂.heap, slotsUsed := s₂.slotsUsed } : State).setVm s₂.vm).setTop g).pushFrame (.throwing q) := by
      refine e3.trans ?_
      rw [hf₂, State.calling_eq h.top, State.setFrames_setFrames, State.pushFrame, State.frames_setTop _ hr', State.setTop_of_frames _ hr', State.setFrames_setFrames, hr]
      rfl
    have hsame : U.sameButNew ({ U with heap := s₂.heap, slotsUsed := s₂.slotsUsed } : State) L mc ms := by
      refine ⟨?_, q2, q3, q4, q5, q6⟩
      obtain ⟨t, ht, -⟩ := State.frames_cons hr
      show ({ U with heap := s₂.heap, slotsUsed := s₂.slotsUsed } : State) = { U.setFrames U.frames with heap := s₂.heap, slotsUsed := s₂.slotsUsed }
      rw [State.setFrames_self ht]
    subst hg
    refine Or.inr ⟨q, ⟨(({ U with heap := s₂.heap, slotsUsed := s₂.slotsUsed } : State).setVm s₂.vm), Ls ++ L, c0 + mc, s0 + ms⟩,
      ⟨X.admits, X.cas, X.clock, X.frames, X.room, X.hears, X.method, X.code, (X.here.setHeapUsed s₂.heap s₂.slotsUsed).setVm hW'.alike, X.tail, State.WarmedH.trans X.warmed hW', X.limits, X.bytes, X.same.trans (hsame.setVm s.vm)⟩,
      ⟨g, mk, s₂, L, E, ce, rfl, rfl, hx, hce, hcv, hcl, rfl, hL, rfl, rfl⟩, ?_⟩
    show Steps p.tables e below _ (((({ U with heap := s₂.heap, slotsUsed := s₂.slotsUsed } : State).setVm s₂.vm).setTop g).pushFrame (.throwing q))
    rw [← hs₂]
    exact hsteps
end
variable {p : Program} {l : Launch} {e : Env} {R : Room} {s : State} {m : MethodId} {args : Array Value} {below : List Frame} {meth : Method} {c : Code} {T : State} {H : Heap} {locs : List Loc} {cells slots : Nat}
theorem vx_callVX (X : Stand p l e R s m args below meth c T locs cells slots) (hexec : p.tables.exec = Jvm.exec) {own C : String} {index : Nat} {y : MethodName} {bytes : ByteArray} {maxL : Nat} {ret : Option FieldType} {hh : List (Nat × Nat × Nat × Nat)}
    (hown : s.vm.findClass own = some m.cls) (hlink : (Cond.methodLink own index y).before args s = true) (hinst : (Cond.instanceMethod y).before args s = true) (hsel : (Cond.selects C y y).before args s = true)
    (hcode : (Cond.codeWith y bytes maxL ret hh).before args s = true) (hy : y.cls ≠ "java/lang/invoke/MethodHandle" ∧ y.cls ≠ "java/lang/invoke/VarHandle")
    {W9 : Nat} {Pre : Pt → Array Value → Prop} {Post : Pt → Array Value → Option Value → Pt → Prop} {PostX : Pt → Array Value → Addr → Pt → Prop} (hK : vx_Back l R p e below s args y 3 W9 Pre Post PostX)
    {b : Addr} {cellB : Cell} (hcell : T.heap[b]? = some cellB) (hobj : cellB.vm.isStatics = false) (hcls : s.vm.findClass C = some cellB.cls)
    {g : JFrame} (hg : g.method = m) (hsize : g.locals.size = c.maxLocals) {argsL rest : List Value} (hlen : ∀ sig, parseMethodDescriptor y.desc = some sig → argsL.length = sig.parameters.length)
    (hstack : g.stack = argsL.reverse ++ .ref b :: rest) (hW : 2 * g.monitorRoom + (rest.map fun v => v.category).sum ≤ W9) (hdg : decode c.code g.pc = .ok (.invokevirtual index, 3))
    (hpre : ∀ vm₁, s.WarmedH vm₁ → Pre ⟨T.setVm vm₁, locs, cells, slots⟩ (Value.ref b :: argsL).toArray) :
    (∃ (v : Option Value) (vm₁ : Vm) (B : Pt), s.WarmedH vm₁ ∧ Stand p l e R s m args below meth c B.U B.locs B.cells B.slots ∧ Post ⟨T.setVm vm₁, locs, cells, slots⟩ (Value.ref b :: argsL).toArray v B ∧
      ∀ target, Steps p.tables e below (B.U.setTop { g with pc := g.pc + 3, stack := v.toList ++ rest }) target → Steps p.tables e below (T.setTop g) target) ∨
    (∃ (q : Addr) (vm₁ : Vm) (B : Pt), s.WarmedH vm₁ ∧ Stand p l e R s m args below meth c B.U B.locs B.cells B.slots ∧ PostX ⟨T.setVm vm₁, locs, cells, slots⟩ (Value.ref b :: argsL).toArray q B ∧
      Steps p.tables e below (T.setTop g) ((B.U.setTop { g with stack := rest }).pushFrame (.throwing q))) := by
  obtain ⟨mk, methM, hnamed, hmethM, hstM, habM⟩ := Cond.instanceMethod_spec hinst
  obtain ⟨m8, methM', cM, hn8, hmethM', -, -, -, -, -, -, hsigM⟩ := Cond.codeWith_spec hcode
  cases Option.some.inj (hn8.symm.trans hnamed)
  cases hmethM.symm.trans hmethM'
  obtain ⟨c2, r2, m2, q1, q2, q3, q4, kP, hkP, hkPi⟩ := Cond.selects_spec hsel
  cases hcls.symm.trans q1
  cases (State.methodFound?_of_named hnamed hy).symm.trans q2
  cases hnamed.symm.trans q3
  have hselP : selectMethod e.platform s.vm cellB.cls mk = .method mk := by rw [Launch.admits_selectMethod X.admits]; exact q4
  obtain ⟨vm₁, X₁, hstep₁⟩ := X.invokevirtual hexec hown hlink hnamed hmethM hstM hkP hkPi hy (a := b) (cell := cellB) hcell
    (fun z h => by rw [h] at hobj; cases hobj) hselP hmethM habM hkP hkPi (g := g) hg (argsL := argsL) (rest := rest) (hlen _ hsigM) hstack hdg
  rcases hK m meth c ⟨T.setVm vm₁, locs, cells, slots⟩ { g with stack := rest } (.invokevirtual index) mk (Value.ref b :: argsL).toArray X₁ hg hsize hdg hW (X₁.named hnamed) (hpre vm₁ X₁.warmed) with ⟨v, B, X', hpost, hsteps⟩ | ⟨q, B, X', hpost, hsteps⟩
  · exact Or.inl ⟨v, vm₁, B, X₁.warmed, X', hpost, fun target h => hstep₁ _ fun acts => by rw [doInvoke_state]; exact hsteps.trans h⟩
  · exact Or.inr ⟨q, vm₁, B, X₁.warmed, X', hpost, hstep₁ _ fun acts => by rw [doInvoke_state]; exact hsteps⟩
theorem vx_callSX (X : Stand p l e R s m args below meth c T locs cells slots) (hexec : p.tables.exec = Jvm.exec) {own : String} {index : Nat} {y : MethodName} {bytes : ByteArray} {maxL : Nat} {ret : Option FieldType} {hh : List (Nat × Nat × Nat × Nat)}
    (hown : s.vm.findClass own = some m.cls) (hlink : (Cond.methodLink own index y).before args s = true) (hstat : (Cond.static y).before args s = true) (hinit : (Cond.initialized y.cls).before args s = true)
    (hcode : (Cond.codeWith y bytes maxL ret hh).before args s = true) (hy : y.cls ≠ "java/lang/invoke/MethodHandle" ∧ y.cls ≠ "java/lang/invoke/VarHandle")
    {W9 : Nat} {Pre : Pt → Array Value → Prop} {Post : Pt → Array Value → Option Value → Pt → Prop} {PostX : Pt → Array Value → Addr → Pt → Prop} (hK : vx_Back l R p e below s args y 3 W9 Pre Post PostX)
    {g : JFrame} (hg : g.method = m) (hsize : g.locals.size = c.maxLocals) {argsL rest : List Value} (hlen : ∀ sig, parseMethodDescriptor y.desc = some sig → argsL.length = sig.parameters.length)
    (hstack : g.stack = argsL.reverse ++ rest) (hW : 2 * g.monitorRoom + (rest.map fun v => v.category).sum ≤ W9) (hdg : decode c.code g.pc = .ok (.invokestatic index, 3))
    (hpre : ∀ vm₁, s.WarmedH vm₁ → Pre ⟨T.setVm vm₁, locs, cells, slots⟩ argsL.toArray) :
    (∃ (v : Option Value) (vm₁ : Vm) (B : Pt), s.WarmedH vm₁ ∧ Stand p l e R s m args below meth c B.U B.locs B.cells B.slots ∧ Post ⟨T.setVm vm₁, locs, cells, slots⟩ argsL.toArray v B ∧
      ∀ target, Steps p.tables e below (B.U.setTop { g with pc := g.pc + 3, stack := v.toList ++ rest }) target → Steps p.tables e below (T.setTop g) target) ∨
    (∃ (q : Addr) (vm₁ : Vm) (B : Pt), s.WarmedH vm₁ ∧ Stand p l e R s m args below meth c B.U B.locs B.cells B.slots ∧ PostX ⟨T.setVm vm₁, locs, cells, slots⟩ argsL.toArray q B ∧
      Steps p.tables e below (T.setTop g) ((B.U.setTop { g with stack := rest }).pushFrame (.throwing q))) := by
  obtain ⟨mk, methM, cM, hnamed, hmethM, -, -, -, -, -, -, hsigM⟩ := Cond.codeWith_spec hcode
  have hstatic : methM.isStatic = true := Cond.static_spec hnamed hmethM hstat
  obtain ⟨kP, hkP, -⟩ := className_of_methodNamed hnamed
  have hinitP : kP.init = .initialized := Cond.initialized_spec (findClass_of_methodNamed hnamed) hkP hinit
  obtain ⟨vm₁, X₁, hstep₁⟩ := X.invokestatic hexec hown hlink hnamed hmethM hstatic hkP hinitP hy (g := g) hg (argsL := argsL) (rest := rest) (hlen _ hsigM) hstack hdg
  rcases hK m meth c ⟨T.setVm vm₁, locs, cells, slots⟩ { g with stack := rest } (.invokestatic index) mk argsL.toArray X₁ hg hsize hdg hW (X₁.named hnamed) (hpre vm₁ X₁.warmed) with ⟨v, B, X', hpost, hsteps⟩ | ⟨q, B, X', hpost, hsteps⟩
  · exact Or.inl ⟨v, vm₁, B, X₁.warmed, X', hpost, fun target h => hstep₁ _ fun acts => by rw [doInvoke_state]; exact hsteps.trans h⟩
  · exact Or.inr ⟨q, vm₁, B, X₁.warmed, X', hpost, hstep₁ _ fun acts => by rw [doInvoke_state]; exact hsteps⟩
theorem vx_callVW (X : Stand p l e R s m args below meth c T locs cells slots) (hexec : p.tables.exec = Jvm.exec) {own C : String} {index : Nat} {y : MethodName} {bytes : ByteArray} {maxL : Nat} {ret : Option FieldType} {hh : List (Nat × Nat × Nat × Nat)}
    (hown : s.vm.findClass own = some m.cls) (hlink : (Cond.methodLink own index y).before args s = true) (hinst : (Cond.instanceMethod y).before args s = true) (hsel : (Cond.selects C y y).before args s = true)
    (hcode : (Cond.codeWith y bytes maxL ret hh).before args s = true) (hy : y.cls ≠ "java/lang/invoke/MethodHandle" ∧ y.cls ≠ "java/lang/invoke/VarHandle")
    {W9 : Nat} {Pre : Pt → Array Value → Prop} {Post : Pt → Array Value → Option Value → Pt → Prop} (hK : Back l R p e below s args y 3 W9 Pre Post)
    {b : Addr} {cellB : Cell} (hcell : T.heap[b]? = some cellB) (hobj : cellB.vm.isStatics = false) (hcls : s.vm.findClass C = some cellB.cls)
    {g : JFrame} (hg : g.method = m) (hsize : g.locals.size = c.maxLocals) {argsL rest : List Value} (hlen : ∀ sig, parseMethodDescriptor y.desc = some sig → argsL.length = sig.parameters.length)
    (hstack : g.stack = argsL.reverse ++ .ref b :: rest) (hW : 2 * g.monitorRoom + (rest.map fun v => v.category).sum ≤ W9) (hdg : decode c.code g.pc = .ok (.invokevirtual index, 3))
    (hpre : ∀ vm₁, s.WarmedH vm₁ → Pre ⟨T.setVm vm₁, locs, cells, slots⟩ (Value.ref b :: argsL).toArray) :
    ∃ (v : Option Value) (vm₁ : Vm) (B : Pt), s.WarmedH vm₁ ∧ Stand p l e R s m args below meth c B.U B.locs B.cells B.slots ∧ Post ⟨T.setVm vm₁, locs, cells, slots⟩ (Value.ref b :: argsL).toArray v B ∧
      ∀ target, Steps p.tables e below (B.U.setTop { g with pc := g.pc + 3, stack := v.toList ++ rest }) target → Steps p.tables e below (T.setTop g) target := by
  obtain ⟨mk, methM, hnamed, hmethM, hstM, habM⟩ := Cond.instanceMethod_spec hinst
  obtain ⟨m8, methM', cM, hn8, hmethM', -, -, -, -, -, -, hsigM⟩ := Cond.codeWith_spec hcode
  cases Option.some.inj (hn8.symm.trans hnamed)
  cases hmethM.symm.trans hmethM'
  obtain ⟨c2, r2, m2, q1, q2, q3, q4, kP, hkP, hkPi⟩ := Cond.selects_spec hsel
  cases hcls.symm.trans q1
  cases (State.methodFound?_of_named hnamed hy).symm.trans q2
  cases hnamed.symm.trans q3
  have hselP : selectMethod e.platform s.vm cellB.cls mk = .method mk := by rw [Launch.admits_selectMethod X.admits]; exact q4
  obtain ⟨vm₁, X₁, hstep₁⟩ := X.invokevirtual hexec hown hlink hnamed hmethM hstM hkP hkPi hy (a := b) (cell := cellB) hcell
    (fun z h => by rw [h] at hobj; cases hobj) hselP hmethM habM hkP hkPi (g := g) hg (argsL := argsL) (rest := rest) (hlen _ hsigM) hstack hdg
  obtain ⟨v, B, X', hpost, hsteps⟩ := hK m meth c ⟨T.setVm vm₁, locs, cells, slots⟩ { g with stack := rest } (.invokevirtual index) mk (Value.ref b :: argsL).toArray X₁ hg hsize hdg hW (X₁.named hnamed) (hpre vm₁ X₁.warmed)
  exact ⟨v, vm₁, B, X₁.warmed, X', hpost, fun target h => hstep₁ _ fun acts => by rw [doInvoke_state]; exact hsteps.trans h⟩
abbrev vx_CVW (R : Room) (s : State) (args : Array Value) (own C : String) (index : Nat) (y : MethodName) (bytes : ByteArray) (maxL : Nat) (ret : Option FieldType) (hh : List (Nat × Nat × Nat × Nat)) (ws : List Cond) (rm : Room) (mc ms n : Nat) : Prop :=
  (rm.cells = mc ∧ rm.slots = ms ∧ rm.frames + 1 ≤ R.frames ∧ 8 + (maxL + 11) + rm.locals ≤ R.locals ∧ (∀ w ∈ ws, ∀ (a' : Array Value) (U : State), s.WarmedH U.vm → w.before a' U = true) ∧ Cond.codeWith y bytes maxL ret hh ∈ ws) ∧
  (Cond.codeWith y bytes maxL ret hh).before args s = true ∧ (Cond.initialized y.cls).before args s = true ∧ (y.cls ≠ "java/lang/invoke/MethodHandle" ∧ y.cls ≠ "java/lang/invoke/VarHandle") ∧
  (∀ sig, parseMethodDescriptor y.desc = some sig → n = sig.parameters.length) ∧ (Cond.methodLink own index y).before args s = true ∧ (Cond.instanceMethod y).before args s = true ∧ (Cond.selects C y y).before args s = true
theorem vx_cwVW {own C : String} {index maxL mc ms : Nat} {y : MethodName} {bytes : ByteArray} {ret : Option FieldType} {hh : List (Nat × Nat × Nat × Nat)} {Ts ws ws' : List Cond} {rm : Room} (n : Nat) (ht : ∀ w ∈ Ts, w.before args s = true) (hT : GoodIn Ts (wsV own index C y ws)) (hw : ws = Cond.codeWith y bytes maxL ret hh :: ws') (hrc : rm.cells = mc) (hrs : rm.slots = ms)
    (hd : y.cls = C ∧ y.cls ≠ "java/lang/invoke/MethodHandle" ∧ y.cls ≠ "java/lang/invoke/VarHandle" ∧ (parseMethodDescriptor y.desc).map (fun d => d.parameters.length) = some n) (hR : rm.frames + 1 ≤ R.frames ∧ 8 + (maxL + 11) + rm.locals ≤ R.locals) :
    vx_CVW R s args own C index y bytes maxL ret hh ws rm mc ms n := by
  obtain ⟨hC, hd⟩ := hd
  subst hC
  have ok : ∀ w ∈ wsV own index y.cls y ws, w.before args s = true := fun w h => ht w (hT w h).1
  have hG : GoodIn Ts ws := fun w h => hT w (by unfold wsV; exact List.mem_append_right _ h)
  have hc : Cond.codeWith y bytes maxL ret hh ∈ ws := by rw [hw]; exact List.mem_cons_self
  refine ⟨⟨hrc, hrs, hR.1, hR.2, pay_in ht hG, hc⟩, ht _ (hG _ hc).1, ok _ (by simp [wsV]), ⟨hd.1, hd.2.1⟩, fun sig h => ?_, ok _ (by simp [wsV]), ok _ (by simp [wsV]), ok _ (by simp [wsV])⟩
  have h2 := hd.2.2
  rw [h] at h2
  exact (Option.some.inj h2).symm
theorem vx_runVW {y : MethodName} {bytes cc : ByteArray} {maxL nL mc ms n index : Nat} {ret : Option FieldType} {hh : List (Nat × Nat × Nat × Nat)} {ws : List Cond} {rm : Room} {Pc : Array Value → State → Prop} {Qc : Array Value → State → Outcome → State → Prop} {free : Addr → Prop} {Ts : List Cond} {own C : String} {b : Addr} {As rest : List Value} {g : JFrame}
    (S : CallFix p m c cc nL s args Ts own) (hM : Met l y ws rm Pc Qc mc ms free) (cw : vx_CVW R s args own C index y bytes maxL ret hh ws rm mc ms n) (hp : PreV s H C b Pc As)
    (hg : g.method = m) (hn : As.length = n) (hsize : g.locals.size = nL) (hstack : g.stack = As.reverse ++ .ref b :: rest) (hW : 2 * g.monitorRoom + (rest.map fun v => v.category).sum ≤ 8) (hdg : decode cc g.pc = .ok (.invokevirtual index, 3)) (hf : cells + mc ≤ R.cells ∧ slots + ms ≤ R.slots) :
    va_Run p l e R s m args below meth c H locs cells slots mc ms g rest (Qc (Value.ref b :: As).toArray) free := by
  obtain ⟨⟨hrc, hrs, hfr, hlo, hws, hcw⟩, hcode, hini, hy, hlen, hl, hin, hse⟩ := cw
  have hK : Back l R p e below s args y 3 8 (PreOf R mc ms Pc) (PostOf Qc mc ms free) := va_backW (hh := hh) (bytes := bytes) (maxL := maxL) (ret := ret) hM hp.1 hrc hrs hfr hlo hws hcw (fun a' U hW => word_at hW (Or.inl (by first | rfl | simp [Cond.onTables, Cond.keeps, Cond.steady])) hini)
  obtain ⟨hx, hb, hml, ho, -⟩ := S
  obtain ⟨-, ⟨cellB, hcB, hoB, hclB⟩, hPc⟩ := hp
  intro T hT X
  obtain ⟨v, vm₁, ⟨U', l2, c2, s2⟩, hW₁, X', ⟨g', mk, t, L, e1, e2, hq, h1, hL, h2, h3⟩, st⟩ := vx_callVW X hx (C := C) (hh := hh) (bytes := bytes) (maxL := maxL) (ret := ret) ho hl hin hse hcode hy hK (by rw [hT]; exact hcB) hoB hclB hg (hsize.trans hml.symm) (argsL := As) (rest := rest) (fun sig h => hn.trans (hlen sig h)) hstack hW (by rw [hb]; exact hdg)
    (fun vm₁ hW₁ => ⟨hf.1, hf.2, hPc (T.setVm vm₁) hT hW₁⟩)
  dsimp only [Pt.U, Pt.locs, Pt.cells, Pt.slots] at X' e1 e2 h1 h2 h3 st
  subst h1; subst h2; subst h3
  exact ⟨v, (T.setVm vm₁).calling g' mk (Value.ref b :: As).toArray, t, U', L, hT, X', hL, e1, e2, hq, st⟩
section
variable {y : MethodName} {bytes cc : ByteArray} {maxL nL mc ms n index : Nat} {ret : Option FieldType} {ws : List Cond} {rm : Room} {Pc : Array Value → State → Prop} {Qc : Array Value → State → Outcome → State → Prop} {XC : String → State → State → Prop} {free : Addr → Prop} {Ts : List Cond} {own C : String} {b : Addr} {As rest : List Value} {g : JFrame}
theorem vx_runVX {hh : List (Nat × Nat × Nat × Nat)} (S : CallFix p m c cc nL s args Ts own) (hM : vx_Met l y ws rm Pc Qc XC mc ms free) (cw : vx_CVW R s args own C index y bytes maxL ret hh ws rm mc ms n) (hp : PreV s H C b Pc As)
    (hg : g.method = m) (hn : As.length = n) (hsize : g.locals.size = nL) (hstack : g.stack = As.reverse ++ .ref b :: rest) (hW : 2 * g.monitorRoom + (rest.map fun v => v.category).sum ≤ 8) (hdg : decode cc g.pc = .ok (.invokevirtual index, 3)) (hf : cells + mc ≤ R.cells ∧ slots + ms ≤ R.slots) :
    vx_Run p l e R s m args below meth c H locs cells slots mc ms g rest (Qc (Value.ref b :: As).toArray) XC free := by
  obtain ⟨⟨hrc, hrs, hfr, hlo, hws, hcw⟩, hcode, hini, hy, hlen, hl, hin, hse⟩ := cw
  have hK : vx_Back l R p e below s args y 3 8 (PreOf R mc ms Pc) (PostOf Qc mc ms free) (vx_Post XC mc ms free) := vx_backW (hh := hh) (bytes := bytes) (maxL := maxL) (ret := ret) hM hp.1 hrc hrs hfr hlo hws hcw (fun a' U hW => word_at hW (Or.inl (by first | rfl | simp [Cond.onTables, Cond.keeps, Cond.steady])) hini)
  obtain ⟨hx, hb, hml, ho, -⟩ := S
  obtain ⟨-, ⟨cellB, hcB, hoB, hclB⟩, hPc⟩ := hp
  intro T hT X
  rcases vx_callVX X hx (C := C) (hh := hh) (bytes := bytes) (maxL := maxL) (ret := ret) ho hl hin hse hcode hy hK (by rw [hT]; exact hcB) hoB hclB hg (hsize.trans hml.symm) (argsL := As) (rest := rest) (fun sig h => hn.trans (hlen sig h)) hstack hW (by rw [hb]; exact hdg)
    (fun vm₁ hW₁ => ⟨hf.1, hf.2, hPc (T.setVm vm₁) hT hW₁⟩) with ⟨v, vm₁, ⟨U', l2, c2, s2⟩, hW₁, X', ⟨g', mk, t, L, e1, e2, hq, h1, hL, h2, h3⟩, st⟩ | ⟨q, vm₁, ⟨U', l2, c2, s2⟩, hW₁, X', ⟨g', mk, t, L, E, ce, e1, e2, hq, hce, hcv, hcl, h1, hL, h2, h3⟩, st⟩
  · dsimp only [Pt.U, Pt.locs, Pt.cells, Pt.slots] at X' e1 e2 h1 h2 h3 st
    subst h1; subst h2; subst h3
    exact Or.inl ⟨v, (T.setVm vm₁).calling g' mk (Value.ref b :: As).toArray, t, U', L, hT, X', hL, e1, e2, hq, st⟩
  · dsimp only [Pt.U, Pt.locs, Pt.cells, Pt.slots] at X' e1 e2 h1 h2 h3 st hcl
    subst h1; subst h2; subst h3
    exact Or.inr ⟨q, (T.setVm vm₁).calling g' mk (Value.ref b :: As).toArray, t, U', L, E, ce, hT, X', hL, e1, e2, hq, hce, hcv, vx_cls hW₁ hcl, st⟩
theorem vx_runSX {hh : List (Nat × Nat × Nat × Nat)} (S : CallFix p m c cc nL s args Ts own) (hM : vx_Met l y ws rm Pc Qc XC mc ms free) (cw : vx_CSW R s args own index y bytes maxL ret hh ws rm mc ms n) (hp : PreS s H Pc As)
    (hg : g.method = m) (hn : As.length = n) (hsize : g.locals.size = nL) (hstack : g.stack = As.reverse ++ rest) (hW : 2 * g.monitorRoom + (rest.map fun v => v.category).sum ≤ 8) (hdg : decode cc g.pc = .ok (.invokestatic index, 3)) (hf : cells + mc ≤ R.cells ∧ slots + ms ≤ R.slots) :
    vx_Run p l e R s m args below meth c H locs cells slots mc ms g rest (Qc As.toArray) XC free := by
  obtain ⟨⟨hrc, hrs, hfr, hlo, hws, hcw⟩, hcode, hini, hy, hlen, hl, hstt⟩ := cw
  have hK : vx_Back l R p e below s args y 3 8 (PreOf R mc ms Pc) (PostOf Qc mc ms free) (vx_Post XC mc ms free) := vx_backW (hh := hh) (bytes := bytes) (maxL := maxL) (ret := ret) hM hp.1 hrc hrs hfr hlo hws hcw (fun a' U hW => word_at hW (Or.inl (by first | rfl | simp [Cond.onTables, Cond.keeps, Cond.steady])) hini)
  obtain ⟨hx, hb, hml, ho, -⟩ := S
  intro T hT X
  rcases vx_callSX X hx (hh := hh) (bytes := bytes) (maxL := maxL) (ret := ret) ho hl hstt hini hcode hy hK hg (hsize.trans hml.symm) (argsL := As) (rest := rest) (fun sig h => hn.trans (hlen sig h)) hstack hW (by rw [hb]; exact hdg)
    (fun vm₁ hW₁ => ⟨hf.1, hf.2, hp.2 (T.setVm vm₁) hT hW₁⟩) with ⟨v, vm₁, ⟨U', l2, c2, s2⟩, hW₁, X', ⟨g', mk, t, L, e1, e2, hq, h1, hL, h2, h3⟩, st⟩ | ⟨q, vm₁, ⟨U', l2, c2, s2⟩, hW₁, X', ⟨g', mk, t, L, E, ce, e1, e2, hq, hce, hcv, hcl, h1, hL, h2, h3⟩, st⟩
  · dsimp only [Pt.U, Pt.locs, Pt.cells, Pt.slots] at X' e1 e2 h1 h2 h3 st
    subst h1; subst h2; subst h3
    exact Or.inl ⟨v, (T.setVm vm₁).calling g' mk As.toArray, t, U', L, hT, X', hL, e1, e2, hq, st⟩
  · dsimp only [Pt.U, Pt.locs, Pt.cells, Pt.slots] at X' e1 e2 h1 h2 h3 st hcl
    subst h1; subst h2; subst h3
    exact Or.inr ⟨q, (T.setVm vm₁).calling g' mk As.toArray, t, U', L, E, ce, hT, X', hL, e1, e2, hq, hce, hcv, vx_cls hW₁ hcl, st⟩
end
end VXH
theorem vx_ofWH {l : Launch} {y : MethodName} {ws ws' : List Cond} {rm : Room} {Pc : Array Value → State → Prop} {Qc : Array Value → State → Outcome → State → Prop} {XC : String → State → State → Prop} {mc ms : Nat} {free : Addr → Prop} {cc : ByteArray} {maxL : Nat} {ret : Option FieldType} {hh : List (Nat × Nat × Nat × Nat)}
    (hy : plainName y.cls = true) (hw : ws = Cond.codeWith y cc maxL ret hh :: ws')
    (body : ∀ p e s m args below meth c s₁, BodyLoose p l y (headSpec ws rm) cc maxL ret e s m args below meth c s₁ → c.maxLocals = maxL → Pc args s →
      W p l e (headSpec ws rm).room s m args below meth c s.heap [] 0 0 (vx_MQ below Qc XC args s mc ms free) (entryFrame m args maxL)) : vx_Met l y ws rm Pc Qc XC mc ms free := by
  refine MetFree.of_bodyS (code := cc) (maxLocals := maxL) (ret := ret) hy ?_ ?_
  · intro args s m h hn
    obtain ⟨m9, meth, c, hn9, h1, h2, h3, h4, -, h5, h6, -⟩ := Cond.codeWith_spec (atoms_spec (ws := ws) h _ (by rw [hw]; exact List.mem_cons_self))
    cases hn.symm.trans hn9
    exact ⟨meth, c, h1, h2, h3, h4, h5, h6⟩
  · intro p e s m args below meth c s₁ B hml hP _
    have hh0 : s₁.heap = s.heap := by rw [B.state]; rfl
    obtain ⟨t, a1, o, b1, b2, b3⟩ := body p e s m args below meth c s₁ B hml hP s₁ hh0 (Stand.of_body B)
    exact ⟨t, o, a1, b1, b2, b3⟩
/-! ===== END ===== -/

/-! ===== BEGIN printed: names, fields, word lists, decode rows ===== -/
def RX0 : String := "DrumTalk$Land"
def TX0 : u_T := fun k => match k with
  | 0 => ("DrumTalk$Land", "villages", "[LDrumTalk$Village;", true)
  | 1 => ("DrumTalk$Land", "villageCount", "I", false)
  | 2 => ("DrumTalk$Land", "tones", "[I", true)
  | 3 => ("DrumTalk$Land", "toneCounts", "[I", true)
  | 4 => ("DrumTalk$Land", "phraseCount", "I", false)
  | 5 => ("DrumTalk$Land", "beat", "I", false)
  | _ => ("DrumTalk$Land", "drummings", "I", false)
def tyX0 : Nat → FieldType := fun k => match k with
  | 0 => .array (.object "DrumTalk$Village")
  | 1 => .int
  | 2 => .array .int
  | 3 => .array .int
  | 4 => .int
  | 5 => .int
  | _ => .int
abbrev wsX00 : List Cond := u_ws RX0 TX0 7
theorem nmX0 : ∀ a, a < 7 → ∀ b, b < 7 → a ≠ b → (TX0 a).2.1 ≠ (TX0 b).2.1 := by decide +kernel
theorem tyX0_ok : ∀ k, k < 7 → parseFieldDescriptor (TX0 k).2.2.1 = some (tyX0 k) := by decide +kernel
abbrev cX0_init : ByteArray := prog_2_method_1_code
def yX0_init : MethodName := ⟨RX0, "<init>", "()V"⟩
abbrev cX0_copy : ByteArray := prog_2_method_2_code
def yX0_copy : MethodName := ⟨RX0, "copy", "(LDrumTalk$Land;)V"⟩
abbrev cX0_hasVillageAt : ByteArray := prog_2_method_3_code
def yX0_hasVillageAt : MethodName := ⟨RX0, "hasVillageAt", "(II)Z"⟩
abbrev cX0_addVillage : ByteArray := prog_2_method_4_code
def yX0_addVillage : MethodName := ⟨RX0, "addVillage", "(III)I"⟩
abbrev cX0_hasPhrase : ByteArray := prog_2_method_5_code
def yX0_hasPhrase : MethodName := ⟨RX0, "hasPhrase", "(I)Z"⟩
abbrev cX0_addPhrase : ByteArray := prog_2_method_6_code
def yX0_addPhrase : MethodName := ⟨RX0, "addPhrase", "(II)I"⟩
abbrev cX0_figure : ByteArray := prog_2_method_7_code
def yX0_figure : MethodName := ⟨RX0, "figure", "(I)I"⟩
abbrev cX0_drummers : ByteArray := prog_2_method_8_code
def yX0_drummers : MethodName := ⟨RX0, "drummers", "()I"⟩
abbrev cX0_soundsInTheAir : ByteArray := prog_2_method_9_code
def yX0_soundsInTheAir : MethodName := ⟨RX0, "soundsInTheAir", "()I"⟩
abbrev cX0_soundsDrowned : ByteArray := prog_2_method_10_code
def yX0_soundsDrowned : MethodName := ⟨RX0, "soundsDrowned", "()I"⟩
abbrev cX0_knownPairs : ByteArray := prog_2_method_11_code
def yX0_knownPairs : MethodName := ⟨RX0, "knownPairs", "()I"⟩
abbrev cX0_knowersOf : ByteArray := prog_2_method_12_code
def yX0_knowersOf : MethodName := ⟨RX0, "knowersOf", "(I)I"⟩
abbrev cX0_hearersOf : ByteArray := prog_2_method_13_code
def yX0_hearersOf : MethodName := ⟨RX0, "hearersOf", "(I)I"⟩
abbrev cX0_letGo : ByteArray := prog_2_method_14_code
def yX0_letGo : MethodName := ⟨RX0, "letGo", "(I)I"⟩
abbrev cX0_isQuiet : ByteArray := prog_2_method_15_code
def yX0_isQuiet : MethodName := ⟨RX0, "isQuiet", "()Z"⟩
abbrev cX0_goBeat : ByteArray := prog_2_method_16_code
def yX0_goBeat : MethodName := ⟨RX0, "goBeat", "()I"⟩
abbrev cX0_beginDrumming : ByteArray := prog_2_method_17_code
def yX0_beginDrumming : MethodName := ⟨RX0, "beginDrumming", "(I)V"⟩
def RX1 : String := "DrumTalk$Sounds"
def TX1 : u_T := fun k => match k with
  | 0 => ("DrumTalk$Sounds", "phrases", "[I", true)
  | 1 => ("DrumTalk$Sounds", "firstBeats", "[I", true)
  | 2 => ("DrumTalk$Sounds", "lastBeats", "[I", true)
  | 3 => ("DrumTalk$Sounds", "drowned", "[I", true)
  | _ => ("DrumTalk$Sounds", "size", "I", false)
def tyX1 : Nat → FieldType := fun k => match k with
  | 0 => .array .int
  | 1 => .array .int
  | 2 => .array .int
  | 3 => .array .int
  | _ => .int
abbrev wsX10 : List Cond := u_ws RX1 TX1 5
theorem nmX1 : ∀ a, a < 5 → ∀ b, b < 5 → a ≠ b → (TX1 a).2.1 ≠ (TX1 b).2.1 := by decide +kernel
theorem tyX1_ok : ∀ k, k < 5 → parseFieldDescriptor (TX1 k).2.2.1 = some (tyX1 k) := by decide +kernel
abbrev cX1_init : ByteArray := prog_3_method_1_code
def yX1_init : MethodName := ⟨RX1, "<init>", "()V"⟩
abbrev cX1_copy : ByteArray := prog_3_method_2_code
def yX1_copy : MethodName := ⟨RX1, "copy", "(LDrumTalk$Sounds;)V"⟩
abbrev cX1_add : ByteArray := prog_3_method_3_code
def yX1_add : MethodName := ⟨RX1, "add", "(III)V"⟩
abbrev cX1_move : ByteArray := prog_3_method_4_code
def yX1_move : MethodName := ⟨RX1, "move", "(II)V"⟩
abbrev cX1_lasting : ByteArray := prog_3_method_5_code
def yX1_lasting : MethodName := ⟨RX1, "lasting", "(I)I"⟩
abbrev cX1_drown : ByteArray := prog_3_method_6_code
def yX1_drown : MethodName := ⟨RX1, "drown", "(I)V"⟩
def RX2 : String := "DrumTalk$Village"
def TX2 : u_T := fun k => match k with
  | 0 => ("DrumTalk$Village", "x", "I", false)
  | 1 => ("DrumTalk$Village", "y", "I", false)
  | 2 => ("DrumTalk$Village", "drum", "I", false)
  | 3 => ("DrumTalk$Village", "cliff", "Z", false)
  | 4 => ("DrumTalk$Village", "awakeFrom", "I", false)
  | 5 => ("DrumTalk$Village", "awakeBeats", "I", false)
  | 6 => ("DrumTalk$Village", "drumming", "I", false)
  | 7 => ("DrumTalk$Village", "beatsLeft", "I", false)
  | 8 => ("DrumTalk$Village", "queue", "[I", true)
  | 9 => ("DrumTalk$Village", "queued", "I", false)
  | 10 => ("DrumTalk$Village", "knownSince", "[I", true)
  | 11 => ("DrumTalk$Village", "inTheAir", "LDrumTalk$Sounds;", true)
  | _ => ("DrumTalk$Village", "drowned", "I", false)
def tyX2 : Nat → FieldType := fun k => match k with
  | 0 => .int
  | 1 => .int
  | 2 => .int
  | 3 => .boolean
  | 4 => .int
  | 5 => .int
  | 6 => .int
  | 7 => .int
  | 8 => .array .int
  | 9 => .int
  | 10 => .array .int
  | 11 => .object "DrumTalk$Sounds"
  | _ => .int
abbrev wsX20 : List Cond := u_ws RX2 TX2 13
theorem nmX2 : ∀ a, a < 13 → ∀ b, b < 13 → a ≠ b → (TX2 a).2.1 ≠ (TX2 b).2.1 := by decide +kernel
theorem tyX2_ok : ∀ k, k < 13 → parseFieldDescriptor (TX2 k).2.2.1 = some (tyX2 k) := by decide +kernel
abbrev cX2_init : ByteArray := prog_4_method_1_code
def yX2_init : MethodName := ⟨RX2, "<init>", "()V"⟩
abbrev cX2_copy : ByteArray := prog_4_method_2_code
def yX2_copy : MethodName := ⟨RX2, "copy", "(LDrumTalk$Village;)V"⟩
abbrev cX2_figure : ByteArray := prog_4_method_3_code
def yX2_figure : MethodName := ⟨RX2, "figure", "(II)I"⟩
abbrev cX2_isAwake : ByteArray := prog_4_method_4_code
def yX2_isAwake : MethodName := ⟨RX2, "isAwake", "(I)Z"⟩
abbrev cX2_isDrumming : ByteArray := prog_4_method_5_code
def yX2_isDrumming : MethodName := ⟨RX2, "isDrumming", "()Z"⟩
abbrev cX2_isReady : ByteArray := prog_4_method_6_code
def yX2_isReady : MethodName := ⟨RX2, "isReady", "(I)Z"⟩
abbrev cX2_distanceTo : ByteArray := prog_4_method_7_code
def yX2_distanceTo : MethodName := ⟨RX2, "distanceTo", "(LDrumTalk$Village;)I"⟩
abbrev cX2_isHeardAt : ByteArray := prog_4_method_8_code
def yX2_isHeardAt : MethodName := ⟨RX2, "isHeardAt", "(I)Z"⟩
abbrev cX2_isKnown : ByteArray := prog_4_method_9_code
def yX2_isKnown : MethodName := ⟨RX2, "isKnown", "(I)Z"⟩
abbrev cX2_phrasesKnown : ByteArray := prog_4_method_10_code
def yX2_phrasesKnown : MethodName := ⟨RX2, "phrasesKnown", "()I"⟩
abbrev cX2_takeIn : ByteArray := prog_4_method_11_code
def yX2_takeIn : MethodName := ⟨RX2, "takeIn", "(II)V"⟩
abbrev cX2_takeFromQueue : ByteArray := prog_4_method_12_code
def yX2_takeFromQueue : MethodName := ⟨RX2, "takeFromQueue", "()I"⟩
abbrev cX2_drownIfDisturbed : ByteArray := prog_4_method_13_code
def yX2_drownIfDisturbed : MethodName := ⟨RX2, "drownIfDisturbed", "(I)V"⟩
abbrev cX2_endSounds : ByteArray := prog_4_method_14_code
def yX2_endSounds : MethodName := ⟨RX2, "endSounds", "(I)I"⟩
abbrev cX2_endDrumBeat : ByteArray := prog_4_method_15_code
def yX2_endDrumBeat : MethodName := ⟨RX2, "endDrumBeat", "()V"⟩
def RX3 : String := "DrumTalk"
def TX3 : u_T := fun k => match k with
  | 0 => ("DrumTalk", "land", "LDrumTalk$Land;", true)
  | _ => ("DrumTalk", "trial", "LDrumTalk$Land;", true)
def tyX3 : Nat → FieldType := fun k => match k with
  | 0 => .object "DrumTalk$Land"
  | _ => .object "DrumTalk$Land"
abbrev wsX30 : List Cond := u_ws RX3 TX3 2
theorem nmX3 : ∀ a, a < 2 → ∀ b, b < 2 → a ≠ b → (TX3 a).2.1 ≠ (TX3 b).2.1 := by decide +kernel
theorem tyX3_ok : ∀ k, k < 2 → parseFieldDescriptor (TX3 k).2.2.1 = some (tyX3 k) := by decide +kernel
abbrev cX3_init : ByteArray := prog_1_method_1_code
def yX3_init : MethodName := ⟨RX3, "<init>", "()V"⟩
abbrev cX3_found : ByteArray := prog_1_method_2_code
def yX3_found : MethodName := ⟨RX3, "found", "(III)I"⟩
abbrev cX3_setDrum : ByteArray := prog_1_method_3_code
def yX3_setDrum : MethodName := ⟨RX3, "setDrum", "(II)I"⟩
abbrev cX3_setCliff : ByteArray := prog_1_method_4_code
def yX3_setCliff : MethodName := ⟨RX3, "setCliff", "(IZ)Z"⟩
abbrev cX3_setAwake : ByteArray := prog_1_method_5_code
def yX3_setAwake : MethodName := ⟨RX3, "setAwake", "(III)I"⟩
abbrev cX3_phrase : ByteArray := prog_1_method_6_code
def yX3_phrase : MethodName := ⟨RX3, "phrase", "(I)I"⟩
abbrev cX3_tell : ByteArray := prog_1_method_7_code
def yX3_tell : MethodName := ⟨RX3, "tell", "(II)I"⟩
abbrev cX3_village : ByteArray := prog_1_method_8_code
def yX3_village : MethodName := ⟨RX3, "village", "(II)I"⟩
abbrev cX3_queue : ByteArray := prog_1_method_9_code
def yX3_queue : MethodName := ⟨RX3, "queue", "(II)I"⟩
abbrev cX3_knows : ByteArray := prog_1_method_10_code
def yX3_knows : MethodName := ⟨RX3, "knows", "(II)I"⟩
abbrev cX3_sounds : ByteArray := prog_1_method_11_code
def yX3_sounds : MethodName := ⟨RX3, "sounds", "(I)I"⟩
abbrev cX3_count : ByteArray := prog_1_method_12_code
def yX3_count : MethodName := ⟨RX3, "count", "(I)I"⟩
abbrev cX3_way : ByteArray := prog_1_method_13_code
def yX3_way : MethodName := ⟨RX3, "way", "(II)I"⟩
abbrev cX3_pass : ByteArray := prog_1_method_14_code
def yX3_pass : MethodName := ⟨RX3, "pass", "(I)I"⟩
abbrev cX3_reaches : ByteArray := prog_1_method_15_code
def yX3_reaches : MethodName := ⟨RX3, "reaches", "(II)I"⟩
abbrev cX3_best : ByteArray := prog_1_method_16_code
def yX3_best : MethodName := ⟨RX3, "best", "(II)I"⟩
abbrev cX3_larger : ByteArray := prog_1_method_17_code
def yX3_larger : MethodName := ⟨RX3, "larger", "(I)I"⟩
abbrev cX3_known : ByteArray := prog_1_method_18_code
def yX3_known : MethodName := ⟨RX3, "known", "()D"⟩
abbrev cX3_digest : ByteArray := prog_1_method_19_code
def yX3_digest : MethodName := ⟨RX3, "digest", "()J"⟩
abbrev cX3_isPlace : ByteArray := prog_1_method_20_code
def yX3_isPlace : MethodName := ⟨RX3, "isPlace", "(I)Z"⟩
abbrev cX3_isDrum : ByteArray := prog_1_method_21_code
def yX3_isDrum : MethodName := ⟨RX3, "isDrum", "(I)Z"⟩
abbrev cX3_countTones : ByteArray := prog_1_method_22_code
def yX3_countTones : MethodName := ⟨RX3, "countTones", "(I)I"⟩
abbrev cX3_checkVillage : ByteArray := prog_1_method_23_code
def yX3_checkVillage : MethodName := ⟨RX3, "checkVillage", "(I)V"⟩
abbrev cX3_checkPhrase : ByteArray := prog_1_method_24_code
def yX3_checkPhrase : MethodName := ⟨RX3, "checkPhrase", "(I)V"⟩
abbrev cX3_villageOf : ByteArray := prog_1_method_25_code
def yX3_villageOf : MethodName := ⟨RX3, "villageOf", "(I)LDrumTalk$Village;"⟩
abbrev cX3_knowersIfTold : ByteArray := prog_1_method_26_code
def yX3_knowersIfTold : MethodName := ⟨RX3, "knowersIfTold", "(III)I"⟩
abbrev cX3_pairsIfLarger : ByteArray := prog_1_method_27_code
def yX3_pairsIfLarger : MethodName := ⟨RX3, "pairsIfLarger", "(II)I"⟩
abbrev cX3_digestOn : ByteArray := prog_1_method_28_code
def yX3_digestOn : MethodName := ⟨RX3, "digestOn", "(JLDrumTalk$Village;)J"⟩
def RX4 : String := "DrumTalkModel$State"
def TX4 : u_T := fun k => match k with
  | 0 => ("DrumTalkModel$State", "beat", "I", false)
  | 1 => ("DrumTalkModel$State", "begun", "I", false)
  | 2 => ("DrumTalkModel$State", "sounds", "I", false)
  | 3 => ("DrumTalkModel$State", "drum", "[I", true)
  | 4 => ("DrumTalkModel$State", "drums", "[I", true)
  | 5 => ("DrumTalkModel$State", "left", "[I", true)
  | 6 => ("DrumTalkModel$State", "queued", "[I", true)
  | 7 => ("DrumTalkModel$State", "queue", "[I", true)
  | 8 => ("DrumTalkModel$State", "known", "[I", true)
  | 9 => ("DrumTalkModel$State", "drowned", "[I", true)
  | 10 => ("DrumTalkModel$State", "where", "[I", true)
  | 11 => ("DrumTalkModel$State", "what", "[I", true)
  | 12 => ("DrumTalkModel$State", "first", "[I", true)
  | 13 => ("DrumTalkModel$State", "last", "[I", true)
  | 14 => ("DrumTalkModel$State", "lost", "[I", true)
  | _ => ("DrumTalkModel$State", "this$0", "LDrumTalkModel;", true)
def tyX4 : Nat → FieldType := fun k => match k with
  | 0 => .int
  | 1 => .int
  | 2 => .int
  | 3 => .array .int
  | 4 => .array .int
  | 5 => .array .int
  | 6 => .array .int
  | 7 => .array .int
  | 8 => .array .int
  | 9 => .array .int
  | 10 => .array .int
  | 11 => .array .int
  | 12 => .array .int
  | 13 => .array .int
  | 14 => .array .int
  | _ => .object "DrumTalkModel"
abbrev wsX40 : List Cond := u_ws RX4 TX4 16
theorem nmX4 : ∀ a, a < 16 → ∀ b, b < 16 → a ≠ b → (TX4 a).2.1 ≠ (TX4 b).2.1 := by decide +kernel
theorem tyX4_ok : ∀ k, k < 16 → parseFieldDescriptor (TX4 k).2.2.1 = some (tyX4 k) := by decide +kernel
abbrev cX4_init : ByteArray := prog_7_method_1_code
def yX4_init : MethodName := ⟨RX4, "<init>", "(LDrumTalkModel;)V"⟩
abbrev cX4_copy : ByteArray := prog_7_method_2_code
def yX4_copy : MethodName := ⟨RX4, "copy", "([I[II)V"⟩
abbrev cX4_become : ByteArray := prog_7_method_3_code
def yX4_become : MethodName := ⟨RX4, "become", "(LDrumTalkModel$State;)V"⟩
abbrev cX4_isAwake : ByteArray := prog_7_method_4_code
def yX4_isAwake : MethodName := ⟨RX4, "isAwake", "(I)Z"⟩
abbrev cX4_hears : ByteArray := prog_7_method_5_code
def yX4_hears : MethodName := ⟨RX4, "hears", "(II)Z"⟩
abbrev cX4_sound : ByteArray := prog_7_method_6_code
def yX4_sound : MethodName := ⟨RX4, "sound", "(III)V"⟩
abbrev cX4_begin : ByteArray := prog_7_method_7_code
def yX4_begin : MethodName := ⟨RX4, "begin", "(I)V"⟩
abbrev cX4_lasting : ByteArray := prog_7_method_8_code
def yX4_lasting : MethodName := ⟨RX4, "lasting", "(I)I"⟩
abbrev cX4_learns : ByteArray := prog_7_method_9_code
def yX4_learns : MethodName := ⟨RX4, "learns", "(II)Z"⟩
abbrev cX4_put : ByteArray := prog_7_method_10_code
def yX4_put : MethodName := ⟨RX4, "put", "(II)V"⟩
abbrev cX4_pass : ByteArray := prog_7_method_11_code
def yX4_pass : MethodName := ⟨RX4, "pass", "()I"⟩
abbrev cX4_knowing : ByteArray := prog_7_method_12_code
def yX4_knowing : MethodName := ⟨RX4, "knowing", "(I)I"⟩
abbrev cX4_pairs : ByteArray := prog_7_method_13_code
def yX4_pairs : MethodName := ⟨RX4, "pairs", "()I"⟩
def RX5 : String := "DrumTalkModel"
def TX5 : u_T := fun k => match k with
  | 0 => ("DrumTalkModel", "thrown", "I", false)
  | 1 => ("DrumTalkModel", "villages", "I", false)
  | 2 => ("DrumTalkModel", "phrases", "I", false)
  | 3 => ("DrumTalkModel", "x", "[I", true)
  | 4 => ("DrumTalkModel", "y", "[I", true)
  | 5 => ("DrumTalkModel", "cliff", "[I", true)
  | 6 => ("DrumTalkModel", "from", "[I", true)
  | 7 => ("DrumTalkModel", "beats", "[I", true)
  | 8 => ("DrumTalkModel", "tones", "[I", true)
  | 9 => ("DrumTalkModel", "length", "[I", true)
  | 10 => ("DrumTalkModel", "s", "LDrumTalkModel$State;", true)
  | _ => ("DrumTalkModel", "ahead", "LDrumTalkModel$State;", true)
def tyX5 : Nat → FieldType := fun k => match k with
  | 0 => .int
  | 1 => .int
  | 2 => .int
  | 3 => .array .int
  | 4 => .array .int
  | 5 => .array .int
  | 6 => .array .int
  | 7 => .array .int
  | 8 => .array .int
  | 9 => .array .int
  | 10 => .object "DrumTalkModel$State"
  | _ => .object "DrumTalkModel$State"
abbrev wsX50 : List Cond := u_ws RX5 TX5 12
theorem nmX5 : ∀ a, a < 12 → ∀ b, b < 12 → a ≠ b → (TX5 a).2.1 ≠ (TX5 b).2.1 := by decide +kernel
theorem tyX5_ok : ∀ k, k < 12 → parseFieldDescriptor (TX5 k).2.2.1 = some (tyX5 k) := by decide +kernel
abbrev cX5_init : ByteArray := prog_6_method_1_code
def yX5_init : MethodName := ⟨RX5, "<init>", "()V"⟩
abbrev cX5_thrown : ByteArray := prog_6_method_2_code
def yX5_thrown : MethodName := ⟨RX5, "thrown", "()I"⟩
abbrev cX5_no : ByteArray := prog_6_method_3_code
def yX5_no : MethodName := ⟨RX5, "no", "(I)I"⟩
abbrev cX5_isIn : ByteArray := prog_6_method_4_code
def yX5_isIn : MethodName := ⟨RX5, "isIn", "(III)Z"⟩
abbrev cX5_isVillage : ByteArray := prog_6_method_5_code
def yX5_isVillage : MethodName := ⟨RX5, "isVillage", "(I)Z"⟩
abbrev cX5_isPhrase : ByteArray := prog_6_method_6_code
def yX5_isPhrase : MethodName := ⟨RX5, "isPhrase", "(I)Z"⟩
abbrev cX5_far : ByteArray := prog_6_method_7_code
def yX5_far : MethodName := ⟨RX5, "far", "(II)I"⟩
abbrev cX5_found : ByteArray := prog_6_method_8_code
def yX5_found : MethodName := ⟨RX5, "found", "(III)I"⟩
abbrev cX5_setDrum : ByteArray := prog_6_method_9_code
def yX5_setDrum : MethodName := ⟨RX5, "setDrum", "(II)I"⟩
abbrev cX5_setCliff : ByteArray := prog_6_method_10_code
def yX5_setCliff : MethodName := ⟨RX5, "setCliff", "(IZ)Z"⟩
abbrev cX5_setAwake : ByteArray := prog_6_method_11_code
def yX5_setAwake : MethodName := ⟨RX5, "setAwake", "(III)I"⟩
abbrev cX5_phrase : ByteArray := prog_6_method_12_code
def yX5_phrase : MethodName := ⟨RX5, "phrase", "(I)I"⟩
abbrev cX5_tell : ByteArray := prog_6_method_13_code
def yX5_tell : MethodName := ⟨RX5, "tell", "(II)I"⟩
abbrev cX5_villageTold : ByteArray := prog_6_method_14_code
def yX5_villageTold : MethodName := ⟨RX5, "villageTold", "(II)I"⟩
abbrev cX5_village : ByteArray := prog_6_method_15_code
def yX5_village : MethodName := ⟨RX5, "village", "(II)I"⟩
abbrev cX5_queue : ByteArray := prog_6_method_16_code
def yX5_queue : MethodName := ⟨RX5, "queue", "(II)I"⟩
abbrev cX5_knows : ByteArray := prog_6_method_17_code
def yX5_knows : MethodName := ⟨RX5, "knows", "(II)I"⟩
abbrev cX5_sounds : ByteArray := prog_6_method_18_code
def yX5_sounds : MethodName := ⟨RX5, "sounds", "(I)I"⟩
abbrev cX5_counted : ByteArray := prog_6_method_19_code
def yX5_counted : MethodName := ⟨RX5, "counted", "(I)I"⟩
abbrev cX5_count : ByteArray := prog_6_method_20_code
def yX5_count : MethodName := ⟨RX5, "count", "(I)I"⟩
abbrev cX5_way : ByteArray := prog_6_method_21_code
def yX5_way : MethodName := ⟨RX5, "way", "(II)I"⟩
abbrev cX5_pass : ByteArray := prog_6_method_22_code
def yX5_pass : MethodName := ⟨RX5, "pass", "(I)I"⟩
abbrev cX5_reaches : ByteArray := prog_6_method_23_code
def yX5_reaches : MethodName := ⟨RX5, "reaches", "(II)I"⟩
abbrev cX5_best : ByteArray := prog_6_method_24_code
def yX5_best : MethodName := ⟨RX5, "best", "(II)I"⟩
abbrev cX5_larger : ByteArray := prog_6_method_25_code
def yX5_larger : MethodName := ⟨RX5, "larger", "(I)I"⟩
abbrev cX5_known : ByteArray := prog_6_method_26_code
def yX5_known : MethodName := ⟨RX5, "known", "()D"⟩
abbrev cX5_digest : ByteArray := prog_6_method_27_code
def yX5_digest : MethodName := ⟨RX5, "digest", "()J"⟩
def RJx145de : String := "java/io/Serializable"
def TJx145de : u_T := fun k => match k with
  | _ => ("", "", "", false)
def tyJx145de : Nat → FieldType := fun k => match k with
  | _ => .int
abbrev wsJx145de0 : List Cond := u_ws RJx145de TJx145de 0
theorem nmJx145de : ∀ a, a < 0 → ∀ b, b < 0 → a ≠ b → (TJx145de a).2.1 ≠ (TJx145de b).2.1 := by decide +kernel
theorem tyJx145de_ok : ∀ k, k < 0 → parseFieldDescriptor (TJx145de k).2.2.1 = some (tyJx145de k) := by decide +kernel
def RJ9 : String := "java/lang/Math"
def TJ9 : u_T := fun k => match k with
  | _ => ("", "", "", false)
def tyJ9 : Nat → FieldType := fun k => match k with
  | _ => .int
abbrev wsJ90 : List Cond := u_ws RJ9 TJ9 0
theorem nmJ9 : ∀ a, a < 0 → ∀ b, b < 0 → a ≠ b → (TJ9 a).2.1 ≠ (TJ9 b).2.1 := by decide +kernel
theorem tyJ9_ok : ∀ k, k < 0 → parseFieldDescriptor (TJ9 k).2.2.1 = some (tyJ9 k) := by decide +kernel
abbrev cJ9_floorMod_7cf53 : ByteArray := prog_12_method_50_code
def yJ9_floorMod_7cf53 : MethodName := ⟨RJ9, "floorMod", "(II)I"⟩
abbrev cJ9_abs_0f7a4 : ByteArray := prog_12_method_59_code
def yJ9_abs_0f7a4 : MethodName := ⟨RJ9, "abs", "(I)I"⟩
abbrev cJ9_max_7cf53 : ByteArray := prog_12_method_65_code
def yJ9_max_7cf53 : MethodName := ⟨RJ9, "max", "(II)I"⟩
def RJ0 : String := "java/lang/String"
def TJ0 : u_T := fun k => match k with
  | _ => ("", "", "", false)
def tyJ0 : Nat → FieldType := fun k => match k with
  | _ => .int
abbrev wsJ00 : List Cond := u_ws RJ0 TJ0 0
theorem nmJ0 : ∀ a, a < 0 → ∀ b, b < 0 → a ≠ b → (TJ0 a).2.1 ≠ (TJ0 b).2.1 := by decide +kernel
theorem tyJ0_ok : ∀ k, k < 0 → parseFieldDescriptor (TJ0 k).2.2.1 = some (tyJ0 k) := by decide +kernel
def RJ10 : String := "java/lang/System"
def TJ10 : u_T := fun k => match k with
  | _ => ("", "", "", false)
def tyJ10 : Nat → FieldType := fun k => match k with
  | _ => .int
abbrev wsJ100 : List Cond := u_ws RJ10 TJ10 0
theorem nmJ10 : ∀ a, a < 0 → ∀ b, b < 0 → a ≠ b → (TJ10 a).2.1 ≠ (TJ10 b).2.1 := by decide +kernel
theorem tyJ10_ok : ∀ k, k < 0 → parseFieldDescriptor (TJ10 k).2.2.1 = some (tyJ10 k) := by decide +kernel
def RJ7 : String := "java/util/Arrays"
def TJ7 : u_T := fun k => match k with
  | _ => ("", "", "", false)
def tyJ7 : Nat → FieldType := fun k => match k with
  | _ => .int
abbrev wsJ70 : List Cond := u_ws RJ7 TJ7 0
theorem nmJ7 : ∀ a, a < 0 → ∀ b, b < 0 → a ≠ b → (TJ7 a).2.1 ≠ (TJ7 b).2.1 := by decide +kernel
theorem tyJ7_ok : ∀ k, k < 0 → parseFieldDescriptor (TJ7 k).2.2.1 = some (tyJ7 k) := by decide +kernel
abbrev cJ7_fill_53178 : ByteArray := prog_17_method_103_code
def yJ7_fill_53178 : MethodName := ⟨RJ7, "fill", "([II)V"⟩
def RL : String := "DrumTalkLaw"
abbrev cL_found : ByteArray := method_3_code
def yL_found : MethodName := ⟨RL, "found", "(LDrumTalk;III[J)I"⟩
abbrev cL_setDrum : ByteArray := method_4_code
def yL_setDrum : MethodName := ⟨RL, "setDrum", "(LDrumTalk;II[J)I"⟩
abbrev cL_setCliff : ByteArray := method_5_code
def yL_setCliff : MethodName := ⟨RL, "setCliff", "(LDrumTalk;IZ[J)I"⟩
abbrev cL_setAwake : ByteArray := method_6_code
def yL_setAwake : MethodName := ⟨RL, "setAwake", "(LDrumTalk;III[J)I"⟩
abbrev cL_phrase : ByteArray := method_7_code
def yL_phrase : MethodName := ⟨RL, "phrase", "(LDrumTalk;I[J)I"⟩
abbrev cL_tell : ByteArray := method_8_code
def yL_tell : MethodName := ⟨RL, "tell", "(LDrumTalk;II[J)I"⟩
abbrev cL_village : ByteArray := method_9_code
def yL_village : MethodName := ⟨RL, "village", "(LDrumTalk;II[J)I"⟩
abbrev cL_queue : ByteArray := method_10_code
def yL_queue : MethodName := ⟨RL, "queue", "(LDrumTalk;II[J)I"⟩
abbrev cL_knows : ByteArray := method_11_code
def yL_knows : MethodName := ⟨RL, "knows", "(LDrumTalk;II[J)I"⟩
abbrev cL_sounds : ByteArray := method_12_code
def yL_sounds : MethodName := ⟨RL, "sounds", "(LDrumTalk;I[J)I"⟩
abbrev cL_count : ByteArray := method_13_code
def yL_count : MethodName := ⟨RL, "count", "(LDrumTalk;I[J)I"⟩
abbrev cL_way : ByteArray := method_14_code
def yL_way : MethodName := ⟨RL, "way", "(LDrumTalk;II[J)I"⟩
abbrev cL_pass : ByteArray := method_15_code
def yL_pass : MethodName := ⟨RL, "pass", "(LDrumTalk;I[J)I"⟩
abbrev cL_reaches : ByteArray := method_16_code
def yL_reaches : MethodName := ⟨RL, "reaches", "(LDrumTalk;II[J)I"⟩
abbrev cL_best : ByteArray := method_17_code
def yL_best : MethodName := ⟨RL, "best", "(LDrumTalk;II[J)I"⟩
abbrev cL_larger : ByteArray := method_18_code
def yL_larger : MethodName := ⟨RL, "larger", "(LDrumTalk;I[J)I"⟩
abbrev cL_law : ByteArray := code
def yL_law : MethodName := ⟨RL, "law", "([I)Z"⟩
def wsX1_init : List Cond := .code yX1_init cX1_init 1 none :: ([.methodLink RX1 3 objectInit, .instanceMethod objectInit, .code objectInit ⟨#[0xb1]⟩ 1 none, .arrayClass .int, .fieldLink RX1 9 "DrumTalk$Sounds" "phrases" "[I", .fieldLink RX1 15 "DrumTalk$Sounds" "firstBeats" "[I", .fieldLink RX1 18 "DrumTalk$Sounds" "lastBeats" "[I", .fieldLink RX1 21 "DrumTalk$Sounds" "drowned" "[I"] ++ wsX10)
def wsJ7_fill_53178 : List Cond := .code yJ7_fill_53178 cJ7_fill_53178 4 none :: ([])
def wsX2_init : List Cond := .code yX2_init cX2_init 1 none :: ([.methodLink RX2 3 objectInit, .instanceMethod objectInit, .code objectInit ⟨#[0xb1]⟩ 1 none, .fieldLink RX2 9 "DrumTalk$Village" "drum" "I", .fieldLink RX2 15 "DrumTalk$Village" "awakeBeats" "I", .fieldLink RX2 18 "DrumTalk$Village" "drumming" "I", .arrayClass .int, .fieldLink RX2 21 "DrumTalk$Village" "queue" "[I", .fieldLink RX2 25 "DrumTalk$Village" "knownSince" "[I", .classLink RX2 28 RX1, .instantiable RX1 5, .initialized RX1, .fieldLink RX2 31 "DrumTalk$Village" "inTheAir" "LDrumTalk$Sounds;", .instanceMethod yX1_init, .code yX1_init cX1_init 1 none, .methodLink RX1 3 objectInit, .fieldLink RX1 9 "DrumTalk$Sounds" "phrases" "[I", .fieldLink RX1 15 "DrumTalk$Sounds" "firstBeats" "[I", .fieldLink RX1 18 "DrumTalk$Sounds" "lastBeats" "[I", .fieldLink RX1 21 "DrumTalk$Sounds" "drowned" "[I", .methodLink RX2 35 yJ7_fill_53178, .static yJ7_fill_53178, .initialized RJ7, .code yJ7_fill_53178 cJ7_fill_53178 4 none] ++ wsX20 ++ wsX10)
def wsX0_init_r1 : List Cond := [Cond.methodLink RX0 3 objectInit, Cond.instanceMethod objectInit, Cond.code objectInit ⟨#[0xb1]⟩ 1 none, Cond.classLink RX0 9 RX2, Cond.fieldLink RX0 11 "DrumTalk$Land" "villages" "[LDrumTalk$Village;", Cond.arrayClass .int, Cond.fieldLink RX0 17 "DrumTalk$Land" "tones" "[I", Cond.fieldLink RX0 21 "DrumTalk$Land" "toneCounts" "[I", Cond.instantiable RX2 13, Cond.initialized RX2, Cond.methodLink RX0 24 yX2_init, Cond.instanceMethod yX2_init, Cond.code yX2_init cX2_init 1 none, Cond.methodLink RX2 3 objectInit, Cond.fieldLink RX2 9 "DrumTalk$Village" "drum" "I", Cond.fieldLink RX2 15 "DrumTalk$Village" "awakeBeats" "I", Cond.fieldLink RX2 18 "DrumTalk$Village" "drumming" "I", Cond.fieldLink RX2 21 "DrumTalk$Village" "queue" "[I", Cond.fieldLink RX2 25 "DrumTalk$Village" "knownSince" "[I", Cond.classLink RX2 28 RX1, Cond.instantiable RX1 5, Cond.initialized RX1, Cond.fieldLink RX2 31 "DrumTalk$Village" "inTheAir" "LDrumTalk$Sounds;", Cond.instanceMethod yX1_init]
def wsX0_init_r2 : List Cond := [Cond.code yX1_init cX1_init 1 none, Cond.methodLink RX1 3 objectInit, Cond.fieldLink RX1 9 "DrumTalk$Sounds" "phrases" "[I", Cond.fieldLink RX1 15 "DrumTalk$Sounds" "firstBeats" "[I", Cond.fieldLink RX1 18 "DrumTalk$Sounds" "lastBeats" "[I", Cond.fieldLink RX1 21 "DrumTalk$Sounds" "drowned" "[I", Cond.methodLink RX2 35 yJ7_fill_53178, Cond.static yJ7_fill_53178, Cond.initialized RJ7, Cond.code yJ7_fill_53178 cJ7_fill_53178 4 none]
def wsX0_init : List Cond := .code yX0_init cX0_init 2 none :: ((wsX0_init_r1 ++ wsX0_init_r2) ++ wsX00 ++ wsX20 ++ wsX10)
def wsX1_copy : List Cond := .code yX1_copy cX1_copy 2 none :: ([.fieldLink RX1 9 "DrumTalk$Sounds" "phrases" "[I", .fieldLink RX1 24 "DrumTalk$Sounds" "size" "I", .methodLink RX1 28 arraycopyName, .native arraycopyName, .static arraycopyName, .initialized "java/lang/System", .fieldLink RX1 15 "DrumTalk$Sounds" "firstBeats" "[I", .fieldLink RX1 18 "DrumTalk$Sounds" "lastBeats" "[I", .fieldLink RX1 21 "DrumTalk$Sounds" "drowned" "[I"] ++ wsX10)
def wsX2_copy_r1 : List Cond := [Cond.fieldLink RX2 41 "DrumTalk$Village" "x" "I", Cond.fieldLink RX2 44 "DrumTalk$Village" "y" "I", Cond.fieldLink RX2 9 "DrumTalk$Village" "drum" "I", Cond.fieldLink RX2 47 "DrumTalk$Village" "cliff" "Z", Cond.fieldLink RX2 51 "DrumTalk$Village" "awakeFrom" "I", Cond.fieldLink RX2 15 "DrumTalk$Village" "awakeBeats" "I", Cond.fieldLink RX2 18 "DrumTalk$Village" "drumming" "I", Cond.fieldLink RX2 54 "DrumTalk$Village" "beatsLeft" "I", Cond.fieldLink RX2 21 "DrumTalk$Village" "queue" "[I", Cond.methodLink RX2 57 arraycopyName, Cond.native arraycopyName, Cond.static arraycopyName, Cond.initialized "java/lang/System", Cond.fieldLink RX2 63 "DrumTalk$Village" "queued" "I", Cond.fieldLink RX2 25 "DrumTalk$Village" "knownSince" "[I", Cond.fieldLink RX2 31 "DrumTalk$Village" "inTheAir" "LDrumTalk$Sounds;", Cond.fieldLink RX2 70 "DrumTalk$Village" "drowned" "I", Cond.methodLink RX2 66 yX1_copy, Cond.instanceMethod yX1_copy, Cond.selects RX1 yX1_copy yX1_copy, Cond.initialized RX1, Cond.code yX1_copy cX1_copy 2 none, Cond.fieldLink RX1 9 "DrumTalk$Sounds" "phrases" "[I", Cond.fieldLink RX1 24 "DrumTalk$Sounds" "size" "I"]
def wsX2_copy_r2 : List Cond := [Cond.methodLink RX1 28 arraycopyName, Cond.fieldLink RX1 15 "DrumTalk$Sounds" "firstBeats" "[I", Cond.fieldLink RX1 18 "DrumTalk$Sounds" "lastBeats" "[I", Cond.fieldLink RX1 21 "DrumTalk$Sounds" "drowned" "[I"]
def wsX2_copy : List Cond := .code yX2_copy cX2_copy 2 none :: ((wsX2_copy_r1 ++ wsX2_copy_r2) ++ wsX20 ++ wsX10)
def wsX0_copy_r1 : List Cond := [Cond.fieldLink RX0 25 "DrumTalk$Land" "villageCount" "I", Cond.fieldLink RX0 11 "DrumTalk$Land" "villages" "[LDrumTalk$Village;", Cond.fieldLink RX0 17 "DrumTalk$Land" "tones" "[I", Cond.methodLink RX0 33 arraycopyName, Cond.native arraycopyName, Cond.static arraycopyName, Cond.initialized "java/lang/System", Cond.fieldLink RX0 21 "DrumTalk$Land" "toneCounts" "[I", Cond.fieldLink RX0 39 "DrumTalk$Land" "phraseCount" "I", Cond.fieldLink RX0 42 "DrumTalk$Land" "beat" "I", Cond.fieldLink RX0 45 "DrumTalk$Land" "drummings" "I", Cond.methodLink RX0 29 yX2_copy, Cond.instanceMethod yX2_copy, Cond.selects RX2 yX2_copy yX2_copy, Cond.initialized RX2, Cond.code yX2_copy cX2_copy 2 none, Cond.fieldLink RX2 41 "DrumTalk$Village" "x" "I", Cond.fieldLink RX2 44 "DrumTalk$Village" "y" "I", Cond.fieldLink RX2 9 "DrumTalk$Village" "drum" "I", Cond.fieldLink RX2 47 "DrumTalk$Village" "cliff" "Z", Cond.fieldLink RX2 51 "DrumTalk$Village" "awakeFrom" "I", Cond.fieldLink RX2 15 "DrumTalk$Village" "awakeBeats" "I", Cond.fieldLink RX2 18 "DrumTalk$Village" "drumming" "I", Cond.fieldLink RX2 54 "DrumTalk$Village" "beatsLeft" "I"]
def wsX0_copy_r2 : List Cond := [Cond.fieldLink RX2 21 "DrumTalk$Village" "queue" "[I", Cond.methodLink RX2 57 arraycopyName, Cond.fieldLink RX2 63 "DrumTalk$Village" "queued" "I", Cond.fieldLink RX2 25 "DrumTalk$Village" "knownSince" "[I", Cond.fieldLink RX2 31 "DrumTalk$Village" "inTheAir" "LDrumTalk$Sounds;", Cond.fieldLink RX2 70 "DrumTalk$Village" "drowned" "I", Cond.methodLink RX2 66 yX1_copy, Cond.instanceMethod yX1_copy, Cond.selects RX1 yX1_copy yX1_copy, Cond.initialized RX1, Cond.code yX1_copy cX1_copy 2 none, Cond.fieldLink RX1 9 "DrumTalk$Sounds" "phrases" "[I", Cond.fieldLink RX1 24 "DrumTalk$Sounds" "size" "I", Cond.methodLink RX1 28 arraycopyName, Cond.fieldLink RX1 15 "DrumTalk$Sounds" "firstBeats" "[I", Cond.fieldLink RX1 18 "DrumTalk$Sounds" "lastBeats" "[I", Cond.fieldLink RX1 21 "DrumTalk$Sounds" "drowned" "[I"]
def wsX0_copy : List Cond := .code yX0_copy cX0_copy 3 none :: ((wsX0_copy_r1 ++ wsX0_copy_r2) ++ wsX00 ++ wsX20 ++ wsX10)
def wsX0_hasVillageAt : List Cond := .code yX0_hasVillageAt cX0_hasVillageAt 4 (some .boolean) :: ([.fieldLink RX0 25 "DrumTalk$Land" "villageCount" "I", .fieldLink RX0 11 "DrumTalk$Land" "villages" "[LDrumTalk$Village;", .fieldLink RX0 48 "DrumTalk$Village" "x" "I", .fieldLink RX0 51 "DrumTalk$Village" "y" "I"] ++ wsX00 ++ wsX20)
def wsX0_addVillage : List Cond := .code yX0_addVillage cX0_addVillage 5 (some .int) :: ([.fieldLink RX0 25 "DrumTalk$Land" "villageCount" "I", .fieldLink RX0 11 "DrumTalk$Land" "villages" "[LDrumTalk$Village;", .fieldLink RX0 48 "DrumTalk$Village" "x" "I", .fieldLink RX0 51 "DrumTalk$Village" "y" "I", .fieldLink RX0 54 "DrumTalk$Village" "drum" "I"] ++ wsX00 ++ wsX20)
def wsX0_hasPhrase : List Cond := .code yX0_hasPhrase cX0_hasPhrase 3 (some .boolean) :: ([.fieldLink RX0 39 "DrumTalk$Land" "phraseCount" "I", .fieldLink RX0 17 "DrumTalk$Land" "tones" "[I"] ++ wsX00)
def wsX0_addPhrase : List Cond := .code yX0_addPhrase cX0_addPhrase 3 (some .int) :: ([.fieldLink RX0 39 "DrumTalk$Land" "phraseCount" "I", .fieldLink RX0 17 "DrumTalk$Land" "tones" "[I", .fieldLink RX0 21 "DrumTalk$Land" "toneCounts" "[I"] ++ wsX00)
def wsX2_isDrumming : List Cond := .code yX2_isDrumming cX2_isDrumming 1 (some .boolean) :: ([.fieldLink RX2 18 "DrumTalk$Village" "drumming" "I"] ++ wsX20)
def wsX0_drummers : List Cond := .code yX0_drummers cX0_drummers 3 (some .int) :: ([.fieldLink RX0 25 "DrumTalk$Land" "villageCount" "I", .fieldLink RX0 11 "DrumTalk$Land" "villages" "[LDrumTalk$Village;", .methodLink RX0 70 yX2_isDrumming, .instanceMethod yX2_isDrumming, .selects RX2 yX2_isDrumming yX2_isDrumming, .initialized RX2, .code yX2_isDrumming cX2_isDrumming 1 (some .boolean), .fieldLink RX2 18 "DrumTalk$Village" "drumming" "I"] ++ wsX00 ++ wsX20)
def wsX0_soundsInTheAir : List Cond := .code yX0_soundsInTheAir cX0_soundsInTheAir 3 (some .int) :: ([.fieldLink RX0 25 "DrumTalk$Land" "villageCount" "I", .fieldLink RX0 11 "DrumTalk$Land" "villages" "[LDrumTalk$Village;", .fieldLink RX0 74 "DrumTalk$Village" "inTheAir" "LDrumTalk$Sounds;", .fieldLink RX0 78 "DrumTalk$Sounds" "size" "I"] ++ wsX00 ++ wsX20 ++ wsX10)
def wsX0_soundsDrowned : List Cond := .code yX0_soundsDrowned cX0_soundsDrowned 3 (some .int) :: ([.fieldLink RX0 25 "DrumTalk$Land" "villageCount" "I", .fieldLink RX0 11 "DrumTalk$Land" "villages" "[LDrumTalk$Village;", .fieldLink RX0 83 "DrumTalk$Village" "drowned" "I"] ++ wsX00 ++ wsX20)
def wsX2_isKnown : List Cond := .code yX2_isKnown cX2_isKnown 2 (some .boolean) :: ([.fieldLink RX2 25 "DrumTalk$Village" "knownSince" "[I"] ++ wsX20)
def wsX2_phrasesKnown : List Cond := .code yX2_phrasesKnown cX2_phrasesKnown 3 (some .int) :: ([.methodLink RX2 95 yX2_isKnown, .instanceMethod yX2_isKnown, .selects RX2 yX2_isKnown yX2_isKnown, .initialized RX2, .code yX2_isKnown cX2_isKnown 2 (some .boolean), .fieldLink RX2 25 "DrumTalk$Village" "knownSince" "[I"] ++ wsX20)
def wsX0_knownPairs : List Cond := .code yX0_knownPairs cX0_knownPairs 3 (some .int) :: ([.fieldLink RX0 25 "DrumTalk$Land" "villageCount" "I", .fieldLink RX0 11 "DrumTalk$Land" "villages" "[LDrumTalk$Village;", .methodLink RX0 86 yX2_phrasesKnown, .instanceMethod yX2_phrasesKnown, .selects RX2 yX2_phrasesKnown yX2_phrasesKnown, .initialized RX2, .code yX2_phrasesKnown cX2_phrasesKnown 3 (some .int), .methodLink RX2 95 yX2_isKnown, .instanceMethod yX2_isKnown, .selects RX2 yX2_isKnown yX2_isKnown, .code yX2_isKnown cX2_isKnown 2 (some .boolean), .fieldLink RX2 25 "DrumTalk$Village" "knownSince" "[I"] ++ wsX00 ++ wsX20)
def wsX0_figure_r1 : List Cond := [Cond.fieldLink RX0 42 "DrumTalk$Land" "beat" "I", Cond.fieldLink RX0 25 "DrumTalk$Land" "villageCount" "I", Cond.fieldLink RX0 39 "DrumTalk$Land" "phraseCount" "I", Cond.fieldLink RX0 45 "DrumTalk$Land" "drummings" "I", Cond.methodLink RX0 57 yX0_drummers, Cond.instanceMethod yX0_drummers, Cond.selects RX0 yX0_drummers yX0_drummers, Cond.initialized RX0, Cond.code yX0_drummers cX0_drummers 3 (some .int), Cond.fieldLink RX0 11 "DrumTalk$Land" "villages" "[LDrumTalk$Village;", Cond.methodLink RX0 70 yX2_isDrumming, Cond.instanceMethod yX2_isDrumming, Cond.selects RX2 yX2_isDrumming yX2_isDrumming, Cond.initialized RX2, Cond.code yX2_isDrumming cX2_isDrumming 1 (some .boolean), Cond.fieldLink RX2 18 "DrumTalk$Village" "drumming" "I", Cond.methodLink RX0 61 yX0_soundsInTheAir, Cond.instanceMethod yX0_soundsInTheAir, Cond.selects RX0 yX0_soundsInTheAir yX0_soundsInTheAir, Cond.code yX0_soundsInTheAir cX0_soundsInTheAir 3 (some .int), Cond.fieldLink RX0 74 "DrumTalk$Village" "inTheAir" "LDrumTalk$Sounds;", Cond.fieldLink RX0 78 "DrumTalk$Sounds" "size" "I", Cond.methodLink RX0 64 yX0_soundsDrowned, Cond.instanceMethod yX0_soundsDrowned]
def wsX0_figure_r2 : List Cond := [Cond.selects RX0 yX0_soundsDrowned yX0_soundsDrowned, Cond.code yX0_soundsDrowned cX0_soundsDrowned 3 (some .int), Cond.fieldLink RX0 83 "DrumTalk$Village" "drowned" "I", Cond.methodLink RX0 67 yX0_knownPairs, Cond.instanceMethod yX0_knownPairs, Cond.selects RX0 yX0_knownPairs yX0_knownPairs, Cond.code yX0_knownPairs cX0_knownPairs 3 (some .int), Cond.methodLink RX0 86 yX2_phrasesKnown, Cond.instanceMethod yX2_phrasesKnown, Cond.selects RX2 yX2_phrasesKnown yX2_phrasesKnown, Cond.code yX2_phrasesKnown cX2_phrasesKnown 3 (some .int), Cond.methodLink RX2 95 yX2_isKnown, Cond.instanceMethod yX2_isKnown, Cond.selects RX2 yX2_isKnown yX2_isKnown, Cond.code yX2_isKnown cX2_isKnown 2 (some .boolean), Cond.fieldLink RX2 25 "DrumTalk$Village" "knownSince" "[I"]
def wsX0_figure : List Cond := .code yX0_figure cX0_figure 2 (some .int) :: ((wsX0_figure_r1 ++ wsX0_figure_r2) ++ wsX00 ++ wsX20 ++ wsX10)
def wsX0_knowersOf : List Cond := .code yX0_knowersOf cX0_knowersOf 4 (some .int) :: ([.fieldLink RX0 25 "DrumTalk$Land" "villageCount" "I", .fieldLink RX0 11 "DrumTalk$Land" "villages" "[LDrumTalk$Village;", .methodLink RX0 89 yX2_isKnown, .instanceMethod yX2_isKnown, .selects RX2 yX2_isKnown yX2_isKnown, .initialized RX2, .code yX2_isKnown cX2_isKnown 2 (some .boolean), .fieldLink RX2 25 "DrumTalk$Village" "knownSince" "[I"] ++ wsX00 ++ wsX20)
def wsX2_distanceTo : List Cond := .code yX2_distanceTo cX2_distanceTo 2 (some .int) :: ([.fieldLink RX2 41 "DrumTalk$Village" "x" "I", .methodLink RX2 91 Lib.Math.abs.name, .static Lib.Math.abs.name, .initialized "java/lang/Math", .code Lib.Math.abs.name Lib.Math.abs.code 1 (some .int), .fieldLink RX2 44 "DrumTalk$Village" "y" "I"] ++ wsX20)
def wsX2_isHeardAt : List Cond := .code yX2_isHeardAt cX2_isHeardAt 2 (some .boolean) :: ([.fieldLink RX2 9 "DrumTalk$Village" "drum" "I"] ++ wsX20)
def wsX0_hearersOf : List Cond := .code yX0_hearersOf cX0_hearersOf 5 (some .int) :: ([.fieldLink RX0 25 "DrumTalk$Land" "villageCount" "I", .fieldLink RX0 11 "DrumTalk$Land" "villages" "[LDrumTalk$Village;", .methodLink RX0 93 yX2_distanceTo, .instanceMethod yX2_distanceTo, .selects RX2 yX2_distanceTo yX2_distanceTo, .initialized RX2, .code yX2_distanceTo cX2_distanceTo 2 (some .int), .fieldLink RX2 41 "DrumTalk$Village" "x" "I", .methodLink RX2 91 Lib.Math.abs.name, .static Lib.Math.abs.name, .initialized "java/lang/Math", .code Lib.Math.abs.name Lib.Math.abs.code 1 (some .int), .fieldLink RX2 44 "DrumTalk$Village" "y" "I", .methodLink RX0 97 yX2_isHeardAt, .instanceMethod yX2_isHeardAt, .selects RX2 yX2_isHeardAt yX2_isHeardAt, .code yX2_isHeardAt cX2_isHeardAt 2 (some .boolean), .fieldLink RX2 9 "DrumTalk$Village" "drum" "I"] ++ wsX00 ++ wsX20)
def wsX0_isQuiet : List Cond := .code yX0_isQuiet cX0_isQuiet 3 (some .boolean) :: ([.fieldLink RX0 25 "DrumTalk$Land" "villageCount" "I", .fieldLink RX0 11 "DrumTalk$Land" "villages" "[LDrumTalk$Village;", .fieldLink RX0 106 "DrumTalk$Village" "queued" "I", .fieldLink RX0 74 "DrumTalk$Village" "inTheAir" "LDrumTalk$Sounds;", .fieldLink RX0 78 "DrumTalk$Sounds" "size" "I", .methodLink RX0 70 yX2_isDrumming, .instanceMethod yX2_isDrumming, .selects RX2 yX2_isDrumming yX2_isDrumming, .initialized RX2, .code yX2_isDrumming cX2_isDrumming 1 (some .boolean), .fieldLink RX2 18 "DrumTalk$Village" "drumming" "I"] ++ wsX00 ++ wsX20 ++ wsX10)
def wsJ9_floorMod_7cf53 : List Cond := .code yJ9_floorMod_7cf53 cJ9_floorMod_7cf53 3 (some .int) :: ([])
def wsX2_isAwake : List Cond := .code yX2_isAwake cX2_isAwake 2 (some .boolean) :: ([.fieldLink RX2 51 "DrumTalk$Village" "awakeFrom" "I", .fieldLink RX2 15 "DrumTalk$Village" "awakeBeats" "I", .methodLink RX2 81 yJ9_floorMod_7cf53, .static yJ9_floorMod_7cf53, .initialized RJ9, .code yJ9_floorMod_7cf53 cJ9_floorMod_7cf53 3 (some .int)] ++ wsX20)
def wsX2_isReady : List Cond := .code yX2_isReady cX2_isReady 2 (some .boolean) :: ([.fieldLink RX2 63 "DrumTalk$Village" "queued" "I", .methodLink RX2 87 yX2_isDrumming, .instanceMethod yX2_isDrumming, .selects RX2 yX2_isDrumming yX2_isDrumming, .initialized RX2, .code yX2_isDrumming cX2_isDrumming 1 (some .boolean), .fieldLink RX2 18 "DrumTalk$Village" "drumming" "I", .methodLink RX2 73 yX2_isAwake, .instanceMethod yX2_isAwake, .selects RX2 yX2_isAwake yX2_isAwake, .code yX2_isAwake cX2_isAwake 2 (some .boolean), .fieldLink RX2 51 "DrumTalk$Village" "awakeFrom" "I", .fieldLink RX2 15 "DrumTalk$Village" "awakeBeats" "I", .methodLink RX2 81 yJ9_floorMod_7cf53, .static yJ9_floorMod_7cf53, .initialized RJ9, .code yJ9_floorMod_7cf53 cJ9_floorMod_7cf53 3 (some .int)] ++ wsX20)
def wsX2_takeFromQueue : List Cond := .code yX2_takeFromQueue cX2_takeFromQueue 2 (some .int) :: ([.fieldLink RX2 63 "DrumTalk$Village" "queued" "I", .fieldLink RX2 21 "DrumTalk$Village" "queue" "[I", .methodLink RX2 57 arraycopyName, .native arraycopyName, .static arraycopyName, .initialized "java/lang/System"] ++ wsX20)
def wsX1_add : List Cond := .code yX1_add cX1_add 4 none :: ([.fieldLink RX1 24 "DrumTalk$Sounds" "size" "I", .fieldLink RX1 9 "DrumTalk$Sounds" "phrases" "[I", .fieldLink RX1 15 "DrumTalk$Sounds" "firstBeats" "[I", .fieldLink RX1 18 "DrumTalk$Sounds" "lastBeats" "[I", .fieldLink RX1 21 "DrumTalk$Sounds" "drowned" "[I"] ++ wsX10)
def wsX0_beginDrumming_r1 : List Cond := [Cond.fieldLink RX0 11 "DrumTalk$Land" "villages" "[LDrumTalk$Village;", Cond.fieldLink RX0 39 "DrumTalk$Land" "phraseCount" "I", Cond.fieldLink RX0 21 "DrumTalk$Land" "toneCounts" "[I", Cond.fieldLink RX0 129 "DrumTalk$Village" "drumming" "I", Cond.fieldLink RX0 132 "DrumTalk$Village" "beatsLeft" "I", Cond.fieldLink RX0 45 "DrumTalk$Land" "drummings" "I", Cond.fieldLink RX0 25 "DrumTalk$Land" "villageCount" "I", Cond.fieldLink RX0 42 "DrumTalk$Land" "beat" "I", Cond.fieldLink RX0 74 "DrumTalk$Village" "inTheAir" "LDrumTalk$Sounds;", Cond.fieldLink RX0 139 "DrumTalk$Village" "cliff" "Z", Cond.methodLink RX0 126 yX2_takeFromQueue, Cond.instanceMethod yX2_takeFromQueue, Cond.selects RX2 yX2_takeFromQueue yX2_takeFromQueue, Cond.initialized RX2, Cond.code yX2_takeFromQueue cX2_takeFromQueue 2 (some .int), Cond.fieldLink RX2 63 "DrumTalk$Village" "queued" "I", Cond.fieldLink RX2 21 "DrumTalk$Village" "queue" "[I", Cond.methodLink RX2 57 arraycopyName, Cond.native arraycopyName, Cond.static arraycopyName, Cond.initialized "java/lang/System", Cond.methodLink RX0 93 yX2_distanceTo, Cond.instanceMethod yX2_distanceTo, Cond.selects RX2 yX2_distanceTo yX2_distanceTo]
def wsX0_beginDrumming_r2 : List Cond := [Cond.code yX2_distanceTo cX2_distanceTo 2 (some .int), Cond.fieldLink RX2 41 "DrumTalk$Village" "x" "I", Cond.methodLink RX2 91 Lib.Math.abs.name, Cond.static Lib.Math.abs.name, Cond.initialized "java/lang/Math", Cond.code Lib.Math.abs.name Lib.Math.abs.code 1 (some .int), Cond.fieldLink RX2 44 "DrumTalk$Village" "y" "I", Cond.methodLink RX0 97 yX2_isHeardAt, Cond.instanceMethod yX2_isHeardAt, Cond.selects RX2 yX2_isHeardAt yX2_isHeardAt, Cond.code yX2_isHeardAt cX2_isHeardAt 2 (some .boolean), Cond.fieldLink RX2 9 "DrumTalk$Village" "drum" "I", Cond.methodLink RX0 135 yX1_add, Cond.instanceMethod yX1_add, Cond.selects RX1 yX1_add yX1_add, Cond.initialized RX1, Cond.code yX1_add cX1_add 4 none, Cond.fieldLink RX1 24 "DrumTalk$Sounds" "size" "I", Cond.fieldLink RX1 9 "DrumTalk$Sounds" "phrases" "[I", Cond.fieldLink RX1 15 "DrumTalk$Sounds" "firstBeats" "[I", Cond.fieldLink RX1 18 "DrumTalk$Sounds" "lastBeats" "[I", Cond.fieldLink RX1 21 "DrumTalk$Sounds" "drowned" "[I"]
def wsX0_beginDrumming : List Cond := .code yX0_beginDrumming cX0_beginDrumming 9 none :: ((wsX0_beginDrumming_r1 ++ wsX0_beginDrumming_r2) ++ wsX00 ++ wsX20 ++ wsX10)
def wsX1_lasting : List Cond := .code yX1_lasting cX1_lasting 4 (some .int) :: ([.fieldLink RX1 24 "DrumTalk$Sounds" "size" "I", .fieldLink RX1 15 "DrumTalk$Sounds" "firstBeats" "[I"] ++ wsX10)
def wsX1_drown : List Cond := .code yX1_drown cX1_drown 3 none :: ([.fieldLink RX1 24 "DrumTalk$Sounds" "size" "I", .fieldLink RX1 15 "DrumTalk$Sounds" "firstBeats" "[I", .fieldLink RX1 21 "DrumTalk$Sounds" "drowned" "[I"] ++ wsX10)
def wsX2_drownIfDisturbed_r1 : List Cond := [Cond.fieldLink RX2 31 "DrumTalk$Village" "inTheAir" "LDrumTalk$Sounds;", Cond.methodLink RX2 73 yX2_isAwake, Cond.instanceMethod yX2_isAwake, Cond.selects RX2 yX2_isAwake yX2_isAwake, Cond.initialized RX2, Cond.code yX2_isAwake cX2_isAwake 2 (some .boolean), Cond.fieldLink RX2 51 "DrumTalk$Village" "awakeFrom" "I", Cond.fieldLink RX2 15 "DrumTalk$Village" "awakeBeats" "I", Cond.methodLink RX2 81 yJ9_floorMod_7cf53, Cond.static yJ9_floorMod_7cf53, Cond.initialized RJ9, Cond.code yJ9_floorMod_7cf53 cJ9_floorMod_7cf53 3 (some .int), Cond.methodLink RX2 87 yX2_isDrumming, Cond.instanceMethod yX2_isDrumming, Cond.selects RX2 yX2_isDrumming yX2_isDrumming, Cond.code yX2_isDrumming cX2_isDrumming 1 (some .boolean), Cond.fieldLink RX2 18 "DrumTalk$Village" "drumming" "I", Cond.methodLink RX2 98 yX1_lasting, Cond.instanceMethod yX1_lasting, Cond.selects RX1 yX1_lasting yX1_lasting, Cond.initialized RX1, Cond.code yX1_lasting cX1_lasting 4 (some .int), Cond.fieldLink RX1 24 "DrumTalk$Sounds" "size" "I", Cond.fieldLink RX1 15 "DrumTalk$Sounds" "firstBeats" "[I"]
def wsX2_drownIfDisturbed_r2 : List Cond := [Cond.methodLink RX2 101 yX1_drown, Cond.instanceMethod yX1_drown, Cond.selects RX1 yX1_drown yX1_drown, Cond.code yX1_drown cX1_drown 3 none, Cond.fieldLink RX1 21 "DrumTalk$Sounds" "drowned" "[I"]
def wsX2_drownIfDisturbed : List Cond := .code yX2_drownIfDisturbed cX2_drownIfDisturbed 2 none :: ((wsX2_drownIfDisturbed_r1 ++ wsX2_drownIfDisturbed_r2) ++ wsX20 ++ wsX10)
def wsX1_move : List Cond := .code yX1_move cX1_move 3 none :: ([.fieldLink RX1 24 "DrumTalk$Sounds" "size" "I", .fieldLink RX1 9 "DrumTalk$Sounds" "phrases" "[I", .fieldLink RX1 15 "DrumTalk$Sounds" "firstBeats" "[I", .fieldLink RX1 18 "DrumTalk$Sounds" "lastBeats" "[I", .fieldLink RX1 21 "DrumTalk$Sounds" "drowned" "[I"] ++ wsX10)
def wsX2_takeIn : List Cond := .code yX2_takeIn cX2_takeIn 3 none :: ([.fieldLink RX2 25 "DrumTalk$Village" "knownSince" "[I", .fieldLink RX2 63 "DrumTalk$Village" "queued" "I", .fieldLink RX2 21 "DrumTalk$Village" "queue" "[I"] ++ wsX20)
def wsX2_endSounds_r1 : List Cond := [Cond.fieldLink RX2 31 "DrumTalk$Village" "inTheAir" "LDrumTalk$Sounds;", Cond.fieldLink RX2 105 "DrumTalk$Sounds" "size" "I", Cond.fieldLink RX2 108 "DrumTalk$Sounds" "lastBeats" "[I", Cond.fieldLink RX2 115 "DrumTalk$Sounds" "drowned" "[I", Cond.fieldLink RX2 70 "DrumTalk$Village" "drowned" "I", Cond.fieldLink RX2 117 "DrumTalk$Sounds" "phrases" "[I", Cond.methodLink RX2 111 yX1_move, Cond.instanceMethod yX1_move, Cond.selects RX1 yX1_move yX1_move, Cond.initialized RX1, Cond.code yX1_move cX1_move 3 none, Cond.fieldLink RX1 24 "DrumTalk$Sounds" "size" "I", Cond.fieldLink RX1 9 "DrumTalk$Sounds" "phrases" "[I", Cond.fieldLink RX1 15 "DrumTalk$Sounds" "firstBeats" "[I", Cond.fieldLink RX1 18 "DrumTalk$Sounds" "lastBeats" "[I", Cond.fieldLink RX1 21 "DrumTalk$Sounds" "drowned" "[I", Cond.methodLink RX2 95 yX2_isKnown, Cond.instanceMethod yX2_isKnown, Cond.selects RX2 yX2_isKnown yX2_isKnown, Cond.initialized RX2, Cond.code yX2_isKnown cX2_isKnown 2 (some .boolean), Cond.fieldLink RX2 25 "DrumTalk$Village" "knownSince" "[I", Cond.methodLink RX2 120 yX2_takeIn, Cond.instanceMethod yX2_takeIn]
def wsX2_endSounds_r2 : List Cond := [Cond.selects RX2 yX2_takeIn yX2_takeIn, Cond.code yX2_takeIn cX2_takeIn 3 none, Cond.fieldLink RX2 63 "DrumTalk$Village" "queued" "I", Cond.fieldLink RX2 21 "DrumTalk$Village" "queue" "[I"]
def wsX2_endSounds : List Cond := .code yX2_endSounds cX2_endSounds 5 (some .int) :: ((wsX2_endSounds_r1 ++ wsX2_endSounds_r2) ++ wsX20 ++ wsX10)
def wsX2_endDrumBeat : List Cond := .code yX2_endDrumBeat cX2_endDrumBeat 1 none :: ([.fieldLink RX2 54 "DrumTalk$Village" "beatsLeft" "I", .fieldLink RX2 18 "DrumTalk$Village" "drumming" "I", .methodLink RX2 87 yX2_isDrumming, .instanceMethod yX2_isDrumming, .selects RX2 yX2_isDrumming yX2_isDrumming, .initialized RX2, .code yX2_isDrumming cX2_isDrumming 1 (some .boolean)] ++ wsX20)
def wsX0_goBeat_r1 : List Cond := [Cond.fieldLink RX0 25 "DrumTalk$Land" "villageCount" "I", Cond.fieldLink RX0 11 "DrumTalk$Land" "villages" "[LDrumTalk$Village;", Cond.fieldLink RX0 42 "DrumTalk$Land" "beat" "I", Cond.methodLink RX0 109 yX2_isReady, Cond.instanceMethod yX2_isReady, Cond.selects RX2 yX2_isReady yX2_isReady, Cond.initialized RX2, Cond.code yX2_isReady cX2_isReady 2 (some .boolean), Cond.fieldLink RX2 63 "DrumTalk$Village" "queued" "I", Cond.methodLink RX2 87 yX2_isDrumming, Cond.instanceMethod yX2_isDrumming, Cond.selects RX2 yX2_isDrumming yX2_isDrumming, Cond.code yX2_isDrumming cX2_isDrumming 1 (some .boolean), Cond.fieldLink RX2 18 "DrumTalk$Village" "drumming" "I", Cond.methodLink RX2 73 yX2_isAwake, Cond.instanceMethod yX2_isAwake, Cond.selects RX2 yX2_isAwake yX2_isAwake, Cond.code yX2_isAwake cX2_isAwake 2 (some .boolean), Cond.fieldLink RX2 51 "DrumTalk$Village" "awakeFrom" "I", Cond.fieldLink RX2 15 "DrumTalk$Village" "awakeBeats" "I", Cond.methodLink RX2 81 yJ9_floorMod_7cf53, Cond.static yJ9_floorMod_7cf53, Cond.initialized RJ9, Cond.code yJ9_floorMod_7cf53 cJ9_floorMod_7cf53 3 (some .int)]
def wsX0_goBeat_r2 : List Cond := [Cond.methodLink RX0 112 yX0_beginDrumming, Cond.instanceMethod yX0_beginDrumming, Cond.selects RX0 yX0_beginDrumming yX0_beginDrumming, Cond.initialized RX0, Cond.code yX0_beginDrumming cX0_beginDrumming 9 none, Cond.fieldLink RX0 39 "DrumTalk$Land" "phraseCount" "I", Cond.fieldLink RX0 21 "DrumTalk$Land" "toneCounts" "[I", Cond.fieldLink RX0 129 "DrumTalk$Village" "drumming" "I", Cond.fieldLink RX0 132 "DrumTalk$Village" "beatsLeft" "I", Cond.fieldLink RX0 45 "DrumTalk$Land" "drummings" "I", Cond.fieldLink RX0 74 "DrumTalk$Village" "inTheAir" "LDrumTalk$Sounds;", Cond.fieldLink RX0 139 "DrumTalk$Village" "cliff" "Z", Cond.methodLink RX0 126 yX2_takeFromQueue, Cond.instanceMethod yX2_takeFromQueue, Cond.selects RX2 yX2_takeFromQueue yX2_takeFromQueue, Cond.code yX2_takeFromQueue cX2_takeFromQueue 2 (some .int), Cond.fieldLink RX2 21 "DrumTalk$Village" "queue" "[I", Cond.methodLink RX2 57 arraycopyName, Cond.native arraycopyName, Cond.static arraycopyName, Cond.initialized "java/lang/System", Cond.methodLink RX0 93 yX2_distanceTo, Cond.instanceMethod yX2_distanceTo, Cond.selects RX2 yX2_distanceTo yX2_distanceTo]
def wsX0_goBeat_r3 : List Cond := [Cond.code yX2_distanceTo cX2_distanceTo 2 (some .int), Cond.fieldLink RX2 41 "DrumTalk$Village" "x" "I", Cond.methodLink RX2 91 Lib.Math.abs.name, Cond.static Lib.Math.abs.name, Cond.initialized "java/lang/Math", Cond.code Lib.Math.abs.name Lib.Math.abs.code 1 (some .int), Cond.fieldLink RX2 44 "DrumTalk$Village" "y" "I", Cond.methodLink RX0 97 yX2_isHeardAt, Cond.instanceMethod yX2_isHeardAt, Cond.selects RX2 yX2_isHeardAt yX2_isHeardAt, Cond.code yX2_isHeardAt cX2_isHeardAt 2 (some .boolean), Cond.fieldLink RX2 9 "DrumTalk$Village" "drum" "I", Cond.methodLink RX0 135 yX1_add, Cond.instanceMethod yX1_add, Cond.selects RX1 yX1_add yX1_add, Cond.initialized RX1, Cond.code yX1_add cX1_add 4 none, Cond.fieldLink RX1 24 "DrumTalk$Sounds" "size" "I", Cond.fieldLink RX1 9 "DrumTalk$Sounds" "phrases" "[I", Cond.fieldLink RX1 15 "DrumTalk$Sounds" "firstBeats" "[I", Cond.fieldLink RX1 18 "DrumTalk$Sounds" "lastBeats" "[I", Cond.fieldLink RX1 21 "DrumTalk$Sounds" "drowned" "[I", Cond.methodLink RX0 116 yX2_drownIfDisturbed, Cond.instanceMethod yX2_drownIfDisturbed]
def wsX0_goBeat_r4 : List Cond := [Cond.selects RX2 yX2_drownIfDisturbed yX2_drownIfDisturbed, Cond.code yX2_drownIfDisturbed cX2_drownIfDisturbed 2 none, Cond.fieldLink RX2 31 "DrumTalk$Village" "inTheAir" "LDrumTalk$Sounds;", Cond.methodLink RX2 98 yX1_lasting, Cond.instanceMethod yX1_lasting, Cond.selects RX1 yX1_lasting yX1_lasting, Cond.code yX1_lasting cX1_lasting 4 (some .int), Cond.methodLink RX2 101 yX1_drown, Cond.instanceMethod yX1_drown, Cond.selects RX1 yX1_drown yX1_drown, Cond.code yX1_drown cX1_drown 3 none, Cond.methodLink RX0 119 yX2_endSounds, Cond.instanceMethod yX2_endSounds, Cond.selects RX2 yX2_endSounds yX2_endSounds, Cond.code yX2_endSounds cX2_endSounds 5 (some .int), Cond.fieldLink RX2 105 "DrumTalk$Sounds" "size" "I", Cond.fieldLink RX2 108 "DrumTalk$Sounds" "lastBeats" "[I", Cond.fieldLink RX2 115 "DrumTalk$Sounds" "drowned" "[I", Cond.fieldLink RX2 70 "DrumTalk$Village" "drowned" "I", Cond.fieldLink RX2 117 "DrumTalk$Sounds" "phrases" "[I", Cond.methodLink RX2 111 yX1_move, Cond.instanceMethod yX1_move, Cond.selects RX1 yX1_move yX1_move, Cond.code yX1_move cX1_move 3 none]
def wsX0_goBeat_r5 : List Cond := [Cond.methodLink RX2 95 yX2_isKnown, Cond.instanceMethod yX2_isKnown, Cond.selects RX2 yX2_isKnown yX2_isKnown, Cond.code yX2_isKnown cX2_isKnown 2 (some .boolean), Cond.fieldLink RX2 25 "DrumTalk$Village" "knownSince" "[I", Cond.methodLink RX2 120 yX2_takeIn, Cond.instanceMethod yX2_takeIn, Cond.selects RX2 yX2_takeIn yX2_takeIn, Cond.code yX2_takeIn cX2_takeIn 3 none, Cond.methodLink RX0 123 yX2_endDrumBeat, Cond.instanceMethod yX2_endDrumBeat, Cond.selects RX2 yX2_endDrumBeat yX2_endDrumBeat, Cond.code yX2_endDrumBeat cX2_endDrumBeat 1 none, Cond.fieldLink RX2 54 "DrumTalk$Village" "beatsLeft" "I"]
def wsX0_goBeat : List Cond := .code yX0_goBeat cX0_goBeat 3 (some .int) :: ((wsX0_goBeat_r1 ++ (wsX0_goBeat_r2 ++ (wsX0_goBeat_r3 ++ (wsX0_goBeat_r4 ++ wsX0_goBeat_r5)))) ++ wsX00 ++ wsX20 ++ wsX10)
def wsX0_letGo_r1 : List Cond := [Cond.fieldLink RX0 42 "DrumTalk$Land" "beat" "I", Cond.methodLink RX0 100 yX0_isQuiet, Cond.instanceMethod yX0_isQuiet, Cond.selects RX0 yX0_isQuiet yX0_isQuiet, Cond.initialized RX0, Cond.code yX0_isQuiet cX0_isQuiet 3 (some .boolean), Cond.fieldLink RX0 25 "DrumTalk$Land" "villageCount" "I", Cond.fieldLink RX0 11 "DrumTalk$Land" "villages" "[LDrumTalk$Village;", Cond.fieldLink RX0 106 "DrumTalk$Village" "queued" "I", Cond.fieldLink RX0 74 "DrumTalk$Village" "inTheAir" "LDrumTalk$Sounds;", Cond.fieldLink RX0 78 "DrumTalk$Sounds" "size" "I", Cond.methodLink RX0 70 yX2_isDrumming, Cond.instanceMethod yX2_isDrumming, Cond.selects RX2 yX2_isDrumming yX2_isDrumming, Cond.initialized RX2, Cond.code yX2_isDrumming cX2_isDrumming 1 (some .boolean), Cond.fieldLink RX2 18 "DrumTalk$Village" "drumming" "I", Cond.methodLink RX0 103 yX0_goBeat, Cond.instanceMethod yX0_goBeat, Cond.selects RX0 yX0_goBeat yX0_goBeat, Cond.code yX0_goBeat cX0_goBeat 3 (some .int), Cond.methodLink RX0 109 yX2_isReady, Cond.instanceMethod yX2_isReady, Cond.selects RX2 yX2_isReady yX2_isReady]
def wsX0_letGo_r2 : List Cond := [Cond.code yX2_isReady cX2_isReady 2 (some .boolean), Cond.fieldLink RX2 63 "DrumTalk$Village" "queued" "I", Cond.methodLink RX2 87 yX2_isDrumming, Cond.methodLink RX2 73 yX2_isAwake, Cond.instanceMethod yX2_isAwake, Cond.selects RX2 yX2_isAwake yX2_isAwake, Cond.code yX2_isAwake cX2_isAwake 2 (some .boolean), Cond.fieldLink RX2 51 "DrumTalk$Village" "awakeFrom" "I", Cond.fieldLink RX2 15 "DrumTalk$Village" "awakeBeats" "I", Cond.methodLink RX2 81 yJ9_floorMod_7cf53, Cond.static yJ9_floorMod_7cf53, Cond.initialized RJ9, Cond.code yJ9_floorMod_7cf53 cJ9_floorMod_7cf53 3 (some .int), Cond.methodLink RX0 112 yX0_beginDrumming, Cond.instanceMethod yX0_beginDrumming, Cond.selects RX0 yX0_beginDrumming yX0_beginDrumming, Cond.code yX0_beginDrumming cX0_beginDrumming 9 none, Cond.fieldLink RX0 39 "DrumTalk$Land" "phraseCount" "I", Cond.fieldLink RX0 21 "DrumTalk$Land" "toneCounts" "[I", Cond.fieldLink RX0 129 "DrumTalk$Village" "drumming" "I", Cond.fieldLink RX0 132 "DrumTalk$Village" "beatsLeft" "I", Cond.fieldLink RX0 45 "DrumTalk$Land" "drummings" "I", Cond.fieldLink RX0 139 "DrumTalk$Village" "cliff" "Z", Cond.methodLink RX0 126 yX2_takeFromQueue]
def wsX0_letGo_r3 : List Cond := [Cond.instanceMethod yX2_takeFromQueue, Cond.selects RX2 yX2_takeFromQueue yX2_takeFromQueue, Cond.code yX2_takeFromQueue cX2_takeFromQueue 2 (some .int), Cond.fieldLink RX2 21 "DrumTalk$Village" "queue" "[I", Cond.methodLink RX2 57 arraycopyName, Cond.native arraycopyName, Cond.static arraycopyName, Cond.initialized "java/lang/System", Cond.methodLink RX0 93 yX2_distanceTo, Cond.instanceMethod yX2_distanceTo, Cond.selects RX2 yX2_distanceTo yX2_distanceTo, Cond.code yX2_distanceTo cX2_distanceTo 2 (some .int), Cond.fieldLink RX2 41 "DrumTalk$Village" "x" "I", Cond.methodLink RX2 91 Lib.Math.abs.name, Cond.static Lib.Math.abs.name, Cond.initialized "java/lang/Math", Cond.code Lib.Math.abs.name Lib.Math.abs.code 1 (some .int), Cond.fieldLink RX2 44 "DrumTalk$Village" "y" "I", Cond.methodLink RX0 97 yX2_isHeardAt, Cond.instanceMethod yX2_isHeardAt, Cond.selects RX2 yX2_isHeardAt yX2_isHeardAt, Cond.code yX2_isHeardAt cX2_isHeardAt 2 (some .boolean), Cond.fieldLink RX2 9 "DrumTalk$Village" "drum" "I", Cond.methodLink RX0 135 yX1_add]
def wsX0_letGo_r4 : List Cond := [Cond.instanceMethod yX1_add, Cond.selects RX1 yX1_add yX1_add, Cond.initialized RX1, Cond.code yX1_add cX1_add 4 none, Cond.fieldLink RX1 24 "DrumTalk$Sounds" "size" "I", Cond.fieldLink RX1 9 "DrumTalk$Sounds" "phrases" "[I", Cond.fieldLink RX1 15 "DrumTalk$Sounds" "firstBeats" "[I", Cond.fieldLink RX1 18 "DrumTalk$Sounds" "lastBeats" "[I", Cond.fieldLink RX1 21 "DrumTalk$Sounds" "drowned" "[I", Cond.methodLink RX0 116 yX2_drownIfDisturbed, Cond.instanceMethod yX2_drownIfDisturbed, Cond.selects RX2 yX2_drownIfDisturbed yX2_drownIfDisturbed, Cond.code yX2_drownIfDisturbed cX2_drownIfDisturbed 2 none, Cond.fieldLink RX2 31 "DrumTalk$Village" "inTheAir" "LDrumTalk$Sounds;", Cond.methodLink RX2 98 yX1_lasting, Cond.instanceMethod yX1_lasting, Cond.selects RX1 yX1_lasting yX1_lasting, Cond.code yX1_lasting cX1_lasting 4 (some .int), Cond.methodLink RX2 101 yX1_drown, Cond.instanceMethod yX1_drown, Cond.selects RX1 yX1_drown yX1_drown, Cond.code yX1_drown cX1_drown 3 none, Cond.methodLink RX0 119 yX2_endSounds, Cond.instanceMethod yX2_endSounds]
def wsX0_letGo_r5 : List Cond := [Cond.selects RX2 yX2_endSounds yX2_endSounds, Cond.code yX2_endSounds cX2_endSounds 5 (some .int), Cond.fieldLink RX2 105 "DrumTalk$Sounds" "size" "I", Cond.fieldLink RX2 108 "DrumTalk$Sounds" "lastBeats" "[I", Cond.fieldLink RX2 115 "DrumTalk$Sounds" "drowned" "[I", Cond.fieldLink RX2 70 "DrumTalk$Village" "drowned" "I", Cond.fieldLink RX2 117 "DrumTalk$Sounds" "phrases" "[I", Cond.methodLink RX2 111 yX1_move, Cond.instanceMethod yX1_move, Cond.selects RX1 yX1_move yX1_move, Cond.code yX1_move cX1_move 3 none, Cond.methodLink RX2 95 yX2_isKnown, Cond.instanceMethod yX2_isKnown, Cond.selects RX2 yX2_isKnown yX2_isKnown, Cond.code yX2_isKnown cX2_isKnown 2 (some .boolean), Cond.fieldLink RX2 25 "DrumTalk$Village" "knownSince" "[I", Cond.methodLink RX2 120 yX2_takeIn, Cond.instanceMethod yX2_takeIn, Cond.selects RX2 yX2_takeIn yX2_takeIn, Cond.code yX2_takeIn cX2_takeIn 3 none, Cond.methodLink RX0 123 yX2_endDrumBeat, Cond.instanceMethod yX2_endDrumBeat, Cond.selects RX2 yX2_endDrumBeat yX2_endDrumBeat, Cond.code yX2_endDrumBeat cX2_endDrumBeat 1 none]
def wsX0_letGo_r6 : List Cond := [Cond.fieldLink RX2 54 "DrumTalk$Village" "beatsLeft" "I"]
def wsX0_letGo : List Cond := .code yX0_letGo cX0_letGo 4 (some .int) :: ((wsX0_letGo_r1 ++ (wsX0_letGo_r2 ++ (wsX0_letGo_r3 ++ (wsX0_letGo_r4 ++ (wsX0_letGo_r5 ++ wsX0_letGo_r6))))) ++ wsX00 ++ wsX20 ++ wsX10)
def wsX2_figure_r1 : List Cond := [Cond.fieldLink RX2 41 "DrumTalk$Village" "x" "I", Cond.fieldLink RX2 44 "DrumTalk$Village" "y" "I", Cond.fieldLink RX2 9 "DrumTalk$Village" "drum" "I", Cond.fieldLink RX2 47 "DrumTalk$Village" "cliff" "Z", Cond.fieldLink RX2 18 "DrumTalk$Village" "drumming" "I", Cond.fieldLink RX2 54 "DrumTalk$Village" "beatsLeft" "I", Cond.fieldLink RX2 63 "DrumTalk$Village" "queued" "I", Cond.fieldLink RX2 70 "DrumTalk$Village" "drowned" "I", Cond.methodLink RX2 73 yX2_isAwake, Cond.instanceMethod yX2_isAwake, Cond.selects RX2 yX2_isAwake yX2_isAwake, Cond.initialized RX2, Cond.code yX2_isAwake cX2_isAwake 2 (some .boolean), Cond.fieldLink RX2 51 "DrumTalk$Village" "awakeFrom" "I", Cond.fieldLink RX2 15 "DrumTalk$Village" "awakeBeats" "I", Cond.methodLink RX2 81 yJ9_floorMod_7cf53, Cond.static yJ9_floorMod_7cf53, Cond.initialized RJ9, Cond.code yJ9_floorMod_7cf53 cJ9_floorMod_7cf53 3 (some .int), Cond.methodLink RX2 77 yX2_phrasesKnown, Cond.instanceMethod yX2_phrasesKnown, Cond.selects RX2 yX2_phrasesKnown yX2_phrasesKnown, Cond.code yX2_phrasesKnown cX2_phrasesKnown 3 (some .int), Cond.methodLink RX2 95 yX2_isKnown]
def wsX2_figure_r2 : List Cond := [Cond.instanceMethod yX2_isKnown, Cond.selects RX2 yX2_isKnown yX2_isKnown, Cond.code yX2_isKnown cX2_isKnown 2 (some .boolean), Cond.fieldLink RX2 25 "DrumTalk$Village" "knownSince" "[I"]
def wsX2_figure : List Cond := .code yX2_figure cX2_figure 3 (some .int) :: ((wsX2_figure_r1 ++ wsX2_figure_r2) ++ wsX20)
def wsX3_init_r1 : List Cond := [Cond.methodLink RX3 3 objectInit, Cond.instanceMethod objectInit, Cond.code objectInit ⟨#[0xb1]⟩ 1 none, Cond.classLink RX3 9 RX0, Cond.instantiable RX0 7, Cond.initialized RX0, Cond.fieldLink RX3 12 "DrumTalk" "land" "LDrumTalk$Land;", Cond.fieldLink RX3 16 "DrumTalk" "trial" "LDrumTalk$Land;", Cond.methodLink RX3 11 yX0_init, Cond.instanceMethod yX0_init, Cond.code yX0_init cX0_init 2 none, Cond.methodLink RX0 3 objectInit, Cond.classLink RX0 9 RX2, Cond.fieldLink RX0 11 "DrumTalk$Land" "villages" "[LDrumTalk$Village;", Cond.arrayClass .int, Cond.fieldLink RX0 17 "DrumTalk$Land" "tones" "[I", Cond.fieldLink RX0 21 "DrumTalk$Land" "toneCounts" "[I", Cond.instantiable RX2 13, Cond.initialized RX2, Cond.methodLink RX0 24 yX2_init, Cond.instanceMethod yX2_init, Cond.code yX2_init cX2_init 1 none, Cond.methodLink RX2 3 objectInit, Cond.fieldLink RX2 9 "DrumTalk$Village" "drum" "I"]
def wsX3_init_r2 : List Cond := [Cond.fieldLink RX2 15 "DrumTalk$Village" "awakeBeats" "I", Cond.fieldLink RX2 18 "DrumTalk$Village" "drumming" "I", Cond.fieldLink RX2 21 "DrumTalk$Village" "queue" "[I", Cond.fieldLink RX2 25 "DrumTalk$Village" "knownSince" "[I", Cond.classLink RX2 28 RX1, Cond.instantiable RX1 5, Cond.initialized RX1, Cond.fieldLink RX2 31 "DrumTalk$Village" "inTheAir" "LDrumTalk$Sounds;", Cond.instanceMethod yX1_init, Cond.code yX1_init cX1_init 1 none, Cond.methodLink RX1 3 objectInit, Cond.fieldLink RX1 9 "DrumTalk$Sounds" "phrases" "[I", Cond.fieldLink RX1 15 "DrumTalk$Sounds" "firstBeats" "[I", Cond.fieldLink RX1 18 "DrumTalk$Sounds" "lastBeats" "[I", Cond.fieldLink RX1 21 "DrumTalk$Sounds" "drowned" "[I", Cond.methodLink RX2 35 yJ7_fill_53178, Cond.static yJ7_fill_53178, Cond.initialized RJ7, Cond.code yJ7_fill_53178 cJ7_fill_53178 4 none]
def wsX3_init : List Cond := .code yX3_init cX3_init 1 none :: ((wsX3_init_r1 ++ wsX3_init_r2) ++ wsX00 ++ wsX30 ++ wsX20 ++ wsX10)
def wsX3_isPlace : List Cond := .code yX3_isPlace cX3_isPlace 1 (some .boolean) :: ([])
def wsX3_isDrum : List Cond := .code yX3_isDrum cX3_isDrum 1 (some .boolean) :: ([])
def wsX3_found_r1 : List Cond := [Cond.classLink RX3 26 "java/lang/IllegalArgumentException", Cond.initialized "java/lang/IllegalArgumentException", Cond.classLink RX3 41 "java/lang/IllegalStateException", Cond.initialized "java/lang/IllegalStateException", Cond.fieldLink RX3 12 "DrumTalk" "land" "LDrumTalk$Land;", Cond.fieldLink RX3 33 "DrumTalk$Land" "villageCount" "I", Cond.methodLink RX3 19 yX3_isPlace, Cond.static yX3_isPlace, Cond.initialized RX3, Cond.code yX3_isPlace cX3_isPlace 1 (some .boolean), Cond.methodLink RX3 23 yX3_isDrum, Cond.static yX3_isDrum, Cond.code yX3_isDrum cX3_isDrum 1 (some .boolean), Cond.methodLink RX3 37 yX0_hasVillageAt, Cond.instanceMethod yX0_hasVillageAt, Cond.selects RX0 yX0_hasVillageAt yX0_hasVillageAt, Cond.initialized RX0, Cond.code yX0_hasVillageAt cX0_hasVillageAt 4 (some .boolean), Cond.fieldLink RX0 25 "DrumTalk$Land" "villageCount" "I", Cond.fieldLink RX0 11 "DrumTalk$Land" "villages" "[LDrumTalk$Village;", Cond.fieldLink RX0 48 "DrumTalk$Village" "x" "I", Cond.fieldLink RX0 51 "DrumTalk$Village" "y" "I", Cond.methodLink RX3 46 yX0_addVillage, Cond.instanceMethod yX0_addVillage]
def wsX3_found_r2 : List Cond := [Cond.selects RX0 yX0_addVillage yX0_addVillage, Cond.code yX0_addVillage cX0_addVillage 5 (some .int), Cond.fieldLink RX0 54 "DrumTalk$Village" "drum" "I"]
def wsX3_found : List Cond := .code yX3_found cX3_found 4 (some .int) :: ((wsX3_found_r1 ++ wsX3_found_r2) ++ wsX30 ++ wsX00 ++ wsX20 ++ (vx_atS RX3 30 "java/lang/IllegalArgumentException" ["java/lang/RuntimeException", "java/lang/Exception"]).filter goodWord ++ (vx_atS RX3 45 "java/lang/IllegalStateException" ["java/lang/RuntimeException", "java/lang/Exception"]).filter goodWord)
def wsX3_checkVillage : List Cond := .code yX3_checkVillage cX3_checkVillage 2 none :: ([.classLink RX3 107 "java/lang/IndexOutOfBoundsException", .initialized "java/lang/IndexOutOfBoundsException", .fieldLink RX3 12 "DrumTalk" "land" "LDrumTalk$Land;", .fieldLink RX3 33 "DrumTalk$Land" "villageCount" "I"] ++ wsX30 ++ wsX00 ++ (vx_atS RX3 111 "java/lang/IndexOutOfBoundsException" ["java/lang/RuntimeException", "java/lang/Exception"]).filter goodWord)
def wsX3_villageOf : List Cond := .code yX3_villageOf cX3_villageOf 2 (some (.object "DrumTalk$Village")) :: ([.fieldLink RX3 12 "DrumTalk" "land" "LDrumTalk$Land;", .fieldLink RX3 152 "DrumTalk$Land" "villages" "[LDrumTalk$Village;", .methodLink RX3 137 yX3_checkVillage, .instanceMethod yX3_checkVillage, .selects RX3 yX3_checkVillage yX3_checkVillage, .initialized RX3, .code yX3_checkVillage cX3_checkVillage 2 none, .classLink RX3 107 "java/lang/IndexOutOfBoundsException", .initialized "java/lang/IndexOutOfBoundsException", .fieldLink RX3 33 "DrumTalk$Land" "villageCount" "I"] ++ wsX30 ++ wsX00 ++ (vx_atS RX3 111 "java/lang/IndexOutOfBoundsException" ["java/lang/RuntimeException", "java/lang/Exception"]).filter goodWord)
def wsX3_setDrum : List Cond := .code yX3_setDrum cX3_setDrum 5 (some .int) :: ([.classLink RX3 26 "java/lang/IllegalArgumentException", .initialized "java/lang/IllegalArgumentException", .fieldLink RX3 56 "DrumTalk$Village" "drum" "I", .methodLink RX3 50 yX3_villageOf, .instanceMethod yX3_villageOf, .selects RX3 yX3_villageOf yX3_villageOf, .initialized RX3, .code yX3_villageOf cX3_villageOf 2 (some (.object "DrumTalk$Village")), .fieldLink RX3 12 "DrumTalk" "land" "LDrumTalk$Land;", .fieldLink RX3 152 "DrumTalk$Land" "villages" "[LDrumTalk$Village;", .methodLink RX3 137 yX3_checkVillage, .instanceMethod yX3_checkVillage, .selects RX3 yX3_checkVillage yX3_checkVillage, .code yX3_checkVillage cX3_checkVillage 2 none, .classLink RX3 107 "java/lang/IndexOutOfBoundsException", .initialized "java/lang/IndexOutOfBoundsException", .fieldLink RX3 33 "DrumTalk$Land" "villageCount" "I", .methodLink RX3 23 yX3_isDrum, .static yX3_isDrum, .code yX3_isDrum cX3_isDrum 1 (some .boolean)] ++ wsX20 ++ wsX30 ++ wsX00 ++ (vx_atS RX3 30 "java/lang/IllegalArgumentException" ["java/lang/RuntimeException", "java/lang/Exception"]).filter goodWord ++ (vx_atS RX3 111 "java/lang/IndexOutOfBoundsException" ["java/lang/RuntimeException", "java/lang/Exception"]).filter goodWord)
def wsX3_setCliff : List Cond := .code yX3_setCliff cX3_setCliff 5 (some .boolean) :: ([.fieldLink RX3 61 "DrumTalk$Village" "cliff" "Z", .methodLink RX3 50 yX3_villageOf, .instanceMethod yX3_villageOf, .selects RX3 yX3_villageOf yX3_villageOf, .initialized RX3, .code yX3_villageOf cX3_villageOf 2 (some (.object "DrumTalk$Village")), .fieldLink RX3 12 "DrumTalk" "land" "LDrumTalk$Land;", .fieldLink RX3 152 "DrumTalk$Land" "villages" "[LDrumTalk$Village;", .methodLink RX3 137 yX3_checkVillage, .instanceMethod yX3_checkVillage, .selects RX3 yX3_checkVillage yX3_checkVillage, .code yX3_checkVillage cX3_checkVillage 2 none, .classLink RX3 107 "java/lang/IndexOutOfBoundsException", .initialized "java/lang/IndexOutOfBoundsException", .fieldLink RX3 33 "DrumTalk$Land" "villageCount" "I"] ++ wsX20 ++ wsX30 ++ wsX00 ++ (vx_atS RX3 111 "java/lang/IndexOutOfBoundsException" ["java/lang/RuntimeException", "java/lang/Exception"]).filter goodWord)
def wsX3_setAwake : List Cond := .code yX3_setAwake cX3_setAwake 6 (some .int) :: ([.classLink RX3 26 "java/lang/IllegalArgumentException", .initialized "java/lang/IllegalArgumentException", .fieldLink RX3 67 "DrumTalk$Village" "awakeBeats" "I", .fieldLink RX3 70 "DrumTalk$Village" "awakeFrom" "I", .methodLink RX3 50 yX3_villageOf, .instanceMethod yX3_villageOf, .selects RX3 yX3_villageOf yX3_villageOf, .initialized RX3, .code yX3_villageOf cX3_villageOf 2 (some (.object "DrumTalk$Village")), .fieldLink RX3 12 "DrumTalk" "land" "LDrumTalk$Land;", .fieldLink RX3 152 "DrumTalk$Land" "villages" "[LDrumTalk$Village;", .methodLink RX3 137 yX3_checkVillage, .instanceMethod yX3_checkVillage, .selects RX3 yX3_checkVillage yX3_checkVillage, .code yX3_checkVillage cX3_checkVillage 2 none, .classLink RX3 107 "java/lang/IndexOutOfBoundsException", .initialized "java/lang/IndexOutOfBoundsException", .fieldLink RX3 33 "DrumTalk$Land" "villageCount" "I"] ++ wsX20 ++ wsX30 ++ wsX00 ++ (vx_atS RX3 30 "java/lang/IllegalArgumentException" ["java/lang/RuntimeException", "java/lang/Exception"]).filter goodWord ++ (vx_atS RX3 111 "java/lang/IndexOutOfBoundsException" ["java/lang/RuntimeException", "java/lang/Exception"]).filter goodWord)
def wsX3_countTones : List Cond := .code yX3_countTones cX3_countTones 4 (some .int) :: ([])
def wsX3_phrase : List Cond := .code yX3_phrase cX3_phrase 3 (some .int) :: ([.classLink RX3 26 "java/lang/IllegalArgumentException", .initialized "java/lang/IllegalArgumentException", .classLink RX3 41 "java/lang/IllegalStateException", .initialized "java/lang/IllegalStateException", .fieldLink RX3 12 "DrumTalk" "land" "LDrumTalk$Land;", .fieldLink RX3 79 "DrumTalk$Land" "phraseCount" "I", .methodLink RX3 73 yX3_countTones, .static yX3_countTones, .initialized RX3, .code yX3_countTones cX3_countTones 4 (some .int), .methodLink RX3 82 yX0_hasPhrase, .instanceMethod yX0_hasPhrase, .selects RX0 yX0_hasPhrase yX0_hasPhrase, .initialized RX0, .code yX0_hasPhrase cX0_hasPhrase 3 (some .boolean), .fieldLink RX0 39 "DrumTalk$Land" "phraseCount" "I", .fieldLink RX0 17 "DrumTalk$Land" "tones" "[I", .methodLink RX3 87 yX0_addPhrase, .instanceMethod yX0_addPhrase, .selects RX0 yX0_addPhrase yX0_addPhrase, .code yX0_addPhrase cX0_addPhrase 3 (some .int), .fieldLink RX0 21 "DrumTalk$Land" "toneCounts" "[I"] ++ wsX30 ++ wsX00 ++ (vx_atS RX3 30 "java/lang/IllegalArgumentException" ["java/lang/RuntimeException", "java/lang/Exception"]).filter goodWord ++ (vx_atS RX3 45 "java/lang/IllegalStateException" ["java/lang/RuntimeException", "java/lang/Exception"]).filter goodWord)
def wsX3_checkPhrase : List Cond := .code yX3_checkPhrase cX3_checkPhrase 2 none :: ([.classLink RX3 107 "java/lang/IndexOutOfBoundsException", .initialized "java/lang/IndexOutOfBoundsException", .fieldLink RX3 12 "DrumTalk" "land" "LDrumTalk$Land;", .fieldLink RX3 79 "DrumTalk$Land" "phraseCount" "I"] ++ wsX30 ++ wsX00 ++ (vx_atS RX3 111 "java/lang/IndexOutOfBoundsException" ["java/lang/RuntimeException", "java/lang/Exception"]).filter goodWord)
def wsX3_tell_r1 : List Cond := [Cond.classLink RX3 41 "java/lang/IllegalStateException", Cond.initialized "java/lang/IllegalStateException", Cond.fieldLink RX3 95 "DrumTalk$Village" "queued" "I", Cond.fieldLink RX3 12 "DrumTalk" "land" "LDrumTalk$Land;", Cond.fieldLink RX3 100 "DrumTalk$Land" "beat" "I", Cond.methodLink RX3 50 yX3_villageOf, Cond.instanceMethod yX3_villageOf, Cond.selects RX3 yX3_villageOf yX3_villageOf, Cond.initialized RX3, Cond.code yX3_villageOf cX3_villageOf 2 (some (.object "DrumTalk$Village")), Cond.fieldLink RX3 152 "DrumTalk$Land" "villages" "[LDrumTalk$Village;", Cond.methodLink RX3 137 yX3_checkVillage, Cond.instanceMethod yX3_checkVillage, Cond.selects RX3 yX3_checkVillage yX3_checkVillage, Cond.code yX3_checkVillage cX3_checkVillage 2 none, Cond.classLink RX3 107 "java/lang/IndexOutOfBoundsException", Cond.initialized "java/lang/IndexOutOfBoundsException", Cond.fieldLink RX3 33 "DrumTalk$Land" "villageCount" "I", Cond.methodLink RX3 91 yX3_checkPhrase, Cond.instanceMethod yX3_checkPhrase, Cond.selects RX3 yX3_checkPhrase yX3_checkPhrase, Cond.code yX3_checkPhrase cX3_checkPhrase 2 none, Cond.fieldLink RX3 79 "DrumTalk$Land" "phraseCount" "I", Cond.methodLink RX3 103 yX2_takeIn]
def wsX3_tell_r2 : List Cond := [Cond.instanceMethod yX2_takeIn, Cond.selects RX2 yX2_takeIn yX2_takeIn, Cond.initialized RX2, Cond.code yX2_takeIn cX2_takeIn 3 none, Cond.fieldLink RX2 25 "DrumTalk$Village" "knownSince" "[I", Cond.fieldLink RX2 63 "DrumTalk$Village" "queued" "I", Cond.fieldLink RX2 21 "DrumTalk$Village" "queue" "[I"]
def wsX3_tell : List Cond := .code yX3_tell cX3_tell 4 (some .int) :: ((wsX3_tell_r1 ++ wsX3_tell_r2) ++ wsX20 ++ wsX30 ++ wsX00 ++ (vx_atS RX3 45 "java/lang/IllegalStateException" ["java/lang/RuntimeException", "java/lang/Exception"]).filter goodWord ++ (vx_atS RX3 111 "java/lang/IndexOutOfBoundsException" ["java/lang/RuntimeException", "java/lang/Exception"]).filter goodWord)
def wsX3_village_r1 : List Cond := [Cond.classLink RX3 107 "java/lang/IndexOutOfBoundsException", Cond.initialized "java/lang/IndexOutOfBoundsException", Cond.fieldLink RX3 12 "DrumTalk" "land" "LDrumTalk$Land;", Cond.fieldLink RX3 100 "DrumTalk$Land" "beat" "I", Cond.methodLink RX3 50 yX3_villageOf, Cond.instanceMethod yX3_villageOf, Cond.selects RX3 yX3_villageOf yX3_villageOf, Cond.initialized RX3, Cond.code yX3_villageOf cX3_villageOf 2 (some (.object "DrumTalk$Village")), Cond.fieldLink RX3 152 "DrumTalk$Land" "villages" "[LDrumTalk$Village;", Cond.methodLink RX3 137 yX3_checkVillage, Cond.instanceMethod yX3_checkVillage, Cond.selects RX3 yX3_checkVillage yX3_checkVillage, Cond.code yX3_checkVillage cX3_checkVillage 2 none, Cond.fieldLink RX3 33 "DrumTalk$Land" "villageCount" "I", Cond.methodLink RX3 112 yX2_figure, Cond.instanceMethod yX2_figure, Cond.selects RX2 yX2_figure yX2_figure, Cond.initialized RX2, Cond.code yX2_figure cX2_figure 3 (some .int), Cond.fieldLink RX2 41 "DrumTalk$Village" "x" "I", Cond.fieldLink RX2 44 "DrumTalk$Village" "y" "I", Cond.fieldLink RX2 9 "DrumTalk$Village" "drum" "I", Cond.fieldLink RX2 47 "DrumTalk$Village" "cliff" "Z"]
def wsX3_village_r2 : List Cond := [Cond.fieldLink RX2 18 "DrumTalk$Village" "drumming" "I", Cond.fieldLink RX2 54 "DrumTalk$Village" "beatsLeft" "I", Cond.fieldLink RX2 63 "DrumTalk$Village" "queued" "I", Cond.fieldLink RX2 70 "DrumTalk$Village" "drowned" "I", Cond.methodLink RX2 73 yX2_isAwake, Cond.instanceMethod yX2_isAwake, Cond.selects RX2 yX2_isAwake yX2_isAwake, Cond.code yX2_isAwake cX2_isAwake 2 (some .boolean), Cond.fieldLink RX2 51 "DrumTalk$Village" "awakeFrom" "I", Cond.fieldLink RX2 15 "DrumTalk$Village" "awakeBeats" "I", Cond.methodLink RX2 81 yJ9_floorMod_7cf53, Cond.static yJ9_floorMod_7cf53, Cond.initialized RJ9, Cond.code yJ9_floorMod_7cf53 cJ9_floorMod_7cf53 3 (some .int), Cond.methodLink RX2 77 yX2_phrasesKnown, Cond.instanceMethod yX2_phrasesKnown, Cond.selects RX2 yX2_phrasesKnown yX2_phrasesKnown, Cond.code yX2_phrasesKnown cX2_phrasesKnown 3 (some .int), Cond.methodLink RX2 95 yX2_isKnown, Cond.instanceMethod yX2_isKnown, Cond.selects RX2 yX2_isKnown yX2_isKnown, Cond.code yX2_isKnown cX2_isKnown 2 (some .boolean), Cond.fieldLink RX2 25 "DrumTalk$Village" "knownSince" "[I"]
def wsX3_village : List Cond := .code yX3_village cX3_village 4 (some .int) :: ((wsX3_village_r1 ++ wsX3_village_r2) ++ wsX30 ++ wsX00 ++ wsX20 ++ (vx_atS RX3 111 "java/lang/IndexOutOfBoundsException" ["java/lang/RuntimeException", "java/lang/Exception"]).filter goodWord)
def wsX3_queue : List Cond := .code yX3_queue cX3_queue 4 (some .int) :: ([.classLink RX3 107 "java/lang/IndexOutOfBoundsException", .initialized "java/lang/IndexOutOfBoundsException", .fieldLink RX3 95 "DrumTalk$Village" "queued" "I", .fieldLink RX3 117 "DrumTalk$Village" "queue" "[I", .methodLink RX3 50 yX3_villageOf, .instanceMethod yX3_villageOf, .selects RX3 yX3_villageOf yX3_villageOf, .initialized RX3, .code yX3_villageOf cX3_villageOf 2 (some (.object "DrumTalk$Village")), .fieldLink RX3 12 "DrumTalk" "land" "LDrumTalk$Land;", .fieldLink RX3 152 "DrumTalk$Land" "villages" "[LDrumTalk$Village;", .methodLink RX3 137 yX3_checkVillage, .instanceMethod yX3_checkVillage, .selects RX3 yX3_checkVillage yX3_checkVillage, .code yX3_checkVillage cX3_checkVillage 2 none, .fieldLink RX3 33 "DrumTalk$Land" "villageCount" "I"] ++ wsX20 ++ wsX30 ++ wsX00 ++ (vx_atS RX3 111 "java/lang/IndexOutOfBoundsException" ["java/lang/RuntimeException", "java/lang/Exception"]).filter goodWord)
def wsX3_knows : List Cond := .code yX3_knows cX3_knows 4 (some .int) :: ([.fieldLink RX3 121 "DrumTalk$Village" "knownSince" "[I", .methodLink RX3 50 yX3_villageOf, .instanceMethod yX3_villageOf, .selects RX3 yX3_villageOf yX3_villageOf, .initialized RX3, .code yX3_villageOf cX3_villageOf 2 (some (.object "DrumTalk$Village")), .fieldLink RX3 12 "DrumTalk" "land" "LDrumTalk$Land;", .fieldLink RX3 152 "DrumTalk$Land" "villages" "[LDrumTalk$Village;", .methodLink RX3 137 yX3_checkVillage, .instanceMethod yX3_checkVillage, .selects RX3 yX3_checkVillage yX3_checkVillage, .code yX3_checkVillage cX3_checkVillage 2 none, .classLink RX3 107 "java/lang/IndexOutOfBoundsException", .initialized "java/lang/IndexOutOfBoundsException", .fieldLink RX3 33 "DrumTalk$Land" "villageCount" "I", .methodLink RX3 91 yX3_checkPhrase, .instanceMethod yX3_checkPhrase, .selects RX3 yX3_checkPhrase yX3_checkPhrase, .code yX3_checkPhrase cX3_checkPhrase 2 none, .fieldLink RX3 79 "DrumTalk$Land" "phraseCount" "I"] ++ wsX20 ++ wsX30 ++ wsX00 ++ (vx_atS RX3 111 "java/lang/IndexOutOfBoundsException" ["java/lang/RuntimeException", "java/lang/Exception"]).filter goodWord)
def wsX3_sounds : List Cond := .code yX3_sounds cX3_sounds 2 (some .int) :: ([.fieldLink RX3 124 "DrumTalk$Village" "inTheAir" "LDrumTalk$Sounds;", .fieldLink RX3 12 "DrumTalk" "land" "LDrumTalk$Land;", .fieldLink RX3 100 "DrumTalk$Land" "beat" "I", .methodLink RX3 50 yX3_villageOf, .instanceMethod yX3_villageOf, .selects RX3 yX3_villageOf yX3_villageOf, .initialized RX3, .code yX3_villageOf cX3_villageOf 2 (some (.object "DrumTalk$Village")), .fieldLink RX3 152 "DrumTalk$Land" "villages" "[LDrumTalk$Village;", .methodLink RX3 137 yX3_checkVillage, .instanceMethod yX3_checkVillage, .selects RX3 yX3_checkVillage yX3_checkVillage, .code yX3_checkVillage cX3_checkVillage 2 none, .classLink RX3 107 "java/lang/IndexOutOfBoundsException", .initialized "java/lang/IndexOutOfBoundsException", .fieldLink RX3 33 "DrumTalk$Land" "villageCount" "I", .methodLink RX3 128 yX1_lasting, .instanceMethod yX1_lasting, .selects RX1 yX1_lasting yX1_lasting, .initialized RX1, .code yX1_lasting cX1_lasting 4 (some .int), .fieldLink RX1 24 "DrumTalk$Sounds" "size" "I", .fieldLink RX1 15 "DrumTalk$Sounds" "firstBeats" "[I"] ++ wsX20 ++ wsX30 ++ wsX00 ++ wsX10 ++ (vx_atS RX3 111 "java/lang/IndexOutOfBoundsException" ["java/lang/RuntimeException", "java/lang/Exception"]).filter goodWord)
def wsX3_count_r1 : List Cond := [Cond.classLink RX3 107 "java/lang/IndexOutOfBoundsException", Cond.initialized "java/lang/IndexOutOfBoundsException", Cond.fieldLink RX3 12 "DrumTalk" "land" "LDrumTalk$Land;", Cond.methodLink RX3 135 yX0_figure, Cond.instanceMethod yX0_figure, Cond.selects RX0 yX0_figure yX0_figure, Cond.initialized RX0, Cond.code yX0_figure cX0_figure 2 (some .int), Cond.fieldLink RX0 42 "DrumTalk$Land" "beat" "I", Cond.fieldLink RX0 25 "DrumTalk$Land" "villageCount" "I", Cond.fieldLink RX0 39 "DrumTalk$Land" "phraseCount" "I", Cond.fieldLink RX0 45 "DrumTalk$Land" "drummings" "I", Cond.methodLink RX0 57 yX0_drummers, Cond.instanceMethod yX0_drummers, Cond.selects RX0 yX0_drummers yX0_drummers, Cond.code yX0_drummers cX0_drummers 3 (some .int), Cond.fieldLink RX0 11 "DrumTalk$Land" "villages" "[LDrumTalk$Village;", Cond.methodLink RX0 70 yX2_isDrumming, Cond.instanceMethod yX2_isDrumming, Cond.selects RX2 yX2_isDrumming yX2_isDrumming, Cond.initialized RX2, Cond.code yX2_isDrumming cX2_isDrumming 1 (some .boolean), Cond.fieldLink RX2 18 "DrumTalk$Village" "drumming" "I", Cond.methodLink RX0 61 yX0_soundsInTheAir]
def wsX3_count_r2 : List Cond := [Cond.instanceMethod yX0_soundsInTheAir, Cond.selects RX0 yX0_soundsInTheAir yX0_soundsInTheAir, Cond.code yX0_soundsInTheAir cX0_soundsInTheAir 3 (some .int), Cond.fieldLink RX0 74 "DrumTalk$Village" "inTheAir" "LDrumTalk$Sounds;", Cond.fieldLink RX0 78 "DrumTalk$Sounds" "size" "I", Cond.methodLink RX0 64 yX0_soundsDrowned, Cond.instanceMethod yX0_soundsDrowned, Cond.selects RX0 yX0_soundsDrowned yX0_soundsDrowned, Cond.code yX0_soundsDrowned cX0_soundsDrowned 3 (some .int), Cond.fieldLink RX0 83 "DrumTalk$Village" "drowned" "I", Cond.methodLink RX0 67 yX0_knownPairs, Cond.instanceMethod yX0_knownPairs, Cond.selects RX0 yX0_knownPairs yX0_knownPairs, Cond.code yX0_knownPairs cX0_knownPairs 3 (some .int), Cond.methodLink RX0 86 yX2_phrasesKnown, Cond.instanceMethod yX2_phrasesKnown, Cond.selects RX2 yX2_phrasesKnown yX2_phrasesKnown, Cond.code yX2_phrasesKnown cX2_phrasesKnown 3 (some .int), Cond.methodLink RX2 95 yX2_isKnown, Cond.instanceMethod yX2_isKnown, Cond.selects RX2 yX2_isKnown yX2_isKnown, Cond.code yX2_isKnown cX2_isKnown 2 (some .boolean), Cond.fieldLink RX2 25 "DrumTalk$Village" "knownSince" "[I"]
def wsX3_count : List Cond := .code yX3_count cX3_count 2 (some .int) :: ((wsX3_count_r1 ++ wsX3_count_r2) ++ wsX30 ++ wsX00 ++ wsX20 ++ wsX10 ++ (vx_atS RX3 111 "java/lang/IndexOutOfBoundsException" ["java/lang/RuntimeException", "java/lang/Exception"]).filter goodWord)
def wsX3_way_r1 : List Cond := [Cond.fieldLink RX3 12 "DrumTalk" "land" "LDrumTalk$Land;", Cond.methodLink RX3 137 yX3_checkVillage, Cond.instanceMethod yX3_checkVillage, Cond.selects RX3 yX3_checkVillage yX3_checkVillage, Cond.initialized RX3, Cond.code yX3_checkVillage cX3_checkVillage 2 none, Cond.classLink RX3 107 "java/lang/IndexOutOfBoundsException", Cond.initialized "java/lang/IndexOutOfBoundsException", Cond.fieldLink RX3 33 "DrumTalk$Land" "villageCount" "I", Cond.methodLink RX3 140 yX0_hearersOf, Cond.instanceMethod yX0_hearersOf, Cond.selects RX0 yX0_hearersOf yX0_hearersOf, Cond.initialized RX0, Cond.code yX0_hearersOf cX0_hearersOf 5 (some .int), Cond.fieldLink RX0 25 "DrumTalk$Land" "villageCount" "I", Cond.fieldLink RX0 11 "DrumTalk$Land" "villages" "[LDrumTalk$Village;", Cond.methodLink RX0 93 yX2_distanceTo, Cond.instanceMethod yX2_distanceTo, Cond.selects RX2 yX2_distanceTo yX2_distanceTo, Cond.initialized RX2, Cond.code yX2_distanceTo cX2_distanceTo 2 (some .int), Cond.fieldLink RX2 41 "DrumTalk$Village" "x" "I", Cond.methodLink RX2 91 Lib.Math.abs.name, Cond.static Lib.Math.abs.name]
def wsX3_way_r2 : List Cond := [Cond.initialized "java/lang/Math", Cond.code Lib.Math.abs.name Lib.Math.abs.code 1 (some .int), Cond.fieldLink RX2 44 "DrumTalk$Village" "y" "I", Cond.methodLink RX0 97 yX2_isHeardAt, Cond.instanceMethod yX2_isHeardAt, Cond.selects RX2 yX2_isHeardAt yX2_isHeardAt, Cond.code yX2_isHeardAt cX2_isHeardAt 2 (some .boolean), Cond.fieldLink RX2 9 "DrumTalk$Village" "drum" "I"]
def wsX3_way : List Cond := .code yX3_way cX3_way 5 (some .int) :: ((wsX3_way_r1 ++ wsX3_way_r2) ++ wsX30 ++ wsX00 ++ wsX20 ++ (vx_atS RX3 111 "java/lang/IndexOutOfBoundsException" ["java/lang/RuntimeException", "java/lang/Exception"]).filter goodWord)
def wsX3_pass_r1 : List Cond := [Cond.classLink RX3 26 "java/lang/IllegalArgumentException", Cond.initialized "java/lang/IllegalArgumentException", Cond.fieldLink RX3 12 "DrumTalk" "land" "LDrumTalk$Land;", Cond.methodLink RX3 145 yX0_letGo, Cond.instanceMethod yX0_letGo, Cond.selects RX0 yX0_letGo yX0_letGo, Cond.initialized RX0, Cond.code yX0_letGo cX0_letGo 4 (some .int), Cond.fieldLink RX0 42 "DrumTalk$Land" "beat" "I", Cond.methodLink RX0 100 yX0_isQuiet, Cond.instanceMethod yX0_isQuiet, Cond.selects RX0 yX0_isQuiet yX0_isQuiet, Cond.code yX0_isQuiet cX0_isQuiet 3 (some .boolean), Cond.fieldLink RX0 25 "DrumTalk$Land" "villageCount" "I", Cond.fieldLink RX0 11 "DrumTalk$Land" "villages" "[LDrumTalk$Village;", Cond.fieldLink RX0 106 "DrumTalk$Village" "queued" "I", Cond.fieldLink RX0 74 "DrumTalk$Village" "inTheAir" "LDrumTalk$Sounds;", Cond.fieldLink RX0 78 "DrumTalk$Sounds" "size" "I", Cond.methodLink RX0 70 yX2_isDrumming, Cond.instanceMethod yX2_isDrumming, Cond.selects RX2 yX2_isDrumming yX2_isDrumming, Cond.initialized RX2, Cond.code yX2_isDrumming cX2_isDrumming 1 (some .boolean), Cond.fieldLink RX2 18 "DrumTalk$Village" "drumming" "I"]
def wsX3_pass_r2 : List Cond := [Cond.methodLink RX0 103 yX0_goBeat, Cond.instanceMethod yX0_goBeat, Cond.selects RX0 yX0_goBeat yX0_goBeat, Cond.code yX0_goBeat cX0_goBeat 3 (some .int), Cond.methodLink RX0 109 yX2_isReady, Cond.instanceMethod yX2_isReady, Cond.selects RX2 yX2_isReady yX2_isReady, Cond.code yX2_isReady cX2_isReady 2 (some .boolean), Cond.fieldLink RX2 63 "DrumTalk$Village" "queued" "I", Cond.methodLink RX2 87 yX2_isDrumming, Cond.methodLink RX2 73 yX2_isAwake, Cond.instanceMethod yX2_isAwake, Cond.selects RX2 yX2_isAwake yX2_isAwake, Cond.code yX2_isAwake cX2_isAwake 2 (some .boolean), Cond.fieldLink RX2 51 "DrumTalk$Village" "awakeFrom" "I", Cond.fieldLink RX2 15 "DrumTalk$Village" "awakeBeats" "I", Cond.methodLink RX2 81 yJ9_floorMod_7cf53, Cond.static yJ9_floorMod_7cf53, Cond.initialized RJ9, Cond.code yJ9_floorMod_7cf53 cJ9_floorMod_7cf53 3 (some .int), Cond.methodLink RX0 112 yX0_beginDrumming, Cond.instanceMethod yX0_beginDrumming, Cond.selects RX0 yX0_beginDrumming yX0_beginDrumming, Cond.code yX0_beginDrumming cX0_beginDrumming 9 none]
def wsX3_pass_r3 : List Cond := [Cond.fieldLink RX0 39 "DrumTalk$Land" "phraseCount" "I", Cond.fieldLink RX0 21 "DrumTalk$Land" "toneCounts" "[I", Cond.fieldLink RX0 129 "DrumTalk$Village" "drumming" "I", Cond.fieldLink RX0 132 "DrumTalk$Village" "beatsLeft" "I", Cond.fieldLink RX0 45 "DrumTalk$Land" "drummings" "I", Cond.fieldLink RX0 139 "DrumTalk$Village" "cliff" "Z", Cond.methodLink RX0 126 yX2_takeFromQueue, Cond.instanceMethod yX2_takeFromQueue, Cond.selects RX2 yX2_takeFromQueue yX2_takeFromQueue, Cond.code yX2_takeFromQueue cX2_takeFromQueue 2 (some .int), Cond.fieldLink RX2 21 "DrumTalk$Village" "queue" "[I", Cond.methodLink RX2 57 arraycopyName, Cond.native arraycopyName, Cond.static arraycopyName, Cond.initialized "java/lang/System", Cond.methodLink RX0 93 yX2_distanceTo, Cond.instanceMethod yX2_distanceTo, Cond.selects RX2 yX2_distanceTo yX2_distanceTo, Cond.code yX2_distanceTo cX2_distanceTo 2 (some .int), Cond.fieldLink RX2 41 "DrumTalk$Village" "x" "I", Cond.methodLink RX2 91 Lib.Math.abs.name, Cond.static Lib.Math.abs.name, Cond.initialized "java/lang/Math", Cond.code Lib.Math.abs.name Lib.Math.abs.code 1 (some .int)]
def wsX3_pass_r4 : List Cond := [Cond.fieldLink RX2 44 "DrumTalk$Village" "y" "I", Cond.methodLink RX0 97 yX2_isHeardAt, Cond.instanceMethod yX2_isHeardAt, Cond.selects RX2 yX2_isHeardAt yX2_isHeardAt, Cond.code yX2_isHeardAt cX2_isHeardAt 2 (some .boolean), Cond.fieldLink RX2 9 "DrumTalk$Village" "drum" "I", Cond.methodLink RX0 135 yX1_add, Cond.instanceMethod yX1_add, Cond.selects RX1 yX1_add yX1_add, Cond.initialized RX1, Cond.code yX1_add cX1_add 4 none, Cond.fieldLink RX1 24 "DrumTalk$Sounds" "size" "I", Cond.fieldLink RX1 9 "DrumTalk$Sounds" "phrases" "[I", Cond.fieldLink RX1 15 "DrumTalk$Sounds" "firstBeats" "[I", Cond.fieldLink RX1 18 "DrumTalk$Sounds" "lastBeats" "[I", Cond.fieldLink RX1 21 "DrumTalk$Sounds" "drowned" "[I", Cond.methodLink RX0 116 yX2_drownIfDisturbed, Cond.instanceMethod yX2_drownIfDisturbed, Cond.selects RX2 yX2_drownIfDisturbed yX2_drownIfDisturbed, Cond.code yX2_drownIfDisturbed cX2_drownIfDisturbed 2 none, Cond.fieldLink RX2 31 "DrumTalk$Village" "inTheAir" "LDrumTalk$Sounds;", Cond.methodLink RX2 98 yX1_lasting, Cond.instanceMethod yX1_lasting, Cond.selects RX1 yX1_lasting yX1_lasting]
def wsX3_pass_r5 : List Cond := [Cond.code yX1_lasting cX1_lasting 4 (some .int), Cond.methodLink RX2 101 yX1_drown, Cond.instanceMethod yX1_drown, Cond.selects RX1 yX1_drown yX1_drown, Cond.code yX1_drown cX1_drown 3 none, Cond.methodLink RX0 119 yX2_endSounds, Cond.instanceMethod yX2_endSounds, Cond.selects RX2 yX2_endSounds yX2_endSounds, Cond.code yX2_endSounds cX2_endSounds 5 (some .int), Cond.fieldLink RX2 105 "DrumTalk$Sounds" "size" "I", Cond.fieldLink RX2 108 "DrumTalk$Sounds" "lastBeats" "[I", Cond.fieldLink RX2 115 "DrumTalk$Sounds" "drowned" "[I", Cond.fieldLink RX2 70 "DrumTalk$Village" "drowned" "I", Cond.fieldLink RX2 117 "DrumTalk$Sounds" "phrases" "[I", Cond.methodLink RX2 111 yX1_move, Cond.instanceMethod yX1_move, Cond.selects RX1 yX1_move yX1_move, Cond.code yX1_move cX1_move 3 none, Cond.methodLink RX2 95 yX2_isKnown, Cond.instanceMethod yX2_isKnown, Cond.selects RX2 yX2_isKnown yX2_isKnown, Cond.code yX2_isKnown cX2_isKnown 2 (some .boolean), Cond.fieldLink RX2 25 "DrumTalk$Village" "knownSince" "[I", Cond.methodLink RX2 120 yX2_takeIn]
def wsX3_pass_r6 : List Cond := [Cond.instanceMethod yX2_takeIn, Cond.selects RX2 yX2_takeIn yX2_takeIn, Cond.code yX2_takeIn cX2_takeIn 3 none, Cond.methodLink RX0 123 yX2_endDrumBeat, Cond.instanceMethod yX2_endDrumBeat, Cond.selects RX2 yX2_endDrumBeat yX2_endDrumBeat, Cond.code yX2_endDrumBeat cX2_endDrumBeat 1 none, Cond.fieldLink RX2 54 "DrumTalk$Village" "beatsLeft" "I"]
def wsX3_pass : List Cond := .code yX3_pass cX3_pass 2 (some .int) :: ((wsX3_pass_r1 ++ (wsX3_pass_r2 ++ (wsX3_pass_r3 ++ (wsX3_pass_r4 ++ (wsX3_pass_r5 ++ wsX3_pass_r6))))) ++ wsX30 ++ wsX00 ++ wsX20 ++ wsX10 ++ (vx_atS RX3 30 "java/lang/IllegalArgumentException" ["java/lang/RuntimeException", "java/lang/Exception"]).filter goodWord)
def wsX3_reaches_r1 : List Cond := [Cond.fieldLink RX3 16 "DrumTalk" "trial" "LDrumTalk$Land;", Cond.fieldLink RX3 12 "DrumTalk" "land" "LDrumTalk$Land;", Cond.fieldLink RX3 152 "DrumTalk$Land" "villages" "[LDrumTalk$Village;", Cond.methodLink RX3 137 yX3_checkVillage, Cond.instanceMethod yX3_checkVillage, Cond.selects RX3 yX3_checkVillage yX3_checkVillage, Cond.initialized RX3, Cond.code yX3_checkVillage cX3_checkVillage 2 none, Cond.classLink RX3 107 "java/lang/IndexOutOfBoundsException", Cond.initialized "java/lang/IndexOutOfBoundsException", Cond.fieldLink RX3 33 "DrumTalk$Land" "villageCount" "I", Cond.methodLink RX3 91 yX3_checkPhrase, Cond.instanceMethod yX3_checkPhrase, Cond.selects RX3 yX3_checkPhrase yX3_checkPhrase, Cond.code yX3_checkPhrase cX3_checkPhrase 2 none, Cond.fieldLink RX3 79 "DrumTalk$Land" "phraseCount" "I", Cond.methodLink RX3 148 yX0_copy, Cond.instanceMethod yX0_copy, Cond.selects RX0 yX0_copy yX0_copy, Cond.initialized RX0, Cond.code yX0_copy cX0_copy 3 none, Cond.fieldLink RX0 25 "DrumTalk$Land" "villageCount" "I", Cond.fieldLink RX0 11 "DrumTalk$Land" "villages" "[LDrumTalk$Village;", Cond.fieldLink RX0 17 "DrumTalk$Land" "tones" "[I"]
def wsX3_reaches_r2 : List Cond := [Cond.methodLink RX0 33 arraycopyName, Cond.native arraycopyName, Cond.static arraycopyName, Cond.initialized "java/lang/System", Cond.fieldLink RX0 21 "DrumTalk$Land" "toneCounts" "[I", Cond.fieldLink RX0 39 "DrumTalk$Land" "phraseCount" "I", Cond.fieldLink RX0 42 "DrumTalk$Land" "beat" "I", Cond.fieldLink RX0 45 "DrumTalk$Land" "drummings" "I", Cond.methodLink RX0 29 yX2_copy, Cond.instanceMethod yX2_copy, Cond.selects RX2 yX2_copy yX2_copy, Cond.initialized RX2, Cond.code yX2_copy cX2_copy 2 none, Cond.fieldLink RX2 41 "DrumTalk$Village" "x" "I", Cond.fieldLink RX2 44 "DrumTalk$Village" "y" "I", Cond.fieldLink RX2 9 "DrumTalk$Village" "drum" "I", Cond.fieldLink RX2 47 "DrumTalk$Village" "cliff" "Z", Cond.fieldLink RX2 51 "DrumTalk$Village" "awakeFrom" "I", Cond.fieldLink RX2 15 "DrumTalk$Village" "awakeBeats" "I", Cond.fieldLink RX2 18 "DrumTalk$Village" "drumming" "I", Cond.fieldLink RX2 54 "DrumTalk$Village" "beatsLeft" "I", Cond.fieldLink RX2 21 "DrumTalk$Village" "queue" "[I", Cond.methodLink RX2 57 arraycopyName, Cond.fieldLink RX2 63 "DrumTalk$Village" "queued" "I"]
def wsX3_reaches_r3 : List Cond := [Cond.fieldLink RX2 25 "DrumTalk$Village" "knownSince" "[I", Cond.fieldLink RX2 31 "DrumTalk$Village" "inTheAir" "LDrumTalk$Sounds;", Cond.fieldLink RX2 70 "DrumTalk$Village" "drowned" "I", Cond.methodLink RX2 66 yX1_copy, Cond.instanceMethod yX1_copy, Cond.selects RX1 yX1_copy yX1_copy, Cond.initialized RX1, Cond.code yX1_copy cX1_copy 2 none, Cond.fieldLink RX1 9 "DrumTalk$Sounds" "phrases" "[I", Cond.fieldLink RX1 24 "DrumTalk$Sounds" "size" "I", Cond.methodLink RX1 28 arraycopyName, Cond.fieldLink RX1 15 "DrumTalk$Sounds" "firstBeats" "[I", Cond.fieldLink RX1 18 "DrumTalk$Sounds" "lastBeats" "[I", Cond.fieldLink RX1 21 "DrumTalk$Sounds" "drowned" "[I", Cond.methodLink RX3 156 yX2_isKnown, Cond.instanceMethod yX2_isKnown, Cond.selects RX2 yX2_isKnown yX2_isKnown, Cond.code yX2_isKnown cX2_isKnown 2 (some .boolean), Cond.methodLink RX3 145 yX0_letGo, Cond.instanceMethod yX0_letGo, Cond.selects RX0 yX0_letGo yX0_letGo, Cond.code yX0_letGo cX0_letGo 4 (some .int), Cond.methodLink RX0 100 yX0_isQuiet, Cond.instanceMethod yX0_isQuiet]
def wsX3_reaches_r4 : List Cond := [Cond.selects RX0 yX0_isQuiet yX0_isQuiet, Cond.code yX0_isQuiet cX0_isQuiet 3 (some .boolean), Cond.fieldLink RX0 106 "DrumTalk$Village" "queued" "I", Cond.fieldLink RX0 74 "DrumTalk$Village" "inTheAir" "LDrumTalk$Sounds;", Cond.fieldLink RX0 78 "DrumTalk$Sounds" "size" "I", Cond.methodLink RX0 70 yX2_isDrumming, Cond.instanceMethod yX2_isDrumming, Cond.selects RX2 yX2_isDrumming yX2_isDrumming, Cond.code yX2_isDrumming cX2_isDrumming 1 (some .boolean), Cond.methodLink RX0 103 yX0_goBeat, Cond.instanceMethod yX0_goBeat, Cond.selects RX0 yX0_goBeat yX0_goBeat, Cond.code yX0_goBeat cX0_goBeat 3 (some .int), Cond.methodLink RX0 109 yX2_isReady, Cond.instanceMethod yX2_isReady, Cond.selects RX2 yX2_isReady yX2_isReady, Cond.code yX2_isReady cX2_isReady 2 (some .boolean), Cond.methodLink RX2 87 yX2_isDrumming, Cond.methodLink RX2 73 yX2_isAwake, Cond.instanceMethod yX2_isAwake, Cond.selects RX2 yX2_isAwake yX2_isAwake, Cond.code yX2_isAwake cX2_isAwake 2 (some .boolean), Cond.methodLink RX2 81 yJ9_floorMod_7cf53, Cond.static yJ9_floorMod_7cf53]
def wsX3_reaches_r5 : List Cond := [Cond.initialized RJ9, Cond.code yJ9_floorMod_7cf53 cJ9_floorMod_7cf53 3 (some .int), Cond.methodLink RX0 112 yX0_beginDrumming, Cond.instanceMethod yX0_beginDrumming, Cond.selects RX0 yX0_beginDrumming yX0_beginDrumming, Cond.code yX0_beginDrumming cX0_beginDrumming 9 none, Cond.fieldLink RX0 129 "DrumTalk$Village" "drumming" "I", Cond.fieldLink RX0 132 "DrumTalk$Village" "beatsLeft" "I", Cond.fieldLink RX0 139 "DrumTalk$Village" "cliff" "Z", Cond.methodLink RX0 126 yX2_takeFromQueue, Cond.instanceMethod yX2_takeFromQueue, Cond.selects RX2 yX2_takeFromQueue yX2_takeFromQueue, Cond.code yX2_takeFromQueue cX2_takeFromQueue 2 (some .int), Cond.methodLink RX0 93 yX2_distanceTo, Cond.instanceMethod yX2_distanceTo, Cond.selects RX2 yX2_distanceTo yX2_distanceTo, Cond.code yX2_distanceTo cX2_distanceTo 2 (some .int), Cond.methodLink RX2 91 Lib.Math.abs.name, Cond.static Lib.Math.abs.name, Cond.initialized "java/lang/Math", Cond.code Lib.Math.abs.name Lib.Math.abs.code 1 (some .int), Cond.methodLink RX0 97 yX2_isHeardAt, Cond.instanceMethod yX2_isHeardAt, Cond.selects RX2 yX2_isHeardAt yX2_isHeardAt]
def wsX3_reaches_r6 : List Cond := [Cond.code yX2_isHeardAt cX2_isHeardAt 2 (some .boolean), Cond.methodLink RX0 135 yX1_add, Cond.instanceMethod yX1_add, Cond.selects RX1 yX1_add yX1_add, Cond.code yX1_add cX1_add 4 none, Cond.methodLink RX0 116 yX2_drownIfDisturbed, Cond.instanceMethod yX2_drownIfDisturbed, Cond.selects RX2 yX2_drownIfDisturbed yX2_drownIfDisturbed, Cond.code yX2_drownIfDisturbed cX2_drownIfDisturbed 2 none, Cond.methodLink RX2 98 yX1_lasting, Cond.instanceMethod yX1_lasting, Cond.selects RX1 yX1_lasting yX1_lasting, Cond.code yX1_lasting cX1_lasting 4 (some .int), Cond.methodLink RX2 101 yX1_drown, Cond.instanceMethod yX1_drown, Cond.selects RX1 yX1_drown yX1_drown, Cond.code yX1_drown cX1_drown 3 none, Cond.methodLink RX0 119 yX2_endSounds, Cond.instanceMethod yX2_endSounds, Cond.selects RX2 yX2_endSounds yX2_endSounds, Cond.code yX2_endSounds cX2_endSounds 5 (some .int), Cond.fieldLink RX2 105 "DrumTalk$Sounds" "size" "I", Cond.fieldLink RX2 108 "DrumTalk$Sounds" "lastBeats" "[I", Cond.fieldLink RX2 115 "DrumTalk$Sounds" "drowned" "[I"]
def wsX3_reaches_r7 : List Cond := [Cond.fieldLink RX2 117 "DrumTalk$Sounds" "phrases" "[I", Cond.methodLink RX2 111 yX1_move, Cond.instanceMethod yX1_move, Cond.selects RX1 yX1_move yX1_move, Cond.code yX1_move cX1_move 3 none, Cond.methodLink RX2 95 yX2_isKnown, Cond.methodLink RX2 120 yX2_takeIn, Cond.instanceMethod yX2_takeIn, Cond.selects RX2 yX2_takeIn yX2_takeIn, Cond.code yX2_takeIn cX2_takeIn 3 none, Cond.methodLink RX0 123 yX2_endDrumBeat, Cond.instanceMethod yX2_endDrumBeat, Cond.selects RX2 yX2_endDrumBeat yX2_endDrumBeat, Cond.code yX2_endDrumBeat cX2_endDrumBeat 1 none]
def wsX3_reaches : List Cond := .code yX3_reaches cX3_reaches 5 (some .int) :: ((wsX3_reaches_r1 ++ (wsX3_reaches_r2 ++ (wsX3_reaches_r3 ++ (wsX3_reaches_r4 ++ (wsX3_reaches_r5 ++ (wsX3_reaches_r6 ++ wsX3_reaches_r7)))))) ++ wsX30 ++ wsX00 ++ wsX20 ++ wsX10 ++ (vx_atS RX3 111 "java/lang/IndexOutOfBoundsException" ["java/lang/RuntimeException", "java/lang/Exception"]).filter goodWord)
def wsX3_knowersIfTold_r1 : List Cond := [Cond.fieldLink RX3 16 "DrumTalk" "trial" "LDrumTalk$Land;", Cond.fieldLink RX3 12 "DrumTalk" "land" "LDrumTalk$Land;", Cond.fieldLink RX3 152 "DrumTalk$Land" "villages" "[LDrumTalk$Village;", Cond.fieldLink RX3 95 "DrumTalk$Village" "queued" "I", Cond.fieldLink RX3 100 "DrumTalk$Land" "beat" "I", Cond.methodLink RX3 148 yX0_copy, Cond.instanceMethod yX0_copy, Cond.selects RX0 yX0_copy yX0_copy, Cond.initialized RX0, Cond.code yX0_copy cX0_copy 3 none, Cond.fieldLink RX0 25 "DrumTalk$Land" "villageCount" "I", Cond.fieldLink RX0 11 "DrumTalk$Land" "villages" "[LDrumTalk$Village;", Cond.fieldLink RX0 17 "DrumTalk$Land" "tones" "[I", Cond.methodLink RX0 33 arraycopyName, Cond.native arraycopyName, Cond.static arraycopyName, Cond.initialized "java/lang/System", Cond.fieldLink RX0 21 "DrumTalk$Land" "toneCounts" "[I", Cond.fieldLink RX0 39 "DrumTalk$Land" "phraseCount" "I", Cond.fieldLink RX0 42 "DrumTalk$Land" "beat" "I", Cond.fieldLink RX0 45 "DrumTalk$Land" "drummings" "I", Cond.methodLink RX0 29 yX2_copy, Cond.instanceMethod yX2_copy, Cond.selects RX2 yX2_copy yX2_copy]
def wsX3_knowersIfTold_r2 : List Cond := [Cond.initialized RX2, Cond.code yX2_copy cX2_copy 2 none, Cond.fieldLink RX2 41 "DrumTalk$Village" "x" "I", Cond.fieldLink RX2 44 "DrumTalk$Village" "y" "I", Cond.fieldLink RX2 9 "DrumTalk$Village" "drum" "I", Cond.fieldLink RX2 47 "DrumTalk$Village" "cliff" "Z", Cond.fieldLink RX2 51 "DrumTalk$Village" "awakeFrom" "I", Cond.fieldLink RX2 15 "DrumTalk$Village" "awakeBeats" "I", Cond.fieldLink RX2 18 "DrumTalk$Village" "drumming" "I", Cond.fieldLink RX2 54 "DrumTalk$Village" "beatsLeft" "I", Cond.fieldLink RX2 21 "DrumTalk$Village" "queue" "[I", Cond.methodLink RX2 57 arraycopyName, Cond.fieldLink RX2 63 "DrumTalk$Village" "queued" "I", Cond.fieldLink RX2 25 "DrumTalk$Village" "knownSince" "[I", Cond.fieldLink RX2 31 "DrumTalk$Village" "inTheAir" "LDrumTalk$Sounds;", Cond.fieldLink RX2 70 "DrumTalk$Village" "drowned" "I", Cond.methodLink RX2 66 yX1_copy, Cond.instanceMethod yX1_copy, Cond.selects RX1 yX1_copy yX1_copy, Cond.initialized RX1, Cond.code yX1_copy cX1_copy 2 none, Cond.fieldLink RX1 9 "DrumTalk$Sounds" "phrases" "[I", Cond.fieldLink RX1 24 "DrumTalk$Sounds" "size" "I", Cond.methodLink RX1 28 arraycopyName]
def wsX3_knowersIfTold_r3 : List Cond := [Cond.fieldLink RX1 15 "DrumTalk$Sounds" "firstBeats" "[I", Cond.fieldLink RX1 18 "DrumTalk$Sounds" "lastBeats" "[I", Cond.fieldLink RX1 21 "DrumTalk$Sounds" "drowned" "[I", Cond.methodLink RX3 145 yX0_letGo, Cond.instanceMethod yX0_letGo, Cond.selects RX0 yX0_letGo yX0_letGo, Cond.code yX0_letGo cX0_letGo 4 (some .int), Cond.methodLink RX0 100 yX0_isQuiet, Cond.instanceMethod yX0_isQuiet, Cond.selects RX0 yX0_isQuiet yX0_isQuiet, Cond.code yX0_isQuiet cX0_isQuiet 3 (some .boolean), Cond.fieldLink RX0 106 "DrumTalk$Village" "queued" "I", Cond.fieldLink RX0 74 "DrumTalk$Village" "inTheAir" "LDrumTalk$Sounds;", Cond.fieldLink RX0 78 "DrumTalk$Sounds" "size" "I", Cond.methodLink RX0 70 yX2_isDrumming, Cond.instanceMethod yX2_isDrumming, Cond.selects RX2 yX2_isDrumming yX2_isDrumming, Cond.code yX2_isDrumming cX2_isDrumming 1 (some .boolean), Cond.methodLink RX0 103 yX0_goBeat, Cond.instanceMethod yX0_goBeat, Cond.selects RX0 yX0_goBeat yX0_goBeat, Cond.code yX0_goBeat cX0_goBeat 3 (some .int), Cond.methodLink RX0 109 yX2_isReady, Cond.instanceMethod yX2_isReady]
def wsX3_knowersIfTold_r4 : List Cond := [Cond.selects RX2 yX2_isReady yX2_isReady, Cond.code yX2_isReady cX2_isReady 2 (some .boolean), Cond.methodLink RX2 87 yX2_isDrumming, Cond.methodLink RX2 73 yX2_isAwake, Cond.instanceMethod yX2_isAwake, Cond.selects RX2 yX2_isAwake yX2_isAwake, Cond.code yX2_isAwake cX2_isAwake 2 (some .boolean), Cond.methodLink RX2 81 yJ9_floorMod_7cf53, Cond.static yJ9_floorMod_7cf53, Cond.initialized RJ9, Cond.code yJ9_floorMod_7cf53 cJ9_floorMod_7cf53 3 (some .int), Cond.methodLink RX0 112 yX0_beginDrumming, Cond.instanceMethod yX0_beginDrumming, Cond.selects RX0 yX0_beginDrumming yX0_beginDrumming, Cond.code yX0_beginDrumming cX0_beginDrumming 9 none, Cond.fieldLink RX0 129 "DrumTalk$Village" "drumming" "I", Cond.fieldLink RX0 132 "DrumTalk$Village" "beatsLeft" "I", Cond.fieldLink RX0 139 "DrumTalk$Village" "cliff" "Z", Cond.methodLink RX0 126 yX2_takeFromQueue, Cond.instanceMethod yX2_takeFromQueue, Cond.selects RX2 yX2_takeFromQueue yX2_takeFromQueue, Cond.code yX2_takeFromQueue cX2_takeFromQueue 2 (some .int), Cond.methodLink RX0 93 yX2_distanceTo, Cond.instanceMethod yX2_distanceTo]
def wsX3_knowersIfTold_r5 : List Cond := [Cond.selects RX2 yX2_distanceTo yX2_distanceTo, Cond.code yX2_distanceTo cX2_distanceTo 2 (some .int), Cond.methodLink RX2 91 Lib.Math.abs.name, Cond.static Lib.Math.abs.name, Cond.initialized "java/lang/Math", Cond.code Lib.Math.abs.name Lib.Math.abs.code 1 (some .int), Cond.methodLink RX0 97 yX2_isHeardAt, Cond.instanceMethod yX2_isHeardAt, Cond.selects RX2 yX2_isHeardAt yX2_isHeardAt, Cond.code yX2_isHeardAt cX2_isHeardAt 2 (some .boolean), Cond.methodLink RX0 135 yX1_add, Cond.instanceMethod yX1_add, Cond.selects RX1 yX1_add yX1_add, Cond.code yX1_add cX1_add 4 none, Cond.methodLink RX0 116 yX2_drownIfDisturbed, Cond.instanceMethod yX2_drownIfDisturbed, Cond.selects RX2 yX2_drownIfDisturbed yX2_drownIfDisturbed, Cond.code yX2_drownIfDisturbed cX2_drownIfDisturbed 2 none, Cond.methodLink RX2 98 yX1_lasting, Cond.instanceMethod yX1_lasting, Cond.selects RX1 yX1_lasting yX1_lasting, Cond.code yX1_lasting cX1_lasting 4 (some .int), Cond.methodLink RX2 101 yX1_drown, Cond.instanceMethod yX1_drown]
def wsX3_knowersIfTold_r6 : List Cond := [Cond.selects RX1 yX1_drown yX1_drown, Cond.code yX1_drown cX1_drown 3 none, Cond.methodLink RX0 119 yX2_endSounds, Cond.instanceMethod yX2_endSounds, Cond.selects RX2 yX2_endSounds yX2_endSounds, Cond.code yX2_endSounds cX2_endSounds 5 (some .int), Cond.fieldLink RX2 105 "DrumTalk$Sounds" "size" "I", Cond.fieldLink RX2 108 "DrumTalk$Sounds" "lastBeats" "[I", Cond.fieldLink RX2 115 "DrumTalk$Sounds" "drowned" "[I", Cond.fieldLink RX2 117 "DrumTalk$Sounds" "phrases" "[I", Cond.methodLink RX2 111 yX1_move, Cond.instanceMethod yX1_move, Cond.selects RX1 yX1_move yX1_move, Cond.code yX1_move cX1_move 3 none, Cond.methodLink RX2 95 yX2_isKnown, Cond.instanceMethod yX2_isKnown, Cond.selects RX2 yX2_isKnown yX2_isKnown, Cond.code yX2_isKnown cX2_isKnown 2 (some .boolean), Cond.methodLink RX2 120 yX2_takeIn, Cond.instanceMethod yX2_takeIn, Cond.selects RX2 yX2_takeIn yX2_takeIn, Cond.code yX2_takeIn cX2_takeIn 3 none, Cond.methodLink RX0 123 yX2_endDrumBeat, Cond.instanceMethod yX2_endDrumBeat]
def wsX3_knowersIfTold_r7 : List Cond := [Cond.selects RX2 yX2_endDrumBeat yX2_endDrumBeat, Cond.code yX2_endDrumBeat cX2_endDrumBeat 1 none, Cond.methodLink RX3 103 yX2_takeIn, Cond.methodLink RX3 159 yX0_knowersOf, Cond.instanceMethod yX0_knowersOf, Cond.selects RX0 yX0_knowersOf yX0_knowersOf, Cond.code yX0_knowersOf cX0_knowersOf 4 (some .int), Cond.methodLink RX0 89 yX2_isKnown]
def wsX3_knowersIfTold : List Cond := .code yX3_knowersIfTold cX3_knowersIfTold 5 (some .int) :: ((wsX3_knowersIfTold_r1 ++ (wsX3_knowersIfTold_r2 ++ (wsX3_knowersIfTold_r3 ++ (wsX3_knowersIfTold_r4 ++ (wsX3_knowersIfTold_r5 ++ (wsX3_knowersIfTold_r6 ++ wsX3_knowersIfTold_r7)))))) ++ wsX30 ++ wsX00 ++ wsX20 ++ wsX10)
def wsX3_best_r1 : List Cond := [Cond.fieldLink RX3 16 "DrumTalk" "trial" "LDrumTalk$Land;", Cond.fieldLink RX3 12 "DrumTalk" "land" "LDrumTalk$Land;", Cond.methodLink RX3 137 yX3_checkVillage, Cond.instanceMethod yX3_checkVillage, Cond.selects RX3 yX3_checkVillage yX3_checkVillage, Cond.initialized RX3, Cond.code yX3_checkVillage cX3_checkVillage 2 none, Cond.classLink RX3 107 "java/lang/IndexOutOfBoundsException", Cond.initialized "java/lang/IndexOutOfBoundsException", Cond.fieldLink RX3 33 "DrumTalk$Land" "villageCount" "I", Cond.methodLink RX3 91 yX3_checkPhrase, Cond.instanceMethod yX3_checkPhrase, Cond.selects RX3 yX3_checkPhrase yX3_checkPhrase, Cond.code yX3_checkPhrase cX3_checkPhrase 2 none, Cond.fieldLink RX3 79 "DrumTalk$Land" "phraseCount" "I", Cond.methodLink RX3 148 yX0_copy, Cond.instanceMethod yX0_copy, Cond.selects RX0 yX0_copy yX0_copy, Cond.initialized RX0, Cond.code yX0_copy cX0_copy 3 none, Cond.fieldLink RX0 25 "DrumTalk$Land" "villageCount" "I", Cond.fieldLink RX0 11 "DrumTalk$Land" "villages" "[LDrumTalk$Village;", Cond.fieldLink RX0 17 "DrumTalk$Land" "tones" "[I", Cond.methodLink RX0 33 arraycopyName]
def wsX3_best_r2 : List Cond := [Cond.native arraycopyName, Cond.static arraycopyName, Cond.initialized "java/lang/System", Cond.fieldLink RX0 21 "DrumTalk$Land" "toneCounts" "[I", Cond.fieldLink RX0 39 "DrumTalk$Land" "phraseCount" "I", Cond.fieldLink RX0 42 "DrumTalk$Land" "beat" "I", Cond.fieldLink RX0 45 "DrumTalk$Land" "drummings" "I", Cond.methodLink RX0 29 yX2_copy, Cond.instanceMethod yX2_copy, Cond.selects RX2 yX2_copy yX2_copy, Cond.initialized RX2, Cond.code yX2_copy cX2_copy 2 none, Cond.fieldLink RX2 41 "DrumTalk$Village" "x" "I", Cond.fieldLink RX2 44 "DrumTalk$Village" "y" "I", Cond.fieldLink RX2 9 "DrumTalk$Village" "drum" "I", Cond.fieldLink RX2 47 "DrumTalk$Village" "cliff" "Z", Cond.fieldLink RX2 51 "DrumTalk$Village" "awakeFrom" "I", Cond.fieldLink RX2 15 "DrumTalk$Village" "awakeBeats" "I", Cond.fieldLink RX2 18 "DrumTalk$Village" "drumming" "I", Cond.fieldLink RX2 54 "DrumTalk$Village" "beatsLeft" "I", Cond.fieldLink RX2 21 "DrumTalk$Village" "queue" "[I", Cond.methodLink RX2 57 arraycopyName, Cond.fieldLink RX2 63 "DrumTalk$Village" "queued" "I", Cond.fieldLink RX2 25 "DrumTalk$Village" "knownSince" "[I"]
def wsX3_best_r3 : List Cond := [Cond.fieldLink RX2 31 "DrumTalk$Village" "inTheAir" "LDrumTalk$Sounds;", Cond.fieldLink RX2 70 "DrumTalk$Village" "drowned" "I", Cond.methodLink RX2 66 yX1_copy, Cond.instanceMethod yX1_copy, Cond.selects RX1 yX1_copy yX1_copy, Cond.initialized RX1, Cond.code yX1_copy cX1_copy 2 none, Cond.fieldLink RX1 9 "DrumTalk$Sounds" "phrases" "[I", Cond.fieldLink RX1 24 "DrumTalk$Sounds" "size" "I", Cond.methodLink RX1 28 arraycopyName, Cond.fieldLink RX1 15 "DrumTalk$Sounds" "firstBeats" "[I", Cond.fieldLink RX1 18 "DrumTalk$Sounds" "lastBeats" "[I", Cond.fieldLink RX1 21 "DrumTalk$Sounds" "drowned" "[I", Cond.methodLink RX3 145 yX0_letGo, Cond.instanceMethod yX0_letGo, Cond.selects RX0 yX0_letGo yX0_letGo, Cond.code yX0_letGo cX0_letGo 4 (some .int), Cond.methodLink RX0 100 yX0_isQuiet, Cond.instanceMethod yX0_isQuiet, Cond.selects RX0 yX0_isQuiet yX0_isQuiet, Cond.code yX0_isQuiet cX0_isQuiet 3 (some .boolean), Cond.fieldLink RX0 106 "DrumTalk$Village" "queued" "I", Cond.fieldLink RX0 74 "DrumTalk$Village" "inTheAir" "LDrumTalk$Sounds;", Cond.fieldLink RX0 78 "DrumTalk$Sounds" "size" "I"]
def wsX3_best_r4 : List Cond := [Cond.methodLink RX0 70 yX2_isDrumming, Cond.instanceMethod yX2_isDrumming, Cond.selects RX2 yX2_isDrumming yX2_isDrumming, Cond.code yX2_isDrumming cX2_isDrumming 1 (some .boolean), Cond.methodLink RX0 103 yX0_goBeat, Cond.instanceMethod yX0_goBeat, Cond.selects RX0 yX0_goBeat yX0_goBeat, Cond.code yX0_goBeat cX0_goBeat 3 (some .int), Cond.methodLink RX0 109 yX2_isReady, Cond.instanceMethod yX2_isReady, Cond.selects RX2 yX2_isReady yX2_isReady, Cond.code yX2_isReady cX2_isReady 2 (some .boolean), Cond.methodLink RX2 87 yX2_isDrumming, Cond.methodLink RX2 73 yX2_isAwake, Cond.instanceMethod yX2_isAwake, Cond.selects RX2 yX2_isAwake yX2_isAwake, Cond.code yX2_isAwake cX2_isAwake 2 (some .boolean), Cond.methodLink RX2 81 yJ9_floorMod_7cf53, Cond.static yJ9_floorMod_7cf53, Cond.initialized RJ9, Cond.code yJ9_floorMod_7cf53 cJ9_floorMod_7cf53 3 (some .int), Cond.methodLink RX0 112 yX0_beginDrumming, Cond.instanceMethod yX0_beginDrumming, Cond.selects RX0 yX0_beginDrumming yX0_beginDrumming]
def wsX3_best_r5 : List Cond := [Cond.code yX0_beginDrumming cX0_beginDrumming 9 none, Cond.fieldLink RX0 129 "DrumTalk$Village" "drumming" "I", Cond.fieldLink RX0 132 "DrumTalk$Village" "beatsLeft" "I", Cond.fieldLink RX0 139 "DrumTalk$Village" "cliff" "Z", Cond.methodLink RX0 126 yX2_takeFromQueue, Cond.instanceMethod yX2_takeFromQueue, Cond.selects RX2 yX2_takeFromQueue yX2_takeFromQueue, Cond.code yX2_takeFromQueue cX2_takeFromQueue 2 (some .int), Cond.methodLink RX0 93 yX2_distanceTo, Cond.instanceMethod yX2_distanceTo, Cond.selects RX2 yX2_distanceTo yX2_distanceTo, Cond.code yX2_distanceTo cX2_distanceTo 2 (some .int), Cond.methodLink RX2 91 Lib.Math.abs.name, Cond.static Lib.Math.abs.name, Cond.initialized "java/lang/Math", Cond.code Lib.Math.abs.name Lib.Math.abs.code 1 (some .int), Cond.methodLink RX0 97 yX2_isHeardAt, Cond.instanceMethod yX2_isHeardAt, Cond.selects RX2 yX2_isHeardAt yX2_isHeardAt, Cond.code yX2_isHeardAt cX2_isHeardAt 2 (some .boolean), Cond.methodLink RX0 135 yX1_add, Cond.instanceMethod yX1_add, Cond.selects RX1 yX1_add yX1_add, Cond.code yX1_add cX1_add 4 none]
def wsX3_best_r6 : List Cond := [Cond.methodLink RX0 116 yX2_drownIfDisturbed, Cond.instanceMethod yX2_drownIfDisturbed, Cond.selects RX2 yX2_drownIfDisturbed yX2_drownIfDisturbed, Cond.code yX2_drownIfDisturbed cX2_drownIfDisturbed 2 none, Cond.methodLink RX2 98 yX1_lasting, Cond.instanceMethod yX1_lasting, Cond.selects RX1 yX1_lasting yX1_lasting, Cond.code yX1_lasting cX1_lasting 4 (some .int), Cond.methodLink RX2 101 yX1_drown, Cond.instanceMethod yX1_drown, Cond.selects RX1 yX1_drown yX1_drown, Cond.code yX1_drown cX1_drown 3 none, Cond.methodLink RX0 119 yX2_endSounds, Cond.instanceMethod yX2_endSounds, Cond.selects RX2 yX2_endSounds yX2_endSounds, Cond.code yX2_endSounds cX2_endSounds 5 (some .int), Cond.fieldLink RX2 105 "DrumTalk$Sounds" "size" "I", Cond.fieldLink RX2 108 "DrumTalk$Sounds" "lastBeats" "[I", Cond.fieldLink RX2 115 "DrumTalk$Sounds" "drowned" "[I", Cond.fieldLink RX2 117 "DrumTalk$Sounds" "phrases" "[I", Cond.methodLink RX2 111 yX1_move, Cond.instanceMethod yX1_move, Cond.selects RX1 yX1_move yX1_move, Cond.code yX1_move cX1_move 3 none]
def wsX3_best_r7 : List Cond := [Cond.methodLink RX2 95 yX2_isKnown, Cond.instanceMethod yX2_isKnown, Cond.selects RX2 yX2_isKnown yX2_isKnown, Cond.code yX2_isKnown cX2_isKnown 2 (some .boolean), Cond.methodLink RX2 120 yX2_takeIn, Cond.instanceMethod yX2_takeIn, Cond.selects RX2 yX2_takeIn yX2_takeIn, Cond.code yX2_takeIn cX2_takeIn 3 none, Cond.methodLink RX0 123 yX2_endDrumBeat, Cond.instanceMethod yX2_endDrumBeat, Cond.selects RX2 yX2_endDrumBeat yX2_endDrumBeat, Cond.code yX2_endDrumBeat cX2_endDrumBeat 1 none, Cond.methodLink RX3 159 yX0_knowersOf, Cond.instanceMethod yX0_knowersOf, Cond.selects RX0 yX0_knowersOf yX0_knowersOf, Cond.code yX0_knowersOf cX0_knowersOf 4 (some .int), Cond.methodLink RX0 89 yX2_isKnown, Cond.methodLink RX3 162 yX3_knowersIfTold, Cond.instanceMethod yX3_knowersIfTold, Cond.selects RX3 yX3_knowersIfTold yX3_knowersIfTold, Cond.code yX3_knowersIfTold cX3_knowersIfTold 5 (some .int), Cond.fieldLink RX3 152 "DrumTalk$Land" "villages" "[LDrumTalk$Village;", Cond.fieldLink RX3 95 "DrumTalk$Village" "queued" "I", Cond.fieldLink RX3 100 "DrumTalk$Land" "beat" "I"]
def wsX3_best_r8 : List Cond := [Cond.methodLink RX3 103 yX2_takeIn]
def wsX3_best : List Cond := .code yX3_best cX3_best 7 (some .int) :: ((wsX3_best_r1 ++ (wsX3_best_r2 ++ (wsX3_best_r3 ++ (wsX3_best_r4 ++ (wsX3_best_r5 ++ (wsX3_best_r6 ++ (wsX3_best_r7 ++ wsX3_best_r8))))))) ++ wsX30 ++ wsX00 ++ wsX20 ++ wsX10 ++ (vx_atS RX3 111 "java/lang/IndexOutOfBoundsException" ["java/lang/RuntimeException", "java/lang/Exception"]).filter goodWord)
def wsX3_pairsIfLarger_r1 : List Cond := [Cond.fieldLink RX3 16 "DrumTalk" "trial" "LDrumTalk$Land;", Cond.fieldLink RX3 12 "DrumTalk" "land" "LDrumTalk$Land;", Cond.fieldLink RX3 152 "DrumTalk$Land" "villages" "[LDrumTalk$Village;", Cond.fieldLink RX3 56 "DrumTalk$Village" "drum" "I", Cond.methodLink RX3 148 yX0_copy, Cond.instanceMethod yX0_copy, Cond.selects RX0 yX0_copy yX0_copy, Cond.initialized RX0, Cond.code yX0_copy cX0_copy 3 none, Cond.fieldLink RX0 25 "DrumTalk$Land" "villageCount" "I", Cond.fieldLink RX0 11 "DrumTalk$Land" "villages" "[LDrumTalk$Village;", Cond.fieldLink RX0 17 "DrumTalk$Land" "tones" "[I", Cond.methodLink RX0 33 arraycopyName, Cond.native arraycopyName, Cond.static arraycopyName, Cond.initialized "java/lang/System", Cond.fieldLink RX0 21 "DrumTalk$Land" "toneCounts" "[I", Cond.fieldLink RX0 39 "DrumTalk$Land" "phraseCount" "I", Cond.fieldLink RX0 42 "DrumTalk$Land" "beat" "I", Cond.fieldLink RX0 45 "DrumTalk$Land" "drummings" "I", Cond.methodLink RX0 29 yX2_copy, Cond.instanceMethod yX2_copy, Cond.selects RX2 yX2_copy yX2_copy, Cond.initialized RX2]
def wsX3_pairsIfLarger_r2 : List Cond := [Cond.code yX2_copy cX2_copy 2 none, Cond.fieldLink RX2 41 "DrumTalk$Village" "x" "I", Cond.fieldLink RX2 44 "DrumTalk$Village" "y" "I", Cond.fieldLink RX2 9 "DrumTalk$Village" "drum" "I", Cond.fieldLink RX2 47 "DrumTalk$Village" "cliff" "Z", Cond.fieldLink RX2 51 "DrumTalk$Village" "awakeFrom" "I", Cond.fieldLink RX2 15 "DrumTalk$Village" "awakeBeats" "I", Cond.fieldLink RX2 18 "DrumTalk$Village" "drumming" "I", Cond.fieldLink RX2 54 "DrumTalk$Village" "beatsLeft" "I", Cond.fieldLink RX2 21 "DrumTalk$Village" "queue" "[I", Cond.methodLink RX2 57 arraycopyName, Cond.fieldLink RX2 63 "DrumTalk$Village" "queued" "I", Cond.fieldLink RX2 25 "DrumTalk$Village" "knownSince" "[I", Cond.fieldLink RX2 31 "DrumTalk$Village" "inTheAir" "LDrumTalk$Sounds;", Cond.fieldLink RX2 70 "DrumTalk$Village" "drowned" "I", Cond.methodLink RX2 66 yX1_copy, Cond.instanceMethod yX1_copy, Cond.selects RX1 yX1_copy yX1_copy, Cond.initialized RX1, Cond.code yX1_copy cX1_copy 2 none, Cond.fieldLink RX1 9 "DrumTalk$Sounds" "phrases" "[I", Cond.fieldLink RX1 24 "DrumTalk$Sounds" "size" "I", Cond.methodLink RX1 28 arraycopyName, Cond.fieldLink RX1 15 "DrumTalk$Sounds" "firstBeats" "[I"]
def wsX3_pairsIfLarger_r3 : List Cond := [Cond.fieldLink RX1 18 "DrumTalk$Sounds" "lastBeats" "[I", Cond.fieldLink RX1 21 "DrumTalk$Sounds" "drowned" "[I", Cond.methodLink RX3 145 yX0_letGo, Cond.instanceMethod yX0_letGo, Cond.selects RX0 yX0_letGo yX0_letGo, Cond.code yX0_letGo cX0_letGo 4 (some .int), Cond.methodLink RX0 100 yX0_isQuiet, Cond.instanceMethod yX0_isQuiet, Cond.selects RX0 yX0_isQuiet yX0_isQuiet, Cond.code yX0_isQuiet cX0_isQuiet 3 (some .boolean), Cond.fieldLink RX0 106 "DrumTalk$Village" "queued" "I", Cond.fieldLink RX0 74 "DrumTalk$Village" "inTheAir" "LDrumTalk$Sounds;", Cond.fieldLink RX0 78 "DrumTalk$Sounds" "size" "I", Cond.methodLink RX0 70 yX2_isDrumming, Cond.instanceMethod yX2_isDrumming, Cond.selects RX2 yX2_isDrumming yX2_isDrumming, Cond.code yX2_isDrumming cX2_isDrumming 1 (some .boolean), Cond.methodLink RX0 103 yX0_goBeat, Cond.instanceMethod yX0_goBeat, Cond.selects RX0 yX0_goBeat yX0_goBeat, Cond.code yX0_goBeat cX0_goBeat 3 (some .int), Cond.methodLink RX0 109 yX2_isReady, Cond.instanceMethod yX2_isReady, Cond.selects RX2 yX2_isReady yX2_isReady]
def wsX3_pairsIfLarger_r4 : List Cond := [Cond.code yX2_isReady cX2_isReady 2 (some .boolean), Cond.methodLink RX2 87 yX2_isDrumming, Cond.methodLink RX2 73 yX2_isAwake, Cond.instanceMethod yX2_isAwake, Cond.selects RX2 yX2_isAwake yX2_isAwake, Cond.code yX2_isAwake cX2_isAwake 2 (some .boolean), Cond.methodLink RX2 81 yJ9_floorMod_7cf53, Cond.static yJ9_floorMod_7cf53, Cond.initialized RJ9, Cond.code yJ9_floorMod_7cf53 cJ9_floorMod_7cf53 3 (some .int), Cond.methodLink RX0 112 yX0_beginDrumming, Cond.instanceMethod yX0_beginDrumming, Cond.selects RX0 yX0_beginDrumming yX0_beginDrumming, Cond.code yX0_beginDrumming cX0_beginDrumming 9 none, Cond.fieldLink RX0 129 "DrumTalk$Village" "drumming" "I", Cond.fieldLink RX0 132 "DrumTalk$Village" "beatsLeft" "I", Cond.fieldLink RX0 139 "DrumTalk$Village" "cliff" "Z", Cond.methodLink RX0 126 yX2_takeFromQueue, Cond.instanceMethod yX2_takeFromQueue, Cond.selects RX2 yX2_takeFromQueue yX2_takeFromQueue, Cond.code yX2_takeFromQueue cX2_takeFromQueue 2 (some .int), Cond.methodLink RX0 93 yX2_distanceTo, Cond.instanceMethod yX2_distanceTo, Cond.selects RX2 yX2_distanceTo yX2_distanceTo]
def wsX3_pairsIfLarger_r5 : List Cond := [Cond.code yX2_distanceTo cX2_distanceTo 2 (some .int), Cond.methodLink RX2 91 Lib.Math.abs.name, Cond.static Lib.Math.abs.name, Cond.initialized "java/lang/Math", Cond.code Lib.Math.abs.name Lib.Math.abs.code 1 (some .int), Cond.methodLink RX0 97 yX2_isHeardAt, Cond.instanceMethod yX2_isHeardAt, Cond.selects RX2 yX2_isHeardAt yX2_isHeardAt, Cond.code yX2_isHeardAt cX2_isHeardAt 2 (some .boolean), Cond.methodLink RX0 135 yX1_add, Cond.instanceMethod yX1_add, Cond.selects RX1 yX1_add yX1_add, Cond.code yX1_add cX1_add 4 none, Cond.methodLink RX0 116 yX2_drownIfDisturbed, Cond.instanceMethod yX2_drownIfDisturbed, Cond.selects RX2 yX2_drownIfDisturbed yX2_drownIfDisturbed, Cond.code yX2_drownIfDisturbed cX2_drownIfDisturbed 2 none, Cond.methodLink RX2 98 yX1_lasting, Cond.instanceMethod yX1_lasting, Cond.selects RX1 yX1_lasting yX1_lasting, Cond.code yX1_lasting cX1_lasting 4 (some .int), Cond.methodLink RX2 101 yX1_drown, Cond.instanceMethod yX1_drown, Cond.selects RX1 yX1_drown yX1_drown]
def wsX3_pairsIfLarger_r6 : List Cond := [Cond.code yX1_drown cX1_drown 3 none, Cond.methodLink RX0 119 yX2_endSounds, Cond.instanceMethod yX2_endSounds, Cond.selects RX2 yX2_endSounds yX2_endSounds, Cond.code yX2_endSounds cX2_endSounds 5 (some .int), Cond.fieldLink RX2 105 "DrumTalk$Sounds" "size" "I", Cond.fieldLink RX2 108 "DrumTalk$Sounds" "lastBeats" "[I", Cond.fieldLink RX2 115 "DrumTalk$Sounds" "drowned" "[I", Cond.fieldLink RX2 117 "DrumTalk$Sounds" "phrases" "[I", Cond.methodLink RX2 111 yX1_move, Cond.instanceMethod yX1_move, Cond.selects RX1 yX1_move yX1_move, Cond.code yX1_move cX1_move 3 none, Cond.methodLink RX2 95 yX2_isKnown, Cond.instanceMethod yX2_isKnown, Cond.selects RX2 yX2_isKnown yX2_isKnown, Cond.code yX2_isKnown cX2_isKnown 2 (some .boolean), Cond.methodLink RX2 120 yX2_takeIn, Cond.instanceMethod yX2_takeIn, Cond.selects RX2 yX2_takeIn yX2_takeIn, Cond.code yX2_takeIn cX2_takeIn 3 none, Cond.methodLink RX0 123 yX2_endDrumBeat, Cond.instanceMethod yX2_endDrumBeat, Cond.selects RX2 yX2_endDrumBeat yX2_endDrumBeat]
def wsX3_pairsIfLarger_r7 : List Cond := [Cond.code yX2_endDrumBeat cX2_endDrumBeat 1 none, Cond.methodLink RX3 167 yX0_knownPairs, Cond.instanceMethod yX0_knownPairs, Cond.selects RX0 yX0_knownPairs yX0_knownPairs, Cond.code yX0_knownPairs cX0_knownPairs 3 (some .int), Cond.methodLink RX0 86 yX2_phrasesKnown, Cond.instanceMethod yX2_phrasesKnown, Cond.selects RX2 yX2_phrasesKnown yX2_phrasesKnown, Cond.code yX2_phrasesKnown cX2_phrasesKnown 3 (some .int)]
def wsX3_pairsIfLarger : List Cond := .code yX3_pairsIfLarger cX3_pairsIfLarger 3 (some .int) :: ((wsX3_pairsIfLarger_r1 ++ (wsX3_pairsIfLarger_r2 ++ (wsX3_pairsIfLarger_r3 ++ (wsX3_pairsIfLarger_r4 ++ (wsX3_pairsIfLarger_r5 ++ (wsX3_pairsIfLarger_r6 ++ wsX3_pairsIfLarger_r7)))))) ++ wsX30 ++ wsX00 ++ wsX20 ++ wsX10)
def wsX3_larger_r1 : List Cond := [Cond.classLink RX3 26 "java/lang/IllegalArgumentException", Cond.initialized "java/lang/IllegalArgumentException", Cond.fieldLink RX3 16 "DrumTalk" "trial" "LDrumTalk$Land;", Cond.fieldLink RX3 12 "DrumTalk" "land" "LDrumTalk$Land;", Cond.fieldLink RX3 33 "DrumTalk$Land" "villageCount" "I", Cond.fieldLink RX3 152 "DrumTalk$Land" "villages" "[LDrumTalk$Village;", Cond.fieldLink RX3 56 "DrumTalk$Village" "drum" "I", Cond.methodLink RX3 148 yX0_copy, Cond.instanceMethod yX0_copy, Cond.selects RX0 yX0_copy yX0_copy, Cond.initialized RX0, Cond.code yX0_copy cX0_copy 3 none, Cond.fieldLink RX0 25 "DrumTalk$Land" "villageCount" "I", Cond.fieldLink RX0 11 "DrumTalk$Land" "villages" "[LDrumTalk$Village;", Cond.fieldLink RX0 17 "DrumTalk$Land" "tones" "[I", Cond.methodLink RX0 33 arraycopyName, Cond.native arraycopyName, Cond.static arraycopyName, Cond.initialized "java/lang/System", Cond.fieldLink RX0 21 "DrumTalk$Land" "toneCounts" "[I", Cond.fieldLink RX0 39 "DrumTalk$Land" "phraseCount" "I", Cond.fieldLink RX0 42 "DrumTalk$Land" "beat" "I", Cond.fieldLink RX0 45 "DrumTalk$Land" "drummings" "I", Cond.methodLink RX0 29 yX2_copy]
def wsX3_larger_r2 : List Cond := [Cond.instanceMethod yX2_copy, Cond.selects RX2 yX2_copy yX2_copy, Cond.initialized RX2, Cond.code yX2_copy cX2_copy 2 none, Cond.fieldLink RX2 41 "DrumTalk$Village" "x" "I", Cond.fieldLink RX2 44 "DrumTalk$Village" "y" "I", Cond.fieldLink RX2 9 "DrumTalk$Village" "drum" "I", Cond.fieldLink RX2 47 "DrumTalk$Village" "cliff" "Z", Cond.fieldLink RX2 51 "DrumTalk$Village" "awakeFrom" "I", Cond.fieldLink RX2 15 "DrumTalk$Village" "awakeBeats" "I", Cond.fieldLink RX2 18 "DrumTalk$Village" "drumming" "I", Cond.fieldLink RX2 54 "DrumTalk$Village" "beatsLeft" "I", Cond.fieldLink RX2 21 "DrumTalk$Village" "queue" "[I", Cond.methodLink RX2 57 arraycopyName, Cond.fieldLink RX2 63 "DrumTalk$Village" "queued" "I", Cond.fieldLink RX2 25 "DrumTalk$Village" "knownSince" "[I", Cond.fieldLink RX2 31 "DrumTalk$Village" "inTheAir" "LDrumTalk$Sounds;", Cond.fieldLink RX2 70 "DrumTalk$Village" "drowned" "I", Cond.methodLink RX2 66 yX1_copy, Cond.instanceMethod yX1_copy, Cond.selects RX1 yX1_copy yX1_copy, Cond.initialized RX1, Cond.code yX1_copy cX1_copy 2 none, Cond.fieldLink RX1 9 "DrumTalk$Sounds" "phrases" "[I"]
def wsX3_larger_r3 : List Cond := [Cond.fieldLink RX1 24 "DrumTalk$Sounds" "size" "I", Cond.methodLink RX1 28 arraycopyName, Cond.fieldLink RX1 15 "DrumTalk$Sounds" "firstBeats" "[I", Cond.fieldLink RX1 18 "DrumTalk$Sounds" "lastBeats" "[I", Cond.fieldLink RX1 21 "DrumTalk$Sounds" "drowned" "[I", Cond.methodLink RX3 145 yX0_letGo, Cond.instanceMethod yX0_letGo, Cond.selects RX0 yX0_letGo yX0_letGo, Cond.code yX0_letGo cX0_letGo 4 (some .int), Cond.methodLink RX0 100 yX0_isQuiet, Cond.instanceMethod yX0_isQuiet, Cond.selects RX0 yX0_isQuiet yX0_isQuiet, Cond.code yX0_isQuiet cX0_isQuiet 3 (some .boolean), Cond.fieldLink RX0 106 "DrumTalk$Village" "queued" "I", Cond.fieldLink RX0 74 "DrumTalk$Village" "inTheAir" "LDrumTalk$Sounds;", Cond.fieldLink RX0 78 "DrumTalk$Sounds" "size" "I", Cond.methodLink RX0 70 yX2_isDrumming, Cond.instanceMethod yX2_isDrumming, Cond.selects RX2 yX2_isDrumming yX2_isDrumming, Cond.code yX2_isDrumming cX2_isDrumming 1 (some .boolean), Cond.methodLink RX0 103 yX0_goBeat, Cond.instanceMethod yX0_goBeat, Cond.selects RX0 yX0_goBeat yX0_goBeat, Cond.code yX0_goBeat cX0_goBeat 3 (some .int)]
def wsX3_larger_r4 : List Cond := [Cond.methodLink RX0 109 yX2_isReady, Cond.instanceMethod yX2_isReady, Cond.selects RX2 yX2_isReady yX2_isReady, Cond.code yX2_isReady cX2_isReady 2 (some .boolean), Cond.methodLink RX2 87 yX2_isDrumming, Cond.methodLink RX2 73 yX2_isAwake, Cond.instanceMethod yX2_isAwake, Cond.selects RX2 yX2_isAwake yX2_isAwake, Cond.code yX2_isAwake cX2_isAwake 2 (some .boolean), Cond.methodLink RX2 81 yJ9_floorMod_7cf53, Cond.static yJ9_floorMod_7cf53, Cond.initialized RJ9, Cond.code yJ9_floorMod_7cf53 cJ9_floorMod_7cf53 3 (some .int), Cond.methodLink RX0 112 yX0_beginDrumming, Cond.instanceMethod yX0_beginDrumming, Cond.selects RX0 yX0_beginDrumming yX0_beginDrumming, Cond.code yX0_beginDrumming cX0_beginDrumming 9 none, Cond.fieldLink RX0 129 "DrumTalk$Village" "drumming" "I", Cond.fieldLink RX0 132 "DrumTalk$Village" "beatsLeft" "I", Cond.fieldLink RX0 139 "DrumTalk$Village" "cliff" "Z", Cond.methodLink RX0 126 yX2_takeFromQueue, Cond.instanceMethod yX2_takeFromQueue, Cond.selects RX2 yX2_takeFromQueue yX2_takeFromQueue, Cond.code yX2_takeFromQueue cX2_takeFromQueue 2 (some .int)]
def wsX3_larger_r5 : List Cond := [Cond.methodLink RX0 93 yX2_distanceTo, Cond.instanceMethod yX2_distanceTo, Cond.selects RX2 yX2_distanceTo yX2_distanceTo, Cond.code yX2_distanceTo cX2_distanceTo 2 (some .int), Cond.methodLink RX2 91 Lib.Math.abs.name, Cond.static Lib.Math.abs.name, Cond.initialized "java/lang/Math", Cond.code Lib.Math.abs.name Lib.Math.abs.code 1 (some .int), Cond.methodLink RX0 97 yX2_isHeardAt, Cond.instanceMethod yX2_isHeardAt, Cond.selects RX2 yX2_isHeardAt yX2_isHeardAt, Cond.code yX2_isHeardAt cX2_isHeardAt 2 (some .boolean), Cond.methodLink RX0 135 yX1_add, Cond.instanceMethod yX1_add, Cond.selects RX1 yX1_add yX1_add, Cond.code yX1_add cX1_add 4 none, Cond.methodLink RX0 116 yX2_drownIfDisturbed, Cond.instanceMethod yX2_drownIfDisturbed, Cond.selects RX2 yX2_drownIfDisturbed yX2_drownIfDisturbed, Cond.code yX2_drownIfDisturbed cX2_drownIfDisturbed 2 none, Cond.methodLink RX2 98 yX1_lasting, Cond.instanceMethod yX1_lasting, Cond.selects RX1 yX1_lasting yX1_lasting, Cond.code yX1_lasting cX1_lasting 4 (some .int)]
def wsX3_larger_r6 : List Cond := [Cond.methodLink RX2 101 yX1_drown, Cond.instanceMethod yX1_drown, Cond.selects RX1 yX1_drown yX1_drown, Cond.code yX1_drown cX1_drown 3 none, Cond.methodLink RX0 119 yX2_endSounds, Cond.instanceMethod yX2_endSounds, Cond.selects RX2 yX2_endSounds yX2_endSounds, Cond.code yX2_endSounds cX2_endSounds 5 (some .int), Cond.fieldLink RX2 105 "DrumTalk$Sounds" "size" "I", Cond.fieldLink RX2 108 "DrumTalk$Sounds" "lastBeats" "[I", Cond.fieldLink RX2 115 "DrumTalk$Sounds" "drowned" "[I", Cond.fieldLink RX2 117 "DrumTalk$Sounds" "phrases" "[I", Cond.methodLink RX2 111 yX1_move, Cond.instanceMethod yX1_move, Cond.selects RX1 yX1_move yX1_move, Cond.code yX1_move cX1_move 3 none, Cond.methodLink RX2 95 yX2_isKnown, Cond.instanceMethod yX2_isKnown, Cond.selects RX2 yX2_isKnown yX2_isKnown, Cond.code yX2_isKnown cX2_isKnown 2 (some .boolean), Cond.methodLink RX2 120 yX2_takeIn, Cond.instanceMethod yX2_takeIn, Cond.selects RX2 yX2_takeIn yX2_takeIn, Cond.code yX2_takeIn cX2_takeIn 3 none]
def wsX3_larger_r7 : List Cond := [Cond.methodLink RX0 123 yX2_endDrumBeat, Cond.instanceMethod yX2_endDrumBeat, Cond.selects RX2 yX2_endDrumBeat yX2_endDrumBeat, Cond.code yX2_endDrumBeat cX2_endDrumBeat 1 none, Cond.methodLink RX3 167 yX0_knownPairs, Cond.instanceMethod yX0_knownPairs, Cond.selects RX0 yX0_knownPairs yX0_knownPairs, Cond.code yX0_knownPairs cX0_knownPairs 3 (some .int), Cond.methodLink RX0 86 yX2_phrasesKnown, Cond.instanceMethod yX2_phrasesKnown, Cond.selects RX2 yX2_phrasesKnown yX2_phrasesKnown, Cond.code yX2_phrasesKnown cX2_phrasesKnown 3 (some .int), Cond.methodLink RX3 171 yX3_pairsIfLarger, Cond.instanceMethod yX3_pairsIfLarger, Cond.selects RX3 yX3_pairsIfLarger yX3_pairsIfLarger, Cond.initialized RX3, Cond.code yX3_pairsIfLarger cX3_pairsIfLarger 3 (some .int)]
def wsX3_larger : List Cond := .code yX3_larger cX3_larger 6 (some .int) :: ((wsX3_larger_r1 ++ (wsX3_larger_r2 ++ (wsX3_larger_r3 ++ (wsX3_larger_r4 ++ (wsX3_larger_r5 ++ (wsX3_larger_r6 ++ wsX3_larger_r7)))))) ++ wsX30 ++ wsX00 ++ wsX20 ++ wsX10 ++ (vx_atS RX3 30 "java/lang/IllegalArgumentException" ["java/lang/RuntimeException", "java/lang/Exception"]).filter goodWord)
def wsX3_known : List Cond := .code yX3_known cX3_known 2 (some .double) :: ([.fieldLink RX3 12 "DrumTalk" "land" "LDrumTalk$Land;", .fieldLink RX3 33 "DrumTalk$Land" "villageCount" "I", .fieldLink RX3 79 "DrumTalk$Land" "phraseCount" "I", .methodLink RX3 167 yX0_knownPairs, .instanceMethod yX0_knownPairs, .selects RX0 yX0_knownPairs yX0_knownPairs, .initialized RX0, .code yX0_knownPairs cX0_knownPairs 3 (some .int), .fieldLink RX0 25 "DrumTalk$Land" "villageCount" "I", .fieldLink RX0 11 "DrumTalk$Land" "villages" "[LDrumTalk$Village;", .methodLink RX0 86 yX2_phrasesKnown, .instanceMethod yX2_phrasesKnown, .selects RX2 yX2_phrasesKnown yX2_phrasesKnown, .initialized RX2, .code yX2_phrasesKnown cX2_phrasesKnown 3 (some .int), .methodLink RX2 95 yX2_isKnown, .instanceMethod yX2_isKnown, .selects RX2 yX2_isKnown yX2_isKnown, .code yX2_isKnown cX2_isKnown 2 (some .boolean), .fieldLink RX2 25 "DrumTalk$Village" "knownSince" "[I"] ++ wsX30 ++ wsX00 ++ wsX20)
def wsX3_digestOn_r1 : List Cond := [Cond.constantLong RX3 176 (31), Cond.fieldLink RX3 12 "DrumTalk" "land" "LDrumTalk$Land;", Cond.fieldLink RX3 100 "DrumTalk$Land" "beat" "I", Cond.fieldLink RX3 124 "DrumTalk$Village" "inTheAir" "LDrumTalk$Sounds;", Cond.fieldLink RX3 95 "DrumTalk$Village" "queued" "I", Cond.fieldLink RX3 117 "DrumTalk$Village" "queue" "[I", Cond.fieldLink RX3 79 "DrumTalk$Land" "phraseCount" "I", Cond.fieldLink RX3 121 "DrumTalk$Village" "knownSince" "[I", Cond.methodLink RX3 112 yX2_figure, Cond.instanceMethod yX2_figure, Cond.selects RX2 yX2_figure yX2_figure, Cond.initialized RX2, Cond.code yX2_figure cX2_figure 3 (some .int), Cond.fieldLink RX2 41 "DrumTalk$Village" "x" "I", Cond.fieldLink RX2 44 "DrumTalk$Village" "y" "I", Cond.fieldLink RX2 9 "DrumTalk$Village" "drum" "I", Cond.fieldLink RX2 47 "DrumTalk$Village" "cliff" "Z", Cond.fieldLink RX2 18 "DrumTalk$Village" "drumming" "I", Cond.fieldLink RX2 54 "DrumTalk$Village" "beatsLeft" "I", Cond.fieldLink RX2 63 "DrumTalk$Village" "queued" "I", Cond.fieldLink RX2 70 "DrumTalk$Village" "drowned" "I", Cond.methodLink RX2 73 yX2_isAwake, Cond.instanceMethod yX2_isAwake, Cond.selects RX2 yX2_isAwake yX2_isAwake]
def wsX3_digestOn_r2 : List Cond := [Cond.code yX2_isAwake cX2_isAwake 2 (some .boolean), Cond.fieldLink RX2 51 "DrumTalk$Village" "awakeFrom" "I", Cond.fieldLink RX2 15 "DrumTalk$Village" "awakeBeats" "I", Cond.methodLink RX2 81 yJ9_floorMod_7cf53, Cond.static yJ9_floorMod_7cf53, Cond.initialized RJ9, Cond.code yJ9_floorMod_7cf53 cJ9_floorMod_7cf53 3 (some .int), Cond.methodLink RX2 77 yX2_phrasesKnown, Cond.instanceMethod yX2_phrasesKnown, Cond.selects RX2 yX2_phrasesKnown yX2_phrasesKnown, Cond.code yX2_phrasesKnown cX2_phrasesKnown 3 (some .int), Cond.methodLink RX2 95 yX2_isKnown, Cond.instanceMethod yX2_isKnown, Cond.selects RX2 yX2_isKnown yX2_isKnown, Cond.code yX2_isKnown cX2_isKnown 2 (some .boolean), Cond.fieldLink RX2 25 "DrumTalk$Village" "knownSince" "[I", Cond.methodLink RX3 128 yX1_lasting, Cond.instanceMethod yX1_lasting, Cond.selects RX1 yX1_lasting yX1_lasting, Cond.initialized RX1, Cond.code yX1_lasting cX1_lasting 4 (some .int), Cond.fieldLink RX1 24 "DrumTalk$Sounds" "size" "I", Cond.fieldLink RX1 15 "DrumTalk$Sounds" "firstBeats" "[I"]
def wsX3_digestOn : List Cond := .code yX3_digestOn cX3_digestOn 7 (some .long) :: ((wsX3_digestOn_r1 ++ wsX3_digestOn_r2) ++ wsX30 ++ wsX00 ++ wsX20 ++ wsX10)
def wsX3_digest_r1 : List Cond := [Cond.constantLong RX3 174 (769), Cond.constantLong RX3 176 (31), Cond.fieldLink RX3 12 "DrumTalk" "land" "LDrumTalk$Land;", Cond.fieldLink RX3 79 "DrumTalk$Land" "phraseCount" "I", Cond.fieldLink RX3 178 "DrumTalk$Land" "tones" "[I", Cond.fieldLink RX3 33 "DrumTalk$Land" "villageCount" "I", Cond.fieldLink RX3 152 "DrumTalk$Land" "villages" "[LDrumTalk$Village;", Cond.methodLink RX3 135 yX0_figure, Cond.instanceMethod yX0_figure, Cond.selects RX0 yX0_figure yX0_figure, Cond.initialized RX0, Cond.code yX0_figure cX0_figure 2 (some .int), Cond.fieldLink RX0 42 "DrumTalk$Land" "beat" "I", Cond.fieldLink RX0 25 "DrumTalk$Land" "villageCount" "I", Cond.fieldLink RX0 39 "DrumTalk$Land" "phraseCount" "I", Cond.fieldLink RX0 45 "DrumTalk$Land" "drummings" "I", Cond.methodLink RX0 57 yX0_drummers, Cond.instanceMethod yX0_drummers, Cond.selects RX0 yX0_drummers yX0_drummers, Cond.code yX0_drummers cX0_drummers 3 (some .int), Cond.fieldLink RX0 11 "DrumTalk$Land" "villages" "[LDrumTalk$Village;", Cond.methodLink RX0 70 yX2_isDrumming, Cond.instanceMethod yX2_isDrumming, Cond.selects RX2 yX2_isDrumming yX2_isDrumming]
def wsX3_digest_r2 : List Cond := [Cond.initialized RX2, Cond.code yX2_isDrumming cX2_isDrumming 1 (some .boolean), Cond.fieldLink RX2 18 "DrumTalk$Village" "drumming" "I", Cond.methodLink RX0 61 yX0_soundsInTheAir, Cond.instanceMethod yX0_soundsInTheAir, Cond.selects RX0 yX0_soundsInTheAir yX0_soundsInTheAir, Cond.code yX0_soundsInTheAir cX0_soundsInTheAir 3 (some .int), Cond.fieldLink RX0 74 "DrumTalk$Village" "inTheAir" "LDrumTalk$Sounds;", Cond.fieldLink RX0 78 "DrumTalk$Sounds" "size" "I", Cond.methodLink RX0 64 yX0_soundsDrowned, Cond.instanceMethod yX0_soundsDrowned, Cond.selects RX0 yX0_soundsDrowned yX0_soundsDrowned, Cond.code yX0_soundsDrowned cX0_soundsDrowned 3 (some .int), Cond.fieldLink RX0 83 "DrumTalk$Village" "drowned" "I", Cond.methodLink RX0 67 yX0_knownPairs, Cond.instanceMethod yX0_knownPairs, Cond.selects RX0 yX0_knownPairs yX0_knownPairs, Cond.code yX0_knownPairs cX0_knownPairs 3 (some .int), Cond.methodLink RX0 86 yX2_phrasesKnown, Cond.instanceMethod yX2_phrasesKnown, Cond.selects RX2 yX2_phrasesKnown yX2_phrasesKnown, Cond.code yX2_phrasesKnown cX2_phrasesKnown 3 (some .int), Cond.methodLink RX2 95 yX2_isKnown, Cond.instanceMethod yX2_isKnown]
def wsX3_digest_r3 : List Cond := [Cond.selects RX2 yX2_isKnown yX2_isKnown, Cond.code yX2_isKnown cX2_isKnown 2 (some .boolean), Cond.fieldLink RX2 25 "DrumTalk$Village" "knownSince" "[I", Cond.methodLink RX3 181 yX3_digestOn, Cond.instanceMethod yX3_digestOn, Cond.selects RX3 yX3_digestOn yX3_digestOn, Cond.initialized RX3, Cond.code yX3_digestOn cX3_digestOn 7 (some .long), Cond.fieldLink RX3 100 "DrumTalk$Land" "beat" "I", Cond.fieldLink RX3 124 "DrumTalk$Village" "inTheAir" "LDrumTalk$Sounds;", Cond.fieldLink RX3 95 "DrumTalk$Village" "queued" "I", Cond.fieldLink RX3 117 "DrumTalk$Village" "queue" "[I", Cond.fieldLink RX3 121 "DrumTalk$Village" "knownSince" "[I", Cond.methodLink RX3 112 yX2_figure, Cond.instanceMethod yX2_figure, Cond.selects RX2 yX2_figure yX2_figure, Cond.code yX2_figure cX2_figure 3 (some .int), Cond.fieldLink RX2 41 "DrumTalk$Village" "x" "I", Cond.fieldLink RX2 44 "DrumTalk$Village" "y" "I", Cond.fieldLink RX2 9 "DrumTalk$Village" "drum" "I", Cond.fieldLink RX2 47 "DrumTalk$Village" "cliff" "Z", Cond.fieldLink RX2 54 "DrumTalk$Village" "beatsLeft" "I", Cond.fieldLink RX2 63 "DrumTalk$Village" "queued" "I", Cond.fieldLink RX2 70 "DrumTalk$Village" "drowned" "I"]
def wsX3_digest_r4 : List Cond := [Cond.methodLink RX2 73 yX2_isAwake, Cond.instanceMethod yX2_isAwake, Cond.selects RX2 yX2_isAwake yX2_isAwake, Cond.code yX2_isAwake cX2_isAwake 2 (some .boolean), Cond.fieldLink RX2 51 "DrumTalk$Village" "awakeFrom" "I", Cond.fieldLink RX2 15 "DrumTalk$Village" "awakeBeats" "I", Cond.methodLink RX2 81 yJ9_floorMod_7cf53, Cond.static yJ9_floorMod_7cf53, Cond.initialized RJ9, Cond.code yJ9_floorMod_7cf53 cJ9_floorMod_7cf53 3 (some .int), Cond.methodLink RX2 77 yX2_phrasesKnown, Cond.methodLink RX3 128 yX1_lasting, Cond.instanceMethod yX1_lasting, Cond.selects RX1 yX1_lasting yX1_lasting, Cond.initialized RX1, Cond.code yX1_lasting cX1_lasting 4 (some .int), Cond.fieldLink RX1 24 "DrumTalk$Sounds" "size" "I", Cond.fieldLink RX1 15 "DrumTalk$Sounds" "firstBeats" "[I"]
def wsX3_digest : List Cond := .code yX3_digest cX3_digest 4 (some .long) :: ((wsX3_digest_r1 ++ (wsX3_digest_r2 ++ (wsX3_digest_r3 ++ wsX3_digest_r4))) ++ wsX30 ++ wsX00 ++ wsX20 ++ wsX10)
def wsX4_init : List Cond := .code yX4_init cX4_init 2 none :: ([.fieldLink RX4 3 "DrumTalkModel$State" "this$0" "LDrumTalkModel;", .methodLink RX4 9 objectInit, .instanceMethod objectInit, .code objectInit ⟨#[0xb1]⟩ 1 none, .arrayClass .int, .fieldLink RX4 15 "DrumTalkModel$State" "drum" "[I", .fieldLink RX4 19 "DrumTalkModel$State" "drums" "[I", .fieldLink RX4 22 "DrumTalkModel$State" "left" "[I", .fieldLink RX4 25 "DrumTalkModel$State" "queued" "[I", .fieldLink RX4 28 "DrumTalkModel$State" "queue" "[I", .fieldLink RX4 31 "DrumTalkModel$State" "known" "[I", .fieldLink RX4 34 "DrumTalkModel$State" "drowned" "[I", .fieldLink RX4 37 "DrumTalkModel$State" "where" "[I", .fieldLink RX4 40 "DrumTalkModel$State" "what" "[I", .fieldLink RX4 43 "DrumTalkModel$State" "first" "[I", .fieldLink RX4 46 "DrumTalkModel$State" "last" "[I", .fieldLink RX4 49 "DrumTalkModel$State" "lost" "[I"] ++ wsX40)
def wsX4_copy : List Cond := .code yX4_copy cX4_copy 4 none :: ([.methodLink RX4 52 arraycopyName, .native arraycopyName, .static arraycopyName, .initialized "java/lang/System"])
def wsX4_become : List Cond := .code yX4_become cX4_become 2 none :: ([.fieldLink RX4 58 "DrumTalkModel$State" "beat" "I", .fieldLink RX4 62 "DrumTalkModel$State" "begun" "I", .fieldLink RX4 65 "DrumTalkModel$State" "sounds" "I", .fieldLink RX4 15 "DrumTalkModel$State" "drum" "[I", .fieldLink RX4 19 "DrumTalkModel$State" "drums" "[I", .fieldLink RX4 22 "DrumTalkModel$State" "left" "[I", .fieldLink RX4 25 "DrumTalkModel$State" "queued" "[I", .fieldLink RX4 28 "DrumTalkModel$State" "queue" "[I", .fieldLink RX4 31 "DrumTalkModel$State" "known" "[I", .fieldLink RX4 34 "DrumTalkModel$State" "drowned" "[I", .fieldLink RX4 37 "DrumTalkModel$State" "where" "[I", .fieldLink RX4 40 "DrumTalkModel$State" "what" "[I", .fieldLink RX4 43 "DrumTalkModel$State" "first" "[I", .fieldLink RX4 46 "DrumTalkModel$State" "last" "[I", .fieldLink RX4 49 "DrumTalkModel$State" "lost" "[I", .methodLink RX4 68 yX4_copy, .instanceMethod yX4_copy, .selects RX4 yX4_copy yX4_copy, .initialized RX4, .code yX4_copy cX4_copy 4 none, .methodLink RX4 52 arraycopyName, .native arraycopyName, .static arraycopyName, .initialized "java/lang/System"] ++ wsX40)
def wsX4_isAwake : List Cond := .code yX4_isAwake cX4_isAwake 2 (some .boolean) :: ([.fieldLink RX4 58 "DrumTalkModel$State" "beat" "I", .fieldLink RX4 3 "DrumTalkModel$State" "this$0" "LDrumTalkModel;"] ++ wsX40 ++ wsX50)
def wsX5_far : List Cond := .code yX5_far cX5_far 3 (some .int) :: ([.fieldLink RX5 9 "DrumTalkModel" "x" "[I", .methodLink RX5 60 Lib.Math.abs.name, .static Lib.Math.abs.name, .initialized "java/lang/Math", .code Lib.Math.abs.name Lib.Math.abs.code 1 (some .int), .fieldLink RX5 13 "DrumTalkModel" "y" "[I"] ++ wsX50)
def wsX4_hears : List Cond := .code yX4_hears cX4_hears 3 (some .boolean) :: ([.fieldLink RX4 3 "DrumTalkModel$State" "this$0" "LDrumTalkModel;", .fieldLink RX4 15 "DrumTalkModel$State" "drum" "[I", .instanceMethod yX5_far, .initialized RX5, .selects RX5 yX5_far yX5_far, .code yX5_far cX5_far 3 (some .int), .fieldLink RX5 9 "DrumTalkModel" "x" "[I", .methodLink RX5 60 Lib.Math.abs.name, .static Lib.Math.abs.name, .initialized "java/lang/Math", .code Lib.Math.abs.name Lib.Math.abs.code 1 (some .int), .fieldLink RX5 13 "DrumTalkModel" "y" "[I"] ++ wsX40 ++ wsX50)
def wsX4_sound : List Cond := .code yX4_sound cX4_sound 4 none :: ([.fieldLink RX4 37 "DrumTalkModel$State" "where" "[I", .fieldLink RX4 65 "DrumTalkModel$State" "sounds" "I", .fieldLink RX4 40 "DrumTalkModel$State" "what" "[I", .fieldLink RX4 43 "DrumTalkModel$State" "first" "[I", .fieldLink RX4 46 "DrumTalkModel$State" "last" "[I", .fieldLink RX4 3 "DrumTalkModel$State" "this$0" "LDrumTalkModel;", .fieldLink RX4 49 "DrumTalkModel$State" "lost" "[I"] ++ wsX40 ++ wsX50)
def wsX4_begin_r1 : List Cond := [Cond.fieldLink RX4 19 "DrumTalkModel$State" "drums" "[I", Cond.fieldLink RX4 25 "DrumTalkModel$State" "queued" "[I", Cond.fieldLink RX4 28 "DrumTalkModel$State" "queue" "[I", Cond.methodLink RX4 52 arraycopyName, Cond.native arraycopyName, Cond.static arraycopyName, Cond.initialized "java/lang/System", Cond.fieldLink RX4 22 "DrumTalkModel$State" "left" "[I", Cond.fieldLink RX4 3 "DrumTalkModel$State" "this$0" "LDrumTalkModel;", Cond.fieldLink RX4 62 "DrumTalkModel$State" "begun" "I", Cond.fieldLink RX4 58 "DrumTalkModel$State" "beat" "I", Cond.methodLink RX4 85 yX4_isAwake, Cond.instanceMethod yX4_isAwake, Cond.selects RX4 yX4_isAwake yX4_isAwake, Cond.initialized RX4, Cond.code yX4_isAwake cX4_isAwake 2 (some .boolean), Cond.methodLink RX4 92 yX4_hears, Cond.instanceMethod yX4_hears, Cond.selects RX4 yX4_hears yX4_hears, Cond.code yX4_hears cX4_hears 3 (some .boolean), Cond.fieldLink RX4 15 "DrumTalkModel$State" "drum" "[I", Cond.instanceMethod yX5_far, Cond.initialized RX5, Cond.selects RX5 yX5_far yX5_far]
def wsX4_begin_r2 : List Cond := [Cond.code yX5_far cX5_far 3 (some .int), Cond.fieldLink RX5 9 "DrumTalkModel" "x" "[I", Cond.methodLink RX5 60 Lib.Math.abs.name, Cond.static Lib.Math.abs.name, Cond.initialized "java/lang/Math", Cond.code Lib.Math.abs.name Lib.Math.abs.code 1 (some .int), Cond.fieldLink RX5 13 "DrumTalkModel" "y" "[I", Cond.methodLink RX4 96 yX4_sound, Cond.instanceMethod yX4_sound, Cond.selects RX4 yX4_sound yX4_sound, Cond.code yX4_sound cX4_sound 4 none, Cond.fieldLink RX4 37 "DrumTalkModel$State" "where" "[I", Cond.fieldLink RX4 65 "DrumTalkModel$State" "sounds" "I", Cond.fieldLink RX4 40 "DrumTalkModel$State" "what" "[I", Cond.fieldLink RX4 43 "DrumTalkModel$State" "first" "[I", Cond.fieldLink RX4 46 "DrumTalkModel$State" "last" "[I", Cond.fieldLink RX4 49 "DrumTalkModel$State" "lost" "[I"]
def wsX4_begin : List Cond := .code yX4_begin cX4_begin 5 none :: ((wsX4_begin_r1 ++ wsX4_begin_r2) ++ wsX40 ++ wsX50)
def wsX4_lasting : List Cond := .code yX4_lasting cX4_lasting 4 (some .int) :: ([.fieldLink RX4 65 "DrumTalkModel$State" "sounds" "I", .fieldLink RX4 37 "DrumTalkModel$State" "where" "[I", .fieldLink RX4 43 "DrumTalkModel$State" "first" "[I", .fieldLink RX4 58 "DrumTalkModel$State" "beat" "I", .fieldLink RX4 46 "DrumTalkModel$State" "last" "[I"] ++ wsX40)
def wsX4_learns : List Cond := .code yX4_learns cX4_learns 3 (some .boolean) :: ([.fieldLink RX4 31 "DrumTalkModel$State" "known" "[I", .fieldLink RX4 58 "DrumTalkModel$State" "beat" "I"] ++ wsX40)
def wsX4_put : List Cond := .code yX4_put cX4_put 3 none :: ([.fieldLink RX4 28 "DrumTalkModel$State" "queue" "[I", .fieldLink RX4 25 "DrumTalkModel$State" "queued" "[I"] ++ wsX40)
def wsX4_pass_r1 : List Cond := [Cond.fieldLink RX4 3 "DrumTalkModel$State" "this$0" "LDrumTalkModel;", Cond.fieldLink RX4 19 "DrumTalkModel$State" "drums" "[I", Cond.fieldLink RX4 65 "DrumTalkModel$State" "sounds" "I", Cond.fieldLink RX4 37 "DrumTalkModel$State" "where" "[I", Cond.fieldLink RX4 43 "DrumTalkModel$State" "first" "[I", Cond.fieldLink RX4 58 "DrumTalkModel$State" "beat" "I", Cond.fieldLink RX4 49 "DrumTalkModel$State" "lost" "[I", Cond.fieldLink RX4 46 "DrumTalkModel$State" "last" "[I", Cond.fieldLink RX4 40 "DrumTalkModel$State" "what" "[I", Cond.fieldLink RX4 34 "DrumTalkModel$State" "drowned" "[I", Cond.fieldLink RX4 25 "DrumTalkModel$State" "queued" "[I", Cond.fieldLink RX4 22 "DrumTalkModel$State" "left" "[I", Cond.methodLink RX4 118 Lib.Math.max.name, Cond.static Lib.Math.max.name, Cond.initialized "java/lang/Math", Cond.code Lib.Math.max.name Lib.Math.max.code 2 (some .int), Cond.methodLink RX4 103 yX4_begin, Cond.instanceMethod yX4_begin, Cond.selects RX4 yX4_begin yX4_begin, Cond.initialized RX4, Cond.code yX4_begin cX4_begin 5 none, Cond.fieldLink RX4 28 "DrumTalkModel$State" "queue" "[I", Cond.methodLink RX4 52 arraycopyName, Cond.native arraycopyName]
def wsX4_pass_r2 : List Cond := [Cond.static arraycopyName, Cond.initialized "java/lang/System", Cond.fieldLink RX4 62 "DrumTalkModel$State" "begun" "I", Cond.methodLink RX4 85 yX4_isAwake, Cond.instanceMethod yX4_isAwake, Cond.selects RX4 yX4_isAwake yX4_isAwake, Cond.code yX4_isAwake cX4_isAwake 2 (some .boolean), Cond.methodLink RX4 92 yX4_hears, Cond.instanceMethod yX4_hears, Cond.selects RX4 yX4_hears yX4_hears, Cond.code yX4_hears cX4_hears 3 (some .boolean), Cond.fieldLink RX4 15 "DrumTalkModel$State" "drum" "[I", Cond.instanceMethod yX5_far, Cond.initialized RX5, Cond.selects RX5 yX5_far yX5_far, Cond.code yX5_far cX5_far 3 (some .int), Cond.fieldLink RX5 9 "DrumTalkModel" "x" "[I", Cond.methodLink RX5 60 Lib.Math.abs.name, Cond.static Lib.Math.abs.name, Cond.code Lib.Math.abs.name Lib.Math.abs.code 1 (some .int), Cond.fieldLink RX5 13 "DrumTalkModel" "y" "[I", Cond.methodLink RX4 96 yX4_sound, Cond.instanceMethod yX4_sound, Cond.selects RX4 yX4_sound yX4_sound]
def wsX4_pass_r3 : List Cond := [Cond.code yX4_sound cX4_sound 4 none, Cond.methodLink RX4 107 yX4_lasting, Cond.instanceMethod yX4_lasting, Cond.selects RX4 yX4_lasting yX4_lasting, Cond.code yX4_lasting cX4_lasting 4 (some .int), Cond.methodLink RX4 111 yX4_learns, Cond.instanceMethod yX4_learns, Cond.selects RX4 yX4_learns yX4_learns, Cond.code yX4_learns cX4_learns 3 (some .boolean), Cond.fieldLink RX4 31 "DrumTalkModel$State" "known" "[I", Cond.methodLink RX4 114 yX4_put, Cond.instanceMethod yX4_put, Cond.selects RX4 yX4_put yX4_put, Cond.code yX4_put cX4_put 3 none]
def wsX4_pass : List Cond := .code yX4_pass cX4_pass 4 (some .int) :: ((wsX4_pass_r1 ++ (wsX4_pass_r2 ++ wsX4_pass_r3)) ++ wsX40 ++ wsX50)
def wsX4_knowing : List Cond := .code yX4_knowing cX4_knowing 4 (some .int) :: ([.fieldLink RX4 3 "DrumTalkModel$State" "this$0" "LDrumTalkModel;", .fieldLink RX4 31 "DrumTalkModel$State" "known" "[I"] ++ wsX40 ++ wsX50)
def wsX4_pairs : List Cond := .code yX4_pairs cX4_pairs 3 (some .int) :: ([.fieldLink RX4 3 "DrumTalkModel$State" "this$0" "LDrumTalkModel;", .methodLink RX4 126 yX4_knowing, .instanceMethod yX4_knowing, .selects RX4 yX4_knowing yX4_knowing, .initialized RX4, .code yX4_knowing cX4_knowing 4 (some .int), .fieldLink RX4 31 "DrumTalkModel$State" "known" "[I"] ++ wsX40 ++ wsX50)
def wsX5_init_r1 : List Cond := [Cond.methodLink RX5 1 objectInit, Cond.instanceMethod objectInit, Cond.code objectInit ⟨#[0xb1]⟩ 1 none, Cond.arrayClass .int, Cond.fieldLink RX5 9 "DrumTalkModel" "x" "[I", Cond.fieldLink RX5 13 "DrumTalkModel" "y" "[I", Cond.fieldLink RX5 16 "DrumTalkModel" "cliff" "[I", Cond.fieldLink RX5 19 "DrumTalkModel" "from" "[I", Cond.fieldLink RX5 22 "DrumTalkModel" "beats" "[I", Cond.fieldLink RX5 25 "DrumTalkModel" "tones" "[I", Cond.fieldLink RX5 28 "DrumTalkModel" "length" "[I", Cond.classLink RX5 31 RX4, Cond.instantiable RX4 16, Cond.initialized RX4, Cond.fieldLink RX5 36 "DrumTalkModel" "s" "LDrumTalkModel$State;", Cond.fieldLink RX5 40 "DrumTalkModel" "ahead" "LDrumTalkModel$State;", Cond.instanceMethod yX4_init, Cond.code yX4_init cX4_init 2 none, Cond.fieldLink RX4 3 "DrumTalkModel$State" "this$0" "LDrumTalkModel;", Cond.methodLink RX4 9 objectInit, Cond.fieldLink RX4 15 "DrumTalkModel$State" "drum" "[I", Cond.fieldLink RX4 19 "DrumTalkModel$State" "drums" "[I", Cond.fieldLink RX4 22 "DrumTalkModel$State" "left" "[I", Cond.fieldLink RX4 25 "DrumTalkModel$State" "queued" "[I"]
def wsX5_init_r2 : List Cond := [Cond.fieldLink RX4 28 "DrumTalkModel$State" "queue" "[I", Cond.fieldLink RX4 31 "DrumTalkModel$State" "known" "[I", Cond.fieldLink RX4 34 "DrumTalkModel$State" "drowned" "[I", Cond.fieldLink RX4 37 "DrumTalkModel$State" "where" "[I", Cond.fieldLink RX4 40 "DrumTalkModel$State" "what" "[I", Cond.fieldLink RX4 43 "DrumTalkModel$State" "first" "[I", Cond.fieldLink RX4 46 "DrumTalkModel$State" "last" "[I", Cond.fieldLink RX4 49 "DrumTalkModel$State" "lost" "[I"]
def wsX5_init : List Cond := .code yX5_init cX5_init 2 none :: ((wsX5_init_r1 ++ wsX5_init_r2) ++ wsX50 ++ wsX40)
def wsX5_thrown : List Cond := .code yX5_thrown cX5_thrown 1 (some .int) :: ([.fieldLink RX5 46 "DrumTalkModel" "thrown" "I"] ++ wsX50)
def wsX5_no : List Cond := .code yX5_no cX5_no 2 (some .int) :: ([.fieldLink RX5 46 "DrumTalkModel" "thrown" "I"] ++ wsX50)
def wsX5_isIn : List Cond := .code yX5_isIn cX5_isIn 3 (some .boolean) :: ([])
def wsX5_isVillage : List Cond := .code yX5_isVillage cX5_isVillage 2 (some .boolean) :: ([.fieldLink RX5 50 "DrumTalkModel" "villages" "I", .methodLink RX5 53 yX5_isIn, .static yX5_isIn, .initialized RX5, .code yX5_isIn cX5_isIn 3 (some .boolean)] ++ wsX50)
def wsX5_isPhrase : List Cond := .code yX5_isPhrase cX5_isPhrase 2 (some .boolean) :: ([.fieldLink RX5 57 "DrumTalkModel" "phrases" "I", .methodLink RX5 53 yX5_isIn, .static yX5_isIn, .initialized RX5, .code yX5_isIn cX5_isIn 3 (some .boolean)] ++ wsX50)
def wsX5_found : List Cond := .code yX5_found cX5_found 6 (some .int) :: ([.fieldLink RX5 46 "DrumTalkModel" "thrown" "I", .fieldLink RX5 50 "DrumTalkModel" "villages" "I", .fieldLink RX5 9 "DrumTalkModel" "x" "[I", .fieldLink RX5 13 "DrumTalkModel" "y" "[I", .fieldLink RX5 22 "DrumTalkModel" "beats" "[I", .fieldLink RX5 36 "DrumTalkModel" "s" "LDrumTalkModel$State;", .methodLink RX5 53 yX5_isIn, .static yX5_isIn, .initialized RX5, .code yX5_isIn cX5_isIn 3 (some .boolean), .methodLink RX5 66 yX5_no, .instanceMethod yX5_no, .selects RX5 yX5_no yX5_no, .code yX5_no cX5_no 2 (some .int)] ++ wsX50 ++ wsX40)
def wsX5_setDrum : List Cond := .code yX5_setDrum cX5_setDrum 4 (some .int) :: ([.fieldLink RX5 46 "DrumTalkModel" "thrown" "I", .fieldLink RX5 36 "DrumTalkModel" "s" "LDrumTalkModel$State;", .methodLink RX5 75 yX5_isVillage, .instanceMethod yX5_isVillage, .selects RX5 yX5_isVillage yX5_isVillage, .initialized RX5, .code yX5_isVillage cX5_isVillage 2 (some .boolean), .fieldLink RX5 50 "DrumTalkModel" "villages" "I", .methodLink RX5 53 yX5_isIn, .static yX5_isIn, .code yX5_isIn cX5_isIn 3 (some .boolean), .methodLink RX5 66 yX5_no, .instanceMethod yX5_no, .selects RX5 yX5_no yX5_no, .code yX5_no cX5_no 2 (some .int)] ++ wsX50 ++ wsX40)
def wsX5_setCliff : List Cond := .code yX5_setCliff cX5_setCliff 4 (some .boolean) :: ([.fieldLink RX5 46 "DrumTalkModel" "thrown" "I", .fieldLink RX5 16 "DrumTalkModel" "cliff" "[I", .methodLink RX5 75 yX5_isVillage, .instanceMethod yX5_isVillage, .selects RX5 yX5_isVillage yX5_isVillage, .initialized RX5, .code yX5_isVillage cX5_isVillage 2 (some .boolean), .fieldLink RX5 50 "DrumTalkModel" "villages" "I", .methodLink RX5 53 yX5_isIn, .static yX5_isIn, .code yX5_isIn cX5_isIn 3 (some .boolean), .methodLink RX5 66 yX5_no, .instanceMethod yX5_no, .selects RX5 yX5_no yX5_no, .code yX5_no cX5_no 2 (some .int)] ++ wsX50)
def wsX5_setAwake : List Cond := .code yX5_setAwake cX5_setAwake 5 (some .int) :: ([.fieldLink RX5 46 "DrumTalkModel" "thrown" "I", .fieldLink RX5 22 "DrumTalkModel" "beats" "[I", .fieldLink RX5 19 "DrumTalkModel" "from" "[I", .methodLink RX5 75 yX5_isVillage, .instanceMethod yX5_isVillage, .selects RX5 yX5_isVillage yX5_isVillage, .initialized RX5, .code yX5_isVillage cX5_isVillage 2 (some .boolean), .fieldLink RX5 50 "DrumTalkModel" "villages" "I", .methodLink RX5 53 yX5_isIn, .static yX5_isIn, .code yX5_isIn cX5_isIn 3 (some .boolean), .methodLink RX5 66 yX5_no, .instanceMethod yX5_no, .selects RX5 yX5_no yX5_no, .code yX5_no cX5_no 2 (some .int)] ++ wsX50)
def wsX5_phrase : List Cond := .code yX5_phrase cX5_phrase 6 (some .int) :: ([.fieldLink RX5 46 "DrumTalkModel" "thrown" "I", .fieldLink RX5 57 "DrumTalkModel" "phrases" "I", .fieldLink RX5 25 "DrumTalkModel" "tones" "[I", .fieldLink RX5 28 "DrumTalkModel" "length" "[I", .methodLink RX5 53 yX5_isIn, .static yX5_isIn, .initialized RX5, .code yX5_isIn cX5_isIn 3 (some .boolean), .methodLink RX5 66 yX5_no, .instanceMethod yX5_no, .selects RX5 yX5_no yX5_no, .code yX5_no cX5_no 2 (some .int)] ++ wsX50)
def wsX5_tell_r1 : List Cond := [Cond.fieldLink RX5 46 "DrumTalkModel" "thrown" "I", Cond.fieldLink RX5 36 "DrumTalkModel" "s" "LDrumTalkModel$State;", Cond.methodLink RX5 75 yX5_isVillage, Cond.instanceMethod yX5_isVillage, Cond.selects RX5 yX5_isVillage yX5_isVillage, Cond.initialized RX5, Cond.code yX5_isVillage cX5_isVillage 2 (some .boolean), Cond.fieldLink RX5 50 "DrumTalkModel" "villages" "I", Cond.methodLink RX5 53 yX5_isIn, Cond.static yX5_isIn, Cond.code yX5_isIn cX5_isIn 3 (some .boolean), Cond.methodLink RX5 79 yX5_isPhrase, Cond.instanceMethod yX5_isPhrase, Cond.selects RX5 yX5_isPhrase yX5_isPhrase, Cond.code yX5_isPhrase cX5_isPhrase 2 (some .boolean), Cond.fieldLink RX5 57 "DrumTalkModel" "phrases" "I", Cond.methodLink RX5 66 yX5_no, Cond.instanceMethod yX5_no, Cond.selects RX5 yX5_no yX5_no, Cond.code yX5_no cX5_no 2 (some .int), Cond.methodLink RX5 85 yX4_learns, Cond.instanceMethod yX4_learns, Cond.selects RX4 yX4_learns yX4_learns, Cond.initialized RX4]
def wsX5_tell_r2 : List Cond := [Cond.code yX4_learns cX4_learns 3 (some .boolean), Cond.fieldLink RX4 31 "DrumTalkModel$State" "known" "[I", Cond.fieldLink RX4 58 "DrumTalkModel$State" "beat" "I", Cond.methodLink RX5 89 yX4_put, Cond.instanceMethod yX4_put, Cond.selects RX4 yX4_put yX4_put, Cond.code yX4_put cX4_put 3 none, Cond.fieldLink RX4 28 "DrumTalkModel$State" "queue" "[I", Cond.fieldLink RX4 25 "DrumTalkModel$State" "queued" "[I"]
def wsX5_tell : List Cond := .code yX5_tell cX5_tell 3 (some .int) :: ((wsX5_tell_r1 ++ wsX5_tell_r2) ++ wsX50 ++ wsX40)
def wsX5_villageTold : List Cond := .code yX5_villageTold cX5_villageTold 5 (some .int) :: ([.fieldLink RX5 57 "DrumTalkModel" "phrases" "I", .fieldLink RX5 36 "DrumTalkModel" "s" "LDrumTalkModel$State;", .arrayClass .int, .fieldLink RX5 9 "DrumTalkModel" "x" "[I", .fieldLink RX5 13 "DrumTalkModel" "y" "[I", .fieldLink RX5 16 "DrumTalkModel" "cliff" "[I", .methodLink RX5 93 yX4_isAwake, .instanceMethod yX4_isAwake, .selects RX4 yX4_isAwake yX4_isAwake, .initialized RX4, .code yX4_isAwake cX4_isAwake 2 (some .boolean), .fieldLink RX4 58 "DrumTalkModel$State" "beat" "I", .fieldLink RX4 3 "DrumTalkModel$State" "this$0" "LDrumTalkModel;"] ++ wsX50 ++ wsX40)
def wsX5_village_r1 : List Cond := [Cond.fieldLink RX5 46 "DrumTalkModel" "thrown" "I", Cond.methodLink RX5 75 yX5_isVillage, Cond.instanceMethod yX5_isVillage, Cond.selects RX5 yX5_isVillage yX5_isVillage, Cond.initialized RX5, Cond.code yX5_isVillage cX5_isVillage 2 (some .boolean), Cond.fieldLink RX5 50 "DrumTalkModel" "villages" "I", Cond.methodLink RX5 53 yX5_isIn, Cond.static yX5_isIn, Cond.code yX5_isIn cX5_isIn 3 (some .boolean), Cond.methodLink RX5 102 yX5_villageTold, Cond.instanceMethod yX5_villageTold, Cond.selects RX5 yX5_villageTold yX5_villageTold, Cond.code yX5_villageTold cX5_villageTold 5 (some .int), Cond.fieldLink RX5 57 "DrumTalkModel" "phrases" "I", Cond.fieldLink RX5 36 "DrumTalkModel" "s" "LDrumTalkModel$State;", Cond.arrayClass .int, Cond.fieldLink RX5 9 "DrumTalkModel" "x" "[I", Cond.fieldLink RX5 13 "DrumTalkModel" "y" "[I", Cond.fieldLink RX5 16 "DrumTalkModel" "cliff" "[I", Cond.methodLink RX5 93 yX4_isAwake, Cond.instanceMethod yX4_isAwake, Cond.selects RX4 yX4_isAwake yX4_isAwake, Cond.initialized RX4]
def wsX5_village_r2 : List Cond := [Cond.code yX4_isAwake cX4_isAwake 2 (some .boolean), Cond.fieldLink RX4 58 "DrumTalkModel$State" "beat" "I", Cond.fieldLink RX4 3 "DrumTalkModel$State" "this$0" "LDrumTalkModel;", Cond.methodLink RX5 66 yX5_no, Cond.instanceMethod yX5_no, Cond.selects RX5 yX5_no yX5_no, Cond.code yX5_no cX5_no 2 (some .int)]
def wsX5_village : List Cond := .code yX5_village cX5_village 3 (some .int) :: ((wsX5_village_r1 ++ wsX5_village_r2) ++ wsX50 ++ wsX40)
def wsX5_queue : List Cond := .code yX5_queue cX5_queue 3 (some .int) :: ([.fieldLink RX5 46 "DrumTalkModel" "thrown" "I", .fieldLink RX5 36 "DrumTalkModel" "s" "LDrumTalkModel$State;", .methodLink RX5 75 yX5_isVillage, .instanceMethod yX5_isVillage, .selects RX5 yX5_isVillage yX5_isVillage, .initialized RX5, .code yX5_isVillage cX5_isVillage 2 (some .boolean), .fieldLink RX5 50 "DrumTalkModel" "villages" "I", .methodLink RX5 53 yX5_isIn, .static yX5_isIn, .code yX5_isIn cX5_isIn 3 (some .boolean), .methodLink RX5 66 yX5_no, .instanceMethod yX5_no, .selects RX5 yX5_no yX5_no, .code yX5_no cX5_no 2 (some .int)] ++ wsX50 ++ wsX40)
def wsX5_knows : List Cond := .code yX5_knows cX5_knows 3 (some .int) :: ([.fieldLink RX5 46 "DrumTalkModel" "thrown" "I", .fieldLink RX5 36 "DrumTalkModel" "s" "LDrumTalkModel$State;", .methodLink RX5 75 yX5_isVillage, .instanceMethod yX5_isVillage, .selects RX5 yX5_isVillage yX5_isVillage, .initialized RX5, .code yX5_isVillage cX5_isVillage 2 (some .boolean), .fieldLink RX5 50 "DrumTalkModel" "villages" "I", .methodLink RX5 53 yX5_isIn, .static yX5_isIn, .code yX5_isIn cX5_isIn 3 (some .boolean), .methodLink RX5 79 yX5_isPhrase, .instanceMethod yX5_isPhrase, .selects RX5 yX5_isPhrase yX5_isPhrase, .code yX5_isPhrase cX5_isPhrase 2 (some .boolean), .fieldLink RX5 57 "DrumTalkModel" "phrases" "I", .methodLink RX5 66 yX5_no, .instanceMethod yX5_no, .selects RX5 yX5_no yX5_no, .code yX5_no cX5_no 2 (some .int)] ++ wsX50 ++ wsX40)
def wsX5_sounds_r1 : List Cond := [Cond.fieldLink RX5 46 "DrumTalkModel" "thrown" "I", Cond.fieldLink RX5 36 "DrumTalkModel" "s" "LDrumTalkModel$State;", Cond.methodLink RX5 75 yX5_isVillage, Cond.instanceMethod yX5_isVillage, Cond.selects RX5 yX5_isVillage yX5_isVillage, Cond.initialized RX5, Cond.code yX5_isVillage cX5_isVillage 2 (some .boolean), Cond.fieldLink RX5 50 "DrumTalkModel" "villages" "I", Cond.methodLink RX5 53 yX5_isIn, Cond.static yX5_isIn, Cond.code yX5_isIn cX5_isIn 3 (some .boolean), Cond.methodLink RX5 109 yX4_lasting, Cond.instanceMethod yX4_lasting, Cond.selects RX4 yX4_lasting yX4_lasting, Cond.initialized RX4, Cond.code yX4_lasting cX4_lasting 4 (some .int), Cond.fieldLink RX4 65 "DrumTalkModel$State" "sounds" "I", Cond.fieldLink RX4 37 "DrumTalkModel$State" "where" "[I", Cond.fieldLink RX4 43 "DrumTalkModel$State" "first" "[I", Cond.fieldLink RX4 58 "DrumTalkModel$State" "beat" "I", Cond.fieldLink RX4 46 "DrumTalkModel$State" "last" "[I", Cond.methodLink RX5 66 yX5_no, Cond.instanceMethod yX5_no, Cond.selects RX5 yX5_no yX5_no]
def wsX5_sounds_r2 : List Cond := [Cond.code yX5_no cX5_no 2 (some .int)]
def wsX5_sounds : List Cond := .code yX5_sounds cX5_sounds 2 (some .int) :: ((wsX5_sounds_r1 ++ wsX5_sounds_r2) ++ wsX50 ++ wsX40)
def wsX5_counted : List Cond := .code yX5_counted cX5_counted 5 (some .int) :: ([.fieldLink RX5 50 "DrumTalkModel" "villages" "I", .fieldLink RX5 36 "DrumTalkModel" "s" "LDrumTalkModel$State;", .arrayClass .int, .fieldLink RX5 57 "DrumTalkModel" "phrases" "I", .methodLink RX5 121 yX4_pairs, .instanceMethod yX4_pairs, .selects RX4 yX4_pairs yX4_pairs, .initialized RX4, .code yX4_pairs cX4_pairs 3 (some .int), .fieldLink RX4 3 "DrumTalkModel$State" "this$0" "LDrumTalkModel;", .methodLink RX4 126 yX4_knowing, .instanceMethod yX4_knowing, .selects RX4 yX4_knowing yX4_knowing, .code yX4_knowing cX4_knowing 4 (some .int), .fieldLink RX4 31 "DrumTalkModel$State" "known" "[I"] ++ wsX50 ++ wsX40)
def wsX5_count_r1 : List Cond := [Cond.fieldLink RX5 46 "DrumTalkModel" "thrown" "I", Cond.methodLink RX5 53 yX5_isIn, Cond.static yX5_isIn, Cond.initialized RX5, Cond.code yX5_isIn cX5_isIn 3 (some .boolean), Cond.methodLink RX5 125 yX5_counted, Cond.instanceMethod yX5_counted, Cond.selects RX5 yX5_counted yX5_counted, Cond.code yX5_counted cX5_counted 5 (some .int), Cond.fieldLink RX5 50 "DrumTalkModel" "villages" "I", Cond.fieldLink RX5 36 "DrumTalkModel" "s" "LDrumTalkModel$State;", Cond.arrayClass .int, Cond.fieldLink RX5 57 "DrumTalkModel" "phrases" "I", Cond.methodLink RX5 121 yX4_pairs, Cond.instanceMethod yX4_pairs, Cond.selects RX4 yX4_pairs yX4_pairs, Cond.initialized RX4, Cond.code yX4_pairs cX4_pairs 3 (some .int), Cond.fieldLink RX4 3 "DrumTalkModel$State" "this$0" "LDrumTalkModel;", Cond.methodLink RX4 126 yX4_knowing, Cond.instanceMethod yX4_knowing, Cond.selects RX4 yX4_knowing yX4_knowing, Cond.code yX4_knowing cX4_knowing 4 (some .int), Cond.fieldLink RX4 31 "DrumTalkModel$State" "known" "[I"]
def wsX5_count_r2 : List Cond := [Cond.methodLink RX5 66 yX5_no, Cond.instanceMethod yX5_no, Cond.selects RX5 yX5_no yX5_no, Cond.code yX5_no cX5_no 2 (some .int)]
def wsX5_count : List Cond := .code yX5_count cX5_count 2 (some .int) :: ((wsX5_count_r1 ++ wsX5_count_r2) ++ wsX50 ++ wsX40)
def wsX5_way_r1 : List Cond := [Cond.fieldLink RX5 46 "DrumTalkModel" "thrown" "I", Cond.fieldLink RX5 50 "DrumTalkModel" "villages" "I", Cond.fieldLink RX5 36 "DrumTalkModel" "s" "LDrumTalkModel$State;", Cond.methodLink RX5 75 yX5_isVillage, Cond.instanceMethod yX5_isVillage, Cond.selects RX5 yX5_isVillage yX5_isVillage, Cond.initialized RX5, Cond.code yX5_isVillage cX5_isVillage 2 (some .boolean), Cond.methodLink RX5 53 yX5_isIn, Cond.static yX5_isIn, Cond.code yX5_isIn cX5_isIn 3 (some .boolean), Cond.methodLink RX5 66 yX5_no, Cond.instanceMethod yX5_no, Cond.selects RX5 yX5_no yX5_no, Cond.code yX5_no cX5_no 2 (some .int), Cond.methodLink RX5 128 yX4_hears, Cond.instanceMethod yX4_hears, Cond.selects RX4 yX4_hears yX4_hears, Cond.initialized RX4, Cond.code yX4_hears cX4_hears 3 (some .boolean), Cond.fieldLink RX4 3 "DrumTalkModel$State" "this$0" "LDrumTalkModel;", Cond.fieldLink RX4 15 "DrumTalkModel$State" "drum" "[I", Cond.instanceMethod yX5_far, Cond.selects RX5 yX5_far yX5_far]
def wsX5_way_r2 : List Cond := [Cond.code yX5_far cX5_far 3 (some .int), Cond.fieldLink RX5 9 "DrumTalkModel" "x" "[I", Cond.methodLink RX5 60 Lib.Math.abs.name, Cond.static Lib.Math.abs.name, Cond.initialized "java/lang/Math", Cond.code Lib.Math.abs.name Lib.Math.abs.code 1 (some .int), Cond.fieldLink RX5 13 "DrumTalkModel" "y" "[I"]
def wsX5_way : List Cond := .code yX5_way cX5_way 8 (some .int) :: ((wsX5_way_r1 ++ wsX5_way_r2) ++ wsX50 ++ wsX40)
def wsX5_pass_r1 : List Cond := [Cond.fieldLink RX5 46 "DrumTalkModel" "thrown" "I", Cond.fieldLink RX5 36 "DrumTalkModel" "s" "LDrumTalkModel$State;", Cond.methodLink RX5 53 yX5_isIn, Cond.static yX5_isIn, Cond.initialized RX5, Cond.code yX5_isIn cX5_isIn 3 (some .boolean), Cond.methodLink RX5 66 yX5_no, Cond.instanceMethod yX5_no, Cond.selects RX5 yX5_no yX5_no, Cond.code yX5_no cX5_no 2 (some .int), Cond.methodLink RX5 131 yX4_pass, Cond.instanceMethod yX4_pass, Cond.selects RX4 yX4_pass yX4_pass, Cond.initialized RX4, Cond.code yX4_pass cX4_pass 4 (some .int), Cond.fieldLink RX4 3 "DrumTalkModel$State" "this$0" "LDrumTalkModel;", Cond.fieldLink RX4 19 "DrumTalkModel$State" "drums" "[I", Cond.fieldLink RX4 65 "DrumTalkModel$State" "sounds" "I", Cond.fieldLink RX4 37 "DrumTalkModel$State" "where" "[I", Cond.fieldLink RX4 43 "DrumTalkModel$State" "first" "[I", Cond.fieldLink RX4 58 "DrumTalkModel$State" "beat" "I", Cond.fieldLink RX4 49 "DrumTalkModel$State" "lost" "[I", Cond.fieldLink RX4 46 "DrumTalkModel$State" "last" "[I", Cond.fieldLink RX4 40 "DrumTalkModel$State" "what" "[I"]
def wsX5_pass_r2 : List Cond := [Cond.fieldLink RX4 34 "DrumTalkModel$State" "drowned" "[I", Cond.fieldLink RX4 25 "DrumTalkModel$State" "queued" "[I", Cond.fieldLink RX4 22 "DrumTalkModel$State" "left" "[I", Cond.methodLink RX4 118 Lib.Math.max.name, Cond.static Lib.Math.max.name, Cond.initialized "java/lang/Math", Cond.code Lib.Math.max.name Lib.Math.max.code 2 (some .int), Cond.methodLink RX4 103 yX4_begin, Cond.instanceMethod yX4_begin, Cond.selects RX4 yX4_begin yX4_begin, Cond.code yX4_begin cX4_begin 5 none, Cond.fieldLink RX4 28 "DrumTalkModel$State" "queue" "[I", Cond.methodLink RX4 52 arraycopyName, Cond.native arraycopyName, Cond.static arraycopyName, Cond.initialized "java/lang/System", Cond.fieldLink RX4 62 "DrumTalkModel$State" "begun" "I", Cond.methodLink RX4 85 yX4_isAwake, Cond.instanceMethod yX4_isAwake, Cond.selects RX4 yX4_isAwake yX4_isAwake, Cond.code yX4_isAwake cX4_isAwake 2 (some .boolean), Cond.methodLink RX4 92 yX4_hears, Cond.instanceMethod yX4_hears, Cond.selects RX4 yX4_hears yX4_hears]
def wsX5_pass_r3 : List Cond := [Cond.code yX4_hears cX4_hears 3 (some .boolean), Cond.fieldLink RX4 15 "DrumTalkModel$State" "drum" "[I", Cond.instanceMethod yX5_far, Cond.selects RX5 yX5_far yX5_far, Cond.code yX5_far cX5_far 3 (some .int), Cond.fieldLink RX5 9 "DrumTalkModel" "x" "[I", Cond.methodLink RX5 60 Lib.Math.abs.name, Cond.static Lib.Math.abs.name, Cond.code Lib.Math.abs.name Lib.Math.abs.code 1 (some .int), Cond.fieldLink RX5 13 "DrumTalkModel" "y" "[I", Cond.methodLink RX4 96 yX4_sound, Cond.instanceMethod yX4_sound, Cond.selects RX4 yX4_sound yX4_sound, Cond.code yX4_sound cX4_sound 4 none, Cond.methodLink RX4 107 yX4_lasting, Cond.instanceMethod yX4_lasting, Cond.selects RX4 yX4_lasting yX4_lasting, Cond.code yX4_lasting cX4_lasting 4 (some .int), Cond.methodLink RX4 111 yX4_learns, Cond.instanceMethod yX4_learns, Cond.selects RX4 yX4_learns yX4_learns, Cond.code yX4_learns cX4_learns 3 (some .boolean), Cond.fieldLink RX4 31 "DrumTalkModel$State" "known" "[I", Cond.methodLink RX4 114 yX4_put]
def wsX5_pass_r4 : List Cond := [Cond.instanceMethod yX4_put, Cond.selects RX4 yX4_put yX4_put, Cond.code yX4_put cX4_put 3 none]
def wsX5_pass : List Cond := .code yX5_pass cX5_pass 4 (some .int) :: ((wsX5_pass_r1 ++ (wsX5_pass_r2 ++ (wsX5_pass_r3 ++ wsX5_pass_r4))) ++ wsX50 ++ wsX40)
def wsX5_reaches_r1 : List Cond := [Cond.fieldLink RX5 46 "DrumTalkModel" "thrown" "I", Cond.fieldLink RX5 40 "DrumTalkModel" "ahead" "LDrumTalkModel$State;", Cond.fieldLink RX5 36 "DrumTalkModel" "s" "LDrumTalkModel$State;", Cond.methodLink RX5 75 yX5_isVillage, Cond.instanceMethod yX5_isVillage, Cond.selects RX5 yX5_isVillage yX5_isVillage, Cond.initialized RX5, Cond.code yX5_isVillage cX5_isVillage 2 (some .boolean), Cond.fieldLink RX5 50 "DrumTalkModel" "villages" "I", Cond.methodLink RX5 53 yX5_isIn, Cond.static yX5_isIn, Cond.code yX5_isIn cX5_isIn 3 (some .boolean), Cond.methodLink RX5 79 yX5_isPhrase, Cond.instanceMethod yX5_isPhrase, Cond.selects RX5 yX5_isPhrase yX5_isPhrase, Cond.code yX5_isPhrase cX5_isPhrase 2 (some .boolean), Cond.fieldLink RX5 57 "DrumTalkModel" "phrases" "I", Cond.methodLink RX5 66 yX5_no, Cond.instanceMethod yX5_no, Cond.selects RX5 yX5_no yX5_no, Cond.code yX5_no cX5_no 2 (some .int), Cond.methodLink RX5 134 yX4_become, Cond.instanceMethod yX4_become, Cond.selects RX4 yX4_become yX4_become]
def wsX5_reaches_r2 : List Cond := [Cond.initialized RX4, Cond.code yX4_become cX4_become 2 none, Cond.fieldLink RX4 58 "DrumTalkModel$State" "beat" "I", Cond.fieldLink RX4 62 "DrumTalkModel$State" "begun" "I", Cond.fieldLink RX4 65 "DrumTalkModel$State" "sounds" "I", Cond.fieldLink RX4 15 "DrumTalkModel$State" "drum" "[I", Cond.fieldLink RX4 19 "DrumTalkModel$State" "drums" "[I", Cond.fieldLink RX4 22 "DrumTalkModel$State" "left" "[I", Cond.fieldLink RX4 25 "DrumTalkModel$State" "queued" "[I", Cond.fieldLink RX4 28 "DrumTalkModel$State" "queue" "[I", Cond.fieldLink RX4 31 "DrumTalkModel$State" "known" "[I", Cond.fieldLink RX4 34 "DrumTalkModel$State" "drowned" "[I", Cond.fieldLink RX4 37 "DrumTalkModel$State" "where" "[I", Cond.fieldLink RX4 40 "DrumTalkModel$State" "what" "[I", Cond.fieldLink RX4 43 "DrumTalkModel$State" "first" "[I", Cond.fieldLink RX4 46 "DrumTalkModel$State" "last" "[I", Cond.fieldLink RX4 49 "DrumTalkModel$State" "lost" "[I", Cond.methodLink RX4 68 yX4_copy, Cond.instanceMethod yX4_copy, Cond.selects RX4 yX4_copy yX4_copy, Cond.code yX4_copy cX4_copy 4 none, Cond.methodLink RX4 52 arraycopyName, Cond.native arraycopyName, Cond.static arraycopyName]
def wsX5_reaches_r3 : List Cond := [Cond.initialized "java/lang/System", Cond.methodLink RX5 131 yX4_pass, Cond.instanceMethod yX4_pass, Cond.selects RX4 yX4_pass yX4_pass, Cond.code yX4_pass cX4_pass 4 (some .int), Cond.fieldLink RX4 3 "DrumTalkModel$State" "this$0" "LDrumTalkModel;", Cond.methodLink RX4 118 Lib.Math.max.name, Cond.static Lib.Math.max.name, Cond.initialized "java/lang/Math", Cond.code Lib.Math.max.name Lib.Math.max.code 2 (some .int), Cond.methodLink RX4 103 yX4_begin, Cond.instanceMethod yX4_begin, Cond.selects RX4 yX4_begin yX4_begin, Cond.code yX4_begin cX4_begin 5 none, Cond.methodLink RX4 85 yX4_isAwake, Cond.instanceMethod yX4_isAwake, Cond.selects RX4 yX4_isAwake yX4_isAwake, Cond.code yX4_isAwake cX4_isAwake 2 (some .boolean), Cond.methodLink RX4 92 yX4_hears, Cond.instanceMethod yX4_hears, Cond.selects RX4 yX4_hears yX4_hears, Cond.code yX4_hears cX4_hears 3 (some .boolean), Cond.instanceMethod yX5_far, Cond.selects RX5 yX5_far yX5_far]
def wsX5_reaches_r4 : List Cond := [Cond.code yX5_far cX5_far 3 (some .int), Cond.fieldLink RX5 9 "DrumTalkModel" "x" "[I", Cond.methodLink RX5 60 Lib.Math.abs.name, Cond.static Lib.Math.abs.name, Cond.code Lib.Math.abs.name Lib.Math.abs.code 1 (some .int), Cond.fieldLink RX5 13 "DrumTalkModel" "y" "[I", Cond.methodLink RX4 96 yX4_sound, Cond.instanceMethod yX4_sound, Cond.selects RX4 yX4_sound yX4_sound, Cond.code yX4_sound cX4_sound 4 none, Cond.methodLink RX4 107 yX4_lasting, Cond.instanceMethod yX4_lasting, Cond.selects RX4 yX4_lasting yX4_lasting, Cond.code yX4_lasting cX4_lasting 4 (some .int), Cond.methodLink RX4 111 yX4_learns, Cond.instanceMethod yX4_learns, Cond.selects RX4 yX4_learns yX4_learns, Cond.code yX4_learns cX4_learns 3 (some .boolean), Cond.methodLink RX4 114 yX4_put, Cond.instanceMethod yX4_put, Cond.selects RX4 yX4_put yX4_put, Cond.code yX4_put cX4_put 3 none]
def wsX5_reaches : List Cond := .code yX5_reaches cX5_reaches 4 (some .int) :: ((wsX5_reaches_r1 ++ (wsX5_reaches_r2 ++ (wsX5_reaches_r3 ++ wsX5_reaches_r4))) ++ wsX50 ++ wsX40)
def wsX5_best_r1 : List Cond := [Cond.fieldLink RX5 46 "DrumTalkModel" "thrown" "I", Cond.fieldLink RX5 40 "DrumTalkModel" "ahead" "LDrumTalkModel$State;", Cond.fieldLink RX5 36 "DrumTalkModel" "s" "LDrumTalkModel$State;", Cond.methodLink RX5 141 Lib.Math.max.name, Cond.static Lib.Math.max.name, Cond.initialized "java/lang/Math", Cond.code Lib.Math.max.name Lib.Math.max.code 2 (some .int), Cond.methodLink RX5 75 yX5_isVillage, Cond.instanceMethod yX5_isVillage, Cond.selects RX5 yX5_isVillage yX5_isVillage, Cond.initialized RX5, Cond.code yX5_isVillage cX5_isVillage 2 (some .boolean), Cond.fieldLink RX5 50 "DrumTalkModel" "villages" "I", Cond.methodLink RX5 53 yX5_isIn, Cond.static yX5_isIn, Cond.code yX5_isIn cX5_isIn 3 (some .boolean), Cond.methodLink RX5 79 yX5_isPhrase, Cond.instanceMethod yX5_isPhrase, Cond.selects RX5 yX5_isPhrase yX5_isPhrase, Cond.code yX5_isPhrase cX5_isPhrase 2 (some .boolean), Cond.fieldLink RX5 57 "DrumTalkModel" "phrases" "I", Cond.methodLink RX5 66 yX5_no, Cond.instanceMethod yX5_no, Cond.selects RX5 yX5_no yX5_no]
def wsX5_best_r2 : List Cond := [Cond.code yX5_no cX5_no 2 (some .int), Cond.methodLink RX5 134 yX4_become, Cond.instanceMethod yX4_become, Cond.selects RX4 yX4_become yX4_become, Cond.initialized RX4, Cond.code yX4_become cX4_become 2 none, Cond.fieldLink RX4 58 "DrumTalkModel$State" "beat" "I", Cond.fieldLink RX4 62 "DrumTalkModel$State" "begun" "I", Cond.fieldLink RX4 65 "DrumTalkModel$State" "sounds" "I", Cond.fieldLink RX4 15 "DrumTalkModel$State" "drum" "[I", Cond.fieldLink RX4 19 "DrumTalkModel$State" "drums" "[I", Cond.fieldLink RX4 22 "DrumTalkModel$State" "left" "[I", Cond.fieldLink RX4 25 "DrumTalkModel$State" "queued" "[I", Cond.fieldLink RX4 28 "DrumTalkModel$State" "queue" "[I", Cond.fieldLink RX4 31 "DrumTalkModel$State" "known" "[I", Cond.fieldLink RX4 34 "DrumTalkModel$State" "drowned" "[I", Cond.fieldLink RX4 37 "DrumTalkModel$State" "where" "[I", Cond.fieldLink RX4 40 "DrumTalkModel$State" "what" "[I", Cond.fieldLink RX4 43 "DrumTalkModel$State" "first" "[I", Cond.fieldLink RX4 46 "DrumTalkModel$State" "last" "[I", Cond.fieldLink RX4 49 "DrumTalkModel$State" "lost" "[I", Cond.methodLink RX4 68 yX4_copy, Cond.instanceMethod yX4_copy, Cond.selects RX4 yX4_copy yX4_copy]
def wsX5_best_r3 : List Cond := [Cond.code yX4_copy cX4_copy 4 none, Cond.methodLink RX4 52 arraycopyName, Cond.native arraycopyName, Cond.static arraycopyName, Cond.initialized "java/lang/System", Cond.methodLink RX5 85 yX4_learns, Cond.instanceMethod yX4_learns, Cond.selects RX4 yX4_learns yX4_learns, Cond.code yX4_learns cX4_learns 3 (some .boolean), Cond.methodLink RX5 89 yX4_put, Cond.instanceMethod yX4_put, Cond.selects RX4 yX4_put yX4_put, Cond.code yX4_put cX4_put 3 none, Cond.methodLink RX5 131 yX4_pass, Cond.instanceMethod yX4_pass, Cond.selects RX4 yX4_pass yX4_pass, Cond.code yX4_pass cX4_pass 4 (some .int), Cond.fieldLink RX4 3 "DrumTalkModel$State" "this$0" "LDrumTalkModel;", Cond.methodLink RX4 118 Lib.Math.max.name, Cond.methodLink RX4 103 yX4_begin, Cond.instanceMethod yX4_begin, Cond.selects RX4 yX4_begin yX4_begin, Cond.code yX4_begin cX4_begin 5 none, Cond.methodLink RX4 85 yX4_isAwake]
def wsX5_best_r4 : List Cond := [Cond.instanceMethod yX4_isAwake, Cond.selects RX4 yX4_isAwake yX4_isAwake, Cond.code yX4_isAwake cX4_isAwake 2 (some .boolean), Cond.methodLink RX4 92 yX4_hears, Cond.instanceMethod yX4_hears, Cond.selects RX4 yX4_hears yX4_hears, Cond.code yX4_hears cX4_hears 3 (some .boolean), Cond.instanceMethod yX5_far, Cond.selects RX5 yX5_far yX5_far, Cond.code yX5_far cX5_far 3 (some .int), Cond.fieldLink RX5 9 "DrumTalkModel" "x" "[I", Cond.methodLink RX5 60 Lib.Math.abs.name, Cond.static Lib.Math.abs.name, Cond.code Lib.Math.abs.name Lib.Math.abs.code 1 (some .int), Cond.fieldLink RX5 13 "DrumTalkModel" "y" "[I", Cond.methodLink RX4 96 yX4_sound, Cond.instanceMethod yX4_sound, Cond.selects RX4 yX4_sound yX4_sound, Cond.code yX4_sound cX4_sound 4 none, Cond.methodLink RX4 107 yX4_lasting, Cond.instanceMethod yX4_lasting, Cond.selects RX4 yX4_lasting yX4_lasting, Cond.code yX4_lasting cX4_lasting 4 (some .int), Cond.methodLink RX4 111 yX4_learns]
def wsX5_best_r5 : List Cond := [Cond.methodLink RX4 114 yX4_put, Cond.methodLink RX5 138 yX4_knowing, Cond.instanceMethod yX4_knowing, Cond.selects RX4 yX4_knowing yX4_knowing, Cond.code yX4_knowing cX4_knowing 4 (some .int)]
def wsX5_best : List Cond := .code yX5_best cX5_best 7 (some .int) :: ((wsX5_best_r1 ++ (wsX5_best_r2 ++ (wsX5_best_r3 ++ (wsX5_best_r4 ++ wsX5_best_r5)))) ++ wsX50 ++ wsX40)
def wsX5_larger_r1 : List Cond := [Cond.fieldLink RX5 46 "DrumTalkModel" "thrown" "I", Cond.fieldLink RX5 50 "DrumTalkModel" "villages" "I", Cond.fieldLink RX5 36 "DrumTalkModel" "s" "LDrumTalkModel$State;", Cond.fieldLink RX5 40 "DrumTalkModel" "ahead" "LDrumTalkModel$State;", Cond.methodLink RX5 141 Lib.Math.max.name, Cond.static Lib.Math.max.name, Cond.initialized "java/lang/Math", Cond.code Lib.Math.max.name Lib.Math.max.code 2 (some .int), Cond.methodLink RX5 53 yX5_isIn, Cond.static yX5_isIn, Cond.initialized RX5, Cond.code yX5_isIn cX5_isIn 3 (some .boolean), Cond.methodLink RX5 66 yX5_no, Cond.instanceMethod yX5_no, Cond.selects RX5 yX5_no yX5_no, Cond.code yX5_no cX5_no 2 (some .int), Cond.methodLink RX5 134 yX4_become, Cond.instanceMethod yX4_become, Cond.selects RX4 yX4_become yX4_become, Cond.initialized RX4, Cond.code yX4_become cX4_become 2 none, Cond.fieldLink RX4 58 "DrumTalkModel$State" "beat" "I", Cond.fieldLink RX4 62 "DrumTalkModel$State" "begun" "I", Cond.fieldLink RX4 65 "DrumTalkModel$State" "sounds" "I"]
def wsX5_larger_r2 : List Cond := [Cond.fieldLink RX4 15 "DrumTalkModel$State" "drum" "[I", Cond.fieldLink RX4 19 "DrumTalkModel$State" "drums" "[I", Cond.fieldLink RX4 22 "DrumTalkModel$State" "left" "[I", Cond.fieldLink RX4 25 "DrumTalkModel$State" "queued" "[I", Cond.fieldLink RX4 28 "DrumTalkModel$State" "queue" "[I", Cond.fieldLink RX4 31 "DrumTalkModel$State" "known" "[I", Cond.fieldLink RX4 34 "DrumTalkModel$State" "drowned" "[I", Cond.fieldLink RX4 37 "DrumTalkModel$State" "where" "[I", Cond.fieldLink RX4 40 "DrumTalkModel$State" "what" "[I", Cond.fieldLink RX4 43 "DrumTalkModel$State" "first" "[I", Cond.fieldLink RX4 46 "DrumTalkModel$State" "last" "[I", Cond.fieldLink RX4 49 "DrumTalkModel$State" "lost" "[I", Cond.methodLink RX4 68 yX4_copy, Cond.instanceMethod yX4_copy, Cond.selects RX4 yX4_copy yX4_copy, Cond.code yX4_copy cX4_copy 4 none, Cond.methodLink RX4 52 arraycopyName, Cond.native arraycopyName, Cond.static arraycopyName, Cond.initialized "java/lang/System", Cond.methodLink RX5 131 yX4_pass, Cond.instanceMethod yX4_pass, Cond.selects RX4 yX4_pass yX4_pass, Cond.code yX4_pass cX4_pass 4 (some .int)]
def wsX5_larger_r3 : List Cond := [Cond.fieldLink RX4 3 "DrumTalkModel$State" "this$0" "LDrumTalkModel;", Cond.methodLink RX4 118 Lib.Math.max.name, Cond.methodLink RX4 103 yX4_begin, Cond.instanceMethod yX4_begin, Cond.selects RX4 yX4_begin yX4_begin, Cond.code yX4_begin cX4_begin 5 none, Cond.methodLink RX4 85 yX4_isAwake, Cond.instanceMethod yX4_isAwake, Cond.selects RX4 yX4_isAwake yX4_isAwake, Cond.code yX4_isAwake cX4_isAwake 2 (some .boolean), Cond.methodLink RX4 92 yX4_hears, Cond.instanceMethod yX4_hears, Cond.selects RX4 yX4_hears yX4_hears, Cond.code yX4_hears cX4_hears 3 (some .boolean), Cond.instanceMethod yX5_far, Cond.selects RX5 yX5_far yX5_far, Cond.code yX5_far cX5_far 3 (some .int), Cond.fieldLink RX5 9 "DrumTalkModel" "x" "[I", Cond.methodLink RX5 60 Lib.Math.abs.name, Cond.static Lib.Math.abs.name, Cond.code Lib.Math.abs.name Lib.Math.abs.code 1 (some .int), Cond.fieldLink RX5 13 "DrumTalkModel" "y" "[I", Cond.methodLink RX4 96 yX4_sound, Cond.instanceMethod yX4_sound]
def wsX5_larger_r4 : List Cond := [Cond.selects RX4 yX4_sound yX4_sound, Cond.code yX4_sound cX4_sound 4 none, Cond.methodLink RX4 107 yX4_lasting, Cond.instanceMethod yX4_lasting, Cond.selects RX4 yX4_lasting yX4_lasting, Cond.code yX4_lasting cX4_lasting 4 (some .int), Cond.methodLink RX4 111 yX4_learns, Cond.instanceMethod yX4_learns, Cond.selects RX4 yX4_learns yX4_learns, Cond.code yX4_learns cX4_learns 3 (some .boolean), Cond.methodLink RX4 114 yX4_put, Cond.instanceMethod yX4_put, Cond.selects RX4 yX4_put yX4_put, Cond.code yX4_put cX4_put 3 none, Cond.methodLink RX5 121 yX4_pairs, Cond.instanceMethod yX4_pairs, Cond.selects RX4 yX4_pairs yX4_pairs, Cond.code yX4_pairs cX4_pairs 3 (some .int), Cond.methodLink RX4 126 yX4_knowing, Cond.instanceMethod yX4_knowing, Cond.selects RX4 yX4_knowing yX4_knowing, Cond.code yX4_knowing cX4_knowing 4 (some .int)]
def wsX5_larger : List Cond := .code yX5_larger cX5_larger 6 (some .int) :: ((wsX5_larger_r1 ++ (wsX5_larger_r2 ++ (wsX5_larger_r3 ++ wsX5_larger_r4))) ++ wsX50 ++ wsX40)
def wsX5_known : List Cond := .code yX5_known cX5_known 1 (some .double) :: ([.fieldLink RX5 46 "DrumTalkModel" "thrown" "I", .fieldLink RX5 50 "DrumTalkModel" "villages" "I", .fieldLink RX5 57 "DrumTalkModel" "phrases" "I", .fieldLink RX5 36 "DrumTalkModel" "s" "LDrumTalkModel$State;", .methodLink RX5 121 yX4_pairs, .instanceMethod yX4_pairs, .selects RX4 yX4_pairs yX4_pairs, .initialized RX4, .code yX4_pairs cX4_pairs 3 (some .int), .fieldLink RX4 3 "DrumTalkModel$State" "this$0" "LDrumTalkModel;", .methodLink RX4 126 yX4_knowing, .instanceMethod yX4_knowing, .selects RX4 yX4_knowing yX4_knowing, .code yX4_knowing cX4_knowing 4 (some .int), .fieldLink RX4 31 "DrumTalkModel$State" "known" "[I"] ++ wsX50 ++ wsX40)
def wsX5_digest_r1 : List Cond := [Cond.fieldLink RX5 46 "DrumTalkModel" "thrown" "I", Cond.constantLong RX5 144 (769), Cond.constantLong RX5 146 (31), Cond.fieldLink RX5 57 "DrumTalkModel" "phrases" "I", Cond.fieldLink RX5 25 "DrumTalkModel" "tones" "[I", Cond.fieldLink RX5 50 "DrumTalkModel" "villages" "I", Cond.fieldLink RX5 36 "DrumTalkModel" "s" "LDrumTalkModel$State;", Cond.methodLink RX5 125 yX5_counted, Cond.instanceMethod yX5_counted, Cond.selects RX5 yX5_counted yX5_counted, Cond.initialized RX5, Cond.code yX5_counted cX5_counted 5 (some .int), Cond.arrayClass .int, Cond.methodLink RX5 121 yX4_pairs, Cond.instanceMethod yX4_pairs, Cond.selects RX4 yX4_pairs yX4_pairs, Cond.initialized RX4, Cond.code yX4_pairs cX4_pairs 3 (some .int), Cond.fieldLink RX4 3 "DrumTalkModel$State" "this$0" "LDrumTalkModel;", Cond.methodLink RX4 126 yX4_knowing, Cond.instanceMethod yX4_knowing, Cond.selects RX4 yX4_knowing yX4_knowing, Cond.code yX4_knowing cX4_knowing 4 (some .int), Cond.fieldLink RX4 31 "DrumTalkModel$State" "known" "[I"]
def wsX5_digest_r2 : List Cond := [Cond.methodLink RX5 102 yX5_villageTold, Cond.instanceMethod yX5_villageTold, Cond.selects RX5 yX5_villageTold yX5_villageTold, Cond.code yX5_villageTold cX5_villageTold 5 (some .int), Cond.fieldLink RX5 9 "DrumTalkModel" "x" "[I", Cond.fieldLink RX5 13 "DrumTalkModel" "y" "[I", Cond.fieldLink RX5 16 "DrumTalkModel" "cliff" "[I", Cond.methodLink RX5 93 yX4_isAwake, Cond.instanceMethod yX4_isAwake, Cond.selects RX4 yX4_isAwake yX4_isAwake, Cond.code yX4_isAwake cX4_isAwake 2 (some .boolean), Cond.fieldLink RX4 58 "DrumTalkModel$State" "beat" "I", Cond.methodLink RX5 109 yX4_lasting, Cond.instanceMethod yX4_lasting, Cond.selects RX4 yX4_lasting yX4_lasting, Cond.code yX4_lasting cX4_lasting 4 (some .int), Cond.fieldLink RX4 65 "DrumTalkModel$State" "sounds" "I", Cond.fieldLink RX4 37 "DrumTalkModel$State" "where" "[I", Cond.fieldLink RX4 43 "DrumTalkModel$State" "first" "[I", Cond.fieldLink RX4 46 "DrumTalkModel$State" "last" "[I"]
def wsX5_digest : List Cond := .code yX5_digest cX5_digest 5 (some .long) :: ((wsX5_digest_r1 ++ wsX5_digest_r2) ++ wsX50 ++ wsX40)
def wsJ9_abs_0f7a4 : List Cond := .code yJ9_abs_0f7a4 cJ9_abs_0f7a4 1 (some .int) :: ([])
def wsJ9_max_7cf53 : List Cond := .code yJ9_max_7cf53 cJ9_max_7cf53 2 (some .int) :: ([])
def wsL_found_r1 : List Cond := [Cond.classLink RL 13 "java/lang/IllegalArgumentException", Cond.classLink RL 15 "java/lang/IllegalStateException", Cond.methodLink RL 7 yX3_found, Cond.instanceMethod yX3_found, Cond.selects RX3 yX3_found yX3_found, Cond.initialized RX3, Cond.code yX3_found cX3_found 4 (some .int), Cond.classLink RX3 26 "java/lang/IllegalArgumentException", Cond.initialized "java/lang/IllegalArgumentException", Cond.classLink RX3 41 "java/lang/IllegalStateException", Cond.initialized "java/lang/IllegalStateException", Cond.fieldLink RX3 12 "DrumTalk" "land" "LDrumTalk$Land;", Cond.fieldLink RX3 33 "DrumTalk$Land" "villageCount" "I", Cond.methodLink RX3 19 yX3_isPlace, Cond.static yX3_isPlace, Cond.code yX3_isPlace cX3_isPlace 1 (some .boolean), Cond.methodLink RX3 23 yX3_isDrum, Cond.static yX3_isDrum, Cond.code yX3_isDrum cX3_isDrum 1 (some .boolean), Cond.methodLink RX3 37 yX0_hasVillageAt, Cond.instanceMethod yX0_hasVillageAt, Cond.selects RX0 yX0_hasVillageAt yX0_hasVillageAt, Cond.initialized RX0, Cond.code yX0_hasVillageAt cX0_hasVillageAt 4 (some .boolean)]
def wsL_found_r2 : List Cond := [Cond.fieldLink RX0 25 "DrumTalk$Land" "villageCount" "I", Cond.fieldLink RX0 11 "DrumTalk$Land" "villages" "[LDrumTalk$Village;", Cond.fieldLink RX0 48 "DrumTalk$Village" "x" "I", Cond.fieldLink RX0 51 "DrumTalk$Village" "y" "I", Cond.methodLink RX3 46 yX0_addVillage, Cond.instanceMethod yX0_addVillage, Cond.selects RX0 yX0_addVillage yX0_addVillage, Cond.code yX0_addVillage cX0_addVillage 5 (some .int), Cond.fieldLink RX0 54 "DrumTalk$Village" "drum" "I"]
def wsL_found : List Cond := .codeWith yL_found cL_found 6 (some .int) [(0, 12, 15, 13), (0, 12, 19, 15)] :: ((wsL_found_r1 ++ wsL_found_r2) ++ wsX30 ++ wsX00 ++ wsX20 ++ (vx_atS RX3 30 "java/lang/IllegalArgumentException" ["java/lang/RuntimeException", "java/lang/Exception"]).filter goodWord ++ (vx_atS RX3 45 "java/lang/IllegalStateException" ["java/lang/RuntimeException", "java/lang/Exception"]).filter goodWord)
def wsL_setDrum_r1 : List Cond := [Cond.classLink RL 21 "java/lang/IndexOutOfBoundsException", Cond.classLink RL 13 "java/lang/IllegalArgumentException", Cond.methodLink RL 17 yX3_setDrum, Cond.instanceMethod yX3_setDrum, Cond.selects RX3 yX3_setDrum yX3_setDrum, Cond.initialized RX3, Cond.code yX3_setDrum cX3_setDrum 5 (some .int), Cond.classLink RX3 26 "java/lang/IllegalArgumentException", Cond.initialized "java/lang/IllegalArgumentException", Cond.fieldLink RX3 56 "DrumTalk$Village" "drum" "I", Cond.methodLink RX3 50 yX3_villageOf, Cond.instanceMethod yX3_villageOf, Cond.selects RX3 yX3_villageOf yX3_villageOf, Cond.code yX3_villageOf cX3_villageOf 2 (some (.object "DrumTalk$Village")), Cond.fieldLink RX3 12 "DrumTalk" "land" "LDrumTalk$Land;", Cond.fieldLink RX3 152 "DrumTalk$Land" "villages" "[LDrumTalk$Village;", Cond.methodLink RX3 137 yX3_checkVillage, Cond.instanceMethod yX3_checkVillage, Cond.selects RX3 yX3_checkVillage yX3_checkVillage, Cond.code yX3_checkVillage cX3_checkVillage 2 none, Cond.classLink RX3 107 "java/lang/IndexOutOfBoundsException", Cond.initialized "java/lang/IndexOutOfBoundsException", Cond.fieldLink RX3 33 "DrumTalk$Land" "villageCount" "I", Cond.methodLink RX3 23 yX3_isDrum]
def wsL_setDrum_r2 : List Cond := [Cond.static yX3_isDrum, Cond.code yX3_isDrum cX3_isDrum 1 (some .boolean)]
def wsL_setDrum : List Cond := .codeWith yL_setDrum cL_setDrum 5 (some .int) [(0, 10, 13, 21), (0, 10, 17, 13)] :: ((wsL_setDrum_r1 ++ wsL_setDrum_r2) ++ wsX20 ++ wsX30 ++ wsX00 ++ (vx_atS RX3 30 "java/lang/IllegalArgumentException" ["java/lang/RuntimeException", "java/lang/Exception"]).filter goodWord ++ (vx_atS RX3 111 "java/lang/IndexOutOfBoundsException" ["java/lang/RuntimeException", "java/lang/Exception"]).filter goodWord)
def wsL_setCliff : List Cond := .codeWith yL_setCliff cL_setCliff 5 (some .int) [(0, 17, 20, 21)] :: ([.classLink RL 21 "java/lang/IndexOutOfBoundsException", .methodLink RL 23 yX3_setCliff, .instanceMethod yX3_setCliff, .selects RX3 yX3_setCliff yX3_setCliff, .initialized RX3, .code yX3_setCliff cX3_setCliff 5 (some .boolean), .fieldLink RX3 61 "DrumTalk$Village" "cliff" "Z", .methodLink RX3 50 yX3_villageOf, .instanceMethod yX3_villageOf, .selects RX3 yX3_villageOf yX3_villageOf, .code yX3_villageOf cX3_villageOf 2 (some (.object "DrumTalk$Village")), .fieldLink RX3 12 "DrumTalk" "land" "LDrumTalk$Land;", .fieldLink RX3 152 "DrumTalk$Land" "villages" "[LDrumTalk$Village;", .methodLink RX3 137 yX3_checkVillage, .instanceMethod yX3_checkVillage, .selects RX3 yX3_checkVillage yX3_checkVillage, .code yX3_checkVillage cX3_checkVillage 2 none, .classLink RX3 107 "java/lang/IndexOutOfBoundsException", .initialized "java/lang/IndexOutOfBoundsException", .fieldLink RX3 33 "DrumTalk$Land" "villageCount" "I"] ++ wsX20 ++ wsX30 ++ wsX00 ++ (vx_atS RX3 111 "java/lang/IndexOutOfBoundsException" ["java/lang/RuntimeException", "java/lang/Exception"]).filter goodWord)
def wsL_setAwake : List Cond := .codeWith yL_setAwake cL_setAwake 6 (some .int) [(0, 12, 15, 21), (0, 12, 19, 13)] :: ([.classLink RL 21 "java/lang/IndexOutOfBoundsException", .classLink RL 13 "java/lang/IllegalArgumentException", .methodLink RL 27 yX3_setAwake, .instanceMethod yX3_setAwake, .selects RX3 yX3_setAwake yX3_setAwake, .initialized RX3, .code yX3_setAwake cX3_setAwake 6 (some .int), .classLink RX3 26 "java/lang/IllegalArgumentException", .initialized "java/lang/IllegalArgumentException", .fieldLink RX3 67 "DrumTalk$Village" "awakeBeats" "I", .fieldLink RX3 70 "DrumTalk$Village" "awakeFrom" "I", .methodLink RX3 50 yX3_villageOf, .instanceMethod yX3_villageOf, .selects RX3 yX3_villageOf yX3_villageOf, .code yX3_villageOf cX3_villageOf 2 (some (.object "DrumTalk$Village")), .fieldLink RX3 12 "DrumTalk" "land" "LDrumTalk$Land;", .fieldLink RX3 152 "DrumTalk$Land" "villages" "[LDrumTalk$Village;", .methodLink RX3 137 yX3_checkVillage, .instanceMethod yX3_checkVillage, .selects RX3 yX3_checkVillage yX3_checkVillage, .code yX3_checkVillage cX3_checkVillage 2 none, .classLink RX3 107 "java/lang/IndexOutOfBoundsException", .initialized "java/lang/IndexOutOfBoundsException", .fieldLink RX3 33 "DrumTalk$Land" "villageCount" "I"] ++ wsX20 ++ wsX30 ++ wsX00 ++ (vx_atS RX3 30 "java/lang/IllegalArgumentException" ["java/lang/RuntimeException", "java/lang/Exception"]).filter goodWord ++ (vx_atS RX3 111 "java/lang/IndexOutOfBoundsException" ["java/lang/RuntimeException", "java/lang/Exception"]).filter goodWord)
def wsL_phrase_r1 : List Cond := [Cond.classLink RL 13 "java/lang/IllegalArgumentException", Cond.classLink RL 15 "java/lang/IllegalStateException", Cond.methodLink RL 30 yX3_phrase, Cond.instanceMethod yX3_phrase, Cond.selects RX3 yX3_phrase yX3_phrase, Cond.initialized RX3, Cond.code yX3_phrase cX3_phrase 3 (some .int), Cond.classLink RX3 26 "java/lang/IllegalArgumentException", Cond.initialized "java/lang/IllegalArgumentException", Cond.classLink RX3 41 "java/lang/IllegalStateException", Cond.initialized "java/lang/IllegalStateException", Cond.fieldLink RX3 12 "DrumTalk" "land" "LDrumTalk$Land;", Cond.fieldLink RX3 79 "DrumTalk$Land" "phraseCount" "I", Cond.methodLink RX3 73 yX3_countTones, Cond.static yX3_countTones, Cond.code yX3_countTones cX3_countTones 4 (some .int), Cond.methodLink RX3 82 yX0_hasPhrase, Cond.instanceMethod yX0_hasPhrase, Cond.selects RX0 yX0_hasPhrase yX0_hasPhrase, Cond.initialized RX0, Cond.code yX0_hasPhrase cX0_hasPhrase 3 (some .boolean), Cond.fieldLink RX0 39 "DrumTalk$Land" "phraseCount" "I", Cond.fieldLink RX0 17 "DrumTalk$Land" "tones" "[I", Cond.methodLink RX3 87 yX0_addPhrase]
def wsL_phrase_r2 : List Cond := [Cond.instanceMethod yX0_addPhrase, Cond.selects RX0 yX0_addPhrase yX0_addPhrase, Cond.code yX0_addPhrase cX0_addPhrase 3 (some .int), Cond.fieldLink RX0 21 "DrumTalk$Land" "toneCounts" "[I"]
def wsL_phrase : List Cond := .codeWith yL_phrase cL_phrase 4 (some .int) [(0, 9, 12, 13), (0, 9, 15, 15)] :: ((wsL_phrase_r1 ++ wsL_phrase_r2) ++ wsX30 ++ wsX00 ++ (vx_atS RX3 30 "java/lang/IllegalArgumentException" ["java/lang/RuntimeException", "java/lang/Exception"]).filter goodWord ++ (vx_atS RX3 45 "java/lang/IllegalStateException" ["java/lang/RuntimeException", "java/lang/Exception"]).filter goodWord)
def wsL_tell_r1 : List Cond := [Cond.classLink RL 21 "java/lang/IndexOutOfBoundsException", Cond.classLink RL 15 "java/lang/IllegalStateException", Cond.methodLink RL 34 yX3_tell, Cond.instanceMethod yX3_tell, Cond.selects RX3 yX3_tell yX3_tell, Cond.initialized RX3, Cond.code yX3_tell cX3_tell 4 (some .int), Cond.classLink RX3 41 "java/lang/IllegalStateException", Cond.initialized "java/lang/IllegalStateException", Cond.fieldLink RX3 95 "DrumTalk$Village" "queued" "I", Cond.fieldLink RX3 12 "DrumTalk" "land" "LDrumTalk$Land;", Cond.fieldLink RX3 100 "DrumTalk$Land" "beat" "I", Cond.methodLink RX3 50 yX3_villageOf, Cond.instanceMethod yX3_villageOf, Cond.selects RX3 yX3_villageOf yX3_villageOf, Cond.code yX3_villageOf cX3_villageOf 2 (some (.object "DrumTalk$Village")), Cond.fieldLink RX3 152 "DrumTalk$Land" "villages" "[LDrumTalk$Village;", Cond.methodLink RX3 137 yX3_checkVillage, Cond.instanceMethod yX3_checkVillage, Cond.selects RX3 yX3_checkVillage yX3_checkVillage, Cond.code yX3_checkVillage cX3_checkVillage 2 none, Cond.classLink RX3 107 "java/lang/IndexOutOfBoundsException", Cond.initialized "java/lang/IndexOutOfBoundsException", Cond.fieldLink RX3 33 "DrumTalk$Land" "villageCount" "I"]
def wsL_tell_r2 : List Cond := [Cond.methodLink RX3 91 yX3_checkPhrase, Cond.instanceMethod yX3_checkPhrase, Cond.selects RX3 yX3_checkPhrase yX3_checkPhrase, Cond.code yX3_checkPhrase cX3_checkPhrase 2 none, Cond.fieldLink RX3 79 "DrumTalk$Land" "phraseCount" "I", Cond.methodLink RX3 103 yX2_takeIn, Cond.instanceMethod yX2_takeIn, Cond.selects RX2 yX2_takeIn yX2_takeIn, Cond.initialized RX2, Cond.code yX2_takeIn cX2_takeIn 3 none, Cond.fieldLink RX2 25 "DrumTalk$Village" "knownSince" "[I", Cond.fieldLink RX2 63 "DrumTalk$Village" "queued" "I", Cond.fieldLink RX2 21 "DrumTalk$Village" "queue" "[I"]
def wsL_tell : List Cond := .codeWith yL_tell cL_tell 5 (some .int) [(0, 10, 13, 21), (0, 10, 17, 15)] :: ((wsL_tell_r1 ++ wsL_tell_r2) ++ wsX20 ++ wsX30 ++ wsX00 ++ (vx_atS RX3 45 "java/lang/IllegalStateException" ["java/lang/RuntimeException", "java/lang/Exception"]).filter goodWord ++ (vx_atS RX3 111 "java/lang/IndexOutOfBoundsException" ["java/lang/RuntimeException", "java/lang/Exception"]).filter goodWord)
def wsL_village_r1 : List Cond := [Cond.classLink RL 21 "java/lang/IndexOutOfBoundsException", Cond.methodLink RL 37 yX3_village, Cond.instanceMethod yX3_village, Cond.selects RX3 yX3_village yX3_village, Cond.initialized RX3, Cond.code yX3_village cX3_village 4 (some .int), Cond.classLink RX3 107 "java/lang/IndexOutOfBoundsException", Cond.initialized "java/lang/IndexOutOfBoundsException", Cond.fieldLink RX3 12 "DrumTalk" "land" "LDrumTalk$Land;", Cond.fieldLink RX3 100 "DrumTalk$Land" "beat" "I", Cond.methodLink RX3 50 yX3_villageOf, Cond.instanceMethod yX3_villageOf, Cond.selects RX3 yX3_villageOf yX3_villageOf, Cond.code yX3_villageOf cX3_villageOf 2 (some (.object "DrumTalk$Village")), Cond.fieldLink RX3 152 "DrumTalk$Land" "villages" "[LDrumTalk$Village;", Cond.methodLink RX3 137 yX3_checkVillage, Cond.instanceMethod yX3_checkVillage, Cond.selects RX3 yX3_checkVillage yX3_checkVillage, Cond.code yX3_checkVillage cX3_checkVillage 2 none, Cond.fieldLink RX3 33 "DrumTalk$Land" "villageCount" "I", Cond.methodLink RX3 112 yX2_figure, Cond.instanceMethod yX2_figure, Cond.selects RX2 yX2_figure yX2_figure, Cond.initialized RX2]
def wsL_village_r2 : List Cond := [Cond.code yX2_figure cX2_figure 3 (some .int), Cond.fieldLink RX2 41 "DrumTalk$Village" "x" "I", Cond.fieldLink RX2 44 "DrumTalk$Village" "y" "I", Cond.fieldLink RX2 9 "DrumTalk$Village" "drum" "I", Cond.fieldLink RX2 47 "DrumTalk$Village" "cliff" "Z", Cond.fieldLink RX2 18 "DrumTalk$Village" "drumming" "I", Cond.fieldLink RX2 54 "DrumTalk$Village" "beatsLeft" "I", Cond.fieldLink RX2 63 "DrumTalk$Village" "queued" "I", Cond.fieldLink RX2 70 "DrumTalk$Village" "drowned" "I", Cond.methodLink RX2 73 yX2_isAwake, Cond.instanceMethod yX2_isAwake, Cond.selects RX2 yX2_isAwake yX2_isAwake, Cond.code yX2_isAwake cX2_isAwake 2 (some .boolean), Cond.fieldLink RX2 51 "DrumTalk$Village" "awakeFrom" "I", Cond.fieldLink RX2 15 "DrumTalk$Village" "awakeBeats" "I", Cond.methodLink RX2 81 yJ9_floorMod_7cf53, Cond.static yJ9_floorMod_7cf53, Cond.initialized RJ9, Cond.code yJ9_floorMod_7cf53 cJ9_floorMod_7cf53 3 (some .int), Cond.methodLink RX2 77 yX2_phrasesKnown, Cond.instanceMethod yX2_phrasesKnown, Cond.selects RX2 yX2_phrasesKnown yX2_phrasesKnown, Cond.code yX2_phrasesKnown cX2_phrasesKnown 3 (some .int), Cond.methodLink RX2 95 yX2_isKnown]
def wsL_village_r3 : List Cond := [Cond.instanceMethod yX2_isKnown, Cond.selects RX2 yX2_isKnown yX2_isKnown, Cond.code yX2_isKnown cX2_isKnown 2 (some .boolean), Cond.fieldLink RX2 25 "DrumTalk$Village" "knownSince" "[I"]
def wsL_village : List Cond := .codeWith yL_village cL_village 5 (some .int) [(0, 10, 13, 21)] :: ((wsL_village_r1 ++ (wsL_village_r2 ++ wsL_village_r3)) ++ wsX30 ++ wsX00 ++ wsX20 ++ (vx_atS RX3 111 "java/lang/IndexOutOfBoundsException" ["java/lang/RuntimeException", "java/lang/Exception"]).filter goodWord)
def wsL_queue : List Cond := .codeWith yL_queue cL_queue 5 (some .int) [(0, 10, 13, 21)] :: ([.classLink RL 21 "java/lang/IndexOutOfBoundsException", .methodLink RL 40 yX3_queue, .instanceMethod yX3_queue, .selects RX3 yX3_queue yX3_queue, .initialized RX3, .code yX3_queue cX3_queue 4 (some .int), .classLink RX3 107 "java/lang/IndexOutOfBoundsException", .initialized "java/lang/IndexOutOfBoundsException", .fieldLink RX3 95 "DrumTalk$Village" "queued" "I", .fieldLink RX3 117 "DrumTalk$Village" "queue" "[I", .methodLink RX3 50 yX3_villageOf, .instanceMethod yX3_villageOf, .selects RX3 yX3_villageOf yX3_villageOf, .code yX3_villageOf cX3_villageOf 2 (some (.object "DrumTalk$Village")), .fieldLink RX3 12 "DrumTalk" "land" "LDrumTalk$Land;", .fieldLink RX3 152 "DrumTalk$Land" "villages" "[LDrumTalk$Village;", .methodLink RX3 137 yX3_checkVillage, .instanceMethod yX3_checkVillage, .selects RX3 yX3_checkVillage yX3_checkVillage, .code yX3_checkVillage cX3_checkVillage 2 none, .fieldLink RX3 33 "DrumTalk$Land" "villageCount" "I"] ++ wsX20 ++ wsX30 ++ wsX00 ++ (vx_atS RX3 111 "java/lang/IndexOutOfBoundsException" ["java/lang/RuntimeException", "java/lang/Exception"]).filter goodWord)
def wsL_knows_r1 : List Cond := [Cond.classLink RL 21 "java/lang/IndexOutOfBoundsException", Cond.methodLink RL 43 yX3_knows, Cond.instanceMethod yX3_knows, Cond.selects RX3 yX3_knows yX3_knows, Cond.initialized RX3, Cond.code yX3_knows cX3_knows 4 (some .int), Cond.fieldLink RX3 121 "DrumTalk$Village" "knownSince" "[I", Cond.methodLink RX3 50 yX3_villageOf, Cond.instanceMethod yX3_villageOf, Cond.selects RX3 yX3_villageOf yX3_villageOf, Cond.code yX3_villageOf cX3_villageOf 2 (some (.object "DrumTalk$Village")), Cond.fieldLink RX3 12 "DrumTalk" "land" "LDrumTalk$Land;", Cond.fieldLink RX3 152 "DrumTalk$Land" "villages" "[LDrumTalk$Village;", Cond.methodLink RX3 137 yX3_checkVillage, Cond.instanceMethod yX3_checkVillage, Cond.selects RX3 yX3_checkVillage yX3_checkVillage, Cond.code yX3_checkVillage cX3_checkVillage 2 none, Cond.classLink RX3 107 "java/lang/IndexOutOfBoundsException", Cond.initialized "java/lang/IndexOutOfBoundsException", Cond.fieldLink RX3 33 "DrumTalk$Land" "villageCount" "I", Cond.methodLink RX3 91 yX3_checkPhrase, Cond.instanceMethod yX3_checkPhrase, Cond.selects RX3 yX3_checkPhrase yX3_checkPhrase, Cond.code yX3_checkPhrase cX3_checkPhrase 2 none]
def wsL_knows_r2 : List Cond := [Cond.fieldLink RX3 79 "DrumTalk$Land" "phraseCount" "I"]
def wsL_knows : List Cond := .codeWith yL_knows cL_knows 5 (some .int) [(0, 10, 13, 21)] :: ((wsL_knows_r1 ++ wsL_knows_r2) ++ wsX20 ++ wsX30 ++ wsX00 ++ (vx_atS RX3 111 "java/lang/IndexOutOfBoundsException" ["java/lang/RuntimeException", "java/lang/Exception"]).filter goodWord)
def wsL_sounds_r1 : List Cond := [Cond.classLink RL 21 "java/lang/IndexOutOfBoundsException", Cond.methodLink RL 46 yX3_sounds, Cond.instanceMethod yX3_sounds, Cond.selects RX3 yX3_sounds yX3_sounds, Cond.initialized RX3, Cond.code yX3_sounds cX3_sounds 2 (some .int), Cond.fieldLink RX3 124 "DrumTalk$Village" "inTheAir" "LDrumTalk$Sounds;", Cond.fieldLink RX3 12 "DrumTalk" "land" "LDrumTalk$Land;", Cond.fieldLink RX3 100 "DrumTalk$Land" "beat" "I", Cond.methodLink RX3 50 yX3_villageOf, Cond.instanceMethod yX3_villageOf, Cond.selects RX3 yX3_villageOf yX3_villageOf, Cond.code yX3_villageOf cX3_villageOf 2 (some (.object "DrumTalk$Village")), Cond.fieldLink RX3 152 "DrumTalk$Land" "villages" "[LDrumTalk$Village;", Cond.methodLink RX3 137 yX3_checkVillage, Cond.instanceMethod yX3_checkVillage, Cond.selects RX3 yX3_checkVillage yX3_checkVillage, Cond.code yX3_checkVillage cX3_checkVillage 2 none, Cond.classLink RX3 107 "java/lang/IndexOutOfBoundsException", Cond.initialized "java/lang/IndexOutOfBoundsException", Cond.fieldLink RX3 33 "DrumTalk$Land" "villageCount" "I", Cond.methodLink RX3 128 yX1_lasting, Cond.instanceMethod yX1_lasting, Cond.selects RX1 yX1_lasting yX1_lasting]
def wsL_sounds_r2 : List Cond := [Cond.initialized RX1, Cond.code yX1_lasting cX1_lasting 4 (some .int), Cond.fieldLink RX1 24 "DrumTalk$Sounds" "size" "I", Cond.fieldLink RX1 15 "DrumTalk$Sounds" "firstBeats" "[I"]
def wsL_sounds : List Cond := .codeWith yL_sounds cL_sounds 4 (some .int) [(0, 9, 12, 21)] :: ((wsL_sounds_r1 ++ wsL_sounds_r2) ++ wsX20 ++ wsX30 ++ wsX00 ++ wsX10 ++ (vx_atS RX3 111 "java/lang/IndexOutOfBoundsException" ["java/lang/RuntimeException", "java/lang/Exception"]).filter goodWord)
def wsL_count_r1 : List Cond := [Cond.classLink RL 21 "java/lang/IndexOutOfBoundsException", Cond.methodLink RL 49 yX3_count, Cond.instanceMethod yX3_count, Cond.selects RX3 yX3_count yX3_count, Cond.initialized RX3, Cond.code yX3_count cX3_count 2 (some .int), Cond.classLink RX3 107 "java/lang/IndexOutOfBoundsException", Cond.initialized "java/lang/IndexOutOfBoundsException", Cond.fieldLink RX3 12 "DrumTalk" "land" "LDrumTalk$Land;", Cond.methodLink RX3 135 yX0_figure, Cond.instanceMethod yX0_figure, Cond.selects RX0 yX0_figure yX0_figure, Cond.initialized RX0, Cond.code yX0_figure cX0_figure 2 (some .int), Cond.fieldLink RX0 42 "DrumTalk$Land" "beat" "I", Cond.fieldLink RX0 25 "DrumTalk$Land" "villageCount" "I", Cond.fieldLink RX0 39 "DrumTalk$Land" "phraseCount" "I", Cond.fieldLink RX0 45 "DrumTalk$Land" "drummings" "I", Cond.methodLink RX0 57 yX0_drummers, Cond.instanceMethod yX0_drummers, Cond.selects RX0 yX0_drummers yX0_drummers, Cond.code yX0_drummers cX0_drummers 3 (some .int), Cond.fieldLink RX0 11 "DrumTalk$Land" "villages" "[LDrumTalk$Village;", Cond.methodLink RX0 70 yX2_isDrumming]
def wsL_count_r2 : List Cond := [Cond.instanceMethod yX2_isDrumming, Cond.selects RX2 yX2_isDrumming yX2_isDrumming, Cond.initialized RX2, Cond.code yX2_isDrumming cX2_isDrumming 1 (some .boolean), Cond.fieldLink RX2 18 "DrumTalk$Village" "drumming" "I", Cond.methodLink RX0 61 yX0_soundsInTheAir, Cond.instanceMethod yX0_soundsInTheAir, Cond.selects RX0 yX0_soundsInTheAir yX0_soundsInTheAir, Cond.code yX0_soundsInTheAir cX0_soundsInTheAir 3 (some .int), Cond.fieldLink RX0 74 "DrumTalk$Village" "inTheAir" "LDrumTalk$Sounds;", Cond.fieldLink RX0 78 "DrumTalk$Sounds" "size" "I", Cond.methodLink RX0 64 yX0_soundsDrowned, Cond.instanceMethod yX0_soundsDrowned, Cond.selects RX0 yX0_soundsDrowned yX0_soundsDrowned, Cond.code yX0_soundsDrowned cX0_soundsDrowned 3 (some .int), Cond.fieldLink RX0 83 "DrumTalk$Village" "drowned" "I", Cond.methodLink RX0 67 yX0_knownPairs, Cond.instanceMethod yX0_knownPairs, Cond.selects RX0 yX0_knownPairs yX0_knownPairs, Cond.code yX0_knownPairs cX0_knownPairs 3 (some .int), Cond.methodLink RX0 86 yX2_phrasesKnown, Cond.instanceMethod yX2_phrasesKnown, Cond.selects RX2 yX2_phrasesKnown yX2_phrasesKnown, Cond.code yX2_phrasesKnown cX2_phrasesKnown 3 (some .int)]
def wsL_count_r3 : List Cond := [Cond.methodLink RX2 95 yX2_isKnown, Cond.instanceMethod yX2_isKnown, Cond.selects RX2 yX2_isKnown yX2_isKnown, Cond.code yX2_isKnown cX2_isKnown 2 (some .boolean), Cond.fieldLink RX2 25 "DrumTalk$Village" "knownSince" "[I"]
def wsL_count : List Cond := .codeWith yL_count cL_count 4 (some .int) [(0, 9, 12, 21)] :: ((wsL_count_r1 ++ (wsL_count_r2 ++ wsL_count_r3)) ++ wsX30 ++ wsX00 ++ wsX20 ++ wsX10 ++ (vx_atS RX3 111 "java/lang/IndexOutOfBoundsException" ["java/lang/RuntimeException", "java/lang/Exception"]).filter goodWord)
def wsL_way_r1 : List Cond := [Cond.classLink RL 21 "java/lang/IndexOutOfBoundsException", Cond.methodLink RL 52 yX3_way, Cond.instanceMethod yX3_way, Cond.selects RX3 yX3_way yX3_way, Cond.initialized RX3, Cond.code yX3_way cX3_way 5 (some .int), Cond.fieldLink RX3 12 "DrumTalk" "land" "LDrumTalk$Land;", Cond.methodLink RX3 137 yX3_checkVillage, Cond.instanceMethod yX3_checkVillage, Cond.selects RX3 yX3_checkVillage yX3_checkVillage, Cond.code yX3_checkVillage cX3_checkVillage 2 none, Cond.classLink RX3 107 "java/lang/IndexOutOfBoundsException", Cond.initialized "java/lang/IndexOutOfBoundsException", Cond.fieldLink RX3 33 "DrumTalk$Land" "villageCount" "I", Cond.methodLink RX3 140 yX0_hearersOf, Cond.instanceMethod yX0_hearersOf, Cond.selects RX0 yX0_hearersOf yX0_hearersOf, Cond.initialized RX0, Cond.code yX0_hearersOf cX0_hearersOf 5 (some .int), Cond.fieldLink RX0 25 "DrumTalk$Land" "villageCount" "I", Cond.fieldLink RX0 11 "DrumTalk$Land" "villages" "[LDrumTalk$Village;", Cond.methodLink RX0 93 yX2_distanceTo, Cond.instanceMethod yX2_distanceTo, Cond.selects RX2 yX2_distanceTo yX2_distanceTo]
def wsL_way_r2 : List Cond := [Cond.initialized RX2, Cond.code yX2_distanceTo cX2_distanceTo 2 (some .int), Cond.fieldLink RX2 41 "DrumTalk$Village" "x" "I", Cond.methodLink RX2 91 Lib.Math.abs.name, Cond.static Lib.Math.abs.name, Cond.initialized "java/lang/Math", Cond.code Lib.Math.abs.name Lib.Math.abs.code 1 (some .int), Cond.fieldLink RX2 44 "DrumTalk$Village" "y" "I", Cond.methodLink RX0 97 yX2_isHeardAt, Cond.instanceMethod yX2_isHeardAt, Cond.selects RX2 yX2_isHeardAt yX2_isHeardAt, Cond.code yX2_isHeardAt cX2_isHeardAt 2 (some .boolean), Cond.fieldLink RX2 9 "DrumTalk$Village" "drum" "I"]
def wsL_way : List Cond := .codeWith yL_way cL_way 5 (some .int) [(0, 10, 13, 21)] :: ((wsL_way_r1 ++ wsL_way_r2) ++ wsX30 ++ wsX00 ++ wsX20 ++ (vx_atS RX3 111 "java/lang/IndexOutOfBoundsException" ["java/lang/RuntimeException", "java/lang/Exception"]).filter goodWord)
def wsL_pass_r1 : List Cond := [Cond.classLink RL 13 "java/lang/IllegalArgumentException", Cond.methodLink RL 55 yX3_pass, Cond.instanceMethod yX3_pass, Cond.selects RX3 yX3_pass yX3_pass, Cond.initialized RX3, Cond.code yX3_pass cX3_pass 2 (some .int), Cond.classLink RX3 26 "java/lang/IllegalArgumentException", Cond.initialized "java/lang/IllegalArgumentException", Cond.fieldLink RX3 12 "DrumTalk" "land" "LDrumTalk$Land;", Cond.methodLink RX3 145 yX0_letGo, Cond.instanceMethod yX0_letGo, Cond.selects RX0 yX0_letGo yX0_letGo, Cond.initialized RX0, Cond.code yX0_letGo cX0_letGo 4 (some .int), Cond.fieldLink RX0 42 "DrumTalk$Land" "beat" "I", Cond.methodLink RX0 100 yX0_isQuiet, Cond.instanceMethod yX0_isQuiet, Cond.selects RX0 yX0_isQuiet yX0_isQuiet, Cond.code yX0_isQuiet cX0_isQuiet 3 (some .boolean), Cond.fieldLink RX0 25 "DrumTalk$Land" "villageCount" "I", Cond.fieldLink RX0 11 "DrumTalk$Land" "villages" "[LDrumTalk$Village;", Cond.fieldLink RX0 106 "DrumTalk$Village" "queued" "I", Cond.fieldLink RX0 74 "DrumTalk$Village" "inTheAir" "LDrumTalk$Sounds;", Cond.fieldLink RX0 78 "DrumTalk$Sounds" "size" "I"]
def wsL_pass_r2 : List Cond := [Cond.methodLink RX0 70 yX2_isDrumming, Cond.instanceMethod yX2_isDrumming, Cond.selects RX2 yX2_isDrumming yX2_isDrumming, Cond.initialized RX2, Cond.code yX2_isDrumming cX2_isDrumming 1 (some .boolean), Cond.fieldLink RX2 18 "DrumTalk$Village" "drumming" "I", Cond.methodLink RX0 103 yX0_goBeat, Cond.instanceMethod yX0_goBeat, Cond.selects RX0 yX0_goBeat yX0_goBeat, Cond.code yX0_goBeat cX0_goBeat 3 (some .int), Cond.methodLink RX0 109 yX2_isReady, Cond.instanceMethod yX2_isReady, Cond.selects RX2 yX2_isReady yX2_isReady, Cond.code yX2_isReady cX2_isReady 2 (some .boolean), Cond.fieldLink RX2 63 "DrumTalk$Village" "queued" "I", Cond.methodLink RX2 87 yX2_isDrumming, Cond.methodLink RX2 73 yX2_isAwake, Cond.instanceMethod yX2_isAwake, Cond.selects RX2 yX2_isAwake yX2_isAwake, Cond.code yX2_isAwake cX2_isAwake 2 (some .boolean), Cond.fieldLink RX2 51 "DrumTalk$Village" "awakeFrom" "I", Cond.fieldLink RX2 15 "DrumTalk$Village" "awakeBeats" "I", Cond.methodLink RX2 81 yJ9_floorMod_7cf53, Cond.static yJ9_floorMod_7cf53]
def wsL_pass_r3 : List Cond := [Cond.initialized RJ9, Cond.code yJ9_floorMod_7cf53 cJ9_floorMod_7cf53 3 (some .int), Cond.methodLink RX0 112 yX0_beginDrumming, Cond.instanceMethod yX0_beginDrumming, Cond.selects RX0 yX0_beginDrumming yX0_beginDrumming, Cond.code yX0_beginDrumming cX0_beginDrumming 9 none, Cond.fieldLink RX0 39 "DrumTalk$Land" "phraseCount" "I", Cond.fieldLink RX0 21 "DrumTalk$Land" "toneCounts" "[I", Cond.fieldLink RX0 129 "DrumTalk$Village" "drumming" "I", Cond.fieldLink RX0 132 "DrumTalk$Village" "beatsLeft" "I", Cond.fieldLink RX0 45 "DrumTalk$Land" "drummings" "I", Cond.fieldLink RX0 139 "DrumTalk$Village" "cliff" "Z", Cond.methodLink RX0 126 yX2_takeFromQueue, Cond.instanceMethod yX2_takeFromQueue, Cond.selects RX2 yX2_takeFromQueue yX2_takeFromQueue, Cond.code yX2_takeFromQueue cX2_takeFromQueue 2 (some .int), Cond.fieldLink RX2 21 "DrumTalk$Village" "queue" "[I", Cond.methodLink RX2 57 arraycopyName, Cond.native arraycopyName, Cond.static arraycopyName, Cond.initialized "java/lang/System", Cond.methodLink RX0 93 yX2_distanceTo, Cond.instanceMethod yX2_distanceTo, Cond.selects RX2 yX2_distanceTo yX2_distanceTo]
def wsL_pass_r4 : List Cond := [Cond.code yX2_distanceTo cX2_distanceTo 2 (some .int), Cond.fieldLink RX2 41 "DrumTalk$Village" "x" "I", Cond.methodLink RX2 91 Lib.Math.abs.name, Cond.static Lib.Math.abs.name, Cond.initialized "java/lang/Math", Cond.code Lib.Math.abs.name Lib.Math.abs.code 1 (some .int), Cond.fieldLink RX2 44 "DrumTalk$Village" "y" "I", Cond.methodLink RX0 97 yX2_isHeardAt, Cond.instanceMethod yX2_isHeardAt, Cond.selects RX2 yX2_isHeardAt yX2_isHeardAt, Cond.code yX2_isHeardAt cX2_isHeardAt 2 (some .boolean), Cond.fieldLink RX2 9 "DrumTalk$Village" "drum" "I", Cond.methodLink RX0 135 yX1_add, Cond.instanceMethod yX1_add, Cond.selects RX1 yX1_add yX1_add, Cond.initialized RX1, Cond.code yX1_add cX1_add 4 none, Cond.fieldLink RX1 24 "DrumTalk$Sounds" "size" "I", Cond.fieldLink RX1 9 "DrumTalk$Sounds" "phrases" "[I", Cond.fieldLink RX1 15 "DrumTalk$Sounds" "firstBeats" "[I", Cond.fieldLink RX1 18 "DrumTalk$Sounds" "lastBeats" "[I", Cond.fieldLink RX1 21 "DrumTalk$Sounds" "drowned" "[I", Cond.methodLink RX0 116 yX2_drownIfDisturbed, Cond.instanceMethod yX2_drownIfDisturbed]
def wsL_pass_r5 : List Cond := [Cond.selects RX2 yX2_drownIfDisturbed yX2_drownIfDisturbed, Cond.code yX2_drownIfDisturbed cX2_drownIfDisturbed 2 none, Cond.fieldLink RX2 31 "DrumTalk$Village" "inTheAir" "LDrumTalk$Sounds;", Cond.methodLink RX2 98 yX1_lasting, Cond.instanceMethod yX1_lasting, Cond.selects RX1 yX1_lasting yX1_lasting, Cond.code yX1_lasting cX1_lasting 4 (some .int), Cond.methodLink RX2 101 yX1_drown, Cond.instanceMethod yX1_drown, Cond.selects RX1 yX1_drown yX1_drown, Cond.code yX1_drown cX1_drown 3 none, Cond.methodLink RX0 119 yX2_endSounds, Cond.instanceMethod yX2_endSounds, Cond.selects RX2 yX2_endSounds yX2_endSounds, Cond.code yX2_endSounds cX2_endSounds 5 (some .int), Cond.fieldLink RX2 105 "DrumTalk$Sounds" "size" "I", Cond.fieldLink RX2 108 "DrumTalk$Sounds" "lastBeats" "[I", Cond.fieldLink RX2 115 "DrumTalk$Sounds" "drowned" "[I", Cond.fieldLink RX2 70 "DrumTalk$Village" "drowned" "I", Cond.fieldLink RX2 117 "DrumTalk$Sounds" "phrases" "[I", Cond.methodLink RX2 111 yX1_move, Cond.instanceMethod yX1_move, Cond.selects RX1 yX1_move yX1_move, Cond.code yX1_move cX1_move 3 none]
def wsL_pass_r6 : List Cond := [Cond.methodLink RX2 95 yX2_isKnown, Cond.instanceMethod yX2_isKnown, Cond.selects RX2 yX2_isKnown yX2_isKnown, Cond.code yX2_isKnown cX2_isKnown 2 (some .boolean), Cond.fieldLink RX2 25 "DrumTalk$Village" "knownSince" "[I", Cond.methodLink RX2 120 yX2_takeIn, Cond.instanceMethod yX2_takeIn, Cond.selects RX2 yX2_takeIn yX2_takeIn, Cond.code yX2_takeIn cX2_takeIn 3 none, Cond.methodLink RX0 123 yX2_endDrumBeat, Cond.instanceMethod yX2_endDrumBeat, Cond.selects RX2 yX2_endDrumBeat yX2_endDrumBeat, Cond.code yX2_endDrumBeat cX2_endDrumBeat 1 none, Cond.fieldLink RX2 54 "DrumTalk$Village" "beatsLeft" "I"]
def wsL_pass : List Cond := .codeWith yL_pass cL_pass 4 (some .int) [(0, 9, 12, 13)] :: ((wsL_pass_r1 ++ (wsL_pass_r2 ++ (wsL_pass_r3 ++ (wsL_pass_r4 ++ (wsL_pass_r5 ++ wsL_pass_r6))))) ++ wsX30 ++ wsX00 ++ wsX20 ++ wsX10 ++ (vx_atS RX3 30 "java/lang/IllegalArgumentException" ["java/lang/RuntimeException", "java/lang/Exception"]).filter goodWord)
def wsL_reaches_r1 : List Cond := [Cond.classLink RL 21 "java/lang/IndexOutOfBoundsException", Cond.methodLink RL 58 yX3_reaches, Cond.instanceMethod yX3_reaches, Cond.selects RX3 yX3_reaches yX3_reaches, Cond.initialized RX3, Cond.code yX3_reaches cX3_reaches 5 (some .int), Cond.fieldLink RX3 16 "DrumTalk" "trial" "LDrumTalk$Land;", Cond.fieldLink RX3 12 "DrumTalk" "land" "LDrumTalk$Land;", Cond.fieldLink RX3 152 "DrumTalk$Land" "villages" "[LDrumTalk$Village;", Cond.methodLink RX3 137 yX3_checkVillage, Cond.instanceMethod yX3_checkVillage, Cond.selects RX3 yX3_checkVillage yX3_checkVillage, Cond.code yX3_checkVillage cX3_checkVillage 2 none, Cond.classLink RX3 107 "java/lang/IndexOutOfBoundsException", Cond.initialized "java/lang/IndexOutOfBoundsException", Cond.fieldLink RX3 33 "DrumTalk$Land" "villageCount" "I", Cond.methodLink RX3 91 yX3_checkPhrase, Cond.instanceMethod yX3_checkPhrase, Cond.selects RX3 yX3_checkPhrase yX3_checkPhrase, Cond.code yX3_checkPhrase cX3_checkPhrase 2 none, Cond.fieldLink RX3 79 "DrumTalk$Land" "phraseCount" "I", Cond.methodLink RX3 148 yX0_copy, Cond.instanceMethod yX0_copy, Cond.selects RX0 yX0_copy yX0_copy]
def wsL_reaches_r2 : List Cond := [Cond.initialized RX0, Cond.code yX0_copy cX0_copy 3 none, Cond.fieldLink RX0 25 "DrumTalk$Land" "villageCount" "I", Cond.fieldLink RX0 11 "DrumTalk$Land" "villages" "[LDrumTalk$Village;", Cond.fieldLink RX0 17 "DrumTalk$Land" "tones" "[I", Cond.methodLink RX0 33 arraycopyName, Cond.native arraycopyName, Cond.static arraycopyName, Cond.initialized "java/lang/System", Cond.fieldLink RX0 21 "DrumTalk$Land" "toneCounts" "[I", Cond.fieldLink RX0 39 "DrumTalk$Land" "phraseCount" "I", Cond.fieldLink RX0 42 "DrumTalk$Land" "beat" "I", Cond.fieldLink RX0 45 "DrumTalk$Land" "drummings" "I", Cond.methodLink RX0 29 yX2_copy, Cond.instanceMethod yX2_copy, Cond.selects RX2 yX2_copy yX2_copy, Cond.initialized RX2, Cond.code yX2_copy cX2_copy 2 none, Cond.fieldLink RX2 41 "DrumTalk$Village" "x" "I", Cond.fieldLink RX2 44 "DrumTalk$Village" "y" "I", Cond.fieldLink RX2 9 "DrumTalk$Village" "drum" "I", Cond.fieldLink RX2 47 "DrumTalk$Village" "cliff" "Z", Cond.fieldLink RX2 51 "DrumTalk$Village" "awakeFrom" "I", Cond.fieldLink RX2 15 "DrumTalk$Village" "awakeBeats" "I"]
def wsL_reaches_r3 : List Cond := [Cond.fieldLink RX2 18 "DrumTalk$Village" "drumming" "I", Cond.fieldLink RX2 54 "DrumTalk$Village" "beatsLeft" "I", Cond.fieldLink RX2 21 "DrumTalk$Village" "queue" "[I", Cond.methodLink RX2 57 arraycopyName, Cond.fieldLink RX2 63 "DrumTalk$Village" "queued" "I", Cond.fieldLink RX2 25 "DrumTalk$Village" "knownSince" "[I", Cond.fieldLink RX2 31 "DrumTalk$Village" "inTheAir" "LDrumTalk$Sounds;", Cond.fieldLink RX2 70 "DrumTalk$Village" "drowned" "I", Cond.methodLink RX2 66 yX1_copy, Cond.instanceMethod yX1_copy, Cond.selects RX1 yX1_copy yX1_copy, Cond.initialized RX1, Cond.code yX1_copy cX1_copy 2 none, Cond.fieldLink RX1 9 "DrumTalk$Sounds" "phrases" "[I", Cond.fieldLink RX1 24 "DrumTalk$Sounds" "size" "I", Cond.methodLink RX1 28 arraycopyName, Cond.fieldLink RX1 15 "DrumTalk$Sounds" "firstBeats" "[I", Cond.fieldLink RX1 18 "DrumTalk$Sounds" "lastBeats" "[I", Cond.fieldLink RX1 21 "DrumTalk$Sounds" "drowned" "[I", Cond.methodLink RX3 156 yX2_isKnown, Cond.instanceMethod yX2_isKnown, Cond.selects RX2 yX2_isKnown yX2_isKnown, Cond.code yX2_isKnown cX2_isKnown 2 (some .boolean), Cond.methodLink RX3 145 yX0_letGo]
def wsL_reaches_r4 : List Cond := [Cond.instanceMethod yX0_letGo, Cond.selects RX0 yX0_letGo yX0_letGo, Cond.code yX0_letGo cX0_letGo 4 (some .int), Cond.methodLink RX0 100 yX0_isQuiet, Cond.instanceMethod yX0_isQuiet, Cond.selects RX0 yX0_isQuiet yX0_isQuiet, Cond.code yX0_isQuiet cX0_isQuiet 3 (some .boolean), Cond.fieldLink RX0 106 "DrumTalk$Village" "queued" "I", Cond.fieldLink RX0 74 "DrumTalk$Village" "inTheAir" "LDrumTalk$Sounds;", Cond.fieldLink RX0 78 "DrumTalk$Sounds" "size" "I", Cond.methodLink RX0 70 yX2_isDrumming, Cond.instanceMethod yX2_isDrumming, Cond.selects RX2 yX2_isDrumming yX2_isDrumming, Cond.code yX2_isDrumming cX2_isDrumming 1 (some .boolean), Cond.methodLink RX0 103 yX0_goBeat, Cond.instanceMethod yX0_goBeat, Cond.selects RX0 yX0_goBeat yX0_goBeat, Cond.code yX0_goBeat cX0_goBeat 3 (some .int), Cond.methodLink RX0 109 yX2_isReady, Cond.instanceMethod yX2_isReady, Cond.selects RX2 yX2_isReady yX2_isReady, Cond.code yX2_isReady cX2_isReady 2 (some .boolean), Cond.methodLink RX2 87 yX2_isDrumming, Cond.methodLink RX2 73 yX2_isAwake]
def wsL_reaches_r5 : List Cond := [Cond.instanceMethod yX2_isAwake, Cond.selects RX2 yX2_isAwake yX2_isAwake, Cond.code yX2_isAwake cX2_isAwake 2 (some .boolean), Cond.methodLink RX2 81 yJ9_floorMod_7cf53, Cond.static yJ9_floorMod_7cf53, Cond.initialized RJ9, Cond.code yJ9_floorMod_7cf53 cJ9_floorMod_7cf53 3 (some .int), Cond.methodLink RX0 112 yX0_beginDrumming, Cond.instanceMethod yX0_beginDrumming, Cond.selects RX0 yX0_beginDrumming yX0_beginDrumming, Cond.code yX0_beginDrumming cX0_beginDrumming 9 none, Cond.fieldLink RX0 129 "DrumTalk$Village" "drumming" "I", Cond.fieldLink RX0 132 "DrumTalk$Village" "beatsLeft" "I", Cond.fieldLink RX0 139 "DrumTalk$Village" "cliff" "Z", Cond.methodLink RX0 126 yX2_takeFromQueue, Cond.instanceMethod yX2_takeFromQueue, Cond.selects RX2 yX2_takeFromQueue yX2_takeFromQueue, Cond.code yX2_takeFromQueue cX2_takeFromQueue 2 (some .int), Cond.methodLink RX0 93 yX2_distanceTo, Cond.instanceMethod yX2_distanceTo, Cond.selects RX2 yX2_distanceTo yX2_distanceTo, Cond.code yX2_distanceTo cX2_distanceTo 2 (some .int), Cond.methodLink RX2 91 Lib.Math.abs.name, Cond.static Lib.Math.abs.name]
def wsL_reaches_r6 : List Cond := [Cond.initialized "java/lang/Math", Cond.code Lib.Math.abs.name Lib.Math.abs.code 1 (some .int), Cond.methodLink RX0 97 yX2_isHeardAt, Cond.instanceMethod yX2_isHeardAt, Cond.selects RX2 yX2_isHeardAt yX2_isHeardAt, Cond.code yX2_isHeardAt cX2_isHeardAt 2 (some .boolean), Cond.methodLink RX0 135 yX1_add, Cond.instanceMethod yX1_add, Cond.selects RX1 yX1_add yX1_add, Cond.code yX1_add cX1_add 4 none, Cond.methodLink RX0 116 yX2_drownIfDisturbed, Cond.instanceMethod yX2_drownIfDisturbed, Cond.selects RX2 yX2_drownIfDisturbed yX2_drownIfDisturbed, Cond.code yX2_drownIfDisturbed cX2_drownIfDisturbed 2 none, Cond.methodLink RX2 98 yX1_lasting, Cond.instanceMethod yX1_lasting, Cond.selects RX1 yX1_lasting yX1_lasting, Cond.code yX1_lasting cX1_lasting 4 (some .int), Cond.methodLink RX2 101 yX1_drown, Cond.instanceMethod yX1_drown, Cond.selects RX1 yX1_drown yX1_drown, Cond.code yX1_drown cX1_drown 3 none, Cond.methodLink RX0 119 yX2_endSounds, Cond.instanceMethod yX2_endSounds]
def wsL_reaches_r7 : List Cond := [Cond.selects RX2 yX2_endSounds yX2_endSounds, Cond.code yX2_endSounds cX2_endSounds 5 (some .int), Cond.fieldLink RX2 105 "DrumTalk$Sounds" "size" "I", Cond.fieldLink RX2 108 "DrumTalk$Sounds" "lastBeats" "[I", Cond.fieldLink RX2 115 "DrumTalk$Sounds" "drowned" "[I", Cond.fieldLink RX2 117 "DrumTalk$Sounds" "phrases" "[I", Cond.methodLink RX2 111 yX1_move, Cond.instanceMethod yX1_move, Cond.selects RX1 yX1_move yX1_move, Cond.code yX1_move cX1_move 3 none, Cond.methodLink RX2 95 yX2_isKnown, Cond.methodLink RX2 120 yX2_takeIn, Cond.instanceMethod yX2_takeIn, Cond.selects RX2 yX2_takeIn yX2_takeIn, Cond.code yX2_takeIn cX2_takeIn 3 none, Cond.methodLink RX0 123 yX2_endDrumBeat, Cond.instanceMethod yX2_endDrumBeat, Cond.selects RX2 yX2_endDrumBeat yX2_endDrumBeat, Cond.code yX2_endDrumBeat cX2_endDrumBeat 1 none]
def wsL_reaches : List Cond := .codeWith yL_reaches cL_reaches 5 (some .int) [(0, 10, 13, 21)] :: ((wsL_reaches_r1 ++ (wsL_reaches_r2 ++ (wsL_reaches_r3 ++ (wsL_reaches_r4 ++ (wsL_reaches_r5 ++ (wsL_reaches_r6 ++ wsL_reaches_r7)))))) ++ wsX30 ++ wsX00 ++ wsX20 ++ wsX10 ++ (vx_atS RX3 111 "java/lang/IndexOutOfBoundsException" ["java/lang/RuntimeException", "java/lang/Exception"]).filter goodWord)
def wsL_best_r1 : List Cond := [Cond.classLink RL 21 "java/lang/IndexOutOfBoundsException", Cond.methodLink RL 61 yX3_best, Cond.instanceMethod yX3_best, Cond.selects RX3 yX3_best yX3_best, Cond.initialized RX3, Cond.code yX3_best cX3_best 7 (some .int), Cond.fieldLink RX3 16 "DrumTalk" "trial" "LDrumTalk$Land;", Cond.fieldLink RX3 12 "DrumTalk" "land" "LDrumTalk$Land;", Cond.methodLink RX3 137 yX3_checkVillage, Cond.instanceMethod yX3_checkVillage, Cond.selects RX3 yX3_checkVillage yX3_checkVillage, Cond.code yX3_checkVillage cX3_checkVillage 2 none, Cond.classLink RX3 107 "java/lang/IndexOutOfBoundsException", Cond.initialized "java/lang/IndexOutOfBoundsException", Cond.fieldLink RX3 33 "DrumTalk$Land" "villageCount" "I", Cond.methodLink RX3 91 yX3_checkPhrase, Cond.instanceMethod yX3_checkPhrase, Cond.selects RX3 yX3_checkPhrase yX3_checkPhrase, Cond.code yX3_checkPhrase cX3_checkPhrase 2 none, Cond.fieldLink RX3 79 "DrumTalk$Land" "phraseCount" "I", Cond.methodLink RX3 148 yX0_copy, Cond.instanceMethod yX0_copy, Cond.selects RX0 yX0_copy yX0_copy, Cond.initialized RX0]
def wsL_best_r2 : List Cond := [Cond.code yX0_copy cX0_copy 3 none, Cond.fieldLink RX0 25 "DrumTalk$Land" "villageCount" "I", Cond.fieldLink RX0 11 "DrumTalk$Land" "villages" "[LDrumTalk$Village;", Cond.fieldLink RX0 17 "DrumTalk$Land" "tones" "[I", Cond.methodLink RX0 33 arraycopyName, Cond.native arraycopyName, Cond.static arraycopyName, Cond.initialized "java/lang/System", Cond.fieldLink RX0 21 "DrumTalk$Land" "toneCounts" "[I", Cond.fieldLink RX0 39 "DrumTalk$Land" "phraseCount" "I", Cond.fieldLink RX0 42 "DrumTalk$Land" "beat" "I", Cond.fieldLink RX0 45 "DrumTalk$Land" "drummings" "I", Cond.methodLink RX0 29 yX2_copy, Cond.instanceMethod yX2_copy, Cond.selects RX2 yX2_copy yX2_copy, Cond.initialized RX2, Cond.code yX2_copy cX2_copy 2 none, Cond.fieldLink RX2 41 "DrumTalk$Village" "x" "I", Cond.fieldLink RX2 44 "DrumTalk$Village" "y" "I", Cond.fieldLink RX2 9 "DrumTalk$Village" "drum" "I", Cond.fieldLink RX2 47 "DrumTalk$Village" "cliff" "Z", Cond.fieldLink RX2 51 "DrumTalk$Village" "awakeFrom" "I", Cond.fieldLink RX2 15 "DrumTalk$Village" "awakeBeats" "I", Cond.fieldLink RX2 18 "DrumTalk$Village" "drumming" "I"]
def wsL_best_r3 : List Cond := [Cond.fieldLink RX2 54 "DrumTalk$Village" "beatsLeft" "I", Cond.fieldLink RX2 21 "DrumTalk$Village" "queue" "[I", Cond.methodLink RX2 57 arraycopyName, Cond.fieldLink RX2 63 "DrumTalk$Village" "queued" "I", Cond.fieldLink RX2 25 "DrumTalk$Village" "knownSince" "[I", Cond.fieldLink RX2 31 "DrumTalk$Village" "inTheAir" "LDrumTalk$Sounds;", Cond.fieldLink RX2 70 "DrumTalk$Village" "drowned" "I", Cond.methodLink RX2 66 yX1_copy, Cond.instanceMethod yX1_copy, Cond.selects RX1 yX1_copy yX1_copy, Cond.initialized RX1, Cond.code yX1_copy cX1_copy 2 none, Cond.fieldLink RX1 9 "DrumTalk$Sounds" "phrases" "[I", Cond.fieldLink RX1 24 "DrumTalk$Sounds" "size" "I", Cond.methodLink RX1 28 arraycopyName, Cond.fieldLink RX1 15 "DrumTalk$Sounds" "firstBeats" "[I", Cond.fieldLink RX1 18 "DrumTalk$Sounds" "lastBeats" "[I", Cond.fieldLink RX1 21 "DrumTalk$Sounds" "drowned" "[I", Cond.methodLink RX3 145 yX0_letGo, Cond.instanceMethod yX0_letGo, Cond.selects RX0 yX0_letGo yX0_letGo, Cond.code yX0_letGo cX0_letGo 4 (some .int), Cond.methodLink RX0 100 yX0_isQuiet, Cond.instanceMethod yX0_isQuiet]
def wsL_best_r4 : List Cond := [Cond.selects RX0 yX0_isQuiet yX0_isQuiet, Cond.code yX0_isQuiet cX0_isQuiet 3 (some .boolean), Cond.fieldLink RX0 106 "DrumTalk$Village" "queued" "I", Cond.fieldLink RX0 74 "DrumTalk$Village" "inTheAir" "LDrumTalk$Sounds;", Cond.fieldLink RX0 78 "DrumTalk$Sounds" "size" "I", Cond.methodLink RX0 70 yX2_isDrumming, Cond.instanceMethod yX2_isDrumming, Cond.selects RX2 yX2_isDrumming yX2_isDrumming, Cond.code yX2_isDrumming cX2_isDrumming 1 (some .boolean), Cond.methodLink RX0 103 yX0_goBeat, Cond.instanceMethod yX0_goBeat, Cond.selects RX0 yX0_goBeat yX0_goBeat, Cond.code yX0_goBeat cX0_goBeat 3 (some .int), Cond.methodLink RX0 109 yX2_isReady, Cond.instanceMethod yX2_isReady, Cond.selects RX2 yX2_isReady yX2_isReady, Cond.code yX2_isReady cX2_isReady 2 (some .boolean), Cond.methodLink RX2 87 yX2_isDrumming, Cond.methodLink RX2 73 yX2_isAwake, Cond.instanceMethod yX2_isAwake, Cond.selects RX2 yX2_isAwake yX2_isAwake, Cond.code yX2_isAwake cX2_isAwake 2 (some .boolean), Cond.methodLink RX2 81 yJ9_floorMod_7cf53, Cond.static yJ9_floorMod_7cf53]
def wsL_best_r5 : List Cond := [Cond.initialized RJ9, Cond.code yJ9_floorMod_7cf53 cJ9_floorMod_7cf53 3 (some .int), Cond.methodLink RX0 112 yX0_beginDrumming, Cond.instanceMethod yX0_beginDrumming, Cond.selects RX0 yX0_beginDrumming yX0_beginDrumming, Cond.code yX0_beginDrumming cX0_beginDrumming 9 none, Cond.fieldLink RX0 129 "DrumTalk$Village" "drumming" "I", Cond.fieldLink RX0 132 "DrumTalk$Village" "beatsLeft" "I", Cond.fieldLink RX0 139 "DrumTalk$Village" "cliff" "Z", Cond.methodLink RX0 126 yX2_takeFromQueue, Cond.instanceMethod yX2_takeFromQueue, Cond.selects RX2 yX2_takeFromQueue yX2_takeFromQueue, Cond.code yX2_takeFromQueue cX2_takeFromQueue 2 (some .int), Cond.methodLink RX0 93 yX2_distanceTo, Cond.instanceMethod yX2_distanceTo, Cond.selects RX2 yX2_distanceTo yX2_distanceTo, Cond.code yX2_distanceTo cX2_distanceTo 2 (some .int), Cond.methodLink RX2 91 Lib.Math.abs.name, Cond.static Lib.Math.abs.name, Cond.initialized "java/lang/Math", Cond.code Lib.Math.abs.name Lib.Math.abs.code 1 (some .int), Cond.methodLink RX0 97 yX2_isHeardAt, Cond.instanceMethod yX2_isHeardAt, Cond.selects RX2 yX2_isHeardAt yX2_isHeardAt]
def wsL_best_r6 : List Cond := [Cond.code yX2_isHeardAt cX2_isHeardAt 2 (some .boolean), Cond.methodLink RX0 135 yX1_add, Cond.instanceMethod yX1_add, Cond.selects RX1 yX1_add yX1_add, Cond.code yX1_add cX1_add 4 none, Cond.methodLink RX0 116 yX2_drownIfDisturbed, Cond.instanceMethod yX2_drownIfDisturbed, Cond.selects RX2 yX2_drownIfDisturbed yX2_drownIfDisturbed, Cond.code yX2_drownIfDisturbed cX2_drownIfDisturbed 2 none, Cond.methodLink RX2 98 yX1_lasting, Cond.instanceMethod yX1_lasting, Cond.selects RX1 yX1_lasting yX1_lasting, Cond.code yX1_lasting cX1_lasting 4 (some .int), Cond.methodLink RX2 101 yX1_drown, Cond.instanceMethod yX1_drown, Cond.selects RX1 yX1_drown yX1_drown, Cond.code yX1_drown cX1_drown 3 none, Cond.methodLink RX0 119 yX2_endSounds, Cond.instanceMethod yX2_endSounds, Cond.selects RX2 yX2_endSounds yX2_endSounds, Cond.code yX2_endSounds cX2_endSounds 5 (some .int), Cond.fieldLink RX2 105 "DrumTalk$Sounds" "size" "I", Cond.fieldLink RX2 108 "DrumTalk$Sounds" "lastBeats" "[I", Cond.fieldLink RX2 115 "DrumTalk$Sounds" "drowned" "[I"]
def wsL_best_r7 : List Cond := [Cond.fieldLink RX2 117 "DrumTalk$Sounds" "phrases" "[I", Cond.methodLink RX2 111 yX1_move, Cond.instanceMethod yX1_move, Cond.selects RX1 yX1_move yX1_move, Cond.code yX1_move cX1_move 3 none, Cond.methodLink RX2 95 yX2_isKnown, Cond.instanceMethod yX2_isKnown, Cond.selects RX2 yX2_isKnown yX2_isKnown, Cond.code yX2_isKnown cX2_isKnown 2 (some .boolean), Cond.methodLink RX2 120 yX2_takeIn, Cond.instanceMethod yX2_takeIn, Cond.selects RX2 yX2_takeIn yX2_takeIn, Cond.code yX2_takeIn cX2_takeIn 3 none, Cond.methodLink RX0 123 yX2_endDrumBeat, Cond.instanceMethod yX2_endDrumBeat, Cond.selects RX2 yX2_endDrumBeat yX2_endDrumBeat, Cond.code yX2_endDrumBeat cX2_endDrumBeat 1 none, Cond.methodLink RX3 159 yX0_knowersOf, Cond.instanceMethod yX0_knowersOf, Cond.selects RX0 yX0_knowersOf yX0_knowersOf, Cond.code yX0_knowersOf cX0_knowersOf 4 (some .int), Cond.methodLink RX0 89 yX2_isKnown, Cond.methodLink RX3 162 yX3_knowersIfTold, Cond.instanceMethod yX3_knowersIfTold]
def wsL_best_r8 : List Cond := [Cond.selects RX3 yX3_knowersIfTold yX3_knowersIfTold, Cond.code yX3_knowersIfTold cX3_knowersIfTold 5 (some .int), Cond.fieldLink RX3 152 "DrumTalk$Land" "villages" "[LDrumTalk$Village;", Cond.fieldLink RX3 95 "DrumTalk$Village" "queued" "I", Cond.fieldLink RX3 100 "DrumTalk$Land" "beat" "I", Cond.methodLink RX3 103 yX2_takeIn]
def wsL_best : List Cond := .codeWith yL_best cL_best 5 (some .int) [(0, 10, 13, 21)] :: ((wsL_best_r1 ++ (wsL_best_r2 ++ (wsL_best_r3 ++ (wsL_best_r4 ++ (wsL_best_r5 ++ (wsL_best_r6 ++ (wsL_best_r7 ++ wsL_best_r8))))))) ++ wsX30 ++ wsX00 ++ wsX20 ++ wsX10 ++ (vx_atS RX3 111 "java/lang/IndexOutOfBoundsException" ["java/lang/RuntimeException", "java/lang/Exception"]).filter goodWord)
def wsL_larger_r1 : List Cond := [Cond.classLink RL 13 "java/lang/IllegalArgumentException", Cond.methodLink RL 64 yX3_larger, Cond.instanceMethod yX3_larger, Cond.selects RX3 yX3_larger yX3_larger, Cond.initialized RX3, Cond.code yX3_larger cX3_larger 6 (some .int), Cond.classLink RX3 26 "java/lang/IllegalArgumentException", Cond.initialized "java/lang/IllegalArgumentException", Cond.fieldLink RX3 16 "DrumTalk" "trial" "LDrumTalk$Land;", Cond.fieldLink RX3 12 "DrumTalk" "land" "LDrumTalk$Land;", Cond.fieldLink RX3 33 "DrumTalk$Land" "villageCount" "I", Cond.fieldLink RX3 152 "DrumTalk$Land" "villages" "[LDrumTalk$Village;", Cond.fieldLink RX3 56 "DrumTalk$Village" "drum" "I", Cond.methodLink RX3 148 yX0_copy, Cond.instanceMethod yX0_copy, Cond.selects RX0 yX0_copy yX0_copy, Cond.initialized RX0, Cond.code yX0_copy cX0_copy 3 none, Cond.fieldLink RX0 25 "DrumTalk$Land" "villageCount" "I", Cond.fieldLink RX0 11 "DrumTalk$Land" "villages" "[LDrumTalk$Village;", Cond.fieldLink RX0 17 "DrumTalk$Land" "tones" "[I", Cond.methodLink RX0 33 arraycopyName, Cond.native arraycopyName, Cond.static arraycopyName]
def wsL_larger_r2 : List Cond := [Cond.initialized "java/lang/System", Cond.fieldLink RX0 21 "DrumTalk$Land" "toneCounts" "[I", Cond.fieldLink RX0 39 "DrumTalk$Land" "phraseCount" "I", Cond.fieldLink RX0 42 "DrumTalk$Land" "beat" "I", Cond.fieldLink RX0 45 "DrumTalk$Land" "drummings" "I", Cond.methodLink RX0 29 yX2_copy, Cond.instanceMethod yX2_copy, Cond.selects RX2 yX2_copy yX2_copy, Cond.initialized RX2, Cond.code yX2_copy cX2_copy 2 none, Cond.fieldLink RX2 41 "DrumTalk$Village" "x" "I", Cond.fieldLink RX2 44 "DrumTalk$Village" "y" "I", Cond.fieldLink RX2 9 "DrumTalk$Village" "drum" "I", Cond.fieldLink RX2 47 "DrumTalk$Village" "cliff" "Z", Cond.fieldLink RX2 51 "DrumTalk$Village" "awakeFrom" "I", Cond.fieldLink RX2 15 "DrumTalk$Village" "awakeBeats" "I", Cond.fieldLink RX2 18 "DrumTalk$Village" "drumming" "I", Cond.fieldLink RX2 54 "DrumTalk$Village" "beatsLeft" "I", Cond.fieldLink RX2 21 "DrumTalk$Village" "queue" "[I", Cond.methodLink RX2 57 arraycopyName, Cond.fieldLink RX2 63 "DrumTalk$Village" "queued" "I", Cond.fieldLink RX2 25 "DrumTalk$Village" "knownSince" "[I", Cond.fieldLink RX2 31 "DrumTalk$Village" "inTheAir" "LDrumTalk$Sounds;", Cond.fieldLink RX2 70 "DrumTalk$Village" "drowned" "I"]
def wsL_larger_r3 : List Cond := [Cond.methodLink RX2 66 yX1_copy, Cond.instanceMethod yX1_copy, Cond.selects RX1 yX1_copy yX1_copy, Cond.initialized RX1, Cond.code yX1_copy cX1_copy 2 none, Cond.fieldLink RX1 9 "DrumTalk$Sounds" "phrases" "[I", Cond.fieldLink RX1 24 "DrumTalk$Sounds" "size" "I", Cond.methodLink RX1 28 arraycopyName, Cond.fieldLink RX1 15 "DrumTalk$Sounds" "firstBeats" "[I", Cond.fieldLink RX1 18 "DrumTalk$Sounds" "lastBeats" "[I", Cond.fieldLink RX1 21 "DrumTalk$Sounds" "drowned" "[I", Cond.methodLink RX3 145 yX0_letGo, Cond.instanceMethod yX0_letGo, Cond.selects RX0 yX0_letGo yX0_letGo, Cond.code yX0_letGo cX0_letGo 4 (some .int), Cond.methodLink RX0 100 yX0_isQuiet, Cond.instanceMethod yX0_isQuiet, Cond.selects RX0 yX0_isQuiet yX0_isQuiet, Cond.code yX0_isQuiet cX0_isQuiet 3 (some .boolean), Cond.fieldLink RX0 106 "DrumTalk$Village" "queued" "I", Cond.fieldLink RX0 74 "DrumTalk$Village" "inTheAir" "LDrumTalk$Sounds;", Cond.fieldLink RX0 78 "DrumTalk$Sounds" "size" "I", Cond.methodLink RX0 70 yX2_isDrumming, Cond.instanceMethod yX2_isDrumming]
def wsL_larger_r4 : List Cond := [Cond.selects RX2 yX2_isDrumming yX2_isDrumming, Cond.code yX2_isDrumming cX2_isDrumming 1 (some .boolean), Cond.methodLink RX0 103 yX0_goBeat, Cond.instanceMethod yX0_goBeat, Cond.selects RX0 yX0_goBeat yX0_goBeat, Cond.code yX0_goBeat cX0_goBeat 3 (some .int), Cond.methodLink RX0 109 yX2_isReady, Cond.instanceMethod yX2_isReady, Cond.selects RX2 yX2_isReady yX2_isReady, Cond.code yX2_isReady cX2_isReady 2 (some .boolean), Cond.methodLink RX2 87 yX2_isDrumming, Cond.methodLink RX2 73 yX2_isAwake, Cond.instanceMethod yX2_isAwake, Cond.selects RX2 yX2_isAwake yX2_isAwake, Cond.code yX2_isAwake cX2_isAwake 2 (some .boolean), Cond.methodLink RX2 81 yJ9_floorMod_7cf53, Cond.static yJ9_floorMod_7cf53, Cond.initialized RJ9, Cond.code yJ9_floorMod_7cf53 cJ9_floorMod_7cf53 3 (some .int), Cond.methodLink RX0 112 yX0_beginDrumming, Cond.instanceMethod yX0_beginDrumming, Cond.selects RX0 yX0_beginDrumming yX0_beginDrumming, Cond.code yX0_beginDrumming cX0_beginDrumming 9 none, Cond.fieldLink RX0 129 "DrumTalk$Village" "drumming" "I"]
def wsL_larger_r5 : List Cond := [Cond.fieldLink RX0 132 "DrumTalk$Village" "beatsLeft" "I", Cond.fieldLink RX0 139 "DrumTalk$Village" "cliff" "Z", Cond.methodLink RX0 126 yX2_takeFromQueue, Cond.instanceMethod yX2_takeFromQueue, Cond.selects RX2 yX2_takeFromQueue yX2_takeFromQueue, Cond.code yX2_takeFromQueue cX2_takeFromQueue 2 (some .int), Cond.methodLink RX0 93 yX2_distanceTo, Cond.instanceMethod yX2_distanceTo, Cond.selects RX2 yX2_distanceTo yX2_distanceTo, Cond.code yX2_distanceTo cX2_distanceTo 2 (some .int), Cond.methodLink RX2 91 Lib.Math.abs.name, Cond.static Lib.Math.abs.name, Cond.initialized "java/lang/Math", Cond.code Lib.Math.abs.name Lib.Math.abs.code 1 (some .int), Cond.methodLink RX0 97 yX2_isHeardAt, Cond.instanceMethod yX2_isHeardAt, Cond.selects RX2 yX2_isHeardAt yX2_isHeardAt, Cond.code yX2_isHeardAt cX2_isHeardAt 2 (some .boolean), Cond.methodLink RX0 135 yX1_add, Cond.instanceMethod yX1_add, Cond.selects RX1 yX1_add yX1_add, Cond.code yX1_add cX1_add 4 none, Cond.methodLink RX0 116 yX2_drownIfDisturbed, Cond.instanceMethod yX2_drownIfDisturbed]
def wsL_larger_r6 : List Cond := [Cond.selects RX2 yX2_drownIfDisturbed yX2_drownIfDisturbed, Cond.code yX2_drownIfDisturbed cX2_drownIfDisturbed 2 none, Cond.methodLink RX2 98 yX1_lasting, Cond.instanceMethod yX1_lasting, Cond.selects RX1 yX1_lasting yX1_lasting, Cond.code yX1_lasting cX1_lasting 4 (some .int), Cond.methodLink RX2 101 yX1_drown, Cond.instanceMethod yX1_drown, Cond.selects RX1 yX1_drown yX1_drown, Cond.code yX1_drown cX1_drown 3 none, Cond.methodLink RX0 119 yX2_endSounds, Cond.instanceMethod yX2_endSounds, Cond.selects RX2 yX2_endSounds yX2_endSounds, Cond.code yX2_endSounds cX2_endSounds 5 (some .int), Cond.fieldLink RX2 105 "DrumTalk$Sounds" "size" "I", Cond.fieldLink RX2 108 "DrumTalk$Sounds" "lastBeats" "[I", Cond.fieldLink RX2 115 "DrumTalk$Sounds" "drowned" "[I", Cond.fieldLink RX2 117 "DrumTalk$Sounds" "phrases" "[I", Cond.methodLink RX2 111 yX1_move, Cond.instanceMethod yX1_move, Cond.selects RX1 yX1_move yX1_move, Cond.code yX1_move cX1_move 3 none, Cond.methodLink RX2 95 yX2_isKnown, Cond.instanceMethod yX2_isKnown]
def wsL_larger_r7 : List Cond := [Cond.selects RX2 yX2_isKnown yX2_isKnown, Cond.code yX2_isKnown cX2_isKnown 2 (some .boolean), Cond.methodLink RX2 120 yX2_takeIn, Cond.instanceMethod yX2_takeIn, Cond.selects RX2 yX2_takeIn yX2_takeIn, Cond.code yX2_takeIn cX2_takeIn 3 none, Cond.methodLink RX0 123 yX2_endDrumBeat, Cond.instanceMethod yX2_endDrumBeat, Cond.selects RX2 yX2_endDrumBeat yX2_endDrumBeat, Cond.code yX2_endDrumBeat cX2_endDrumBeat 1 none, Cond.methodLink RX3 167 yX0_knownPairs, Cond.instanceMethod yX0_knownPairs, Cond.selects RX0 yX0_knownPairs yX0_knownPairs, Cond.code yX0_knownPairs cX0_knownPairs 3 (some .int), Cond.methodLink RX0 86 yX2_phrasesKnown, Cond.instanceMethod yX2_phrasesKnown, Cond.selects RX2 yX2_phrasesKnown yX2_phrasesKnown, Cond.code yX2_phrasesKnown cX2_phrasesKnown 3 (some .int), Cond.methodLink RX3 171 yX3_pairsIfLarger, Cond.instanceMethod yX3_pairsIfLarger, Cond.selects RX3 yX3_pairsIfLarger yX3_pairsIfLarger, Cond.code yX3_pairsIfLarger cX3_pairsIfLarger 3 (some .int)]
def wsL_larger : List Cond := .codeWith yL_larger cL_larger 4 (some .int) [(0, 9, 12, 13)] :: ((wsL_larger_r1 ++ (wsL_larger_r2 ++ (wsL_larger_r3 ++ (wsL_larger_r4 ++ (wsL_larger_r5 ++ (wsL_larger_r6 ++ wsL_larger_r7)))))) ++ wsX30 ++ wsX00 ++ wsX20 ++ wsX10 ++ (vx_atS RX3 30 "java/lang/IllegalArgumentException" ["java/lang/RuntimeException", "java/lang/Exception"]).filter goodWord)
abbrev vwCl : List vw_C := [(RX0, TX0, 7), (RX1, TX1, 5), (RX2, TX2, 13), (RX3, TX3, 2), (RX4, TX4, 16), (RX5, TX5, 12)]
end
section
/-! Our own words over the kit's rows: one memory of numbers for the whole world, keys for its cells. -/
abbrev Ky : Type := Nat × Nat × Nat
abbrev Mm : Type := Ky → Nat → Int
abbrev vI (z : Int) : Value := .int (Int32.ofInt z)
def inR (z : Int) : Prop := -2147483648 ≤ z ∧ z < 2147483648
def rng (w : Mm) : Prop := ∀ k j, inR (w k j)
def st1 (w : Mm) (k : Ky) (j : Nat) (x : Int) : Mm := fun k' j' => if k' = k ∧ j' = j then x else w k' j'
theorem st1_eq (w : Mm) (k : Ky) (j : Nat) (x : Int) : st1 w k j x k j = x := by simp [st1]
theorem st1_j {w : Mm} {k : Ky} {j j' : Nat} {x : Int} (h : j' ≠ j) : st1 w k j x k j' = w k j' := by simp [st1, h]
theorem st1_k {w : Mm} {k k' : Ky} {j j' : Nat} {x : Int} (h : k' ≠ k) : st1 w k j x k' j' = w k' j' := by simp [st1, h]
theorem rng_st {w : Mm} {k : Ky} {j : Nat} {x : Int} (h : rng w) (hx : inR x) : rng (st1 w k j x) := by
  intro k' j'
  unfold st1
  split
  · exact hx
  · exact h k' j'
theorem tI {z : Int} (h : inR z) : (Int32.ofInt z).toInt = z := by
  refine Int32.toInt_ofInt_of_le ?_ ?_
  · have := h.1; omega
  · have := h.2; omega
theorem inR_of (x : Int32) : inR x.toInt := by
  have h1 := Int32.le_toInt x
  have h2 := Int32.toInt_lt x
  exact ⟨by omega, by omega⟩
/-- what kind of cell a key is: 0 Land, 1 Sounds, 2 Village, 3 DrumTalk, 4 State, 5 Model, 6 a row of numbers, 7 the villages, 8 a row of longs, 9 none -/
def kd (k : Ky) : Nat × Nat :=
  if k.1 ≤ 1 then
    if k.2.1 ≤ 7 then
      (match k.2.2 with | 0 => (2, 0) | 1 => (6, 5) | 2 => (6, 12) | 3 => (1, 0) | 4 => (6, 112) | 5 => (6, 112) | 6 => (6, 112) | 7 => (6, 112) | _ => (9, 0))
    else if k.2.1 = 8 then
      (match k.2.2 with | 0 => (0, 0) | 1 => (6, 12) | 2 => (6, 12) | 3 => (7, 8) | _ => (9, 0))
    else (9, 0)
  else if k.2.1 = 0 then
    (match k.1 with
    | 2 => (match k.2.2 with | 0 => (3, 0) | _ => (9, 0))
    | 3 => (match k.2.2 with | 0 => (5, 0) | 1 => (6, 8) | 2 => (6, 8) | 3 => (6, 8) | 4 => (6, 8) | 5 => (6, 8) | 6 => (6, 12) | 7 => (6, 12) | _ => (9, 0))
    | 4 | 5 => (match k.2.2 with | 0 => (4, 0) | 1 => (6, 8) | 2 => (6, 8) | 3 => (6, 8) | 4 => (6, 8) | 5 => (6, 40) | 6 => (6, 96) | 7 => (6, 8) | 8 => (6, 1024) | 9 => (6, 1024) | 10 => (6, 1024) | 11 => (6, 1024) | 12 => (6, 1024) | _ => (9, 0))
    | 6 => (match k.2.2 with | 0 => (8, 1) | _ => (9, 0))
    | 7 => (match k.2.2 with | 0 => (6, 10) | 1 => (6, 8) | _ => (9, 0))
    | _ => (9, 0))
  else (9, 0)
/-- the world's fixed things: the classes' numbers; which keys stand; where -/
abbrev Gt : Type := va_G × (ClassId × ClassId × ClassId) × (Ky → Prop) × (Ky → Nat)
def adr (G : Gt) (k : Ky) : Nat := G.2.2.2 k
def okk (G : Gt) (k : Ky) : Prop := G.2.2.1 k
def flds (ad : Ky → Nat) (w : Mm) (k : Ky) (ci : Nat) : List Value := match ci with
  | 0 => [.ref (ad (k.1, 8, 3)), vI (w k 1), .ref (ad (k.1, 8, 1)), .ref (ad (k.1, 8, 2)), vI (w k 4), vI (w k 5), vI (w k 6)]
  | 1 => [.ref (ad (k.1, k.2.1, 4)), .ref (ad (k.1, k.2.1, 5)), .ref (ad (k.1, k.2.1, 6)), .ref (ad (k.1, k.2.1, 7)), vI (w k 4)]
  | 2 => [vI (w k 0), vI (w k 1), vI (w k 2), vI (w k 3), vI (w k 4), vI (w k 5), vI (w k 6), vI (w k 7), .ref (ad (k.1, k.2.1, 1)), vI (w k 9), .ref (ad (k.1, k.2.1, 2)), .ref (ad (k.1, k.2.1, 3)), vI (w k 12)]
  | 3 => [.ref (ad (0, 8, 0)), .ref (ad (1, 8, 0))]
  | 4 => [vI (w k 0), vI (w k 1), vI (w k 2), .ref (ad (k.1, 0, 1)), .ref (ad (k.1, 0, 2)), .ref (ad (k.1, 0, 3)), .ref (ad (k.1, 0, 4)), .ref (ad (k.1, 0, 5)), .ref (ad (k.1, 0, 6)), .ref (ad (k.1, 0, 7)), .ref (ad (k.1, 0, 8)), .ref (ad (k.1, 0, 9)), .ref (ad (k.1, 0, 10)), .ref (ad (k.1, 0, 11)), .ref (ad (k.1, 0, 12)), .ref (ad (3, 0, 0))]
  | 5 => [vI (w k 0), vI (w k 1), vI (w k 2), .ref (ad (3, 0, 1)), .ref (ad (3, 0, 2)), .ref (ad (3, 0, 3)), .ref (ad (3, 0, 4)), .ref (ad (3, 0, 5)), .ref (ad (3, 0, 6)), .ref (ad (3, 0, 7)), .ref (ad (4, 0, 0)), .ref (ad (5, 0, 0))]
  | _ => []
def ent (c3 : ClassId × ClassId × ClassId) (ad : Ky → Nat) (w : Mm) (k : Ky) : va_E := match kd k with
  | (6, n) => .inl (c3.1, n, .inl (fun j => Int32.ofInt (w k j)))
  | (7, n) => .inl (c3.2.1, n, .inr (.inr (.inr (.inr (fun j => some (ad (k.1, j, 0)))))))
  | (8, n) => .inl (c3.2.2, n, .inr (.inl (fun j => Int64.ofInt (w k j))))
  | (ci, _) => .inr (ci, flds ad w k ci)
def Pic (G : Gt) (w : Mm) (H : Heap) : Prop := rng w ∧ ∀ k, okk G k → va_at G.1 vwCl (adr G k, ent G.2.1 (adr G) w k) H
abbrev tysG (G : Gt) : List (ClassId × FieldType) := [(G.2.1.1, .int), (G.2.1.2.1, .object RX2), (G.2.1.2.2, .long)]
def Gok (G : Gt) : Prop := (∀ k k', okk G k → okk G k' → adr G k = adr G k' → k = k') ∧ ∀ k, (kd k).1 < 9 → k.1 ≤ 6 → okk G k
abbrev Bx : Type := Program × Launch × Env × Room × State × MethodId × Array Value × List Frame × Method × Code
/-- a walk over any heap that holds the memory w -/
def Wm (B : Bx) (nL : Nat) (G : Gt) (A : Nat → Prop) (Q : State → Prop) (w : Mm) (cells slots pc : Nat) (lv : List (Nat × Value)) (st : List Value) : Prop :=
  ∀ (H : Heap) (locs : List Loc) (ls : Array Slot), Pic G w H → va_S A B.2.2.2.2.1.heap H locs → lv_has ls nL lv → W B.1 B.2.1 B.2.2.1 B.2.2.2.1 B.2.2.2.2.1 B.2.2.2.2.2.1 B.2.2.2.2.2.2.1 B.2.2.2.2.2.2.2.1 B.2.2.2.2.2.2.2.2.1 B.2.2.2.2.2.2.2.2.2 H locs cells slots Q (F0 B.2.2.2.2.2.1 pc ls st)
def Ag (G : Gt) (sz : Nat) : Nat → Prop := fun q => (∃ k, okk G k ∧ adr G k = q) ∨ sz ≤ q
/-- what stands while a method is walked -/
def Cx (B : Bx) (nL : Nat) (G : Gt) (A : Nat → Prop) (cc : ByteArray) (own : String) (Ts : List Cond) (ret : Option FieldType) (Rm : Room) : Prop :=
  B.1.tables.exec = Jvm.exec ∧ B.2.2.2.2.2.2.2.2.2.code = cc ∧ B.2.2.2.2.2.2.2.2.2.maxLocals = nL ∧ B.2.2.2.2.1.vm.findClass own = some B.2.2.2.2.2.1.cls ∧ (∀ w ∈ Ts, w.before B.2.2.2.2.2.2.1 B.2.2.2.2.1 = true) ∧ va_K G.1 vwCl (tysG G) B.2.2.2.2.1 ∧ Gok G ∧ (∀ k, okk G k → A (adr G k)) ∧ (∀ q : Nat, B.2.2.2.2.1.heap.size ≤ q → A q) ∧ B.2.2.2.2.2.2.2.2.1.locks = false ∧ B.2.2.2.2.2.2.2.2.1.sig.returnType = ret ∧ B.2.2.2.1 = Rm
def Qw (G : Gt) (v : Option Value) (w' : Mm) (A : Nat → Prop) : Array Value → State → Outcome → State → Prop := fun _ st oc t => oc = .returned v ∧ Pic G w' t.heap ∧ va_F A st t
def Pw (G : Gt) (w : Mm) (sz : Nat) (av : List Value) : Array Value → State → Prop := fun v U => v = av.toArray ∧ U.heap.size = sz ∧ Pic G w U.heap ∧ va_K G.1 vwCl (tysG G) U
theorem Pw.blind {G : Gt} {w : Mm} {sz : Nat} {av : List Value} : FrameBlind (Pw G w sz av) := fun a U g mk q => by
  obtain ⟨q0, q1, qP, qK⟩ := q
  exact ⟨q0, q1, qP, va_K.moved (u := U) (U := U.calling g mk a) (Vm.Alike.refl U.vm) qK⟩
/-- a contract over the whole world: it answers v, and the memory is w' -/
def Con (l : Launch) (G : Gt) (y : MethodName) (ws : List Cond) (rm : Room) (w : Mm) (av : List Value) (v : Option Value) (w' : Mm) (mc ms : Nat) : Prop :=
  ∀ sz : Nat, Met l y ws rm (Pw G w sz av) (Qw G v w' (Ag G sz)) mc ms (Ag G sz)
abbrev Qe (B : Bx) (G : Gt) (A : Nat → Prop) (v : Option Value) (w' : Mm) (mc ms : Nat) : State → Prop := MQ B.2.2.2.2.2.2.2.1 (Qw G v w' A) B.2.2.2.2.2.2.1 B.2.2.2.2.1 mc ms A
theorem Con.head {l : Launch} {G : Gt} {y : MethodName} {ws ws' : List Cond} {rm : Room} {w : Mm} {av : List Value} {v : Option Value} {w' : Mm} {mc ms : Nat} {cc : ByteArray} {nL : Nat} {ret : Option FieldType}
    (hG : Gok G) (hy : plainName y.cls = true) (hw : ws = Cond.code y cc nL ret :: ws') (hn : (lg_sl av).length ≤ nL)
    (body : ∀ (B : Bx) (A : Nat → Prop), B.2.1 = l → Cx B nL G A cc y.cls ws ret rm → rng w → Wm B nL G A (Qe B G A v w' mc ms) w 0 0 0 (lv_args 0 av) []) : Con l G y ws rm w av v w' mc ms := by
  intro sz
  refine Met.ofW (cc := cc) (maxL := nL) (ret := ret) hy hw ?_
  intro p e s m args below meth c s₁ B hml hv
  obtain ⟨rfl, hsz, hP, hK⟩ := hv
  have hts := atoms_spec (ws := ws) B.pre
  have hown : s.vm.findClass y.cls = some m.cls := findClass_of_methodNamed B.named
  subst hsz
  have hl := lv_entry av hn
  rw [lg_entry_eq]
  refine body (p, l, e, (headSpec ws rm).room, s, m, av.toArray, below, meth, c) (Ag G s.heap.size) rfl ⟨B.exec, B.bytes, hml, hown, hts, hK, hG, fun k hk => Or.inl ⟨k, hk, rfl⟩, fun q h => Or.inr h, B.notSynchronized, B.returns, rfl⟩ hP.1 s.heap [] _ hP va_S.rf hl

/-! numbers -/
theorem ci_eq1 {a b : Int} (ha : inR a) (hb : inR b) (h : Int32.ofInt a = Int32.ofInt b) : a = b := by rw [← tI ha, ← tI hb, h]
theorem ci_eq2 {a b : Int} (_ : inR a) (_ : inR b) (h : ¬ Int32.ofInt a = Int32.ofInt b) : ¬ a = b := fun q => h (by rw [q])
theorem ci_ne1 {a b : Int} (_ : inR a) (_ : inR b) (h : ¬ Int32.ofInt a = Int32.ofInt b) : ¬ a = b := fun q => h (by rw [q])
theorem ci_ne2 {a b : Int} (ha : inR a) (hb : inR b) (h : Int32.ofInt a = Int32.ofInt b) : a = b := by rw [← tI ha, ← tI hb, h]
theorem ci_lt {a b : Int} (ha : inR a) (hb : inR b) : Int32.ofInt a < Int32.ofInt b ↔ a < b := by rw [Int32.lt_iff_toInt_lt, tI ha, tI hb]
theorem ci_le {a b : Int} (ha : inR a) (hb : inR b) : Int32.ofInt a ≤ Int32.ofInt b ↔ a ≤ b := by rw [Int32.le_iff_toInt_le, tI ha, tI hb]
theorem ci_lt1 {a b : Int} (ha : inR a) (hb : inR b) (h : Int32.ofInt a < Int32.ofInt b) : a < b := (ci_lt ha hb).mp h
theorem ci_lt2 {a b : Int} (ha : inR a) (hb : inR b) (h : ¬ Int32.ofInt a < Int32.ofInt b) : b ≤ a := Int.not_lt.mp (fun q => h ((ci_lt ha hb).mpr q))
theorem ci_ge1 {a b : Int} (ha : inR a) (hb : inR b) (h : Int32.ofInt b ≤ Int32.ofInt a) : b ≤ a := (ci_le hb ha).mp h
theorem ci_ge2 {a b : Int} (ha : inR a) (hb : inR b) (h : ¬ Int32.ofInt b ≤ Int32.ofInt a) : a < b := Int.not_le.mp (fun q => h ((ci_le hb ha).mpr q))
theorem ci_gt1 {a b : Int} (ha : inR a) (hb : inR b) (h : Int32.ofInt b < Int32.ofInt a) : b < a := (ci_lt hb ha).mp h
theorem ci_gt2 {a b : Int} (ha : inR a) (hb : inR b) (h : ¬ Int32.ofInt b < Int32.ofInt a) : a ≤ b := Int.not_lt.mp (fun q => h ((ci_lt hb ha).mpr q))
theorem ci_le1 {a b : Int} (ha : inR a) (hb : inR b) (h : Int32.ofInt a ≤ Int32.ofInt b) : a ≤ b := (ci_le ha hb).mp h
theorem ci_le2 {a b : Int} (ha : inR a) (hb : inR b) (h : ¬ Int32.ofInt a ≤ Int32.ofInt b) : b < a := Int.not_le.mp (fun q => h ((ci_le ha hb).mpr q))
theorem inR_0 : inR 0 := ⟨by decide, by decide⟩
theorem oi0 : Int32.ofInt 0 = 0 := rfl
theorem c0_eq1 {a : Int} (ha : inR a) (h : Int32.ofInt a = 0) : a = 0 := ci_eq1 ha inR_0 h
theorem c0_eq2 {a : Int} (ha : inR a) (h : ¬ Int32.ofInt a = 0) : ¬ a = 0 := ci_eq2 ha inR_0 h
theorem c0_ne1 {a : Int} (ha : inR a) (h : ¬ Int32.ofInt a = 0) : ¬ a = 0 := ci_eq2 ha inR_0 h
theorem c0_ne2 {a : Int} (ha : inR a) (h : Int32.ofInt a = 0) : a = 0 := ci_eq1 ha inR_0 h
theorem c0_lt1 {a : Int} (ha : inR a) (h : Int32.ofInt a < 0) : a < 0 := ci_lt1 ha inR_0 h
theorem c0_lt2 {a : Int} (ha : inR a) (h : ¬ Int32.ofInt a < 0) : 0 ≤ a := ci_lt2 ha inR_0 h
theorem c0_ge1 {a : Int} (ha : inR a) (h : 0 ≤ Int32.ofInt a) : 0 ≤ a := ci_ge1 ha inR_0 h
theorem c0_ge2 {a : Int} (ha : inR a) (h : ¬ 0 ≤ Int32.ofInt a) : a < 0 := ci_ge2 ha inR_0 h
theorem c0_gt1 {a : Int} (ha : inR a) (h : 0 < Int32.ofInt a) : 0 < a := ci_gt1 ha inR_0 h
theorem c0_gt2 {a : Int} (ha : inR a) (h : ¬ 0 < Int32.ofInt a) : a ≤ 0 := ci_gt2 ha inR_0 h
theorem c0_le1 {a : Int} (ha : inR a) (h : Int32.ofInt a ≤ 0) : a ≤ 0 := ci_le1 ha inR_0 h
theorem c0_le2 {a : Int} (ha : inR a) (h : ¬ Int32.ofInt a ≤ 0) : 0 < a := ci_le2 ha inR_0 h
theorem div_ne {b : Int} (h : 0 < b) (h2 : b < 2147483648) : ¬ Int32.ofInt b = 0 := fun q => by
  have := c0_eq1 ⟨by omega, h2⟩ q
  omega
theorem div_eq {a b : Int} (ha : 0 ≤ a) (ha2 : a < 2147483648) (hb : 0 < b) (hb2 : b < 2147483648) : Int32.ofInt a / Int32.ofInt b = Int32.ofInt (a / b) := by
  have h1 : (Int32.ofInt a).toInt = a := tI ⟨by omega, ha2⟩
  have h2 : (Int32.ofInt b).toInt = b := tI ⟨by omega, hb2⟩
  have h3 : 0 ≤ a / b := Int.ediv_nonneg ha (by omega)
  have h4 : a / b ≤ a := Int.ediv_le_self b ha
  apply Int32.toInt_inj.mp
  rw [Int32.toInt_div_of_ne_right _ _ (fun q => by rw [q] at h2; simp at h2; omega), h1, h2, tI ⟨by omega, by omega⟩]
  exact Int.tdiv_eq_ediv_of_nonneg ha
theorem rem_eq {a b : Int} (ha : 0 ≤ a) (ha2 : a < 2147483648) (hb : 0 < b) (hb2 : b < 2147483648) : Int32.ofInt a - Int32.ofInt a / Int32.ofInt b * Int32.ofInt b = Int32.ofInt (a % b) := by
  rw [div_eq ha ha2 hb hb2, ← Int32.ofInt_mul, ← Int32.ofInt_sub]
  congr 1
  have := Int.emod_add_mul_ediv a b
  rw [Int.mul_comm (a / b) b]
  omega
theorem i2l_eq {a : Int} (ha : inR a) : (Int32.ofInt a).toInt64 = Int64.ofInt a := by
  rw [← Int64.ofInt_int32ToInt, tI ha]

section ROWS
variable {B : Bx} {nL : Nat} {G : Gt} {A : Nat → Prop} {cc : ByteArray} {own : String} {Ts : List Cond} {ret : Option FieldType} {Rm : Room} {Q : State → Prop} {w : Mm} {cells slots pc : Nat} {lv : List (Nat × Value)} {st : List Value}

theorem r_iconst (C : Cx B nL G A cc own Ts ret Rm) {n : Int} (hd : decode cc pc = .ok (.iconst n, 1))  (kk : Wm B nL G A Q w cells slots (pc + 1) lv (vI n :: st)) : Wm B nL G A Q w cells slots pc lv (st) := by
  obtain ⟨p, l, e, R, s, m, args, below, meth, c⟩ := B
  intro H locs ls hP hS hl
  have kk := kk H locs ls hP hS hl
  
  exact lv_iconst C.1 C.2.1 hd rfl kk

theorem r_bipush (C : Cx B nL G A cc own Ts ret Rm) {n : Int} (hd : decode cc pc = .ok (.bipush n, 2)) (hn : (Int8.ofInt n).toInt32 = Int32.ofInt n) (kk : Wm B nL G A Q w cells slots (pc + 2) lv (vI n :: st)) : Wm B nL G A Q w cells slots pc lv (st) := by
  obtain ⟨p, l, e, R, s, m, args, below, meth, c⟩ := B
  intro H locs ls hP hS hl
  have kk := kk H locs ls hP hS hl
  
  exact lv_bipush C.1 C.2.1 hd hn kk

theorem r_sipush (C : Cx B nL G A cc own Ts ret Rm) {n : Int} (hd : decode cc pc = .ok (.sipush n, 3)) (hn : (Int16.ofInt n).toInt32 = Int32.ofInt n) (kk : Wm B nL G A Q w cells slots (pc + 3) lv (vI n :: st)) : Wm B nL G A Q w cells slots pc lv (st) := by
  obtain ⟨p, l, e, R, s, m, args, below, meth, c⟩ := B
  intro H locs ls hP hS hl
  have kk := kk H locs ls hP hS hl
  
  exact lv_sipush C.1 C.2.1 hd hn kk

theorem r_iload_n (C : Cx B nL G A cc own Ts ret Rm) {i : Fin 4} {k : Nat} {z : Int} (hd : decode cc pc = .ok (.iload_n i, 1)) (hk : lv[k]? = some ((i : Nat), vI z)) (kk : Wm B nL G A Q w cells slots (pc + 1) lv (vI z :: st)) : Wm B nL G A Q w cells slots pc lv (st) := by
  obtain ⟨p, l, e, R, s, m, args, below, meth, c⟩ := B
  intro H locs ls hP hS hl
  have kk := kk H locs ls hP hS hl
  
  exact lv_iload_n C.1 C.2.1 hd rfl (lv_at hl k hk) kk

theorem r_iload (C : Cx B nL G A cc own Ts ret Rm) {i : Nat} {k : Nat} {z : Int} (hd : decode cc pc = .ok (.iload i, 2)) (hk : lv[k]? = some (i, vI z)) (kk : Wm B nL G A Q w cells slots (pc + 2) lv (vI z :: st)) : Wm B nL G A Q w cells slots pc lv (st) := by
  obtain ⟨p, l, e, R, s, m, args, below, meth, c⟩ := B
  intro H locs ls hP hS hl
  have kk := kk H locs ls hP hS hl
  
  exact lv_iload C.1 C.2.1 hd (lv_at hl k hk) kk

theorem r_aload_n (C : Cx B nL G A cc own Ts ret Rm) {i : Fin 4} {k : Nat} {a : Nat} (hd : decode cc pc = .ok (.aload_n i, 1)) (hk : lv[k]? = some ((i : Nat), .ref a)) (kk : Wm B nL G A Q w cells slots (pc + 1) lv (.ref a :: st)) : Wm B nL G A Q w cells slots pc lv (st) := by
  obtain ⟨p, l, e, R, s, m, args, below, meth, c⟩ := B
  intro H locs ls hP hS hl
  have kk := kk H locs ls hP hS hl
  
  exact lv_aload_n C.1 C.2.1 hd rfl (lv_at hl k hk) kk

theorem r_aload (C : Cx B nL G A cc own Ts ret Rm) {i : Nat} {k : Nat} {a : Nat} (hd : decode cc pc = .ok (.aload i, 2)) (hk : lv[k]? = some (i, .ref a)) (kk : Wm B nL G A Q w cells slots (pc + 2) lv (.ref a :: st)) : Wm B nL G A Q w cells slots pc lv (st) := by
  obtain ⟨p, l, e, R, s, m, args, below, meth, c⟩ := B
  intro H locs ls hP hS hl
  have kk := kk H locs ls hP hS hl
  
  exact lv_aload C.1 C.2.1 hd (lv_at hl k hk) kk

theorem r_lload_n (C : Cx B nL G A cc own Ts ret Rm) {i : Fin 4} {k : Nat} {z : Int64} (hd : decode cc pc = .ok (.lload_n i, 1)) (hk : lv[k]? = some ((i : Nat), .long z)) (kk : Wm B nL G A Q w cells slots (pc + 1) lv (.long z :: st)) : Wm B nL G A Q w cells slots pc lv (st) := by
  obtain ⟨p, l, e, R, s, m, args, below, meth, c⟩ := B
  intro H locs ls hP hS hl
  have kk := kk H locs ls hP hS hl
  
  exact lv_lload_n C.1 C.2.1 hd rfl (lv_at hl k hk) kk

theorem r_lload (C : Cx B nL G A cc own Ts ret Rm) {i : Nat} {k : Nat} {z : Int64} (hd : decode cc pc = .ok (.lload i, 2)) (hk : lv[k]? = some (i, .long z)) (kk : Wm B nL G A Q w cells slots (pc + 2) lv (.long z :: st)) : Wm B nL G A Q w cells slots pc lv (st) := by
  obtain ⟨p, l, e, R, s, m, args, below, meth, c⟩ := B
  intro H locs ls hP hS hl
  have kk := kk H locs ls hP hS hl
  
  exact lv_lload C.1 C.2.1 hd (lv_at hl k hk) kk

theorem r_dload (C : Cx B nL G A cc own Ts ret Rm) {i : Nat} {k : Nat} {z : UInt64} (hd : decode cc pc = .ok (.dload i, 2)) (hk : lv[k]? = some (i, .double z)) (kk : Wm B nL G A Q w cells slots (pc + 2) lv (.double z :: st)) : Wm B nL G A Q w cells slots pc lv (st) := by
  obtain ⟨p, l, e, R, s, m, args, below, meth, c⟩ := B
  intro H locs ls hP hS hl
  have kk := kk H locs ls hP hS hl
  
  exact lv_dload C.1 C.2.1 hd (lv_at hl k hk) kk

theorem r_istore_n (C : Cx B nL G A cc own Ts ret Rm) {j : Fin 4} {i : Nat} {z : Int} {lv' : List (Nat × Value)} (hd : decode cc pc = .ok (.istore_n j, 1)) (hi : (j : Nat) = i) (hn : i < nL) (hl : (i, vI z) :: lv.filter (fun q => !(q.1 == i) && !(q.1 + 1 == i && q.2.category == 2)) = lv') (kk : Wm B nL G A Q w cells slots (pc + 1) lv' st) : Wm B nL G A Q w cells slots pc lv (vI z :: st) := by
  obtain ⟨p, l, e, R, s, m, args, below, meth, c⟩ := B
  intro H locs ls hP hS h
  exact lv_istore_n C.1 C.2.1 hd hi h hn hl (fun ls' h' => kk H locs ls' hP hS h')

theorem r_istore (C : Cx B nL G A cc own Ts ret Rm) {i : Nat} {z : Int} {lv' : List (Nat × Value)} (hd : decode cc pc = .ok (.istore i, 2))  (hn : i < nL) (hl : (i, vI z) :: lv.filter (fun q => !(q.1 == i) && !(q.1 + 1 == i && q.2.category == 2)) = lv') (kk : Wm B nL G A Q w cells slots (pc + 2) lv' st) : Wm B nL G A Q w cells slots pc lv (vI z :: st) := by
  obtain ⟨p, l, e, R, s, m, args, below, meth, c⟩ := B
  intro H locs ls hP hS h
  exact lv_istore C.1 C.2.1 hd  h hn hl (fun ls' h' => kk H locs ls' hP hS h')

theorem r_astore_n (C : Cx B nL G A cc own Ts ret Rm) {j : Fin 4} {i : Nat} {z : Nat} {lv' : List (Nat × Value)} (hd : decode cc pc = .ok (.astore_n j, 1)) (hi : (j : Nat) = i) (hn : i < nL) (hl : (i, .ref z) :: lv.filter (fun q => !(q.1 == i) && !(q.1 + 1 == i && q.2.category == 2)) = lv') (kk : Wm B nL G A Q w cells slots (pc + 1) lv' st) : Wm B nL G A Q w cells slots pc lv (.ref z :: st) := by
  obtain ⟨p, l, e, R, s, m, args, below, meth, c⟩ := B
  intro H locs ls hP hS h
  exact lv_astore_n C.1 C.2.1 hd hi h hn hl (fun ls' h' => kk H locs ls' hP hS h')

theorem r_astore (C : Cx B nL G A cc own Ts ret Rm) {i : Nat} {z : Nat} {lv' : List (Nat × Value)} (hd : decode cc pc = .ok (.astore i, 2))  (hn : i < nL) (hl : (i, .ref z) :: lv.filter (fun q => !(q.1 == i) && !(q.1 + 1 == i && q.2.category == 2)) = lv') (kk : Wm B nL G A Q w cells slots (pc + 2) lv' st) : Wm B nL G A Q w cells slots pc lv (.ref z :: st) := by
  obtain ⟨p, l, e, R, s, m, args, below, meth, c⟩ := B
  intro H locs ls hP hS h
  exact lv_astore C.1 C.2.1 hd  h hn hl (fun ls' h' => kk H locs ls' hP hS h')

theorem r_lstore_n (C : Cx B nL G A cc own Ts ret Rm) {j : Fin 4} {i : Nat} {z : Int64} {lv' : List (Nat × Value)} (hd : decode cc pc = .ok (.lstore_n j, 1)) (hi : (j : Nat) = i) (hn : i + 1 < nL) (hl : (i, .long z) :: lv.filter (fun q => !(q.1 == i) && (!(q.1 == i + 1) && !(q.1 + 1 == i && q.2.category == 2))) = lv') (kk : Wm B nL G A Q w cells slots (pc + 1) lv' st) : Wm B nL G A Q w cells slots pc lv (.long z :: st) := by
  obtain ⟨p, l, e, R, s, m, args, below, meth, c⟩ := B
  intro H locs ls hP hS h
  exact lv_lstore_n C.1 C.2.1 hd hi h hn hl (fun ls' h' => kk H locs ls' hP hS h')

theorem r_lstore (C : Cx B nL G A cc own Ts ret Rm) {i : Nat} {z : Int64} {lv' : List (Nat × Value)} (hd : decode cc pc = .ok (.lstore i, 2))  (hn : i + 1 < nL) (hl : (i, .long z) :: lv.filter (fun q => !(q.1 == i) && (!(q.1 == i + 1) && !(q.1 + 1 == i && q.2.category == 2))) = lv') (kk : Wm B nL G A Q w cells slots (pc + 2) lv' st) : Wm B nL G A Q w cells slots pc lv (.long z :: st) := by
  obtain ⟨p, l, e, R, s, m, args, below, meth, c⟩ := B
  intro H locs ls hP hS h
  exact lv_lstore C.1 C.2.1 hd  h hn hl (fun ls' h' => kk H locs ls' hP hS h')

theorem r_dstore (C : Cx B nL G A cc own Ts ret Rm) {i : Nat} {z : UInt64} {lv' : List (Nat × Value)} (hd : decode cc pc = .ok (.dstore i, 2))  (hn : i + 1 < nL) (hl : (i, .double z) :: lv.filter (fun q => !(q.1 == i) && (!(q.1 == i + 1) && !(q.1 + 1 == i && q.2.category == 2))) = lv') (kk : Wm B nL G A Q w cells slots (pc + 2) lv' st) : Wm B nL G A Q w cells slots pc lv (.double z :: st) := by
  obtain ⟨p, l, e, R, s, m, args, below, meth, c⟩ := B
  intro H locs ls hP hS h
  exact lv_dstore C.1 C.2.1 hd  h hn hl (fun ls' h' => kk H locs ls' hP hS h')

theorem r_iinc (C : Cx B nL G A cc own Ts ret Rm) {i k : Nat} {n z : Int} {lv' : List (Nat × Value)} (hd : decode cc pc = .ok (.iinc i n, 3)) (hk : lv[k]? = some (i, vI z)) (hn : i < nL) (hl : (i, vI (z + n)) :: lv.filter (fun q => !(q.1 == i) && !(q.1 + 1 == i && q.2.category == 2)) = lv') (kk : Wm B nL G A Q w cells slots (pc + 3) lv' st) : Wm B nL G A Q w cells slots pc lv st := by
  obtain ⟨p, l, e, R, s, m, args, below, meth, c⟩ := B
  intro H locs ls hP hS h
  exact lv_iinc C.1 C.2.1 hd h hk (Int32.ofInt_add z n).symm hn hl (fun ls' h' => kk H locs ls' hP hS h')

theorem r_iadd (C : Cx B nL G A cc own Ts ret Rm) {a b : Int} (hd : decode cc pc = .ok (.iadd, 1))  (kk : Wm B nL G A Q w cells slots (pc + 1) lv (vI (a + b) :: st)) : Wm B nL G A Q w cells slots pc lv (vI b :: vI a :: st) := by
  obtain ⟨p, l, e, R, s, m, args, below, meth, c⟩ := B
  intro H locs ls hP hS hl
  have kk := kk H locs ls hP hS hl
  rw [show vI (a + b) = .int (Int32.ofInt a + Int32.ofInt b) from congrArg Value.int (Int32.ofInt_add a b)] at kk
  exact lv_iadd C.1 C.2.1 hd  kk

theorem r_isub (C : Cx B nL G A cc own Ts ret Rm) {a b : Int} (hd : decode cc pc = .ok (.isub, 1))  (kk : Wm B nL G A Q w cells slots (pc + 1) lv (vI (a - b) :: st)) : Wm B nL G A Q w cells slots pc lv (vI b :: vI a :: st) := by
  obtain ⟨p, l, e, R, s, m, args, below, meth, c⟩ := B
  intro H locs ls hP hS hl
  have kk := kk H locs ls hP hS hl
  rw [show vI (a - b) = .int (Int32.ofInt a - Int32.ofInt b) from congrArg Value.int (Int32.ofInt_sub a b)] at kk
  exact lv_isub C.1 C.2.1 hd  kk

theorem r_imul (C : Cx B nL G A cc own Ts ret Rm) {a b : Int} (hd : decode cc pc = .ok (.imul, 1))  (kk : Wm B nL G A Q w cells slots (pc + 1) lv (vI (a * b) :: st)) : Wm B nL G A Q w cells slots pc lv (vI b :: vI a :: st) := by
  obtain ⟨p, l, e, R, s, m, args, below, meth, c⟩ := B
  intro H locs ls hP hS hl
  have kk := kk H locs ls hP hS hl
  rw [show vI (a * b) = .int (Int32.ofInt a * Int32.ofInt b) from congrArg Value.int (Int32.ofInt_mul a b)] at kk
  exact lv_imul C.1 C.2.1 hd  kk

theorem r_goto (C : Cx B nL G A cc own Ts ret Rm) {off : Int} {tgt : Nat} (hd : decode cc pc = .ok (.goto off, 3)) (ht : (pc : Int) + off = (tgt : Int)) (kk : Wm B nL G A Q w cells slots tgt lv (st)) : Wm B nL G A Q w cells slots pc lv (st) := by
  obtain ⟨p, l, e, R, s, m, args, below, meth, c⟩ := B
  intro H locs ls hP hS hl
  have kk := kk H locs ls hP hS hl
  
  exact lv_goto C.1 C.2.1 hd ht kk

theorem r_dup (C : Cx B nL G A cc own Ts ret Rm) {v : Value} (hd : decode cc pc = .ok (.dup, 1)) (hv : v.category = 1) (kk : Wm B nL G A Q w cells slots (pc + 1) lv (v :: v :: st)) : Wm B nL G A Q w cells slots pc lv (v :: st) := by
  obtain ⟨p, l, e, R, s, m, args, below, meth, c⟩ := B
  intro H locs ls hP hS hl
  have kk := kk H locs ls hP hS hl
  
  exact lv_dup C.1 C.2.1 hd hv kk

theorem r_dup2 (C : Cx B nL G A cc own Ts ret Rm) {v u : Value} (hd : decode cc pc = .ok (.dup2, 1)) (hv : v.category = 1) (hu : u.category = 1) (kk : Wm B nL G A Q w cells slots (pc + 1) lv (v :: u :: v :: u :: st)) : Wm B nL G A Q w cells slots pc lv (v :: u :: st) := by
  obtain ⟨p, l, e, R, s, m, args, below, meth, c⟩ := B
  intro H locs ls hP hS hl
  have kk := kk H locs ls hP hS hl
  
  exact lv_dup2_11 C.1 C.2.1 hd hv hu kk

theorem r_pop (C : Cx B nL G A cc own Ts ret Rm) {v : Value} (hd : decode cc pc = .ok (.pop, 1)) (hv : v.category = 1) (kk : Wm B nL G A Q w cells slots (pc + 1) lv (st)) : Wm B nL G A Q w cells slots pc lv (v :: st) := by
  obtain ⟨p, l, e, R, s, m, args, below, meth, c⟩ := B
  intro H locs ls hP hS hl
  have kk := kk H locs ls hP hS hl
  
  exact lv_pop C.1 C.2.1 hd hv kk

theorem r_ladd (C : Cx B nL G A cc own Ts ret Rm) {a b : Int64} (hd : decode cc pc = .ok (.ladd, 1))  (kk : Wm B nL G A Q w cells slots (pc + 1) lv (.long (a + b) :: st)) : Wm B nL G A Q w cells slots pc lv (.long b :: .long a :: st) := by
  obtain ⟨p, l, e, R, s, m, args, below, meth, c⟩ := B
  intro H locs ls hP hS hl
  have kk := kk H locs ls hP hS hl
  
  exact lv_ladd C.1 C.2.1 hd  kk

theorem r_lmul (C : Cx B nL G A cc own Ts ret Rm) {a b : Int64} (hd : decode cc pc = .ok (.lmul, 1))  (kk : Wm B nL G A Q w cells slots (pc + 1) lv (.long (a * b) :: st)) : Wm B nL G A Q w cells slots pc lv (.long b :: .long a :: st) := by
  obtain ⟨p, l, e, R, s, m, args, below, meth, c⟩ := B
  intro H locs ls hP hS hl
  have kk := kk H locs ls hP hS hl
  
  exact lv_lmul C.1 C.2.1 hd  kk

theorem r_i2l (C : Cx B nL G A cc own Ts ret Rm) {a : Int} (hd : decode cc pc = .ok (.i2l, 1)) (ha : inR a) (kk : Wm B nL G A Q w cells slots (pc + 1) lv (.long (Int64.ofInt a) :: st)) : Wm B nL G A Q w cells slots pc lv (vI a :: st) := by
  obtain ⟨p, l, e, R, s, m, args, below, meth, c⟩ := B
  intro H locs ls hP hS hl
  have kk := kk H locs ls hP hS hl
  
  exact lv_i2l C.1 C.2.1 hd (i2l_eq ha) kk

theorem r_ior (C : Cx B nL G A cc own Ts ret Rm) {a b c9 : Int} (hd : decode cc pc = .ok (.ior, 1)) (hc : Int32.ofInt a ||| Int32.ofInt b = Int32.ofInt c9) (kk : Wm B nL G A Q w cells slots (pc + 1) lv (vI c9 :: st)) : Wm B nL G A Q w cells slots pc lv (vI b :: vI a :: st) := by
  obtain ⟨p, l, e, R, s, m, args, below, meth, c⟩ := B
  intro H locs ls hP hS hl
  have kk := kk H locs ls hP hS hl
  rw [show vI c9 = .int (Int32.ofInt a ||| Int32.ofInt b) from congrArg Value.int hc.symm] at kk
  exact lv_ior C.1 C.2.1 hd  kk

theorem r_iand (C : Cx B nL G A cc own Ts ret Rm) {a b c9 : Int} (hd : decode cc pc = .ok (.iand, 1)) (hc : Int32.ofInt a &&& Int32.ofInt b = Int32.ofInt c9) (kk : Wm B nL G A Q w cells slots (pc + 1) lv (vI c9 :: st)) : Wm B nL G A Q w cells slots pc lv (vI b :: vI a :: st) := by
  obtain ⟨p, l, e, R, s, m, args, below, meth, c⟩ := B
  intro H locs ls hP hS hl
  have kk := kk H locs ls hP hS hl
  rw [show vI c9 = .int (Int32.ofInt a &&& Int32.ofInt b) from congrArg Value.int hc.symm] at kk
  exact lv_iand C.1 C.2.1 hd  kk

theorem r_idiv (C : Cx B nL G A cc own Ts ret Rm) {a b : Int} (hd : decode cc pc = .ok (.idiv, 1)) (ha : 0 ≤ a) (ha2 : a < 2147483648) (hb : 0 < b) (hb2 : b < 2147483648) (kk : Wm B nL G A Q w cells slots (pc + 1) lv (vI (a / b) :: st)) : Wm B nL G A Q w cells slots pc lv (vI b :: vI a :: st) := by
  obtain ⟨p, l, e, R, s, m, args, below, meth, c⟩ := B
  intro H locs ls hP hS hl
  have kk := kk H locs ls hP hS hl
  rw [show vI (a / b) = .int (Int32.ofInt a / Int32.ofInt b) from congrArg Value.int (div_eq ha ha2 hb hb2).symm] at kk
  exact lv_idiv C.1 C.2.1 hd (div_ne hb hb2) kk

theorem r_irem (C : Cx B nL G A cc own Ts ret Rm) {a b : Int} (hd : decode cc pc = .ok (.irem, 1)) (ha : 0 ≤ a) (ha2 : a < 2147483648) (hb : 0 < b) (hb2 : b < 2147483648) (kk : Wm B nL G A Q w cells slots (pc + 1) lv (vI (a % b) :: st)) : Wm B nL G A Q w cells slots pc lv (vI b :: vI a :: st) := by
  obtain ⟨p, l, e, R, s, m, args, below, meth, c⟩ := B
  intro H locs ls hP hS hl
  have kk := kk H locs ls hP hS hl
  rw [show vI (a % b) = .int (Int32.ofInt a - Int32.ofInt a / Int32.ofInt b * Int32.ofInt b) from congrArg Value.int (rem_eq ha ha2 hb hb2).symm] at kk
  exact lv_irem C.1 C.2.1 hd (div_ne hb hb2) kk

theorem r_icmp_eq (C : Cx B nL G A cc own Ts ret Rm) {a b off : Int} {tgt : Nat} (hd : decode cc pc = .ok (.if_icmp .eq off, 3)) (ht : (pc : Int) + off = (tgt : Int)) (ha : inR a) (hb : inR b) (k1 : a = b → Wm B nL G A Q w cells slots tgt lv st) (k2 : ¬ a = b → Wm B nL G A Q w cells slots (pc + 3) lv st) : Wm B nL G A Q w cells slots pc lv (vI b :: vI a :: st) := by
  obtain ⟨p, l, e, R, s, m, args, below, meth, c⟩ := B
  intro H locs ls hP hS hl
  exact lv_icmp_eq C.1 C.2.1 hd ht (fun h => k1 (ci_eq1 ha hb h) H locs ls hP hS hl) (fun h => k2 (ci_eq2 ha hb h) H locs ls hP hS hl)

theorem r_if_eq (C : Cx B nL G A cc own Ts ret Rm) {a off : Int} {tgt : Nat} (hd : decode cc pc = .ok (.ifCond .eq off, 3)) (ht : (pc : Int) + off = (tgt : Int)) (ha : inR a) (k1 : a = 0 → Wm B nL G A Q w cells slots tgt lv st) (k2 : ¬ a = 0 → Wm B nL G A Q w cells slots (pc + 3) lv st) : Wm B nL G A Q w cells slots pc lv (vI a :: st) := by
  obtain ⟨p, l, e, R, s, m, args, below, meth, c⟩ := B
  intro H locs ls hP hS hl
  exact lv_if_eq C.1 C.2.1 hd ht (fun h => k1 (c0_eq1 ha h) H locs ls hP hS hl) (fun h => k2 (c0_eq2 ha h) H locs ls hP hS hl)

theorem r_icmp_ne (C : Cx B nL G A cc own Ts ret Rm) {a b off : Int} {tgt : Nat} (hd : decode cc pc = .ok (.if_icmp .ne off, 3)) (ht : (pc : Int) + off = (tgt : Int)) (ha : inR a) (hb : inR b) (k1 : ¬ a = b → Wm B nL G A Q w cells slots tgt lv st) (k2 : a = b → Wm B nL G A Q w cells slots (pc + 3) lv st) : Wm B nL G A Q w cells slots pc lv (vI b :: vI a :: st) := by
  obtain ⟨p, l, e, R, s, m, args, below, meth, c⟩ := B
  intro H locs ls hP hS hl
  exact lv_icmp_ne C.1 C.2.1 hd ht (fun h => k1 (ci_ne1 ha hb h) H locs ls hP hS hl) (fun h => k2 (ci_ne2 ha hb h) H locs ls hP hS hl)

theorem r_if_ne (C : Cx B nL G A cc own Ts ret Rm) {a off : Int} {tgt : Nat} (hd : decode cc pc = .ok (.ifCond .ne off, 3)) (ht : (pc : Int) + off = (tgt : Int)) (ha : inR a) (k1 : ¬ a = 0 → Wm B nL G A Q w cells slots tgt lv st) (k2 : a = 0 → Wm B nL G A Q w cells slots (pc + 3) lv st) : Wm B nL G A Q w cells slots pc lv (vI a :: st) := by
  obtain ⟨p, l, e, R, s, m, args, below, meth, c⟩ := B
  intro H locs ls hP hS hl
  exact lv_if_ne C.1 C.2.1 hd ht (fun h => k1 (c0_ne1 ha h) H locs ls hP hS hl) (fun h => k2 (c0_ne2 ha h) H locs ls hP hS hl)

theorem r_icmp_lt (C : Cx B nL G A cc own Ts ret Rm) {a b off : Int} {tgt : Nat} (hd : decode cc pc = .ok (.if_icmp .lt off, 3)) (ht : (pc : Int) + off = (tgt : Int)) (ha : inR a) (hb : inR b) (k1 : a < b → Wm B nL G A Q w cells slots tgt lv st) (k2 : b ≤ a → Wm B nL G A Q w cells slots (pc + 3) lv st) : Wm B nL G A Q w cells slots pc lv (vI b :: vI a :: st) := by
  obtain ⟨p, l, e, R, s, m, args, below, meth, c⟩ := B
  intro H locs ls hP hS hl
  exact lv_icmp_lt C.1 C.2.1 hd ht (fun h => k1 (ci_lt1 ha hb h) H locs ls hP hS hl) (fun h => k2 (ci_lt2 ha hb h) H locs ls hP hS hl)

theorem r_if_lt (C : Cx B nL G A cc own Ts ret Rm) {a off : Int} {tgt : Nat} (hd : decode cc pc = .ok (.ifCond .lt off, 3)) (ht : (pc : Int) + off = (tgt : Int)) (ha : inR a) (k1 : a < 0 → Wm B nL G A Q w cells slots tgt lv st) (k2 : 0 ≤ a → Wm B nL G A Q w cells slots (pc + 3) lv st) : Wm B nL G A Q w cells slots pc lv (vI a :: st) := by
  obtain ⟨p, l, e, R, s, m, args, below, meth, c⟩ := B
  intro H locs ls hP hS hl
  exact lv_if_lt C.1 C.2.1 hd ht (fun h => k1 (c0_lt1 ha h) H locs ls hP hS hl) (fun h => k2 (c0_lt2 ha h) H locs ls hP hS hl)

theorem r_icmp_ge (C : Cx B nL G A cc own Ts ret Rm) {a b off : Int} {tgt : Nat} (hd : decode cc pc = .ok (.if_icmp .ge off, 3)) (ht : (pc : Int) + off = (tgt : Int)) (ha : inR a) (hb : inR b) (k1 : b ≤ a → Wm B nL G A Q w cells slots tgt lv st) (k2 : a < b → Wm B nL G A Q w cells slots (pc + 3) lv st) : Wm B nL G A Q w cells slots pc lv (vI b :: vI a :: st) := by
  obtain ⟨p, l, e, R, s, m, args, below, meth, c⟩ := B
  intro H locs ls hP hS hl
  exact lv_icmp_ge C.1 C.2.1 hd ht (fun h => k1 (ci_ge1 ha hb h) H locs ls hP hS hl) (fun h => k2 (ci_ge2 ha hb h) H locs ls hP hS hl)

theorem r_if_ge (C : Cx B nL G A cc own Ts ret Rm) {a off : Int} {tgt : Nat} (hd : decode cc pc = .ok (.ifCond .ge off, 3)) (ht : (pc : Int) + off = (tgt : Int)) (ha : inR a) (k1 : 0 ≤ a → Wm B nL G A Q w cells slots tgt lv st) (k2 : a < 0 → Wm B nL G A Q w cells slots (pc + 3) lv st) : Wm B nL G A Q w cells slots pc lv (vI a :: st) := by
  obtain ⟨p, l, e, R, s, m, args, below, meth, c⟩ := B
  intro H locs ls hP hS hl
  exact lv_if_ge C.1 C.2.1 hd ht (fun h => k1 (c0_ge1 ha h) H locs ls hP hS hl) (fun h => k2 (c0_ge2 ha h) H locs ls hP hS hl)

theorem r_icmp_gt (C : Cx B nL G A cc own Ts ret Rm) {a b off : Int} {tgt : Nat} (hd : decode cc pc = .ok (.if_icmp .gt off, 3)) (ht : (pc : Int) + off = (tgt : Int)) (ha : inR a) (hb : inR b) (k1 : b < a → Wm B nL G A Q w cells slots tgt lv st) (k2 : a ≤ b → Wm B nL G A Q w cells slots (pc + 3) lv st) : Wm B nL G A Q w cells slots pc lv (vI b :: vI a :: st) := by
  obtain ⟨p, l, e, R, s, m, args, below, meth, c⟩ := B
  intro H locs ls hP hS hl
  exact lv_icmp_gt C.1 C.2.1 hd ht (fun h => k1 (ci_gt1 ha hb h) H locs ls hP hS hl) (fun h => k2 (ci_gt2 ha hb h) H locs ls hP hS hl)

theorem r_if_gt (C : Cx B nL G A cc own Ts ret Rm) {a off : Int} {tgt : Nat} (hd : decode cc pc = .ok (.ifCond .gt off, 3)) (ht : (pc : Int) + off = (tgt : Int)) (ha : inR a) (k1 : 0 < a → Wm B nL G A Q w cells slots tgt lv st) (k2 : a ≤ 0 → Wm B nL G A Q w cells slots (pc + 3) lv st) : Wm B nL G A Q w cells slots pc lv (vI a :: st) := by
  obtain ⟨p, l, e, R, s, m, args, below, meth, c⟩ := B
  intro H locs ls hP hS hl
  exact lv_if_gt C.1 C.2.1 hd ht (fun h => k1 (c0_gt1 ha h) H locs ls hP hS hl) (fun h => k2 (c0_gt2 ha h) H locs ls hP hS hl)

theorem r_icmp_le (C : Cx B nL G A cc own Ts ret Rm) {a b off : Int} {tgt : Nat} (hd : decode cc pc = .ok (.if_icmp .le off, 3)) (ht : (pc : Int) + off = (tgt : Int)) (ha : inR a) (hb : inR b) (k1 : a ≤ b → Wm B nL G A Q w cells slots tgt lv st) (k2 : b < a → Wm B nL G A Q w cells slots (pc + 3) lv st) : Wm B nL G A Q w cells slots pc lv (vI b :: vI a :: st) := by
  obtain ⟨p, l, e, R, s, m, args, below, meth, c⟩ := B
  intro H locs ls hP hS hl
  exact lv_icmp_le C.1 C.2.1 hd ht (fun h => k1 (ci_le1 ha hb h) H locs ls hP hS hl) (fun h => k2 (ci_le2 ha hb h) H locs ls hP hS hl)

theorem r_if_le (C : Cx B nL G A cc own Ts ret Rm) {a off : Int} {tgt : Nat} (hd : decode cc pc = .ok (.ifCond .le off, 3)) (ht : (pc : Int) + off = (tgt : Int)) (ha : inR a) (k1 : a ≤ 0 → Wm B nL G A Q w cells slots tgt lv st) (k2 : 0 < a → Wm B nL G A Q w cells slots (pc + 3) lv st) : Wm B nL G A Q w cells slots pc lv (vI a :: st) := by
  obtain ⟨p, l, e, R, s, m, args, below, meth, c⟩ := B
  intro H locs ls hP hS hl
  exact lv_if_le C.1 C.2.1 hd ht (fun h => k1 (c0_le1 ha h) H locs ls hP hS hl) (fun h => k2 (c0_le2 ha h) H locs ls hP hS hl)

/-! cells -/
def isI (ci j : Nat) : Bool := match ci with
  | 0 => j == 1 || j == 4 || j == 5 || j == 6
  | 1 => j == 4
  | 2 => j == 0 || j == 1 || j == 2 || j == 3 || j == 4 || j == 5 || j == 6 || j == 7 || j == 9 || j == 12
  | 4 => j == 0 || j == 1 || j == 2
  | 5 => j == 0 || j == 1 || j == 2
  | _ => false
theorem flds_eq {ad : Ky → Nat} {w w' : Mm} {k : Ky} (ci : Nat) (h : w' k = w k) : flds ad w' k ci = flds ad w k ci := by
  unfold flds
  rw [h]
theorem ent_eq {c3 : ClassId × ClassId × ClassId} {ad : Ky → Nat} {w w' : Mm} {k : Ky} (h : w' k = w k) : ent c3 ad w' k = ent c3 ad w k := by
  unfold ent
  rw [h]
  split <;> first | rfl | rw [flds_eq _ h]
theorem ent_obj {c3 : ClassId × ClassId × ClassId} {ad : Ky → Nat} {w : Mm} {k : Ky} {ci n : Nat} (h : kd k = (ci, n)) (hlt : ci < 6) : ent c3 ad w k = .inr (ci, flds ad w k ci) := by
  unfold ent
  rw [h]
  rcases (show ci = 0 ∨ ci = 1 ∨ ci = 2 ∨ ci = 3 ∨ ci = 4 ∨ ci = 5 by omega) with rfl | rfl | rfl | rfl | rfl | rfl <;> rfl
theorem ent_row {c3 : ClassId × ClassId × ClassId} {ad : Ky → Nat} {w : Mm} {k : Ky} {n : Nat} (h : kd k = (6, n)) : ent c3 ad w k = .inl (c3.1, n, .inl (fun j => Int32.ofInt (w k j))) := by
  unfold ent
  rw [h]
  rfl
theorem ent_vil {c3 : ClassId × ClassId × ClassId} {ad : Ky → Nat} {w : Mm} {k : Ky} {n : Nat} (h : kd k = (7, n)) : ent c3 ad w k = .inl (c3.2.1, n, .inr (.inr (.inr (.inr (fun j => some (ad (k.1, j, 0))))))) := by
  unfold ent
  rw [h]
  rfl
theorem ent_lng {c3 : ClassId × ClassId × ClassId} {ad : Ky → Nat} {w : Mm} {k : Ky} {n : Nat} (h : kd k = (8, n)) : ent c3 ad w k = .inl (c3.2.2, n, .inr (.inl (fun j => Int64.ofInt (w k j)))) := by
  unfold ent
  rw [h]
  rfl
theorem flds_st {ad : Ky → Nat} {w : Mm} {k : Ky} {ci j : Nat} {x : Int} (h : isI ci j = true) : flds ad (st1 w k j x) k ci = (flds ad w k ci).set j (vI x) := by
  unfold isI at h
  split at h
  · simp only [Bool.or_eq_true, beq_iff_eq] at h
    rcases h with ((rfl | rfl) | rfl) | rfl <;> simp [flds, st1]
  · simp only [beq_iff_eq] at h
    subst h
    simp [flds, st1]
  · simp only [Bool.or_eq_true, beq_iff_eq] at h
    rcases h with ((((((((rfl | rfl) | rfl) | rfl) | rfl) | rfl) | rfl) | rfl) | rfl) | rfl <;> simp [flds, st1]
  · simp only [Bool.or_eq_true, beq_iff_eq] at h
    rcases h with (rfl | rfl) | rfl <;> simp [flds, st1]
  · simp only [Bool.or_eq_true, beq_iff_eq] at h
    rcases h with (rfl | rfl) | rfl <;> simp [flds, st1]
  · cases h
theorem Pic.upd {G : Gt} {w w' : Mm} {H H1 : Heap} {k : Ky} (hP : Pic G w H) (hG : Gok G) (hok : okk G k) (hr : rng w') (hw : ∀ k', k' ≠ k → w' k' = w k') (he : va_at G.1 vwCl (adr G k, ent G.2.1 (adr G) w' k) H1) (oq : ∀ q : Nat, q ≠ adr G k → H1[q]? = H[q]?) : Pic G w' H1 := by
  refine ⟨hr, fun k' hk' => ?_⟩
  by_cases hkk : k' = k
  · subst hkk
    exact he
  · rw [ent_eq (hw k' hkk)]
    exact (hP.2 k' hk').kept (oq _ (fun q => hkk (hG.1 k' k hk' hok q)))
theorem st1_off {w : Mm} {k : Ky} {j : Nat} {x : Int} (k' : Ky) (h : k' ≠ k) : st1 w k j x k' = w k' := by
  funext j'
  exact st1_k h
theorem r_getf (C : Cx B nL G A cc own Ts ret Rm) {k : Ky} {ci n N index : Nat} (j : Nat) {T : u_T} {Cn : String} {v : Value} (hok : okk G k) (hkd : kd k = (ci, n)) (hlt : ci < 6) (hc : vwCl[ci]? = some (Cn, T, N)) (hin : ∀ w ∈ u_ws Cn T N, w ∈ Ts) (hj : j < N) (hlink : Cond.fieldLink own index Cn (T j).2.1 (T j).2.2.1 ∈ Ts) (hcn : (T j).1 = Cn) (hv : (flds (adr G) w k ci)[j]? = some v) (hd : decode cc pc = .ok (.getfield index, 3)) (kk : Wm B nL G A Q w cells slots (pc + 3) lv (v :: st)) : Wm B nL G A Q w cells slots pc lv (.ref (adr G k) :: st) := by
  obtain ⟨p, l, e, R, s, m, args, below, meth, c⟩ := B
  obtain ⟨hx, hb, hml, hown, hts, hK, hG, hA1, hA2, hlk, hret, hR⟩ := C
  intro H locs ls hP hS hl
  have hat := hP.2 k hok
  rw [ent_obj hkd hlt] at hat
  have hP1 : va_P G.1 vwCl [(adr G k, .inr (ci, flds (adr G) w k ci))] H := fun i q hq => by
    cases i with
    | zero => cases hq; exact hat
    | succ i => simp at hq
  exact va_get hx hb hts hin hown hK hP1 0 rfl hc j hj (hts _ hlink) (fun x h => by rw [hcn] at h; exact h) hv hd (kk H locs ls hP hS hl)
theorem r_putf (C : Cx B nL G A cc own Ts ret Rm) {k : Ky} {ci n N index : Nat} (j : Nat) {T : u_T} {Cn : String} {x : Int} (hr : rng w) (hx0 : inR x) (hok : okk G k) (hkd : kd k = (ci, n)) (hlt : ci < 6) (hc : vwCl[ci]? = some (Cn, T, N)) (hin : ∀ w ∈ u_ws Cn T N, w ∈ Ts) {ty0 : Nat → FieldType} (hty : ∀ k, k < N → parseFieldDescriptor (T k).2.2.1 = some (ty0 k)) (hnm : ∀ a, a < N → ∀ b, b < N → a ≠ b → (T a).2.1 ≠ (T b).2.1) (hj : j < N) (hlink : Cond.fieldLink own index Cn (T j).2.1 (T j).2.2.1 ∈ Ts) (hcn : (T j).1 = Cn) (hfin : (T j).2.2.2 = false) {ty : FieldType} (hdty : parseFieldDescriptor (T j).2.2.1 = some ty) (hn : narrow ty (vI x) = vI x) (hfit : fits ty (vI x) = true) (hI : isI ci j = true) (hlen : j < (flds (adr G) w k ci).length) (hd : decode cc pc = .ok (.putfield index, 3)) (kk : rng (st1 w k j x) → Wm B nL G A Q (st1 w k j x) cells slots (pc + 3) lv st) : Wm B nL G A Q w cells slots pc lv (vI x :: .ref (adr G k) :: st) := by
  obtain ⟨p, l, e, R, s, m, args, below, meth, c⟩ := B
  obtain ⟨hx, hb, hml, hown, hts, hK, hG, hA1, hA2, hlk, hret, hR⟩ := C
  intro H locs ls hP hS hl
  have hat := hP.2 k hok
  rw [ent_obj hkd hlt] at hat
  have hap := va_apart (own := own) hts hin ty0 hty hnm hK hc
  obtain ⟨r, h1, cell, q1, q2, q3, q4⟩ := hat
  have hrr : r = (Cn, T, N) := Option.some.inj (h1.symm.trans hc)
  subst hrr
  obtain ⟨hSl, hfc, kC, hkC, hkind⟩ := hK.1 ci _ hc
  obtain ⟨cf, kf, fi, f, hi, hsl⟩ := hSl j hj
  have hlay := hts _ (hin _ (u_in_lay hj))
  unfold u_lay at hlay
  rw [if_neg (by rw [hfin]; decide)] at hlay
  have hst := (u_facts hfc hkC (u_lays hts hin hj) hi).1
  have h6 := u_store hfc hkC hkind hlay hi hdty hn hfit
  refine W.putK hx hb (f := f) ⟨hown, hts _ hlink, ⟨_, _, _, by rw [hcn] at hi; exact hi⟩, hst⟩ (by rw [q2]; exact h6) q1 q3 (by rw [hsl]; exact k2_hasslot (q4 j hj)) rfl rfl hd fun H' e1 e2 e3 => ?_
  rw [hsl] at e1 ⊢
  refine kk (rng_st hr hx0) H' _ ls (hP.upd hG hok (rng_st hr hx0) st1_off ?_ e3) (hS.put e2 e3 (hA1 k hok)) hl
  rw [ent_obj hkd hlt, flds_st hI]
  exact ⟨_, hc, t_OB.to (V := updV (vp_V (flds (adr G) w k ci)) j (vI x)) ⟨_, e1, q2, q3, t_set q4 hap hj (vI x)⟩ (fun i _ => vp_updV_set hlen (vI x) i)⟩
theorem oi_nat (n : Nat) : Int32.ofInt (n : Int) = nI n := Int32.ofInt_eq_ofNat
theorem r_iald (C : Cx B nL G A cc own Ts ret Rm) {k : Ky} {len : Nat} {z : Int} (n : Nat) (hok : okk G k) (hkd : kd k = (6, len)) (hz : z = (n : Int)) (hn : n < len) (hlen : len < 2 ^ 31) (hd : decode cc pc = .ok (.iaload, 1)) (kk : Wm B nL G A Q w cells slots (pc + 1) lv (vI (w k n) :: st)) : Wm B nL G A Q w cells slots pc lv (vI z :: .ref (adr G k) :: st) := by
  obtain ⟨p, l, e, R, s, m, args, below, meth, c⟩ := B
  obtain ⟨hx, hb, hml, hown, hts, hK, hG, hA1, hA2, hlk, hret, hR⟩ := C
  intro H locs ls hP hS hl
  subst hz
  have hat := hP.2 k hok
  rw [ent_row hkd] at hat
  have hP1 : va_P G.1 vwCl [(adr G k, .inl (G.2.1.1, len, .inl (fun j => Int32.ofInt (w k j))))] H := fun i q hq => by
    cases i with
    | zero => cases hq; exact hat
    | succ i => simp at hq
  have kk := kk H locs ls hP hS hl
  refine va_iald hx hb hK hP1 0 0 rfl rfl (i := Int32.ofInt (n : Int)) (by rw [oi_nat]; exact vp_in_nI hn (by omega)) hd ?_
  rw [oi_nat, nI_clamp (by omega)]
  exact kk
theorem r_aald (C : Cx B nL G A cc own Ts ret Rm) {t : Nat} {z : Int} (n : Nat) (hok : okk G (t, 8, 3)) (ht : t ≤ 1) (hz : z = (n : Int)) (hn : n < 8) (hd : decode cc pc = .ok (.aaload, 1)) (kk : Wm B nL G A Q w cells slots (pc + 1) lv (.ref (adr G (t, n, 0)) :: st)) : Wm B nL G A Q w cells slots pc lv (vI z :: .ref (adr G (t, 8, 3)) :: st) := by
  obtain ⟨p, l, e, R, s, m, args, below, meth, c⟩ := B
  obtain ⟨hx, hb, hml, hown, hts, hK, hG, hA1, hA2, hlk, hret, hR⟩ := C
  intro H locs ls hP hS hl
  subst hz
  have hat := hP.2 (t, 8, 3) hok
  rw [ent_vil (n := 8) (by simp [kd, ht])] at hat
  have hP1 : va_P G.1 vwCl [(adr G (t, 8, 3), .inl (G.2.1.2.1, 8, .inr (.inr (.inr (.inr (fun j => some (adr G (t, j, 0))))))))] H := fun i q hq => by
    cases i with
    | zero => cases hq; exact hat
    | succ i => simp at hq
  have kk := kk H locs ls hP hS hl
  refine va_aldq hx hb hK hP1 0 1 rfl rfl (i := Int32.ofInt (n : Int)) (by rw [oi_nat]; exact vp_in_nI hn (by omega)) hd ?_
  rw [oi_nat, nI_clamp (by omega)]
  exact kk
theorem r_lald (C : Cx B nL G A cc own Ts ret Rm) {k : Ky} {len : Nat} {z : Int} (n : Nat) (hok : okk G k) (hkd : kd k = (8, len)) (hz : z = (n : Int)) (hn : n < len) (hlen : len < 2 ^ 31) (hd : decode cc pc = .ok (.laload, 1)) (kk : Wm B nL G A Q w cells slots (pc + 1) lv (.long (Int64.ofInt (w k n)) :: st)) : Wm B nL G A Q w cells slots pc lv (vI z :: .ref (adr G k) :: st) := by
  obtain ⟨p, l, e, R, s, m, args, below, meth, c⟩ := B
  obtain ⟨hx, hb, hml, hown, hts, hK, hG, hA1, hA2, hlk, hret, hR⟩ := C
  intro H locs ls hP hS hl
  subst hz
  have hat := hP.2 k hok
  rw [ent_lng hkd] at hat
  have hP1 : va_P G.1 vwCl [(adr G k, .inl (G.2.1.2.2, len, .inr (.inl (fun j => Int64.ofInt (w k j)))))] H := fun i q hq => by
    cases i with
    | zero => cases hq; exact hat
    | succ i => simp at hq
  have kk := kk H locs ls hP hS hl
  refine va_lald hx hb hK hP1 0 2 rfl rfl (i := Int32.ofInt (n : Int)) (by rw [oi_nat]; exact vp_in_nI hn (by omega)) hd ?_
  rw [oi_nat, nI_clamp (by omega)]
  exact kk
theorem r_iast (C : Cx B nL G A cc own Ts ret Rm) {k : Ky} {len : Nat} {z x : Int} (n : Nat) (hr : rng w) (hx0 : inR x) (hok : okk G k) (hkd : kd k = (6, len)) (hz : z = (n : Int)) (hn : n < len) (hlen : len < 2 ^ 31) (hd : decode cc pc = .ok (.iastore, 1)) (kk : rng (st1 w k n x) → Wm B nL G A Q (st1 w k n x) cells slots (pc + 1) lv st) : Wm B nL G A Q w cells slots pc lv (vI x :: vI z :: .ref (adr G k) :: st) := by
  obtain ⟨p, l, e, R, s, m, args, below, meth, c⟩ := B
  obtain ⟨hx, hb, hml, hown, hts, hK, hG, hA1, hA2, hlk, hret, hR⟩ := C
  intro H locs ls hP hS hl
  subst hz
  have hat := hP.2 k hok
  rw [ent_row hkd] at hat
  have hcl : (Int32.ofInt (n : Int)).toNatClampNeg = n := by rw [oi_nat, nI_clamp (by omega)]
  have hvin : vp_in (Int32.ofInt (n : Int)) len := by rw [oi_nat]; exact vp_in_nI hn (by omega)
  refine W.iast hx hb hat ((hK.2 0 _ rfl).1 len (fun j => .int (Int32.ofInt (w k j)))) (fun q => by cases q) (by show ¬ (_ ∨ (arrV _ _ _).slots.size ≤ _); rw [arrV_size]; exact hvin) rfl rfl hd fun H1 e z oq => ?_
  refine kk (rng_st hr hx0) H1 _ ls (hP.upd hG hok (rng_st hr hx0) st1_off ?_ oq) (hS.put z oq (hA1 k hok)) hl
  rw [ent_row hkd]
  show H1[adr G k]? = some (vp_cell _ _)
  rw [e, vp_cell_i, vp_cell_i, arrV_store, hcl]
  congr 2
  funext q
  by_cases hq : q = n
  · subst hq
    simp [updV, st1]
  · simp [updV, st1, hq]
theorem r_last (C : Cx B nL G A cc own Ts ret Rm) {k : Ky} {len : Nat} {z x : Int} (n : Nat) (hr : rng w) (hx0 : inR x) (hok : okk G k) (hkd : kd k = (8, len)) (hz : z = (n : Int)) (hn : n < len) (hlen : len < 2 ^ 31) (hd : decode cc pc = .ok (.lastore, 1)) (kk : rng (st1 w k n x) → Wm B nL G A Q (st1 w k n x) cells slots (pc + 1) lv st) : Wm B nL G A Q w cells slots pc lv (.long (Int64.ofInt x) :: vI z :: .ref (adr G k) :: st) := by
  obtain ⟨p, l, e, R, s, m, args, below, meth, c⟩ := B
  obtain ⟨hx, hb, hml, hown, hts, hK, hG, hA1, hA2, hlk, hret, hR⟩ := C
  intro H locs ls hP hS hl
  subst hz
  have hat := hP.2 k hok
  rw [ent_lng hkd] at hat
  have hcl : (Int32.ofInt (n : Int)).toNatClampNeg = n := by rw [oi_nat, nI_clamp (by omega)]
  have hvin : vp_in (Int32.ofInt (n : Int)) len := by rw [oi_nat]; exact vp_in_nI hn (by omega)
  refine W.last hx hb hat ((hK.2 2 _ rfl).1 len (fun j => .long (Int64.ofInt (w k j)))) (fun q => by cases q) (by show ¬ (_ ∨ (arrV _ _ _).slots.size ≤ _); rw [arrV_size]; exact hvin) rfl rfl hd fun H1 e z oq => ?_
  refine kk (rng_st hr hx0) H1 _ ls (hP.upd hG hok (rng_st hr hx0) st1_off ?_ oq) (hS.put z oq (hA1 k hok)) hl
  rw [ent_lng hkd]
  show H1[adr G k]? = some (vp_cell _ _)
  rw [e, vp_cell_l, vp_cell_l, arrV_store, hcl]
  congr 2
  funext q
  by_cases hq : q = n
  · subst hq
    simp [updV, st1]
  · simp [updV, st1, hq]
def cpy (w : Mm) (k0 k1 : Ky) (sp dp n : Nat) : Mm := fun k j => if k = k1 ∧ dp ≤ j ∧ j < dp + n then w k0 (sp + (j - dp)) else w k j
theorem cpy_off {w : Mm} {k0 k1 : Ky} {sp dp n : Nat} (k' : Ky) (h : k' ≠ k1) : cpy w k0 k1 sp dp n k' = w k' := by
  funext j
  simp [cpy, h]
theorem cpy_rng {w : Mm} {k0 k1 : Ky} {sp dp n : Nat} (h : rng w) : rng (cpy w k0 k1 sp dp n) := by
  intro k j
  unfold cpy
  split
  · exact h _ _
  · exact h _ _
theorem r_copy (C : Cx B nL G A cc own Ts ret Rm) {k0 k1 : Ky} {len0 len1 index : Nat} {sp dp n : Int} (sp' dp' n' : Nat) (hr : rng w) (hok0 : okk G k0) (hok1 : okk G k1) (hkd0 : kd k0 = (6, len0)) (hkd1 : kd k1 = (6, len1)) (hsp : sp = (sp' : Int)) (hdp : dp = (dp' : Int)) (hn : n = (n' : Int)) (h4 : sp' + n' ≤ len0) (h5 : dp' + n' ≤ len1) (hl0 : len0 < 2 ^ 31) (hl1 : len1 < 2 ^ 31)
    (hlink : Cond.methodLink own index arraycopyName ∈ Ts) (hnat : Cond.native arraycopyName ∈ Ts) (hstat : Cond.static arraycopyName ∈ Ts) (hini : Cond.initialized "java/lang/System" ∈ Ts)
    (hfr : 1 ≤ Rm.frames) (hlo : (st.map fun v => v.category).sum + (nativeFrameWords "java/lang/System" "arraycopy" 5 + 11) ≤ Rm.locals) (hd : decode cc pc = .ok (.invokestatic index, 3))
    (kk : rng (cpy w k0 k1 sp' dp' n') → Wm B nL G A Q (cpy w k0 k1 sp' dp' n') cells slots (pc + 3) lv st) : Wm B nL G A Q w cells slots pc lv (vI n :: vI dp :: .ref (adr G k1) :: vI sp :: .ref (adr G k0) :: st) := by
  obtain ⟨p, l, e, R, s, m, args, below, meth, c⟩ := B
  obtain ⟨hx, hb, hml, hown, hts, hK, hG, hA1, hA2, hlk, hret, hR⟩ := C
  dsimp only at hR
  subst hR
  intro H locs ls hP hS hl T hT X
  subst hsp; subst hdp; subst hn
  have hc0 := hP.2 k0 hok0
  rw [ent_row hkd0] at hc0
  have hc1 := hP.2 k1 hok1
  rw [ent_row hkd1] at hc1
  replace hc0 : H[adr G k0]? = some (vp_cell G.2.1.1 (len0, .inl (fun j => Int32.ofInt (w k0 j)))) := hc0
  replace hc1 : H[adr G k1]? = some (vp_cell G.2.1.1 (len1, .inl (fun j => Int32.ofInt (w k1 j)))) := hc1
  have e1 : (Int32.ofInt (sp' : Int)).toNatClampNeg = sp' := by rw [oi_nat, nI_clamp (by omega)]
  have e2 : (Int32.ofInt (dp' : Int)).toNatClampNeg = dp' := by rw [oi_nat, nI_clamp (by omega)]
  have e3 : (Int32.ofInt (n' : Int)).toNatClampNeg = n' := by rw [oi_nat, nI_clamp (by omega)]
  have g1 : (Int32.ofInt (sp' : Int)).toInt = (sp' : Int) := by rw [oi_nat, nI_toInt (by omega)]
  have g2 : (Int32.ofInt (dp' : Int)).toInt = (dp' : Int) := by rw [oi_nat, nI_toInt (by omega)]
  have g3 : (Int32.ofInt (n' : Int)).toInt = (n' : Int) := by rw [oi_nat, nI_toInt (by omega)]
  have n1 : ¬ Int32.ofInt (sp' : Int) < 0 := by rw [oi_nat]; exact nI_pos (by omega)
  have n2 : ¬ Int32.ofInt (dp' : Int) < 0 := by rw [oi_nat]; exact nI_pos (by omega)
  have n3 : ¬ Int32.ofInt (n' : Int) < 0 := by rw [oi_nat]; exact nI_pos (by omega)
  obtain ⟨-, a0, hk0, cm0, hkk0⟩ := (hK.2 0 _ rfl).1 len0 (fun j => .int (Int32.ofInt (w k0 j)))
  obtain ⟨-, a1, hk1, cm1, hkk1⟩ := (hK.2 0 _ rfl).1 len1 (fun j => .int (Int32.ofInt (w k1 j)))
  obtain ⟨vm', X', step⟩ := X.arraycopy hx hown (hts _ hlink) (hts _ hnat) (hts _ hstat) (hts _ hini) (src := adr G k0) (dst := adr G k1) (cs := vp_cell G.2.1.1 (len0, .inl (fun j => Int32.ofInt (w k0 j)))) (cd := vp_cell G.2.1.1 (len1, .inl (fun j => Int32.ofInt (w k1 j)))) (srcPos := Int32.ofInt (sp' : Int)) (destPos := Int32.ofInt (dp' : Int)) (n := Int32.ofInt (n' : Int)) (by rw [hT]; exact hc0) (by rw [hT]; exact hc1)
    (fun _ h => by cases h) (fun _ h => by cases h) (fun h => by cases h) (fun h => by cases h) hk0 hk1 hkk0 hkk1 (by simp [refKind]) n1 n2 n3
    (by rw [g1, g3]; show ¬ _ > ((arrV G.2.1.1 len0 (fun j => .int (Int32.ofInt (w k0 j)))).slots.size : Int); rw [arrV_size]; omega)
    (by rw [g2, g3]; show ¬ _ > ((arrV G.2.1.1 len1 (fun j => .int (Int32.ofInt (w k1 j)))).slots.size : Int); rw [arrV_size]; omega)
    (fun vm₁ _ i hi => by
      rw [e3] at hi
      rw [e1]
      have e : (vp_cell G.2.1.1 (len0, .inl (fun j => Int32.ofInt (w k0 j)))).slots.getD (sp' + i) .null = .int (Int32.ofInt (w k0 (sp' + i))) := by
        show (arrV G.2.1.1 len0 (fun j => .int (Int32.ofInt (w k0 j)))).slots.getD _ _ = _
        rw [Array.getD_eq_getD_getElem?, arrV_read _ _ (by omega)]
        rfl
      refine ⟨?_, ?_⟩
      · rw [e]
        rfl
      · rw [e]
        exact trivial)
    (g := F0 m pc ls (vI (n' : Int) :: vI (dp' : Int) :: .ref (adr G k1) :: vI (sp' : Int) :: .ref (adr G k0) :: st)) rfl (by show ls.size = c.maxLocals; rw [hl.1]; exact hml.symm) (rest := st) rfl (by rw [show c.code = cc from hb]; exact hd) hfr (by show 2 * 0 + _ + _ ≤ R.locals; omega)
  have ecp : copied (vp_cell G.2.1.1 (len0, .inl (fun j => Int32.ofInt (w k0 j)))) (vp_cell G.2.1.1 (len1, .inl (fun j => Int32.ofInt (w k1 j)))) (Int32.ofInt (sp' : Int)) (Int32.ofInt (dp' : Int)) (Int32.ofInt (n' : Int)) = vp_cell G.2.1.1 (len1, .inl (fun j => Int32.ofInt (cpy w k0 k1 sp' dp' n' k1 j))) := by
    have h := va_copied (fun z : Int32 => Value.int z) G.2.1.1 G.2.1.1 (n1 := len1) (dp := dp') (fun j => Int32.ofInt (w k0 j)) (fun j => Int32.ofInt (w k1 j)) h4
    unfold copied
    rw [e1, e2, e3]
    refine h.trans ?_
    rw [vp_cell_i]
    congr 1
    funext j
    simp only [va_cpy, cpy, true_and]
    split <;> rfl
  rw [ecp] at X' step
  have hl9 : adr G k1 < H.size := (Array.getElem?_eq_some_iff.mp hc1).1
  have hheap : ((T.setVm vm').setCell (adr G k1) (vp_cell G.2.1.1 (len1, .inl (fun j => Int32.ofInt (cpy w k0 k1 sp' dp' n' k1 j))))).heap = H.setIfInBounds (adr G k1) (vp_cell G.2.1.1 (len1, .inl (fun j => Int32.ofInt (cpy w k0 k1 sp' dp' n' k1 j)))) := by rw [← hT]; rfl
  have oq : ∀ q : Nat, q ≠ adr G k1 → (H.setIfInBounds (adr G k1) (vp_cell G.2.1.1 (len1, .inl (fun j => Int32.ofInt (cpy w k0 k1 sp' dp' n' k1 j)))))[q]? = H[q]? := fun q hq => by simp [Array.getElem?_setIfInBounds, Ne.symm hq]
  obtain ⟨t, b1, b2⟩ := kk (cpy_rng hr) _ _ ls (hP.upd hG hok1 (cpy_rng hr) cpy_off (by rw [ent_row hkd1]; show (H.setIfInBounds (adr G k1) _)[adr G k1]? = some _; simp [Array.getElem?_setIfInBounds, hl9]) oq) ⟨by simp; exact hS.1, fun q g1 g2 => by
      rw [oq q (fun e => g2 (by rw [e]; exact hA1 k1 hok1))]
      exact hS.2.1 q g1 g2, fun q hq => by
      rcases List.mem_append.mp hq with h | h
      · exact hS.2.2 q h
      · obtain ⟨z, -, hz⟩ := List.mem_map.mp h
        rw [← hz]
        exact hA1 k1 hok1⟩ hl _ hheap X'
  exact ⟨t, step t b1, b2⟩
theorem abs_eq {a : Int} (ha : -2147483648 < a) (ha2 : a < 2147483648) : (if 0 ≤ Int32.ofInt a then Int32.ofInt a else 0 - Int32.ofInt a) = Int32.ofInt (a.natAbs : Int) := by
  by_cases h : 0 ≤ a
  · rw [if_pos (show (0 : Int32) ≤ Int32.ofInt a from (ci_le inR_0 ⟨by omega, ha2⟩).mpr h), Int.natAbs_of_nonneg h]
  · rw [if_neg (fun q => h (c0_ge1 ⟨by omega, ha2⟩ q))]
    rw [show (a.natAbs : Int) = 0 - a by omega, Int32.ofInt_sub]
    rfl
theorem r_mabs (C : Cx B nL G A cc own Ts ret Rm) {a : Int} {index : Nat} (ha : -2147483648 < a) (ha2 : a < 2147483648) (hlink : Cond.methodLink own index Lib.Math.abs.name ∈ Ts) (hstat : Cond.static Lib.Math.abs.name ∈ Ts) (hini : Cond.initialized "java/lang/Math" ∈ Ts) (hcode : Cond.code Lib.Math.abs.name Lib.Math.abs.code 1 (some .int) ∈ Ts) (hfr : 1 ≤ Rm.frames) (hlo : (st.map fun v => v.category).sum + 13 ≤ Rm.locals) (hc : cells ≤ Rm.cells) (hs : slots ≤ Rm.slots) (hd : decode cc pc = .ok (.invokestatic index, 3))
    (kk : Wm B nL G A Q w cells slots (pc + 3) lv (vI (a.natAbs : Int) :: st)) : Wm B nL G A Q w cells slots pc lv (vI a :: st) := by
  obtain ⟨p, l, e, R, s, m, args, below, meth, c⟩ := B
  obtain ⟨hx, hb, hml, hown, hts, hK, hG, hA1, hA2, hlk, hret, hR⟩ := C
  intro H locs ls hP hS hl
  have kk := kk H locs ls hP hS hl
  rw [show vI (a.natAbs : Int) = .int (if 0 ≤ Int32.ofInt a then Int32.ofInt a else 0 - Int32.ofInt a) from congrArg Value.int (abs_eq ha ha2).symm] at kk
  dsimp only at hR
  subst hR
  exact va_mabs hx hb (by rw [hl.1]; exact hml) hown (hts _ hlink) (hts _ hstat) (hts _ hini) (hts _ hcode) hfr hlo hc hs hd kk
theorem max_eq {a b : Int} (ha : inR a) (hb : inR b) : (if Int32.ofInt a < Int32.ofInt b then Int32.ofInt b else Int32.ofInt a) = Int32.ofInt (max a b) := by
  by_cases h : a < b
  · rw [if_pos ((ci_lt ha hb).mpr h), show max a b = b by omega]
  · rw [if_neg (fun q => h (ci_lt1 ha hb q)), show max a b = a by omega]
theorem r_mmax (C : Cx B nL G A cc own Ts ret Rm) {a b : Int} {index : Nat} (ha : inR a) (hb0 : inR b) (hlink : Cond.methodLink own index Lib.Math.max.name ∈ Ts) (hstat : Cond.static Lib.Math.max.name ∈ Ts) (hini : Cond.initialized "java/lang/Math" ∈ Ts) (hcode : Cond.code Lib.Math.max.name Lib.Math.max.code 2 (some .int) ∈ Ts) (hfr : 1 ≤ Rm.frames) (hlo : (st.map fun v => v.category).sum + 13 ≤ Rm.locals) (hc : cells ≤ Rm.cells) (hs : slots ≤ Rm.slots) (hd : decode cc pc = .ok (.invokestatic index, 3))
    (kk : Wm B nL G A Q w cells slots (pc + 3) lv (vI (max a b) :: st)) : Wm B nL G A Q w cells slots pc lv (vI b :: vI a :: st) := by
  obtain ⟨p, l, e, R, s, m, args, below, meth, c⟩ := B
  obtain ⟨hx, hb, hml, hown, hts, hK, hG, hA1, hA2, hlk, hret, hR⟩ := C
  intro H locs ls hP hS hl
  have kk := kk H locs ls hP hS hl
  rw [show vI (max a b) = .int (if Int32.ofInt a < Int32.ofInt b then Int32.ofInt b else Int32.ofInt a) from congrArg Value.int (max_eq ha hb0).symm] at kk
  dsimp only at hR
  subst hR
  exact va_mmax hx hb (by rw [hl.1]; exact hml) hown (hts _ hlink) (hts _ hstat) (hts _ hini) (hts _ hcode) hfr hlo hc hs hd kk
theorem r_tsIn (C : Cx B nL G A cc own Ts ret Rm) {a dflt lo hi off : Int} {offs : Array Int} {len tgt : Nat} (hd : decode cc pc = .ok (.tableswitch dflt lo hi offs, len)) (ha : inR a) (h1 : lo ≤ a) (h2 : a ≤ hi) (ho : offs[(a - lo).toNat]? = some off) (ht : (pc : Int) + off = (tgt : Int)) (kk : Wm B nL G A Q w cells slots tgt lv st) : Wm B nL G A Q w cells slots pc lv (vI a :: st) := by
  obtain ⟨p, l, e, R, s, m, args, below, meth, c⟩ := B
  intro H locs ls hP hS hl
  exact lv_tableIn C.1 C.2.1 hd (by rw [tI ha]; omega) (by rw [tI ha]; omega) (by rw [tI ha]; exact ho) ht (kk H locs ls hP hS hl)
theorem r_tsOut (C : Cx B nL G A cc own Ts ret Rm) {a dflt lo hi : Int} {offs : Array Int} {len tgt : Nat} (hd : decode cc pc = .ok (.tableswitch dflt lo hi offs, len)) (ha : inR a) (h : a < lo ∨ hi < a) (ht : (pc : Int) + dflt = (tgt : Int)) (kk : Wm B nL G A Q w cells slots tgt lv st) : Wm B nL G A Q w cells slots pc lv (vI a :: st) := by
  obtain ⟨p, l, e, R, s, m, args, below, meth, c⟩ := B
  intro H locs ls hP hS hl
  exact lv_tableOut C.1 C.2.1 hd (by rw [tI ha]; exact h) ht (kk H locs ls hP hS hl)
theorem Wm.widen {B : Bx} {nL : Nat} {G : Gt} {A : Nat → Prop} {Q : State → Prop} {w : Mm} {cells slots c2 s2 pc : Nat} {lv : List (Nat × Value)} {st : List Value} (h1 : cells ≤ c2) (h2 : slots ≤ s2) (kk : Wm B nL G A Q w c2 s2 pc lv st) : Wm B nL G A Q w cells slots pc lv st := fun H locs ls hP hS hl => W.widen h1 h2 (kk H locs ls hP hS hl)
theorem Wm.sub {B : Bx} {nL : Nat} {G : Gt} {A : Nat → Prop} {Q : State → Prop} {w : Mm} {cells slots pc : Nat} {lv lv' : List (Nat × Value)} {st : List Value} (ks : List Nat) (h : lv_pick lv ks = lv') (kk : Wm B nL G A Q w cells slots pc lv' st) : Wm B nL G A Q w cells slots pc lv st := fun H locs ls hP hS hl => kk H locs ls hP hS (lv_sub hl ks h)
theorem r_back {A0 A1 : Nat → Prop} {p : Program} {l : Launch} {e : Env} {R : Room} {s : State} {m : MethodId} {args : Array Value} {below : List Frame} {meth : Method} {c : Code} {H : Heap} {locs : List Loc} {cells slots pc mc ms : Nat} {Q : State → Prop} {ls : Array Slot} {rest st0 : List Value} {a : Array Value} {free : Addr → Prop} {H0 : Heap} {G : Gt} {v : Option Value} {w' : Mm}
    (hr : va_Run p l e R s m args below meth c H locs cells slots mc ms (F0 m pc ls st0) rest (Qw G v w' A1 a) free) (hS : va_S A0 H0 H locs) (hA : ∀ q, q < H.size → A1 q → A0 q) (hf : ∀ q, free q → A0 q)
    (kk : ∀ (H1 : Heap) (locs1 : List Loc), Pic G w' H1 → va_S A0 H0 H1 locs1 → W p l e R s m args below meth c H1 locs1 (cells + mc) (slots + ms) Q (F0 m (pc + 3) ls (v.toList ++ rest))) : W p l e R s m args below meth c H locs cells slots Q (F0 m pc ls st0) := by
  intro T hT X
  obtain ⟨v2, st₀, t, T', L, h0, X', hL, e1, e2, ⟨hv, hp, hz, hk⟩, st⟩ := hr T hT X
  cases hv
  rw [h0] at hz hk
  obtain ⟨t2, a1, b1⟩ := kk T'.heap (locs ++ L) (by rw [e1]; exact hp)
    ⟨Nat.le_trans hS.1 (by rw [e1]; exact hz), fun q h1 h2 => by rw [e1, hk q (Nat.lt_of_lt_of_le h1 hS.1) (fun z => h2 (hA q (Nat.lt_of_lt_of_le h1 hS.1) z))]; exact hS.2.1 q h1 h2, fun q hq => by
      rcases List.mem_append.mp hq with h | h
      · exact hS.2.2 q h
      · exact hf _ (hL q h)⟩ T' rfl X'
  exact ⟨t2, st t2 a1, b1⟩
theorem Ag_in {B : Bx} {nL : Nat} {G : Gt} {A : Nat → Prop} {cc : ByteArray} {own : String} {Ts : List Cond} {ret : Option FieldType} {Rm : Room} (C : Cx B nL G A cc own Ts ret Rm) {H : Heap} {locs : List Loc} (hS : va_S A B.2.2.2.2.1.heap H locs) : ∀ q, Ag G H.size q → A q := by
  intro q h
  rcases h with ⟨k, hk, rfl⟩ | h
  · exact C.2.2.2.2.2.2.2.1 k hk
  · exact C.2.2.2.2.2.2.2.2.1 q (Nat.le_trans hS.1 h)
theorem r_callV (C : Cx B nL G A cc own Ts ret Rm) {y : MethodName} {ws ws' : List Cond} {rm : Room} {v : Option Value} {w' : Mm} {mc ms index maxL : Nat} {bytes : ByteArray} {retY : Option FieldType} {k0 : Ky} {ci nk N : Nat} {Cn : String} {T : u_T} {rest st' : List Value} (As : List Value) (n : Nat)
    (hM : Con B.2.1 G y ws rm w (.ref (adr G k0) :: As) v w' mc ms) (hg : GoodIn Ts (wsV own index Cn y ws)) (hw : ws = Cond.code y bytes maxL retY :: ws') (hrc : rm.cells = mc) (hrs : rm.slots = ms)
    (hdc : y.cls = Cn ∧ y.cls ≠ "java/lang/invoke/MethodHandle" ∧ y.cls ≠ "java/lang/invoke/VarHandle" ∧ (parseMethodDescriptor y.desc).map (fun d => d.parameters.length) = some n) (h1 : rm.frames + 1 ≤ Rm.frames) (h2 : 8 + (maxL + 11) + rm.locals ≤ Rm.locals) (hf : cells + mc ≤ Rm.cells ∧ slots + ms ≤ Rm.slots)
    (hok : okk G k0) (hkd : kd k0 = (ci, nk)) (hlt : ci < 6) (hc : vwCl[ci]? = some (Cn, T, N)) (hn : As.length = n) (hst : st = As.reverse ++ .ref (adr G k0) :: rest) (hcat : (rest.map fun v => v.category).sum ≤ 8) (hst' : v.toList ++ rest = st') (hd : decode cc pc = .ok (.invokevirtual index, 3))
    (kk : rng w' → Wm B nL G A Q w' (cells + mc) (slots + ms) (pc + 3) lv st') : Wm B nL G A Q w cells slots pc lv st := by
  have hAg := @Ag_in _ _ _ _ _ _ _ _ _ C
  obtain ⟨p, l, e, R, s, m, args, below, meth, c⟩ := B
  obtain ⟨hx, hb, hml, hown, hts, hK, hG, hA1, hA2, hlk, hret, hR⟩ := C
  intro H locs ls hP hS hl
  dsimp only at hR
  subst hR; subst hst; subst hst'
  have hat := hP.2 k0 hok
  rw [ent_obj hkd hlt] at hat
  have hP1 : va_P G.1 vwCl [(adr G k0, .inr (ci, flds (adr G) w k0 ci))] H := fun i q hq => by
    cases i with
    | zero => cases hq; exact hat
    | succ i => simp at hq
  exact r_back (va_runV (As := As) (rest := rest) ⟨hx, hb, hml, hown, hts⟩ (hM H.size) (cwV n hts hg hw hrc hrs hdc ⟨h1, h2⟩) ⟨Pw.blind, va_recv hK hP1 (q0 := 0) hc rfl, fun U hU hW => ⟨rfl, by rw [hU], by rw [hU]; exact hP, va_K.moved hW.alike hK⟩⟩ rfl hn hl.1 rfl (lv_room hcat) hd hf) hS (fun q _ h => hAg hS q h) (hAg hS) (fun H1 locs1 hP1 hS1 => kk hP1.1 H1 locs1 ls hP1 hS1 hl)
theorem r_callS (C : Cx B nL G A cc own Ts ret Rm) {y : MethodName} {ws ws' : List Cond} {rm : Room} {v : Option Value} {w' : Mm} {mc ms index maxL : Nat} {bytes : ByteArray} {retY : Option FieldType} {rest st' : List Value} (As : List Value) (n : Nat)
    (hM : Con B.2.1 G y ws rm w As v w' mc ms) (hg : GoodIn Ts (va_wsS own index y ws)) (hw : ws = Cond.code y bytes maxL retY :: ws') (hrc : rm.cells = mc) (hrs : rm.slots = ms)
    (hdc : y.cls ≠ "java/lang/invoke/MethodHandle" ∧ y.cls ≠ "java/lang/invoke/VarHandle" ∧ (parseMethodDescriptor y.desc).map (fun d => d.parameters.length) = some n) (h1 : rm.frames + 1 ≤ Rm.frames) (h2 : 8 + (maxL + 11) + rm.locals ≤ Rm.locals) (hf : cells + mc ≤ Rm.cells ∧ slots + ms ≤ Rm.slots)
    (hn : As.length = n) (hst : st = As.reverse ++ rest) (hcat : (rest.map fun v => v.category).sum ≤ 8) (hst' : v.toList ++ rest = st') (hd : decode cc pc = .ok (.invokestatic index, 3))
    (kk : rng w' → Wm B nL G A Q w' (cells + mc) (slots + ms) (pc + 3) lv st') : Wm B nL G A Q w cells slots pc lv st := by
  have hAg := @Ag_in _ _ _ _ _ _ _ _ _ C
  obtain ⟨p, l, e, R, s, m, args, below, meth, c⟩ := B
  obtain ⟨hx, hb, hml, hown, hts, hK, hG, hA1, hA2, hlk, hret, hR⟩ := C
  intro H locs ls hP hS hl
  dsimp only at hR
  subst hR; subst hst; subst hst'
  exact r_back (va_runS (As := As) (rest := rest) ⟨hx, hb, hml, hown, hts⟩ (hM H.size) (va_cwS n hts hg hw hrc hrs hdc ⟨h1, h2⟩) ⟨Pw.blind, fun U hU hW => ⟨rfl, by rw [hU], by rw [hU]; exact hP, va_K.moved hW.alike hK⟩⟩ rfl hn hl.1 rfl (lv_room hcat) hd hf) hS (fun q _ h => hAg hS q h) (hAg hS) (fun H1 locs1 hP1 hS1 => kk hP1.1 H1 locs1 ls hP1 hS1 hl)
theorem r_iret (C : Cx B nL G A cc own Ts (some .int) Rm) {z : Int} {v : Option Value} {w' : Mm} (hd : decode cc pc = .ok (.ireturn, 1)) (hv : some (vI z) = v) (hw : w = w') : Wm B nL G A (Qe B G A v w' cells slots) w cells slots pc lv [vI z] := by
  obtain ⟨p, l, e, R, s, m, args, below, meth, c⟩ := B
  obtain ⟨hx, hb, hml, hown, hts, hK, hG, hA1, hA2, hlk, hret, hR⟩ := C
  intro H locs ls hP hS hl
  subst hv; subst hw
  exact W.iret hx hb hret (fun t ht hW => ⟨rfl, by rw [ht]; exact hP, hS.F ht⟩) hS.2.2 hd hlk
theorem r_zret (C : Cx B nL G A cc own Ts (some .boolean) Rm) {z : Int} {v : Option Value} {w' : Mm} (hd : decode cc pc = .ok (.ireturn, 1)) (hz : z = 0 ∨ z = 1) (hv : some (vI z) = v) (hw : w = w') : Wm B nL G A (Qe B G A v w' cells slots) w cells slots pc lv [vI z] := by
  obtain ⟨p, l, e, R, s, m, args, below, meth, c⟩ := B
  obtain ⟨hx, hb, hml, hown, hts, hK, hG, hA1, hA2, hlk, hret, hR⟩ := C
  intro H locs ls hP hS hl
  subst hv; subst hw
  exact W.zret hx hb hret (by rcases hz with rfl | rfl <;> decide) (fun t ht hW => ⟨rfl, by rw [ht]; exact hP, hS.F ht⟩) hS.2.2 hd hlk
theorem r_vret (C : Cx B nL G A cc own Ts none Rm) {w' : Mm} (hd : decode cc pc = .ok (.return_, 1)) (hw : w = w') : Wm B nL G A (Qe B G A none w' cells slots) w cells slots pc lv [] := by
  obtain ⟨p, l, e, R, s, m, args, below, meth, c⟩ := B
  obtain ⟨hx, hb, hml, hown, hts, hK, hG, hA1, hA2, hlk, hret, hR⟩ := C
  intro H locs ls hP hS hl
  subst hw
  exact W.vret hx hb hret (fun t ht hW => ⟨rfl, by rw [ht]; exact hP, hS.F ht⟩) hS.2.2 hd hlk
theorem r_lret (C : Cx B nL G A cc own Ts (some .long) Rm) {z : Int64} {v : Option Value} {w' : Mm} (hd : decode cc pc = .ok (.lreturn, 1)) (hv : some (Value.long z) = v) (hw : w = w') : Wm B nL G A (Qe B G A v w' cells slots) w cells slots pc lv [.long z] := by
  obtain ⟨p, l, e, R, s, m, args, below, meth, c⟩ := B
  obtain ⟨hx, hb, hml, hown, hts, hK, hG, hA1, hA2, hlk, hret, hR⟩ := C
  intro H locs ls hP hS hl
  subst hv; subst hw
  exact W.lret hx hb hret (fun t ht hW => ⟨rfl, by rw [ht]; exact hP, hS.F ht⟩) hS.2.2 hd hlk

theorem Wm.mem {B : Bx} {nL : Nat} {G : Gt} {A : Nat → Prop} {Q : State → Prop} {w w' : Mm} {cells slots pc : Nat} {lv lv' : List (Nat × Value)} {st : List Value} (h : w = w') (hl : lv = lv') (kk : Wm B nL G A Q w' cells slots pc lv' st) : Wm B nL G A Q w cells slots pc lv st := by
  subst h
  subst hl
  exact kk
theorem Wm.top {B : Bx} {nL : Nat} {G : Gt} {A : Nat → Prop} {Q : State → Prop} {w : Mm} {cells slots pc : Nat} {lv : List (Nat × Value)} {st : List Value} {z z' : Int} (h : z = z') (kk : Wm B nL G A Q w cells slots pc lv (vI z' :: st)) : Wm B nL G A Q w cells slots pc lv (vI z :: st) := by
  subst h
  exact kk
/-! truth values -/
def bI (P : Prop) [Decidable P] : Int := if P then 1 else 0
theorem bI_01 (P : Prop) [Decidable P] : bI P = 0 ∨ bI P = 1 := by
  unfold bI
  split
  · exact Or.inr rfl
  · exact Or.inl rfl
theorem bI_t {P : Prop} [Decidable P] (h : P) : bI P = 1 := if_pos h
theorem bI_f {P : Prop} [Decidable P] (h : ¬ P) : bI P = 0 := if_neg h
theorem bI_inR (P : Prop) [Decidable P] : inR (bI P) := by
  rcases bI_01 P with h | h <;> rw [h] <;> exact ⟨by decide, by decide⟩
theorem bI_0 {P : Prop} [Decidable P] (h : bI P = 0) : ¬ P := fun q => by rw [bI_t q] at h; omega
theorem bI_1 {P : Prop} [Decidable P] (h : ¬ bI P = 0) : P := Decidable.byContradiction fun q => h (bI_f q)
theorem r_if_eqP (C : Cx B nL G A cc own Ts ret Rm) {P : Prop} [Decidable P] {off : Int} {tgt : Nat} (hd : decode cc pc = .ok (.ifCond .eq off, 3)) (ht : (pc : Int) + off = (tgt : Int)) (k1 : ¬ P → Wm B nL G A Q w cells slots tgt lv st) (k2 : P → Wm B nL G A Q w cells slots (pc + 3) lv st) : Wm B nL G A Q w cells slots pc lv (vI (bI P) :: st) :=
  r_if_eq C hd ht (bI_inR P) (fun h => k1 (bI_0 h)) (fun h => k2 (bI_1 h))
theorem r_if_neP (C : Cx B nL G A cc own Ts ret Rm) {P : Prop} [Decidable P] {off : Int} {tgt : Nat} (hd : decode cc pc = .ok (.ifCond .ne off, 3)) (ht : (pc : Int) + off = (tgt : Int)) (k1 : P → Wm B nL G A Q w cells slots tgt lv st) (k2 : ¬ P → Wm B nL G A Q w cells slots (pc + 3) lv st) : Wm B nL G A Q w cells slots pc lv (vI (bI P) :: st) :=
  r_if_ne C hd ht (bI_inR P) (fun h => k1 (bI_1 h)) (fun h => k2 (bI_0 h))
/-! keys -/
theorem ok_of {G : Gt} (hG : Gok G) {k : Ky} {ci n : Nat} (h : kd k = (ci, n)) (h9 : ci < 9) (h6 : k.1 ≤ 6) : okk G k := hG.2 k (by rw [h]; exact h9) h6
theorem kdv0 {t v : Nat} (ht : t ≤ 1) (hv : v ≤ 7) : kd (t, v, 0) = (2, 0) := by simp [kd, ht, hv]
theorem kdv1 {t v : Nat} (ht : t ≤ 1) (hv : v ≤ 7) : kd (t, v, 1) = (6, 5) := by simp [kd, ht, hv]
theorem kdv2 {t v : Nat} (ht : t ≤ 1) (hv : v ≤ 7) : kd (t, v, 2) = (6, 12) := by simp [kd, ht, hv]
theorem kdv3 {t v : Nat} (ht : t ≤ 1) (hv : v ≤ 7) : kd (t, v, 3) = (1, 0) := by simp [kd, ht, hv]
theorem kdv4 {t v : Nat} (ht : t ≤ 1) (hv : v ≤ 7) : kd (t, v, 4) = (6, 112) := by simp [kd, ht, hv]
theorem kdv5 {t v : Nat} (ht : t ≤ 1) (hv : v ≤ 7) : kd (t, v, 5) = (6, 112) := by simp [kd, ht, hv]
theorem kdv6 {t v : Nat} (ht : t ≤ 1) (hv : v ≤ 7) : kd (t, v, 6) = (6, 112) := by simp [kd, ht, hv]
theorem kdv7 {t v : Nat} (ht : t ≤ 1) (hv : v ≤ 7) : kd (t, v, 7) = (6, 112) := by simp [kd, ht, hv]
theorem kdl0 {t : Nat} (ht : t ≤ 1) : kd (t, 8, 0) = (0, 0) := by simp [kd, ht]
theorem kdl1 {t : Nat} (ht : t ≤ 1) : kd (t, 8, 1) = (6, 12) := by simp [kd, ht]
theorem kdl2 {t : Nat} (ht : t ≤ 1) : kd (t, 8, 2) = (6, 12) := by simp [kd, ht]
theorem kdl3 {t : Nat} (ht : t ≤ 1) : kd (t, 8, 3) = (7, 8) := by simp [kd, ht]
theorem kds0 {u : Nat} (hu : u = 4 ∨ u = 5) : kd (u, 0, 0) = (4, 0) := by rcases hu with rfl | rfl <;> rfl
theorem kds1 {u : Nat} (hu : u = 4 ∨ u = 5) : kd (u, 0, 1) = (6, 8) := by rcases hu with rfl | rfl <;> rfl
theorem kds2 {u : Nat} (hu : u = 4 ∨ u = 5) : kd (u, 0, 2) = (6, 8) := by rcases hu with rfl | rfl <;> rfl
theorem kds3 {u : Nat} (hu : u = 4 ∨ u = 5) : kd (u, 0, 3) = (6, 8) := by rcases hu with rfl | rfl <;> rfl
theorem kds4 {u : Nat} (hu : u = 4 ∨ u = 5) : kd (u, 0, 4) = (6, 8) := by rcases hu with rfl | rfl <;> rfl
theorem kds5 {u : Nat} (hu : u = 4 ∨ u = 5) : kd (u, 0, 5) = (6, 40) := by rcases hu with rfl | rfl <;> rfl
theorem kds6 {u : Nat} (hu : u = 4 ∨ u = 5) : kd (u, 0, 6) = (6, 96) := by rcases hu with rfl | rfl <;> rfl
theorem kds7 {u : Nat} (hu : u = 4 ∨ u = 5) : kd (u, 0, 7) = (6, 8) := by rcases hu with rfl | rfl <;> rfl
theorem kds8 {u : Nat} (hu : u = 4 ∨ u = 5) : kd (u, 0, 8) = (6, 1024) := by rcases hu with rfl | rfl <;> rfl
theorem kds9 {u : Nat} (hu : u = 4 ∨ u = 5) : kd (u, 0, 9) = (6, 1024) := by rcases hu with rfl | rfl <;> rfl
theorem kds10 {u : Nat} (hu : u = 4 ∨ u = 5) : kd (u, 0, 10) = (6, 1024) := by rcases hu with rfl | rfl <;> rfl
theorem kds11 {u : Nat} (hu : u = 4 ∨ u = 5) : kd (u, 0, 11) = (6, 1024) := by rcases hu with rfl | rfl <;> rfl
theorem kds12 {u : Nat} (hu : u = 4 ∨ u = 5) : kd (u, 0, 12) = (6, 1024) := by rcases hu with rfl | rfl <;> rfl

end ROWS
end
section
theorem dX1_init_0 : decode cX1_init 0 = .ok (.aload_n 0, 1) := by decide +kernel
theorem dX1_init_1 : decode cX1_init 1 = .ok (.invokespecial 3, 3) := by decide +kernel
theorem dX1_init_4 : decode cX1_init 4 = .ok (.aload_n 0, 1) := by decide +kernel
theorem dX1_init_5 : decode cX1_init 5 = .ok (.bipush 112, 2) := by decide +kernel
theorem dX1_init_7 : decode cX1_init 7 = .ok (.newarray .int, 2) := by decide +kernel
theorem dX1_init_9 : decode cX1_init 9 = .ok (.putfield 9, 3) := by decide +kernel
theorem dX1_init_12 : decode cX1_init 12 = .ok (.aload_n 0, 1) := by decide +kernel
theorem dX1_init_13 : decode cX1_init 13 = .ok (.bipush 112, 2) := by decide +kernel
theorem dX1_init_15 : decode cX1_init 15 = .ok (.newarray .int, 2) := by decide +kernel
theorem dX1_init_17 : decode cX1_init 17 = .ok (.putfield 15, 3) := by decide +kernel
theorem dX1_init_20 : decode cX1_init 20 = .ok (.aload_n 0, 1) := by decide +kernel
theorem dX1_init_21 : decode cX1_init 21 = .ok (.bipush 112, 2) := by decide +kernel
theorem dX1_init_23 : decode cX1_init 23 = .ok (.newarray .int, 2) := by decide +kernel
theorem dX1_init_25 : decode cX1_init 25 = .ok (.putfield 18, 3) := by decide +kernel
theorem dX1_init_28 : decode cX1_init 28 = .ok (.aload_n 0, 1) := by decide +kernel
theorem dX1_init_29 : decode cX1_init 29 = .ok (.bipush 112, 2) := by decide +kernel
theorem dX1_init_31 : decode cX1_init 31 = .ok (.newarray .int, 2) := by decide +kernel
theorem dX1_init_33 : decode cX1_init 33 = .ok (.putfield 21, 3) := by decide +kernel
theorem dX1_init_36 : decode cX1_init 36 = .ok (.return_, 1) := by decide +kernel
theorem dX1_copy_0 : decode cX1_copy 0 = .ok (.aload_n 1, 1) := by decide +kernel
theorem dX1_copy_1 : decode cX1_copy 1 = .ok (.getfield 9, 3) := by decide +kernel
theorem dX1_copy_4 : decode cX1_copy 4 = .ok (.iconst 0, 1) := by decide +kernel
theorem dX1_copy_5 : decode cX1_copy 5 = .ok (.aload_n 0, 1) := by decide +kernel
theorem dX1_copy_6 : decode cX1_copy 6 = .ok (.getfield 9, 3) := by decide +kernel
theorem dX1_copy_9 : decode cX1_copy 9 = .ok (.iconst 0, 1) := by decide +kernel
theorem dX1_copy_10 : decode cX1_copy 10 = .ok (.aload_n 1, 1) := by decide +kernel
theorem dX1_copy_11 : decode cX1_copy 11 = .ok (.getfield 24, 3) := by decide +kernel
theorem dX1_copy_14 : decode cX1_copy 14 = .ok (.invokestatic 28, 3) := by decide +kernel
theorem dX1_copy_17 : decode cX1_copy 17 = .ok (.aload_n 1, 1) := by decide +kernel
theorem dX1_copy_18 : decode cX1_copy 18 = .ok (.getfield 15, 3) := by decide +kernel
theorem dX1_copy_21 : decode cX1_copy 21 = .ok (.iconst 0, 1) := by decide +kernel
theorem dX1_copy_22 : decode cX1_copy 22 = .ok (.aload_n 0, 1) := by decide +kernel
theorem dX1_copy_23 : decode cX1_copy 23 = .ok (.getfield 15, 3) := by decide +kernel
theorem dX1_copy_26 : decode cX1_copy 26 = .ok (.iconst 0, 1) := by decide +kernel
theorem dX1_copy_27 : decode cX1_copy 27 = .ok (.aload_n 1, 1) := by decide +kernel
theorem dX1_copy_28 : decode cX1_copy 28 = .ok (.getfield 24, 3) := by decide +kernel
theorem dX1_copy_31 : decode cX1_copy 31 = .ok (.invokestatic 28, 3) := by decide +kernel
theorem dX1_copy_34 : decode cX1_copy 34 = .ok (.aload_n 1, 1) := by decide +kernel
theorem dX1_copy_35 : decode cX1_copy 35 = .ok (.getfield 18, 3) := by decide +kernel
theorem dX1_copy_38 : decode cX1_copy 38 = .ok (.iconst 0, 1) := by decide +kernel
theorem dX1_copy_39 : decode cX1_copy 39 = .ok (.aload_n 0, 1) := by decide +kernel
theorem dX1_copy_40 : decode cX1_copy 40 = .ok (.getfield 18, 3) := by decide +kernel
theorem dX1_copy_43 : decode cX1_copy 43 = .ok (.iconst 0, 1) := by decide +kernel
theorem dX1_copy_44 : decode cX1_copy 44 = .ok (.aload_n 1, 1) := by decide +kernel
theorem dX1_copy_45 : decode cX1_copy 45 = .ok (.getfield 24, 3) := by decide +kernel
theorem dX1_copy_48 : decode cX1_copy 48 = .ok (.invokestatic 28, 3) := by decide +kernel
theorem dX1_copy_51 : decode cX1_copy 51 = .ok (.aload_n 1, 1) := by decide +kernel
theorem dX1_copy_52 : decode cX1_copy 52 = .ok (.getfield 21, 3) := by decide +kernel
theorem dX1_copy_55 : decode cX1_copy 55 = .ok (.iconst 0, 1) := by decide +kernel
theorem dX1_copy_56 : decode cX1_copy 56 = .ok (.aload_n 0, 1) := by decide +kernel
theorem dX1_copy_57 : decode cX1_copy 57 = .ok (.getfield 21, 3) := by decide +kernel
theorem dX1_copy_60 : decode cX1_copy 60 = .ok (.iconst 0, 1) := by decide +kernel
theorem dX1_copy_61 : decode cX1_copy 61 = .ok (.aload_n 1, 1) := by decide +kernel
theorem dX1_copy_62 : decode cX1_copy 62 = .ok (.getfield 24, 3) := by decide +kernel
theorem dX1_copy_65 : decode cX1_copy 65 = .ok (.invokestatic 28, 3) := by decide +kernel
theorem dX1_copy_68 : decode cX1_copy 68 = .ok (.aload_n 0, 1) := by decide +kernel
theorem dX1_copy_69 : decode cX1_copy 69 = .ok (.aload_n 1, 1) := by decide +kernel
theorem dX1_copy_70 : decode cX1_copy 70 = .ok (.getfield 24, 3) := by decide +kernel
theorem dX1_copy_73 : decode cX1_copy 73 = .ok (.putfield 24, 3) := by decide +kernel
theorem dX1_copy_76 : decode cX1_copy 76 = .ok (.return_, 1) := by decide +kernel
theorem dX1_add_0 : decode cX1_add 0 = .ok (.aload_n 0, 1) := by decide +kernel
theorem dX1_add_1 : decode cX1_add 1 = .ok (.getfield 24, 3) := by decide +kernel
theorem dX1_add_4 : decode cX1_add 4 = .ok (.bipush 112, 2) := by decide +kernel
theorem dX1_add_6 : decode cX1_add 6 = .ok (.if_icmp .lt 4, 3) := by decide +kernel
theorem dX1_add_9 : decode cX1_add 9 = .ok (.return_, 1) := by decide +kernel
theorem dX1_add_10 : decode cX1_add 10 = .ok (.aload_n 0, 1) := by decide +kernel
theorem dX1_add_11 : decode cX1_add 11 = .ok (.getfield 9, 3) := by decide +kernel
theorem dX1_add_14 : decode cX1_add 14 = .ok (.aload_n 0, 1) := by decide +kernel
theorem dX1_add_15 : decode cX1_add 15 = .ok (.getfield 24, 3) := by decide +kernel
theorem dX1_add_18 : decode cX1_add 18 = .ok (.iload_n 1, 1) := by decide +kernel
theorem dX1_add_19 : decode cX1_add 19 = .ok (.iastore, 1) := by decide +kernel
theorem dX1_add_20 : decode cX1_add 20 = .ok (.aload_n 0, 1) := by decide +kernel
theorem dX1_add_21 : decode cX1_add 21 = .ok (.getfield 15, 3) := by decide +kernel
theorem dX1_add_24 : decode cX1_add 24 = .ok (.aload_n 0, 1) := by decide +kernel
theorem dX1_add_25 : decode cX1_add 25 = .ok (.getfield 24, 3) := by decide +kernel
theorem dX1_add_28 : decode cX1_add 28 = .ok (.iload_n 2, 1) := by decide +kernel
theorem dX1_add_29 : decode cX1_add 29 = .ok (.iastore, 1) := by decide +kernel
theorem dX1_add_30 : decode cX1_add 30 = .ok (.aload_n 0, 1) := by decide +kernel
theorem dX1_add_31 : decode cX1_add 31 = .ok (.getfield 18, 3) := by decide +kernel
theorem dX1_add_34 : decode cX1_add 34 = .ok (.aload_n 0, 1) := by decide +kernel
theorem dX1_add_35 : decode cX1_add 35 = .ok (.getfield 24, 3) := by decide +kernel
theorem dX1_add_38 : decode cX1_add 38 = .ok (.iload_n 2, 1) := by decide +kernel
theorem dX1_add_39 : decode cX1_add 39 = .ok (.iload_n 3, 1) := by decide +kernel
theorem dX1_add_40 : decode cX1_add 40 = .ok (.iadd, 1) := by decide +kernel
theorem dX1_add_41 : decode cX1_add 41 = .ok (.iconst 1, 1) := by decide +kernel
theorem dX1_add_42 : decode cX1_add 42 = .ok (.isub, 1) := by decide +kernel
theorem dX1_add_43 : decode cX1_add 43 = .ok (.iastore, 1) := by decide +kernel
theorem dX1_add_44 : decode cX1_add 44 = .ok (.aload_n 0, 1) := by decide +kernel
theorem dX1_add_45 : decode cX1_add 45 = .ok (.getfield 21, 3) := by decide +kernel
theorem dX1_add_48 : decode cX1_add 48 = .ok (.aload_n 0, 1) := by decide +kernel
theorem dX1_add_49 : decode cX1_add 49 = .ok (.getfield 24, 3) := by decide +kernel
theorem dX1_add_52 : decode cX1_add 52 = .ok (.iconst 0, 1) := by decide +kernel
theorem dX1_add_53 : decode cX1_add 53 = .ok (.iastore, 1) := by decide +kernel
theorem dX1_add_54 : decode cX1_add 54 = .ok (.aload_n 0, 1) := by decide +kernel
theorem dX1_add_55 : decode cX1_add 55 = .ok (.dup, 1) := by decide +kernel
theorem dX1_add_56 : decode cX1_add 56 = .ok (.getfield 24, 3) := by decide +kernel
theorem dX1_add_59 : decode cX1_add 59 = .ok (.iconst 1, 1) := by decide +kernel
theorem dX1_add_60 : decode cX1_add 60 = .ok (.iadd, 1) := by decide +kernel
theorem dX1_add_61 : decode cX1_add 61 = .ok (.putfield 24, 3) := by decide +kernel
theorem dX1_add_64 : decode cX1_add 64 = .ok (.return_, 1) := by decide +kernel
theorem dX1_move_0 : decode cX1_move 0 = .ok (.iload_n 2, 1) := by decide +kernel
theorem dX1_move_1 : decode cX1_move 1 = .ok (.ifCond .lt 16, 3) := by decide +kernel
theorem dX1_move_4 : decode cX1_move 4 = .ok (.iload_n 2, 1) := by decide +kernel
theorem dX1_move_5 : decode cX1_move 5 = .ok (.iload_n 1, 1) := by decide +kernel
theorem dX1_move_6 : decode cX1_move 6 = .ok (.if_icmp .ge 11, 3) := by decide +kernel
theorem dX1_move_9 : decode cX1_move 9 = .ok (.iload_n 1, 1) := by decide +kernel
theorem dX1_move_10 : decode cX1_move 10 = .ok (.aload_n 0, 1) := by decide +kernel
theorem dX1_move_11 : decode cX1_move 11 = .ok (.getfield 24, 3) := by decide +kernel
theorem dX1_move_14 : decode cX1_move 14 = .ok (.if_icmp .lt 4, 3) := by decide +kernel
theorem dX1_move_17 : decode cX1_move 17 = .ok (.return_, 1) := by decide +kernel
theorem dX1_move_18 : decode cX1_move 18 = .ok (.aload_n 0, 1) := by decide +kernel
theorem dX1_move_19 : decode cX1_move 19 = .ok (.getfield 9, 3) := by decide +kernel
theorem dX1_move_22 : decode cX1_move 22 = .ok (.iload_n 2, 1) := by decide +kernel
theorem dX1_move_23 : decode cX1_move 23 = .ok (.aload_n 0, 1) := by decide +kernel
theorem dX1_move_24 : decode cX1_move 24 = .ok (.getfield 9, 3) := by decide +kernel
theorem dX1_move_27 : decode cX1_move 27 = .ok (.iload_n 1, 1) := by decide +kernel
theorem dX1_move_28 : decode cX1_move 28 = .ok (.iaload, 1) := by decide +kernel
theorem dX1_move_29 : decode cX1_move 29 = .ok (.iastore, 1) := by decide +kernel
theorem dX1_move_30 : decode cX1_move 30 = .ok (.aload_n 0, 1) := by decide +kernel
theorem dX1_move_31 : decode cX1_move 31 = .ok (.getfield 15, 3) := by decide +kernel
theorem dX1_move_34 : decode cX1_move 34 = .ok (.iload_n 2, 1) := by decide +kernel
theorem dX1_move_35 : decode cX1_move 35 = .ok (.aload_n 0, 1) := by decide +kernel
theorem dX1_move_36 : decode cX1_move 36 = .ok (.getfield 15, 3) := by decide +kernel
theorem dX1_move_39 : decode cX1_move 39 = .ok (.iload_n 1, 1) := by decide +kernel
theorem dX1_move_40 : decode cX1_move 40 = .ok (.iaload, 1) := by decide +kernel
theorem dX1_move_41 : decode cX1_move 41 = .ok (.iastore, 1) := by decide +kernel
theorem dX1_move_42 : decode cX1_move 42 = .ok (.aload_n 0, 1) := by decide +kernel
theorem dX1_move_43 : decode cX1_move 43 = .ok (.getfield 18, 3) := by decide +kernel
theorem dX1_move_46 : decode cX1_move 46 = .ok (.iload_n 2, 1) := by decide +kernel
theorem dX1_move_47 : decode cX1_move 47 = .ok (.aload_n 0, 1) := by decide +kernel
theorem dX1_move_48 : decode cX1_move 48 = .ok (.getfield 18, 3) := by decide +kernel
theorem dX1_move_51 : decode cX1_move 51 = .ok (.iload_n 1, 1) := by decide +kernel
theorem dX1_move_52 : decode cX1_move 52 = .ok (.iaload, 1) := by decide +kernel
theorem dX1_move_53 : decode cX1_move 53 = .ok (.iastore, 1) := by decide +kernel
theorem dX1_move_54 : decode cX1_move 54 = .ok (.aload_n 0, 1) := by decide +kernel
theorem dX1_move_55 : decode cX1_move 55 = .ok (.getfield 21, 3) := by decide +kernel
theorem dX1_move_58 : decode cX1_move 58 = .ok (.iload_n 2, 1) := by decide +kernel
theorem dX1_move_59 : decode cX1_move 59 = .ok (.aload_n 0, 1) := by decide +kernel
theorem dX1_move_60 : decode cX1_move 60 = .ok (.getfield 21, 3) := by decide +kernel
theorem dX1_move_63 : decode cX1_move 63 = .ok (.iload_n 1, 1) := by decide +kernel
theorem dX1_move_64 : decode cX1_move 64 = .ok (.iaload, 1) := by decide +kernel
theorem dX1_move_65 : decode cX1_move 65 = .ok (.iastore, 1) := by decide +kernel
theorem dX1_move_66 : decode cX1_move 66 = .ok (.return_, 1) := by decide +kernel
theorem dX1_lasting_0 : decode cX1_lasting 0 = .ok (.iconst 0, 1) := by decide +kernel
theorem dX1_lasting_1 : decode cX1_lasting 1 = .ok (.istore_n 2, 1) := by decide +kernel
theorem dX1_lasting_2 : decode cX1_lasting 2 = .ok (.iconst 0, 1) := by decide +kernel
theorem dX1_lasting_3 : decode cX1_lasting 3 = .ok (.istore_n 3, 1) := by decide +kernel
theorem dX1_lasting_4 : decode cX1_lasting 4 = .ok (.iload_n 3, 1) := by decide +kernel
theorem dX1_lasting_5 : decode cX1_lasting 5 = .ok (.aload_n 0, 1) := by decide +kernel
theorem dX1_lasting_6 : decode cX1_lasting 6 = .ok (.getfield 24, 3) := by decide +kernel
theorem dX1_lasting_9 : decode cX1_lasting 9 = .ok (.if_icmp .ge 22, 3) := by decide +kernel
theorem dX1_lasting_12 : decode cX1_lasting 12 = .ok (.aload_n 0, 1) := by decide +kernel
theorem dX1_lasting_13 : decode cX1_lasting 13 = .ok (.getfield 15, 3) := by decide +kernel
theorem dX1_lasting_16 : decode cX1_lasting 16 = .ok (.iload_n 3, 1) := by decide +kernel
theorem dX1_lasting_17 : decode cX1_lasting 17 = .ok (.iaload, 1) := by decide +kernel
theorem dX1_lasting_18 : decode cX1_lasting 18 = .ok (.iload_n 1, 1) := by decide +kernel
theorem dX1_lasting_19 : decode cX1_lasting 19 = .ok (.if_icmp .gt 6, 3) := by decide +kernel
theorem dX1_lasting_22 : decode cX1_lasting 22 = .ok (.iinc 2 1, 3) := by decide +kernel
theorem dX1_lasting_25 : decode cX1_lasting 25 = .ok (.iinc 3 1, 3) := by decide +kernel
theorem dX1_lasting_28 : decode cX1_lasting 28 = .ok (.goto (-24), 3) := by decide +kernel
theorem dX1_lasting_31 : decode cX1_lasting 31 = .ok (.iload_n 2, 1) := by decide +kernel
theorem dX1_lasting_32 : decode cX1_lasting 32 = .ok (.ireturn, 1) := by decide +kernel
theorem dX1_drown_0 : decode cX1_drown 0 = .ok (.iconst 0, 1) := by decide +kernel
theorem dX1_drown_1 : decode cX1_drown 1 = .ok (.istore_n 2, 1) := by decide +kernel
theorem dX1_drown_2 : decode cX1_drown 2 = .ok (.iload_n 2, 1) := by decide +kernel
theorem dX1_drown_3 : decode cX1_drown 3 = .ok (.aload_n 0, 1) := by decide +kernel
theorem dX1_drown_4 : decode cX1_drown 4 = .ok (.getfield 24, 3) := by decide +kernel
theorem dX1_drown_7 : decode cX1_drown 7 = .ok (.if_icmp .ge 26, 3) := by decide +kernel
theorem dX1_drown_10 : decode cX1_drown 10 = .ok (.aload_n 0, 1) := by decide +kernel
theorem dX1_drown_11 : decode cX1_drown 11 = .ok (.getfield 15, 3) := by decide +kernel
theorem dX1_drown_14 : decode cX1_drown 14 = .ok (.iload_n 2, 1) := by decide +kernel
theorem dX1_drown_15 : decode cX1_drown 15 = .ok (.iaload, 1) := by decide +kernel
theorem dX1_drown_16 : decode cX1_drown 16 = .ok (.iload_n 1, 1) := by decide +kernel
theorem dX1_drown_17 : decode cX1_drown 17 = .ok (.if_icmp .gt 10, 3) := by decide +kernel
theorem dX1_drown_20 : decode cX1_drown 20 = .ok (.aload_n 0, 1) := by decide +kernel
theorem dX1_drown_21 : decode cX1_drown 21 = .ok (.getfield 21, 3) := by decide +kernel
theorem dX1_drown_24 : decode cX1_drown 24 = .ok (.iload_n 2, 1) := by decide +kernel
theorem dX1_drown_25 : decode cX1_drown 25 = .ok (.iconst 1, 1) := by decide +kernel
theorem dX1_drown_26 : decode cX1_drown 26 = .ok (.iastore, 1) := by decide +kernel
theorem dX1_drown_27 : decode cX1_drown 27 = .ok (.iinc 2 1, 3) := by decide +kernel
theorem dX1_drown_30 : decode cX1_drown 30 = .ok (.goto (-28), 3) := by decide +kernel
theorem dX1_drown_33 : decode cX1_drown 33 = .ok (.return_, 1) := by decide +kernel
end
section
/-! DrumTalk$Sounds: what its methods do to the memory -/
def s1add (w : Mm) (t v : Nat) (p f b : Int) : Mm :=
  if w (t, v, 3) 4 < 112 then
    st1 (st1 (st1 (st1 (st1 w (t, v, 4) (w (t, v, 3) 4).toNat p) (t, v, 5) (w (t, v, 3) 4).toNat f) (t, v, 6) (w (t, v, 3) 4).toNat (f + b - 1)) (t, v, 7) (w (t, v, 3) 4).toNat 0) (t, v, 3) 4 (w (t, v, 3) 4 + 1)
  else w
def s1mv (w : Mm) (t v : Nat) (a b : Nat) : Mm :=
  st1 (st1 (st1 (st1 w (t, v, 4) b (w (t, v, 4) a)) (t, v, 5) b (w (t, v, 5) a)) (t, v, 6) b (w (t, v, 6) a)) (t, v, 7) b (w (t, v, 7) a)
def s1move (w : Mm) (t v : Nat) (a b : Int) : Mm :=
  if b < 0 ∨ a ≤ b ∨ w (t, v, 3) 4 ≤ a then w else s1mv w t v a.toNat b.toNat
def s1cp (w : Mm) (t v t2 v2 : Nat) : Mm :=
  st1 (cpy (cpy (cpy (cpy w (t2, v2, 4) (t, v, 4) 0 0 (w (t2, v2, 3) 4).toNat) (t2, v2, 5) (t, v, 5) 0 0 (w (t2, v2, 3) 4).toNat) (t2, v2, 6) (t, v, 6) 0 0 (w (t2, v2, 3) 4).toNat) (t2, v2, 7) (t, v, 7) 0 0 (w (t2, v2, 3) 4).toNat) (t, v, 3) 4 (w (t2, v2, 3) 4)
def s1last (w : Mm) (t v : Nat) (b : Int) : Nat → Nat
  | 0 => 0
  | n + 1 => if b < w (t, v, 5) n then s1last w t v b n else s1last w t v b n + 1
theorem s1last_le (w : Mm) (t v : Nat) (b : Int) : ∀ n, s1last w t v b n ≤ n
  | 0 => Nat.le_refl 0
  | n + 1 => by
    have := s1last_le w t v b n
    unfold s1last
    split <;> omega
def s1drown (w : Mm) (t v : Nat) (b : Int) : Nat → Mm
  | 0 => w
  | n + 1 => if b < w (t, v, 5) n then s1drown w t v b n else st1 (s1drown w t v b n) (t, v, 7) n 1
theorem s1drown_off {w : Mm} {t v : Nat} {b : Int} {k : Ky} {j : Nat} (h : k ≠ (t, v, 7)) : ∀ n, s1drown w t v b n k j = w k j
  | 0 => rfl
  | n + 1 => by
    have ih := s1drown_off (w := w) (t := t) (v := v) (b := b) (j := j) h n
    unfold s1drown
    split
    · exact ih
    · rw [st1_k h]
      exact ih

set_option maxRecDepth 100000 in
set_option maxHeartbeats 8000000 in
theorem c_X1_add {l : Launch} {G : Gt} (hG : Gok G) {t : Nat} {v : Nat} (ht : t ≤ 1) (hv : v ≤ 7) {w : Mm} {p : Int} {f : Int} {b : Int} (hz : 0 ≤ w (t, v, 3) 4 ∧ w (t, v, 3) 4 ≤ 112) (hp : inR p) (hf : inR f) (hb : inR (f + b - 1)) : Con l G yX1_add wsX1_add ({ frames := 0, cells := 0, slots := 0, locals := 0 } : Room) w [.ref (adr G (t, v, 3)), vI p, vI f, vI b] none (s1add w t v p f b) 0 0 := by
  refine Con.head (cc := cX1_add) (nL := 4) (ret := none) hG (by decide +kernel) rfl (Nat.le_of_ble_eq_true rfl) ?_
  intro B A hBl C hr
  have hr0 := hr
  have hinX1 : ∀ w ∈ u_ws RX1 TX1 5, w ∈ wsX1_add := by decide +kernel
  obtain ⟨hz1, hz2⟩ := hz
  refine r_aload_n C (k := 0) dX1_add_0 rfl ?_
  refine r_getf C 4 (ok_of hG (kdv3 ht hv) (by decide) (Nat.le_trans ht (by decide))) (kdv3 ht hv) (by decide) rfl hinX1 (by decide) (by decide +kernel) rfl rfl dX1_add_1 ?_
  refine r_bipush C dX1_add_4 (by decide) ?_
  refine r_icmp_lt C (tgt := 10) dX1_add_6 (by decide) (by first | exact hr _ _ | exact hr0 _ _ | assumption | exact ⟨by omega, by omega⟩) ⟨by decide, by decide⟩ (fun h_1 => ?_) (fun h_1 => ?_)
  · skip
    refine r_aload_n C (k := 0) dX1_add_10 rfl ?_
    refine r_getf C 0 (v := .ref (adr G (t, v, 4))) (ok_of hG (kdv3 ht hv) (by decide) (Nat.le_trans ht (by decide))) (kdv3 ht hv) (by decide) rfl hinX1 (by decide) (by decide +kernel) rfl rfl dX1_add_11 ?_
    refine r_aload_n C (k := 0) dX1_add_14 rfl ?_
    refine r_getf C 4 (ok_of hG (kdv3 ht hv) (by decide) (Nat.le_trans ht (by decide))) (kdv3 ht hv) (by decide) rfl hinX1 (by decide) (by decide +kernel) rfl rfl dX1_add_15 ?_
    refine r_iload_n C (k := 1) dX1_add_18 rfl ?_
    refine r_iast C ((w (t, v, 3) (4)).toNat) hr (by first | exact hr _ _ | exact hr0 _ _ | assumption | exact ⟨by omega, by omega⟩) (ok_of hG (kdv4 ht hv) (by decide) (Nat.le_trans ht (by decide))) (kdv4 ht hv) (Int.toNat_of_nonneg (by first | omega | assumption)).symm (by first | omega | assumption) (by decide) dX1_add_19 (fun hr => ?_)
    refine r_aload_n C (k := 0) dX1_add_20 rfl ?_
    refine r_getf C 1 (v := .ref (adr G (t, v, 5))) (ok_of hG (kdv3 ht hv) (by decide) (Nat.le_trans ht (by decide))) (kdv3 ht hv) (by decide) rfl hinX1 (by decide) (by decide +kernel) rfl rfl dX1_add_21 ?_
    refine r_aload_n C (k := 0) dX1_add_24 rfl ?_
    refine r_getf C 4 (ok_of hG (kdv3 ht hv) (by decide) (Nat.le_trans ht (by decide))) (kdv3 ht hv) (by decide) rfl hinX1 (by decide) (by decide +kernel) rfl rfl dX1_add_25 ?_
    refine Wm.top (z' := w (t, v, 3) (4)) (by simp [st1, cpy]) ?_
    refine r_iload_n C (k := 2) dX1_add_28 rfl ?_
    refine r_iast C ((w (t, v, 3) (4)).toNat) hr (by first | exact hr _ _ | exact hr0 _ _ | assumption | exact ⟨by omega, by omega⟩) (ok_of hG (kdv5 ht hv) (by decide) (Nat.le_trans ht (by decide))) (kdv5 ht hv) (Int.toNat_of_nonneg (by first | omega | assumption)).symm (by first | omega | assumption) (by decide) dX1_add_29 (fun hr => ?_)
    refine r_aload_n C (k := 0) dX1_add_30 rfl ?_
    refine r_getf C 2 (v := .ref (adr G (t, v, 6))) (ok_of hG (kdv3 ht hv) (by decide) (Nat.le_trans ht (by decide))) (kdv3 ht hv) (by decide) rfl hinX1 (by decide) (by decide +kernel) rfl rfl dX1_add_31 ?_
    refine r_aload_n C (k := 0) dX1_add_34 rfl ?_
    refine r_getf C 4 (ok_of hG (kdv3 ht hv) (by decide) (Nat.le_trans ht (by decide))) (kdv3 ht hv) (by decide) rfl hinX1 (by decide) (by decide +kernel) rfl rfl dX1_add_35 ?_
    refine Wm.top (z' := w (t, v, 3) (4)) (by simp [st1, cpy]) ?_
    refine r_iload_n C (k := 2) dX1_add_38 rfl ?_
    refine r_iload_n C (k := 3) dX1_add_39 rfl ?_
    refine r_iadd C dX1_add_40 ?_
    refine r_iconst C dX1_add_41 ?_
    refine r_isub C dX1_add_42 ?_
    refine r_iast C ((w (t, v, 3) (4)).toNat) hr (by first | exact hr _ _ | exact hr0 _ _ | assumption | exact ⟨by omega, by omega⟩) (ok_of hG (kdv6 ht hv) (by decide) (Nat.le_trans ht (by decide))) (kdv6 ht hv) (Int.toNat_of_nonneg (by first | omega | assumption)).symm (by first | omega | assumption) (by decide) dX1_add_43 (fun hr => ?_)
    refine r_aload_n C (k := 0) dX1_add_44 rfl ?_
    refine r_getf C 3 (v := .ref (adr G (t, v, 7))) (ok_of hG (kdv3 ht hv) (by decide) (Nat.le_trans ht (by decide))) (kdv3 ht hv) (by decide) rfl hinX1 (by decide) (by decide +kernel) rfl rfl dX1_add_45 ?_
    refine r_aload_n C (k := 0) dX1_add_48 rfl ?_
    refine r_getf C 4 (ok_of hG (kdv3 ht hv) (by decide) (Nat.le_trans ht (by decide))) (kdv3 ht hv) (by decide) rfl hinX1 (by decide) (by decide +kernel) rfl rfl dX1_add_49 ?_
    refine Wm.top (z' := w (t, v, 3) (4)) (by simp [st1, cpy]) ?_
    refine r_iconst C dX1_add_52 ?_
    refine r_iast C ((w (t, v, 3) (4)).toNat) hr ⟨by decide, by decide⟩ (ok_of hG (kdv7 ht hv) (by decide) (Nat.le_trans ht (by decide))) (kdv7 ht hv) (Int.toNat_of_nonneg (by first | omega | assumption)).symm (by first | omega | assumption) (by decide) dX1_add_53 (fun hr => ?_)
    refine r_aload_n C (k := 0) dX1_add_54 rfl ?_
    refine r_dup C dX1_add_55 rfl ?_
    refine r_getf C 4 (ok_of hG (kdv3 ht hv) (by decide) (Nat.le_trans ht (by decide))) (kdv3 ht hv) (by decide) rfl hinX1 (by decide) (by decide +kernel) rfl rfl dX1_add_56 ?_
    refine Wm.top (z' := w (t, v, 3) (4)) (by simp [st1, cpy]) ?_
    refine r_iconst C dX1_add_59 ?_
    refine r_iadd C dX1_add_60 ?_
    refine r_putf C 4 hr (by first | exact hr _ _ | exact hr0 _ _ | assumption | exact ⟨by omega, by omega⟩) (ok_of hG (kdv3 ht hv) (by decide) (Nat.le_trans ht (by decide))) (kdv3 ht hv) (by decide) rfl hinX1 tyX1_ok nmX1 (by decide) (by decide +kernel) rfl rfl (ty := .int) (by decide +kernel) rfl rfl rfl (Nat.le_of_ble_eq_true rfl) dX1_add_61 (fun hr => ?_)
    exact r_vret C dX1_add_64 (by first | rfl | (unfold s1add; rw [if_pos (by assumption)]) | (unfold s1add; rw [if_neg (by omega)]))
  · skip
    exact r_vret C dX1_add_9 (by first | rfl | (unfold s1add; rw [if_pos (by assumption)]) | (unfold s1add; rw [if_neg (by omega)]))

set_option maxRecDepth 100000 in
set_option maxHeartbeats 8000000 in
theorem c_X1_move {l : Launch} {G : Gt} (hG : Gok G) {t : Nat} {v : Nat} (ht : t ≤ 1) (hv : v ≤ 7) {w : Mm} {a : Int} {b : Int} (hz : 0 ≤ w (t, v, 3) 4 ∧ w (t, v, 3) 4 ≤ 112) (ha : inR a) (hb : inR b) : Con l G yX1_move wsX1_move ({ frames := 0, cells := 0, slots := 0, locals := 0 } : Room) w [.ref (adr G (t, v, 3)), vI a, vI b] none (s1move w t v a b) 0 0 := by
  refine Con.head (cc := cX1_move) (nL := 3) (ret := none) hG (by decide +kernel) rfl (Nat.le_of_ble_eq_true rfl) ?_
  intro B A hBl C hr
  have hr0 := hr
  have hinX1 : ∀ w ∈ u_ws RX1 TX1 5, w ∈ wsX1_move := by decide +kernel
  obtain ⟨hz1, hz2⟩ := hz
  refine r_iload_n C (k := 2) dX1_move_0 rfl ?_
  refine r_if_lt C (tgt := 17) dX1_move_1 (by decide) (by first | exact hr _ _ | exact hr0 _ _ | assumption | exact ⟨by omega, by omega⟩) (fun h_1 => ?_) (fun h_1 => ?_)
  · skip
    exact r_vret C dX1_move_17 (by first | (unfold s1move; rw [if_pos (by omega)]) | (unfold s1move; rw [if_neg (by omega)]; rfl))
  · skip
    refine r_iload_n C (k := 2) dX1_move_4 rfl ?_
    refine r_iload_n C (k := 1) dX1_move_5 rfl ?_
    refine r_icmp_ge C (tgt := 17) dX1_move_6 (by decide) (by first | exact hr _ _ | exact hr0 _ _ | assumption | exact ⟨by omega, by omega⟩) (by first | exact hr _ _ | exact hr0 _ _ | assumption | exact ⟨by omega, by omega⟩) (fun h_2 => ?_) (fun h_2 => ?_)
    · skip
      exact r_vret C dX1_move_17 (by first | (unfold s1move; rw [if_pos (by omega)]) | (unfold s1move; rw [if_neg (by omega)]; rfl))
    · skip
      refine r_iload_n C (k := 1) dX1_move_9 rfl ?_
      refine r_aload_n C (k := 0) dX1_move_10 rfl ?_
      refine r_getf C 4 (ok_of hG (kdv3 ht hv) (by decide) (Nat.le_trans ht (by decide))) (kdv3 ht hv) (by decide) rfl hinX1 (by decide) (by decide +kernel) rfl rfl dX1_move_11 ?_
      refine r_icmp_lt C (tgt := 18) dX1_move_14 (by decide) (by first | exact hr _ _ | exact hr0 _ _ | assumption | exact ⟨by omega, by omega⟩) (by first | exact hr _ _ | exact hr0 _ _ | assumption | exact ⟨by omega, by omega⟩) (fun h_3 => ?_) (fun h_3 => ?_)
      · skip
        refine r_aload_n C (k := 0) dX1_move_18 rfl ?_
        refine r_getf C 0 (v := .ref (adr G (t, v, 4))) (ok_of hG (kdv3 ht hv) (by decide) (Nat.le_trans ht (by decide))) (kdv3 ht hv) (by decide) rfl hinX1 (by decide) (by decide +kernel) rfl rfl dX1_move_19 ?_
        refine r_iload_n C (k := 2) dX1_move_22 rfl ?_
        refine r_aload_n C (k := 0) dX1_move_23 rfl ?_
        refine r_getf C 0 (v := .ref (adr G (t, v, 4))) (ok_of hG (kdv3 ht hv) (by decide) (Nat.le_trans ht (by decide))) (kdv3 ht hv) (by decide) rfl hinX1 (by decide) (by decide +kernel) rfl rfl dX1_move_24 ?_
        refine r_iload_n C (k := 1) dX1_move_27 rfl ?_
        refine r_iald C ((a).toNat) (ok_of hG (kdv4 ht hv) (by decide) (Nat.le_trans ht (by decide))) (kdv4 ht hv) (Int.toNat_of_nonneg (by first | omega | assumption)).symm (by first | omega | assumption) (by decide) dX1_move_28 ?_
        refine r_iast C ((b).toNat) hr (by first | exact hr _ _ | exact hr0 _ _ | assumption | exact ⟨by omega, by omega⟩) (ok_of hG (kdv4 ht hv) (by decide) (Nat.le_trans ht (by decide))) (kdv4 ht hv) (Int.toNat_of_nonneg (by first | omega | assumption)).symm (by first | omega | assumption) (by decide) dX1_move_29 (fun hr => ?_)
        refine r_aload_n C (k := 0) dX1_move_30 rfl ?_
        refine r_getf C 1 (v := .ref (adr G (t, v, 5))) (ok_of hG (kdv3 ht hv) (by decide) (Nat.le_trans ht (by decide))) (kdv3 ht hv) (by decide) rfl hinX1 (by decide) (by decide +kernel) rfl rfl dX1_move_31 ?_
        refine r_iload_n C (k := 2) dX1_move_34 rfl ?_
        refine r_aload_n C (k := 0) dX1_move_35 rfl ?_
        refine r_getf C 1 (v := .ref (adr G (t, v, 5))) (ok_of hG (kdv3 ht hv) (by decide) (Nat.le_trans ht (by decide))) (kdv3 ht hv) (by decide) rfl hinX1 (by decide) (by decide +kernel) rfl rfl dX1_move_36 ?_
        refine r_iload_n C (k := 1) dX1_move_39 rfl ?_
        refine r_iald C ((a).toNat) (ok_of hG (kdv5 ht hv) (by decide) (Nat.le_trans ht (by decide))) (kdv5 ht hv) (Int.toNat_of_nonneg (by first | omega | assumption)).symm (by first | omega | assumption) (by decide) dX1_move_40 ?_
        refine Wm.top (z' := w (t, v, 5) ((a).toNat)) (by simp [st1, cpy]) ?_
        refine r_iast C ((b).toNat) hr (by first | exact hr _ _ | exact hr0 _ _ | assumption | exact ⟨by omega, by omega⟩) (ok_of hG (kdv5 ht hv) (by decide) (Nat.le_trans ht (by decide))) (kdv5 ht hv) (Int.toNat_of_nonneg (by first | omega | assumption)).symm (by first | omega | assumption) (by decide) dX1_move_41 (fun hr => ?_)
        refine r_aload_n C (k := 0) dX1_move_42 rfl ?_
        refine r_getf C 2 (v := .ref (adr G (t, v, 6))) (ok_of hG (kdv3 ht hv) (by decide) (Nat.le_trans ht (by decide))) (kdv3 ht hv) (by decide) rfl hinX1 (by decide) (by decide +kernel) rfl rfl dX1_move_43 ?_
        refine r_iload_n C (k := 2) dX1_move_46 rfl ?_
        refine r_aload_n C (k := 0) dX1_move_47 rfl ?_
        refine r_getf C 2 (v := .ref (adr G (t, v, 6))) (ok_of hG (kdv3 ht hv) (by decide) (Nat.le_trans ht (by decide))) (kdv3 ht hv) (by decide) rfl hinX1 (by decide) (by decide +kernel) rfl rfl dX1_move_48 ?_
        refine r_iload_n C (k := 1) dX1_move_51 rfl ?_
        refine r_iald C ((a).toNat) (ok_of hG (kdv6 ht hv) (by decide) (Nat.le_trans ht (by decide))) (kdv6 ht hv) (Int.toNat_of_nonneg (by first | omega | assumption)).symm (by first | omega | assumption) (by decide) dX1_move_52 ?_
        refine Wm.top (z' := w (t, v, 6) ((a).toNat)) (by simp [st1, cpy]) ?_
        refine r_iast C ((b).toNat) hr (by first | exact hr _ _ | exact hr0 _ _ | assumption | exact ⟨by omega, by omega⟩) (ok_of hG (kdv6 ht hv) (by decide) (Nat.le_trans ht (by decide))) (kdv6 ht hv) (Int.toNat_of_nonneg (by first | omega | assumption)).symm (by first | omega | assumption) (by decide) dX1_move_53 (fun hr => ?_)
        refine r_aload_n C (k := 0) dX1_move_54 rfl ?_
        refine r_getf C 3 (v := .ref (adr G (t, v, 7))) (ok_of hG (kdv3 ht hv) (by decide) (Nat.le_trans ht (by decide))) (kdv3 ht hv) (by decide) rfl hinX1 (by decide) (by decide +kernel) rfl rfl dX1_move_55 ?_
        refine r_iload_n C (k := 2) dX1_move_58 rfl ?_
        refine r_aload_n C (k := 0) dX1_move_59 rfl ?_
        refine r_getf C 3 (v := .ref (adr G (t, v, 7))) (ok_of hG (kdv3 ht hv) (by decide) (Nat.le_trans ht (by decide))) (kdv3 ht hv) (by decide) rfl hinX1 (by decide) (by decide +kernel) rfl rfl dX1_move_60 ?_
        refine r_iload_n C (k := 1) dX1_move_63 rfl ?_
        refine r_iald C ((a).toNat) (ok_of hG (kdv7 ht hv) (by decide) (Nat.le_trans ht (by decide))) (kdv7 ht hv) (Int.toNat_of_nonneg (by first | omega | assumption)).symm (by first | omega | assumption) (by decide) dX1_move_64 ?_
        refine Wm.top (z' := w (t, v, 7) ((a).toNat)) (by simp [st1, cpy]) ?_
        refine r_iast C ((b).toNat) hr (by first | exact hr _ _ | exact hr0 _ _ | assumption | exact ⟨by omega, by omega⟩) (ok_of hG (kdv7 ht hv) (by decide) (Nat.le_trans ht (by decide))) (kdv7 ht hv) (Int.toNat_of_nonneg (by first | omega | assumption)).symm (by first | omega | assumption) (by decide) dX1_move_65 (fun hr => ?_)
        exact r_vret C dX1_move_66 (by first | (unfold s1move; rw [if_pos (by omega)]) | (unfold s1move; rw [if_neg (by omega)]; rfl))
      · skip
        exact r_vret C dX1_move_17 (by first | (unfold s1move; rw [if_pos (by omega)]) | (unfold s1move; rw [if_neg (by omega)]; rfl))

set_option maxRecDepth 100000 in
set_option maxHeartbeats 8000000 in
theorem c_X1_copy {l : Launch} {G : Gt} (hG : Gok G) {t : Nat} {v : Nat} {t2 : Nat} {v2 : Nat} (ht : t ≤ 1) (hv : v ≤ 7) (ht2 : t2 ≤ 1) (hv2 : v2 ≤ 7) {w : Mm} (hz : 0 ≤ w (t2, v2, 3) 4 ∧ w (t2, v2, 3) 4 ≤ 112) (hne : t ≠ t2) : Con l G yX1_copy wsX1_copy ({ frames := 1, cells := 0, slots := 0, locals := 26 } : Room) w [.ref (adr G (t, v, 3)), .ref (adr G (t2, v2, 3))] none (s1cp w t v t2 v2) 0 0 := by
  refine Con.head (cc := cX1_copy) (nL := 2) (ret := none) hG (by decide +kernel) rfl (Nat.le_of_ble_eq_true rfl) ?_
  intro B A hBl C hr
  have hr0 := hr
  have hinX1 : ∀ w ∈ u_ws RX1 TX1 5, w ∈ wsX1_copy := by decide +kernel
  obtain ⟨hz1, hz2⟩ := hz
  refine r_aload_n C (k := 1) dX1_copy_0 rfl ?_
  refine r_getf C 0 (v := .ref (adr G (t2, v2, 4))) (ok_of hG (kdv3 ht2 hv2) (by decide) (Nat.le_trans ht2 (by decide))) (kdv3 ht2 hv2) (by decide) rfl hinX1 (by decide) (by decide +kernel) rfl rfl dX1_copy_1 ?_
  refine r_iconst C dX1_copy_4 ?_
  refine r_aload_n C (k := 0) dX1_copy_5 rfl ?_
  refine r_getf C 0 (v := .ref (adr G (t, v, 4))) (ok_of hG (kdv3 ht hv) (by decide) (Nat.le_trans ht (by decide))) (kdv3 ht hv) (by decide) rfl hinX1 (by decide) (by decide +kernel) rfl rfl dX1_copy_6 ?_
  refine r_iconst C dX1_copy_9 ?_
  refine r_aload_n C (k := 1) dX1_copy_10 rfl ?_
  refine r_getf C 4 (ok_of hG (kdv3 ht2 hv2) (by decide) (Nat.le_trans ht2 (by decide))) (kdv3 ht2 hv2) (by decide) rfl hinX1 (by decide) (by decide +kernel) rfl rfl dX1_copy_11 ?_
  refine r_copy C (0) (0) ((w (t2, v2, 3) (4)).toNat) hr (ok_of hG (kdv4 ht2 hv2) (by decide) (Nat.le_trans ht2 (by decide))) (ok_of hG (kdv4 ht hv) (by decide) (Nat.le_trans ht (by decide))) (kdv4 ht2 hv2) (kdv4 ht hv) rfl rfl (Int.toNat_of_nonneg (by first | omega | assumption)).symm (by first | omega | assumption) (by first | omega | assumption) (by decide) (by decide) (by decide +kernel) (by decide +kernel) (by decide +kernel) (by decide +kernel) (Nat.le_of_ble_eq_true rfl) (Nat.le_of_ble_eq_true rfl) dX1_copy_14 (fun hr => ?_)
  refine r_aload_n C (k := 1) dX1_copy_17 rfl ?_
  refine r_getf C 1 (v := .ref (adr G (t2, v2, 5))) (ok_of hG (kdv3 ht2 hv2) (by decide) (Nat.le_trans ht2 (by decide))) (kdv3 ht2 hv2) (by decide) rfl hinX1 (by decide) (by decide +kernel) rfl rfl dX1_copy_18 ?_
  refine r_iconst C dX1_copy_21 ?_
  refine r_aload_n C (k := 0) dX1_copy_22 rfl ?_
  refine r_getf C 1 (v := .ref (adr G (t, v, 5))) (ok_of hG (kdv3 ht hv) (by decide) (Nat.le_trans ht (by decide))) (kdv3 ht hv) (by decide) rfl hinX1 (by decide) (by decide +kernel) rfl rfl dX1_copy_23 ?_
  refine r_iconst C dX1_copy_26 ?_
  refine r_aload_n C (k := 1) dX1_copy_27 rfl ?_
  refine r_getf C 4 (ok_of hG (kdv3 ht2 hv2) (by decide) (Nat.le_trans ht2 (by decide))) (kdv3 ht2 hv2) (by decide) rfl hinX1 (by decide) (by decide +kernel) rfl rfl dX1_copy_28 ?_
  refine Wm.top (z' := w (t2, v2, 3) (4)) (by simp [st1, cpy]) ?_
  refine r_copy C (0) (0) ((w (t2, v2, 3) (4)).toNat) hr (ok_of hG (kdv5 ht2 hv2) (by decide) (Nat.le_trans ht2 (by decide))) (ok_of hG (kdv5 ht hv) (by decide) (Nat.le_trans ht (by decide))) (kdv5 ht2 hv2) (kdv5 ht hv) rfl rfl (Int.toNat_of_nonneg (by first | omega | assumption)).symm (by first | omega | assumption) (by first | omega | assumption) (by decide) (by decide) (by decide +kernel) (by decide +kernel) (by decide +kernel) (by decide +kernel) (Nat.le_of_ble_eq_true rfl) (Nat.le_of_ble_eq_true rfl) dX1_copy_31 (fun hr => ?_)
  refine r_aload_n C (k := 1) dX1_copy_34 rfl ?_
  refine r_getf C 2 (v := .ref (adr G (t2, v2, 6))) (ok_of hG (kdv3 ht2 hv2) (by decide) (Nat.le_trans ht2 (by decide))) (kdv3 ht2 hv2) (by decide) rfl hinX1 (by decide) (by decide +kernel) rfl rfl dX1_copy_35 ?_
  refine r_iconst C dX1_copy_38 ?_
  refine r_aload_n C (k := 0) dX1_copy_39 rfl ?_
  refine r_getf C 2 (v := .ref (adr G (t, v, 6))) (ok_of hG (kdv3 ht hv) (by decide) (Nat.le_trans ht (by decide))) (kdv3 ht hv) (by decide) rfl hinX1 (by decide) (by decide +kernel) rfl rfl dX1_copy_40 ?_
  refine r_iconst C dX1_copy_43 ?_
  refine r_aload_n C (k := 1) dX1_copy_44 rfl ?_
  refine r_getf C 4 (ok_of hG (kdv3 ht2 hv2) (by decide) (Nat.le_trans ht2 (by decide))) (kdv3 ht2 hv2) (by decide) rfl hinX1 (by decide) (by decide +kernel) rfl rfl dX1_copy_45 ?_
  refine Wm.top (z' := w (t2, v2, 3) (4)) (by simp [st1, cpy]) ?_
  refine r_copy C (0) (0) ((w (t2, v2, 3) (4)).toNat) hr (ok_of hG (kdv6 ht2 hv2) (by decide) (Nat.le_trans ht2 (by decide))) (ok_of hG (kdv6 ht hv) (by decide) (Nat.le_trans ht (by decide))) (kdv6 ht2 hv2) (kdv6 ht hv) rfl rfl (Int.toNat_of_nonneg (by first | omega | assumption)).symm (by first | omega | assumption) (by first | omega | assumption) (by decide) (by decide) (by decide +kernel) (by decide +kernel) (by decide +kernel) (by decide +kernel) (Nat.le_of_ble_eq_true rfl) (Nat.le_of_ble_eq_true rfl) dX1_copy_48 (fun hr => ?_)
  refine r_aload_n C (k := 1) dX1_copy_51 rfl ?_
  refine r_getf C 3 (v := .ref (adr G (t2, v2, 7))) (ok_of hG (kdv3 ht2 hv2) (by decide) (Nat.le_trans ht2 (by decide))) (kdv3 ht2 hv2) (by decide) rfl hinX1 (by decide) (by decide +kernel) rfl rfl dX1_copy_52 ?_
  refine r_iconst C dX1_copy_55 ?_
  refine r_aload_n C (k := 0) dX1_copy_56 rfl ?_
  refine r_getf C 3 (v := .ref (adr G (t, v, 7))) (ok_of hG (kdv3 ht hv) (by decide) (Nat.le_trans ht (by decide))) (kdv3 ht hv) (by decide) rfl hinX1 (by decide) (by decide +kernel) rfl rfl dX1_copy_57 ?_
  refine r_iconst C dX1_copy_60 ?_
  refine r_aload_n C (k := 1) dX1_copy_61 rfl ?_
  refine r_getf C 4 (ok_of hG (kdv3 ht2 hv2) (by decide) (Nat.le_trans ht2 (by decide))) (kdv3 ht2 hv2) (by decide) rfl hinX1 (by decide) (by decide +kernel) rfl rfl dX1_copy_62 ?_
  refine Wm.top (z' := w (t2, v2, 3) (4)) (by simp [st1, cpy]) ?_
  refine r_copy C (0) (0) ((w (t2, v2, 3) (4)).toNat) hr (ok_of hG (kdv7 ht2 hv2) (by decide) (Nat.le_trans ht2 (by decide))) (ok_of hG (kdv7 ht hv) (by decide) (Nat.le_trans ht (by decide))) (kdv7 ht2 hv2) (kdv7 ht hv) rfl rfl (Int.toNat_of_nonneg (by first | omega | assumption)).symm (by first | omega | assumption) (by first | omega | assumption) (by decide) (by decide) (by decide +kernel) (by decide +kernel) (by decide +kernel) (by decide +kernel) (Nat.le_of_ble_eq_true rfl) (Nat.le_of_ble_eq_true rfl) dX1_copy_65 (fun hr => ?_)
  refine r_aload_n C (k := 0) dX1_copy_68 rfl ?_
  refine r_aload_n C (k := 1) dX1_copy_69 rfl ?_
  refine r_getf C 4 (ok_of hG (kdv3 ht2 hv2) (by decide) (Nat.le_trans ht2 (by decide))) (kdv3 ht2 hv2) (by decide) rfl hinX1 (by decide) (by decide +kernel) rfl rfl dX1_copy_70 ?_
  refine Wm.top (z' := w (t2, v2, 3) (4)) (by simp [st1, cpy]) ?_
  refine r_putf C 4 hr (by first | exact hr _ _ | exact hr0 _ _ | assumption | exact ⟨by omega, by omega⟩) (ok_of hG (kdv3 ht hv) (by decide) (Nat.le_trans ht (by decide))) (kdv3 ht hv) (by decide) rfl hinX1 tyX1_ok nmX1 (by decide) (by decide +kernel) rfl rfl (ty := .int) (by decide +kernel) rfl rfl rfl (Nat.le_of_ble_eq_true rfl) dX1_copy_73 (fun hr => ?_)
  exact r_vret C dX1_copy_76 (by first | rfl | (simp [*]; done))

set_option maxRecDepth 100000 in
set_option maxHeartbeats 8000000 in
theorem c_X1_lasting {l : Launch} {G : Gt} (hG : Gok G) {t : Nat} {v : Nat} (ht : t ≤ 1) (hv : v ≤ 7) {w : Mm} {b : Int} (hz : 0 ≤ w (t, v, 3) 4 ∧ w (t, v, 3) 4 ≤ 112) (hb : inR b) : Con l G yX1_lasting wsX1_lasting ({ frames := 0, cells := 0, slots := 0, locals := 0 } : Room) w [.ref (adr G (t, v, 3)), vI b] (some (vI (((s1last w t v b (w (t, v, 3) 4).toNat : Nat) : Int)))) w 0 0 := by
  refine Con.head (cc := cX1_lasting) (nL := 4) (ret := (some .int)) hG (by decide +kernel) rfl (Nat.le_of_ble_eq_true rfl) ?_
  intro B A hBl C hr
  have hr0 := hr
  have hinX1 : ∀ w ∈ u_ws RX1 TX1 5, w ∈ wsX1_lasting := by decide +kernel
  obtain ⟨hz1, hz2⟩ := hz
  refine r_iconst C dX1_lasting_0 ?_
  refine r_istore_n C (i := 2) (lv' := [(2, vI (0)), (0, .ref (adr G (t, v, 3))), (1, vI (b))]) dX1_lasting_1 rfl (by decide) rfl ?_
  refine r_iconst C dX1_lasting_2 ?_
  refine r_istore_n C (i := 3) (lv' := [(3, vI (0)), (2, vI (0)), (0, .ref (adr G (t, v, 3))), (1, vI (b))]) dX1_lasting_3 rfl (by decide) rfl ?_
  have loop_4 : ∀ (n : Nat) (i : Nat), (i ≤ (w (t, v, 3) 4).toNat) → (w (t, v, 3) 4).toNat - i < n → rng w → Wm B 4 G A (Qe B G A (some (vI (((s1last w t v b (w (t, v, 3) 4).toNat : Nat) : Int)))) w 0 0) w 0 0 4 [(0, .ref (adr G (t, v, 3))), (1, vI (b)), (2, vI (((s1last w t v b i : Nat) : Int))), (3, vI (((i : Nat) : Int)))] [] := by
    intro n
    induction n with
    | zero => intro i hi hm; exact absurd hm (Nat.not_lt_zero _)
    | succ n ih =>
      intro i hi hm hr
      have hsl := s1last_le w t v b i
      refine r_iload_n C (k := 3) dX1_lasting_4 rfl ?_
      refine r_aload_n C (k := 0) dX1_lasting_5 rfl ?_
      refine r_getf C 4 (ok_of hG (kdv3 ht hv) (by decide) (Nat.le_trans ht (by decide))) (kdv3 ht hv) (by decide) rfl hinX1 (by decide) (by decide +kernel) rfl rfl dX1_lasting_6 ?_
      refine r_icmp_ge C (tgt := 31) dX1_lasting_9 (by decide) (by first | exact hr _ _ | exact hr0 _ _ | assumption | exact ⟨by omega, by omega⟩) (by first | exact hr _ _ | exact hr0 _ _ | assumption | exact ⟨by omega, by omega⟩) (fun h_1 => ?_) (fun h_1 => ?_)
      · skip
        refine r_iload_n C (k := 2) dX1_lasting_31 rfl ?_
        exact r_iret C dX1_lasting_32 (by (obtain rfl : i = (w (t, v, 3) 4).toNat := (by omega)); rfl) (by first | rfl | (simp [*]; done))
      · skip
        refine r_aload_n C (k := 0) dX1_lasting_12 rfl ?_
        refine r_getf C 1 (v := .ref (adr G (t, v, 5))) (ok_of hG (kdv3 ht hv) (by decide) (Nat.le_trans ht (by decide))) (kdv3 ht hv) (by decide) rfl hinX1 (by decide) (by decide +kernel) rfl rfl dX1_lasting_13 ?_
        refine r_iload_n C (k := 3) dX1_lasting_16 rfl ?_
        refine r_iald C (i) (ok_of hG (kdv5 ht hv) (by decide) (Nat.le_trans ht (by decide))) (kdv5 ht hv) rfl (by first | omega | assumption) (by decide) dX1_lasting_17 ?_
        refine r_iload_n C (k := 1) dX1_lasting_18 rfl ?_
        refine r_icmp_gt C (tgt := 25) dX1_lasting_19 (by decide) (by first | exact hr _ _ | exact hr0 _ _ | assumption | exact ⟨by omega, by omega⟩) (by first | exact hr _ _ | exact hr0 _ _ | assumption | exact ⟨by omega, by omega⟩) (fun h_2 => ?_) (fun h_2 => ?_)
        · skip
          refine r_iinc C (k := 3) (lv' := [(3, vI (((i + 1 : Nat) : Int))), (0, .ref (adr G (t, v, 3))), (1, vI (b)), (2, vI (((s1last w t v b i : Nat) : Int)))]) dX1_lasting_25 rfl (by decide) rfl ?_
          refine r_goto C (tgt := 4) dX1_lasting_28 (by decide) ?_
          have e_3 : w = w := by rfl
          refine Wm.sub (lv' := [(0, .ref (adr G (t, v, 3))), (1, vI (b)), (2, vI (((s1last w t v b i : Nat) : Int))), (3, vI (((i + 1 : Nat) : Int)))]) [1, 2, 3, 0] rfl ?_
          refine Wm.mem (lv' := [(0, .ref (adr G (t, v, 3))), (1, vI (b)), (2, vI (((s1last w t v b (i + 1) : Nat) : Int))), (3, vI ((((i + 1) : Nat) : Int)))]) e_3 (by (simp only [s1last]; first | rw [if_pos (by assumption)] | rw [if_neg (by omega)]); try rfl) ?_
          exact ih ((i + 1)) (by omega) (by omega) (e_3 ▸ hr)
        · skip
          refine r_iinc C (k := 2) (lv' := [(2, vI (((s1last w t v b i + 1 : Nat) : Int))), (0, .ref (adr G (t, v, 3))), (1, vI (b)), (3, vI (((i : Nat) : Int)))]) dX1_lasting_22 rfl (by decide) rfl ?_
          refine r_iinc C (k := 3) (lv' := [(3, vI (((i + 1 : Nat) : Int))), (2, vI (((s1last w t v b i + 1 : Nat) : Int))), (0, .ref (adr G (t, v, 3))), (1, vI (b))]) dX1_lasting_25 rfl (by decide) rfl ?_
          refine r_goto C (tgt := 4) dX1_lasting_28 (by decide) ?_
          have e_4 : w = w := by rfl
          refine Wm.sub (lv' := [(0, .ref (adr G (t, v, 3))), (1, vI (b)), (2, vI (((s1last w t v b i + 1 : Nat) : Int))), (3, vI (((i + 1 : Nat) : Int)))]) [2, 3, 1, 0] rfl ?_
          refine Wm.mem (lv' := [(0, .ref (adr G (t, v, 3))), (1, vI (b)), (2, vI (((s1last w t v b (i + 1) : Nat) : Int))), (3, vI ((((i + 1) : Nat) : Int)))]) e_4 (by (simp only [s1last]; first | rw [if_pos (by assumption)] | rw [if_neg (by omega)]); try rfl) ?_
          exact ih ((i + 1)) (by omega) (by omega) (e_4 ▸ hr)
  have e_5 : w = w := by rfl
  refine Wm.sub (lv' := [(0, .ref (adr G (t, v, 3))), (1, vI (b)), (2, vI (0)), (3, vI (0))]) [2, 3, 1, 0] rfl ?_
  refine Wm.mem (lv' := [(0, .ref (adr G (t, v, 3))), (1, vI (b)), (2, vI (((s1last w t v b 0 : Nat) : Int))), (3, vI (((0 : Nat) : Int)))]) e_5 (by rfl) ?_
  exact loop_4 _ (0) (by omega) (Nat.lt_succ_self _) (e_5 ▸ hr)

set_option maxRecDepth 100000 in
set_option maxHeartbeats 8000000 in
theorem c_X1_drown {l : Launch} {G : Gt} (hG : Gok G) {t : Nat} {v : Nat} (ht : t ≤ 1) (hv : v ≤ 7) {w : Mm} {b : Int} (hz : 0 ≤ w (t, v, 3) 4 ∧ w (t, v, 3) 4 ≤ 112) (hb : inR b) : Con l G yX1_drown wsX1_drown ({ frames := 0, cells := 0, slots := 0, locals := 0 } : Room) w [.ref (adr G (t, v, 3)), vI b] none (s1drown w t v b (w (t, v, 3) 4).toNat) 0 0 := by
  refine Con.head (cc := cX1_drown) (nL := 3) (ret := none) hG (by decide +kernel) rfl (Nat.le_of_ble_eq_true rfl) ?_
  intro B A hBl C hr
  have hr0 := hr
  have hinX1 : ∀ w ∈ u_ws RX1 TX1 5, w ∈ wsX1_drown := by decide +kernel
  obtain ⟨hz1, hz2⟩ := hz
  refine r_iconst C dX1_drown_0 ?_
  refine r_istore_n C (i := 2) (lv' := [(2, vI (0)), (0, .ref (adr G (t, v, 3))), (1, vI (b))]) dX1_drown_1 rfl (by decide) rfl ?_
  have loop_2 : ∀ (n : Nat) (i : Nat), (i ≤ (w (t, v, 3) 4).toNat) → (w (t, v, 3) 4).toNat - i < n → rng (s1drown w t v b i) → Wm B 3 G A (Qe B G A none (s1drown w t v b (w (t, v, 3) 4).toNat) 0 0) (s1drown w t v b i) 0 0 2 [(0, .ref (adr G (t, v, 3))), (1, vI (b)), (2, vI (((i : Nat) : Int)))] [] := by
    intro n
    induction n with
    | zero => intro i hi hm; exact absurd hm (Nat.not_lt_zero _)
    | succ n ih =>
      intro i hi hm hr
      refine r_iload_n C (k := 2) dX1_drown_2 rfl ?_
      refine r_aload_n C (k := 0) dX1_drown_3 rfl ?_
      refine r_getf C 4 (ok_of hG (kdv3 ht hv) (by decide) (Nat.le_trans ht (by decide))) (kdv3 ht hv) (by decide) rfl hinX1 (by decide) (by decide +kernel) rfl rfl dX1_drown_4 ?_
      refine Wm.top (z' := w (t, v, 3) (4)) (by simp [st1, cpy, s1drown_off]) ?_
      refine r_icmp_ge C (tgt := 33) dX1_drown_7 (by decide) (by first | exact hr _ _ | exact hr0 _ _ | assumption | exact ⟨by omega, by omega⟩) (by first | exact hr _ _ | exact hr0 _ _ | assumption | exact ⟨by omega, by omega⟩) (fun h_1 => ?_) (fun h_1 => ?_)
      · skip
        exact r_vret C dX1_drown_33 (by (obtain rfl : i = (w (t, v, 3) 4).toNat := (by omega)); rfl)
      · skip
        refine r_aload_n C (k := 0) dX1_drown_10 rfl ?_
        refine r_getf C 1 (v := .ref (adr G (t, v, 5))) (ok_of hG (kdv3 ht hv) (by decide) (Nat.le_trans ht (by decide))) (kdv3 ht hv) (by decide) rfl hinX1 (by decide) (by decide +kernel) rfl rfl dX1_drown_11 ?_
        refine r_iload_n C (k := 2) dX1_drown_14 rfl ?_
        refine r_iald C (i) (ok_of hG (kdv5 ht hv) (by decide) (Nat.le_trans ht (by decide))) (kdv5 ht hv) rfl (by first | omega | assumption) (by decide) dX1_drown_15 ?_
        refine Wm.top (z' := w (t, v, 5) (i)) (by simp [st1, cpy, s1drown_off]) ?_
        refine r_iload_n C (k := 1) dX1_drown_16 rfl ?_
        refine r_icmp_gt C (tgt := 27) dX1_drown_17 (by decide) (by first | exact hr _ _ | exact hr0 _ _ | assumption | exact ⟨by omega, by omega⟩) (by first | exact hr _ _ | exact hr0 _ _ | assumption | exact ⟨by omega, by omega⟩) (fun h_2 => ?_) (fun h_2 => ?_)
        · skip
          refine r_iinc C (k := 2) (lv' := [(2, vI (((i + 1 : Nat) : Int))), (0, .ref (adr G (t, v, 3))), (1, vI (b))]) dX1_drown_27 rfl (by decide) rfl ?_
          refine r_goto C (tgt := 2) dX1_drown_30 (by decide) ?_
          have e_3 : (s1drown w t v b i) = (s1drown w t v b (i + 1)) := by first | (simp only [s1drown]; rw [if_pos (by assumption)]) | (simp only [s1drown]; rw [if_neg (by omega)])
          refine Wm.sub (lv' := [(0, .ref (adr G (t, v, 3))), (1, vI (b)), (2, vI (((i + 1 : Nat) : Int)))]) [1, 2, 0] rfl ?_
          refine Wm.mem (lv' := [(0, .ref (adr G (t, v, 3))), (1, vI (b)), (2, vI ((((i + 1) : Nat) : Int)))]) e_3 (by rfl) ?_
          exact ih ((i + 1)) (by omega) (by omega) (e_3 ▸ hr)
        · skip
          refine r_aload_n C (k := 0) dX1_drown_20 rfl ?_
          refine r_getf C 3 (v := .ref (adr G (t, v, 7))) (ok_of hG (kdv3 ht hv) (by decide) (Nat.le_trans ht (by decide))) (kdv3 ht hv) (by decide) rfl hinX1 (by decide) (by decide +kernel) rfl rfl dX1_drown_21 ?_
          refine r_iload_n C (k := 2) dX1_drown_24 rfl ?_
          refine r_iconst C dX1_drown_25 ?_
          refine r_iast C (i) hr ⟨by decide, by decide⟩ (ok_of hG (kdv7 ht hv) (by decide) (Nat.le_trans ht (by decide))) (kdv7 ht hv) rfl (by first | omega | assumption) (by decide) dX1_drown_26 (fun hr => ?_)
          refine r_iinc C (k := 2) (lv' := [(2, vI (((i + 1 : Nat) : Int))), (0, .ref (adr G (t, v, 3))), (1, vI (b))]) dX1_drown_27 rfl (by decide) rfl ?_
          refine r_goto C (tgt := 2) dX1_drown_30 (by decide) ?_
          have e_4 : (st1 (s1drown w t v b i) (t, v, 7) (i) (1)) = (s1drown w t v b (i + 1)) := by first | (simp only [s1drown]; rw [if_pos (by assumption)]) | (simp only [s1drown]; rw [if_neg (by omega)])
          refine Wm.sub (lv' := [(0, .ref (adr G (t, v, 3))), (1, vI (b)), (2, vI (((i + 1 : Nat) : Int)))]) [1, 2, 0] rfl ?_
          refine Wm.mem (lv' := [(0, .ref (adr G (t, v, 3))), (1, vI (b)), (2, vI ((((i + 1) : Nat) : Int)))]) e_4 (by rfl) ?_
          exact ih ((i + 1)) (by omega) (by omega) (e_4 ▸ hr)
  have e_5 : w = (s1drown w t v b 0) := by rfl
  refine Wm.sub (lv' := [(0, .ref (adr G (t, v, 3))), (1, vI (b)), (2, vI (0))]) [1, 2, 0] rfl ?_
  refine Wm.mem (lv' := [(0, .ref (adr G (t, v, 3))), (1, vI (b)), (2, vI (((0 : Nat) : Int)))]) e_5 (by rfl) ?_
  exact loop_2 _ (0) (by omega) (Nat.lt_succ_self _) (e_5 ▸ hr)
end
