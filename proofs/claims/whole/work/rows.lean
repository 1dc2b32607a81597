section
-- ===== PART A: goes FIRST, ahead of the names: the tables' words, and 'selects' of the private methods out of them =====
/-- a private method of a class that the tables say can be made, by its rows of tables_1 -/
def lw_okq (q : MethodName × Nat) : Prop := (q.1.cls ≠ "java/lang/invoke/MethodHandle" ∧ q.1.cls ≠ "java/lang/invoke/VarHandle") ∧ Cond.instantiable q.1.cls q.2 ∈ tables_1 ∧ Cond.privateMethod q.1 ∈ tables_1 ∧ Cond.instanceMethod q.1 ∈ tables_1
theorem lw_p0 : lw_okq (⟨"DrumTalk", "digestOn", "(JLDrumTalk$Village;)J"⟩, 2) := ⟨⟨by decide +kernel, by decide +kernel⟩, List.mem_of_getElem? (i := 17) (by decide +kernel), List.mem_of_getElem? (i := 203) (by decide +kernel), List.mem_of_getElem? (i := 204) (by decide +kernel)⟩
theorem lw_p1 : lw_okq (⟨"java/lang/Throwable", "fillInStackTrace", "(I)Ljava/lang/Throwable;"⟩, 6) := ⟨⟨by decide +kernel, by decide +kernel⟩, List.mem_of_getElem? (i := 276) (by decide +kernel), List.mem_of_getElem? (i := 274) (by decide +kernel), List.mem_of_getElem? (i := 275) (by decide +kernel)⟩
theorem lw_p2 : lw_okq (⟨"DrumTalk", "villageOf", "(I)LDrumTalk$Village;"⟩, 2) := ⟨⟨by decide +kernel, by decide +kernel⟩, List.mem_of_getElem? (i := 17) (by decide +kernel), List.mem_of_getElem? (i := 338) (by decide +kernel), List.mem_of_getElem? (i := 339) (by decide +kernel)⟩
theorem lw_p3 : lw_okq (⟨"DrumTalk", "checkVillage", "(I)V"⟩, 2) := ⟨⟨by decide +kernel, by decide +kernel⟩, List.mem_of_getElem? (i := 17) (by decide +kernel), List.mem_of_getElem? (i := 342) (by decide +kernel), List.mem_of_getElem? (i := 343) (by decide +kernel)⟩
theorem lw_p4 : lw_okq (⟨"DrumTalk", "checkPhrase", "(I)V"⟩, 2) := ⟨⟨by decide +kernel, by decide +kernel⟩, List.mem_of_getElem? (i := 17) (by decide +kernel), List.mem_of_getElem? (i := 405) (by decide +kernel), List.mem_of_getElem? (i := 406) (by decide +kernel)⟩
theorem lw_p5 : lw_okq (⟨"DrumTalk", "knowersIfTold", "(III)I"⟩, 2) := ⟨⟨by decide +kernel, by decide +kernel⟩, List.mem_of_getElem? (i := 17) (by decide +kernel), List.mem_of_getElem? (i := 571) (by decide +kernel), List.mem_of_getElem? (i := 572) (by decide +kernel)⟩
theorem lw_p6 : lw_okq (⟨"DrumTalk", "pairsIfLarger", "(II)I"⟩, 2) := ⟨⟨by decide +kernel, by decide +kernel⟩, List.mem_of_getElem? (i := 17) (by decide +kernel), List.mem_of_getElem? (i := 583) (by decide +kernel), List.mem_of_getElem? (i := 584) (by decide +kernel)⟩
theorem lw_p7 : lw_okq (⟨"DrumTalkModel", "no", "(I)I"⟩, 12) := ⟨⟨by decide +kernel, by decide +kernel⟩, List.mem_of_getElem? (i := 587) (by decide +kernel), List.mem_of_getElem? (i := 712) (by decide +kernel), List.mem_of_getElem? (i := 713) (by decide +kernel)⟩
theorem lw_p8 : lw_okq (⟨"DrumTalkModel", "isVillage", "(I)Z"⟩, 12) := ⟨⟨by decide +kernel, by decide +kernel⟩, List.mem_of_getElem? (i := 587) (by decide +kernel), List.mem_of_getElem? (i := 720) (by decide +kernel), List.mem_of_getElem? (i := 721) (by decide +kernel)⟩
theorem lw_p9 : lw_okq (⟨"DrumTalkModel", "isPhrase", "(I)Z"⟩, 12) := ⟨⟨by decide +kernel, by decide +kernel⟩, List.mem_of_getElem? (i := 587) (by decide +kernel), List.mem_of_getElem? (i := 740) (by decide +kernel), List.mem_of_getElem? (i := 741) (by decide +kernel)⟩
theorem lw_p10 : lw_okq (⟨"DrumTalkModel", "villageTold", "(II)I"⟩, 12) := ⟨⟨by decide +kernel, by decide +kernel⟩, List.mem_of_getElem? (i := 587) (by decide +kernel), List.mem_of_getElem? (i := 756) (by decide +kernel), List.mem_of_getElem? (i := 757) (by decide +kernel)⟩
theorem lw_p11 : lw_okq (⟨"DrumTalkModel", "counted", "(I)I"⟩, 12) := ⟨⟨by decide +kernel, by decide +kernel⟩, List.mem_of_getElem? (i := 587) (by decide +kernel), List.mem_of_getElem? (i := 784) (by decide +kernel), List.mem_of_getElem? (i := 785) (by decide +kernel)⟩
theorem lw_p12 : lw_okq (⟨"DrumTalkModel", "far", "(II)I"⟩, 12) := ⟨⟨by decide +kernel, by decide +kernel⟩, List.mem_of_getElem? (i := 587) (by decide +kernel), List.mem_of_getElem? (i := 804) (by decide +kernel), List.mem_of_getElem? (i := 805) (by decide +kernel)⟩
theorem lw_p13 : lw_okq (⟨"DrumTalkModel$State", "begin", "(I)V"⟩, 16) := ⟨⟨by decide +kernel, by decide +kernel⟩, List.mem_of_getElem? (i := 593) (by decide +kernel), List.mem_of_getElem? (i := 817) (by decide +kernel), List.mem_of_getElem? (i := 818) (by decide +kernel)⟩
theorem lw_p14 : lw_okq (⟨"DrumTalkModel$State", "sound", "(III)V"⟩, 16) := ⟨⟨by decide +kernel, by decide +kernel⟩, List.mem_of_getElem? (i := 593) (by decide +kernel), List.mem_of_getElem? (i := 824) (by decide +kernel), List.mem_of_getElem? (i := 825) (by decide +kernel)⟩
theorem lw_p15 : lw_okq (⟨"DrumTalkModel$State", "copy", "([I[II)V"⟩, 16) := ⟨⟨by decide +kernel, by decide +kernel⟩, List.mem_of_getElem? (i := 593) (by decide +kernel), List.mem_of_getElem? (i := 842) (by decide +kernel), List.mem_of_getElem? (i := 843) (by decide +kernel)⟩
def lw_privs_1 : List (MethodName × Nat) := [(⟨"DrumTalk", "digestOn", "(JLDrumTalk$Village;)J"⟩, 2), (⟨"java/lang/Throwable", "fillInStackTrace", "(I)Ljava/lang/Throwable;"⟩, 6), (⟨"DrumTalk", "villageOf", "(I)LDrumTalk$Village;"⟩, 2), (⟨"DrumTalk", "checkVillage", "(I)V"⟩, 2), (⟨"DrumTalk", "checkPhrase", "(I)V"⟩, 2), (⟨"DrumTalk", "knowersIfTold", "(III)I"⟩, 2), (⟨"DrumTalk", "pairsIfLarger", "(II)I"⟩, 2), (⟨"DrumTalkModel", "no", "(I)I"⟩, 12), (⟨"DrumTalkModel", "isVillage", "(I)Z"⟩, 12), (⟨"DrumTalkModel", "isPhrase", "(I)Z"⟩, 12), (⟨"DrumTalkModel", "villageTold", "(II)I"⟩, 12), (⟨"DrumTalkModel", "counted", "(I)I"⟩, 12), (⟨"DrumTalkModel", "far", "(II)I"⟩, 12), (⟨"DrumTalkModel$State", "begin", "(I)V"⟩, 16), (⟨"DrumTalkModel$State", "sound", "(III)V"⟩, 16), (⟨"DrumTalkModel$State", "copy", "([I[II)V"⟩, 16)]
theorem lw_r1 : ∀ q ∈ lw_privs_1, lw_okq q := List.forall_mem_cons.mpr ⟨lw_p0, List.forall_mem_cons.mpr ⟨lw_p1, List.forall_mem_cons.mpr ⟨lw_p2, List.forall_mem_cons.mpr ⟨lw_p3, List.forall_mem_cons.mpr ⟨lw_p4, List.forall_mem_cons.mpr ⟨lw_p5, List.forall_mem_cons.mpr ⟨lw_p6, List.forall_mem_cons.mpr ⟨lw_p7, List.forall_mem_cons.mpr ⟨lw_p8, List.forall_mem_cons.mpr ⟨lw_p9, List.forall_mem_cons.mpr ⟨lw_p10, List.forall_mem_cons.mpr ⟨lw_p11, List.forall_mem_cons.mpr ⟨lw_p12, List.forall_mem_cons.mpr ⟨lw_p13, List.forall_mem_cons.mpr ⟨lw_p14, List.forall_mem_cons.mpr ⟨lw_p15, fun _ h => absurd h List.not_mem_nil⟩⟩⟩⟩⟩⟩⟩⟩⟩⟩⟩⟩⟩⟩⟩⟩
def lw_privs : List (MethodName × Nat) := lw_privs_1
def lw_tbl : List Cond := k2_sels lw_privs ++ tables_1
theorem lw_privs_ok : ∀ q ∈ lw_privs, lw_okq q := lw_r1
/-- the streams that the claim lets the run draw from -/
abbrev lw_cs : List Choice := [Jvm.Choice.named "NaN.bits"]
theorem lw_bits : nanBits ∈ lw_cs := by first | decide | exact List.mem_cons_self | simp [lw_cs, nanBits]
-- ===== end of PART A; then your names; then what follows =====
end
section
/-! ===== BEGIN words of one list among another's, by their places ===== -/
theorem goodIn_r {big : List Cond} (ws : List Cond) (ps : List Nat) (hp : ws = ps.filterMap (fun i => big[i]?)) (h : ws.all goodWord = true) : GoodIn big ws := by
  intro w hw
  have h1 := List.all_eq_true.mp h w hw
  rw [hp] at hw
  obtain ⟨i, -, hi⟩ := List.mem_filterMap.mp hw
  have hm : w ∈ big := by first | exact List.mem_of_getElem? hi | exact List.getElem?_mem hi
  exact ⟨hm, good_of_word h1⟩
theorem goodIn_app {big a b : List Cond} (ha : GoodIn big a) (hb : GoodIn big b) : GoodIn big (a ++ b) := fun w h => (List.mem_append.mp h).elim (ha w) (hb w)
theorem goodIn_ca {big a b : List Cond} {c : Cond} (ha : GoodIn big (c :: a)) (hb : GoodIn big b) : GoodIn big (c :: (a ++ b)) := fun w h => (List.mem_cons.mp h).elim (fun e => ha w (List.mem_cons.mpr (Or.inl e))) (fun h => (List.mem_append.mp h).elim (fun h => ha w (List.mem_cons.mpr (Or.inr h))) (hb w))
theorem goodIn_sub {big ws : List Cond} (hm : ∀ w ∈ ws, w ∈ big) (h : ws.all goodWord = true) : GoodIn big ws := fun w hw => ⟨hm w hw, good_of_word (List.all_eq_true.mp h w hw)⟩
/-! ===== END ===== -/

/-! ===== BEGIN exceptions that leave a method, and their catching by the caller (launches without stack traces) ===== -/
section VXA
/-! The laws vx_back, vx_callV, vx_callS, vx_callSW, vx_throw0, vx_throwS follow proofs of the library, with one case more: JvmDerived/Free/Laws.lean (Back.of_free), Shelf42/LK1.lean (callV, callS), Shelf/KitTraced.lean (throwNew0V, throwNewS). -/
/-- where a method has thrown q: the class by its name, the cell, what was written, the world -/
def vx_T (XC : String → State → State → Prop) (st : State) (q : Addr) (t : State) (mc ms : Nat) (free : Addr → Prop) : Prop :=
  ∃ (E : String) (ce : Cell) (L : List Loc), XC E st t ∧ t.heap[q]? = some ce ∧ ce.vm = .none ∧ st.vm.findClass E = some ce.cls ∧ st.WarmedH t.vm ∧ st.sameButNew ({ t with vm := st.vm } : State) L mc ms ∧ ∀ z ∈ L, free z.base
def vx_Q (Qc : Array Value → State → Outcome → State → Prop) (XC : String → State → State → Prop) (mc ms : Nat) (free : Addr → Prop) : Array Value → State → Outcome → State → Prop := fun a st o t =>
  (Qc a st o t ∧ ∃ L, FrameEnd st o t L mc ms ∧ ∀ q ∈ L, free q.base) ∨ ∃ q, o = .threw q ∧ vx_T XC st q t mc ms free
/-- a callee that returns or throws -/
def vx_Met (l : Launch) (y : MethodName) (ws : List Cond) (rm : Room) (Pc : Array Value → State → Prop) (Qc : Array Value → State → Outcome → State → Prop) (XC : String → State → State → Prop) (mc ms : Nat) (free : Addr → Prop) : Prop :=
  MetFree l y (headSpec ws rm) Pc (fun _ _ _ _ _ => True) (vx_Q Qc XC mc ms free)
def vx_Post (XC : String → State → State → Prop) (mc ms : Nat) (free : Addr → Prop) : Pt → Array Value → Addr → Pt → Prop := fun A a q B =>
  ∃ (g : JFrame) (mk : MethodId) (t : State) (L : List Loc) (E : String) (ce : Cell), B.U.heap = t.heap ∧ B.U.vm = t.vm ∧ XC E (A.U.calling g mk a) t ∧ t.heap[q]? = some ce ∧ ce.vm = .none ∧ A.U.vm.findClass E = some ce.cls ∧ B.locs = A.locs ++ L ∧ (∀ z ∈ L, free z.base) ∧ B.cells = A.cells + mc ∧ B.slots = A.slots + ms
def vx_Back (l : Launch) (R : Room) (p : Program) (e : Env) (below : List Frame) (s : State) (sargs : Array Value) (y : MethodName) (len W9 : Nat)
    (Pre : Pt → Array Value → Prop) (Post : Pt → Array Value → Option Value → Pt → Prop) (PostX : Pt → Array Value → Addr → Pt → Prop) : Prop :=
  ∀ (m : MethodId) (meth : Method) (c : Code) (A : Pt) (g : JFrame) (ig : Instr) (mk : MethodId) (a : Array Value),
    Stand p l e R s m sargs below meth c A.U A.locs A.cells A.slots → g.method = m → g.locals.size = c.maxLocals → decode c.code g.pc = .ok (ig, len) →
    2 * g.monitorRoom + (g.stack.map fun v => v.category).sum ≤ W9 → A.U.methodNamed? y = some mk → Pre A a →
    (∃ (v : Option Value) (B : Pt), Stand p l e R s m sargs below meth c B.U B.locs B.cells B.slots ∧ Post A a v B ∧
      Steps p.tables e below (doInvoke e (A.U.setTop g) [] mk a).1 (B.U.setTop { g with pc := g.pc + len, stack := v.toList ++ g.stack })) ∨
    (∃ (q : Addr) (B : Pt), Stand p l e R s m sargs below meth c B.U B.locs B.cells B.slots ∧ PostX A a q B ∧
      Steps p.tables e below (doInvoke e (A.U.setTop g) [] mk a).1 ((B.U.setTop g).pushFrame (.throwing q)))
section Payer
variable {l : Launch} {R : Room} {p : Program} {e : Env} {below : List Frame} {s : State} {sargs : Array Value} {y : MethodName} {len W9 : Nat}
theorem vx_back {ws : List Cond} {rm : Room} {Pc : Array Value → State → Prop} {Qc : Array Value → State → Outcome → State → Prop} {XC : String → State → State → Prop} {mc ms : Nat} {free : Addr → Prop} {bytes : ByteArray} {maxL : Nat} {ret : Option FieldType}
    (hM : vx_Met l y ws rm Pc Qc XC mc ms free) (hblind : FrameBlind Pc) (hrc : rm.cells = mc) (hrs : rm.slots = ms)
    (hframes : rm.frames + 1 ≤ R.frames) (hlocals : W9 + (maxL + 11) + rm.locals ≤ R.locals)
    (hws : ∀ w ∈ ws, ∀ a' U, s.WarmedH U.vm → w.before a' U = true) (hcode : Cond.code y bytes maxL ret ∈ ws) (hinit : ∀ a' U, s.WarmedH U.vm → (Cond.initialized y.cls).before a' U = true) :
    vx_Back l R p e below s sargs y len W9 (PreOf R mc ms Pc) (PostOf Qc mc ms free) (vx_Post XC mc ms free) := by
  intro m meth c A g ig mk a X hg hsize hdg hW hn hp
  have h1 : (headSpec ws rm).pre.before a A.U = true := atoms_intro fun w hw => hws w hw _ _ X.warmed
  have h2 : (Cond.code y bytes maxL ret).before a A.U = true := hws _ hcode _ _ X.warmed
  have h3 : (Cond.initialized y.cls).before a A.U = true := hinit _ _ X.warmed
  have h4 : A.cells + (headSpec ws rm).room.cells ≤ R.cells := by rw [show (headSpec ws rm).room.cells = mc from hrc]; exact hp.1
  have h5 : A.slots + (headSpec ws rm).room.slots ≤ R.slots := by rw [show (headSpec ws rm).room.slots = ms from hrs]; exact hp.2.1
  have hPc : Pc a (A.U.calling g mk a) := hblind _ _ _ _ hp.2.2
  obtain ⟨U, Ls, c0, s0⟩ := A
  dsimp only [Pt.U, Pt.locs, Pt.cells, Pt.slots] at h1 h2 h3 h4 h5 X hn hPc ⊢
  obtain ⟨methY, cY, hmY, hcY, -, hlY, -, -, -, -⟩ := Cond.code_spec hn h2
  obtain ⟨kY, hkY, -⟩ := className_of_methodNamed hn
  have hinitY : kY.init = .initialized := Cond.initialized_spec (findClass_of_methodNamed hn) hkY h3
  have h : At U g.method c below := by rw [hg]; exact X.here
  have hlocals9 : W9 + (maxL + 11) + (headSpec ws rm).room.locals ≤ R.locals := hlocals
  have happ : (headSpec ws rm).appliesLoose y e.platform (U.calling g mk a) = true :=
    Spec.appliesLoose_calling (g := g) h hdg hn hkY hinitY
      (X.room_calling (g := g) (R' := (headSpec ws rm).room) hsize hmY hcY hframes (by rw [hlY]; omega) h4 h5) h1
  obtain ⟨mid, hmid⟩ := h.above
  have hfr : (U.setTop g).frames = (.java g :: mid) ++ below := by rw [State.frames_setTop' g h.top, hmid]; rfl
  obtain ⟨o, s₂, hsteps, -, hend, hq⟩ := Steps.callFree hM p X.admits X.cas X.clock (acts := []) hfr happ hPc trivial
  have hq' : vx_Q Qc XC mc ms free a (U.calling g mk a) o s₂ := hq
  rw [State.frames_setTop' g h.top] at hend
  obtain ⟨g₀, hg0⟩ := Option.isSome_iff_exists.mp h.top
  obtain ⟨r, hr⟩ := State.topJava?_eq_some.mp hg0
  have hr' : (({ U with heap := s₂.heap, slotsUsed := s₂.slotsUsed } : State).setVm s₂.vm).frames = .java g₀ :: r := hr
  rcases hq' with ⟨hqc, L, hfe, hL⟩ | ⟨q, rfl, E, ce, L, hx, hce, hcv, hcl, hW₂, hsm, hL⟩
  · obtain ⟨⟨v, rfl⟩, hW₂, e2, q2, q3, q4, q5, q6⟩ := id hfe
    have e3 : s₂ = ({ (U.calling g mk a).setFrames s₂.frames with heap := s₂.heap, slotsUsed := s₂.slotsUsed } : State).setVm s₂.vm := by
      have : s₂ = ({ s₂ with vm := (U.calling g mk a).vm } : State).setVm s₂.vm := rfl
      rw [e2] at this
      exact this
    obtain ⟨c₂, i₂, len₂, hc₂, hd₂, hf₂⟩ := hend
    have hW' : U.WarmedH s₂.vm := hW₂
    have hcc : c₂ = c := by
      have h1 : s₂.code? g.method = U.code? g.method := by
        rw [State.code?_eq, State.code?_eq, hW'.alike.method?]
      exact Option.some.inj (hc₂.symm.trans (h1.trans h.code))
    subst hcc
    have hlen : len₂ = len := by rw [hdg] at hd₂; cases hd₂; rfl
    subst hlen
    have hs₂ : s₂ = (({ U with heap := s₂.heap, slotsUsed := s₂.slotsUsed } : State).setVm s₂.vm).setTop { g with pc := g.pc + len₂, stack := v.toList ++ g.stack } := by
      refine e3.trans ?_
      rw [hf₂, State.calling_eq h.top, State.setFrames_setFrames, State.setTop_of_frames _ hr', hr]
      rfl
    have hsame : U.sameButNew ({ U with heap := s₂.heap, slotsUsed := s₂.slotsUsed } : State) L mc ms := by
      refine ⟨?_, q2, q3, q4, q5, q6⟩
      obtain ⟨t, ht, -⟩ := State.frames_cons hr
      show ({ U with heap := s₂.heap, slotsUsed := s₂.slotsUsed } : State) = { U.setFrames U.frames with heap := s₂.heap, slotsUsed := s₂.slotsUsed }
      rw [State.setFrames_self ht]
    subst hg
    refine Or.inl ⟨v, ⟨(({ U with heap := s₂.heap, slotsUsed := s₂.slotsUsed } : State).setVm s₂.vm), Ls ++ L, c0 + mc, s0 + ms⟩,
      ⟨X.admits, X.cas, X.clock, X.frames, X.room, X.hears, X.method, X.code, (X.here.setHeapUsed s₂.heap s₂.slotsUsed).setVm hW'.alike, X.tail, State.WarmedH.trans X.warmed hW', X.limits, X.bytes, X.same.trans (hsame.setVm s.vm)⟩,
      ⟨g, mk, s₂, L, rfl, rfl, hqc, rfl, hL, rfl, rfl⟩, ?_⟩
    show Steps p.tables e below _ ((({ U with heap := s₂.heap, slotsUsed := s₂.slotsUsed } : State).setVm s₂.vm).setTop { g with pc := g.pc + len₂, stack := v.toList ++ g.stack })
    rw [← hs₂]
    exact hsteps
  · obtain ⟨e2, q2, q3, q4, q5, q6⟩ := id hsm
    have e3 : s₂ = ({ (U.calling g mk a).setFrames s₂.frames with heap := s₂.heap, slotsUsed := s₂.slotsUsed } : State).setVm s₂.vm := by
      have : s₂ = ({ s₂ with vm := (U.calling g mk a).vm } : State).setVm s₂.vm := rfl
      rw [e2] at this
      exact this
    have hf₂ : s₂.frames = .throwing q :: .java g :: U.frames.tail := hend
    have hW' : U.WarmedH s₂.vm := hW₂
    have hs₂ : s₂ = ((({ U with heap := s₂.heap, slotsUsed := s₂.slotsUsed } : State).setVm s₂.vm).setTop g).pushFrame (.throwing q) := by
      refine e3.trans ?_
      rw [hf₂, State.calling_eq h.top, State.setFrames_setFrames, State.pushFrame, State.frames_setTop _ hr', State.setTop_of_frames _ hr', State.setFrames_setFrames, hr]
      rfl
    have hsame : U.sameButNew ({ U with heap := s₂.heap, slotsUsed := s₂.slotsUsed } : State) L mc ms := by
      refine ⟨?_, q2, q3, q4, q5, q6⟩
      obtain ⟨t, ht, -⟩ := State.frames_cons hr
      show ({ U with heap := s₂.heap, slotsUsed := s₂.slotsUsed } : State) = { U.setFrames U.frames with heap := s₂.heap, slotsUsed := s₂.slotsUsed }
      rw [State.setFrames_self ht]
    subst hg
    refine Or.inr ⟨q, ⟨(({ U with heap := s₂.heap, slotsUsed := s₂.slotsUsed } : State).setVm s₂.vm), Ls ++ L, c0 + mc, s0 + ms⟩,
      ⟨X.admits, X.cas, X.clock, X.frames, X.room, X.hears, X.method, X.code, (X.here.setHeapUsed s₂.heap s₂.slotsUsed).setVm hW'.alike, X.tail, State.WarmedH.trans X.warmed hW', X.limits, X.bytes, X.same.trans (hsame.setVm s.vm)⟩,
      ⟨g, mk, s₂, L, E, ce, rfl, rfl, hx, hce, hcv, hcl, rfl, hL, rfl, rfl⟩, ?_⟩
    show Steps p.tables e below _ (((({ U with heap := s₂.heap, slotsUsed := s₂.slotsUsed } : State).setVm s₂.vm).setTop g).pushFrame (.throwing q))
    rw [← hs₂]
    exact hsteps
end Payer
section Calls
variable {p : Program} {l : Launch} {e : Env} {R : Room} {s : State} {m : MethodId} {args : Array Value} {below : List Frame} {meth : Method} {c : Code} {T : State} {locs : List Loc} {cells slots : Nat}
theorem vx_callV (X : Stand p l e R s m args below meth c T locs cells slots) (hexec : p.tables.exec = Jvm.exec) {own C : String} {index : Nat} {y : MethodName} {bytes : ByteArray} {maxL : Nat} {ret : Option FieldType}
    (hown : s.vm.findClass own = some m.cls) (hlink : (Cond.methodLink own index y).before args s = true) (hinst : (Cond.instanceMethod y).before args s = true) (hsel : (Cond.selects C y y).before args s = true)
    (hcode : (Cond.code y bytes maxL ret).before args s = true) (hy : y.cls ≠ "java/lang/invoke/MethodHandle" ∧ y.cls ≠ "java/lang/invoke/VarHandle")
    {W9 : Nat} {Pre : Pt → Array Value → Prop} {Post : Pt → Array Value → Option Value → Pt → Prop} {PostX : Pt → Array Value → Addr → Pt → Prop} (hK : vx_Back l R p e below s args y 3 W9 Pre Post PostX)
    {b : Addr} {cellB : Cell} (hcell : T.heap[b]? = some cellB) (hobj : cellB.vm.isStatics = false) (hcls : s.vm.findClass C = some cellB.cls)
    {g : JFrame} (hg : g.method = m) (hsize : g.locals.size = c.maxLocals) {argsL rest : List Value} (hlen : ∀ sig, parseMethodDescriptor y.desc = some sig → argsL.length = sig.parameters.length)
    (hstack : g.stack = argsL.reverse ++ .ref b :: rest) (hW : 2 * g.monitorRoom + (rest.map fun v => v.category).sum ≤ W9) (hdg : decode c.code g.pc = .ok (.invokevirtual index, 3))
    (hpre : ∀ vm₁, s.WarmedH vm₁ → Pre ⟨T.setVm vm₁, locs, cells, slots⟩ (Value.ref b :: argsL).toArray) :
    (∃ (v : Option Value) (vm₁ : Vm) (B : Pt), s.WarmedH vm₁ ∧ Stand p l e R s m args below meth c B.U B.locs B.cells B.slots ∧ Post ⟨T.setVm vm₁, locs, cells, slots⟩ (Value.ref b :: argsL).toArray v B ∧
      ∀ target, Steps p.tables e below (B.U.setTop { g with pc := g.pc + 3, stack := v.toList ++ rest }) target → Steps p.tables e below (T.setTop g) target) ∨
    (∃ (q : Addr) (vm₁ : Vm) (B : Pt), s.WarmedH vm₁ ∧ Stand p l e R s m args below meth c B.U B.locs B.cells B.slots ∧ PostX ⟨T.setVm vm₁, locs, cells, slots⟩ (Value.ref b :: argsL).toArray q B ∧
      Steps p.tables e below (T.setTop g) ((B.U.setTop { g with stack := rest }).pushFrame (.throwing q))) := by
  obtain ⟨mk, methM, hnamed, hmethM, hstM, habM⟩ := Cond.instanceMethod_spec hinst
  obtain ⟨methM', cM, hmethM', -, -, -, -, -, -, hsigM⟩ := Cond.code_spec hnamed hcode
  cases hmethM.symm.trans hmethM'
  obtain ⟨c2, r2, m2, q1, q2, q3, q4, kP, hkP, hkPi⟩ := Cond.selects_spec hsel
  cases hcls.symm.trans q1
  cases (State.methodFound?_of_named hnamed hy).symm.trans q2
  cases hnamed.symm.trans q3
  have hselP : selectMethod e.platform s.vm cellB.cls mk = .method mk := by rw [Launch.admits_selectMethod X.admits]; exact q4
  obtain ⟨vm₁, X₁, hstep₁⟩ := X.invokevirtual hexec hown hlink hnamed hmethM hstM hkP hkPi hy (a := b) (cell := cellB) hcell
    (fun z h => by rw [h] at hobj; cases hobj) hselP hmethM habM hkP hkPi (g := g) hg (argsL := argsL) (rest := rest) (hlen _ hsigM) hstack hdg
  rcases hK m meth c ⟨T.setVm vm₁, locs, cells, slots⟩ { g with stack := rest } (.invokevirtual index) mk (Value.ref b :: argsL).toArray X₁ hg hsize hdg hW (X₁.named hnamed) (hpre vm₁ X₁.warmed) with ⟨v, B, X', hpost, hsteps⟩ | ⟨q, B, X', hpost, hsteps⟩
  · exact Or.inl ⟨v, vm₁, B, X₁.warmed, X', hpost, fun target h => hstep₁ _ fun acts => by rw [doInvoke_state]; exact hsteps.trans h⟩
  · exact Or.inr ⟨q, vm₁, B, X₁.warmed, X', hpost, hstep₁ _ fun acts => by rw [doInvoke_state]; exact hsteps⟩
theorem vx_callS (X : Stand p l e R s m args below meth c T locs cells slots) (hexec : p.tables.exec = Jvm.exec) {own : String} {index : Nat} {y : MethodName} {bytes : ByteArray} {maxL : Nat} {ret : Option FieldType}
    (hown : s.vm.findClass own = some m.cls) (hlink : (Cond.methodLink own index y).before args s = true) (hstat : (Cond.static y).before args s = true) (hinit : (Cond.initialized y.cls).before args s = true)
    (hcode : (Cond.code y bytes maxL ret).before args s = true) (hy : y.cls ≠ "java/lang/invoke/MethodHandle" ∧ y.cls ≠ "java/lang/invoke/VarHandle")
    {W9 : Nat} {Pre : Pt → Array Value → Prop} {Post : Pt → Array Value → Option Value → Pt → Prop} {PostX : Pt → Array Value → Addr → Pt → Prop} (hK : vx_Back l R p e below s args y 3 W9 Pre Post PostX)
    {g : JFrame} (hg : g.method = m) (hsize : g.locals.size = c.maxLocals) {argsL rest : List Value} (hlen : ∀ sig, parseMethodDescriptor y.desc = some sig → argsL.length = sig.parameters.length)
    (hstack : g.stack = argsL.reverse ++ rest) (hW : 2 * g.monitorRoom + (rest.map fun v => v.category).sum ≤ W9) (hdg : decode c.code g.pc = .ok (.invokestatic index, 3))
    (hpre : ∀ vm₁, s.WarmedH vm₁ → Pre ⟨T.setVm vm₁, locs, cells, slots⟩ argsL.toArray) :
    (∃ (v : Option Value) (vm₁ : Vm) (B : Pt), s.WarmedH vm₁ ∧ Stand p l e R s m args below meth c B.U B.locs B.cells B.slots ∧ Post ⟨T.setVm vm₁, locs, cells, slots⟩ argsL.toArray v B ∧
      ∀ target, Steps p.tables e below (B.U.setTop { g with pc := g.pc + 3, stack := v.toList ++ rest }) target → Steps p.tables e below (T.setTop g) target) ∨
    (∃ (q : Addr) (vm₁ : Vm) (B : Pt), s.WarmedH vm₁ ∧ Stand p l e R s m args below meth c B.U B.locs B.cells B.slots ∧ PostX ⟨T.setVm vm₁, locs, cells, slots⟩ argsL.toArray q B ∧
      Steps p.tables e below (T.setTop g) ((B.U.setTop { g with stack := rest }).pushFrame (.throwing q))) := by
  obtain ⟨mk, hnamed⟩ := Cond.code_named hcode
  obtain ⟨methM, cM, hmethM, -, -, -, -, -, -, hsigM⟩ := Cond.code_spec hnamed hcode
  have hstatic : methM.isStatic = true := Cond.static_spec hnamed hmethM hstat
  obtain ⟨kP, hkP, -⟩ := className_of_methodNamed hnamed
  have hinitP : kP.init = .initialized := Cond.initialized_spec (findClass_of_methodNamed hnamed) hkP hinit
  obtain ⟨vm₁, X₁, hstep₁⟩ := X.invokestatic hexec hown hlink hnamed hmethM hstatic hkP hinitP hy (g := g) hg (argsL := argsL) (rest := rest) (hlen _ hsigM) hstack hdg
  rcases hK m meth c ⟨T.setVm vm₁, locs, cells, slots⟩ { g with stack := rest } (.invokestatic index) mk argsL.toArray X₁ hg hsize hdg hW (X₁.named hnamed) (hpre vm₁ X₁.warmed) with ⟨v, B, X', hpost, hsteps⟩ | ⟨q, B, X', hpost, hsteps⟩
  · exact Or.inl ⟨v, vm₁, B, X₁.warmed, X', hpost, fun target h => hstep₁ _ fun acts => by rw [doInvoke_state]; exact hsteps.trans h⟩
  · exact Or.inr ⟨q, vm₁, B, X₁.warmed, X', hpost, hstep₁ _ fun acts => by rw [doInvoke_state]; exact hsteps⟩
end Calls
theorem vx_cls {s : State} {T : State} {vm₁ : Vm} {E : String} {k : ClassId} (hW : s.WarmedH vm₁) (h : (T.setVm vm₁).vm.findClass E = some k) : s.vm.findClass E = some k := by
  have h1 : vm₁.findClass E = some k := h
  rw [hW.alike.findClass] at h1
  exact h1
/-- the method's frame g, with q thrown over it -/
def vx_W (p : Program) (l : Launch) (e : Env) (R : Room) (s : State) (m : MethodId) (args : Array Value) (below : List Frame) (meth : Method) (c : Code) (H : Heap) (locs : List Loc) (cells slots : Nat) (Q : State → Prop) (g : JFrame) (q : Addr) : Prop :=
  ∀ T : State, T.heap = H → Stand p l e R s m args below meth c T locs cells slots → ∃ t, Steps p.tables e below ((T.setTop g).pushFrame (.throwing q)) t ∧ Q t
def vx_Run (p : Program) (l : Launch) (e : Env) (R : Room) (s : State) (m : MethodId) (args : Array Value) (below : List Frame) (meth : Method) (c : Code) (H : Heap) (locs : List Loc) (cells slots mc ms : Nat) (g : JFrame) (rest : List Value) (Qa : State → Outcome → State → Prop) (XC : String → State → State → Prop) (free : Addr → Prop) : Prop :=
  ∀ T : State, T.heap = H → Stand p l e R s m args below meth c T locs cells slots →
    (∃ (v : Option Value) (st₀ t T' : State) (L : List Loc), st₀.heap = H ∧ Stand p l e R s m args below meth c T' (locs ++ L) (cells + mc) (slots + ms) ∧ (∀ q ∈ L, free q.base) ∧ T'.heap = t.heap ∧ T'.vm = t.vm ∧ Qa st₀ (.returned v) t ∧
      Goes p e below T g T' { g with pc := g.pc + 3, stack := v.toList ++ rest }) ∨
    (∃ (q : Addr) (st₀ t T' : State) (L : List Loc) (E : String) (ce : Cell), st₀.heap = H ∧ Stand p l e R s m args below meth c T' (locs ++ L) (cells + mc) (slots + ms) ∧ (∀ z ∈ L, free z.base) ∧ T'.heap = t.heap ∧ T'.vm = t.vm ∧ XC E st₀ t ∧ t.heap[q]? = some ce ∧ ce.vm = .none ∧ s.vm.findClass E = some ce.cls ∧
      Steps p.tables e below (T.setTop g) ((T'.setTop { g with stack := rest }).pushFrame (.throwing q)))
def vx_X {S : Type} (px : S → Prop) (B : String → S → State → Prop) (A : Nat → Prop) : String → State → State → Prop := fun E st t => ∃ u : S, px u ∧ B E u t ∧ va_F A st t
section Runs
variable {p : Program} {l : Launch} {e : Env} {R : Room} {s : State} {m : MethodId} {args : Array Value} {below : List Frame} {meth : Method} {c : Code} {H : Heap} {locs : List Loc} {cells slots : Nat}
variable {y : MethodName} {bytes cc : ByteArray} {maxL nL mc ms n index : Nat} {ret : Option FieldType} {ws : List Cond} {rm : Room} {Pc : Array Value → State → Prop} {Qc : Array Value → State → Outcome → State → Prop} {XC : String → State → State → Prop} {free : Addr → Prop} {Ts : List Cond} {own C : String} {b : Addr} {As rest : List Value} {g : JFrame}
theorem vx_callBack (cb : CallB R s args own index y bytes maxL ret ws rm mc ms n) (hM : vx_Met l y ws rm Pc Qc XC mc ms free) (hbl : FrameBlind Pc) : vx_Back l R p e below s args y 3 8 (PreOf R mc ms Pc) (PostOf Qc mc ms free) (vx_Post XC mc ms free) := by
  obtain ⟨hrc, hrs, hfr, hlo, hws, hcw, -, hini, -⟩ := cb
  exact vx_back (bytes := bytes) (maxL := maxL) (ret := ret) hM hbl hrc hrs hfr hlo hws hcw (fun a' U hW => word_at hW (Or.inl (by first | rfl | simp [Cond.onTables, Cond.keeps, Cond.steady])) hini)
theorem vx_runV (S : CallFix p m c cc nL s args Ts own) (hM : vx_Met l y ws rm Pc Qc XC mc ms free) (cw : CallW R s args own C index y bytes maxL ret ws rm mc ms n) (hp : PreV s H C b Pc As)
    (hg : g.method = m) (hn : As.length = n) (hsize : g.locals.size = nL) (hstack : g.stack = As.reverse ++ .ref b :: rest) (hW : 2 * g.monitorRoom + (rest.map fun v => v.category).sum ≤ 8) (hdg : decode cc g.pc = .ok (.invokevirtual index, 3)) (hf : cells + mc ≤ R.cells ∧ slots + ms ≤ R.slots) :
    vx_Run p l e R s m args below meth c H locs cells slots mc ms g rest (Qc (Value.ref b :: As).toArray) XC free := by
  have hK : vx_Back l R p e below s args y 3 8 (PreOf R mc ms Pc) (PostOf Qc mc ms free) (vx_Post XC mc ms free) := vx_callBack cw.1 hM hp.1
  obtain ⟨⟨-, -, -, -, -, -, hcode, -, hy, hlen, hl⟩, hin, hse⟩ := cw
  obtain ⟨hx, hb, hml, ho, -⟩ := S
  obtain ⟨-, ⟨cellB, hcB, hoB, hclB⟩, hPc⟩ := hp
  intro T hT X
  rcases vx_callV X hx (C := C) (bytes := bytes) (maxL := maxL) (ret := ret) ho hl hin hse hcode hy hK (by rw [hT]; exact hcB) hoB hclB hg (hsize.trans hml.symm) (argsL := As) (rest := rest) (fun sig h => hn.trans (hlen sig h)) hstack hW (by rw [hb]; exact hdg)
    (fun vm₁ hW₁ => ⟨hf.1, hf.2, hPc (T.setVm vm₁) hT hW₁⟩) with ⟨v, vm₁, ⟨U', l2, c2, s2⟩, hW₁, X', ⟨g', mk, t, L, e1, e2, hq, h1, hL, h2, h3⟩, st⟩ | ⟨q, vm₁, ⟨U', l2, c2, s2⟩, hW₁, X', ⟨g', mk, t, L, E, ce, e1, e2, hq, hce, hcv, hcl, h1, hL, h2, h3⟩, st⟩
  · dsimp only [Pt.U, Pt.locs, Pt.cells, Pt.slots] at X' e1 e2 h1 h2 h3 st
    subst h1; subst h2; subst h3
    exact Or.inl ⟨v, (T.setVm vm₁).calling g' mk (Value.ref b :: As).toArray, t, U', L, hT, X', hL, e1, e2, hq, st⟩
  · dsimp only [Pt.U, Pt.locs, Pt.cells, Pt.slots] at X' e1 e2 h1 h2 h3 st hcl
    subst h1; subst h2; subst h3
    exact Or.inr ⟨q, (T.setVm vm₁).calling g' mk (Value.ref b :: As).toArray, t, U', L, E, ce, hT, X', hL, e1, e2, hq, hce, hcv, vx_cls hW₁ hcl, st⟩
theorem vx_runS (S : CallFix p m c cc nL s args Ts own) (hM : vx_Met l y ws rm Pc Qc XC mc ms free) (cw : CallB R s args own index y bytes maxL ret ws rm mc ms n ∧ (Cond.static y).before args s = true) (hp : PreS s H Pc As)
    (hg : g.method = m) (hn : As.length = n) (hsize : g.locals.size = nL) (hstack : g.stack = As.reverse ++ rest) (hW : 2 * g.monitorRoom + (rest.map fun v => v.category).sum ≤ 8) (hdg : decode cc g.pc = .ok (.invokestatic index, 3)) (hf : cells + mc ≤ R.cells ∧ slots + ms ≤ R.slots) :
    vx_Run p l e R s m args below meth c H locs cells slots mc ms g rest (Qc As.toArray) XC free := by
  have hK : vx_Back l R p e below s args y 3 8 (PreOf R mc ms Pc) (PostOf Qc mc ms free) (vx_Post XC mc ms free) := vx_callBack cw.1 hM hp.1
  obtain ⟨⟨-, -, -, -, -, -, hcode, hini, hy, hlen, hl⟩, hstt⟩ := cw
  obtain ⟨hx, hb, hml, ho, -⟩ := S
  intro T hT X
  rcases vx_callS X hx (bytes := bytes) (maxL := maxL) (ret := ret) ho hl hstt hini hcode hy hK hg (hsize.trans hml.symm) (argsL := As) (rest := rest) (fun sig h => hn.trans (hlen sig h)) hstack hW (by rw [hb]; exact hdg)
    (fun vm₁ hW₁ => ⟨hf.1, hf.2, hp.2 (T.setVm vm₁) hT hW₁⟩) with ⟨v, vm₁, ⟨U', l2, c2, s2⟩, hW₁, X', ⟨g', mk, t, L, e1, e2, hq, h1, hL, h2, h3⟩, st⟩ | ⟨q, vm₁, ⟨U', l2, c2, s2⟩, hW₁, X', ⟨g', mk, t, L, E, ce, e1, e2, hq, hce, hcv, hcl, h1, hL, h2, h3⟩, st⟩
  · dsimp only [Pt.U, Pt.locs, Pt.cells, Pt.slots] at X' e1 e2 h1 h2 h3 st
    subst h1; subst h2; subst h3
    exact Or.inl ⟨v, (T.setVm vm₁).calling g' mk As.toArray, t, U', L, hT, X', hL, e1, e2, hq, st⟩
  · dsimp only [Pt.U, Pt.locs, Pt.cells, Pt.slots] at X' e1 e2 h1 h2 h3 st hcl
    subst h1; subst h2; subst h3
    exact Or.inr ⟨q, (T.setVm vm₁).calling g' mk As.toArray, t, U', L, E, ce, hT, X', hL, e1, e2, hq, hce, hcv, vx_cls hW₁ hcl, st⟩
end Runs
section Rows
variable {p : Program} {l : Launch} {e : Env} {R : Room} {s : State} {m : MethodId} {args : Array Value} {below : List Frame} {meth : Method} {c : Code} {H : Heap} {locs : List Loc} {cells slots : Nat} {Q : State → Prop}
variable {mc ms : Nat} {free : Addr → Prop} {A0 A1 : Nat → Prop} {H0 : Heap} {a : Array Value} {pc : Nat} {ls : Array Slot} {st0 rest : List Value}
theorem vx_keep {st₀ t T' : State} {L : List Loc} (h0 : st₀.heap = H) (e1 : T'.heap = t.heap) (hS : va_S A0 H0 H locs) (hA : ∀ q, q < H.size → A1 q → A0 q) (hf : ∀ q, free q → A0 q) (hL : ∀ q ∈ L, free q.base) (hF : va_F A1 st₀ t) :
    H.size ≤ T'.heap.size ∧ (∀ q : Nat, q < H.size → ¬ A1 q → T'.heap[q]? = H[q]?) ∧ va_S A0 H0 T'.heap (locs ++ L) := by
  obtain ⟨hz, hk⟩ := hF
  rw [h0] at hz hk
  exact ⟨by rw [e1]; exact hz, fun q h1 h2 => by rw [e1]; exact hk q h1 h2,
    ⟨Nat.le_trans hS.1 (by rw [e1]; exact hz), fun q h1 h2 => by rw [e1, hk q (Nat.lt_of_lt_of_le h1 hS.1) (fun z => h2 (hA q (Nat.lt_of_lt_of_le h1 hS.1) z))]; exact hS.2.1 q h1 h2, fun q hq => by
      rcases List.mem_append.mp hq with h | h
      · exact hS.2.2 q h
      · exact hf _ (hL q h)⟩⟩
theorem vx_calli {S SX : Type} {post : Int32 → S → Prop} {px : SX → Prop} {B : S → State → Prop} {BX : String → SX → State → Prop} {AX : Nat → Prop} (hr : vx_Run p l e R s m args below meth c H locs cells slots mc ms (F0 m pc ls st0) rest (va_Qi post B A1 a) (vx_X px BX AX) free) (hS : va_S A0 H0 H locs) (hA : ∀ q, q < H.size → A1 q → A0 q) (hf : ∀ q, free q → A0 q) (hAX : ∀ q, q < H.size → AX q → A0 q)
    (kx : ∀ (E : String) (ce : Cell) (q9 : Addr) (u : SX) (t : State) (H1 : Heap) (locs1 : List Loc), t.heap = H1 → s.vm.Alike t.vm → px u → BX E u t → H.size ≤ H1.size → (∀ q : Nat, q < H.size → ¬ AX q → H1[q]? = H[q]?) → va_S A0 H0 H1 locs1 → H1[q9]? = some ce → ce.vm = .none → s.vm.findClass E = some ce.cls → vx_W p l e R s m args below meth c H1 locs1 (cells + mc) (slots + ms) Q (F0 m pc ls rest) q9)
    (kk : ∀ (r : Int32) (u : S) (t : State) (H1 : Heap) (locs1 : List Loc), t.heap = H1 → s.vm.Alike t.vm → post r u → B u t → H.size ≤ H1.size → (∀ q : Nat, q < H.size → ¬ A1 q → H1[q]? = H[q]?) → va_S A0 H0 H1 locs1 → W p l e R s m args below meth c H1 locs1 (cells + mc) (slots + ms) Q (F0 m (pc + 3) ls (.int r :: rest))) : W p l e R s m args below meth c H locs cells slots Q (F0 m pc ls st0) := by
  intro T hT X
  rcases hr T hT X with ⟨v, st₀, t, T', L, h0, X', hL, e1, e2, ⟨⟨r, u, hv, hp, hb⟩, hF⟩, st⟩ | ⟨q, st₀, t, T', L, E, ce, h0, X', hL, e1, e2, ⟨u, hp, hb, hF⟩, hce, hcv, hcl, st⟩
  · cases hv
    obtain ⟨k1, k2, k3⟩ := vx_keep h0 e1 hS hA hf hL hF
    obtain ⟨t2, a1, b1⟩ := kk r u t T'.heap (locs ++ L) e1.symm (by rw [← e2]; exact X'.warmed.alike) hp hb k1 k2 k3 T' rfl X'
    exact ⟨t2, st t2 a1, b1⟩
  · obtain ⟨k1, k2, k3⟩ := vx_keep h0 e1 hS hAX hf hL hF
    obtain ⟨t2, a1, b1⟩ := kx E ce q u t T'.heap (locs ++ L) e1.symm (by rw [← e2]; exact X'.warmed.alike) hp hb k1 k2 k3 (by rw [e1]; exact hce) hcv hcl T' rfl X'
    exact ⟨t2, st.trans a1, b1⟩
theorem vx_calll {S SX : Type} {post : Int64 → S → Prop} {px : SX → Prop} {B : S → State → Prop} {BX : String → SX → State → Prop} {AX : Nat → Prop} (hr : vx_Run p l e R s m args below meth c H locs cells slots mc ms (F0 m pc ls st0) rest (va_Ql post B A1 a) (vx_X px BX AX) free) (hS : va_S A0 H0 H locs) (hA : ∀ q, q < H.size → A1 q → A0 q) (hf : ∀ q, free q → A0 q) (hAX : ∀ q, q < H.size → AX q → A0 q)
    (kx : ∀ (E : String) (ce : Cell) (q9 : Addr) (u : SX) (t : State) (H1 : Heap) (locs1 : List Loc), t.heap = H1 → s.vm.Alike t.vm → px u → BX E u t → H.size ≤ H1.size → (∀ q : Nat, q < H.size → ¬ AX q → H1[q]? = H[q]?) → va_S A0 H0 H1 locs1 → H1[q9]? = some ce → ce.vm = .none → s.vm.findClass E = some ce.cls → vx_W p l e R s m args below meth c H1 locs1 (cells + mc) (slots + ms) Q (F0 m pc ls rest) q9)
    (kk : ∀ (r : Int64) (u : S) (t : State) (H1 : Heap) (locs1 : List Loc), t.heap = H1 → s.vm.Alike t.vm → post r u → B u t → H.size ≤ H1.size → (∀ q : Nat, q < H.size → ¬ A1 q → H1[q]? = H[q]?) → va_S A0 H0 H1 locs1 → W p l e R s m args below meth c H1 locs1 (cells + mc) (slots + ms) Q (F0 m (pc + 3) ls (.long r :: rest))) : W p l e R s m args below meth c H locs cells slots Q (F0 m pc ls st0) := by
  intro T hT X
  rcases hr T hT X with ⟨v, st₀, t, T', L, h0, X', hL, e1, e2, ⟨⟨r, u, hv, hp, hb⟩, hF⟩, st⟩ | ⟨q, st₀, t, T', L, E, ce, h0, X', hL, e1, e2, ⟨u, hp, hb, hF⟩, hce, hcv, hcl, st⟩
  · cases hv
    obtain ⟨k1, k2, k3⟩ := vx_keep h0 e1 hS hA hf hL hF
    obtain ⟨t2, a1, b1⟩ := kk r u t T'.heap (locs ++ L) e1.symm (by rw [← e2]; exact X'.warmed.alike) hp hb k1 k2 k3 T' rfl X'
    exact ⟨t2, st t2 a1, b1⟩
  · obtain ⟨k1, k2, k3⟩ := vx_keep h0 e1 hS hAX hf hL hF
    obtain ⟨t2, a1, b1⟩ := kx E ce q u t T'.heap (locs ++ L) e1.symm (by rw [← e2]; exact X'.warmed.alike) hp hb k1 k2 k3 (by rw [e1]; exact hce) hcv hcl T' rfl X'
    exact ⟨t2, st.trans a1, b1⟩
theorem vx_callf {S SX : Type} {post : UInt32 → S → Prop} {px : SX → Prop} {B : S → State → Prop} {BX : String → SX → State → Prop} {AX : Nat → Prop} (hr : vx_Run p l e R s m args below meth c H locs cells slots mc ms (F0 m pc ls st0) rest (va_Qf post B A1 a) (vx_X px BX AX) free) (hS : va_S A0 H0 H locs) (hA : ∀ q, q < H.size → A1 q → A0 q) (hf : ∀ q, free q → A0 q) (hAX : ∀ q, q < H.size → AX q → A0 q)
    (kx : ∀ (E : String) (ce : Cell) (q9 : Addr) (u : SX) (t : State) (H1 : Heap) (locs1 : List Loc), t.heap = H1 → s.vm.Alike t.vm → px u → BX E u t → H.size ≤ H1.size → (∀ q : Nat, q < H.size → ¬ AX q → H1[q]? = H[q]?) → va_S A0 H0 H1 locs1 → H1[q9]? = some ce → ce.vm = .none → s.vm.findClass E = some ce.cls → vx_W p l e R s m args below meth c H1 locs1 (cells + mc) (slots + ms) Q (F0 m pc ls rest) q9)
    (kk : ∀ (r : UInt32) (u : S) (t : State) (H1 : Heap) (locs1 : List Loc), t.heap = H1 → s.vm.Alike t.vm → post r u → B u t → H.size ≤ H1.size → (∀ q : Nat, q < H.size → ¬ A1 q → H1[q]? = H[q]?) → va_S A0 H0 H1 locs1 → W p l e R s m args below meth c H1 locs1 (cells + mc) (slots + ms) Q (F0 m (pc + 3) ls (.float r :: rest))) : W p l e R s m args below meth c H locs cells slots Q (F0 m pc ls st0) := by
  intro T hT X
  rcases hr T hT X with ⟨v, st₀, t, T', L, h0, X', hL, e1, e2, ⟨⟨r, u, hv, hp, hb⟩, hF⟩, st⟩ | ⟨q, st₀, t, T', L, E, ce, h0, X', hL, e1, e2, ⟨u, hp, hb, hF⟩, hce, hcv, hcl, st⟩
  · cases hv
    obtain ⟨k1, k2, k3⟩ := vx_keep h0 e1 hS hA hf hL hF
    obtain ⟨t2, a1, b1⟩ := kk r u t T'.heap (locs ++ L) e1.symm (by rw [← e2]; exact X'.warmed.alike) hp hb k1 k2 k3 T' rfl X'
    exact ⟨t2, st t2 a1, b1⟩
  · obtain ⟨k1, k2, k3⟩ := vx_keep h0 e1 hS hAX hf hL hF
    obtain ⟨t2, a1, b1⟩ := kx E ce q u t T'.heap (locs ++ L) e1.symm (by rw [← e2]; exact X'.warmed.alike) hp hb k1 k2 k3 (by rw [e1]; exact hce) hcv hcl T' rfl X'
    exact ⟨t2, st.trans a1, b1⟩
theorem vx_calld {S SX : Type} {post : UInt64 → S → Prop} {px : SX → Prop} {B : S → State → Prop} {BX : String → SX → State → Prop} {AX : Nat → Prop} (hr : vx_Run p l e R s m args below meth c H locs cells slots mc ms (F0 m pc ls st0) rest (va_Qd post B A1 a) (vx_X px BX AX) free) (hS : va_S A0 H0 H locs) (hA : ∀ q, q < H.size → A1 q → A0 q) (hf : ∀ q, free q → A0 q) (hAX : ∀ q, q < H.size → AX q → A0 q)
    (kx : ∀ (E : String) (ce : Cell) (q9 : Addr) (u : SX) (t : State) (H1 : Heap) (locs1 : List Loc), t.heap = H1 → s.vm.Alike t.vm → px u → BX E u t → H.size ≤ H1.size → (∀ q : Nat, q < H.size → ¬ AX q → H1[q]? = H[q]?) → va_S A0 H0 H1 locs1 → H1[q9]? = some ce → ce.vm = .none → s.vm.findClass E = some ce.cls → vx_W p l e R s m args below meth c H1 locs1 (cells + mc) (slots + ms) Q (F0 m pc ls rest) q9)
    (kk : ∀ (r : UInt64) (u : S) (t : State) (H1 : Heap) (locs1 : List Loc), t.heap = H1 → s.vm.Alike t.vm → post r u → B u t → H.size ≤ H1.size → (∀ q : Nat, q < H.size → ¬ A1 q → H1[q]? = H[q]?) → va_S A0 H0 H1 locs1 → W p l e R s m args below meth c H1 locs1 (cells + mc) (slots + ms) Q (F0 m (pc + 3) ls (.double r :: rest))) : W p l e R s m args below meth c H locs cells slots Q (F0 m pc ls st0) := by
  intro T hT X
  rcases hr T hT X with ⟨v, st₀, t, T', L, h0, X', hL, e1, e2, ⟨⟨r, u, hv, hp, hb⟩, hF⟩, st⟩ | ⟨q, st₀, t, T', L, E, ce, h0, X', hL, e1, e2, ⟨u, hp, hb, hF⟩, hce, hcv, hcl, st⟩
  · cases hv
    obtain ⟨k1, k2, k3⟩ := vx_keep h0 e1 hS hA hf hL hF
    obtain ⟨t2, a1, b1⟩ := kk r u t T'.heap (locs ++ L) e1.symm (by rw [← e2]; exact X'.warmed.alike) hp hb k1 k2 k3 T' rfl X'
    exact ⟨t2, st t2 a1, b1⟩
  · obtain ⟨k1, k2, k3⟩ := vx_keep h0 e1 hS hAX hf hL hF
    obtain ⟨t2, a1, b1⟩ := kx E ce q u t T'.heap (locs ++ L) e1.symm (by rw [← e2]; exact X'.warmed.alike) hp hb k1 k2 k3 (by rw [e1]; exact hce) hcv hcl T' rfl X'
    exact ⟨t2, st.trans a1, b1⟩
theorem vx_callv {S SX : Type} {post : S → Prop} {px : SX → Prop} {B : S → State → Prop} {BX : String → SX → State → Prop} {AX : Nat → Prop} (hr : vx_Run p l e R s m args below meth c H locs cells slots mc ms (F0 m pc ls st0) rest (va_Qv post B A1 a) (vx_X px BX AX) free) (hS : va_S A0 H0 H locs) (hA : ∀ q, q < H.size → A1 q → A0 q) (hf : ∀ q, free q → A0 q) (hAX : ∀ q, q < H.size → AX q → A0 q)
    (kx : ∀ (E : String) (ce : Cell) (q9 : Addr) (u : SX) (t : State) (H1 : Heap) (locs1 : List Loc), t.heap = H1 → s.vm.Alike t.vm → px u → BX E u t → H.size ≤ H1.size → (∀ q : Nat, q < H.size → ¬ AX q → H1[q]? = H[q]?) → va_S A0 H0 H1 locs1 → H1[q9]? = some ce → ce.vm = .none → s.vm.findClass E = some ce.cls → vx_W p l e R s m args below meth c H1 locs1 (cells + mc) (slots + ms) Q (F0 m pc ls rest) q9)
    (kk : ∀ (u : S) (t : State) (H1 : Heap) (locs1 : List Loc), t.heap = H1 → s.vm.Alike t.vm → post u → B u t → H.size ≤ H1.size → (∀ q : Nat, q < H.size → ¬ A1 q → H1[q]? = H[q]?) → va_S A0 H0 H1 locs1 → W p l e R s m args below meth c H1 locs1 (cells + mc) (slots + ms) Q (F0 m (pc + 3) ls (rest))) : W p l e R s m args below meth c H locs cells slots Q (F0 m pc ls st0) := by
  intro T hT X
  rcases hr T hT X with ⟨v, st₀, t, T', L, h0, X', hL, e1, e2, ⟨⟨u, hv, hp, hb⟩, hF⟩, st⟩ | ⟨q, st₀, t, T', L, E, ce, h0, X', hL, e1, e2, ⟨u, hp, hb, hF⟩, hce, hcv, hcl, st⟩
  · cases hv
    obtain ⟨k1, k2, k3⟩ := vx_keep h0 e1 hS hA hf hL hF
    obtain ⟨t2, a1, b1⟩ := kk u t T'.heap (locs ++ L) e1.symm (by rw [← e2]; exact X'.warmed.alike) hp hb k1 k2 k3 T' rfl X'
    exact ⟨t2, st t2 a1, b1⟩
  · obtain ⟨k1, k2, k3⟩ := vx_keep h0 e1 hS hAX hf hL hF
    obtain ⟨t2, a1, b1⟩ := kx E ce q u t T'.heap (locs ++ L) e1.symm (by rw [← e2]; exact X'.warmed.alike) hp hb k1 k2 k3 (by rw [e1]; exact hce) hcv hcl T' rfl X'
    exact ⟨t2, st.trans a1, b1⟩
/-- caught by the row x of this method's table; the rows ahead don't take it -/
theorem vx_catch {own name : String} {E : String} {ce : Cell} {q : Addr} (hown : s.vm.findClass own = some m.cls) (pre : List ExceptionTableEntry) (x : ExceptionTableEntry) (suf : List ExceptionTableEntry) (hsplit : c.exceptionTable.toList = pre ++ x :: suf)
    (hpass : ∀ z ∈ pre, covers z pc = false ∨ (z.catchType ≠ 0 ∧ ∃ nm : String, (Cond.classLink own z.catchType nm).before args s = true ∧ va_Nc E nm s)) (hx : covers x pc = true) (h0 : x.catchType ≠ 0)
    (hlink : (Cond.classLink own x.catchType name).before args s = true) (hcast : (Cond.castable E name).before args s = true) (hcell : H[q]? = some ce) (hv : ce.vm = .none) (hcl : s.vm.findClass E = some ce.cls)
    (kk : W p l e R s m args below meth c H locs cells slots Q (F0 m x.handlerPc ls [.ref q])) : vx_W p l e R s m args below meth c H locs cells slots Q (F0 m pc ls rest) q := by
  intro T hT X
  have hpl : e.platform.magicAccessors = ({} : Platform).magicAccessors := by rw [X.admits.platform]
  obtain ⟨c3, c4, hc3, hc4, hasg⟩ := Cond.castable_spec hcast
  cases Option.some.inj (hc3.symm.trans hcl)
  obtain ⟨c5, hc5, hcl5⟩ := Cond.classLink_spec hown hlink e.platform hpl
  cases Option.some.inj (hc4.symm.trans hc5)
  obtain ⟨vm', X', st⟩ := X.thenCaughtThrough q (g := F0 m pc ls rest) rfl (Steps.refl _) (by rw [hT]; exact hcell) (by rw [hv]; rfl) (by obtain ⟨k9, h9, -⟩ := Vm.findClass_spec hcl; exact ⟨k9, h9⟩) pre x suf hsplit
    (fun z hz => by
      rcases hpass z hz with h | ⟨hz0, nm, hl1, hn1⟩
      · exact Or.inl h
      · obtain ⟨c6, hc6, hcl6⟩ := Cond.classLink_spec hown hl1 e.platform hpl
        obtain ⟨a8, b8, h1, h2, h3⟩ := hn1
        cases Option.some.inj (h1.symm.trans hcl)
        cases Option.some.inj (h2.symm.trans hc6)
        exact Or.inr ⟨hz0, _, hcl6, h3⟩) hx (Or.inr ⟨h0, c4, hcl5, hasg⟩)
  obtain ⟨t, a1, b1⟩ := kk (T.setVm vm') hT X'
  exact ⟨t, st.trans a1, b1⟩
end Rows
section Ends
variable {p : Program} {l : Launch} {e : Env} {R : Room} {s : State} {m : MethodId} {args : Array Value} {below : List Frame} {meth : Method} {c : Code} {H : Heap} {locs : List Loc} {cells slots : Nat} {Q : State → Prop}
variable {mc ms : Nat} {free : Addr → Prop} {A0 A1 : Nat → Prop} {H0 : Heap} {a : Array Value} {ls : Array Slot} {st0 rest : List Value}
variable {Qc : Array Value → State → Outcome → State → Prop} {XC : String → State → State → Prop}
/-- what a body that may throw owes at its end -/
def vx_MQ (below : List Frame) (Qc : Array Value → State → Outcome → State → Prop) (XC : String → State → State → Prop) (a : Array Value) (s : State) (mc ms : Nat) (free : Addr → Prop) : State → Prop := fun t =>
  ∃ o, t.status = .running ∧ Ended t below o ∧ vx_Q Qc XC mc ms free a s o t
theorem vx_ret {g : JFrame} {mc ms : Nat} (k : W p l e R s m args below meth c H locs cells slots (MQ below Qc args s mc ms free) g) : W p l e R s m args below meth c H locs cells slots (vx_MQ below Qc XC args s mc ms free) g := by
  intro T hT X
  obtain ⟨t, a1, o, b1, b2, b3, b4⟩ := k T hT X
  exact ⟨t, a1, o, b1, b2, Or.inl ⟨b3, b4⟩⟩
/-- not caught here: it goes on to the caller -/
theorem vx_widen {g : JFrame} {q : Addr} {k n : Nat} (h1 : cells ≤ k) (h2 : slots ≤ n) (kk : vx_W p l e R s m args below meth c H locs k n Q g q) : vx_W p l e R s m args below meth c H locs cells slots Q g q := fun T hT X => kk T hT (stand_widen X h1 h2)
theorem vx_out {pc : Nat} {E : String} {ce : Cell} {q : Addr} {mc ms : Nat} (hout : ∀ x ∈ c.exceptionTable.toList, covers x pc = false) (hlocks : meth.locks = false) (hcell : H[q]? = some ce) (hv : ce.vm = .none) (hcl : s.vm.findClass E = some ce.cls)
    (hx : ∀ t : State, t.heap = H → s.vm.Alike t.vm → XC E s t) (hf : ∀ z ∈ locs, free z.base) (hc : cells ≤ mc) (hs : slots ≤ ms) :
    vx_W p l e R s m args below meth c H locs cells slots (vx_MQ below Qc XC args s mc ms free) (F0 m pc ls rest) q := by
  intro T hT X
  obtain ⟨st1, hrun, hend, hW, hsm⟩ := X.leaveThrown q (g := F0 m pc ls rest) rfl rfl rfl hout hlocks
  have hcell9 : (T.setFrames (.throwing q :: below)).heap[q]? = some ce := by
    show T.heap[q]? = some ce
    rw [hT]; exact hcell
  exact ⟨_, st1, .threw q, hrun, hend, Or.inr ⟨q, rfl, E, ce, locs, hx _ hT hW.alike, hcell9, hv, hcl, hW, hsm.mono hc hs, hf⟩⟩
theorem vx_frame {U : State} {k n : Nat} (h : s.sameButNew ({ U with vm := s.vm } : State) locs k n) : s.heap.size ≤ U.heap.size ∧ ∀ q : Nat, q < s.heap.size → (∀ z ∈ locs, z.base ≠ q) → U.heap[q]? = s.heap[q]? := by
  obtain ⟨-, h2, -, -, -, h6⟩ := h
  refine ⟨h2, fun q hq hz => ?_⟩
  obtain ⟨c9, e1, e2, e3, e4⟩ := h6 q _ (Array.getElem?_eq_getElem hq)
  have hs : c9.slots = (s.heap[q]).slots := Array.ext_getElem? fun i => e4 i fun hm => hz _ hm rfl
  have h9 : c9 = s.heap[q] := by
    rw [hs] at e2
    exact e2
  have e5 : U.heap[q]? = some c9 := e1
  rw [e5, h9, Array.getElem?_eq_getElem hq]
/-- the words of a throw but the four that speak of the heap -/
def vx_no (w : Cond) : Bool := decide (w ≠ .isRef (.static Bundle.tN "UNASSIGNED_STACK" Bundle.steD)) && decide (w ≠ .isRef (.static Bundle.tN "SUPPRESSED_SENTINEL" Bundle.listD)) && decide (w ≠ .laysStatic Bundle.tN "UNASSIGNED_STACK" Bundle.steD) && decide (w ≠ .laysStatic Bundle.tN "SUPPRESSED_SENTINEL" Bundle.listD)
def vx_at0 (own : String) (ic : Nat) (X : String) (names : List String) : List Cond := (Bundle.ownAtoms0 own ic X names).filter vx_no
def vx_atS (own : String) (ic : Nat) (X : String) (names : List String) : List Cond := (Bundle.ownAtoms own ic X names).filter vx_no
/-- a word that the tables alone decide, or a good one -/
def vx_ot (w : Cond) : Bool := w.onTables || goodWord w
theorem vx_ot_at {args a' : Array Value} {s U : State} {w : Cond} (hW : s.WarmedH U.vm) (hvm : s.vm = U.vm) (hg : vx_ot w = true) (h : w.before args s = true) : w.before a' U = true := by
  simp only [vx_ot, Bool.or_eq_true] at hg
  rcases hg with hg | hg
  · exact va_tabs hg hvm h
  · exact word_at hW (good_of_word hg) h
/-- a list's words: the good ones out of the method's own list, the others by premises of their own -/
theorem vx_hat {args : Array Value} {s : State} {L B : List Cond} (h1 : ∀ w ∈ L.filter goodWord, w.before args s = true) (h2 : ∀ w ∈ L.filter (fun w => !goodWord w), w ∈ B) (h3 : ∀ w ∈ B, w.before args s = true) : ∀ w ∈ L, w.before args s = true := by
  intro w hw
  by_cases g : goodWord w = true
  · exact h1 w (List.mem_filter.mpr ⟨hw, g⟩)
  · refine h3 w (h2 w (List.mem_filter.mpr ⟨hw, ?_⟩))
    show (!goodWord w) = true
    cases hgw : goodWord w
    · rfl
    · exact absurd hgw g
theorem vx_c {args : Array Value} {s : State} {w : Cond} {B : List Cond} (h : w.before args s = true) (t : ∀ w ∈ B, w.before args s = true) : ∀ w' ∈ w :: B, w'.before args s = true := fun w' h' => (List.mem_cons.mp h').elim (fun e => by rw [e]; exact h) (t w')
theorem vx_n {args : Array Value} {s : State} : ∀ w ∈ ([] : List Cond), w.before args s = true := fun _ h => nomatch h
theorem vx_own {args : Array Value} {s : State} {L : List Cond} (h1 : ∀ w ∈ L.filter vx_no, w.before args s = true)
    (hU : (Cond.isRef (.static Bundle.tN "UNASSIGNED_STACK" Bundle.steD)).before args s = true) (hN : (Cond.isRef (.static Bundle.tN "SUPPRESSED_SENTINEL" Bundle.listD)).before args s = true)
    (lU : (Cond.laysStatic Bundle.tN "UNASSIGNED_STACK" Bundle.steD).before args s = true) (lN : (Cond.laysStatic Bundle.tN "SUPPRESSED_SENTINEL" Bundle.listD).before args s = true) : ∀ w ∈ L, w.before args s = true := by
  intro w hw
  by_cases e1 : w = .isRef (.static Bundle.tN "UNASSIGNED_STACK" Bundle.steD)
  · rw [e1]; exact hU
  · by_cases e2 : w = .isRef (.static Bundle.tN "SUPPRESSED_SENTINEL" Bundle.listD)
    · rw [e2]; exact hN
    · by_cases e3 : w = .laysStatic Bundle.tN "UNASSIGNED_STACK" Bundle.steD
      · rw [e3]; exact lU
      · by_cases e4 : w = .laysStatic Bundle.tN "SUPPRESSED_SENTINEL" Bundle.listD
        · rw [e4]; exact lN
        · exact h1 w (List.mem_filter.mpr ⟨hw, by unfold vx_no; rw [decide_eq_true e1, decide_eq_true e2, decide_eq_true e3, decide_eq_true e4]; rfl⟩)
/-- where a static field lies, its class's statics cell in H -/
def vx_L (C n d : String) (A : Nat → Prop) (U : State) (H : Heap) : Prop := ∃ (c : ClassId) (k : Class) (i : Nat) (f : Field) (a : Nat) (cell : Cell), U.vm.findClass C = some c ∧ U.fieldFound? C n d = some (c, k, i, f) ∧ f.isStatic = true ∧ k.statics = some a ∧ H[a]? = some cell ∧ cell.vm.isStatics = true ∧ cell.cls = c ∧ f.slot < cell.slots.size ∧ k.staticTypes[f.slot]? = some f.type ∧ ¬ A a
theorem vx_L.moved {C n d : String} {A : Nat → Prop} {u U : State} {H : Heap} (hvm : u.vm.Alike U.vm) (h : vx_L C n d A u H) : vx_L C n d A U H := by
  obtain ⟨c, k, i, f, a, cell, h1, h2, h3, h4, h5, h6, h7, h8, h9, h10⟩ := h
  obtain ⟨k', hi', he⟩ := State.fieldFound?_setVm hvm h2
  exact ⟨c, k', i, f, a, cell, by rw [hvm.findClass]; exact h1, hi', h3, by rw [he]; exact h4, h5, h6, h7, h8, by rw [he]; exact h9, h10⟩
theorem vx_L.kept {C n d : String} {A : Nat → Prop} {U : State} {H H1 : Heap} (h : vx_L C n d A U H) (hq : ∀ a : Nat, a < H.size → ¬ A a → H1[a]? = H[a]?) : vx_L C n d A U H1 := by
  obtain ⟨c, k, i, f, a, cell, h1, h2, h3, h4, h5, h6, h7, h8, h9, h10⟩ := h
  exact ⟨c, k, i, f, a, cell, h1, h2, h3, h4, by rw [hq a (Array.getElem?_eq_some_iff.mp h5).1 h10]; exact h5, h6, h7, h8, h9, h10⟩
theorem vx_L.narrow {C n d : String} {A B : Nat → Prop} {U : State} {H : Heap} (h : vx_L C n d A U H) (hAB : ∀ q, B q → A q) : vx_L C n d B U H := by
  obtain ⟨c, k, i, f, a, cell, h1, h2, h3, h4, h5, h6, h7, h8, h9, h10⟩ := h
  exact ⟨c, k, i, f, a, cell, h1, h2, h3, h4, h5, h6, h7, h8, h9, fun z => h10 (hAB _ z)⟩
theorem vx_L.word {C n d : String} {A : Nat → Prop} {s : State} {args : Array Value} (h : vx_L C n d A s s.heap) : (Cond.laysStatic C n d).before args s = true := by
  obtain ⟨c, k, i, f, a, cell, h1, h2, h3, h4, h5, h6, h7, h8, h9, -⟩ := h
  show (Cond.laysStatic C n d).holds args s none s [] = true
  exact Cond.laysStatic_of h1 h2 h3 h4 h5 h6 h7 h8 h9
/-- .. and what it holds: null or some reference -/
def vx_Zq (C n d : String) (A : Nat → Prop) (U : State) (H : Heap) : Prop := va_Zq C n d A U H ∧ vx_L C n d A U H
theorem vx_Zq.moved {C n d : String} {A : Nat → Prop} {u U : State} {H : Heap} (hvm : u.vm.Alike U.vm) (h : vx_Zq C n d A u H) : vx_Zq C n d A U H := ⟨va_Zq.moved hvm h.1, vx_L.moved hvm h.2⟩
theorem vx_Zq.kept {C n d : String} {A : Nat → Prop} {U : State} {H H1 : Heap} (h : vx_Zq C n d A U H) (hq : ∀ a : Nat, a < H.size → ¬ A a → H1[a]? = H[a]?) : vx_Zq C n d A U H1 := ⟨va_Zq.kept h.1 hq, vx_L.kept h.2 hq⟩
theorem vx_Zq.narrow {C n d : String} {A B : Nat → Prop} {U : State} {H : Heap} (h : vx_Zq C n d A U H) (hAB : ∀ q, B q → A q) : vx_Zq C n d B U H := ⟨va_Zq.narrow h.1 hAB, vx_L.narrow h.2 hAB⟩
theorem vx_Zqof {args : Array Value} {s : State} {C n d : String} {A : Nat → Prop} (hl : (Cond.laysStatic C n d).before args s = true) (hini : (Cond.initialized C).before args s = true) (h : (Cond.isRef (.static C n d)).before args s = true) (hA : ∀ a : Nat, a < s.heap.size → ¬ A a) : vx_Zq C n d A s s.heap := by
  refine ⟨va_Zqof hl hini h hA, ?_⟩
  obtain ⟨c, k, i, f, a, cell, h1, h2, h3, h4, h5, h6, h7, h8, h9⟩ := Cond.laysStatic_spec hl
  exact ⟨c, k, i, f, a, cell, h1, h2, h3, h4, h5, h6, h7, h8, h9, hA a (Array.getElem?_eq_some_iff.mp h5).1⟩
theorem vx_isRef {C n d : String} {v : Value} {A : Nat → Prop} {s : State} {args : Array Value} (h : va_Z C n d v A s s.heap) (hv : v.isRef = true) : (Cond.isRef (.static C n d)).before args s = true := by
  obtain ⟨cf, kf, fi, f, a, cell, h1, h2, h3, h4, h5, h6, h7, -⟩ := h
  have he : (Term.static C n d).eval args s none [] s = some v := by
    simp [Term.eval, State.fieldNamed?, h1, h2, h4, h5, h6, h7]
  simp only [Cond.before, Cond.holds, Cond.value, he]
  cases v <;> simp_all [Value.isRef]
theorem vx_isRefq {C n d : String} {A : Nat → Prop} {s : State} {args : Array Value} (h : va_Zq C n d A s s.heap) : (Cond.isRef (.static C n d)).before args s = true := by
  rcases h with h | ⟨t, h⟩
  · exact vx_isRef h rfl
  · exact vx_isRef h rfl
/-- the same frame, seen from here: as if the method were called anew in this heap -/
theorem vx_rebase {T : State} (X : Stand p l e R s m args below meth c T locs cells slots) {R' : Room} (hf : R'.frames ≤ R.frames) (hl : R'.locals ≤ R.locals) (hc : cells + R'.cells ≤ R.cells) (hs : slots + R'.slots ≤ R.slots) :
    Stand p l e R' ((T.setVm s.vm).setFrames (.invoking m args :: below)) m args below meth c T [] 0 0 := by
  have htop : (T.setVm s.vm).topJava?.isSome := X.here.top
  have hF : ((T.setVm s.vm).setFrames (.invoking m args :: below)).frames = .invoking m args :: below := State.frames_setFrames _ (State.cur_lt_of_top htop)
  obtain ⟨g₀, hg0⟩ := Option.isSome_iff_exists.mp htop
  obtain ⟨r, hr⟩ := State.topJava?_eq_some.mp hg0
  have hl9 : e.platform.stackLimits (T.setVm s.vm).me = e.platform.stackLimits s.me := X.limits
  have hb9 : (T.setVm s.vm).me.stackBytes = s.me.stackBytes := X.bytes
  refine ⟨X.admits, X.cas, X.clock, hF, ?_, X.hears, X.method, X.code, X.here, X.tail, X.warmed, ?_, ?_, ?_⟩
  · have h := X.room
    have hU : ((T.setVm s.vm).setFrames (.invoking m args :: below)).localsInUse = s.localsInUse := by
      rw [State.localsInUse_invoking hF (meth := meth) (c := c) X.method X.code, State.localsInUse_invoking X.frames X.method X.code]
    simp only [State.hasRoom, Bool.and_eq_true, decide_eq_true_eq] at h ⊢
    obtain ⟨⟨⟨⟨h1, h2, h3, h4, h5, h6⟩, h7⟩, h8⟩, h9⟩ := h
    rw [X.frames, List.length_cons] at h2 h3
    have q1 := X.heapSize
    have q2 := X.used
    simp only [hF, hU, List.length_cons, State.stackLimits_setFrames, State.stackBytes_setFrames, hl9, hb9]
    refine ⟨⟨⟨⟨by omega, by omega, by omega, by omega, by omega, h6⟩, ?_⟩, ?_⟩, X.book⟩
    · show T.heap.size + R'.cells ≤ e.platform.maxCells
      omega
    · show T.slotsUsed + R'.slots ≤ e.platform.maxSlots
      omega
  · rw [State.stackLimits_setFrames]; rfl
  · rw [State.stackBytes_setFrames]; rfl
  · refine ⟨?_, Nat.le_refl _, Nat.le_refl _, ?_, ?_, fun a c9 h9 => ⟨c9, h9, rfl, rfl, fun _ _ => rfl⟩⟩
    · obtain ⟨t, ht, -⟩ := State.frames_cons hr
      show T.setVm s.vm = { ((T.setVm s.vm).setFrames (.invoking m args :: below)).setFrames (T.setVm s.vm).frames with heap := T.heap, slotsUsed := T.slotsUsed }
      rw [State.setFrames_setFrames, State.setFrames_self ht]
      rfl
    · show T.slotsUsed = T.slotsUsed + ((T.heap.toList.drop T.heap.size).map (·.slots.size)).sum
      rw [List.drop_eq_nil_of_le (Nat.le_of_eq Array.length_toList)]
      rfl
    · show ((T.heap.toList.drop T.heap.size).map (·.slots.size)).sum ≤ 0
      rw [List.drop_eq_nil_of_le (Nat.le_of_eq Array.length_toList)]
      exact Nat.le_refl _
/-- 'throw new E()': new; dup; invokespecial; athrow -/
theorem vx_throw0 {cc : ByteArray} {pc : Nat} (hexec : p.tables.exec = Jvm.exec) (hb : c.code = cc) (hl : l.stackTraces = false) {own cls : String} {names : List String} {ik ic mc ms : Nat} {A : Nat → Prop}
    (hown : s.vm.findClass own = some m.cls) (hcls : Bundle.fit cls = true) (hnames : ∀ n ∈ names, Bundle.fit n = true)
    (hk : (Cond.classLink own ik cls).before args s = true) (hini : (Cond.initialized cls).before args s = true) (hat : ∀ w ∈ vx_at0 own ic cls names, w.before args s = true)
    (hgood : ∀ w ∈ Cond.classLink own ik cls :: Cond.initialized cls :: vx_at0 own ic cls names, vx_ot w = true)
    (hU : vx_Zq Bundle.tN "UNASSIGNED_STACK" Bundle.steD A s s.heap) (hN : vx_Zq Bundle.tN "SUPPRESSED_SENTINEL" Bundle.listD A s s.heap) (hS : va_S A s.heap H locs) (hsize : ls.size = c.maxLocals)
    (d0 : decode cc pc = .ok (.new ik, 3)) (d3 : decode cc (pc + 3) = .ok (.dup, 1)) (d4 : decode cc (pc + 4) = .ok (.invokespecial ic, 3)) (d7 : decode cc (pc + 7) = .ok (.athrow, 1))
    (hout : ∀ x ∈ c.exceptionTable.toList, covers x (pc + 7) = false)
    (hRframes : names.length + 3 < R.frames) (hRlocals : (rest.map fun v => v.category).sum + (13 * (names.length + 1) + 42) ≤ R.locals) (hRcells : cells + 1 ≤ R.cells) (hRslots : slots + 6 ≤ R.slots) (hlocks : meth.locks = false)
    (hx : ∀ t : State, s.vm.Alike t.vm → H.size ≤ t.heap.size → (∀ q : Nat, q < H.size → t.heap[q]? = H[q]?) → XC cls s t)
    (hf : ∀ z ∈ locs, free z.base) (hc : cells + 1 ≤ mc) (hs : slots + 6 ≤ ms) :
    W p l e R s m args below meth c H locs cells slots (vx_MQ below Qc XC args s mc ms free) (F0 m pc ls rest) := by
  intro T hT X
  have htr : e.platform.stackTraces = false := (show e.platform.stackTraces = l.stackTraces by rw [X.admits.platform]).trans hl
  have Y := vx_rebase X (R' := { frames := R.frames, locals := R.locals, cells := 1, slots := 6 }) (Nat.le_refl _) (Nat.le_refl _) hRcells hRslots
  obtain ⟨s', hA⟩ : ∃ z, z = (T.setVm s.vm).setFrames (.invoking m args :: below) := ⟨_, rfl⟩
  rw [← hA] at Y
  have hvm : s'.vm = s.vm := by rw [hA]; rfl
  have hhp : s'.heap = H := by rw [hA]; exact hT
  have hW0 : s.WarmedH s'.vm := by rw [hvm]; exact State.WarmedH.refl s
  have hat' : ∀ w ∈ vx_at0 own ic cls names, w.before args s' = true := fun w hw => vx_ot_at hW0 hvm.symm (hgood w (List.mem_cons_of_mem _ (List.mem_cons_of_mem _ hw))) (hat w hw)
  have hk' : (Cond.classLink own ik cls).before args s' = true := vx_ot_at hW0 hvm.symm (hgood _ List.mem_cons_self) hk
  have hini' : (Cond.initialized cls).before args s' = true := vx_ot_at hW0 hvm.symm (hgood _ (List.mem_cons_of_mem _ List.mem_cons_self)) hini
  have hU' : vx_Zq Bundle.tN "UNASSIGNED_STACK" Bundle.steD A s' s'.heap := by rw [hhp]; exact vx_Zq.moved hW0.alike (hU.kept hS.2.1)
  have hN' : vx_Zq Bundle.tN "SUPPRESSED_SENTINEL" Bundle.listD A s' s'.heap := by rw [hhp]; exact vx_Zq.moved hW0.alike (hN.kept hS.2.1)
  have h : ∀ w ∈ Bundle.ownAtoms0 own ic cls names, w.before args s' = true := vx_own hat' (vx_isRefq hU'.1) (vx_isRefq hN'.1) hU'.2.word hN'.2.word
  have hown' : s'.vm.findClass own = some m.cls := by rw [hvm]; exact hown
  have hins : (Cond.instantiable cls 6).before args s' = true := h _ (by simp [Bundle.ownAtoms0])
  obtain ⟨vm₁, cX, kX, hfX, hkX, -, -, X₁, st1⟩ := Y.newCold hexec (own := own) (C := cls) (index := ik) (n := 6) hown' hk' hins hini'
    (g := F0 m pc ls rest) rfl (by rw [hb]; exact d0) (Nat.le_refl _) (Nat.le_refl _)
  generalize hT1 : (T.setVm vm₁).pushCell { cls := cX, slots := kX.instanceTypes.map defaultValue, vm := .none } = T1 at X₁ st1
  have hcat : (Value.ref T.heap.size).category = 1 := rfl
  have hcellA : T1.heap[T.heap.size]? = some (freshCell cX kX) := by rw [← hT1]; exact State.heap_pushCell_size _ _
  have d3' : decode c.code (pc + 3) = .ok (.dup, 1) := by rw [hb]; exact d3
  obtain ⟨U, hsteps, hrun, hend, hW, hsame, ce, hce, hO⟩ := X₁.ctorThrow0 hexec htr (own := own) (cls := cls) (names := names) (ic := ic) hown' hcls hnames h (fun x hx => nomatch hx) hfX hkX hcellA (by rw [hhp, hT]; exact Nat.le_refl _)
    (g := { method := m, pc := pc + 4, locals := ls, stack := .ref T.heap.size :: .ref T.heap.size :: rest, locked := none }) rfl hsize rfl rfl (rest := rest) rfl
    (by rw [hb]; exact d4) (by rw [hb]; exact d7) hout hRframes (by simp only [List.map_cons, List.sum_cons, hcat]; omega) hlocks
  obtain ⟨f1, f2⟩ := vx_frame hsame
  rw [hhp] at f1 f2
  have hWs : s.WarmedH U.vm := State.WarmedH.trans hW0 hW
  have hcl : s.vm.findClass cls = some ce.cls := by
    have h9 := hO.cls
    rw [hvm] at h9
    exact h9
  have hall : s.sameButNew ({ U with vm := s.vm } : State) locs mc ms := by
    subst hA
    obtain ⟨e1, e2⟩ := hsame
    rw [State.setFrames_setFrames] at e1
    have h2 : (T.setVm s.vm).sameButNew ({ U with vm := s.vm } : State) [] (0 + 1) (0 + 6) := ⟨e1, e2⟩
    have h3 := X.same.trans h2
    rw [List.append_nil] at h3
    exact h3.mono hc hs
  refine ⟨U, ?_, .threw T.heap.size, hrun, hend, Or.inr ⟨T.heap.size, rfl, cls, ce, locs, hx U hWs.alike f1 (fun q hq => f2 q hq (fun z hz => nomatch hz)), hce, hO.vm, hcl, hWs, hall, hf⟩⟩
  refine st1 _ ?_
  show Steps p.tables e below (T1.setTop { method := m, pc := pc + 3, locals := ls, stack := .ref T.heap.size :: rest, locked := none }) _
  jvm_step X₁.here [X₁.here.top, hexec, d3', Value.category]
  exact hsteps
/-- 'throw new E("text")': new; dup; ldc; invokespecial; athrow -/
theorem vx_throwS {cc : ByteArray} {pc : Nat} (hexec : p.tables.exec = Jvm.exec) (hb : c.code = cc) (hl : l.stackTraces = false) {own cls text : String} {names : List String} {ik is ic mc ms sa : Nat} {A : Nat → Prop}
    (hown : s.vm.findClass own = some m.cls) (hcls : Bundle.fit cls = true) (hnames : ∀ n ∈ names, Bundle.fit n = true)
    (hk : (Cond.classLink own ik cls).before args s = true) (hini : (Cond.initialized cls).before args s = true) (hstr : vk_R own is text sa s) (hat : ∀ w ∈ vx_atS own ic cls names, w.before args s = true)
    (hgood : ∀ w ∈ Cond.classLink own ik cls :: Cond.initialized cls :: vx_atS own ic cls names, vx_ot w = true)
    (hU : vx_Zq Bundle.tN "UNASSIGNED_STACK" Bundle.steD A s s.heap) (hN : vx_Zq Bundle.tN "SUPPRESSED_SENTINEL" Bundle.listD A s s.heap) (hS : va_S A s.heap H locs) (hsize : ls.size = c.maxLocals)
    (d0 : decode cc pc = .ok (.new ik, 3)) (d3 : decode cc (pc + 3) = .ok (.dup, 1)) (d4 : decode cc (pc + 4) = .ok (.ldc is, 2)) (d6 : decode cc (pc + 6) = .ok (.invokespecial ic, 3)) (d9 : decode cc (pc + 9) = .ok (.athrow, 1))
    (hout : ∀ x ∈ c.exceptionTable.toList, covers x (pc + 9) = false)
    (hRframes : names.length + 3 < R.frames) (hRlocals : (rest.map fun v => v.category).sum + (13 * (names.length + 1) + 43) ≤ R.locals) (hRcells : cells + 1 ≤ R.cells) (hRslots : slots + 6 ≤ R.slots) (hlocks : meth.locks = false)
    (hx : ∀ t : State, s.vm.Alike t.vm → H.size ≤ t.heap.size → (∀ q : Nat, q < H.size → t.heap[q]? = H[q]?) → XC cls s t)
    (hf : ∀ z ∈ locs, free z.base) (hc : cells + 1 ≤ mc) (hs : slots + 6 ≤ ms) :
    W p l e R s m args below meth c H locs cells slots (vx_MQ below Qc XC args s mc ms free) (F0 m pc ls rest) := by
  intro T hT X
  have htr : e.platform.stackTraces = false := (show e.platform.stackTraces = l.stackTraces by rw [X.admits.platform]).trans hl
  have Y := vx_rebase X (R' := { frames := R.frames, locals := R.locals, cells := 1, slots := 6 }) (Nat.le_refl _) (Nat.le_refl _) hRcells hRslots
  obtain ⟨s', hA⟩ : ∃ z, z = (T.setVm s.vm).setFrames (.invoking m args :: below) := ⟨_, rfl⟩
  rw [← hA] at Y
  have hvm : s'.vm = s.vm := by rw [hA]; rfl
  have hhp : s'.heap = H := by rw [hA]; exact hT
  have hW0 : s.WarmedH s'.vm := by rw [hvm]; exact State.WarmedH.refl s
  have hat' : ∀ w ∈ vx_atS own ic cls names, w.before args s' = true := fun w hw => vx_ot_at hW0 hvm.symm (hgood w (List.mem_cons_of_mem _ (List.mem_cons_of_mem _ hw))) (hat w hw)
  have hk' : (Cond.classLink own ik cls).before args s' = true := vx_ot_at hW0 hvm.symm (hgood _ List.mem_cons_self) hk
  have hini' : (Cond.initialized cls).before args s' = true := vx_ot_at hW0 hvm.symm (hgood _ (List.mem_cons_of_mem _ List.mem_cons_self)) hini
  have hU' : vx_Zq Bundle.tN "UNASSIGNED_STACK" Bundle.steD A s' s'.heap := by rw [hhp]; exact vx_Zq.moved hW0.alike (hU.kept hS.2.1)
  have hN' : vx_Zq Bundle.tN "SUPPRESSED_SENTINEL" Bundle.listD A s' s'.heap := by rw [hhp]; exact vx_Zq.moved hW0.alike (hN.kept hS.2.1)
  have h : ∀ w ∈ Bundle.ownAtoms own ic cls names, w.before args s' = true := vx_own hat' (vx_isRefq hU'.1) (vx_isRefq hN'.1) hU'.2.word hN'.2.word
  have hown' : s'.vm.findClass own = some m.cls := by rw [hvm]; exact hown
  have hins : (Cond.instantiable cls 6).before args s' = true := h _ (by simp [Bundle.ownAtoms])
  obtain ⟨vm₁, cX, kX, hfX, hkX, -, -, X₁, st1⟩ := Y.newCold hexec (own := own) (C := cls) (index := ik) (n := 6) hown' hk' hins hini'
    (g := F0 m pc ls rest) rfl (by rw [hb]; exact d0) (Nat.le_refl _) (Nat.le_refl _)
  generalize hT1 : (T.setVm vm₁).pushCell { cls := cX, slots := kX.instanceTypes.map defaultValue, vm := .none } = T1 at X₁ st1
  have hcat : (Value.ref T.heap.size).category = 1 := rfl
  have hcellA : T1.heap[T.heap.size]? = some (freshCell cX kX) := by rw [← hT1]; exact State.heap_pushCell_size _ _
  have d3' : decode c.code (pc + 3) = .ok (.dup, 1) := by rw [hb]; exact d3
  have d4' : decode c.code (pc + 4) = .ok (.ldc is, 2) := by rw [hb]; exact d4
  have hstr' : vk_R own is text sa s' := vk_R.warm hW0 hstr
  obtain ⟨U, hsteps, hrun, hend, hW, hsame, ce, hce, hO⟩ := X₁.ctorThrowS hexec htr (own := own) (cls := cls) (names := names) (ic := ic) hown' hcls hnames h (fun x hx => nomatch hx) hfX hkX hcellA (by rw [hhp, hT]; exact Nat.le_refl _) (msg := .ref sa) rfl
    (g := { method := m, pc := pc + 6, locals := ls, stack := .ref sa :: .ref T.heap.size :: .ref T.heap.size :: rest, locked := none }) rfl hsize rfl rfl (rest := rest) rfl
    (by rw [hb]; exact d6) (by rw [hb]; exact d9) hout hRframes (by simp only [List.map_cons, List.sum_cons, hcat]; omega) hlocks
  obtain ⟨f1, f2⟩ := vx_frame hsame
  rw [hhp] at f1 f2
  have hWs : s.WarmedH U.vm := State.WarmedH.trans hW0 hW
  have hcl : s.vm.findClass cls = some ce.cls := by
    have h9 := hO.cls
    rw [hvm] at h9
    exact h9
  have hall : s.sameButNew ({ U with vm := s.vm } : State) locs mc ms := by
    subst hA
    obtain ⟨e1, e2⟩ := hsame
    rw [State.setFrames_setFrames] at e1
    have h2 : (T.setVm s.vm).sameButNew ({ U with vm := s.vm } : State) [] (0 + 1) (0 + 6) := ⟨e1, e2⟩
    have h3 := X.same.trans h2
    rw [List.append_nil] at h3
    exact h3.mono hc hs
  refine ⟨U, ?_, .threw T.heap.size, hrun, hend, Or.inr ⟨T.heap.size, rfl, cls, ce, locs, hx U hWs.alike f1 (fun q hq => f2 q hq (fun z hz => nomatch hz)), hce, hO.vm, hcl, hWs, hall, hf⟩⟩
  refine st1 _ ?_
  show Steps p.tables e below (T1.setTop { method := m, pc := pc + 3, locals := ls, stack := .ref T.heap.size :: rest, locked := none }) _
  jvm_step X₁.here [X₁.here.top, hexec, d3', Value.category]
  exact X₁.ldcString hexec (own := own) (text := text) (index := is) (a := sa) hown' hstr'.1 hstr'.2
    (g := { method := m, pc := pc + 4, locals := ls, stack := .ref T.heap.size :: .ref T.heap.size :: rest, locked := none }) rfl d4' _ hsteps
/-- 'throw new E("text")', the text by a wide index -/
theorem vx_throwSW {cc : ByteArray} {pc : Nat} (hexec : p.tables.exec = Jvm.exec) (hb : c.code = cc) (hl : l.stackTraces = false) {own cls text : String} {names : List String} {ik is ic mc ms sa : Nat} {A : Nat → Prop}
    (hown : s.vm.findClass own = some m.cls) (hcls : Bundle.fit cls = true) (hnames : ∀ n ∈ names, Bundle.fit n = true)
    (hk : (Cond.classLink own ik cls).before args s = true) (hini : (Cond.initialized cls).before args s = true) (hstr : vk_R own is text sa s) (hat : ∀ w ∈ vx_atS own ic cls names, w.before args s = true)
    (hgood : ∀ w ∈ Cond.classLink own ik cls :: Cond.initialized cls :: vx_atS own ic cls names, vx_ot w = true)
    (hU : vx_Zq Bundle.tN "UNASSIGNED_STACK" Bundle.steD A s s.heap) (hN : vx_Zq Bundle.tN "SUPPRESSED_SENTINEL" Bundle.listD A s s.heap) (hS : va_S A s.heap H locs) (hsize : ls.size = c.maxLocals)
    (d0 : decode cc pc = .ok (.new ik, 3)) (d3 : decode cc (pc + 3) = .ok (.dup, 1)) (d4 : decode cc (pc + 4) = .ok (.ldc_w is, 3)) (d7 : decode cc (pc + 7) = .ok (.invokespecial ic, 3)) (d10 : decode cc (pc + 10) = .ok (.athrow, 1))
    (hout : ∀ x ∈ c.exceptionTable.toList, covers x (pc + 10) = false)
    (hRframes : names.length + 3 < R.frames) (hRlocals : (rest.map fun v => v.category).sum + (13 * (names.length + 1) + 43) ≤ R.locals) (hRcells : cells + 1 ≤ R.cells) (hRslots : slots + 6 ≤ R.slots) (hlocks : meth.locks = false)
    (hx : ∀ t : State, s.vm.Alike t.vm → H.size ≤ t.heap.size → (∀ q : Nat, q < H.size → t.heap[q]? = H[q]?) → XC cls s t)
    (hf : ∀ z ∈ locs, free z.base) (hc : cells + 1 ≤ mc) (hs : slots + 6 ≤ ms) :
    W p l e R s m args below meth c H locs cells slots (vx_MQ below Qc XC args s mc ms free) (F0 m pc ls rest) := by
  intro T hT X
  have htr : e.platform.stackTraces = false := (show e.platform.stackTraces = l.stackTraces by rw [X.admits.platform]).trans hl
  have Y := vx_rebase X (R' := { frames := R.frames, locals := R.locals, cells := 1, slots := 6 }) (Nat.le_refl _) (Nat.le_refl _) hRcells hRslots
  obtain ⟨s', hA⟩ : ∃ z, z = (T.setVm s.vm).setFrames (.invoking m args :: below) := ⟨_, rfl⟩
  rw [← hA] at Y
  have hvm : s'.vm = s.vm := by rw [hA]; rfl
  have hhp : s'.heap = H := by rw [hA]; exact hT
  have hW0 : s.WarmedH s'.vm := by rw [hvm]; exact State.WarmedH.refl s
  have hat' : ∀ w ∈ vx_atS own ic cls names, w.before args s' = true := fun w hw => vx_ot_at hW0 hvm.symm (hgood w (List.mem_cons_of_mem _ (List.mem_cons_of_mem _ hw))) (hat w hw)
  have hk' : (Cond.classLink own ik cls).before args s' = true := vx_ot_at hW0 hvm.symm (hgood _ List.mem_cons_self) hk
  have hini' : (Cond.initialized cls).before args s' = true := vx_ot_at hW0 hvm.symm (hgood _ (List.mem_cons_of_mem _ List.mem_cons_self)) hini
  have hU' : vx_Zq Bundle.tN "UNASSIGNED_STACK" Bundle.steD A s' s'.heap := by rw [hhp]; exact vx_Zq.moved hW0.alike (hU.kept hS.2.1)
  have hN' : vx_Zq Bundle.tN "SUPPRESSED_SENTINEL" Bundle.listD A s' s'.heap := by rw [hhp]; exact vx_Zq.moved hW0.alike (hN.kept hS.2.1)
  have h : ∀ w ∈ Bundle.ownAtoms own ic cls names, w.before args s' = true := vx_own hat' (vx_isRefq hU'.1) (vx_isRefq hN'.1) hU'.2.word hN'.2.word
  have hown' : s'.vm.findClass own = some m.cls := by rw [hvm]; exact hown
  have hins : (Cond.instantiable cls 6).before args s' = true := h _ (by simp [Bundle.ownAtoms])
  obtain ⟨vm₁, cX, kX, hfX, hkX, -, -, X₁, st1⟩ := Y.newCold hexec (own := own) (C := cls) (index := ik) (n := 6) hown' hk' hins hini'
    (g := F0 m pc ls rest) rfl (by rw [hb]; exact d0) (Nat.le_refl _) (Nat.le_refl _)
  generalize hT1 : (T.setVm vm₁).pushCell { cls := cX, slots := kX.instanceTypes.map defaultValue, vm := .none } = T1 at X₁ st1
  have hcat : (Value.ref T.heap.size).category = 1 := rfl
  have hcellA : T1.heap[T.heap.size]? = some (freshCell cX kX) := by rw [← hT1]; exact State.heap_pushCell_size _ _
  have d3' : decode c.code (pc + 3) = .ok (.dup, 1) := by rw [hb]; exact d3
  have d4' : decode c.code (pc + 4) = .ok (.ldc_w is, 3) := by rw [hb]; exact d4
  have hstr' : vk_R own is text sa s' := vk_R.warm hW0 hstr
  obtain ⟨U, hsteps, hrun, hend, hW, hsame, ce, hce, hO⟩ := X₁.ctorThrowS hexec htr (own := own) (cls := cls) (names := names) (ic := ic) hown' hcls hnames h (fun x hx => nomatch hx) hfX hkX hcellA (by rw [hhp, hT]; exact Nat.le_refl _) (msg := .ref sa) rfl
    (g := { method := m, pc := pc + 7, locals := ls, stack := .ref sa :: .ref T.heap.size :: .ref T.heap.size :: rest, locked := none }) rfl hsize rfl rfl (rest := rest) rfl
    (by rw [hb]; exact d7) (by rw [hb]; exact d10) hout hRframes (by simp only [List.map_cons, List.sum_cons, hcat]; omega) hlocks
  obtain ⟨f1, f2⟩ := vx_frame hsame
  rw [hhp] at f1 f2
  have hWs : s.WarmedH U.vm := State.WarmedH.trans hW0 hW
  have hcl : s.vm.findClass cls = some ce.cls := by
    have h9 := hO.cls
    rw [hvm] at h9
    exact h9
  have hall : s.sameButNew ({ U with vm := s.vm } : State) locs mc ms := by
    subst hA
    obtain ⟨e1, e2⟩ := hsame
    rw [State.setFrames_setFrames] at e1
    have h2 : (T.setVm s.vm).sameButNew ({ U with vm := s.vm } : State) [] (0 + 1) (0 + 6) := ⟨e1, e2⟩
    have h3 := X.same.trans h2
    rw [List.append_nil] at h3
    exact h3.mono hc hs
  refine ⟨U, ?_, .threw T.heap.size, hrun, hend, Or.inr ⟨T.heap.size, rfl, cls, ce, locs, hx U hWs.alike f1 (fun q hq => f2 q hq (fun z hz => nomatch hz)), hce, hO.vm, hcl, hWs, hall, hf⟩⟩
  refine st1 _ ?_
  show Steps p.tables e below (T1.setTop { method := m, pc := pc + 3, locals := ls, stack := .ref T.heap.size :: rest, locked := none }) _
  jvm_step X₁.here [X₁.here.top, hexec, d3', Value.category]
  exact X₁.ldcStringW hexec (own := own) (text := text) (index := is) (a := sa) hown' hstr'.1 hstr'.2
    (g := { method := m, pc := pc + 4, locals := ls, stack := .ref T.heap.size :: .ref T.heap.size :: rest, locked := none }) rfl d4' _ hsteps
end Ends
section Bodies
variable {l : Launch}
theorem vx_ofW {y : MethodName} {ws ws' : List Cond} {rm : Room} {Pc : Array Value → State → Prop} {Qc : Array Value → State → Outcome → State → Prop} {XC : String → State → State → Prop} {mc ms : Nat} {free : Addr → Prop} {cc : ByteArray} {maxL : Nat} {ret : Option FieldType}
    (hy : plainName y.cls = true) (hw : ws = Cond.code y cc maxL ret :: ws')
    (body : ∀ p e s m args below meth c s₁, BodyLoose p l y (headSpec ws rm) cc maxL ret e s m args below meth c s₁ → c.maxLocals = maxL → (∀ x ∈ c.exceptionTable.toList, False) → Pc args s →
      W p l e (headSpec ws rm).room s m args below meth c s.heap [] 0 0 (vx_MQ below Qc XC args s mc ms free) (entryFrame m args maxL)) : vx_Met l y ws rm Pc Qc XC mc ms free := by
  refine MetFree.of_bodyS (code := cc) (maxLocals := maxL) (ret := ret) hy ?_ ?_
  · intro args s m h hn
    obtain ⟨meth, c, h1, h2, h3, h4, h5, h6, -, -⟩ := Cond.code_spec hn (atoms_spec (ws := ws) h _ (by rw [hw]; exact List.mem_cons_self))
    exact ⟨meth, c, h1, h2, h3, h4, h5, h6⟩
  · intro p e s m args below meth c s₁ B hml hP _
    have hh0 : s₁.heap = s.heap := by rw [B.state]; rfl
    have ht : ∀ x ∈ c.exceptionTable.toList, False := by
      obtain ⟨meth9, c9, h1, h2, -, -, -, -, h7, -⟩ := Cond.code_spec B.named (atoms_spec (ws := ws) B.pre _ (by rw [hw]; exact List.mem_cons_self))
      cases Option.some.inj (h1.symm.trans B.method)
      cases Option.some.inj (h2.symm.trans (Stand.of_body B).code)
      intro x hx
      rw [Array.isEmpty_iff.mp h7] at hx
      cases hx
    obtain ⟨t, a1, o, b1, b2, b3⟩ := body p e s m args below meth c s₁ B hml ht hP s₁ hh0 (Stand.of_body B)
    exact ⟨t, o, a1, b1, b2, b3⟩
/-- the table of a body with handlers -/
theorem vx_table {p : Program} {x y : MethodName} {S : Spec} {cc bytes : ByteArray} {maxL maxL' : Nat} {ret ret' : Option FieldType} {e : Env} {s s₁ : State} {m : MethodId} {args : Array Value} {below : List Frame} {meth : Method} {c : Code} {hh : List (Nat × Nat × Nat × Nat)}
    (B : BodyLoose p l y S cc maxL ret e s m args below meth c s₁) (h : (Cond.codeWith y bytes maxL' ret' hh).before args s = true) : c.exceptionTable.toList = tableOf hh := by
  obtain ⟨m9, meth9, c9, hn9, h1, h2, -, -, h6, -⟩ := Cond.codeWith_spec h
  cases Option.some.inj (hn9.symm.trans B.named)
  cases Option.some.inj (h1.symm.trans B.method)
  cases Option.some.inj (h2.symm.trans (Stand.of_body B).code)
  rw [← h6, table_eq]
end Bodies
end VXA
/-! ===== END ===== -/
/-! ===== BEGIN a static call of a method with an exception table ===== -/
section VXS
variable {p : Program} {l : Launch} {e : Env} {R : Room} {s : State} {m : MethodId} {args : Array Value} {below : List Frame} {meth : Method} {c : Code} {T : State} {H : Heap} {locs : List Loc} {cells slots : Nat}
abbrev vx_CSW (R : Room) (s : State) (args : Array Value) (own : String) (index : Nat) (y : MethodName) (bytes : ByteArray) (maxL : Nat) (ret : Option FieldType) (hh : List (Nat × Nat × Nat × Nat)) (ws : List Cond) (rm : Room) (mc ms n : Nat) : Prop :=
  (rm.cells = mc ∧ rm.slots = ms ∧ rm.frames + 1 ≤ R.frames ∧ 8 + (maxL + 11) + rm.locals ≤ R.locals ∧ (∀ w ∈ ws, ∀ (a' : Array Value) (U : State), s.WarmedH U.vm → w.before a' U = true) ∧ Cond.codeWith y bytes maxL ret hh ∈ ws) ∧
  (Cond.codeWith y bytes maxL ret hh).before args s = true ∧ (Cond.initialized y.cls).before args s = true ∧ (y.cls ≠ "java/lang/invoke/MethodHandle" ∧ y.cls ≠ "java/lang/invoke/VarHandle") ∧
  (∀ sig, parseMethodDescriptor y.desc = some sig → n = sig.parameters.length) ∧ (Cond.methodLink own index y).before args s = true ∧ (Cond.static y).before args s = true
theorem vx_cwSW {own : String} {index maxL mc ms : Nat} {y : MethodName} {bytes : ByteArray} {ret : Option FieldType} {hh : List (Nat × Nat × Nat × Nat)} {Ts ws ws' : List Cond} {rm : Room} (n : Nat) (ht : ∀ w ∈ Ts, w.before args s = true) (hT : GoodIn Ts (va_wsS own index y ws)) (hw : ws = Cond.codeWith y bytes maxL ret hh :: ws') (hrc : rm.cells = mc) (hrs : rm.slots = ms)
    (hd : y.cls ≠ "java/lang/invoke/MethodHandle" ∧ y.cls ≠ "java/lang/invoke/VarHandle" ∧ (parseMethodDescriptor y.desc).map (fun d => d.parameters.length) = some n) (hR : rm.frames + 1 ≤ R.frames ∧ 8 + (maxL + 11) + rm.locals ≤ R.locals) :
    vx_CSW R s args own index y bytes maxL ret hh ws rm mc ms n := by
  have ok : ∀ w ∈ va_wsS own index y ws, w.before args s = true := fun w h => ht w (hT w h).1
  have hG : GoodIn Ts ws := fun w h => hT w (by unfold va_wsS; exact List.mem_append_right _ h)
  have hc : Cond.codeWith y bytes maxL ret hh ∈ ws := by rw [hw]; exact List.mem_cons_self
  refine ⟨⟨hrc, hrs, hR.1, hR.2, pay_in ht hG, hc⟩, ht _ (hG _ hc).1, ok _ (by simp [va_wsS]), ⟨hd.1, hd.2.1⟩, fun sig h => ?_, ok _ (by simp [va_wsS]), ok _ (by simp [va_wsS])⟩
  have h2 := hd.2.2
  rw [h] at h2
  exact (Option.some.inj h2).symm
theorem vx_callSW (X : Stand p l e R s m args below meth c T locs cells slots) (hexec : p.tables.exec = Jvm.exec) {own : String} {index : Nat} {y : MethodName} {bytes : ByteArray} {maxL : Nat} {ret : Option FieldType} {hh : List (Nat × Nat × Nat × Nat)}
    (hown : s.vm.findClass own = some m.cls) (hlink : (Cond.methodLink own index y).before args s = true) (hstat : (Cond.static y).before args s = true) (hinit : (Cond.initialized y.cls).before args s = true)
    (hcode : (Cond.codeWith y bytes maxL ret hh).before args s = true) (hy : y.cls ≠ "java/lang/invoke/MethodHandle" ∧ y.cls ≠ "java/lang/invoke/VarHandle")
    {W9 : Nat} {Pre : Pt → Array Value → Prop} {Post : Pt → Array Value → Option Value → Pt → Prop} (hK : Back l R p e below s args y 3 W9 Pre Post)
    {g : JFrame} (hg : g.method = m) (hsize : g.locals.size = c.maxLocals) {argsL rest : List Value} (hlen : ∀ sig, parseMethodDescriptor y.desc = some sig → argsL.length = sig.parameters.length)
    (hstack : g.stack = argsL.reverse ++ rest) (hW : 2 * g.monitorRoom + (rest.map fun v => v.category).sum ≤ W9) (hdg : decode c.code g.pc = .ok (.invokestatic index, 3))
    (hpre : ∀ vm₁, s.WarmedH vm₁ → Pre ⟨T.setVm vm₁, locs, cells, slots⟩ argsL.toArray) :
    ∃ (v : Option Value) (vm₁ : Vm) (B : Pt), s.WarmedH vm₁ ∧ Stand p l e R s m args below meth c B.U B.locs B.cells B.slots ∧ Post ⟨T.setVm vm₁, locs, cells, slots⟩ argsL.toArray v B ∧
      ∀ target, Steps p.tables e below (B.U.setTop { g with pc := g.pc + 3, stack := v.toList ++ rest }) target → Steps p.tables e below (T.setTop g) target := by
  obtain ⟨mk, methM, cM, hnamed, hmethM, -, -, -, -, -, -, hsigM⟩ := Cond.codeWith_spec hcode
  have hstatic : methM.isStatic = true := Cond.static_spec hnamed hmethM hstat
  obtain ⟨kP, hkP, -⟩ := className_of_methodNamed hnamed
  have hinitP : kP.init = .initialized := Cond.initialized_spec (findClass_of_methodNamed hnamed) hkP hinit
  obtain ⟨vm₁, X₁, hstep₁⟩ := X.invokestatic hexec hown hlink hnamed hmethM hstatic hkP hinitP hy (g := g) hg (argsL := argsL) (rest := rest) (hlen _ hsigM) hstack hdg
  obtain ⟨v, B, X', hpost, hsteps⟩ := hK m meth c ⟨T.setVm vm₁, locs, cells, slots⟩ { g with stack := rest } (.invokestatic index) mk argsL.toArray X₁ hg hsize hdg hW (X₁.named hnamed) (hpre vm₁ X₁.warmed)
  exact ⟨v, vm₁, B, X₁.warmed, X', hpost, fun target h => hstep₁ _ fun acts => by rw [doInvoke_state]; exact hsteps.trans h⟩
theorem vx_runSW {y : MethodName} {bytes cc : ByteArray} {maxL nL mc ms n index : Nat} {ret : Option FieldType} {hh : List (Nat × Nat × Nat × Nat)} {ws : List Cond} {rm : Room} {Pc : Array Value → State → Prop} {Qc : Array Value → State → Outcome → State → Prop} {free : Addr → Prop} {Ts : List Cond} {own : String} {As rest : List Value} {g : JFrame}
    (S : CallFix p m c cc nL s args Ts own) (hM : Met l y ws rm Pc Qc mc ms free) (cw : vx_CSW R s args own index y bytes maxL ret hh ws rm mc ms n) (hp : PreS s H Pc As)
    (hg : g.method = m) (hn : As.length = n) (hsize : g.locals.size = nL) (hstack : g.stack = As.reverse ++ rest) (hW : 2 * g.monitorRoom + (rest.map fun v => v.category).sum ≤ 8) (hdg : decode cc g.pc = .ok (.invokestatic index, 3)) (hf : cells + mc ≤ R.cells ∧ slots + ms ≤ R.slots) :
    va_Run p l e R s m args below meth c H locs cells slots mc ms g rest (Qc As.toArray) (free) := by
  obtain ⟨⟨hrc, hrs, hfr, hlo, hws, hcw⟩, hcode, hini, hy, hlen, hl, hstt⟩ := cw
  have hK : Back l R p e below s args y 3 8 (PreOf R mc ms Pc) (PostOf Qc mc ms free) := va_backW (hh := hh) (bytes := bytes) (maxL := maxL) (ret := ret) hM hp.1 hrc hrs hfr hlo hws hcw (fun a' U hW => word_at hW (Or.inl (by first | rfl | simp [Cond.onTables, Cond.keeps, Cond.steady])) hini)
  obtain ⟨hx, hb, hml, ho, -⟩ := S
  intro T hT X
  obtain ⟨v, vm₁, ⟨U', l2, c2, s2⟩, hW₁, X', ⟨g', mk, t, L, e1, e2, hq, h1, hL, h2, h3⟩, st⟩ := vx_callSW X hx (hh := hh) (bytes := bytes) (maxL := maxL) (ret := ret) ho hl hstt hini hcode hy hK hg (hsize.trans hml.symm) (argsL := As) (rest := rest) (fun sig h => hn.trans (hlen sig h)) hstack hW (by rw [hb]; exact hdg)
    (fun vm₁ hW₁ => ⟨hf.1, hf.2, hp.2 (T.setVm vm₁) hT hW₁⟩)
  dsimp only [Pt.U, Pt.locs, Pt.cells, Pt.slots] at X' e1 e2 h1 h2 h3 st
  subst h1; subst h2; subst h3
  exact ⟨v, (T.setVm vm₁).calling g' mk As.toArray, t, U', L, hT, X', hL, e1, e2, hq, st⟩
/-- not caught here, past rows that name other classes: it goes on to the caller -/
theorem vx_outP {p : Program} {l : Launch} {e : Env} {R : Room} {s : State} {m : MethodId} {args : Array Value} {below : List Frame} {meth : Method} {c : Code} {H : Heap} {locs : List Loc} {cells slots : Nat} {free : Addr → Prop} {ls : Array Slot} {rest : List Value} {Qc : Array Value → State → Outcome → State → Prop} {XC : String → State → State → Prop}
    {pc : Nat} {own E : String} {ce : Cell} {q : Addr} {mc ms : Nat} (hown : s.vm.findClass own = some m.cls) (hlocks : meth.locks = false)
    (hpass : ∀ z ∈ c.exceptionTable.toList, covers z pc = false ∨ (z.catchType ≠ 0 ∧ ∃ nm : String, (Cond.classLink own z.catchType nm).before args s = true ∧ va_Nc E nm s)) (hcell : H[q]? = some ce) (hv : ce.vm = .none) (hcl : s.vm.findClass E = some ce.cls)
    (hx : ∀ t : State, t.heap = H → s.vm.Alike t.vm → XC E s t) (hf : ∀ z ∈ locs, free z.base) (hc : cells ≤ mc) (hs : slots ≤ ms) :
    vx_W p l e R s m args below meth c H locs cells slots (vx_MQ below Qc XC args s mc ms free) (F0 m pc ls rest) q := by
  intro T hT X
  have hpl : e.platform.magicAccessors = ({} : Platform).magicAccessors := by rw [X.admits.platform]
  obtain ⟨vm', hW', X', st⟩ := X.outThrough hlocks q (g := F0 m pc ls rest) rfl rfl rfl (cell := ce) (by rw [hT]; exact hcell) (by rw [hv]; rfl)
    (by obtain ⟨k9, h9, -⟩ := Vm.findClass_spec hcl; exact ⟨k9, h9⟩) (fun z hz => by
      rcases hpass z hz with h | ⟨hz0, nm, hl1, hn1⟩
      · exact Or.inl h
      · obtain ⟨c6, hc6, hcl6⟩ := Cond.classLink_spec hown hl1 e.platform hpl
        obtain ⟨a8, b8, h1, h2, h3⟩ := hn1
        cases Option.some.inj (h1.symm.trans hcl)
        cases Option.some.inj (h2.symm.trans hc6)
        exact Or.inr ⟨hz0, _, hcl6, h3⟩)
  obtain ⟨g₀, hfr⟩ := X'.frames_eq
  have hcell9 : ((T.setVm vm').setFrames (.throwing q :: below)).heap[q]? = some ce := by
    show T.heap[q]? = some ce
    rw [hT]; exact hcell
  have hend : Ended ((T.setVm vm').setFrames (.throwing q :: below)) below (.threw q) := State.frames_setFrames _ (State.cur_lt_of_frames hfr)
  refine ⟨(T.setVm vm').setFrames (.throwing q :: below), ?_, .threw q, X'.here.running, hend, Or.inr ⟨q, rfl, E, ce, locs, hx _ hT (X'.ends _).1.alike, hcell9, hv, hcl, (X'.ends _).1, (X'.ends _).2.mono hc hs, hf⟩⟩
  rw [X.pushThrowing_eq]
  exact st
/-- a thing of a world lies in the heap -/
theorem vx_lt {D : va_G} {cl : List vw_C} {ws : va_W} {H1 : Heap} (h : va_P D cl ws H1) {k : Nat} {q : Nat × va_E} (hk : ws[k]? = some q) : q.1 < H1.size := (h k q hk).lt
end VXS
/-! ===== END ===== -/
/-! ===== BEGIN methods with a table of their own: called by a name, returning or throwing ===== -/
section VXH
/-! vx_backW, vx_callVX, vx_callSX, vx_callVW, vx_runVW, vx_runVX, vx_runSX, vx_ofWH follow the same proofs as their sisters above (Free/Laws.lean, Shelf42/LK1.lean); vx_outP calls Shelf42/NT130.lean (outThrough). -/
section
variable {l : Launch} {R : Room} {p : Program} {e : Env} {below : List Frame} {s : State} {sargs : Array Value} {y : MethodName} {len W9 : Nat}
theorem vx_backW {ws : List Cond} {rm : Room} {Pc : Array Value → State → Prop} {Qc : Array Value → State → Outcome → State → Prop} {XC : String → State → State → Prop} {mc ms : Nat} {free : Addr → Prop} {bytes : ByteArray} {maxL : Nat} {ret : Option FieldType} {hh : List (Nat × Nat × Nat × Nat)}
    (hM : vx_Met l y ws rm Pc Qc XC mc ms free) (hblind : FrameBlind Pc) (hrc : rm.cells = mc) (hrs : rm.slots = ms)
    (hframes : rm.frames + 1 ≤ R.frames) (hlocals : W9 + (maxL + 11) + rm.locals ≤ R.locals)
    (hws : ∀ w ∈ ws, ∀ a' U, s.WarmedH U.vm → w.before a' U = true) (hcode : Cond.codeWith y bytes maxL ret hh ∈ ws) (hinit : ∀ a' U, s.WarmedH U.vm → (Cond.initialized y.cls).before a' U = true) :
    vx_Back l R p e below s sargs y len W9 (PreOf R mc ms Pc) (PostOf Qc mc ms free) (vx_Post XC mc ms free) := by
  intro m meth c A g ig mk a X hg hsize hdg hW hn hp
  have h1 : (headSpec ws rm).pre.before a A.U = true := atoms_intro fun w hw => hws w hw _ _ X.warmed
  have h2 : (Cond.codeWith y bytes maxL ret hh).before a A.U = true := hws _ hcode _ _ X.warmed
  have h3 : (Cond.initialized y.cls).before a A.U = true := hinit _ _ X.warmed
  have h4 : A.cells + (headSpec ws rm).room.cells ≤ R.cells := by rw [show (headSpec ws rm).room.cells = mc from hrc]; exact hp.1
  have h5 : A.slots + (headSpec ws rm).room.slots ≤ R.slots := by rw [show (headSpec ws rm).room.slots = ms from hrs]; exact hp.2.1
  have hPc : Pc a (A.U.calling g mk a) := hblind _ _ _ _ hp.2.2
  obtain ⟨U, Ls, c0, s0⟩ := A
  dsimp only [Pt.U, Pt.locs, Pt.cells, Pt.slots] at h1 h2 h3 h4 h5 X hn hPc ⊢
  obtain ⟨m9, methY, cY, hn9, hmY, hcY, -, hlY, -⟩ := Cond.codeWith_spec h2
  cases Option.some.inj (hn9.symm.trans hn)
  obtain ⟨kY, hkY, -⟩ := className_of_methodNamed hn
  have hinitY : kY.init = .initialized := Cond.initialized_spec (findClass_of_methodNamed hn) hkY h3
  have h : At U g.method c below := by rw [hg]; exact X.here
  have hlocals9 : W9 + (maxL + 11) + (headSpec ws rm).room.locals ≤ R.locals := hlocals
  have happ : (headSpec ws rm).appliesLoose y e.platform (U.calling g mk a) = true :=
    Spec.appliesLoose_calling (g := g) h hdg hn hkY hinitY
      (X.room_calling (g := g) (R' := (headSpec ws rm).room) hsize hmY hcY hframes (by rw [hlY]; omega) h4 h5) h1
  obtain ⟨mid, hmid⟩ := h.above
  have hfr : (U.setTop g).frames = (.java g :: mid) ++ below := by rw [State.frames_setTop' g h.top, hmid]; rfl
  obtain ⟨o, s₂, hsteps, -, hend, hq⟩ := Steps.callFree hM p X.admits X.cas X.clock (acts := []) hfr happ hPc trivial
  have hq' : vx_Q Qc XC mc ms free a (U.calling g mk a) o s₂ := hq
  rw [State.frames_setTop' g h.top] at hend
  obtain ⟨g₀, hg0⟩ := Option.isSome_iff_exists.mp h.top
  obtain ⟨r, hr⟩ := State.topJava?_eq_some.mp hg0
  have hr' : (({ U with heap := s₂.heap, slotsUsed := s₂.slotsUsed } : State).setVm s₂.vm).frames = .java g₀ :: r := hr
  rcases hq' with ⟨hqc, L, hfe, hL⟩ | ⟨q, rfl, E, ce, L, hx, hce, hcv, hcl, hW₂, hsm, hL⟩
  · obtain ⟨⟨v, rfl⟩, hW₂, e2, q2, q3, q4, q5, q6⟩ := id hfe
    have e3 : s₂ = ({ (U.calling g mk a).setFrames s₂.frames with heap := s₂.heap, slotsUsed := s₂.slotsUsed } : State).setVm s₂.vm := by
      have : s₂ = ({ s₂ with vm := (U.calling g mk a).vm } : State).setVm s₂.vm := rfl
      rw [e2] at this
      exact this
    obtain ⟨c₂, i₂, len₂, hc₂, hd₂, hf₂⟩ := hend
    have hW' : U.WarmedH s₂.vm := hW₂
    have hcc : c₂ = c := by
      have h1 : s₂.code? g.method = U.code? g.method := by
        rw [State.code?_eq, State.code?_eq, hW'.alike.method?]
      exact Option.some.inj (hc₂.symm.trans (h1.trans h.code))
    subst hcc
    have hlen : len₂ = len := by rw [hdg] at hd₂; cases hd₂; rfl
    subst hlen
    have hs₂ : s₂ = (({ U with heap := s₂.heap, slotsUsed := s₂.slotsUsed } : State).setVm s₂.vm).setTop { g with pc := g.pc + len₂, stack := v.toList ++ g.stack } := by
      refine e3.trans ?_
      rw [hf₂, State.calling_eq h.top, State.setFrames_setFrames, State.setTop_of_frames _ hr', hr]
      rfl
    have hsame : U.sameButNew ({ U with heap := s₂.heap, slotsUsed := s₂.slotsUsed } : State) L mc ms := by
      refine ⟨?_, q2, q3, q4, q5, q6⟩
      obtain ⟨t, ht, -⟩ := State.frames_cons hr
      show ({ U with heap := s₂.heap, slotsUsed := s₂.slotsUsed } : State) = { U.setFrames U.frames with heap := s₂.heap, slotsUsed := s₂.slotsUsed }
      rw [State.setFrames_self ht]
    subst hg
    refine Or.inl ⟨v, ⟨(({ U with heap := s₂.heap, slotsUsed := s₂.slotsUsed } : State).setVm s₂.vm), Ls ++ L, c0 + mc, s0 + ms⟩,
      ⟨X.admits, X.cas, X.clock, X.frames, X.room, X.hears, X.method, X.code, (X.here.setHeapUsed s₂.heap s₂.slotsUsed).setVm hW'.alike, X.tail, State.WarmedH.trans X.warmed hW', X.limits, X.bytes, X.same.trans (hsame.setVm s.vm)⟩,
      ⟨g, mk, s₂, L, rfl, rfl, hqc, rfl, hL, rfl, rfl⟩, ?_⟩
    show Steps p.tables e below _ ((({ U with heap := s₂.heap, slotsUsed := s₂.slotsUsed } : State).setVm s₂.vm).setTop { g with pc := g.pc + len₂, stack := v.toList ++ g.stack })
    rw [← hs₂]
    exact hsteps
  · obtain ⟨e2, q2, q3, q4, q5, q6⟩ := id hsm
    have e3 : s₂ = ({ (U.calling g mk a).setFrames s₂.frames with heap := s₂.heap, slotsUsed := s₂.slotsUsed } : State).setVm s₂.vm := by
      have : s₂ = ({ s₂ with vm := (U.calling g mk a).vm } : State).setVm s₂.vm := rfl
      rw [e2] at this
      exact this
    have hf₂ : s₂.frames = .throwing q :: .java g :: U.frames.tail := hend
    have hW' : U.WarmedH s₂.vm := hW₂
    have hs₂ : s₂ = ((({ U with heap := s₂.heap, slotsUsed := s₂.slotsUsed } : State).setVm s₂.vm).setTop g).pushFrame (.throwing q) := by
      refine e3.trans ?_
      rw [hf₂, State.calling_eq h.top, State.setFrames_setFrames, State.pushFrame, State.frames_setTop _ hr', State.setTop_of_frames _ hr', State.setFrames_setFrames, hr]
      rfl
    have hsame : U.sameButNew ({ U with heap := s₂.heap, slotsUsed := s₂.slotsUsed } : State) L mc ms := by
      refine ⟨?_, q2, q3, q4, q5, q6⟩
      obtain ⟨t, ht, -⟩ := State.frames_cons hr
      show ({ U with heap := s₂.heap, slotsUsed := s₂.slotsUsed } : State) = { U.setFrames U.frames with heap := s₂.heap, slotsUsed := s₂.slotsUsed }
      rw [State.setFrames_self ht]
    subst hg
    refine Or.inr ⟨q, ⟨(({ U with heap := s₂.heap, slotsUsed := s₂.slotsUsed } : State).setVm s₂.vm), Ls ++ L, c0 + mc, s0 + ms⟩,
      ⟨X.admits, X.cas, X.clock, X.frames, X.room, X.hears, X.method, X.code, (X.here.setHeapUsed s₂.heap s₂.slotsUsed).setVm hW'.alike, X.tail, State.WarmedH.trans X.warmed hW', X.limits, X.bytes, X.same.trans (hsame.setVm s.vm)⟩,
      ⟨g, mk, s₂, L, E, ce, rfl, rfl, hx, hce, hcv, hcl, rfl, hL, rfl, rfl⟩, ?_⟩
    show Steps p.tables e below _ (((({ U with heap := s₂.heap, slotsUsed := s₂.slotsUsed } : State).setVm s₂.vm).setTop g).pushFrame (.throwing q))
    rw [← hs₂]
    exact hsteps
end
variable {p : Program} {l : Launch} {e : Env} {R : Room} {s : State} {m : MethodId} {args : Array Value} {below : List Frame} {meth : Method} {c : Code} {T : State} {H : Heap} {locs : List Loc} {cells slots : Nat}
theorem vx_callVX (X : Stand p l e R s m args below meth c T locs cells slots) (hexec : p.tables.exec = Jvm.exec) {own C : String} {index : Nat} {y : MethodName} {bytes : ByteArray} {maxL : Nat} {ret : Option FieldType} {hh : List (Nat × Nat × Nat × Nat)}
    (hown : s.vm.findClass own = some m.cls) (hlink : (Cond.methodLink own index y).before args s = true) (hinst : (Cond.instanceMethod y).before args s = true) (hsel : (Cond.selects C y y).before args s = true)
    (hcode : (Cond.codeWith y bytes maxL ret hh).before args s = true) (hy : y.cls ≠ "java/lang/invoke/MethodHandle" ∧ y.cls ≠ "java/lang/invoke/VarHandle")
    {W9 : Nat} {Pre : Pt → Array Value → Prop} {Post : Pt → Array Value → Option Value → Pt → Prop} {PostX : Pt → Array Value → Addr → Pt → Prop} (hK : vx_Back l R p e below s args y 3 W9 Pre Post PostX)
    {b : Addr} {cellB : Cell} (hcell : T.heap[b]? = some cellB) (hobj : cellB.vm.isStatics = false) (hcls : s.vm.findClass C = some cellB.cls)
    {g : JFrame} (hg : g.method = m) (hsize : g.locals.size = c.maxLocals) {argsL rest : List Value} (hlen : ∀ sig, parseMethodDescriptor y.desc = some sig → argsL.length = sig.parameters.length)
    (hstack : g.stack = argsL.reverse ++ .ref b :: rest) (hW : 2 * g.monitorRoom + (rest.map fun v => v.category).sum ≤ W9) (hdg : decode c.code g.pc = .ok (.invokevirtual index, 3))
    (hpre : ∀ vm₁, s.WarmedH vm₁ → Pre ⟨T.setVm vm₁, locs, cells, slots⟩ (Value.ref b :: argsL).toArray) :
    (∃ (v : Option Value) (vm₁ : Vm) (B : Pt), s.WarmedH vm₁ ∧ Stand p l e R s m args below meth c B.U B.locs B.cells B.slots ∧ Post ⟨T.setVm vm₁, locs, cells, slots⟩ (Value.ref b :: argsL).toArray v B ∧
      ∀ target, Steps p.tables e below (B.U.setTop { g with pc := g.pc + 3, stack := v.toList ++ rest }) target → Steps p.tables e below (T.setTop g) target) ∨
    (∃ (q : Addr) (vm₁ : Vm) (B : Pt), s.WarmedH vm₁ ∧ Stand p l e R s m args below meth c B.U B.locs B.cells B.slots ∧ PostX ⟨T.setVm vm₁, locs, cells, slots⟩ (Value.ref b :: argsL).toArray q B ∧
      Steps p.tables e below (T.setTop g) ((B.U.setTop { g with stack := rest }).pushFrame (.throwing q))) := by
  obtain ⟨mk, methM, hnamed, hmethM, hstM, habM⟩ := Cond.instanceMethod_spec hinst
  obtain ⟨m8, methM', cM, hn8, hmethM', -, -, -, -, -, -, hsigM⟩ := Cond.codeWith_spec hcode
  cases Option.some.inj (hn8.symm.trans hnamed)
  cases hmethM.symm.trans hmethM'
  obtain ⟨c2, r2, m2, q1, q2, q3, q4, kP, hkP, hkPi⟩ := Cond.selects_spec hsel
  cases hcls.symm.trans q1
  cases (State.methodFound?_of_named hnamed hy).symm.trans q2
  cases hnamed.symm.trans q3
  have hselP : selectMethod e.platform s.vm cellB.cls mk = .method mk := by rw [Launch.admits_selectMethod X.admits]; exact q4
  obtain ⟨vm₁, X₁, hstep₁⟩ := X.invokevirtual hexec hown hlink hnamed hmethM hstM hkP hkPi hy (a := b) (cell := cellB) hcell
    (fun z h => by rw [h] at hobj; cases hobj) hselP hmethM habM hkP hkPi (g := g) hg (argsL := argsL) (rest := rest) (hlen _ hsigM) hstack hdg
  rcases hK m meth c ⟨T.setVm vm₁, locs, cells, slots⟩ { g with stack := rest } (.invokevirtual index) mk (Value.ref b :: argsL).toArray X₁ hg hsize hdg hW (X₁.named hnamed) (hpre vm₁ X₁.warmed) with ⟨v, B, X', hpost, hsteps⟩ | ⟨q, B, X', hpost, hsteps⟩
  · exact Or.inl ⟨v, vm₁, B, X₁.warmed, X', hpost, fun target h => hstep₁ _ fun acts => by rw [doInvoke_state]; exact hsteps.trans h⟩
  · exact Or.inr ⟨q, vm₁, B, X₁.warmed, X', hpost, hstep₁ _ fun acts => by rw [doInvoke_state]; exact hsteps⟩
theorem vx_callSX (X : Stand p l e R s m args below meth c T locs cells slots) (hexec : p.tables.exec = Jvm.exec) {own : String} {index : Nat} {y : MethodName} {bytes : ByteArray} {maxL : Nat} {ret : Option FieldType} {hh : List (Nat × Nat × Nat × Nat)}
    (hown : s.vm.findClass own = some m.cls) (hlink : (Cond.methodLink own index y).before args s = true) (hstat : (Cond.static y).before args s = true) (hinit : (Cond.initialized y.cls).before args s = true)
    (hcode : (Cond.codeWith y bytes maxL ret hh).before args s = true) (hy : y.cls ≠ "java/lang/invoke/MethodHandle" ∧ y.cls ≠ "java/lang/invoke/VarHandle")
    {W9 : Nat} {Pre : Pt → Array Value → Prop} {Post : Pt → Array Value → Option Value → Pt → Prop} {PostX : Pt → Array Value → Addr → Pt → Prop} (hK : vx_Back l R p e below s args y 3 W9 Pre Post PostX)
    {g : JFrame} (hg : g.method = m) (hsize : g.locals.size = c.maxLocals) {argsL rest : List Value} (hlen : ∀ sig, parseMethodDescriptor y.desc = some sig → argsL.length = sig.parameters.length)
    (hstack : g.stack = argsL.reverse ++ rest) (hW : 2 * g.monitorRoom + (rest.map fun v => v.category).sum ≤ W9) (hdg : decode c.code g.pc = .ok (.invokestatic index, 3))
    (hpre : ∀ vm₁, s.WarmedH vm₁ → Pre ⟨T.setVm vm₁, locs, cells, slots⟩ argsL.toArray) :
    (∃ (v : Option Value) (vm₁ : Vm) (B : Pt), s.WarmedH vm₁ ∧ Stand p l e R s m args below meth c B.U B.locs B.cells B.slots ∧ Post ⟨T.setVm vm₁, locs, cells, slots⟩ argsL.toArray v B ∧
      ∀ target, Steps p.tables e below (B.U.setTop { g with pc := g.pc + 3, stack := v.toList ++ rest }) target → Steps p.tables e below (T.setTop g) target) ∨
    (∃ (q : Addr) (vm₁ : Vm) (B : Pt), s.WarmedH vm₁ ∧ Stand p l e R s m args below meth c B.U B.locs B.cells B.slots ∧ PostX ⟨T.setVm vm₁, locs, cells, slots⟩ argsL.toArray q B ∧
      Steps p.tables e below (T.setTop g) ((B.U.setTop { g with stack := rest }).pushFrame (.throwing q))) := by
  obtain ⟨mk, methM, cM, hnamed, hmethM, -, -, -, -, -, -, hsigM⟩ := Cond.codeWith_spec hcode
  have hstatic : methM.isStatic = true := Cond.static_spec hnamed hmethM hstat
  obtain ⟨kP, hkP, -⟩ := className_of_methodNamed hnamed
  have hinitP : kP.init = .initialized := Cond.initialized_spec (findClass_of_methodNamed hnamed) hkP hinit
  obtain ⟨vm₁, X₁, hstep₁⟩ := X.invokestatic hexec hown hlink hnamed hmethM hstatic hkP hinitP hy (g := g) hg (argsL := argsL) (rest := rest) (hlen _ hsigM) hstack hdg
  rcases hK m meth c ⟨T.setVm vm₁, locs, cells, slots⟩ { g with stack := rest } (.invokestatic index) mk argsL.toArray X₁ hg hsize hdg hW (X₁.named hnamed) (hpre vm₁ X₁.warmed) with ⟨v, B, X', hpost, hsteps⟩ | ⟨q, B, X', hpost, hsteps⟩
  · exact Or.inl ⟨v, vm₁, B, X₁.warmed, X', hpost, fun target h => hstep₁ _ fun acts => by rw [doInvoke_state]; exact hsteps.trans h⟩
  · exact Or.inr ⟨q, vm₁, B, X₁.warmed, X', hpost, hstep₁ _ fun acts => by rw [doInvoke_state]; exact hsteps⟩
theorem vx_callVW (X : Stand p l e R s m args below meth c T locs cells slots) (hexec : p.tables.exec = Jvm.exec) {own C : String} {index : Nat} {y : MethodName} {bytes : ByteArray} {maxL : Nat} {ret : Option FieldType} {hh : List (Nat × Nat × Nat × Nat)}
    (hown : s.vm.findClass own = some m.cls) (hlink : (Cond.methodLink own index y).before args s = true) (hinst : (Cond.instanceMethod y).before args s = true) (hsel : (Cond.selects C y y).before args s = true)
    (hcode : (Cond.codeWith y bytes maxL ret hh).before args s = true) (hy : y.cls ≠ "java/lang/invoke/MethodHandle" ∧ y.cls ≠ "java/lang/invoke/VarHandle")
    {W9 : Nat} {Pre : Pt → Array Value → Prop} {Post : Pt → Array Value → Option Value → Pt → Prop} (hK : Back l R p e below s args y 3 W9 Pre Post)
    {b : Addr} {cellB : Cell} (hcell : T.heap[b]? = some cellB) (hobj : cellB.vm.isStatics = false) (hcls : s.vm.findClass C = some cellB.cls)
    {g : JFrame} (hg : g.method = m) (hsize : g.locals.size = c.maxLocals) {argsL rest : List Value} (hlen : ∀ sig, parseMethodDescriptor y.desc = some sig → argsL.length = sig.parameters.length)
    (hstack : g.stack = argsL.reverse ++ .ref b :: rest) (hW : 2 * g.monitorRoom + (rest.map fun v => v.category).sum ≤ W9) (hdg : decode c.code g.pc = .ok (.invokevirtual index, 3))
    (hpre : ∀ vm₁, s.WarmedH vm₁ → Pre ⟨T.setVm vm₁, locs, cells, slots⟩ (Value.ref b :: argsL).toArray) :
    ∃ (v : Option Value) (vm₁ : Vm) (B : Pt), s.WarmedH vm₁ ∧ Stand p l e R s m args below meth c B.U B.locs B.cells B.slots ∧ Post ⟨T.setVm vm₁, locs, cells, slots⟩ (Value.ref b :: argsL).toArray v B ∧
      ∀ target, Steps p.tables e below (B.U.setTop { g with pc := g.pc + 3, stack := v.toList ++ rest }) target → Steps p.tables e below (T.setTop g) target := by
  obtain ⟨mk, methM, hnamed, hmethM, hstM, habM⟩ := Cond.instanceMethod_spec hinst
  obtain ⟨m8, methM', cM, hn8, hmethM', -, -, -, -, -, -, hsigM⟩ := Cond.codeWith_spec hcode
  cases Option.some.inj (hn8.symm.trans hnamed)
  cases hmethM.symm.trans hmethM'
  obtain ⟨c2, r2, m2, q1, q2, q3, q4, kP, hkP, hkPi⟩ := Cond.selects_spec hsel
  cases hcls.symm.trans q1
  cases (State.methodFound?_of_named hnamed hy).symm.trans q2
  cases hnamed.symm.trans q3
  have hselP : selectMethod e.platform s.vm cellB.cls mk = .method mk := by rw [Launch.admits_selectMethod X.admits]; exact q4
  obtain ⟨vm₁, X₁, hstep₁⟩ := X.invokevirtual hexec hown hlink hnamed hmethM hstM hkP hkPi hy (a := b) (cell := cellB) hcell
    (fun z h => by rw [h] at hobj; cases hobj) hselP hmethM habM hkP hkPi (g := g) hg (argsL := argsL) (rest := rest) (hlen _ hsigM) hstack hdg
  obtain ⟨v, B, X', hpost, hsteps⟩ := hK m meth c ⟨T.setVm vm₁, locs, cells, slots⟩ { g with stack := rest } (.invokevirtual index) mk (Value.ref b :: argsL).toArray X₁ hg hsize hdg hW (X₁.named hnamed) (hpre vm₁ X₁.warmed)
  exact ⟨v, vm₁, B, X₁.warmed, X', hpost, fun target h => hstep₁ _ fun acts => by rw [doInvoke_state]; exact hsteps.trans h⟩
abbrev vx_CVW (R : Room) (s : State) (args : Array Value) (own C : String) (index : Nat) (y : MethodName) (bytes : ByteArray) (maxL : Nat) (ret : Option FieldType) (hh : List (Nat × Nat × Nat × Nat)) (ws : List Cond) (rm : Room) (mc ms n : Nat) : Prop :=
  (rm.cells = mc ∧ rm.slots = ms ∧ rm.frames + 1 ≤ R.frames ∧ 8 + (maxL + 11) + rm.locals ≤ R.locals ∧ (∀ w ∈ ws, ∀ (a' : Array Value) (U : State), s.WarmedH U.vm → w.before a' U = true) ∧ Cond.codeWith y bytes maxL ret hh ∈ ws) ∧
  (Cond.codeWith y bytes maxL ret hh).before args s = true ∧ (Cond.initialized y.cls).before args s = true ∧ (y.cls ≠ "java/lang/invoke/MethodHandle" ∧ y.cls ≠ "java/lang/invoke/VarHandle") ∧
  (∀ sig, parseMethodDescriptor y.desc = some sig → n = sig.parameters.length) ∧ (Cond.methodLink own index y).before args s = true ∧ (Cond.instanceMethod y).before args s = true ∧ (Cond.selects C y y).before args s = true
theorem vx_cwVW {own C : String} {index maxL mc ms : Nat} {y : MethodName} {bytes : ByteArray} {ret : Option FieldType} {hh : List (Nat × Nat × Nat × Nat)} {Ts ws ws' : List Cond} {rm : Room} (n : Nat) (ht : ∀ w ∈ Ts, w.before args s = true) (hT : GoodIn Ts (wsV own index C y ws)) (hw : ws = Cond.codeWith y bytes maxL ret hh :: ws') (hrc : rm.cells = mc) (hrs : rm.slots = ms)
    (hd : y.cls = C ∧ y.cls ≠ "java/lang/invoke/MethodHandle" ∧ y.cls ≠ "java/lang/invoke/VarHandle" ∧ (parseMethodDescriptor y.desc).map (fun d => d.parameters.length) = some n) (hR : rm.frames + 1 ≤ R.frames ∧ 8 + (maxL + 11) + rm.locals ≤ R.locals) :
    vx_CVW R s args own C index y bytes maxL ret hh ws rm mc ms n := by
  obtain ⟨hC, hd⟩ := hd
  subst hC
  have ok : ∀ w ∈ wsV own index y.cls y ws, w.before args s = true := fun w h => ht w (hT w h).1
  have hG : GoodIn Ts ws := fun w h => hT w (by unfold wsV; exact List.mem_append_right _ h)
  have hc : Cond.codeWith y bytes maxL ret hh ∈ ws := by rw [hw]; exact List.mem_cons_self
  refine ⟨⟨hrc, hrs, hR.1, hR.2, pay_in ht hG, hc⟩, ht _ (hG _ hc).1, ok _ (by simp [wsV]), ⟨hd.1, hd.2.1⟩, fun sig h => ?_, ok _ (by simp [wsV]), ok _ (by simp [wsV]), ok _ (by simp [wsV])⟩
  have h2 := hd.2.2
  rw [h] at h2
  exact (Option.some.inj h2).symm
theorem vx_runVW {y : MethodName} {bytes cc : ByteArray} {maxL nL mc ms n index : Nat} {ret : Option FieldType} {hh : List (Nat × Nat × Nat × Nat)} {ws : List Cond} {rm : Room} {Pc : Array Value → State → Prop} {Qc : Array Value → State → Outcome → State → Prop} {free : Addr → Prop} {Ts : List Cond} {own C : String} {b : Addr} {As rest : List Value} {g : JFrame}
    (S : CallFix p m c cc nL s args Ts own) (hM : Met l y ws rm Pc Qc mc ms free) (cw : vx_CVW R s args own C index y bytes maxL ret hh ws rm mc ms n) (hp : PreV s H C b Pc As)
    (hg : g.method = m) (hn : As.length = n) (hsize : g.locals.size = nL) (hstack : g.stack = As.reverse ++ .ref b :: rest) (hW : 2 * g.monitorRoom + (rest.map fun v => v.category).sum ≤ 8) (hdg : decode cc g.pc = .ok (.invokevirtual index, 3)) (hf : cells + mc ≤ R.cells ∧ slots + ms ≤ R.slots) :
    va_Run p l e R s m args below meth c H locs cells slots mc ms g rest (Qc (Value.ref b :: As).toArray) free := by
  obtain ⟨⟨hrc, hrs, hfr, hlo, hws, hcw⟩, hcode, hini, hy, hlen, hl, hin, hse⟩ := cw
  have hK : Back l R p e below s args y 3 8 (PreOf R mc ms Pc) (PostOf Qc mc ms free) := va_backW (hh := hh) (bytes := bytes) (maxL := maxL) (ret := ret) hM hp.1 hrc hrs hfr hlo hws hcw (fun a' U hW => word_at hW (Or.inl (by first | rfl | simp [Cond.onTables, Cond.keeps, Cond.steady])) hini)
  obtain ⟨hx, hb, hml, ho, -⟩ := S
  obtain ⟨-, ⟨cellB, hcB, hoB, hclB⟩, hPc⟩ := hp
  intro T hT X
  obtain ⟨v, vm₁, ⟨U', l2, c2, s2⟩, hW₁, X', ⟨g', mk, t, L, e1, e2, hq, h1, hL, h2, h3⟩, st⟩ := vx_callVW X hx (C := C) (hh := hh) (bytes := bytes) (maxL := maxL) (ret := ret) ho hl hin hse hcode hy hK (by rw [hT]; exact hcB) hoB hclB hg (hsize.trans hml.symm) (argsL := As) (rest := rest) (fun sig h => hn.trans (hlen sig h)) hstack hW (by rw [hb]; exact hdg)
    (fun vm₁ hW₁ => ⟨hf.1, hf.2, hPc (T.setVm vm₁) hT hW₁⟩)
  dsimp only [Pt.U, Pt.locs, Pt.cells, Pt.slots] at X' e1 e2 h1 h2 h3 st
  subst h1; subst h2; subst h3
  exact ⟨v, (T.setVm vm₁).calling g' mk (Value.ref b :: As).toArray, t, U', L, hT, X', hL, e1, e2, hq, st⟩
section
variable {y : MethodName} {bytes cc : ByteArray} {maxL nL mc ms n index : Nat} {ret : Option FieldType} {ws : List Cond} {rm : Room} {Pc : Array Value → State → Prop} {Qc : Array Value → State → Outcome → State → Prop} {XC : String → State → State → Prop} {free : Addr → Prop} {Ts : List Cond} {own C : String} {b : Addr} {As rest : List Value} {g : JFrame}
theorem vx_runVX {hh : List (Nat × Nat × Nat × Nat)} (S : CallFix p m c cc nL s args Ts own) (hM : vx_Met l y ws rm Pc Qc XC mc ms free) (cw : vx_CVW R s args own C index y bytes maxL ret hh ws rm mc ms n) (hp : PreV s H C b Pc As)
    (hg : g.method = m) (hn : As.length = n) (hsize : g.locals.size = nL) (hstack : g.stack = As.reverse ++ .ref b :: rest) (hW : 2 * g.monitorRoom + (rest.map fun v => v.category).sum ≤ 8) (hdg : decode cc g.pc = .ok (.invokevirtual index, 3)) (hf : cells + mc ≤ R.cells ∧ slots + ms ≤ R.slots) :
    vx_Run p l e R s m args below meth c H locs cells slots mc ms g rest (Qc (Value.ref b :: As).toArray) XC free := by
  obtain ⟨⟨hrc, hrs, hfr, hlo, hws, hcw⟩, hcode, hini, hy, hlen, hl, hin, hse⟩ := cw
  have hK : vx_Back l R p e below s args y 3 8 (PreOf R mc ms Pc) (PostOf Qc mc ms free) (vx_Post XC mc ms free) := vx_backW (hh := hh) (bytes := bytes) (maxL := maxL) (ret := ret) hM hp.1 hrc hrs hfr hlo hws hcw (fun a' U hW => word_at hW (Or.inl (by first | rfl | simp [Cond.onTables, Cond.keeps, Cond.steady])) hini)
  obtain ⟨hx, hb, hml, ho, -⟩ := S
  obtain ⟨-, ⟨cellB, hcB, hoB, hclB⟩, hPc⟩ := hp
  intro T hT X
  rcases vx_callVX X hx (C := C) (hh := hh) (bytes := bytes) (maxL := maxL) (ret := ret) ho hl hin hse hcode hy hK (by rw [hT]; exact hcB) hoB hclB hg (hsize.trans hml.symm) (argsL := As) (rest := rest) (fun sig h => hn.trans (hlen sig h)) hstack hW (by rw [hb]; exact hdg)
    (fun vm₁ hW₁ => ⟨hf.1, hf.2, hPc (T.setVm vm₁) hT hW₁⟩) with ⟨v, vm₁, ⟨U', l2, c2, s2⟩, hW₁, X', ⟨g', mk, t, L, e1, e2, hq, h1, hL, h2, h3⟩, st⟩ | ⟨q, vm₁, ⟨U', l2, c2, s2⟩, hW₁, X', ⟨g', mk, t, L, E, ce, e1, e2, hq, hce, hcv, hcl, h1, hL, h2, h3⟩, st⟩
  · dsimp only [Pt.U, Pt.locs, Pt.cells, Pt.slots] at X' e1 e2 h1 h2 h3 st
    subst h1; subst h2; subst h3
    exact Or.inl ⟨v, (T.setVm vm₁).calling g' mk (Value.ref b :: As).toArray, t, U', L, hT, X', hL, e1, e2, hq, st⟩
  · dsimp only [Pt.U, Pt.locs, Pt.cells, Pt.slots] at X' e1 e2 h1 h2 h3 st hcl
    subst h1; subst h2; subst h3
    exact Or.inr ⟨q, (T.setVm vm₁).calling g' mk (Value.ref b :: As).toArray, t, U', L, E, ce, hT, X', hL, e1, e2, hq, hce, hcv, vx_cls hW₁ hcl, st⟩
theorem vx_runSX {hh : List (Nat × Nat × Nat × Nat)} (S : CallFix p m c cc nL s args Ts own) (hM : vx_Met l y ws rm Pc Qc XC mc ms free) (cw : vx_CSW R s args own index y bytes maxL ret hh ws rm mc ms n) (hp : PreS s H Pc As)
    (hg : g.method = m) (hn : As.length = n) (hsize : g.locals.size = nL) (hstack : g.stack = As.reverse ++ rest) (hW : 2 * g.monitorRoom + (rest.map fun v => v.category).sum ≤ 8) (hdg : decode cc g.pc = .ok (.invokestatic index, 3)) (hf : cells + mc ≤ R.cells ∧ slots + ms ≤ R.slots) :
    vx_Run p l e R s m args below meth c H locs cells slots mc ms g rest (Qc As.toArray) XC free := by
  obtain ⟨⟨hrc, hrs, hfr, hlo, hws, hcw⟩, hcode, hini, hy, hlen, hl, hstt⟩ := cw
  have hK : vx_Back l R p e below s args y 3 8 (PreOf R mc ms Pc) (PostOf Qc mc ms free) (vx_Post XC mc ms free) := vx_backW (hh := hh) (bytes := bytes) (maxL := maxL) (ret := ret) hM hp.1 hrc hrs hfr hlo hws hcw (fun a' U hW => word_at hW (Or.inl (by first | rfl | simp [Cond.onTables, Cond.keeps, Cond.steady])) hini)
  obtain ⟨hx, hb, hml, ho, -⟩ := S
  intro T hT X
  rcases vx_callSX X hx (hh := hh) (bytes := bytes) (maxL := maxL) (ret := ret) ho hl hstt hini hcode hy hK hg (hsize.trans hml.symm) (argsL := As) (rest := rest) (fun sig h => hn.trans (hlen sig h)) hstack hW (by rw [hb]; exact hdg)
    (fun vm₁ hW₁ => ⟨hf.1, hf.2, hp.2 (T.setVm vm₁) hT hW₁⟩) with ⟨v, vm₁, ⟨U', l2, c2, s2⟩, hW₁, X', ⟨g', mk, t, L, e1, e2, hq, h1, hL, h2, h3⟩, st⟩ | ⟨q, vm₁, ⟨U', l2, c2, s2⟩, hW₁, X', ⟨g', mk, t, L, E, ce, e1, e2, hq, hce, hcv, hcl, h1, hL, h2, h3⟩, st⟩
  · dsimp only [Pt.U, Pt.locs, Pt.cells, Pt.slots] at X' e1 e2 h1 h2 h3 st
    subst h1; subst h2; subst h3
    exact Or.inl ⟨v, (T.setVm vm₁).calling g' mk As.toArray, t, U', L, hT, X', hL, e1, e2, hq, st⟩
  · dsimp only [Pt.U, Pt.locs, Pt.cells, Pt.slots] at X' e1 e2 h1 h2 h3 st hcl
    subst h1; subst h2; subst h3
    exact Or.inr ⟨q, (T.setVm vm₁).calling g' mk As.toArray, t, U', L, E, ce, hT, X', hL, e1, e2, hq, hce, hcv, vx_cls hW₁ hcl, st⟩
end
end VXH
theorem vx_ofWH {l : Launch} {y : MethodName} {ws ws' : List Cond} {rm : Room} {Pc : Array Value → State → Prop} {Qc : Array Value → State → Outcome → State → Prop} {XC : String → State → State → Prop} {mc ms : Nat} {free : Addr → Prop} {cc : ByteArray} {maxL : Nat} {ret : Option FieldType} {hh : List (Nat × Nat × Nat × Nat)}
    (hy : plainName y.cls = true) (hw : ws = Cond.codeWith y cc maxL ret hh :: ws')
    (body : ∀ p e s m args below meth c s₁, BodyLoose p l y (headSpec ws rm) cc maxL ret e s m args below meth c s₁ → c.maxLocals = maxL → Pc args s →
      W p l e (headSpec ws rm).room s m args below meth c s.heap [] 0 0 (vx_MQ below Qc XC args s mc ms free) (entryFrame m args maxL)) : vx_Met l y ws rm Pc Qc XC mc ms free := by
  refine MetFree.of_bodyS (code := cc) (maxLocals := maxL) (ret := ret) hy ?_ ?_
  · intro args s m h hn
    obtain ⟨m9, meth, c, hn9, h1, h2, h3, h4, -, h5, h6, -⟩ := Cond.codeWith_spec (atoms_spec (ws := ws) h _ (by rw [hw]; exact List.mem_cons_self))
    cases hn.symm.trans hn9
    exact ⟨meth, c, h1, h2, h3, h4, h5, h6⟩
  · intro p e s m args below meth c s₁ B hml hP _
    have hh0 : s₁.heap = s.heap := by rw [B.state]; rfl
    obtain ⟨t, a1, o, b1, b2, b3⟩ := body p e s m args below meth c s₁ B hml hP s₁ hh0 (Stand.of_body B)
    exact ⟨t, o, a1, b1, b2, b3⟩
/-! ===== END ===== -/

/-! ===== BEGIN printed: names, fields, word lists, decode rows ===== -/
def RX0 : String := "DrumTalk$Land"
def TX0 : u_T := fun k => match k with
  | 0 => ("DrumTalk$Land", "villages", "[LDrumTalk$Village;", true)
  | 1 => ("DrumTalk$Land", "villageCount", "I", false)
  | 2 => ("DrumTalk$Land", "tones", "[I", true)
  | 3 => ("DrumTalk$Land", "toneCounts", "[I", true)
  | 4 => ("DrumTalk$Land", "phraseCount", "I", false)
  | 5 => ("DrumTalk$Land", "beat", "I", false)
  | _ => ("DrumTalk$Land", "drummings", "I", false)
def tyX0 : Nat → FieldType := fun k => match k with
  | 0 => .array (.object "DrumTalk$Village")
  | 1 => .int
  | 2 => .array .int
  | 3 => .array .int
  | 4 => .int
  | 5 => .int
  | _ => .int
abbrev wsX00 : List Cond := u_ws RX0 TX0 7
theorem nmX0 : ∀ a, a < 7 → ∀ b, b < 7 → a ≠ b → (TX0 a).2.1 ≠ (TX0 b).2.1 := by decide +kernel
theorem tyX0_ok : ∀ k, k < 7 → parseFieldDescriptor (TX0 k).2.2.1 = some (tyX0 k) := by decide +kernel
abbrev cX0_init : ByteArray := prog_2_method_1_code
def yX0_init : MethodName := ⟨RX0, "<init>", "()V"⟩
abbrev cX0_copy : ByteArray := prog_2_method_2_code
def yX0_copy : MethodName := ⟨RX0, "copy", "(LDrumTalk$Land;)V"⟩
abbrev cX0_hasVillageAt : ByteArray := prog_2_method_3_code
def yX0_hasVillageAt : MethodName := ⟨RX0, "hasVillageAt", "(II)Z"⟩
abbrev cX0_addVillage : ByteArray := prog_2_method_4_code
def yX0_addVillage : MethodName := ⟨RX0, "addVillage", "(III)I"⟩
abbrev cX0_hasPhrase : ByteArray := prog_2_method_5_code
def yX0_hasPhrase : MethodName := ⟨RX0, "hasPhrase", "(I)Z"⟩
abbrev cX0_addPhrase : ByteArray := prog_2_method_6_code
def yX0_addPhrase : MethodName := ⟨RX0, "addPhrase", "(II)I"⟩
abbrev cX0_figure : ByteArray := prog_2_method_7_code
def yX0_figure : MethodName := ⟨RX0, "figure", "(I)I"⟩
abbrev cX0_drummers : ByteArray := prog_2_method_8_code
def yX0_drummers : MethodName := ⟨RX0, "drummers", "()I"⟩
abbrev cX0_soundsInTheAir : ByteArray := prog_2_method_9_code
def yX0_soundsInTheAir : MethodName := ⟨RX0, "soundsInTheAir", "()I"⟩
abbrev cX0_soundsDrowned : ByteArray := prog_2_method_10_code
def yX0_soundsDrowned : MethodName := ⟨RX0, "soundsDrowned", "()I"⟩
abbrev cX0_knownPairs : ByteArray := prog_2_method_11_code
def yX0_knownPairs : MethodName := ⟨RX0, "knownPairs", "()I"⟩
abbrev cX0_knowersOf : ByteArray := prog_2_method_12_code
def yX0_knowersOf : MethodName := ⟨RX0, "knowersOf", "(I)I"⟩
abbrev cX0_hearersOf : ByteArray := prog_2_method_13_code
def yX0_hearersOf : MethodName := ⟨RX0, "hearersOf", "(I)I"⟩
abbrev cX0_letGo : ByteArray := prog_2_method_14_code
def yX0_letGo : MethodName := ⟨RX0, "letGo", "(I)I"⟩
abbrev cX0_isQuiet : ByteArray := prog_2_method_15_code
def yX0_isQuiet : MethodName := ⟨RX0, "isQuiet", "()Z"⟩
abbrev cX0_goBeat : ByteArray := prog_2_method_16_code
def yX0_goBeat : MethodName := ⟨RX0, "goBeat", "()I"⟩
abbrev cX0_beginDrumming : ByteArray := prog_2_method_17_code
def yX0_beginDrumming : MethodName := ⟨RX0, "beginDrumming", "(I)V"⟩
def RX1 : String := "DrumTalk$Sounds"
def TX1 : u_T := fun k => match k with
  | 0 => ("DrumTalk$Sounds", "phrases", "[I", true)
  | 1 => ("DrumTalk$Sounds", "firstBeats", "[I", true)
  | 2 => ("DrumTalk$Sounds", "lastBeats", "[I", true)
  | 3 => ("DrumTalk$Sounds", "drowned", "[I", true)
  | _ => ("DrumTalk$Sounds", "size", "I", false)
def tyX1 : Nat → FieldType := fun k => match k with
  | 0 => .array .int
  | 1 => .array .int
  | 2 => .array .int
  | 3 => .array .int
  | _ => .int
abbrev wsX10 : List Cond := u_ws RX1 TX1 5
theorem nmX1 : ∀ a, a < 5 → ∀ b, b < 5 → a ≠ b → (TX1 a).2.1 ≠ (TX1 b).2.1 := by decide +kernel
theorem tyX1_ok : ∀ k, k < 5 → parseFieldDescriptor (TX1 k).2.2.1 = some (tyX1 k) := by decide +kernel
abbrev cX1_init : ByteArray := prog_3_method_1_code
def yX1_init : MethodName := ⟨RX1, "<init>", "()V"⟩
abbrev cX1_copy : ByteArray := prog_3_method_2_code
def yX1_copy : MethodName := ⟨RX1, "copy", "(LDrumTalk$Sounds;)V"⟩
abbrev cX1_add : ByteArray := prog_3_method_3_code
def yX1_add : MethodName := ⟨RX1, "add", "(III)V"⟩
abbrev cX1_move : ByteArray := prog_3_method_4_code
def yX1_move : MethodName := ⟨RX1, "move", "(II)V"⟩
abbrev cX1_lasting : ByteArray := prog_3_method_5_code
def yX1_lasting : MethodName := ⟨RX1, "lasting", "(I)I"⟩
abbrev cX1_drown : ByteArray := prog_3_method_6_code
def yX1_drown : MethodName := ⟨RX1, "drown", "(I)V"⟩
def RX2 : String := "DrumTalk$Village"
def TX2 : u_T := fun k => match k with
  | 0 => ("DrumTalk$Village", "x", "I", false)
  | 1 => ("DrumTalk$Village", "y", "I", false)
  | 2 => ("DrumTalk$Village", "drum", "I", false)
  | 3 => ("DrumTalk$Village", "cliff", "Z", false)
  | 4 => ("DrumTalk$Village", "awakeFrom", "I", false)
  | 5 => ("DrumTalk$Village", "awakeBeats", "I", false)
  | 6 => ("DrumTalk$Village", "drumming", "I", false)
  | 7 => ("DrumTalk$Village", "beatsLeft", "I", false)
  | 8 => ("DrumTalk$Village", "queue", "[I", true)
  | 9 => ("DrumTalk$Village", "queued", "I", false)
  | 10 => ("DrumTalk$Village", "knownSince", "[I", true)
  | 11 => ("DrumTalk$Village", "inTheAir", "LDrumTalk$Sounds;", true)
  | _ => ("DrumTalk$Village", "drowned", "I", false)
def tyX2 : Nat → FieldType := fun k => match k with
  | 0 => .int
  | 1 => .int
  | 2 => .int
  | 3 => .boolean
  | 4 => .int
  | 5 => .int
  | 6 => .int
  | 7 => .int
  | 8 => .array .int
  | 9 => .int
  | 10 => .array .int
  | 11 => .object "DrumTalk$Sounds"
  | _ => .int
abbrev wsX20 : List Cond := u_ws RX2 TX2 13
theorem nmX2 : ∀ a, a < 13 → ∀ b, b < 13 → a ≠ b → (TX2 a).2.1 ≠ (TX2 b).2.1 := by decide +kernel
theorem tyX2_ok : ∀ k, k < 13 → parseFieldDescriptor (TX2 k).2.2.1 = some (tyX2 k) := by decide +kernel
abbrev cX2_init : ByteArray := prog_4_method_1_code
def yX2_init : MethodName := ⟨RX2, "<init>", "()V"⟩
abbrev cX2_copy : ByteArray := prog_4_method_2_code
def yX2_copy : MethodName := ⟨RX2, "copy", "(LDrumTalk$Village;)V"⟩
abbrev cX2_figure : ByteArray := prog_4_method_3_code
def yX2_figure : MethodName := ⟨RX2, "figure", "(II)I"⟩
abbrev cX2_isAwake : ByteArray := prog_4_method_4_code
def yX2_isAwake : MethodName := ⟨RX2, "isAwake", "(I)Z"⟩
abbrev cX2_isDrumming : ByteArray := prog_4_method_5_code
def yX2_isDrumming : MethodName := ⟨RX2, "isDrumming", "()Z"⟩
abbrev cX2_isReady : ByteArray := prog_4_method_6_code
def yX2_isReady : MethodName := ⟨RX2, "isReady", "(I)Z"⟩
abbrev cX2_distanceTo : ByteArray := prog_4_method_7_code
def yX2_distanceTo : MethodName := ⟨RX2, "distanceTo", "(LDrumTalk$Village;)I"⟩
abbrev cX2_isHeardAt : ByteArray := prog_4_method_8_code
def yX2_isHeardAt : MethodName := ⟨RX2, "isHeardAt", "(I)Z"⟩
abbrev cX2_isKnown : ByteArray := prog_4_method_9_code
def yX2_isKnown : MethodName := ⟨RX2, "isKnown", "(I)Z"⟩
abbrev cX2_phrasesKnown : ByteArray := prog_4_method_10_code
def yX2_phrasesKnown : MethodName := ⟨RX2, "phrasesKnown", "()I"⟩
abbrev cX2_takeIn : ByteArray := prog_4_method_11_code
def yX2_takeIn : MethodName := ⟨RX2, "takeIn", "(II)V"⟩
abbrev cX2_takeFromQueue : ByteArray := prog_4_method_12_code
def yX2_takeFromQueue : MethodName := ⟨RX2, "takeFromQueue", "()I"⟩
abbrev cX2_drownIfDisturbed : ByteArray := prog_4_method_13_code
def yX2_drownIfDisturbed : MethodName := ⟨RX2, "drownIfDisturbed", "(I)V"⟩
abbrev cX2_endSounds : ByteArray := prog_4_method_14_code
def yX2_endSounds : MethodName := ⟨RX2, "endSounds", "(I)I"⟩
abbrev cX2_endDrumBeat : ByteArray := prog_4_method_15_code
def yX2_endDrumBeat : MethodName := ⟨RX2, "endDrumBeat", "()V"⟩
def RX3 : String := "DrumTalk"
def TX3 : u_T := fun k => match k with
  | 0 => ("DrumTalk", "land", "LDrumTalk$Land;", true)
  | _ => ("DrumTalk", "trial", "LDrumTalk$Land;", true)
def tyX3 : Nat → FieldType := fun k => match k with
  | 0 => .object "DrumTalk$Land"
  | _ => .object "DrumTalk$Land"
abbrev wsX30 : List Cond := u_ws RX3 TX3 2
theorem nmX3 : ∀ a, a < 2 → ∀ b, b < 2 → a ≠ b → (TX3 a).2.1 ≠ (TX3 b).2.1 := by decide +kernel
theorem tyX3_ok : ∀ k, k < 2 → parseFieldDescriptor (TX3 k).2.2.1 = some (tyX3 k) := by decide +kernel
abbrev cX3_init : ByteArray := prog_1_method_1_code
def yX3_init : MethodName := ⟨RX3, "<init>", "()V"⟩
abbrev cX3_found : ByteArray := prog_1_method_2_code
def yX3_found : MethodName := ⟨RX3, "found", "(III)I"⟩
abbrev cX3_setDrum : ByteArray := prog_1_method_3_code
def yX3_setDrum : MethodName := ⟨RX3, "setDrum", "(II)I"⟩
abbrev cX3_setCliff : ByteArray := prog_1_method_4_code
def yX3_setCliff : MethodName := ⟨RX3, "setCliff", "(IZ)Z"⟩
abbrev cX3_setAwake : ByteArray := prog_1_method_5_code
def yX3_setAwake : MethodName := ⟨RX3, "setAwake", "(III)I"⟩
abbrev cX3_phrase : ByteArray := prog_1_method_6_code
def yX3_phrase : MethodName := ⟨RX3, "phrase", "(I)I"⟩
abbrev cX3_tell : ByteArray := prog_1_method_7_code
def yX3_tell : MethodName := ⟨RX3, "tell", "(II)I"⟩
abbrev cX3_village : ByteArray := prog_1_method_8_code
def yX3_village : MethodName := ⟨RX3, "village", "(II)I"⟩
abbrev cX3_queue : ByteArray := prog_1_method_9_code
def yX3_queue : MethodName := ⟨RX3, "queue", "(II)I"⟩
abbrev cX3_knows : ByteArray := prog_1_method_10_code
def yX3_knows : MethodName := ⟨RX3, "knows", "(II)I"⟩
abbrev cX3_sounds : ByteArray := prog_1_method_11_code
def yX3_sounds : MethodName := ⟨RX3, "sounds", "(I)I"⟩
abbrev cX3_count : ByteArray := prog_1_method_12_code
def yX3_count : MethodName := ⟨RX3, "count", "(I)I"⟩
abbrev cX3_way : ByteArray := prog_1_method_13_code
def yX3_way : MethodName := ⟨RX3, "way", "(II)I"⟩
abbrev cX3_pass : ByteArray := prog_1_method_14_code
def yX3_pass : MethodName := ⟨RX3, "pass", "(I)I"⟩
abbrev cX3_reaches : ByteArray := prog_1_method_15_code
def yX3_reaches : MethodName := ⟨RX3, "reaches", "(II)I"⟩
abbrev cX3_best : ByteArray := prog_1_method_16_code
def yX3_best : MethodName := ⟨RX3, "best", "(II)I"⟩
abbrev cX3_larger : ByteArray := prog_1_method_17_code
def yX3_larger : MethodName := ⟨RX3, "larger", "(I)I"⟩
abbrev cX3_known : ByteArray := prog_1_method_18_code
def yX3_known : MethodName := ⟨RX3, "known", "()D"⟩
abbrev cX3_digest : ByteArray := prog_1_method_19_code
def yX3_digest : MethodName := ⟨RX3, "digest", "()J"⟩
abbrev cX3_isPlace : ByteArray := prog_1_method_20_code
def yX3_isPlace : MethodName := ⟨RX3, "isPlace", "(I)Z"⟩
abbrev cX3_isDrum : ByteArray := prog_1_method_21_code
def yX3_isDrum : MethodName := ⟨RX3, "isDrum", "(I)Z"⟩
abbrev cX3_countTones : ByteArray := prog_1_method_22_code
def yX3_countTones : MethodName := ⟨RX3, "countTones", "(I)I"⟩
abbrev cX3_checkVillage : ByteArray := prog_1_method_23_code
def yX3_checkVillage : MethodName := ⟨RX3, "checkVillage", "(I)V"⟩
abbrev cX3_checkPhrase : ByteArray := prog_1_method_24_code
def yX3_checkPhrase : MethodName := ⟨RX3, "checkPhrase", "(I)V"⟩
abbrev cX3_villageOf : ByteArray := prog_1_method_25_code
def yX3_villageOf : MethodName := ⟨RX3, "villageOf", "(I)LDrumTalk$Village;"⟩
abbrev cX3_knowersIfTold : ByteArray := prog_1_method_26_code
def yX3_knowersIfTold : MethodName := ⟨RX3, "knowersIfTold", "(III)I"⟩
abbrev cX3_pairsIfLarger : ByteArray := prog_1_method_27_code
def yX3_pairsIfLarger : MethodName := ⟨RX3, "pairsIfLarger", "(II)I"⟩
abbrev cX3_digestOn : ByteArray := prog_1_method_28_code
def yX3_digestOn : MethodName := ⟨RX3, "digestOn", "(JLDrumTalk$Village;)J"⟩
def RX4 : String := "DrumTalkModel$State"
def TX4 : u_T := fun k => match k with
  | 0 => ("DrumTalkModel$State", "beat", "I", false)
  | 1 => ("DrumTalkModel$State", "begun", "I", false)
  | 2 => ("DrumTalkModel$State", "sounds", "I", false)
  | 3 => ("DrumTalkModel$State", "drum", "[I", true)
  | 4 => ("DrumTalkModel$State", "drums", "[I", true)
  | 5 => ("DrumTalkModel$State", "left", "[I", true)
  | 6 => ("DrumTalkModel$State", "queued", "[I", true)
  | 7 => ("DrumTalkModel$State", "queue", "[I", true)
  | 8 => ("DrumTalkModel$State", "known", "[I", true)
  | 9 => ("DrumTalkModel$State", "drowned", "[I", true)
  | 10 => ("DrumTalkModel$State", "where", "[I", true)
  | 11 => ("DrumTalkModel$State", "what", "[I", true)
  | 12 => ("DrumTalkModel$State", "first", "[I", true)
  | 13 => ("DrumTalkModel$State", "last", "[I", true)
  | 14 => ("DrumTalkModel$State", "lost", "[I", true)
  | _ => ("DrumTalkModel$State", "this$0", "LDrumTalkModel;", true)
def tyX4 : Nat → FieldType := fun k => match k with
  | 0 => .int
  | 1 => .int
  | 2 => .int
  | 3 => .array .int
  | 4 => .array .int
  | 5 => .array .int
  | 6 => .array .int
  | 7 => .array .int
  | 8 => .array .int
  | 9 => .array .int
  | 10 => .array .int
  | 11 => .array .int
  | 12 => .array .int
  | 13 => .array .int
  | 14 => .array .int
  | _ => .object "DrumTalkModel"
abbrev wsX40 : List Cond := u_ws RX4 TX4 16
theorem nmX4 : ∀ a, a < 16 → ∀ b, b < 16 → a ≠ b → (TX4 a).2.1 ≠ (TX4 b).2.1 := by decide +kernel
theorem tyX4_ok : ∀ k, k < 16 → parseFieldDescriptor (TX4 k).2.2.1 = some (tyX4 k) := by decide +kernel
abbrev cX4_init : ByteArray := prog_7_method_1_code
def yX4_init : MethodName := ⟨RX4, "<init>", "(LDrumTalkModel;)V"⟩
abbrev cX4_copy : ByteArray := prog_7_method_2_code
def yX4_copy : MethodName := ⟨RX4, "copy", "([I[II)V"⟩
abbrev cX4_become : ByteArray := prog_7_method_3_code
def yX4_become : MethodName := ⟨RX4, "become", "(LDrumTalkModel$State;)V"⟩
abbrev cX4_isAwake : ByteArray := prog_7_method_4_code
def yX4_isAwake : MethodName := ⟨RX4, "isAwake", "(I)Z"⟩
abbrev cX4_hears : ByteArray := prog_7_method_5_code
def yX4_hears : MethodName := ⟨RX4, "hears", "(II)Z"⟩
abbrev cX4_sound : ByteArray := prog_7_method_6_code
def yX4_sound : MethodName := ⟨RX4, "sound", "(III)V"⟩
abbrev cX4_begin : ByteArray := prog_7_method_7_code
def yX4_begin : MethodName := ⟨RX4, "begin", "(I)V"⟩
abbrev cX4_lasting : ByteArray := prog_7_method_8_code
def yX4_lasting : MethodName := ⟨RX4, "lasting", "(I)I"⟩
abbrev cX4_learns : ByteArray := prog_7_method_9_code
def yX4_learns : MethodName := ⟨RX4, "learns", "(II)Z"⟩
abbrev cX4_put : ByteArray := prog_7_method_10_code
def yX4_put : MethodName := ⟨RX4, "put", "(II)V"⟩
abbrev cX4_pass : ByteArray := prog_7_method_11_code
def yX4_pass : MethodName := ⟨RX4, "pass", "()I"⟩
abbrev cX4_knowing : ByteArray := prog_7_method_12_code
def yX4_knowing : MethodName := ⟨RX4, "knowing", "(I)I"⟩
abbrev cX4_pairs : ByteArray := prog_7_method_13_code
def yX4_pairs : MethodName := ⟨RX4, "pairs", "()I"⟩
def RX5 : String := "DrumTalkModel"
def TX5 : u_T := fun k => match k with
  | 0 => ("DrumTalkModel", "thrown", "I", false)
  | 1 => ("DrumTalkModel", "villages", "I", false)
  | 2 => ("DrumTalkModel", "phrases", "I", false)
  | 3 => ("DrumTalkModel", "x", "[I", true)
  | 4 => ("DrumTalkModel", "y", "[I", true)
  | 5 => ("DrumTalkModel", "cliff", "[I", true)
  | 6 => ("DrumTalkModel", "from", "[I", true)
  | 7 => ("DrumTalkModel", "beats", "[I", true)
  | 8 => ("DrumTalkModel", "tones", "[I", true)
  | 9 => ("DrumTalkModel", "length", "[I", true)
  | 10 => ("DrumTalkModel", "s", "LDrumTalkModel$State;", true)
  | _ => ("DrumTalkModel", "ahead", "LDrumTalkModel$State;", true)
def tyX5 : Nat → FieldType := fun k => match k with
  | 0 => .int
  | 1 => .int
  | 2 => .int
  | 3 => .array .int
  | 4 => .array .int
  | 5 => .array .int
  | 6 => .array .int
  | 7 => .array .int
  | 8 => .array .int
  | 9 => .array .int
  | 10 => .object "DrumTalkModel$State"
  | _ => .object "DrumTalkModel$State"
abbrev wsX50 : List Cond := u_ws RX5 TX5 12
theorem nmX5 : ∀ a, a < 12 → ∀ b, b < 12 → a ≠ b → (TX5 a).2.1 ≠ (TX5 b).2.1 := by decide +kernel
theorem tyX5_ok : ∀ k, k < 12 → parseFieldDescriptor (TX5 k).2.2.1 = some (tyX5 k) := by decide +kernel
abbrev cX5_init : ByteArray := prog_6_method_1_code
def yX5_init : MethodName := ⟨RX5, "<init>", "()V"⟩
abbrev cX5_thrown : ByteArray := prog_6_method_2_code
def yX5_thrown : MethodName := ⟨RX5, "thrown", "()I"⟩
abbrev cX5_no : ByteArray := prog_6_method_3_code
def yX5_no : MethodName := ⟨RX5, "no", "(I)I"⟩
abbrev cX5_isIn : ByteArray := prog_6_method_4_code
def yX5_isIn : MethodName := ⟨RX5, "isIn", "(III)Z"⟩
abbrev cX5_isVillage : ByteArray := prog_6_method_5_code
def yX5_isVillage : MethodName := ⟨RX5, "isVillage", "(I)Z"⟩
abbrev cX5_isPhrase : ByteArray := prog_6_method_6_code
def yX5_isPhrase : MethodName := ⟨RX5, "isPhrase", "(I)Z"⟩
abbrev cX5_far : ByteArray := prog_6_method_7_code
def yX5_far : MethodName := ⟨RX5, "far", "(II)I"⟩
abbrev cX5_found : ByteArray := prog_6_method_8_code
def yX5_found : MethodName := ⟨RX5, "found", "(III)I"⟩
abbrev cX5_setDrum : ByteArray := prog_6_method_9_code
def yX5_setDrum : MethodName := ⟨RX5, "setDrum", "(II)I"⟩
abbrev cX5_setCliff : ByteArray := prog_6_method_10_code
def yX5_setCliff : MethodName := ⟨RX5, "setCliff", "(IZ)Z"⟩
abbrev cX5_setAwake : ByteArray := prog_6_method_11_code
def yX5_setAwake : MethodName := ⟨RX5, "setAwake", "(III)I"⟩
abbrev cX5_phrase : ByteArray := prog_6_method_12_code
def yX5_phrase : MethodName := ⟨RX5, "phrase", "(I)I"⟩
abbrev cX5_tell : ByteArray := prog_6_method_13_code
def yX5_tell : MethodName := ⟨RX5, "tell", "(II)I"⟩
abbrev cX5_villageTold : ByteArray := prog_6_method_14_code
def yX5_villageTold : MethodName := ⟨RX5, "villageTold", "(II)I"⟩
abbrev cX5_village : ByteArray := prog_6_method_15_code
def yX5_village : MethodName := ⟨RX5, "village", "(II)I"⟩
abbrev cX5_queue : ByteArray := prog_6_method_16_code
def yX5_queue : MethodName := ⟨RX5, "queue", "(II)I"⟩
abbrev cX5_knows : ByteArray := prog_6_method_17_code
def yX5_knows : MethodName := ⟨RX5, "knows", "(II)I"⟩
abbrev cX5_sounds : ByteArray := prog_6_method_18_code
def yX5_sounds : MethodName := ⟨RX5, "sounds", "(I)I"⟩
abbrev cX5_counted : ByteArray := prog_6_method_19_code
def yX5_counted : MethodName := ⟨RX5, "counted", "(I)I"⟩
abbrev cX5_count : ByteArray := prog_6_method_20_code
def yX5_count : MethodName := ⟨RX5, "count", "(I)I"⟩
abbrev cX5_way : ByteArray := prog_6_method_21_code
def yX5_way : MethodName := ⟨RX5, "way", "(II)I"⟩
abbrev cX5_pass : ByteArray := prog_6_method_22_code
def yX5_pass : MethodName := ⟨RX5, "pass", "(I)I"⟩
abbrev cX5_reaches : ByteArray := prog_6_method_23_code
def yX5_reaches : MethodName := ⟨RX5, "reaches", "(II)I"⟩
abbrev cX5_best : ByteArray := prog_6_method_24_code
def yX5_best : MethodName := ⟨RX5, "best", "(II)I"⟩
abbrev cX5_larger : ByteArray := prog_6_method_25_code
def yX5_larger : MethodName := ⟨RX5, "larger", "(I)I"⟩
abbrev cX5_known : ByteArray := prog_6_method_26_code
def yX5_known : MethodName := ⟨RX5, "known", "()D"⟩
abbrev cX5_digest : ByteArray := prog_6_method_27_code
def yX5_digest : MethodName := ⟨RX5, "digest", "()J"⟩
def RJx145de : String := "java/io/Serializable"
def TJx145de : u_T := fun k => match k with
  | _ => ("", "", "", false)
def tyJx145de : Nat → FieldType := fun k => match k with
  | _ => .int
abbrev wsJx145de0 : List Cond := u_ws RJx145de TJx145de 0
theorem nmJx145de : ∀ a, a < 0 → ∀ b, b < 0 → a ≠ b → (TJx145de a).2.1 ≠ (TJx145de b).2.1 := by decide +kernel
theorem tyJx145de_ok : ∀ k, k < 0 → parseFieldDescriptor (TJx145de k).2.2.1 = some (tyJx145de k) := by decide +kernel
def RJ9 : String := "java/lang/Math"
def TJ9 : u_T := fun k => match k with
  | _ => ("", "", "", false)
def tyJ9 : Nat → FieldType := fun k => match k with
  | _ => .int
abbrev wsJ90 : List Cond := u_ws RJ9 TJ9 0
theorem nmJ9 : ∀ a, a < 0 → ∀ b, b < 0 → a ≠ b → (TJ9 a).2.1 ≠ (TJ9 b).2.1 := by decide +kernel
theorem tyJ9_ok : ∀ k, k < 0 → parseFieldDescriptor (TJ9 k).2.2.1 = some (tyJ9 k) := by decide +kernel
abbrev cJ9_floorMod_7cf53 : ByteArray := prog_12_method_50_code
def yJ9_floorMod_7cf53 : MethodName := ⟨RJ9, "floorMod", "(II)I"⟩
abbrev cJ9_abs_0f7a4 : ByteArray := prog_12_method_59_code
def yJ9_abs_0f7a4 : MethodName := ⟨RJ9, "abs", "(I)I"⟩
abbrev cJ9_max_7cf53 : ByteArray := prog_12_method_65_code
def yJ9_max_7cf53 : MethodName := ⟨RJ9, "max", "(II)I"⟩
def RJ0 : String := "java/lang/String"
def TJ0 : u_T := fun k => match k with
  | _ => ("", "", "", false)
def tyJ0 : Nat → FieldType := fun k => match k with
  | _ => .int
abbrev wsJ00 : List Cond := u_ws RJ0 TJ0 0
theorem nmJ0 : ∀ a, a < 0 → ∀ b, b < 0 → a ≠ b → (TJ0 a).2.1 ≠ (TJ0 b).2.1 := by decide +kernel
theorem tyJ0_ok : ∀ k, k < 0 → parseFieldDescriptor (TJ0 k).2.2.1 = some (tyJ0 k) := by decide +kernel
def RJ10 : String := "java/lang/System"
def TJ10 : u_T := fun k => match k with
  | _ => ("", "", "", false)
def tyJ10 : Nat → FieldType := fun k => match k with
  | _ => .int
abbrev wsJ100 : List Cond := u_ws RJ10 TJ10 0
theorem nmJ10 : ∀ a, a < 0 → ∀ b, b < 0 → a ≠ b → (TJ10 a).2.1 ≠ (TJ10 b).2.1 := by decide +kernel
theorem tyJ10_ok : ∀ k, k < 0 → parseFieldDescriptor (TJ10 k).2.2.1 = some (tyJ10 k) := by decide +kernel
def RJ7 : String := "java/util/Arrays"
def TJ7 : u_T := fun k => match k with
  | _ => ("", "", "", false)
def tyJ7 : Nat → FieldType := fun k => match k with
  | _ => .int
abbrev wsJ70 : List Cond := u_ws RJ7 TJ7 0
theorem nmJ7 : ∀ a, a < 0 → ∀ b, b < 0 → a ≠ b → (TJ7 a).2.1 ≠ (TJ7 b).2.1 := by decide +kernel
theorem tyJ7_ok : ∀ k, k < 0 → parseFieldDescriptor (TJ7 k).2.2.1 = some (tyJ7 k) := by decide +kernel
abbrev cJ7_fill_53178 : ByteArray := prog_17_method_103_code
def yJ7_fill_53178 : MethodName := ⟨RJ7, "fill", "([II)V"⟩
def RL : String := "DrumTalkLaw"
abbrev cL_found : ByteArray := method_3_code
def yL_found : MethodName := ⟨RL, "found", "(LDrumTalk;III[J)I"⟩
abbrev cL_setDrum : ByteArray := method_4_code
def yL_setDrum : MethodName := ⟨RL, "setDrum", "(LDrumTalk;II[J)I"⟩
abbrev cL_setCliff : ByteArray := method_5_code
def yL_setCliff : MethodName := ⟨RL, "setCliff", "(LDrumTalk;IZ[J)I"⟩
abbrev cL_setAwake : ByteArray := method_6_code
def yL_setAwake : MethodName := ⟨RL, "setAwake", "(LDrumTalk;III[J)I"⟩
abbrev cL_phrase : ByteArray := method_7_code
def yL_phrase : MethodName := ⟨RL, "phrase", "(LDrumTalk;I[J)I"⟩
abbrev cL_tell : ByteArray := method_8_code
def yL_tell : MethodName := ⟨RL, "tell", "(LDrumTalk;II[J)I"⟩
abbrev cL_village : ByteArray := method_9_code
def yL_village : MethodName := ⟨RL, "village", "(LDrumTalk;II[J)I"⟩
abbrev cL_queue : ByteArray := method_10_code
def yL_queue : MethodName := ⟨RL, "queue", "(LDrumTalk;II[J)I"⟩
abbrev cL_knows : ByteArray := method_11_code
def yL_knows : MethodName := ⟨RL, "knows", "(LDrumTalk;II[J)I"⟩
abbrev cL_sounds : ByteArray := method_12_code
def yL_sounds : MethodName := ⟨RL, "sounds", "(LDrumTalk;I[J)I"⟩
abbrev cL_count : ByteArray := method_13_code
def yL_count : MethodName := ⟨RL, "count", "(LDrumTalk;I[J)I"⟩
abbrev cL_way : ByteArray := method_14_code
def yL_way : MethodName := ⟨RL, "way", "(LDrumTalk;II[J)I"⟩
abbrev cL_pass : ByteArray := method_15_code
def yL_pass : MethodName := ⟨RL, "pass", "(LDrumTalk;I[J)I"⟩
abbrev cL_reaches : ByteArray := method_16_code
def yL_reaches : MethodName := ⟨RL, "reaches", "(LDrumTalk;II[J)I"⟩
abbrev cL_best : ByteArray := method_17_code
def yL_best : MethodName := ⟨RL, "best", "(LDrumTalk;II[J)I"⟩
abbrev cL_larger : ByteArray := method_18_code
def yL_larger : MethodName := ⟨RL, "larger", "(LDrumTalk;I[J)I"⟩
abbrev cL_law : ByteArray := code
def yL_law : MethodName := ⟨RL, "law", "([I)Z"⟩
def wsX1_init : List Cond := .code yX1_init cX1_init 1 none :: ([.methodLink RX1 3 objectInit, .instanceMethod objectInit, .code objectInit ⟨#[0xb1]⟩ 1 none, .arrayClass .int, .fieldLink RX1 9 "DrumTalk$Sounds" "phrases" "[I", .fieldLink RX1 15 "DrumTalk$Sounds" "firstBeats" "[I", .fieldLink RX1 18 "DrumTalk$Sounds" "lastBeats" "[I", .fieldLink RX1 21 "DrumTalk$Sounds" "drowned" "[I"] ++ wsX10)
def wsJ7_fill_53178 : List Cond := .code yJ7_fill_53178 cJ7_fill_53178 4 none :: ([])
def wsX2_init : List Cond := .code yX2_init cX2_init 1 none :: ([.methodLink RX2 3 objectInit, .instanceMethod objectInit, .code objectInit ⟨#[0xb1]⟩ 1 none, .fieldLink RX2 9 "DrumTalk$Village" "drum" "I", .fieldLink RX2 15 "DrumTalk$Village" "awakeBeats" "I", .fieldLink RX2 18 "DrumTalk$Village" "drumming" "I", .arrayClass .int, .fieldLink RX2 21 "DrumTalk$Village" "queue" "[I", .fieldLink RX2 25 "DrumTalk$Village" "knownSince" "[I", .classLink RX2 28 RX1, .instantiable RX1 5, .initialized RX1, .fieldLink RX2 31 "DrumTalk$Village" "inTheAir" "LDrumTalk$Sounds;", .instanceMethod yX1_init, .code yX1_init cX1_init 1 none, .methodLink RX1 3 objectInit, .fieldLink RX1 9 "DrumTalk$Sounds" "phrases" "[I", .fieldLink RX1 15 "DrumTalk$Sounds" "firstBeats" "[I", .fieldLink RX1 18 "DrumTalk$Sounds" "lastBeats" "[I", .fieldLink RX1 21 "DrumTalk$Sounds" "drowned" "[I", .methodLink RX2 35 yJ7_fill_53178, .static yJ7_fill_53178, .initialized RJ7, .code yJ7_fill_53178 cJ7_fill_53178 4 none] ++ wsX20 ++ wsX10)
def wsX0_init_r1 : List Cond := [Cond.methodLink RX0 3 objectInit, Cond.instanceMethod objectInit, Cond.code objectInit ⟨#[0xb1]⟩ 1 none, Cond.classLink RX0 9 RX2, Cond.fieldLink RX0 11 "DrumTalk$Land" "villages" "[LDrumTalk$Village;", Cond.arrayClass .int, Cond.fieldLink RX0 17 "DrumTalk$Land" "tones" "[I", Cond.fieldLink RX0 21 "DrumTalk$Land" "toneCounts" "[I", Cond.instantiable RX2 13, Cond.initialized RX2, Cond.methodLink RX0 24 yX2_init, Cond.instanceMethod yX2_init, Cond.code yX2_init cX2_init 1 none, Cond.methodLink RX2 3 objectInit, Cond.fieldLink RX2 9 "DrumTalk$Village" "drum" "I", Cond.fieldLink RX2 15 "DrumTalk$Village" "awakeBeats" "I", Cond.fieldLink RX2 18 "DrumTalk$Village" "drumming" "I", Cond.fieldLink RX2 21 "DrumTalk$Village" "queue" "[I", Cond.fieldLink RX2 25 "DrumTalk$Village" "knownSince" "[I", Cond.classLink RX2 28 RX1, Cond.instantiable RX1 5, Cond.initialized RX1, Cond.fieldLink RX2 31 "DrumTalk$Village" "inTheAir" "LDrumTalk$Sounds;", Cond.instanceMethod yX1_init]
def wsX0_init_r2 : List Cond := [Cond.code yX1_init cX1_init 1 none, Cond.methodLink RX1 3 objectInit, Cond.fieldLink RX1 9 "DrumTalk$Sounds" "phrases" "[I", Cond.fieldLink RX1 15 "DrumTalk$Sounds" "firstBeats" "[I", Cond.fieldLink RX1 18 "DrumTalk$Sounds" "lastBeats" "[I", Cond.fieldLink RX1 21 "DrumTalk$Sounds" "drowned" "[I", Cond.methodLink RX2 35 yJ7_fill_53178, Cond.static yJ7_fill_53178, Cond.initialized RJ7, Cond.code yJ7_fill_53178 cJ7_fill_53178 4 none]
def wsX0_init : List Cond := .code yX0_init cX0_init 2 none :: ((wsX0_init_r1 ++ wsX0_init_r2) ++ wsX00 ++ wsX20 ++ wsX10)
def wsX1_copy : List Cond := .code yX1_copy cX1_copy 2 none :: ([.fieldLink RX1 9 "DrumTalk$Sounds" "phrases" "[I", .fieldLink RX1 24 "DrumTalk$Sounds" "size" "I", .methodLink RX1 28 arraycopyName, .native arraycopyName, .static arraycopyName, .initialized "java/lang/System", .fieldLink RX1 15 "DrumTalk$Sounds" "firstBeats" "[I", .fieldLink RX1 18 "DrumTalk$Sounds" "lastBeats" "[I", .fieldLink RX1 21 "DrumTalk$Sounds" "drowned" "[I"] ++ wsX10)
def wsX2_copy_r1 : List Cond := [Cond.fieldLink RX2 41 "DrumTalk$Village" "x" "I", Cond.fieldLink RX2 44 "DrumTalk$Village" "y" "I", Cond.fieldLink RX2 9 "DrumTalk$Village" "drum" "I", Cond.fieldLink RX2 47 "DrumTalk$Village" "cliff" "Z", Cond.fieldLink RX2 51 "DrumTalk$Village" "awakeFrom" "I", Cond.fieldLink RX2 15 "DrumTalk$Village" "awakeBeats" "I", Cond.fieldLink RX2 18 "DrumTalk$Village" "drumming" "I", Cond.fieldLink RX2 54 "DrumTalk$Village" "beatsLeft" "I", Cond.fieldLink RX2 21 "DrumTalk$Village" "queue" "[I", Cond.methodLink RX2 57 arraycopyName, Cond.native arraycopyName, Cond.static arraycopyName, Cond.initialized "java/lang/System", Cond.fieldLink RX2 63 "DrumTalk$Village" "queued" "I", Cond.fieldLink RX2 25 "DrumTalk$Village" "knownSince" "[I", Cond.fieldLink RX2 31 "DrumTalk$Village" "inTheAir" "LDrumTalk$Sounds;", Cond.fieldLink RX2 70 "DrumTalk$Village" "drowned" "I", Cond.methodLink RX2 66 yX1_copy, Cond.instanceMethod yX1_copy, Cond.selects RX1 yX1_copy yX1_copy, Cond.initialized RX1, Cond.code yX1_copy cX1_copy 2 none, Cond.fieldLink RX1 9 "DrumTalk$Sounds" "phrases" "[I", Cond.fieldLink RX1 24 "DrumTalk$Sounds" "size" "I"]
def wsX2_copy_r2 : List Cond := [Cond.methodLink RX1 28 arraycopyName, Cond.fieldLink RX1 15 "DrumTalk$Sounds" "firstBeats" "[I", Cond.fieldLink RX1 18 "DrumTalk$Sounds" "lastBeats" "[I", Cond.fieldLink RX1 21 "DrumTalk$Sounds" "drowned" "[I"]
def wsX2_copy : List Cond := .code yX2_copy cX2_copy 2 none :: ((wsX2_copy_r1 ++ wsX2_copy_r2) ++ wsX20 ++ wsX10)
def wsX0_copy_r1 : List Cond := [Cond.fieldLink RX0 25 "DrumTalk$Land" "villageCount" "I", Cond.fieldLink RX0 11 "DrumTalk$Land" "villages" "[LDrumTalk$Village;", Cond.fieldLink RX0 17 "DrumTalk$Land" "tones" "[I", Cond.methodLink RX0 33 arraycopyName, Cond.native arraycopyName, Cond.static arraycopyName, Cond.initialized "java/lang/System", Cond.fieldLink RX0 21 "DrumTalk$Land" "toneCounts" "[I", Cond.fieldLink RX0 39 "DrumTalk$Land" "phraseCount" "I", Cond.fieldLink RX0 42 "DrumTalk$Land" "beat" "I", Cond.fieldLink RX0 45 "DrumTalk$Land" "drummings" "I", Cond.methodLink RX0 29 yX2_copy, Cond.instanceMethod yX2_copy, Cond.selects RX2 yX2_copy yX2_copy, Cond.initialized RX2, Cond.code yX2_copy cX2_copy 2 none, Cond.fieldLink RX2 41 "DrumTalk$Village" "x" "I", Cond.fieldLink RX2 44 "DrumTalk$Village" "y" "I", Cond.fieldLink RX2 9 "DrumTalk$Village" "drum" "I", Cond.fieldLink RX2 47 "DrumTalk$Village" "cliff" "Z", Cond.fieldLink RX2 51 "DrumTalk$Village" "awakeFrom" "I", Cond.fieldLink RX2 15 "DrumTalk$Village" "awakeBeats" "I", Cond.fieldLink RX2 18 "DrumTalk$Village" "drumming" "I", Cond.fieldLink RX2 54 "DrumTalk$Village" "beatsLeft" "I"]
def wsX0_copy_r2 : List Cond := [Cond.fieldLink RX2 21 "DrumTalk$Village" "queue" "[I", Cond.methodLink RX2 57 arraycopyName, Cond.fieldLink RX2 63 "DrumTalk$Village" "queued" "I", Cond.fieldLink RX2 25 "DrumTalk$Village" "knownSince" "[I", Cond.fieldLink RX2 31 "DrumTalk$Village" "inTheAir" "LDrumTalk$Sounds;", Cond.fieldLink RX2 70 "DrumTalk$Village" "drowned" "I", Cond.methodLink RX2 66 yX1_copy, Cond.instanceMethod yX1_copy, Cond.selects RX1 yX1_copy yX1_copy, Cond.initialized RX1, Cond.code yX1_copy cX1_copy 2 none, Cond.fieldLink RX1 9 "DrumTalk$Sounds" "phrases" "[I", Cond.fieldLink RX1 24 "DrumTalk$Sounds" "size" "I", Cond.methodLink RX1 28 arraycopyName, Cond.fieldLink RX1 15 "DrumTalk$Sounds" "firstBeats" "[I", Cond.fieldLink RX1 18 "DrumTalk$Sounds" "lastBeats" "[I", Cond.fieldLink RX1 21 "DrumTalk$Sounds" "drowned" "[I"]
def wsX0_copy : List Cond := .code yX0_copy cX0_copy 3 none :: ((wsX0_copy_r1 ++ wsX0_copy_r2) ++ wsX00 ++ wsX20 ++ wsX10)
def wsX0_hasVillageAt : List Cond := .code yX0_hasVillageAt cX0_hasVillageAt 4 (some .boolean) :: ([.fieldLink RX0 25 "DrumTalk$Land" "villageCount" "I", .fieldLink RX0 11 "DrumTalk$Land" "villages" "[LDrumTalk$Village;", .fieldLink RX0 48 "DrumTalk$Village" "x" "I", .fieldLink RX0 51 "DrumTalk$Village" "y" "I"] ++ wsX00 ++ wsX20)
def wsX0_addVillage : List Cond := .code yX0_addVillage cX0_addVillage 5 (some .int) :: ([.fieldLink RX0 25 "DrumTalk$Land" "villageCount" "I", .fieldLink RX0 11 "DrumTalk$Land" "villages" "[LDrumTalk$Village;", .fieldLink RX0 48 "DrumTalk$Village" "x" "I", .fieldLink RX0 51 "DrumTalk$Village" "y" "I", .fieldLink RX0 54 "DrumTalk$Village" "drum" "I"] ++ wsX00 ++ wsX20)
def wsX0_hasPhrase : List Cond := .code yX0_hasPhrase cX0_hasPhrase 3 (some .boolean) :: ([.fieldLink RX0 39 "DrumTalk$Land" "phraseCount" "I", .fieldLink RX0 17 "DrumTalk$Land" "tones" "[I"] ++ wsX00)
def wsX0_addPhrase : List Cond := .code yX0_addPhrase cX0_addPhrase 3 (some .int) :: ([.fieldLink RX0 39 "DrumTalk$Land" "phraseCount" "I", .fieldLink RX0 17 "DrumTalk$Land" "tones" "[I", .fieldLink RX0 21 "DrumTalk$Land" "toneCounts" "[I"] ++ wsX00)
def wsX2_isDrumming : List Cond := .code yX2_isDrumming cX2_isDrumming 1 (some .boolean) :: ([.fieldLink RX2 18 "DrumTalk$Village" "drumming" "I"] ++ wsX20)
def wsX0_drummers : List Cond := .code yX0_drummers cX0_drummers 3 (some .int) :: ([.fieldLink RX0 25 "DrumTalk$Land" "villageCount" "I", .fieldLink RX0 11 "DrumTalk$Land" "villages" "[LDrumTalk$Village;", .methodLink RX0 70 yX2_isDrumming, .instanceMethod yX2_isDrumming, .selects RX2 yX2_isDrumming yX2_isDrumming, .initialized RX2, .code yX2_isDrumming cX2_isDrumming 1 (some .boolean), .fieldLink RX2 18 "DrumTalk$Village" "drumming" "I"] ++ wsX00 ++ wsX20)
def wsX0_soundsInTheAir : List Cond := .code yX0_soundsInTheAir cX0_soundsInTheAir 3 (some .int) :: ([.fieldLink RX0 25 "DrumTalk$Land" "villageCount" "I", .fieldLink RX0 11 "DrumTalk$Land" "villages" "[LDrumTalk$Village;", .fieldLink RX0 74 "DrumTalk$Village" "inTheAir" "LDrumTalk$Sounds;", .fieldLink RX0 78 "DrumTalk$Sounds" "size" "I"] ++ wsX00 ++ wsX20 ++ wsX10)
def wsX0_soundsDrowned : List Cond := .code yX0_soundsDrowned cX0_soundsDrowned 3 (some .int) :: ([.fieldLink RX0 25 "DrumTalk$Land" "villageCount" "I", .fieldLink RX0 11 "DrumTalk$Land" "villages" "[LDrumTalk$Village;", .fieldLink RX0 83 "DrumTalk$Village" "drowned" "I"] ++ wsX00 ++ wsX20)
def wsX2_isKnown : List Cond := .code yX2_isKnown cX2_isKnown 2 (some .boolean) :: ([.fieldLink RX2 25 "DrumTalk$Village" "knownSince" "[I"] ++ wsX20)
def wsX2_phrasesKnown : List Cond := .code yX2_phrasesKnown cX2_phrasesKnown 3 (some .int) :: ([.methodLink RX2 95 yX2_isKnown, .instanceMethod yX2_isKnown, .selects RX2 yX2_isKnown yX2_isKnown, .initialized RX2, .code yX2_isKnown cX2_isKnown 2 (some .boolean), .fieldLink RX2 25 "DrumTalk$Village" "knownSince" "[I"] ++ wsX20)
def wsX0_knownPairs : List Cond := .code yX0_knownPairs cX0_knownPairs 3 (some .int) :: ([.fieldLink RX0 25 "DrumTalk$Land" "villageCount" "I", .fieldLink RX0 11 "DrumTalk$Land" "villages" "[LDrumTalk$Village;", .methodLink RX0 86 yX2_phrasesKnown, .instanceMethod yX2_phrasesKnown, .selects RX2 yX2_phrasesKnown yX2_phrasesKnown, .initialized RX2, .code yX2_phrasesKnown cX2_phrasesKnown 3 (some .int), .methodLink RX2 95 yX2_isKnown, .instanceMethod yX2_isKnown, .selects RX2 yX2_isKnown yX2_isKnown, .code yX2_isKnown cX2_isKnown 2 (some .boolean), .fieldLink RX2 25 "DrumTalk$Village" "knownSince" "[I"] ++ wsX00 ++ wsX20)
def wsX0_figure_r1 : List Cond := [Cond.fieldLink RX0 42 "DrumTalk$Land" "beat" "I", Cond.fieldLink RX0 25 "DrumTalk$Land" "villageCount" "I", Cond.fieldLink RX0 39 "DrumTalk$Land" "phraseCount" "I", Cond.fieldLink RX0 45 "DrumTalk$Land" "drummings" "I", Cond.methodLink RX0 57 yX0_drummers, Cond.instanceMethod yX0_drummers, Cond.selects RX0 yX0_drummers yX0_drummers, Cond.initialized RX0, Cond.code yX0_drummers cX0_drummers 3 (some .int), Cond.fieldLink RX0 11 "DrumTalk$Land" "villages" "[LDrumTalk$Village;", Cond.methodLink RX0 70 yX2_isDrumming, Cond.instanceMethod yX2_isDrumming, Cond.selects RX2 yX2_isDrumming yX2_isDrumming, Cond.initialized RX2, Cond.code yX2_isDrumming cX2_isDrumming 1 (some .boolean), Cond.fieldLink RX2 18 "DrumTalk$Village" "drumming" "I", Cond.methodLink RX0 61 yX0_soundsInTheAir, Cond.instanceMethod yX0_soundsInTheAir, Cond.selects RX0 yX0_soundsInTheAir yX0_soundsInTheAir, Cond.code yX0_soundsInTheAir cX0_soundsInTheAir 3 (some .int), Cond.fieldLink RX0 74 "DrumTalk$Village" "inTheAir" "LDrumTalk$Sounds;", Cond.fieldLink RX0 78 "DrumTalk$Sounds" "size" "I", Cond.methodLink RX0 64 yX0_soundsDrowned, Cond.instanceMethod yX0_soundsDrowned]
def wsX0_figure_r2 : List Cond := [Cond.selects RX0 yX0_soundsDrowned yX0_soundsDrowned, Cond.code yX0_soundsDrowned cX0_soundsDrowned 3 (some .int), Cond.fieldLink RX0 83 "DrumTalk$Village" "drowned" "I", Cond.methodLink RX0 67 yX0_knownPairs, Cond.instanceMethod yX0_knownPairs, Cond.selects RX0 yX0_knownPairs yX0_knownPairs, Cond.code yX0_knownPairs cX0_knownPairs 3 (some .int), Cond.methodLink RX0 86 yX2_phrasesKnown, Cond.instanceMethod yX2_phrasesKnown, Cond.selects RX2 yX2_phrasesKnown yX2_phrasesKnown, Cond.code yX2_phrasesKnown cX2_phrasesKnown 3 (some .int), Cond.methodLink RX2 95 yX2_isKnown, Cond.instanceMethod yX2_isKnown, Cond.selects RX2 yX2_isKnown yX2_isKnown, Cond.code yX2_isKnown cX2_isKnown 2 (some .boolean), Cond.fieldLink RX2 25 "DrumTalk$Village" "knownSince" "[I"]
def wsX0_figure : List Cond := .code yX0_figure cX0_figure 2 (some .int) :: ((wsX0_figure_r1 ++ wsX0_figure_r2) ++ wsX00 ++ wsX20 ++ wsX10)
def wsX0_knowersOf : List Cond := .code yX0_knowersOf cX0_knowersOf 4 (some .int) :: ([.fieldLink RX0 25 "DrumTalk$Land" "villageCount" "I", .fieldLink RX0 11 "DrumTalk$Land" "villages" "[LDrumTalk$Village;", .methodLink RX0 89 yX2_isKnown, .instanceMethod yX2_isKnown, .selects RX2 yX2_isKnown yX2_isKnown, .initialized RX2, .code yX2_isKnown cX2_isKnown 2 (some .boolean), .fieldLink RX2 25 "DrumTalk$Village" "knownSince" "[I"] ++ wsX00 ++ wsX20)
def wsX2_distanceTo : List Cond := .code yX2_distanceTo cX2_distanceTo 2 (some .int) :: ([.fieldLink RX2 41 "DrumTalk$Village" "x" "I", .methodLink RX2 91 Lib.Math.abs.name, .static Lib.Math.abs.name, .initialized "java/lang/Math", .code Lib.Math.abs.name Lib.Math.abs.code 1 (some .int), .fieldLink RX2 44 "DrumTalk$Village" "y" "I"] ++ wsX20)
def wsX2_isHeardAt : List Cond := .code yX2_isHeardAt cX2_isHeardAt 2 (some .boolean) :: ([.fieldLink RX2 9 "DrumTalk$Village" "drum" "I"] ++ wsX20)
def wsX0_hearersOf : List Cond := .code yX0_hearersOf cX0_hearersOf 5 (some .int) :: ([.fieldLink RX0 25 "DrumTalk$Land" "villageCount" "I", .fieldLink RX0 11 "DrumTalk$Land" "villages" "[LDrumTalk$Village;", .methodLink RX0 93 yX2_distanceTo, .instanceMethod yX2_distanceTo, .selects RX2 yX2_distanceTo yX2_distanceTo, .initialized RX2, .code yX2_distanceTo cX2_distanceTo 2 (some .int), .fieldLink RX2 41 "DrumTalk$Village" "x" "I", .methodLink RX2 91 Lib.Math.abs.name, .static Lib.Math.abs.name, .initialized "java/lang/Math", .code Lib.Math.abs.name Lib.Math.abs.code 1 (some .int), .fieldLink RX2 44 "DrumTalk$Village" "y" "I", .methodLink RX0 97 yX2_isHeardAt, .instanceMethod yX2_isHeardAt, .selects RX2 yX2_isHeardAt yX2_isHeardAt, .code yX2_isHeardAt cX2_isHeardAt 2 (some .boolean), .fieldLink RX2 9 "DrumTalk$Village" "drum" "I"] ++ wsX00 ++ wsX20)
def wsX0_isQuiet : List Cond := .code yX0_isQuiet cX0_isQuiet 3 (some .boolean) :: ([.fieldLink RX0 25 "DrumTalk$Land" "villageCount" "I", .fieldLink RX0 11 "DrumTalk$Land" "villages" "[LDrumTalk$Village;", .fieldLink RX0 106 "DrumTalk$Village" "queued" "I", .fieldLink RX0 74 "DrumTalk$Village" "inTheAir" "LDrumTalk$Sounds;", .fieldLink RX0 78 "DrumTalk$Sounds" "size" "I", .methodLink RX0 70 yX2_isDrumming, .instanceMethod yX2_isDrumming, .selects RX2 yX2_isDrumming yX2_isDrumming, .initialized RX2, .code yX2_isDrumming cX2_isDrumming 1 (some .boolean), .fieldLink RX2 18 "DrumTalk$Village" "drumming" "I"] ++ wsX00 ++ wsX20 ++ wsX10)
def wsJ9_floorMod_7cf53 : List Cond := .code yJ9_floorMod_7cf53 cJ9_floorMod_7cf53 3 (some .int) :: ([])
def wsX2_isAwake : List Cond := .code yX2_isAwake cX2_isAwake 2 (some .boolean) :: ([.fieldLink RX2 51 "DrumTalk$Village" "awakeFrom" "I", .fieldLink RX2 15 "DrumTalk$Village" "awakeBeats" "I", .methodLink RX2 81 yJ9_floorMod_7cf53, .static yJ9_floorMod_7cf53, .initialized RJ9, .code yJ9_floorMod_7cf53 cJ9_floorMod_7cf53 3 (some .int)] ++ wsX20)
def wsX2_isReady : List Cond := .code yX2_isReady cX2_isReady 2 (some .boolean) :: ([.fieldLink RX2 63 "DrumTalk$Village" "queued" "I", .methodLink RX2 87 yX2_isDrumming, .instanceMethod yX2_isDrumming, .selects RX2 yX2_isDrumming yX2_isDrumming, .initialized RX2, .code yX2_isDrumming cX2_isDrumming 1 (some .boolean), .fieldLink RX2 18 "DrumTalk$Village" "drumming" "I", .methodLink RX2 73 yX2_isAwake, .instanceMethod yX2_isAwake, .selects RX2 yX2_isAwake yX2_isAwake, .code yX2_isAwake cX2_isAwake 2 (some .boolean), .fieldLink RX2 51 "DrumTalk$Village" "awakeFrom" "I", .fieldLink RX2 15 "DrumTalk$Village" "awakeBeats" "I", .methodLink RX2 81 yJ9_floorMod_7cf53, .static yJ9_floorMod_7cf53, .initialized RJ9, .code yJ9_floorMod_7cf53 cJ9_floorMod_7cf53 3 (some .int)] ++ wsX20)
def wsX2_takeFromQueue : List Cond := .code yX2_takeFromQueue cX2_takeFromQueue 2 (some .int) :: ([.fieldLink RX2 63 "DrumTalk$Village" "queued" "I", .fieldLink RX2 21 "DrumTalk$Village" "queue" "[I", .methodLink RX2 57 arraycopyName, .native arraycopyName, .static arraycopyName, .initialized "java/lang/System"] ++ wsX20)
def wsX1_add : List Cond := .code yX1_add cX1_add 4 none :: ([.fieldLink RX1 24 "DrumTalk$Sounds" "size" "I", .fieldLink RX1 9 "DrumTalk$Sounds" "phrases" "[I", .fieldLink RX1 15 "DrumTalk$Sounds" "firstBeats" "[I", .fieldLink RX1 18 "DrumTalk$Sounds" "lastBeats" "[I", .fieldLink RX1 21 "DrumTalk$Sounds" "drowned" "[I"] ++ wsX10)
def wsX0_beginDrumming_r1 : List Cond := [Cond.fieldLink RX0 11 "DrumTalk$Land" "villages" "[LDrumTalk$Village;", Cond.fieldLink RX0 39 "DrumTalk$Land" "phraseCount" "I", Cond.fieldLink RX0 21 "DrumTalk$Land" "toneCounts" "[I", Cond.fieldLink RX0 129 "DrumTalk$Village" "drumming" "I", Cond.fieldLink RX0 132 "DrumTalk$Village" "beatsLeft" "I", Cond.fieldLink RX0 45 "DrumTalk$Land" "drummings" "I", Cond.fieldLink RX0 25 "DrumTalk$Land" "villageCount" "I", Cond.fieldLink RX0 42 "DrumTalk$Land" "beat" "I", Cond.fieldLink RX0 74 "DrumTalk$Village" "inTheAir" "LDrumTalk$Sounds;", Cond.fieldLink RX0 139 "DrumTalk$Village" "cliff" "Z", Cond.methodLink RX0 126 yX2_takeFromQueue, Cond.instanceMethod yX2_takeFromQueue, Cond.selects RX2 yX2_takeFromQueue yX2_takeFromQueue, Cond.initialized RX2, Cond.code yX2_takeFromQueue cX2_takeFromQueue 2 (some .int), Cond.fieldLink RX2 63 "DrumTalk$Village" "queued" "I", Cond.fieldLink RX2 21 "DrumTalk$Village" "queue" "[I", Cond.methodLink RX2 57 arraycopyName, Cond.native arraycopyName, Cond.static arraycopyName, Cond.initialized "java/lang/System", Cond.methodLink RX0 93 yX2_distanceTo, Cond.instanceMethod yX2_distanceTo, Cond.selects RX2 yX2_distanceTo yX2_distanceTo]
def wsX0_beginDrumming_r2 : List Cond := [Cond.code yX2_distanceTo cX2_distanceTo 2 (some .int), Cond.fieldLink RX2 41 "DrumTalk$Village" "x" "I", Cond.methodLink RX2 91 Lib.Math.abs.name, Cond.static Lib.Math.abs.name, Cond.initialized "java/lang/Math", Cond.code Lib.Math.abs.name Lib.Math.abs.code 1 (some .int), Cond.fieldLink RX2 44 "DrumTalk$Village" "y" "I", Cond.methodLink RX0 97 yX2_isHeardAt, Cond.instanceMethod yX2_isHeardAt, Cond.selects RX2 yX2_isHeardAt yX2_isHeardAt, Cond.code yX2_isHeardAt cX2_isHeardAt 2 (some .boolean), Cond.fieldLink RX2 9 "DrumTalk$Village" "drum" "I", Cond.methodLink RX0 135 yX1_add, Cond.instanceMethod yX1_add, Cond.selects RX1 yX1_add yX1_add, Cond.initialized RX1, Cond.code yX1_add cX1_add 4 none, Cond.fieldLink RX1 24 "DrumTalk$Sounds" "size" "I", Cond.fieldLink RX1 9 "DrumTalk$Sounds" "phrases" "[I", Cond.fieldLink RX1 15 "DrumTalk$Sounds" "firstBeats" "[I", Cond.fieldLink RX1 18 "DrumTalk$Sounds" "lastBeats" "[I", Cond.fieldLink RX1 21 "DrumTalk$Sounds" "drowned" "[I"]
def wsX0_beginDrumming : List Cond := .code yX0_beginDrumming cX0_beginDrumming 9 none :: ((wsX0_beginDrumming_r1 ++ wsX0_beginDrumming_r2) ++ wsX00 ++ wsX20 ++ wsX10)
def wsX1_lasting : List Cond := .code yX1_lasting cX1_lasting 4 (some .int) :: ([.fieldLink RX1 24 "DrumTalk$Sounds" "size" "I", .fieldLink RX1 15 "DrumTalk$Sounds" "firstBeats" "[I"] ++ wsX10)
def wsX1_drown : List Cond := .code yX1_drown cX1_drown 3 none :: ([.fieldLink RX1 24 "DrumTalk$Sounds" "size" "I", .fieldLink RX1 15 "DrumTalk$Sounds" "firstBeats" "[I", .fieldLink RX1 21 "DrumTalk$Sounds" "drowned" "[I"] ++ wsX10)
def wsX2_drownIfDisturbed_r1 : List Cond := [Cond.fieldLink RX2 31 "DrumTalk$Village" "inTheAir" "LDrumTalk$Sounds;", Cond.methodLink RX2 73 yX2_isAwake, Cond.instanceMethod yX2_isAwake, Cond.selects RX2 yX2_isAwake yX2_isAwake, Cond.initialized RX2, Cond.code yX2_isAwake cX2_isAwake 2 (some .boolean), Cond.fieldLink RX2 51 "DrumTalk$Village" "awakeFrom" "I", Cond.fieldLink RX2 15 "DrumTalk$Village" "awakeBeats" "I", Cond.methodLink RX2 81 yJ9_floorMod_7cf53, Cond.static yJ9_floorMod_7cf53, Cond.initialized RJ9, Cond.code yJ9_floorMod_7cf53 cJ9_floorMod_7cf53 3 (some .int), Cond.methodLink RX2 87 yX2_isDrumming, Cond.instanceMethod yX2_isDrumming, Cond.selects RX2 yX2_isDrumming yX2_isDrumming, Cond.code yX2_isDrumming cX2_isDrumming 1 (some .boolean), Cond.fieldLink RX2 18 "DrumTalk$Village" "drumming" "I", Cond.methodLink RX2 98 yX1_lasting, Cond.instanceMethod yX1_lasting, Cond.selects RX1 yX1_lasting yX1_lasting, Cond.initialized RX1, Cond.code yX1_lasting cX1_lasting 4 (some .int), Cond.fieldLink RX1 24 "DrumTalk$Sounds" "size" "I", Cond.fieldLink RX1 15 "DrumTalk$Sounds" "firstBeats" "[I"]
def wsX2_drownIfDisturbed_r2 : List Cond := [Cond.methodLink RX2 101 yX1_drown, Cond.instanceMethod yX1_drown, Cond.selects RX1 yX1_drown yX1_drown, Cond.code yX1_drown cX1_drown 3 none, Cond.fieldLink RX1 21 "DrumTalk$Sounds" "drowned" "[I"]
def wsX2_drownIfDisturbed : List Cond := .code yX2_drownIfDisturbed cX2_drownIfDisturbed 2 none :: ((wsX2_drownIfDisturbed_r1 ++ wsX2_drownIfDisturbed_r2) ++ wsX20 ++ wsX10)
def wsX1_move : List Cond := .code yX1_move cX1_move 3 none :: ([.fieldLink RX1 24 "DrumTalk$Sounds" "size" "I", .fieldLink RX1 9 "DrumTalk$Sounds" "phrases" "[I", .fieldLink RX1 15 "DrumTalk$Sounds" "firstBeats" "[I", .fieldLink RX1 18 "DrumTalk$Sounds" "lastBeats" "[I", .fieldLink RX1 21 "DrumTalk$Sounds" "drowned" "[I"] ++ wsX10)
def wsX2_takeIn : List Cond := .code yX2_takeIn cX2_takeIn 3 none :: ([.fieldLink RX2 25 "DrumTalk$Village" "knownSince" "[I", .fieldLink RX2 63 "DrumTalk$Village" "queued" "I", .fieldLink RX2 21 "DrumTalk$Village" "queue" "[I"] ++ wsX20)
def wsX2_endSounds_r1 : List Cond := [Cond.fieldLink RX2 31 "DrumTalk$Village" "inTheAir" "LDrumTalk$Sounds;", Cond.fieldLink RX2 105 "DrumTalk$Sounds" "size" "I", Cond.fieldLink RX2 108 "DrumTalk$Sounds" "lastBeats" "[I", Cond.fieldLink RX2 115 "DrumTalk$Sounds" "drowned" "[I", Cond.fieldLink RX2 70 "DrumTalk$Village" "drowned" "I", Cond.fieldLink RX2 117 "DrumTalk$Sounds" "phrases" "[I", Cond.methodLink RX2 111 yX1_move, Cond.instanceMethod yX1_move, Cond.selects RX1 yX1_move yX1_move, Cond.initialized RX1, Cond.code yX1_move cX1_move 3 none, Cond.fieldLink RX1 24 "DrumTalk$Sounds" "size" "I", Cond.fieldLink RX1 9 "DrumTalk$Sounds" "phrases" "[I", Cond.fieldLink RX1 15 "DrumTalk$Sounds" "firstBeats" "[I", Cond.fieldLink RX1 18 "DrumTalk$Sounds" "lastBeats" "[I", Cond.fieldLink RX1 21 "DrumTalk$Sounds" "drowned" "[I", Cond.methodLink RX2 95 yX2_isKnown, Cond.instanceMethod yX2_isKnown, Cond.selects RX2 yX2_isKnown yX2_isKnown, Cond.initialized RX2, Cond.code yX2_isKnown cX2_isKnown 2 (some .boolean), Cond.fieldLink RX2 25 "DrumTalk$Village" "knownSince" "[I", Cond.methodLink RX2 120 yX2_takeIn, Cond.instanceMethod yX2_takeIn]
def wsX2_endSounds_r2 : List Cond := [Cond.selects RX2 yX2_takeIn yX2_takeIn, Cond.code yX2_takeIn cX2_takeIn 3 none, Cond.fieldLink RX2 63 "DrumTalk$Village" "queued" "I", Cond.fieldLink RX2 21 "DrumTalk$Village" "queue" "[I"]
def wsX2_endSounds : List Cond := .code yX2_endSounds cX2_endSounds 5 (some .int) :: ((wsX2_endSounds_r1 ++ wsX2_endSounds_r2) ++ wsX20 ++ wsX10)
def wsX2_endDrumBeat : List Cond := .code yX2_endDrumBeat cX2_endDrumBeat 1 none :: ([.fieldLink RX2 54 "DrumTalk$Village" "beatsLeft" "I", .fieldLink RX2 18 "DrumTalk$Village" "drumming" "I", .methodLink RX2 87 yX2_isDrumming, .instanceMethod yX2_isDrumming, .selects RX2 yX2_isDrumming yX2_isDrumming, .initialized RX2, .code yX2_isDrumming cX2_isDrumming 1 (some .boolean)] ++ wsX20)
def wsX0_goBeat_r1 : List Cond := [Cond.fieldLink RX0 25 "DrumTalk$Land" "villageCount" "I", Cond.fieldLink RX0 11 "DrumTalk$Land" "villages" "[LDrumTalk$Village;", Cond.fieldLink RX0 42 "DrumTalk$Land" "beat" "I", Cond.methodLink RX0 109 yX2_isReady, Cond.instanceMethod yX2_isReady, Cond.selects RX2 yX2_isReady yX2_isReady, Cond.initialized RX2, Cond.code yX2_isReady cX2_isReady 2 (some .boolean), Cond.fieldLink RX2 63 "DrumTalk$Village" "queued" "I", Cond.methodLink RX2 87 yX2_isDrumming, Cond.instanceMethod yX2_isDrumming, Cond.selects RX2 yX2_isDrumming yX2_isDrumming, Cond.code yX2_isDrumming cX2_isDrumming 1 (some .boolean), Cond.fieldLink RX2 18 "DrumTalk$Village" "drumming" "I", Cond.methodLink RX2 73 yX2_isAwake, Cond.instanceMethod yX2_isAwake, Cond.selects RX2 yX2_isAwake yX2_isAwake, Cond.code yX2_isAwake cX2_isAwake 2 (some .boolean), Cond.fieldLink RX2 51 "DrumTalk$Village" "awakeFrom" "I", Cond.fieldLink RX2 15 "DrumTalk$Village" "awakeBeats" "I", Cond.methodLink RX2 81 yJ9_floorMod_7cf53, Cond.static yJ9_floorMod_7cf53, Cond.initialized RJ9, Cond.code yJ9_floorMod_7cf53 cJ9_floorMod_7cf53 3 (some .int)]
def wsX0_goBeat_r2 : List Cond := [Cond.methodLink RX0 112 yX0_beginDrumming, Cond.instanceMethod yX0_beginDrumming, Cond.selects RX0 yX0_beginDrumming yX0_beginDrumming, Cond.initialized RX0, Cond.code yX0_beginDrumming cX0_beginDrumming 9 none, Cond.fieldLink RX0 39 "DrumTalk$Land" "phraseCount" "I", Cond.fieldLink RX0 21 "DrumTalk$Land" "toneCounts" "[I", Cond.fieldLink RX0 129 "DrumTalk$Village" "drumming" "I", Cond.fieldLink RX0 132 "DrumTalk$Village" "beatsLeft" "I", Cond.fieldLink RX0 45 "DrumTalk$Land" "drummings" "I", Cond.fieldLink RX0 74 "DrumTalk$Village" "inTheAir" "LDrumTalk$Sounds;", Cond.fieldLink RX0 139 "DrumTalk$Village" "cliff" "Z", Cond.methodLink RX0 126 yX2_takeFromQueue, Cond.instanceMethod yX2_takeFromQueue, Cond.selects RX2 yX2_takeFromQueue yX2_takeFromQueue, Cond.code yX2_takeFromQueue cX2_takeFromQueue 2 (some .int), Cond.fieldLink RX2 21 "DrumTalk$Village" "queue" "[I", Cond.methodLink RX2 57 arraycopyName, Cond.native arraycopyName, Cond.static arraycopyName, Cond.initialized "java/lang/System", Cond.methodLink RX0 93 yX2_distanceTo, Cond.instanceMethod yX2_distanceTo, Cond.selects RX2 yX2_distanceTo yX2_distanceTo]
def wsX0_goBeat_r3 : List Cond := [Cond.code yX2_distanceTo cX2_distanceTo 2 (some .int), Cond.fieldLink RX2 41 "DrumTalk$Village" "x" "I", Cond.methodLink RX2 91 Lib.Math.abs.name, Cond.static Lib.Math.abs.name, Cond.initialized "java/lang/Math", Cond.code Lib.Math.abs.name Lib.Math.abs.code 1 (some .int), Cond.fieldLink RX2 44 "DrumTalk$Village" "y" "I", Cond.methodLink RX0 97 yX2_isHeardAt, Cond.instanceMethod yX2_isHeardAt, Cond.selects RX2 yX2_isHeardAt yX2_isHeardAt, Cond.code yX2_isHeardAt cX2_isHeardAt 2 (some .boolean), Cond.fieldLink RX2 9 "DrumTalk$Village" "drum" "I", Cond.methodLink RX0 135 yX1_add, Cond.instanceMethod yX1_add, Cond.selects RX1 yX1_add yX1_add, Cond.initialized RX1, Cond.code yX1_add cX1_add 4 none, Cond.fieldLink RX1 24 "DrumTalk$Sounds" "size" "I", Cond.fieldLink RX1 9 "DrumTalk$Sounds" "phrases" "[I", Cond.fieldLink RX1 15 "DrumTalk$Sounds" "firstBeats" "[I", Cond.fieldLink RX1 18 "DrumTalk$Sounds" "lastBeats" "[I", Cond.fieldLink RX1 21 "DrumTalk$Sounds" "drowned" "[I", Cond.methodLink RX0 116 yX2_drownIfDisturbed, Cond.instanceMethod yX2_drownIfDisturbed]
def wsX0_goBeat_r4 : List Cond := [Cond.selects RX2 yX2_drownIfDisturbed yX2_drownIfDisturbed, Cond.code yX2_drownIfDisturbed cX2_drownIfDisturbed 2 none, Cond.fieldLink RX2 31 "DrumTalk$Village" "inTheAir" "LDrumTalk$Sounds;", Cond.methodLink RX2 98 yX1_lasting, Cond.instanceMethod yX1_lasting, Cond.selects RX1 yX1_lasting yX1_lasting, Cond.code yX1_lasting cX1_lasting 4 (some .int), Cond.methodLink RX2 101 yX1_drown, Cond.instanceMethod yX1_drown, Cond.selects RX1 yX1_drown yX1_drown, Cond.code yX1_drown cX1_drown 3 none, Cond.methodLink RX0 119 yX2_endSounds, Cond.instanceMethod yX2_endSounds, Cond.selects RX2 yX2_endSounds yX2_endSounds, Cond.code yX2_endSounds cX2_endSounds 5 (some .int), Cond.fieldLink RX2 105 "DrumTalk$Sounds" "size" "I", Cond.fieldLink RX2 108 "DrumTalk$Sounds" "lastBeats" "[I", Cond.fieldLink RX2 115 "DrumTalk$Sounds" "drowned" "[I", Cond.fieldLink RX2 70 "DrumTalk$Village" "drowned" "I", Cond.fieldLink RX2 117 "DrumTalk$Sounds" "phrases" "[I", Cond.methodLink RX2 111 yX1_move, Cond.instanceMethod yX1_move, Cond.selects RX1 yX1_move yX1_move, Cond.code yX1_move cX1_move 3 none]
def wsX0_goBeat_r5 : List Cond := [Cond.methodLink RX2 95 yX2_isKnown, Cond.instanceMethod yX2_isKnown, Cond.selects RX2 yX2_isKnown yX2_isKnown, Cond.code yX2_isKnown cX2_isKnown 2 (some .boolean), Cond.fieldLink RX2 25 "DrumTalk$Village" "knownSince" "[I", Cond.methodLink RX2 120 yX2_takeIn, Cond.instanceMethod yX2_takeIn, Cond.selects RX2 yX2_takeIn yX2_takeIn, Cond.code yX2_takeIn cX2_takeIn 3 none, Cond.methodLink RX0 123 yX2_endDrumBeat, Cond.instanceMethod yX2_endDrumBeat, Cond.selects RX2 yX2_endDrumBeat yX2_endDrumBeat, Cond.code yX2_endDrumBeat cX2_endDrumBeat 1 none, Cond.fieldLink RX2 54 "DrumTalk$Village" "beatsLeft" "I"]
def wsX0_goBeat : List Cond := .code yX0_goBeat cX0_goBeat 3 (some .int) :: ((wsX0_goBeat_r1 ++ (wsX0_goBeat_r2 ++ (wsX0_goBeat_r3 ++ (wsX0_goBeat_r4 ++ wsX0_goBeat_r5)))) ++ wsX00 ++ wsX20 ++ wsX10)
def wsX0_letGo_r1 : List Cond := [Cond.fieldLink RX0 42 "DrumTalk$Land" "beat" "I", Cond.methodLink RX0 100 yX0_isQuiet, Cond.instanceMethod yX0_isQuiet, Cond.selects RX0 yX0_isQuiet yX0_isQuiet, Cond.initialized RX0, Cond.code yX0_isQuiet cX0_isQuiet 3 (some .boolean), Cond.fieldLink RX0 25 "DrumTalk$Land" "villageCount" "I", Cond.fieldLink RX0 11 "DrumTalk$Land" "villages" "[LDrumTalk$Village;", Cond.fieldLink RX0 106 "DrumTalk$Village" "queued" "I", Cond.fieldLink RX0 74 "DrumTalk$Village" "inTheAir" "LDrumTalk$Sounds;", Cond.fieldLink RX0 78 "DrumTalk$Sounds" "size" "I", Cond.methodLink RX0 70 yX2_isDrumming, Cond.instanceMethod yX2_isDrumming, Cond.selects RX2 yX2_isDrumming yX2_isDrumming, Cond.initialized RX2, Cond.code yX2_isDrumming cX2_isDrumming 1 (some .boolean), Cond.fieldLink RX2 18 "DrumTalk$Village" "drumming" "I", Cond.methodLink RX0 103 yX0_goBeat, Cond.instanceMethod yX0_goBeat, Cond.selects RX0 yX0_goBeat yX0_goBeat, Cond.code yX0_goBeat cX0_goBeat 3 (some .int), Cond.methodLink RX0 109 yX2_isReady, Cond.instanceMethod yX2_isReady, Cond.selects RX2 yX2_isReady yX2_isReady]
def wsX0_letGo_r2 : List Cond := [Cond.code yX2_isReady cX2_isReady 2 (some .boolean), Cond.fieldLink RX2 63 "DrumTalk$Village" "queued" "I", Cond.methodLink RX2 87 yX2_isDrumming, Cond.methodLink RX2 73 yX2_isAwake, Cond.instanceMethod yX2_isAwake, Cond.selects RX2 yX2_isAwake yX2_isAwake, Cond.code yX2_isAwake cX2_isAwake 2 (some .boolean), Cond.fieldLink RX2 51 "DrumTalk$Village" "awakeFrom" "I", Cond.fieldLink RX2 15 "DrumTalk$Village" "awakeBeats" "I", Cond.methodLink RX2 81 yJ9_floorMod_7cf53, Cond.static yJ9_floorMod_7cf53, Cond.initialized RJ9, Cond.code yJ9_floorMod_7cf53 cJ9_floorMod_7cf53 3 (some .int), Cond.methodLink RX0 112 yX0_beginDrumming, Cond.instanceMethod yX0_beginDrumming, Cond.selects RX0 yX0_beginDrumming yX0_beginDrumming, Cond.code yX0_beginDrumming cX0_beginDrumming 9 none, Cond.fieldLink RX0 39 "DrumTalk$Land" "phraseCount" "I", Cond.fieldLink RX0 21 "DrumTalk$Land" "toneCounts" "[I", Cond.fieldLink RX0 129 "DrumTalk$Village" "drumming" "I", Cond.fieldLink RX0 132 "DrumTalk$Village" "beatsLeft" "I", Cond.fieldLink RX0 45 "DrumTalk$Land" "drummings" "I", Cond.fieldLink RX0 139 "DrumTalk$Village" "cliff" "Z", Cond.methodLink RX0 126 yX2_takeFromQueue]
def wsX0_letGo_r3 : List Cond := [Cond.instanceMethod yX2_takeFromQueue, Cond.selects RX2 yX2_takeFromQueue yX2_takeFromQueue, Cond.code yX2_takeFromQueue cX2_takeFromQueue 2 (some .int), Cond.fieldLink RX2 21 "DrumTalk$Village" "queue" "[I", Cond.methodLink RX2 57 arraycopyName, Cond.native arraycopyName, Cond.static arraycopyName, Cond.initialized "java/lang/System", Cond.methodLink RX0 93 yX2_distanceTo, Cond.instanceMethod yX2_distanceTo, Cond.selects RX2 yX2_distanceTo yX2_distanceTo, Cond.code yX2_distanceTo cX2_distanceTo 2 (some .int), Cond.fieldLink RX2 41 "DrumTalk$Village" "x" "I", Cond.methodLink RX2 91 Lib.Math.abs.name, Cond.static Lib.Math.abs.name, Cond.initialized "java/lang/Math", Cond.code Lib.Math.abs.name Lib.Math.abs.code 1 (some .int), Cond.fieldLink RX2 44 "DrumTalk$Village" "y" "I", Cond.methodLink RX0 97 yX2_isHeardAt, Cond.instanceMethod yX2_isHeardAt, Cond.selects RX2 yX2_isHeardAt yX2_isHeardAt, Cond.code yX2_isHeardAt cX2_isHeardAt 2 (some .boolean), Cond.fieldLink RX2 9 "DrumTalk$Village" "drum" "I", Cond.methodLink RX0 135 yX1_add]
def wsX0_letGo_r4 : List Cond := [Cond.instanceMethod yX1_add, Cond.selects RX1 yX1_add yX1_add, Cond.initialized RX1, Cond.code yX1_add cX1_add 4 none, Cond.fieldLink RX1 24 "DrumTalk$Sounds" "size" "I", Cond.fieldLink RX1 9 "DrumTalk$Sounds" "phrases" "[I", Cond.fieldLink RX1 15 "DrumTalk$Sounds" "firstBeats" "[I", Cond.fieldLink RX1 18 "DrumTalk$Sounds" "lastBeats" "[I", Cond.fieldLink RX1 21 "DrumTalk$Sounds" "drowned" "[I", Cond.methodLink RX0 116 yX2_drownIfDisturbed, Cond.instanceMethod yX2_drownIfDisturbed, Cond.selects RX2 yX2_drownIfDisturbed yX2_drownIfDisturbed, Cond.code yX2_drownIfDisturbed cX2_drownIfDisturbed 2 none, Cond.fieldLink RX2 31 "DrumTalk$Village" "inTheAir" "LDrumTalk$Sounds;", Cond.methodLink RX2 98 yX1_lasting, Cond.instanceMethod yX1_lasting, Cond.selects RX1 yX1_lasting yX1_lasting, Cond.code yX1_lasting cX1_lasting 4 (some .int), Cond.methodLink RX2 101 yX1_drown, Cond.instanceMethod yX1_drown, Cond.selects RX1 yX1_drown yX1_drown, Cond.code yX1_drown cX1_drown 3 none, Cond.methodLink RX0 119 yX2_endSounds, Cond.instanceMethod yX2_endSounds]
def wsX0_letGo_r5 : List Cond := [Cond.selects RX2 yX2_endSounds yX2_endSounds, Cond.code yX2_endSounds cX2_endSounds 5 (some .int), Cond.fieldLink RX2 105 "DrumTalk$Sounds" "size" "I", Cond.fieldLink RX2 108 "DrumTalk$Sounds" "lastBeats" "[I", Cond.fieldLink RX2 115 "DrumTalk$Sounds" "drowned" "[I", Cond.fieldLink RX2 70 "DrumTalk$Village" "drowned" "I", Cond.fieldLink RX2 117 "DrumTalk$Sounds" "phrases" "[I", Cond.methodLink RX2 111 yX1_move, Cond.instanceMethod yX1_move, Cond.selects RX1 yX1_move yX1_move, Cond.code yX1_move cX1_move 3 none, Cond.methodLink RX2 95 yX2_isKnown, Cond.instanceMethod yX2_isKnown, Cond.selects RX2 yX2_isKnown yX2_isKnown, Cond.code yX2_isKnown cX2_isKnown 2 (some .boolean), Cond.fieldLink RX2 25 "DrumTalk$Village" "knownSince" "[I", Cond.methodLink RX2 120 yX2_takeIn, Cond.instanceMethod yX2_takeIn, Cond.selects RX2 yX2_takeIn yX2_takeIn, Cond.code yX2_takeIn cX2_takeIn 3 none, Cond.methodLink RX0 123 yX2_endDrumBeat, Cond.instanceMethod yX2_endDrumBeat, Cond.selects RX2 yX2_endDrumBeat yX2_endDrumBeat, Cond.code yX2_endDrumBeat cX2_endDrumBeat 1 none]
def wsX0_letGo_r6 : List Cond := [Cond.fieldLink RX2 54 "DrumTalk$Village" "beatsLeft" "I"]
def wsX0_letGo : List Cond := .code yX0_letGo cX0_letGo 4 (some .int) :: ((wsX0_letGo_r1 ++ (wsX0_letGo_r2 ++ (wsX0_letGo_r3 ++ (wsX0_letGo_r4 ++ (wsX0_letGo_r5 ++ wsX0_letGo_r6))))) ++ wsX00 ++ wsX20 ++ wsX10)
def wsX2_figure_r1 : List Cond := [Cond.fieldLink RX2 41 "DrumTalk$Village" "x" "I", Cond.fieldLink RX2 44 "DrumTalk$Village" "y" "I", Cond.fieldLink RX2 9 "DrumTalk$Village" "drum" "I", Cond.fieldLink RX2 47 "DrumTalk$Village" "cliff" "Z", Cond.fieldLink RX2 18 "DrumTalk$Village" "drumming" "I", Cond.fieldLink RX2 54 "DrumTalk$Village" "beatsLeft" "I", Cond.fieldLink RX2 63 "DrumTalk$Village" "queued" "I", Cond.fieldLink RX2 70 "DrumTalk$Village" "drowned" "I", Cond.methodLink RX2 73 yX2_isAwake, Cond.instanceMethod yX2_isAwake, Cond.selects RX2 yX2_isAwake yX2_isAwake, Cond.initialized RX2, Cond.code yX2_isAwake cX2_isAwake 2 (some .boolean), Cond.fieldLink RX2 51 "DrumTalk$Village" "awakeFrom" "I", Cond.fieldLink RX2 15 "DrumTalk$Village" "awakeBeats" "I", Cond.methodLink RX2 81 yJ9_floorMod_7cf53, Cond.static yJ9_floorMod_7cf53, Cond.initialized RJ9, Cond.code yJ9_floorMod_7cf53 cJ9_floorMod_7cf53 3 (some .int), Cond.methodLink RX2 77 yX2_phrasesKnown, Cond.instanceMethod yX2_phrasesKnown, Cond.selects RX2 yX2_phrasesKnown yX2_phrasesKnown, Cond.code yX2_phrasesKnown cX2_phrasesKnown 3 (some .int), Cond.methodLink RX2 95 yX2_isKnown]
def wsX2_figure_r2 : List Cond := [Cond.instanceMethod yX2_isKnown, Cond.selects RX2 yX2_isKnown yX2_isKnown, Cond.code yX2_isKnown cX2_isKnown 2 (some .boolean), Cond.fieldLink RX2 25 "DrumTalk$Village" "knownSince" "[I"]
def wsX2_figure : List Cond := .code yX2_figure cX2_figure 3 (some .int) :: ((wsX2_figure_r1 ++ wsX2_figure_r2) ++ wsX20)
def wsX3_init_r1 : List Cond := [Cond.methodLink RX3 3 objectInit, Cond.instanceMethod objectInit, Cond.code objectInit ⟨#[0xb1]⟩ 1 none, Cond.classLink RX3 9 RX0, Cond.instantiable RX0 7, Cond.initialized RX0, Cond.fieldLink RX3 12 "DrumTalk" "land" "LDrumTalk$Land;", Cond.fieldLink RX3 16 "DrumTalk" "trial" "LDrumTalk$Land;", Cond.methodLink RX3 11 yX0_init, Cond.instanceMethod yX0_init, Cond.code yX0_init cX0_init 2 none, Cond.methodLink RX0 3 objectInit, Cond.classLink RX0 9 RX2, Cond.fieldLink RX0 11 "DrumTalk$Land" "villages" "[LDrumTalk$Village;", Cond.arrayClass .int, Cond.fieldLink RX0 17 "DrumTalk$Land" "tones" "[I", Cond.fieldLink RX0 21 "DrumTalk$Land" "toneCounts" "[I", Cond.instantiable RX2 13, Cond.initialized RX2, Cond.methodLink RX0 24 yX2_init, Cond.instanceMethod yX2_init, Cond.code yX2_init cX2_init 1 none, Cond.methodLink RX2 3 objectInit, Cond.fieldLink RX2 9 "DrumTalk$Village" "drum" "I"]
def wsX3_init_r2 : List Cond := [Cond.fieldLink RX2 15 "DrumTalk$Village" "awakeBeats" "I", Cond.fieldLink RX2 18 "DrumTalk$Village" "drumming" "I", Cond.fieldLink RX2 21 "DrumTalk$Village" "queue" "[I", Cond.fieldLink RX2 25 "DrumTalk$Village" "knownSince" "[I", Cond.classLink RX2 28 RX1, Cond.instantiable RX1 5, Cond.initialized RX1, Cond.fieldLink RX2 31 "DrumTalk$Village" "inTheAir" "LDrumTalk$Sounds;", Cond.instanceMethod yX1_init, Cond.code yX1_init cX1_init 1 none, Cond.methodLink RX1 3 objectInit, Cond.fieldLink RX1 9 "DrumTalk$Sounds" "phrases" "[I", Cond.fieldLink RX1 15 "DrumTalk$Sounds" "firstBeats" "[I", Cond.fieldLink RX1 18 "DrumTalk$Sounds" "lastBeats" "[I", Cond.fieldLink RX1 21 "DrumTalk$Sounds" "drowned" "[I", Cond.methodLink RX2 35 yJ7_fill_53178, Cond.static yJ7_fill_53178, Cond.initialized RJ7, Cond.code yJ7_fill_53178 cJ7_fill_53178 4 none]
def wsX3_init : List Cond := .code yX3_init cX3_init 1 none :: ((wsX3_init_r1 ++ wsX3_init_r2) ++ wsX00 ++ wsX30 ++ wsX20 ++ wsX10)
def wsX3_isPlace : List Cond := .code yX3_isPlace cX3_isPlace 1 (some .boolean) :: ([])
def wsX3_isDrum : List Cond := .code yX3_isDrum cX3_isDrum 1 (some .boolean) :: ([])
def wsX3_found_r1 : List Cond := [Cond.classLink RX3 26 "java/lang/IllegalArgumentException", Cond.initialized "java/lang/IllegalArgumentException", Cond.classLink RX3 41 "java/lang/IllegalStateException", Cond.initialized "java/lang/IllegalStateException", Cond.fieldLink RX3 12 "DrumTalk" "land" "LDrumTalk$Land;", Cond.fieldLink RX3 33 "DrumTalk$Land" "villageCount" "I", Cond.methodLink RX3 19 yX3_isPlace, Cond.static yX3_isPlace, Cond.initialized RX3, Cond.code yX3_isPlace cX3_isPlace 1 (some .boolean), Cond.methodLink RX3 23 yX3_isDrum, Cond.static yX3_isDrum, Cond.code yX3_isDrum cX3_isDrum 1 (some .boolean), Cond.methodLink RX3 37 yX0_hasVillageAt, Cond.instanceMethod yX0_hasVillageAt, Cond.selects RX0 yX0_hasVillageAt yX0_hasVillageAt, Cond.initialized RX0, Cond.code yX0_hasVillageAt cX0_hasVillageAt 4 (some .boolean), Cond.fieldLink RX0 25 "DrumTalk$Land" "villageCount" "I", Cond.fieldLink RX0 11 "DrumTalk$Land" "villages" "[LDrumTalk$Village;", Cond.fieldLink RX0 48 "DrumTalk$Village" "x" "I", Cond.fieldLink RX0 51 "DrumTalk$Village" "y" "I", Cond.methodLink RX3 46 yX0_addVillage, Cond.instanceMethod yX0_addVillage]
def wsX3_found_r2 : List Cond := [Cond.selects RX0 yX0_addVillage yX0_addVillage, Cond.code yX0_addVillage cX0_addVillage 5 (some .int), Cond.fieldLink RX0 54 "DrumTalk$Village" "drum" "I"]
def wsX3_found : List Cond := .code yX3_found cX3_found 4 (some .int) :: ((wsX3_found_r1 ++ wsX3_found_r2) ++ wsX30 ++ wsX00 ++ wsX20 ++ (vx_atS RX3 30 "java/lang/IllegalArgumentException" ["java/lang/RuntimeException", "java/lang/Exception"]).filter goodWord ++ (vx_atS RX3 45 "java/lang/IllegalStateException" ["java/lang/RuntimeException", "java/lang/Exception"]).filter goodWord)
def wsX3_checkVillage : List Cond := .code yX3_checkVillage cX3_checkVillage 2 none :: ([.classLink RX3 107 "java/lang/IndexOutOfBoundsException", .initialized "java/lang/IndexOutOfBoundsException", .fieldLink RX3 12 "DrumTalk" "land" "LDrumTalk$Land;", .fieldLink RX3 33 "DrumTalk$Land" "villageCount" "I"] ++ wsX30 ++ wsX00 ++ (vx_atS RX3 111 "java/lang/IndexOutOfBoundsException" ["java/lang/RuntimeException", "java/lang/Exception"]).filter goodWord)
def wsX3_villageOf : List Cond := .code yX3_villageOf cX3_villageOf 2 (some (.object "DrumTalk$Village")) :: ([.fieldLink RX3 12 "DrumTalk" "land" "LDrumTalk$Land;", .fieldLink RX3 152 "DrumTalk$Land" "villages" "[LDrumTalk$Village;", .methodLink RX3 137 yX3_checkVillage, .instanceMethod yX3_checkVillage, .selects RX3 yX3_checkVillage yX3_checkVillage, .initialized RX3, .code yX3_checkVillage cX3_checkVillage 2 none, .classLink RX3 107 "java/lang/IndexOutOfBoundsException", .initialized "java/lang/IndexOutOfBoundsException", .fieldLink RX3 33 "DrumTalk$Land" "villageCount" "I"] ++ wsX30 ++ wsX00 ++ (vx_atS RX3 111 "java/lang/IndexOutOfBoundsException" ["java/lang/RuntimeException", "java/lang/Exception"]).filter goodWord)
def wsX3_setDrum : List Cond := .code yX3_setDrum cX3_setDrum 5 (some .int) :: ([.classLink RX3 26 "java/lang/IllegalArgumentException", .initialized "java/lang/IllegalArgumentException", .fieldLink RX3 56 "DrumTalk$Village" "drum" "I", .methodLink RX3 50 yX3_villageOf, .instanceMethod yX3_villageOf, .selects RX3 yX3_villageOf yX3_villageOf, .initialized RX3, .code yX3_villageOf cX3_villageOf 2 (some (.object "DrumTalk$Village")), .fieldLink RX3 12 "DrumTalk" "land" "LDrumTalk$Land;", .fieldLink RX3 152 "DrumTalk$Land" "villages" "[LDrumTalk$Village;", .methodLink RX3 137 yX3_checkVillage, .instanceMethod yX3_checkVillage, .selects RX3 yX3_checkVillage yX3_checkVillage, .code yX3_checkVillage cX3_checkVillage 2 none, .classLink RX3 107 "java/lang/IndexOutOfBoundsException", .initialized "java/lang/IndexOutOfBoundsException", .fieldLink RX3 33 "DrumTalk$Land" "villageCount" "I", .methodLink RX3 23 yX3_isDrum, .static yX3_isDrum, .code yX3_isDrum cX3_isDrum 1 (some .boolean)] ++ wsX20 ++ wsX30 ++ wsX00 ++ (vx_atS RX3 30 "java/lang/IllegalArgumentException" ["java/lang/RuntimeException", "java/lang/Exception"]).filter goodWord ++ (vx_atS RX3 111 "java/lang/IndexOutOfBoundsException" ["java/lang/RuntimeException", "java/lang/Exception"]).filter goodWord)
def wsX3_setCliff : List Cond := .code yX3_setCliff cX3_setCliff 5 (some .boolean) :: ([.fieldLink RX3 61 "DrumTalk$Village" "cliff" "Z", .methodLink RX3 50 yX3_villageOf, .instanceMethod yX3_villageOf, .selects RX3 yX3_villageOf yX3_villageOf, .initialized RX3, .code yX3_villageOf cX3_villageOf 2 (some (.object "DrumTalk$Village")), .fieldLink RX3 12 "DrumTalk" "land" "LDrumTalk$Land;", .fieldLink RX3 152 "DrumTalk$Land" "villages" "[LDrumTalk$Village;", .methodLink RX3 137 yX3_checkVillage, .instanceMethod yX3_checkVillage, .selects RX3 yX3_checkVillage yX3_checkVillage, .code yX3_checkVillage cX3_checkVillage 2 none, .classLink RX3 107 "java/lang/IndexOutOfBoundsException", .initialized "java/lang/IndexOutOfBoundsException", .fieldLink RX3 33 "DrumTalk$Land" "villageCount" "I"] ++ wsX20 ++ wsX30 ++ wsX00 ++ (vx_atS RX3 111 "java/lang/IndexOutOfBoundsException" ["java/lang/RuntimeException", "java/lang/Exception"]).filter goodWord)
def wsX3_setAwake : List Cond := .code yX3_setAwake cX3_setAwake 6 (some .int) :: ([.classLink RX3 26 "java/lang/IllegalArgumentException", .initialized "java/lang/IllegalArgumentException", .fieldLink RX3 67 "DrumTalk$Village" "awakeBeats" "I", .fieldLink RX3 70 "DrumTalk$Village" "awakeFrom" "I", .methodLink RX3 50 yX3_villageOf, .instanceMethod yX3_villageOf, .selects RX3 yX3_villageOf yX3_villageOf, .initialized RX3, .code yX3_villageOf cX3_villageOf 2 (some (.object "DrumTalk$Village")), .fieldLink RX3 12 "DrumTalk" "land" "LDrumTalk$Land;", .fieldLink RX3 152 "DrumTalk$Land" "villages" "[LDrumTalk$Village;", .methodLink RX3 137 yX3_checkVillage, .instanceMethod yX3_checkVillage, .selects RX3 yX3_checkVillage yX3_checkVillage, .code yX3_checkVillage cX3_checkVillage 2 none, .classLink RX3 107 "java/lang/IndexOutOfBoundsException", .initialized "java/lang/IndexOutOfBoundsException", .fieldLink RX3 33 "DrumTalk$Land" "villageCount" "I"] ++ wsX20 ++ wsX30 ++ wsX00 ++ (vx_atS RX3 30 "java/lang/IllegalArgumentException" ["java/lang/RuntimeException", "java/lang/Exception"]).filter goodWord ++ (vx_atS RX3 111 "java/lang/IndexOutOfBoundsException" ["java/lang/RuntimeException", "java/lang/Exception"]).filter goodWord)
def wsX3_countTones : List Cond := .code yX3_countTones cX3_countTones 4 (some .int) :: ([])
def wsX3_phrase : List Cond := .code yX3_phrase cX3_phrase 3 (some .int) :: ([.classLink RX3 26 "java/lang/IllegalArgumentException", .initialized "java/lang/IllegalArgumentException", .classLink RX3 41 "java/lang/IllegalStateException", .initialized "java/lang/IllegalStateException", .fieldLink RX3 12 "DrumTalk" "land" "LDrumTalk$Land;", .fieldLink RX3 79 "DrumTalk$Land" "phraseCount" "I", .methodLink RX3 73 yX3_countTones, .static yX3_countTones, .initialized RX3, .code yX3_countTones cX3_countTones 4 (some .int), .methodLink RX3 82 yX0_hasPhrase, .instanceMethod yX0_hasPhrase, .selects RX0 yX0_hasPhrase yX0_hasPhrase, .initialized RX0, .code yX0_hasPhrase cX0_hasPhrase 3 (some .boolean), .fieldLink RX0 39 "DrumTalk$Land" "phraseCount" "I", .fieldLink RX0 17 "DrumTalk$Land" "tones" "[I", .methodLink RX3 87 yX0_addPhrase, .instanceMethod yX0_addPhrase, .selects RX0 yX0_addPhrase yX0_addPhrase, .code yX0_addPhrase cX0_addPhrase 3 (some .int), .fieldLink RX0 21 "DrumTalk$Land" "toneCounts" "[I"] ++ wsX30 ++ wsX00 ++ (vx_atS RX3 30 "java/lang/IllegalArgumentException" ["java/lang/RuntimeException", "java/lang/Exception"]).filter goodWord ++ (vx_atS RX3 45 "java/lang/IllegalStateException" ["java/lang/RuntimeException", "java/lang/Exception"]).filter goodWord)
def wsX3_checkPhrase : List Cond := .code yX3_checkPhrase cX3_checkPhrase 2 none :: ([.classLink RX3 107 "java/lang/IndexOutOfBoundsException", .initialized "java/lang/IndexOutOfBoundsException", .fieldLink RX3 12 "DrumTalk" "land" "LDrumTalk$Land;", .fieldLink RX3 79 "DrumTalk$Land" "phraseCount" "I"] ++ wsX30 ++ wsX00 ++ (vx_atS RX3 111 "java/lang/IndexOutOfBoundsException" ["java/lang/RuntimeException", "java/lang/Exception"]).filter goodWord)
def wsX3_tell_r1 : List Cond := [Cond.classLink RX3 41 "java/lang/IllegalStateException", Cond.initialized "java/lang/IllegalStateException", Cond.fieldLink RX3 95 "DrumTalk$Village" "queued" "I", Cond.fieldLink RX3 12 "DrumTalk" "land" "LDrumTalk$Land;", Cond.fieldLink RX3 100 "DrumTalk$Land" "beat" "I", Cond.methodLink RX3 50 yX3_villageOf, Cond.instanceMethod yX3_villageOf, Cond.selects RX3 yX3_villageOf yX3_villageOf, Cond.initialized RX3, Cond.code yX3_villageOf cX3_villageOf 2 (some (.object "DrumTalk$Village")), Cond.fieldLink RX3 152 "DrumTalk$Land" "villages" "[LDrumTalk$Village;", Cond.methodLink RX3 137 yX3_checkVillage, Cond.instanceMethod yX3_checkVillage, Cond.selects RX3 yX3_checkVillage yX3_checkVillage, Cond.code yX3_checkVillage cX3_checkVillage 2 none, Cond.classLink RX3 107 "java/lang/IndexOutOfBoundsException", Cond.initialized "java/lang/IndexOutOfBoundsException", Cond.fieldLink RX3 33 "DrumTalk$Land" "villageCount" "I", Cond.methodLink RX3 91 yX3_checkPhrase, Cond.instanceMethod yX3_checkPhrase, Cond.selects RX3 yX3_checkPhrase yX3_checkPhrase, Cond.code yX3_checkPhrase cX3_checkPhrase 2 none, Cond.fieldLink RX3 79 "DrumTalk$Land" "phraseCount" "I", Cond.methodLink RX3 103 yX2_takeIn]
def wsX3_tell_r2 : List Cond := [Cond.instanceMethod yX2_takeIn, Cond.selects RX2 yX2_takeIn yX2_takeIn, Cond.initialized RX2, Cond.code yX2_takeIn cX2_takeIn 3 none, Cond.fieldLink RX2 25 "DrumTalk$Village" "knownSince" "[I", Cond.fieldLink RX2 63 "DrumTalk$Village" "queued" "I", Cond.fieldLink RX2 21 "DrumTalk$Village" "queue" "[I"]
def wsX3_tell : List Cond := .code yX3_tell cX3_tell 4 (some .int) :: ((wsX3_tell_r1 ++ wsX3_tell_r2) ++ wsX20 ++ wsX30 ++ wsX00 ++ (vx_atS RX3 45 "java/lang/IllegalStateException" ["java/lang/RuntimeException", "java/lang/Exception"]).filter goodWord ++ (vx_atS RX3 111 "java/lang/IndexOutOfBoundsException" ["java/lang/RuntimeException", "java/lang/Exception"]).filter goodWord)
def wsX3_village_r1 : List Cond := [Cond.classLink RX3 107 "java/lang/IndexOutOfBoundsException", Cond.initialized "java/lang/IndexOutOfBoundsException", Cond.fieldLink RX3 12 "DrumTalk" "land" "LDrumTalk$Land;", Cond.fieldLink RX3 100 "DrumTalk$Land" "beat" "I", Cond.methodLink RX3 50 yX3_villageOf, Cond.instanceMethod yX3_villageOf, Cond.selects RX3 yX3_villageOf yX3_villageOf, Cond.initialized RX3, Cond.code yX3_villageOf cX3_villageOf 2 (some (.object "DrumTalk$Village")), Cond.fieldLink RX3 152 "DrumTalk$Land" "villages" "[LDrumTalk$Village;", Cond.methodLink RX3 137 yX3_checkVillage, Cond.instanceMethod yX3_checkVillage, Cond.selects RX3 yX3_checkVillage yX3_checkVillage, Cond.code yX3_checkVillage cX3_checkVillage 2 none, Cond.fieldLink RX3 33 "DrumTalk$Land" "villageCount" "I", Cond.methodLink RX3 112 yX2_figure, Cond.instanceMethod yX2_figure, Cond.selects RX2 yX2_figure yX2_figure, Cond.initialized RX2, Cond.code yX2_figure cX2_figure 3 (some .int), Cond.fieldLink RX2 41 "DrumTalk$Village" "x" "I", Cond.fieldLink RX2 44 "DrumTalk$Village" "y" "I", Cond.fieldLink RX2 9 "DrumTalk$Village" "drum" "I", Cond.fieldLink RX2 47 "DrumTalk$Village" "cliff" "Z"]
def wsX3_village_r2 : List Cond := [Cond.fieldLink RX2 18 "DrumTalk$Village" "drumming" "I", Cond.fieldLink RX2 54 "DrumTalk$Village" "beatsLeft" "I", Cond.fieldLink RX2 63 "DrumTalk$Village" "queued" "I", Cond.fieldLink RX2 70 "DrumTalk$Village" "drowned" "I", Cond.methodLink RX2 73 yX2_isAwake, Cond.instanceMethod yX2_isAwake, Cond.selects RX2 yX2_isAwake yX2_isAwake, Cond.code yX2_isAwake cX2_isAwake 2 (some .boolean), Cond.fieldLink RX2 51 "DrumTalk$Village" "awakeFrom" "I", Cond.fieldLink RX2 15 "DrumTalk$Village" "awakeBeats" "I", Cond.methodLink RX2 81 yJ9_floorMod_7cf53, Cond.static yJ9_floorMod_7cf53, Cond.initialized RJ9, Cond.code yJ9_floorMod_7cf53 cJ9_floorMod_7cf53 3 (some .int), Cond.methodLink RX2 77 yX2_phrasesKnown, Cond.instanceMethod yX2_phrasesKnown, Cond.selects RX2 yX2_phrasesKnown yX2_phrasesKnown, Cond.code yX2_phrasesKnown cX2_phrasesKnown 3 (some .int), Cond.methodLink RX2 95 yX2_isKnown, Cond.instanceMethod yX2_isKnown, Cond.selects RX2 yX2_isKnown yX2_isKnown, Cond.code yX2_isKnown cX2_isKnown 2 (some .boolean), Cond.fieldLink RX2 25 "DrumTalk$Village" "knownSince" "[I"]
def wsX3_village : List Cond := .code yX3_village cX3_village 4 (some .int) :: ((wsX3_village_r1 ++ wsX3_village_r2) ++ wsX30 ++ wsX00 ++ wsX20 ++ (vx_atS RX3 111 "java/lang/IndexOutOfBoundsException" ["java/lang/RuntimeException", "java/lang/Exception"]).filter goodWord)
def wsX3_queue : List Cond := .code yX3_queue cX3_queue 4 (some .int) :: ([.classLink RX3 107 "java/lang/IndexOutOfBoundsException", .initialized "java/lang/IndexOutOfBoundsException", .fieldLink RX3 95 "DrumTalk$Village" "queued" "I", .fieldLink RX3 117 "DrumTalk$Village" "queue" "[I", .methodLink RX3 50 yX3_villageOf, .instanceMethod yX3_villageOf, .selects RX3 yX3_villageOf yX3_villageOf, .initialized RX3, .code yX3_villageOf cX3_villageOf 2 (some (.object "DrumTalk$Village")), .fieldLink RX3 12 "DrumTalk" "land" "LDrumTalk$Land;", .fieldLink RX3 152 "DrumTalk$Land" "villages" "[LDrumTalk$Village;", .methodLink RX3 137 yX3_checkVillage, .instanceMethod yX3_checkVillage, .selects RX3 yX3_checkVillage yX3_checkVillage, .code yX3_checkVillage cX3_checkVillage 2 none, .fieldLink RX3 33 "DrumTalk$Land" "villageCount" "I"] ++ wsX20 ++ wsX30 ++ wsX00 ++ (vx_atS RX3 111 "java/lang/IndexOutOfBoundsException" ["java/lang/RuntimeException", "java/lang/Exception"]).filter goodWord)
def wsX3_knows : List Cond := .code yX3_knows cX3_knows 4 (some .int) :: ([.fieldLink RX3 121 "DrumTalk$Village" "knownSince" "[I", .methodLink RX3 50 yX3_villageOf, .instanceMethod yX3_villageOf, .selects RX3 yX3_villageOf yX3_villageOf, .initialized RX3, .code yX3_villageOf cX3_villageOf 2 (some (.object "DrumTalk$Village")), .fieldLink RX3 12 "DrumTalk" "land" "LDrumTalk$Land;", .fieldLink RX3 152 "DrumTalk$Land" "villages" "[LDrumTalk$Village;", .methodLink RX3 137 yX3_checkVillage, .instanceMethod yX3_checkVillage, .selects RX3 yX3_checkVillage yX3_checkVillage, .code yX3_checkVillage cX3_checkVillage 2 none, .classLink RX3 107 "java/lang/IndexOutOfBoundsException", .initialized "java/lang/IndexOutOfBoundsException", .fieldLink RX3 33 "DrumTalk$Land" "villageCount" "I", .methodLink RX3 91 yX3_checkPhrase, .instanceMethod yX3_checkPhrase, .selects RX3 yX3_checkPhrase yX3_checkPhrase, .code yX3_checkPhrase cX3_checkPhrase 2 none, .fieldLink RX3 79 "DrumTalk$Land" "phraseCount" "I"] ++ wsX20 ++ wsX30 ++ wsX00 ++ (vx_atS RX3 111 "java/lang/IndexOutOfBoundsException" ["java/lang/RuntimeException", "java/lang/Exception"]).filter goodWord)
def wsX3_sounds : List Cond := .code yX3_sounds cX3_sounds 2 (some .int) :: ([.fieldLink RX3 124 "DrumTalk$Village" "inTheAir" "LDrumTalk$Sounds;", .fieldLink RX3 12 "DrumTalk" "land" "LDrumTalk$Land;", .fieldLink RX3 100 "DrumTalk$Land" "beat" "I", .methodLink RX3 50 yX3_villageOf, .instanceMethod yX3_villageOf, .selects RX3 yX3_villageOf yX3_villageOf, .initialized RX3, .code yX3_villageOf cX3_villageOf 2 (some (.object "DrumTalk$Village")), .fieldLink RX3 152 "DrumTalk$Land" "villages" "[LDrumTalk$Village;", .methodLink RX3 137 yX3_checkVillage, .instanceMethod yX3_checkVillage, .selects RX3 yX3_checkVillage yX3_checkVillage, .code yX3_checkVillage cX3_checkVillage 2 none, .classLink RX3 107 "java/lang/IndexOutOfBoundsException", .initialized "java/lang/IndexOutOfBoundsException", .fieldLink RX3 33 "DrumTalk$Land" "villageCount" "I", .methodLink RX3 128 yX1_lasting, .instanceMethod yX1_lasting, .selects RX1 yX1_lasting yX1_lasting, .initialized RX1, .code yX1_lasting cX1_lasting 4 (some .int), .fieldLink RX1 24 "DrumTalk$Sounds" "size" "I", .fieldLink RX1 15 "DrumTalk$Sounds" "firstBeats" "[I"] ++ wsX20 ++ wsX30 ++ wsX00 ++ wsX10 ++ (vx_atS RX3 111 "java/lang/IndexOutOfBoundsException" ["java/lang/RuntimeException", "java/lang/Exception"]).filter goodWord)
def wsX3_count_r1 : List Cond := [Cond.classLink RX3 107 "java/lang/IndexOutOfBoundsException", Cond.initialized "java/lang/IndexOutOfBoundsException", Cond.fieldLink RX3 12 "DrumTalk" "land" "LDrumTalk$Land;", Cond.methodLink RX3 135 yX0_figure, Cond.instanceMethod yX0_figure, Cond.selects RX0 yX0_figure yX0_figure, Cond.initialized RX0, Cond.code yX0_figure cX0_figure 2 (some .int), Cond.fieldLink RX0 42 "DrumTalk$Land" "beat" "I", Cond.fieldLink RX0 25 "DrumTalk$Land" "villageCount" "I", Cond.fieldLink RX0 39 "DrumTalk$Land" "phraseCount" "I", Cond.fieldLink RX0 45 "DrumTalk$Land" "drummings" "I", Cond.methodLink RX0 57 yX0_drummers, Cond.instanceMethod yX0_drummers, Cond.selects RX0 yX0_drummers yX0_drummers, Cond.code yX0_drummers cX0_drummers 3 (some .int), Cond.fieldLink RX0 11 "DrumTalk$Land" "villages" "[LDrumTalk$Village;", Cond.methodLink RX0 70 yX2_isDrumming, Cond.instanceMethod yX2_isDrumming, Cond.selects RX2 yX2_isDrumming yX2_isDrumming, Cond.initialized RX2, Cond.code yX2_isDrumming cX2_isDrumming 1 (some .boolean), Cond.fieldLink RX2 18 "DrumTalk$Village" "drumming" "I", Cond.methodLink RX0 61 yX0_soundsInTheAir]
def wsX3_count_r2 : List Cond := [Cond.instanceMethod yX0_soundsInTheAir, Cond.selects RX0 yX0_soundsInTheAir yX0_soundsInTheAir, Cond.code yX0_soundsInTheAir cX0_soundsInTheAir 3 (some .int), Cond.fieldLink RX0 74 "DrumTalk$Village" "inTheAir" "LDrumTalk$Sounds;", Cond.fieldLink RX0 78 "DrumTalk$Sounds" "size" "I", Cond.methodLink RX0 64 yX0_soundsDrowned, Cond.instanceMethod yX0_soundsDrowned, Cond.selects RX0 yX0_soundsDrowned yX0_soundsDrowned, Cond.code yX0_soundsDrowned cX0_soundsDrowned 3 (some .int), Cond.fieldLink RX0 83 "DrumTalk$Village" "drowned" "I", Cond.methodLink RX0 67 yX0_knownPairs, Cond.instanceMethod yX0_knownPairs, Cond.selects RX0 yX0_knownPairs yX0_knownPairs, Cond.code yX0_knownPairs cX0_knownPairs 3 (some .int), Cond.methodLink RX0 86 yX2_phrasesKnown, Cond.instanceMethod yX2_phrasesKnown, Cond.selects RX2 yX2_phrasesKnown yX2_phrasesKnown, Cond.code yX2_phrasesKnown cX2_phrasesKnown 3 (some .int), Cond.methodLink RX2 95 yX2_isKnown, Cond.instanceMethod yX2_isKnown, Cond.selects RX2 yX2_isKnown yX2_isKnown, Cond.code yX2_isKnown cX2_isKnown 2 (some .boolean), Cond.fieldLink RX2 25 "DrumTalk$Village" "knownSince" "[I"]
def wsX3_count : List Cond := .code yX3_count cX3_count 2 (some .int) :: ((wsX3_count_r1 ++ wsX3_count_r2) ++ wsX30 ++ wsX00 ++ wsX20 ++ wsX10 ++ (vx_atS RX3 111 "java/lang/IndexOutOfBoundsException" ["java/lang/RuntimeException", "java/lang/Exception"]).filter goodWord)
def wsX3_way_r1 : List Cond := [Cond.fieldLink RX3 12 "DrumTalk" "land" "LDrumTalk$Land;", Cond.methodLink RX3 137 yX3_checkVillage, Cond.instanceMethod yX3_checkVillage, Cond.selects RX3 yX3_checkVillage yX3_checkVillage, Cond.initialized RX3, Cond.code yX3_checkVillage cX3_checkVillage 2 none, Cond.classLink RX3 107 "java/lang/IndexOutOfBoundsException", Cond.initialized "java/lang/IndexOutOfBoundsException", Cond.fieldLink RX3 33 "DrumTalk$Land" "villageCount" "I", Cond.methodLink RX3 140 yX0_hearersOf, Cond.instanceMethod yX0_hearersOf, Cond.selects RX0 yX0_hearersOf yX0_hearersOf, Cond.initialized RX0, Cond.code yX0_hearersOf cX0_hearersOf 5 (some .int), Cond.fieldLink RX0 25 "DrumTalk$Land" "villageCount" "I", Cond.fieldLink RX0 11 "DrumTalk$Land" "villages" "[LDrumTalk$Village;", Cond.methodLink RX0 93 yX2_distanceTo, Cond.instanceMethod yX2_distanceTo, Cond.selects RX2 yX2_distanceTo yX2_distanceTo, Cond.initialized RX2, Cond.code yX2_distanceTo cX2_distanceTo 2 (some .int), Cond.fieldLink RX2 41 "DrumTalk$Village" "x" "I", Cond.methodLink RX2 91 Lib.Math.abs.name, Cond.static Lib.Math.abs.name]
def wsX3_way_r2 : List Cond := [Cond.initialized "java/lang/Math", Cond.code Lib.Math.abs.name Lib.Math.abs.code 1 (some .int), Cond.fieldLink RX2 44 "DrumTalk$Village" "y" "I", Cond.methodLink RX0 97 yX2_isHeardAt, Cond.instanceMethod yX2_isHeardAt, Cond.selects RX2 yX2_isHeardAt yX2_isHeardAt, Cond.code yX2_isHeardAt cX2_isHeardAt 2 (some .boolean), Cond.fieldLink RX2 9 "DrumTalk$Village" "drum" "I"]
def wsX3_way : List Cond := .code yX3_way cX3_way 5 (some .int) :: ((wsX3_way_r1 ++ wsX3_way_r2) ++ wsX30 ++ wsX00 ++ wsX20 ++ (vx_atS RX3 111 "java/lang/IndexOutOfBoundsException" ["java/lang/RuntimeException", "java/lang/Exception"]).filter goodWord)
def wsX3_pass_r1 : List Cond := [Cond.classLink RX3 26 "java/lang/IllegalArgumentException", Cond.initialized "java/lang/IllegalArgumentException", Cond.fieldLink RX3 12 "DrumTalk" "land" "LDrumTalk$Land;", Cond.methodLink RX3 145 yX0_letGo, Cond.instanceMethod yX0_letGo, Cond.selects RX0 yX0_letGo yX0_letGo, Cond.initialized RX0, Cond.code yX0_letGo cX0_letGo 4 (some .int), Cond.fieldLink RX0 42 "DrumTalk$Land" "beat" "I", Cond.methodLink RX0 100 yX0_isQuiet, Cond.instanceMethod yX0_isQuiet, Cond.selects RX0 yX0_isQuiet yX0_isQuiet, Cond.code yX0_isQuiet cX0_isQuiet 3 (some .boolean), Cond.fieldLink RX0 25 "DrumTalk$Land" "villageCount" "I", Cond.fieldLink RX0 11 "DrumTalk$Land" "villages" "[LDrumTalk$Village;", Cond.fieldLink RX0 106 "DrumTalk$Village" "queued" "I", Cond.fieldLink RX0 74 "DrumTalk$Village" "inTheAir" "LDrumTalk$Sounds;", Cond.fieldLink RX0 78 "DrumTalk$Sounds" "size" "I", Cond.methodLink RX0 70 yX2_isDrumming, Cond.instanceMethod yX2_isDrumming, Cond.selects RX2 yX2_isDrumming yX2_isDrumming, Cond.initialized RX2, Cond.code yX2_isDrumming cX2_isDrumming 1 (some .boolean), Cond.fieldLink RX2 18 "DrumTalk$Village" "drumming" "I"]
def wsX3_pass_r2 : List Cond := [Cond.methodLink RX0 103 yX0_goBeat, Cond.instanceMethod yX0_goBeat, Cond.selects RX0 yX0_goBeat yX0_goBeat, Cond.code yX0_goBeat cX0_goBeat 3 (some .int), Cond.methodLink RX0 109 yX2_isReady, Cond.instanceMethod yX2_isReady, Cond.selects RX2 yX2_isReady yX2_isReady, Cond.code yX2_isReady cX2_isReady 2 (some .boolean), Cond.fieldLink RX2 63 "DrumTalk$Village" "queued" "I", Cond.methodLink RX2 87 yX2_isDrumming, Cond.methodLink RX2 73 yX2_isAwake, Cond.instanceMethod yX2_isAwake, Cond.selects RX2 yX2_isAwake yX2_isAwake, Cond.code yX2_isAwake cX2_isAwake 2 (some .boolean), Cond.fieldLink RX2 51 "DrumTalk$Village" "awakeFrom" "I", Cond.fieldLink RX2 15 "DrumTalk$Village" "awakeBeats" "I", Cond.methodLink RX2 81 yJ9_floorMod_7cf53, Cond.static yJ9_floorMod_7cf53, Cond.initialized RJ9, Cond.code yJ9_floorMod_7cf53 cJ9_floorMod_7cf53 3 (some .int), Cond.methodLink RX0 112 yX0_beginDrumming, Cond.instanceMethod yX0_beginDrumming, Cond.selects RX0 yX0_beginDrumming yX0_beginDrumming, Cond.code yX0_beginDrumming cX0_beginDrumming 9 none]
def wsX3_pass_r3 : List Cond := [Cond.fieldLink RX0 39 "DrumTalk$Land" "phraseCount" "I", Cond.fieldLink RX0 21 "DrumTalk$Land" "toneCounts" "[I", Cond.fieldLink RX0 129 "DrumTalk$Village" "drumming" "I", Cond.fieldLink RX0 132 "DrumTalk$Village" "beatsLeft" "I", Cond.fieldLink RX0 45 "DrumTalk$Land" "drummings" "I", Cond.fieldLink RX0 139 "DrumTalk$Village" "cliff" "Z", Cond.methodLink RX0 126 yX2_takeFromQueue, Cond.instanceMethod yX2_takeFromQueue, Cond.selects RX2 yX2_takeFromQueue yX2_takeFromQueue, Cond.code yX2_takeFromQueue cX2_takeFromQueue 2 (some .int), Cond.fieldLink RX2 21 "DrumTalk$Village" "queue" "[I", Cond.methodLink RX2 57 arraycopyName, Cond.native arraycopyName, Cond.static arraycopyName, Cond.initialized "java/lang/System", Cond.methodLink RX0 93 yX2_distanceTo, Cond.instanceMethod yX2_distanceTo, Cond.selects RX2 yX2_distanceTo yX2_distanceTo, Cond.code yX2_distanceTo cX2_distanceTo 2 (some .int), Cond.fieldLink RX2 41 "DrumTalk$Village" "x" "I", Cond.methodLink RX2 91 Lib.Math.abs.name, Cond.static Lib.Math.abs.name, Cond.initialized "java/lang/Math", Cond.code Lib.Math.abs.name Lib.Math.abs.code 1 (some .int)]
def wsX3_pass_r4 : List Cond := [Cond.fieldLink RX2 44 "DrumTalk$Village" "y" "I", Cond.methodLink RX0 97 yX2_isHeardAt, Cond.instanceMethod yX2_isHeardAt, Cond.selects RX2 yX2_isHeardAt yX2_isHeardAt, Cond.code yX2_isHeardAt cX2_isHeardAt 2 (some .boolean), Cond.fieldLink RX2 9 "DrumTalk$Village" "drum" "I", Cond.methodLink RX0 135 yX1_add, Cond.instanceMethod yX1_add, Cond.selects RX1 yX1_add yX1_add, Cond.initialized RX1, Cond.code yX1_add cX1_add 4 none, Cond.fieldLink RX1 24 "DrumTalk$Sounds" "size" "I", Cond.fieldLink RX1 9 "DrumTalk$Sounds" "phrases" "[I", Cond.fieldLink RX1 15 "DrumTalk$Sounds" "firstBeats" "[I", Cond.fieldLink RX1 18 "DrumTalk$Sounds" "lastBeats" "[I", Cond.fieldLink RX1 21 "DrumTalk$Sounds" "drowned" "[I", Cond.methodLink RX0 116 yX2_drownIfDisturbed, Cond.instanceMethod yX2_drownIfDisturbed, Cond.selects RX2 yX2_drownIfDisturbed yX2_drownIfDisturbed, Cond.code yX2_drownIfDisturbed cX2_drownIfDisturbed 2 none, Cond.fieldLink RX2 31 "DrumTalk$Village" "inTheAir" "LDrumTalk$Sounds;", Cond.methodLink RX2 98 yX1_lasting, Cond.instanceMethod yX1_lasting, Cond.selects RX1 yX1_lasting yX1_lasting]
def wsX3_pass_r5 : List Cond := [Cond.code yX1_lasting cX1_lasting 4 (some .int), Cond.methodLink RX2 101 yX1_drown, Cond.instanceMethod yX1_drown, Cond.selects RX1 yX1_drown yX1_drown, Cond.code yX1_drown cX1_drown 3 none, Cond.methodLink RX0 119 yX2_endSounds, Cond.instanceMethod yX2_endSounds, Cond.selects RX2 yX2_endSounds yX2_endSounds, Cond.code yX2_endSounds cX2_endSounds 5 (some .int), Cond.fieldLink RX2 105 "DrumTalk$Sounds" "size" "I", Cond.fieldLink RX2 108 "DrumTalk$Sounds" "lastBeats" "[I", Cond.fieldLink RX2 115 "DrumTalk$Sounds" "drowned" "[I", Cond.fieldLink RX2 70 "DrumTalk$Village" "drowned" "I", Cond.fieldLink RX2 117 "DrumTalk$Sounds" "phrases" "[I", Cond.methodLink RX2 111 yX1_move, Cond.instanceMethod yX1_move, Cond.selects RX1 yX1_move yX1_move, Cond.code yX1_move cX1_move 3 none, Cond.methodLink RX2 95 yX2_isKnown, Cond.instanceMethod yX2_isKnown, Cond.selects RX2 yX2_isKnown yX2_isKnown, Cond.code yX2_isKnown cX2_isKnown 2 (some .boolean), Cond.fieldLink RX2 25 "DrumTalk$Village" "knownSince" "[I", Cond.methodLink RX2 120 yX2_takeIn]
def wsX3_pass_r6 : List Cond := [Cond.instanceMethod yX2_takeIn, Cond.selects RX2 yX2_takeIn yX2_takeIn, Cond.code yX2_takeIn cX2_takeIn 3 none, Cond.methodLink RX0 123 yX2_endDrumBeat, Cond.instanceMethod yX2_endDrumBeat, Cond.selects RX2 yX2_endDrumBeat yX2_endDrumBeat, Cond.code yX2_endDrumBeat cX2_endDrumBeat 1 none, Cond.fieldLink RX2 54 "DrumTalk$Village" "beatsLeft" "I"]
def wsX3_pass : List Cond := .code yX3_pass cX3_pass 2 (some .int) :: ((wsX3_pass_r1 ++ (wsX3_pass_r2 ++ (wsX3_pass_r3 ++ (wsX3_pass_r4 ++ (wsX3_pass_r5 ++ wsX3_pass_r6))))) ++ wsX30 ++ wsX00 ++ wsX20 ++ wsX10 ++ (vx_atS RX3 30 "java/lang/IllegalArgumentException" ["java/lang/RuntimeException", "java/lang/Exception"]).filter goodWord)
def wsX3_reaches_r1 : List Cond := [Cond.fieldLink RX3 16 "DrumTalk" "trial" "LDrumTalk$Land;", Cond.fieldLink RX3 12 "DrumTalk" "land" "LDrumTalk$Land;", Cond.fieldLink RX3 152 "DrumTalk$Land" "villages" "[LDrumTalk$Village;", Cond.methodLink RX3 137 yX3_checkVillage, Cond.instanceMethod yX3_checkVillage, Cond.selects RX3 yX3_checkVillage yX3_checkVillage, Cond.initialized RX3, Cond.code yX3_checkVillage cX3_checkVillage 2 none, Cond.classLink RX3 107 "java/lang/IndexOutOfBoundsException", Cond.initialized "java/lang/IndexOutOfBoundsException", Cond.fieldLink RX3 33 "DrumTalk$Land" "villageCount" "I", Cond.methodLink RX3 91 yX3_checkPhrase, Cond.instanceMethod yX3_checkPhrase, Cond.selects RX3 yX3_checkPhrase yX3_checkPhrase, Cond.code yX3_checkPhrase cX3_checkPhrase 2 none, Cond.fieldLink RX3 79 "DrumTalk$Land" "phraseCount" "I", Cond.methodLink RX3 148 yX0_copy, Cond.instanceMethod yX0_copy, Cond.selects RX0 yX0_copy yX0_copy, Cond.initialized RX0, Cond.code yX0_copy cX0_copy 3 none, Cond.fieldLink RX0 25 "DrumTalk$Land" "villageCount" "I", Cond.fieldLink RX0 11 "DrumTalk$Land" "villages" "[LDrumTalk$Village;", Cond.fieldLink RX0 17 "DrumTalk$Land" "tones" "[I"]
def wsX3_reaches_r2 : List Cond := [Cond.methodLink RX0 33 arraycopyName, Cond.native arraycopyName, Cond.static arraycopyName, Cond.initialized "java/lang/System", Cond.fieldLink RX0 21 "DrumTalk$Land" "toneCounts" "[I", Cond.fieldLink RX0 39 "DrumTalk$Land" "phraseCount" "I", Cond.fieldLink RX0 42 "DrumTalk$Land" "beat" "I", Cond.fieldLink RX0 45 "DrumTalk$Land" "drummings" "I", Cond.methodLink RX0 29 yX2_copy, Cond.instanceMethod yX2_copy, Cond.selects RX2 yX2_copy yX2_copy, Cond.initialized RX2, Cond.code yX2_copy cX2_copy 2 none, Cond.fieldLink RX2 41 "DrumTalk$Village" "x" "I", Cond.fieldLink RX2 44 "DrumTalk$Village" "y" "I", Cond.fieldLink RX2 9 "DrumTalk$Village" "drum" "I", Cond.fieldLink RX2 47 "DrumTalk$Village" "cliff" "Z", Cond.fieldLink RX2 51 "DrumTalk$Village" "awakeFrom" "I", Cond.fieldLink RX2 15 "DrumTalk$Village" "awakeBeats" "I", Cond.fieldLink RX2 18 "DrumTalk$Village" "drumming" "I", Cond.fieldLink RX2 54 "DrumTalk$Village" "beatsLeft" "I", Cond.fieldLink RX2 21 "DrumTalk$Village" "queue" "[I", Cond.methodLink RX2 57 arraycopyName, Cond.fieldLink RX2 63 "DrumTalk$Village" "queued" "I"]
def wsX3_reaches_r3 : List Cond := [Cond.fieldLink RX2 25 "DrumTalk$Village" "knownSince" "[I", Cond.fieldLink RX2 31 "DrumTalk$Village" "inTheAir" "LDrumTalk$Sounds;", Cond.fieldLink RX2 70 "DrumTalk$Village" "drowned" "I", Cond.methodLink RX2 66 yX1_copy, Cond.instanceMethod yX1_copy, Cond.selects RX1 yX1_copy yX1_copy, Cond.initialized RX1, Cond.code yX1_copy cX1_copy 2 none, Cond.fieldLink RX1 9 "DrumTalk$Sounds" "phrases" "[I", Cond.fieldLink RX1 24 "DrumTalk$Sounds" "size" "I", Cond.methodLink RX1 28 arraycopyName, Cond.fieldLink RX1 15 "DrumTalk$Sounds" "firstBeats" "[I", Cond.fieldLink RX1 18 "DrumTalk$Sounds" "lastBeats" "[I", Cond.fieldLink RX1 21 "DrumTalk$Sounds" "drowned" "[I", Cond.methodLink RX3 156 yX2_isKnown, Cond.instanceMethod yX2_isKnown, Cond.selects RX2 yX2_isKnown yX2_isKnown, Cond.code yX2_isKnown cX2_isKnown 2 (some .boolean), Cond.methodLink RX3 145 yX0_letGo, Cond.instanceMethod yX0_letGo, Cond.selects RX0 yX0_letGo yX0_letGo, Cond.code yX0_letGo cX0_letGo 4 (some .int), Cond.methodLink RX0 100 yX0_isQuiet, Cond.instanceMethod yX0_isQuiet]
def wsX3_reaches_r4 : List Cond := [Cond.selects RX0 yX0_isQuiet yX0_isQuiet, Cond.code yX0_isQuiet cX0_isQuiet 3 (some .boolean), Cond.fieldLink RX0 106 "DrumTalk$Village" "queued" "I", Cond.fieldLink RX0 74 "DrumTalk$Village" "inTheAir" "LDrumTalk$Sounds;", Cond.fieldLink RX0 78 "DrumTalk$Sounds" "size" "I", Cond.methodLink RX0 70 yX2_isDrumming, Cond.instanceMethod yX2_isDrumming, Cond.selects RX2 yX2_isDrumming yX2_isDrumming, Cond.code yX2_isDrumming cX2_isDrumming 1 (some .boolean), Cond.methodLink RX0 103 yX0_goBeat, Cond.instanceMethod yX0_goBeat, Cond.selects RX0 yX0_goBeat yX0_goBeat, Cond.code yX0_goBeat cX0_goBeat 3 (some .int), Cond.methodLink RX0 109 yX2_isReady, Cond.instanceMethod yX2_isReady, Cond.selects RX2 yX2_isReady yX2_isReady, Cond.code yX2_isReady cX2_isReady 2 (some .boolean), Cond.methodLink RX2 87 yX2_isDrumming, Cond.methodLink RX2 73 yX2_isAwake, Cond.instanceMethod yX2_isAwake, Cond.selects RX2 yX2_isAwake yX2_isAwake, Cond.code yX2_isAwake cX2_isAwake 2 (some .boolean), Cond.methodLink RX2 81 yJ9_floorMod_7cf53, Cond.static yJ9_floorMod_7cf53]
def wsX3_reaches_r5 : List Cond := [Cond.initialized RJ9, Cond.code yJ9_floorMod_7cf53 cJ9_floorMod_7cf53 3 (some .int), Cond.methodLink RX0 112 yX0_beginDrumming, Cond.instanceMethod yX0_beginDrumming, Cond.selects RX0 yX0_beginDrumming yX0_beginDrumming, Cond.code yX0_beginDrumming cX0_beginDrumming 9 none, Cond.fieldLink RX0 129 "DrumTalk$Village" "drumming" "I", Cond.fieldLink RX0 132 "DrumTalk$Village" "beatsLeft" "I", Cond.fieldLink RX0 139 "DrumTalk$Village" "cliff" "Z", Cond.methodLink RX0 126 yX2_takeFromQueue, Cond.instanceMethod yX2_takeFromQueue, Cond.selects RX2 yX2_takeFromQueue yX2_takeFromQueue, Cond.code yX2_takeFromQueue cX2_takeFromQueue 2 (some .int), Cond.methodLink RX0 93 yX2_distanceTo, Cond.instanceMethod yX2_distanceTo, Cond.selects RX2 yX2_distanceTo yX2_distanceTo, Cond.code yX2_distanceTo cX2_distanceTo 2 (some .int), Cond.methodLink RX2 91 Lib.Math.abs.name, Cond.static Lib.Math.abs.name, Cond.initialized "java/lang/Math", Cond.code Lib.Math.abs.name Lib.Math.abs.code 1 (some .int), Cond.methodLink RX0 97 yX2_isHeardAt, Cond.instanceMethod yX2_isHeardAt, Cond.selects RX2 yX2_isHeardAt yX2_isHeardAt]
def wsX3_reaches_r6 : List Cond := [Cond.code yX2_isHeardAt cX2_isHeardAt 2 (some .boolean), Cond.methodLink RX0 135 yX1_add, Cond.instanceMethod yX1_add, Cond.selects RX1 yX1_add yX1_add, Cond.code yX1_add cX1_add 4 none, Cond.methodLink RX0 116 yX2_drownIfDisturbed, Cond.instanceMethod yX2_drownIfDisturbed, Cond.selects RX2 yX2_drownIfDisturbed yX2_drownIfDisturbed, Cond.code yX2_drownIfDisturbed cX2_drownIfDisturbed 2 none, Cond.methodLink RX2 98 yX1_lasting, Cond.instanceMethod yX1_lasting, Cond.selects RX1 yX1_lasting yX1_lasting, Cond.code yX1_lasting cX1_lasting 4 (some .int), Cond.methodLink RX2 101 yX1_drown, Cond.instanceMethod yX1_drown, Cond.selects RX1 yX1_drown yX1_drown, Cond.code yX1_drown cX1_drown 3 none, Cond.methodLink RX0 119 yX2_endSounds, Cond.instanceMethod yX2_endSounds, Cond.selects RX2 yX2_endSounds yX2_endSounds, Cond.code yX2_endSounds cX2_endSounds 5 (some .int), Cond.fieldLink RX2 105 "DrumTalk$Sounds" "size" "I", Cond.fieldLink RX2 108 "DrumTalk$Sounds" "lastBeats" "[I", Cond.fieldLink RX2 115 "DrumTalk$Sounds" "drowned" "[I"]
def wsX3_reaches_r7 : List Cond := [Cond.fieldLink RX2 117 "DrumTalk$Sounds" "phrases" "[I", Cond.methodLink RX2 111 yX1_move, Cond.instanceMethod yX1_move, Cond.selects RX1 yX1_move yX1_move, Cond.code yX1_move cX1_move 3 none, Cond.methodLink RX2 95 yX2_isKnown, Cond.methodLink RX2 120 yX2_takeIn, Cond.instanceMethod yX2_takeIn, Cond.selects RX2 yX2_takeIn yX2_takeIn, Cond.code yX2_takeIn cX2_takeIn 3 none, Cond.methodLink RX0 123 yX2_endDrumBeat, Cond.instanceMethod yX2_endDrumBeat, Cond.selects RX2 yX2_endDrumBeat yX2_endDrumBeat, Cond.code yX2_endDrumBeat cX2_endDrumBeat 1 none]
def wsX3_reaches : List Cond := .code yX3_reaches cX3_reaches 5 (some .int) :: ((wsX3_reaches_r1 ++ (wsX3_reaches_r2 ++ (wsX3_reaches_r3 ++ (wsX3_reaches_r4 ++ (wsX3_reaches_r5 ++ (wsX3_reaches_r6 ++ wsX3_reaches_r7)))))) ++ wsX30 ++ wsX00 ++ wsX20 ++ wsX10 ++ (vx_atS RX3 111 "java/lang/IndexOutOfBoundsException" ["java/lang/RuntimeException", "java/lang/Exception"]).filter goodWord)
def wsX3_knowersIfTold_r1 : List Cond := [Cond.fieldLink RX3 16 "DrumTalk" "trial" "LDrumTalk$Land;", Cond.fieldLink RX3 12 "DrumTalk" "land" "LDrumTalk$Land;", Cond.fieldLink RX3 152 "DrumTalk$Land" "villages" "[LDrumTalk$Village;", Cond.fieldLink RX3 95 "DrumTalk$Village" "queued" "I", Cond.fieldLink RX3 100 "DrumTalk$Land" "beat" "I", Cond.methodLink RX3 148 yX0_copy, Cond.instanceMethod yX0_copy, Cond.selects RX0 yX0_copy yX0_copy, Cond.initialized RX0, Cond.code yX0_copy cX0_copy 3 none, Cond.fieldLink RX0 25 "DrumTalk$Land" "villageCount" "I", Cond.fieldLink RX0 11 "DrumTalk$Land" "villages" "[LDrumTalk$Village;", Cond.fieldLink RX0 17 "DrumTalk$Land" "tones" "[I", Cond.methodLink RX0 33 arraycopyName, Cond.native arraycopyName, Cond.static arraycopyName, Cond.initialized "java/lang/System", Cond.fieldLink RX0 21 "DrumTalk$Land" "toneCounts" "[I", Cond.fieldLink RX0 39 "DrumTalk$Land" "phraseCount" "I", Cond.fieldLink RX0 42 "DrumTalk$Land" "beat" "I", Cond.fieldLink RX0 45 "DrumTalk$Land" "drummings" "I", Cond.methodLink RX0 29 yX2_copy, Cond.instanceMethod yX2_copy, Cond.selects RX2 yX2_copy yX2_copy]
def wsX3_knowersIfTold_r2 : List Cond := [Cond.initialized RX2, Cond.code yX2_copy cX2_copy 2 none, Cond.fieldLink RX2 41 "DrumTalk$Village" "x" "I", Cond.fieldLink RX2 44 "DrumTalk$Village" "y" "I", Cond.fieldLink RX2 9 "DrumTalk$Village" "drum" "I", Cond.fieldLink RX2 47 "DrumTalk$Village" "cliff" "Z", Cond.fieldLink RX2 51 "DrumTalk$Village" "awakeFrom" "I", Cond.fieldLink RX2 15 "DrumTalk$Village" "awakeBeats" "I", Cond.fieldLink RX2 18 "DrumTalk$Village" "drumming" "I", Cond.fieldLink RX2 54 "DrumTalk$Village" "beatsLeft" "I", Cond.fieldLink RX2 21 "DrumTalk$Village" "queue" "[I", Cond.methodLink RX2 57 arraycopyName, Cond.fieldLink RX2 63 "DrumTalk$Village" "queued" "I", Cond.fieldLink RX2 25 "DrumTalk$Village" "knownSince" "[I", Cond.fieldLink RX2 31 "DrumTalk$Village" "inTheAir" "LDrumTalk$Sounds;", Cond.fieldLink RX2 70 "DrumTalk$Village" "drowned" "I", Cond.methodLink RX2 66 yX1_copy, Cond.instanceMethod yX1_copy, Cond.selects RX1 yX1_copy yX1_copy, Cond.initialized RX1, Cond.code yX1_copy cX1_copy 2 none, Cond.fieldLink RX1 9 "DrumTalk$Sounds" "phrases" "[I", Cond.fieldLink RX1 24 "DrumTalk$Sounds" "size" "I", Cond.methodLink RX1 28 arraycopyName]
def wsX3_knowersIfTold_r3 : List Cond := [Cond.fieldLink RX1 15 "DrumTalk$Sounds" "firstBeats" "[I", Cond.fieldLink RX1 18 "DrumTalk$Sounds" "lastBeats" "[I", Cond.fieldLink RX1 21 "DrumTalk$Sounds" "drowned" "[I", Cond.methodLink RX3 145 yX0_letGo, Cond.instanceMethod yX0_letGo, Cond.selects RX0 yX0_letGo yX0_letGo, Cond.code yX0_letGo cX0_letGo 4 (some .int), Cond.methodLink RX0 100 yX0_isQuiet, Cond.instanceMethod yX0_isQuiet, Cond.selects RX0 yX0_isQuiet yX0_isQuiet, Cond.code yX0_isQuiet cX0_isQuiet 3 (some .boolean), Cond.fieldLink RX0 106 "DrumTalk$Village" "queued" "I", Cond.fieldLink RX0 74 "DrumTalk$Village" "inTheAir" "LDrumTalk$Sounds;", Cond.fieldLink RX0 78 "DrumTalk$Sounds" "size" "I", Cond.methodLink RX0 70 yX2_isDrumming, Cond.instanceMethod yX2_isDrumming, Cond.selects RX2 yX2_isDrumming yX2_isDrumming, Cond.code yX2_isDrumming cX2_isDrumming 1 (some .boolean), Cond.methodLink RX0 103 yX0_goBeat, Cond.instanceMethod yX0_goBeat, Cond.selects RX0 yX0_goBeat yX0_goBeat, Cond.code yX0_goBeat cX0_goBeat 3 (some .int), Cond.methodLink RX0 109 yX2_isReady, Cond.instanceMethod yX2_isReady]
def wsX3_knowersIfTold_r4 : List Cond := [Cond.selects RX2 yX2_isReady yX2_isReady, Cond.code yX2_isReady cX2_isReady 2 (some .boolean), Cond.methodLink RX2 87 yX2_isDrumming, Cond.methodLink RX2 73 yX2_isAwake, Cond.instanceMethod yX2_isAwake, Cond.selects RX2 yX2_isAwake yX2_isAwake, Cond.code yX2_isAwake cX2_isAwake 2 (some .boolean), Cond.methodLink RX2 81 yJ9_floorMod_7cf53, Cond.static yJ9_floorMod_7cf53, Cond.initialized RJ9, Cond.code yJ9_floorMod_7cf53 cJ9_floorMod_7cf53 3 (some .int), Cond.methodLink RX0 112 yX0_beginDrumming, Cond.instanceMethod yX0_beginDrumming, Cond.selects RX0 yX0_beginDrumming yX0_beginDrumming, Cond.code yX0_beginDrumming cX0_beginDrumming 9 none, Cond.fieldLink RX0 129 "DrumTalk$Village" "drumming" "I", Cond.fieldLink RX0 132 "DrumTalk$Village" "beatsLeft" "I", Cond.fieldLink RX0 139 "DrumTalk$Village" "cliff" "Z", Cond.methodLink RX0 126 yX2_takeFromQueue, Cond.instanceMethod yX2_takeFromQueue, Cond.selects RX2 yX2_takeFromQueue yX2_takeFromQueue, Cond.code yX2_takeFromQueue cX2_takeFromQueue 2 (some .int), Cond.methodLink RX0 93 yX2_distanceTo, Cond.instanceMethod yX2_distanceTo]
def wsX3_knowersIfTold_r5 : List Cond := [Cond.selects RX2 yX2_distanceTo yX2_distanceTo, Cond.code yX2_distanceTo cX2_distanceTo 2 (some .int), Cond.methodLink RX2 91 Lib.Math.abs.name, Cond.static Lib.Math.abs.name, Cond.initialized "java/lang/Math", Cond.code Lib.Math.abs.name Lib.Math.abs.code 1 (some .int), Cond.methodLink RX0 97 yX2_isHeardAt, Cond.instanceMethod yX2_isHeardAt, Cond.selects RX2 yX2_isHeardAt yX2_isHeardAt, Cond.code yX2_isHeardAt cX2_isHeardAt 2 (some .boolean), Cond.methodLink RX0 135 yX1_add, Cond.instanceMethod yX1_add, Cond.selects RX1 yX1_add yX1_add, Cond.code yX1_add cX1_add 4 none, Cond.methodLink RX0 116 yX2_drownIfDisturbed, Cond.instanceMethod yX2_drownIfDisturbed, Cond.selects RX2 yX2_drownIfDisturbed yX2_drownIfDisturbed, Cond.code yX2_drownIfDisturbed cX2_drownIfDisturbed 2 none, Cond.methodLink RX2 98 yX1_lasting, Cond.instanceMethod yX1_lasting, Cond.selects RX1 yX1_lasting yX1_lasting, Cond.code yX1_lasting cX1_lasting 4 (some .int), Cond.methodLink RX2 101 yX1_drown, Cond.instanceMethod yX1_drown]
def wsX3_knowersIfTold_r6 : List Cond := [Cond.selects RX1 yX1_drown yX1_drown, Cond.code yX1_drown cX1_drown 3 none, Cond.methodLink RX0 119 yX2_endSounds, Cond.instanceMethod yX2_endSounds, Cond.selects RX2 yX2_endSounds yX2_endSounds, Cond.code yX2_endSounds cX2_endSounds 5 (some .int), Cond.fieldLink RX2 105 "DrumTalk$Sounds" "size" "I", Cond.fieldLink RX2 108 "DrumTalk$Sounds" "lastBeats" "[I", Cond.fieldLink RX2 115 "DrumTalk$Sounds" "drowned" "[I", Cond.fieldLink RX2 117 "DrumTalk$Sounds" "phrases" "[I", Cond.methodLink RX2 111 yX1_move, Cond.instanceMethod yX1_move, Cond.selects RX1 yX1_move yX1_move, Cond.code yX1_move cX1_move 3 none, Cond.methodLink RX2 95 yX2_isKnown, Cond.instanceMethod yX2_isKnown, Cond.selects RX2 yX2_isKnown yX2_isKnown, Cond.code yX2_isKnown cX2_isKnown 2 (some .boolean), Cond.methodLink RX2 120 yX2_takeIn, Cond.instanceMethod yX2_takeIn, Cond.selects RX2 yX2_takeIn yX2_takeIn, Cond.code yX2_takeIn cX2_takeIn 3 none, Cond.methodLink RX0 123 yX2_endDrumBeat, Cond.instanceMethod yX2_endDrumBeat]
def wsX3_knowersIfTold_r7 : List Cond := [Cond.selects RX2 yX2_endDrumBeat yX2_endDrumBeat, Cond.code yX2_endDrumBeat cX2_endDrumBeat 1 none, Cond.methodLink RX3 103 yX2_takeIn, Cond.methodLink RX3 159 yX0_knowersOf, Cond.instanceMethod yX0_knowersOf, Cond.selects RX0 yX0_knowersOf yX0_knowersOf, Cond.code yX0_knowersOf cX0_knowersOf 4 (some .int), Cond.methodLink RX0 89 yX2_isKnown]
def wsX3_knowersIfTold : List Cond := .code yX3_knowersIfTold cX3_knowersIfTold 5 (some .int) :: ((wsX3_knowersIfTold_r1 ++ (wsX3_knowersIfTold_r2 ++ (wsX3_knowersIfTold_r3 ++ (wsX3_knowersIfTold_r4 ++ (wsX3_knowersIfTold_r5 ++ (wsX3_knowersIfTold_r6 ++ wsX3_knowersIfTold_r7)))))) ++ wsX30 ++ wsX00 ++ wsX20 ++ wsX10)
def wsX3_best_r1 : List Cond := [Cond.fieldLink RX3 16 "DrumTalk" "trial" "LDrumTalk$Land;", Cond.fieldLink RX3 12 "DrumTalk" "land" "LDrumTalk$Land;", Cond.methodLink RX3 137 yX3_checkVillage, Cond.instanceMethod yX3_checkVillage, Cond.selects RX3 yX3_checkVillage yX3_checkVillage, Cond.initialized RX3, Cond.code yX3_checkVillage cX3_checkVillage 2 none, Cond.classLink RX3 107 "java/lang/IndexOutOfBoundsException", Cond.initialized "java/lang/IndexOutOfBoundsException", Cond.fieldLink RX3 33 "DrumTalk$Land" "villageCount" "I", Cond.methodLink RX3 91 yX3_checkPhrase, Cond.instanceMethod yX3_checkPhrase, Cond.selects RX3 yX3_checkPhrase yX3_checkPhrase, Cond.code yX3_checkPhrase cX3_checkPhrase 2 none, Cond.fieldLink RX3 79 "DrumTalk$Land" "phraseCount" "I", Cond.methodLink RX3 148 yX0_copy, Cond.instanceMethod yX0_copy, Cond.selects RX0 yX0_copy yX0_copy, Cond.initialized RX0, Cond.code yX0_copy cX0_copy 3 none, Cond.fieldLink RX0 25 "DrumTalk$Land" "villageCount" "I", Cond.fieldLink RX0 11 "DrumTalk$Land" "villages" "[LDrumTalk$Village;", Cond.fieldLink RX0 17 "DrumTalk$Land" "tones" "[I", Cond.methodLink RX0 33 arraycopyName]
def wsX3_best_r2 : List Cond := [Cond.native arraycopyName, Cond.static arraycopyName, Cond.initialized "java/lang/System", Cond.fieldLink RX0 21 "DrumTalk$Land" "toneCounts" "[I", Cond.fieldLink RX0 39 "DrumTalk$Land" "phraseCount" "I", Cond.fieldLink RX0 42 "DrumTalk$Land" "beat" "I", Cond.fieldLink RX0 45 "DrumTalk$Land" "drummings" "I", Cond.methodLink RX0 29 yX2_copy, Cond.instanceMethod yX2_copy, Cond.selects RX2 yX2_copy yX2_copy, Cond.initialized RX2, Cond.code yX2_copy cX2_copy 2 none, Cond.fieldLink RX2 41 "DrumTalk$Village" "x" "I", Cond.fieldLink RX2 44 "DrumTalk$Village" "y" "I", Cond.fieldLink RX2 9 "DrumTalk$Village" "drum" "I", Cond.fieldLink RX2 47 "DrumTalk$Village" "cliff" "Z", Cond.fieldLink RX2 51 "DrumTalk$Village" "awakeFrom" "I", Cond.fieldLink RX2 15 "DrumTalk$Village" "awakeBeats" "I", Cond.fieldLink RX2 18 "DrumTalk$Village" "drumming" "I", Cond.fieldLink RX2 54 "DrumTalk$Village" "beatsLeft" "I", Cond.fieldLink RX2 21 "DrumTalk$Village" "queue" "[I", Cond.methodLink RX2 57 arraycopyName, Cond.fieldLink RX2 63 "DrumTalk$Village" "queued" "I", Cond.fieldLink RX2 25 "DrumTalk$Village" "knownSince" "[I"]
def wsX3_best_r3 : List Cond := [Cond.fieldLink RX2 31 "DrumTalk$Village" "inTheAir" "LDrumTalk$Sounds;", Cond.fieldLink RX2 70 "DrumTalk$Village" "drowned" "I", Cond.methodLink RX2 66 yX1_copy, Cond.instanceMethod yX1_copy, Cond.selects RX1 yX1_copy yX1_copy, Cond.initialized RX1, Cond.code yX1_copy cX1_copy 2 none, Cond.fieldLink RX1 9 "DrumTalk$Sounds" "phrases" "[I", Cond.fieldLink RX1 24 "DrumTalk$Sounds" "size" "I", Cond.methodLink RX1 28 arraycopyName, Cond.fieldLink RX1 15 "DrumTalk$Sounds" "firstBeats" "[I", Cond.fieldLink RX1 18 "DrumTalk$Sounds" "lastBeats" "[I", Cond.fieldLink RX1 21 "DrumTalk$Sounds" "drowned" "[I", Cond.methodLink RX3 145 yX0_letGo, Cond.instanceMethod yX0_letGo, Cond.selects RX0 yX0_letGo yX0_letGo, Cond.code yX0_letGo cX0_letGo 4 (some .int), Cond.methodLink RX0 100 yX0_isQuiet, Cond.instanceMethod yX0_isQuiet, Cond.selects RX0 yX0_isQuiet yX0_isQuiet, Cond.code yX0_isQuiet cX0_isQuiet 3 (some .boolean), Cond.fieldLink RX0 106 "DrumTalk$Village" "queued" "I", Cond.fieldLink RX0 74 "DrumTalk$Village" "inTheAir" "LDrumTalk$Sounds;", Cond.fieldLink RX0 78 "DrumTalk$Sounds" "size" "I"]
def wsX3_best_r4 : List Cond := [Cond.methodLink RX0 70 yX2_isDrumming, Cond.instanceMethod yX2_isDrumming, Cond.selects RX2 yX2_isDrumming yX2_isDrumming, Cond.code yX2_isDrumming cX2_isDrumming 1 (some .boolean), Cond.methodLink RX0 103 yX0_goBeat, Cond.instanceMethod yX0_goBeat, Cond.selects RX0 yX0_goBeat yX0_goBeat, Cond.code yX0_goBeat cX0_goBeat 3 (some .int), Cond.methodLink RX0 109 yX2_isReady, Cond.instanceMethod yX2_isReady, Cond.selects RX2 yX2_isReady yX2_isReady, Cond.code yX2_isReady cX2_isReady 2 (some .boolean), Cond.methodLink RX2 87 yX2_isDrumming, Cond.methodLink RX2 73 yX2_isAwake, Cond.instanceMethod yX2_isAwake, Cond.selects RX2 yX2_isAwake yX2_isAwake, Cond.code yX2_isAwake cX2_isAwake 2 (some .boolean), Cond.methodLink RX2 81 yJ9_floorMod_7cf53, Cond.static yJ9_floorMod_7cf53, Cond.initialized RJ9, Cond.code yJ9_floorMod_7cf53 cJ9_floorMod_7cf53 3 (some .int), Cond.methodLink RX0 112 yX0_beginDrumming, Cond.instanceMethod yX0_beginDrumming, Cond.selects RX0 yX0_beginDrumming yX0_beginDrumming]
def wsX3_best_r5 : List Cond := [Cond.code yX0_beginDrumming cX0_beginDrumming 9 none, Cond.fieldLink RX0 129 "DrumTalk$Village" "drumming" "I", Cond.fieldLink RX0 132 "DrumTalk$Village" "beatsLeft" "I", Cond.fieldLink RX0 139 "DrumTalk$Village" "cliff" "Z", Cond.methodLink RX0 126 yX2_takeFromQueue, Cond.instanceMethod yX2_takeFromQueue, Cond.selects RX2 yX2_takeFromQueue yX2_takeFromQueue, Cond.code yX2_takeFromQueue cX2_takeFromQueue 2 (some .int), Cond.methodLink RX0 93 yX2_distanceTo, Cond.instanceMethod yX2_distanceTo, Cond.selects RX2 yX2_distanceTo yX2_distanceTo, Cond.code yX2_distanceTo cX2_distanceTo 2 (some .int), Cond.methodLink RX2 91 Lib.Math.abs.name, Cond.static Lib.Math.abs.name, Cond.initialized "java/lang/Math", Cond.code Lib.Math.abs.name Lib.Math.abs.code 1 (some .int), Cond.methodLink RX0 97 yX2_isHeardAt, Cond.instanceMethod yX2_isHeardAt, Cond.selects RX2 yX2_isHeardAt yX2_isHeardAt, Cond.code yX2_isHeardAt cX2_isHeardAt 2 (some .boolean), Cond.methodLink RX0 135 yX1_add, Cond.instanceMethod yX1_add, Cond.selects RX1 yX1_add yX1_add, Cond.code yX1_add cX1_add 4 none]
def wsX3_best_r6 : List Cond := [Cond.methodLink RX0 116 yX2_drownIfDisturbed, Cond.instanceMethod yX2_drownIfDisturbed, Cond.selects RX2 yX2_drownIfDisturbed yX2_drownIfDisturbed, Cond.code yX2_drownIfDisturbed cX2_drownIfDisturbed 2 none, Cond.methodLink RX2 98 yX1_lasting, Cond.instanceMethod yX1_lasting, Cond.selects RX1 yX1_lasting yX1_lasting, Cond.code yX1_lasting cX1_lasting 4 (some .int), Cond.methodLink RX2 101 yX1_drown, Cond.instanceMethod yX1_drown, Cond.selects RX1 yX1_drown yX1_drown, Cond.code yX1_drown cX1_drown 3 none, Cond.methodLink RX0 119 yX2_endSounds, Cond.instanceMethod yX2_endSounds, Cond.selects RX2 yX2_endSounds yX2_endSounds, Cond.code yX2_endSounds cX2_endSounds 5 (some .int), Cond.fieldLink RX2 105 "DrumTalk$Sounds" "size" "I", Cond.fieldLink RX2 108 "DrumTalk$Sounds" "lastBeats" "[I", Cond.fieldLink RX2 115 "DrumTalk$Sounds" "drowned" "[I", Cond.fieldLink RX2 117 "DrumTalk$Sounds" "phrases" "[I", Cond.methodLink RX2 111 yX1_move, Cond.instanceMethod yX1_move, Cond.selects RX1 yX1_move yX1_move, Cond.code yX1_move cX1_move 3 none]
def wsX3_best_r7 : List Cond := [Cond.methodLink RX2 95 yX2_isKnown, Cond.instanceMethod yX2_isKnown, Cond.selects RX2 yX2_isKnown yX2_isKnown, Cond.code yX2_isKnown cX2_isKnown 2 (some .boolean), Cond.methodLink RX2 120 yX2_takeIn, Cond.instanceMethod yX2_takeIn, Cond.selects RX2 yX2_takeIn yX2_takeIn, Cond.code yX2_takeIn cX2_takeIn 3 none, Cond.methodLink RX0 123 yX2_endDrumBeat, Cond.instanceMethod yX2_endDrumBeat, Cond.selects RX2 yX2_endDrumBeat yX2_endDrumBeat, Cond.code yX2_endDrumBeat cX2_endDrumBeat 1 none, Cond.methodLink RX3 159 yX0_knowersOf, Cond.instanceMethod yX0_knowersOf, Cond.selects RX0 yX0_knowersOf yX0_knowersOf, Cond.code yX0_knowersOf cX0_knowersOf 4 (some .int), Cond.methodLink RX0 89 yX2_isKnown, Cond.methodLink RX3 162 yX3_knowersIfTold, Cond.instanceMethod yX3_knowersIfTold, Cond.selects RX3 yX3_knowersIfTold yX3_knowersIfTold, Cond.code yX3_knowersIfTold cX3_knowersIfTold 5 (some .int), Cond.fieldLink RX3 152 "DrumTalk$Land" "villages" "[LDrumTalk$Village;", Cond.fieldLink RX3 95 "DrumTalk$Village" "queued" "I", Cond.fieldLink RX3 100 "DrumTalk$Land" "beat" "I"]
def wsX3_best_r8 : List Cond := [Cond.methodLink RX3 103 yX2_takeIn]
def wsX3_best : List Cond := .code yX3_best cX3_best 7 (some .int) :: ((wsX3_best_r1 ++ (wsX3_best_r2 ++ (wsX3_best_r3 ++ (wsX3_best_r4 ++ (wsX3_best_r5 ++ (wsX3_best_r6 ++ (wsX3_best_r7 ++ wsX3_best_r8))))))) ++ wsX30 ++ wsX00 ++ wsX20 ++ wsX10 ++ (vx_atS RX3 111 "java/lang/IndexOutOfBoundsException" ["java/lang/RuntimeException", "java/lang/Exception"]).filter goodWord)
def wsX3_pairsIfLarger_r1 : List Cond := [Cond.fieldLink RX3 16 "DrumTalk" "trial" "LDrumTalk$Land;", Cond.fieldLink RX3 12 "DrumTalk" "land" "LDrumTalk$Land;", Cond.fieldLink RX3 152 "DrumTalk$Land" "villages" "[LDrumTalk$Village;", Cond.fieldLink RX3 56 "DrumTalk$Village" "drum" "I", Cond.methodLink RX3 148 yX0_copy, Cond.instanceMethod yX0_copy, Cond.selects RX0 yX0_copy yX0_copy, Cond.initialized RX0, Cond.code yX0_copy cX0_copy 3 none, Cond.fieldLink RX0 25 "DrumTalk$Land" "villageCount" "I", Cond.fieldLink RX0 11 "DrumTalk$Land" "villages" "[LDrumTalk$Village;", Cond.fieldLink RX0 17 "DrumTalk$Land" "tones" "[I", Cond.methodLink RX0 33 arraycopyName, Cond.native arraycopyName, Cond.static arraycopyName, Cond.initialized "java/lang/System", Cond.fieldLink RX0 21 "DrumTalk$Land" "toneCounts" "[I", Cond.fieldLink RX0 39 "DrumTalk$Land" "phraseCount" "I", Cond.fieldLink RX0 42 "DrumTalk$Land" "beat" "I", Cond.fieldLink RX0 45 "DrumTalk$Land" "drummings" "I", Cond.methodLink RX0 29 yX2_copy, Cond.instanceMethod yX2_copy, Cond.selects RX2 yX2_copy yX2_copy, Cond.initialized RX2]
def wsX3_pairsIfLarger_r2 : List Cond := [Cond.code yX2_copy cX2_copy 2 none, Cond.fieldLink RX2 41 "DrumTalk$Village" "x" "I", Cond.fieldLink RX2 44 "DrumTalk$Village" "y" "I", Cond.fieldLink RX2 9 "DrumTalk$Village" "drum" "I", Cond.fieldLink RX2 47 "DrumTalk$Village" "cliff" "Z", Cond.fieldLink RX2 51 "DrumTalk$Village" "awakeFrom" "I", Cond.fieldLink RX2 15 "DrumTalk$Village" "awakeBeats" "I", Cond.fieldLink RX2 18 "DrumTalk$Village" "drumming" "I", Cond.fieldLink RX2 54 "DrumTalk$Village" "beatsLeft" "I", Cond.fieldLink RX2 21 "DrumTalk$Village" "queue" "[I", Cond.methodLink RX2 57 arraycopyName, Cond.fieldLink RX2 63 "DrumTalk$Village" "queued" "I", Cond.fieldLink RX2 25 "DrumTalk$Village" "knownSince" "[I", Cond.fieldLink RX2 31 "DrumTalk$Village" "inTheAir" "LDrumTalk$Sounds;", Cond.fieldLink RX2 70 "DrumTalk$Village" "drowned" "I", Cond.methodLink RX2 66 yX1_copy, Cond.instanceMethod yX1_copy, Cond.selects RX1 yX1_copy yX1_copy, Cond.initialized RX1, Cond.code yX1_copy cX1_copy 2 none, Cond.fieldLink RX1 9 "DrumTalk$Sounds" "phrases" "[I", Cond.fieldLink RX1 24 "DrumTalk$Sounds" "size" "I", Cond.methodLink RX1 28 arraycopyName, Cond.fieldLink RX1 15 "DrumTalk$Sounds" "firstBeats" "[I"]
def wsX3_pairsIfLarger_r3 : List Cond := [Cond.fieldLink RX1 18 "DrumTalk$Sounds" "lastBeats" "[I", Cond.fieldLink RX1 21 "DrumTalk$Sounds" "drowned" "[I", Cond.methodLink RX3 145 yX0_letGo, Cond.instanceMethod yX0_letGo, Cond.selects RX0 yX0_letGo yX0_letGo, Cond.code yX0_letGo cX0_letGo 4 (some .int), Cond.methodLink RX0 100 yX0_isQuiet, Cond.instanceMethod yX0_isQuiet, Cond.selects RX0 yX0_isQuiet yX0_isQuiet, Cond.code yX0_isQuiet cX0_isQuiet 3 (some .boolean), Cond.fieldLink RX0 106 "DrumTalk$Village" "queued" "I", Cond.fieldLink RX0 74 "DrumTalk$Village" "inTheAir" "LDrumTalk$Sounds;", Cond.fieldLink RX0 78 "DrumTalk$Sounds" "size" "I", Cond.methodLink RX0 70 yX2_isDrumming, Cond.instanceMethod yX2_isDrumming, Cond.selects RX2 yX2_isDrumming yX2_isDrumming, Cond.code yX2_isDrumming cX2_isDrumming 1 (some .boolean), Cond.methodLink RX0 103 yX0_goBeat, Cond.instanceMethod yX0_goBeat, Cond.selects RX0 yX0_goBeat yX0_goBeat, Cond.code yX0_goBeat cX0_goBeat 3 (some .int), Cond.methodLink RX0 109 yX2_isReady, Cond.instanceMethod yX2_isReady, Cond.selects RX2 yX2_isReady yX2_isReady]
def wsX3_pairsIfLarger_r4 : List Cond := [Cond.code yX2_isReady cX2_isReady 2 (some .boolean), Cond.methodLink RX2 87 yX2_isDrumming, Cond.methodLink RX2 73 yX2_isAwake, Cond.instanceMethod yX2_isAwake, Cond.selects RX2 yX2_isAwake yX2_isAwake, Cond.code yX2_isAwake cX2_isAwake 2 (some .boolean), Cond.methodLink RX2 81 yJ9_floorMod_7cf53, Cond.static yJ9_floorMod_7cf53, Cond.initialized RJ9, Cond.code yJ9_floorMod_7cf53 cJ9_floorMod_7cf53 3 (some .int), Cond.methodLink RX0 112 yX0_beginDrumming, Cond.instanceMethod yX0_beginDrumming, Cond.selects RX0 yX0_beginDrumming yX0_beginDrumming, Cond.code yX0_beginDrumming cX0_beginDrumming 9 none, Cond.fieldLink RX0 129 "DrumTalk$Village" "drumming" "I", Cond.fieldLink RX0 132 "DrumTalk$Village" "beatsLeft" "I", Cond.fieldLink RX0 139 "DrumTalk$Village" "cliff" "Z", Cond.methodLink RX0 126 yX2_takeFromQueue, Cond.instanceMethod yX2_takeFromQueue, Cond.selects RX2 yX2_takeFromQueue yX2_takeFromQueue, Cond.code yX2_takeFromQueue cX2_takeFromQueue 2 (some .int), Cond.methodLink RX0 93 yX2_distanceTo, Cond.instanceMethod yX2_distanceTo, Cond.selects RX2 yX2_distanceTo yX2_distanceTo]
def wsX3_pairsIfLarger_r5 : List Cond := [Cond.code yX2_distanceTo cX2_distanceTo 2 (some .int), Cond.methodLink RX2 91 Lib.Math.abs.name, Cond.static Lib.Math.abs.name, Cond.initialized "java/lang/Math", Cond.code Lib.Math.abs.name Lib.Math.abs.code 1 (some .int), Cond.methodLink RX0 97 yX2_isHeardAt, Cond.instanceMethod yX2_isHeardAt, Cond.selects RX2 yX2_isHeardAt yX2_isHeardAt, Cond.code yX2_isHeardAt cX2_isHeardAt 2 (some .boolean), Cond.methodLink RX0 135 yX1_add, Cond.instanceMethod yX1_add, Cond.selects RX1 yX1_add yX1_add, Cond.code yX1_add cX1_add 4 none, Cond.methodLink RX0 116 yX2_drownIfDisturbed, Cond.instanceMethod yX2_drownIfDisturbed, Cond.selects RX2 yX2_drownIfDisturbed yX2_drownIfDisturbed, Cond.code yX2_drownIfDisturbed cX2_drownIfDisturbed 2 none, Cond.methodLink RX2 98 yX1_lasting, Cond.instanceMethod yX1_lasting, Cond.selects RX1 yX1_lasting yX1_lasting, Cond.code yX1_lasting cX1_lasting 4 (some .int), Cond.methodLink RX2 101 yX1_drown, Cond.instanceMethod yX1_drown, Cond.selects RX1 yX1_drown yX1_drown]
def wsX3_pairsIfLarger_r6 : List Cond := [Cond.code yX1_drown cX1_drown 3 none, Cond.methodLink RX0 119 yX2_endSounds, Cond.instanceMethod yX2_endSounds, Cond.selects RX2 yX2_endSounds yX2_endSounds, Cond.code yX2_endSounds cX2_endSounds 5 (some .int), Cond.fieldLink RX2 105 "DrumTalk$Sounds" "size" "I", Cond.fieldLink RX2 108 "DrumTalk$Sounds" "lastBeats" "[I", Cond.fieldLink RX2 115 "DrumTalk$Sounds" "drowned" "[I", Cond.fieldLink RX2 117 "DrumTalk$Sounds" "phrases" "[I", Cond.methodLink RX2 111 yX1_move, Cond.instanceMethod yX1_move, Cond.selects RX1 yX1_move yX1_move, Cond.code yX1_move cX1_move 3 none, Cond.methodLink RX2 95 yX2_isKnown, Cond.instanceMethod yX2_isKnown, Cond.selects RX2 yX2_isKnown yX2_isKnown, Cond.code yX2_isKnown cX2_isKnown 2 (some .boolean), Cond.methodLink RX2 120 yX2_takeIn, Cond.instanceMethod yX2_takeIn, Cond.selects RX2 yX2_takeIn yX2_takeIn, Cond.code yX2_takeIn cX2_takeIn 3 none, Cond.methodLink RX0 123 yX2_endDrumBeat, Cond.instanceMethod yX2_endDrumBeat, Cond.selects RX2 yX2_endDrumBeat yX2_endDrumBeat]
def wsX3_pairsIfLarger_r7 : List Cond := [Cond.code yX2_endDrumBeat cX2_endDrumBeat 1 none, Cond.methodLink RX3 167 yX0_knownPairs, Cond.instanceMethod yX0_knownPairs, Cond.selects RX0 yX0_knownPairs yX0_knownPairs, Cond.code yX0_knownPairs cX0_knownPairs 3 (some .int), Cond.methodLink RX0 86 yX2_phrasesKnown, Cond.instanceMethod yX2_phrasesKnown, Cond.selects RX2 yX2_phrasesKnown yX2_phrasesKnown, Cond.code yX2_phrasesKnown cX2_phrasesKnown 3 (some .int)]
def wsX3_pairsIfLarger : List Cond := .code yX3_pairsIfLarger cX3_pairsIfLarger 3 (some .int) :: ((wsX3_pairsIfLarger_r1 ++ (wsX3_pairsIfLarger_r2 ++ (wsX3_pairsIfLarger_r3 ++ (wsX3_pairsIfLarger_r4 ++ (wsX3_pairsIfLarger_r5 ++ (wsX3_pairsIfLarger_r6 ++ wsX3_pairsIfLarger_r7)))))) ++ wsX30 ++ wsX00 ++ wsX20 ++ wsX10)
def wsX3_larger_r1 : List Cond := [Cond.classLink RX3 26 "java/lang/IllegalArgumentException", Cond.initialized "java/lang/IllegalArgumentException", Cond.fieldLink RX3 16 "DrumTalk" "trial" "LDrumTalk$Land;", Cond.fieldLink RX3 12 "DrumTalk" "land" "LDrumTalk$Land;", Cond.fieldLink RX3 33 "DrumTalk$Land" "villageCount" "I", Cond.fieldLink RX3 152 "DrumTalk$Land" "villages" "[LDrumTalk$Village;", Cond.fieldLink RX3 56 "DrumTalk$Village" "drum" "I", Cond.methodLink RX3 148 yX0_copy, Cond.instanceMethod yX0_copy, Cond.selects RX0 yX0_copy yX0_copy, Cond.initialized RX0, Cond.code yX0_copy cX0_copy 3 none, Cond.fieldLink RX0 25 "DrumTalk$Land" "villageCount" "I", Cond.fieldLink RX0 11 "DrumTalk$Land" "villages" "[LDrumTalk$Village;", Cond.fieldLink RX0 17 "DrumTalk$Land" "tones" "[I", Cond.methodLink RX0 33 arraycopyName, Cond.native arraycopyName, Cond.static arraycopyName, Cond.initialized "java/lang/System", Cond.fieldLink RX0 21 "DrumTalk$Land" "toneCounts" "[I", Cond.fieldLink RX0 39 "DrumTalk$Land" "phraseCount" "I", Cond.fieldLink RX0 42 "DrumTalk$Land" "beat" "I", Cond.fieldLink RX0 45 "DrumTalk$Land" "drummings" "I", Cond.methodLink RX0 29 yX2_copy]
def wsX3_larger_r2 : List Cond := [Cond.instanceMethod yX2_copy, Cond.selects RX2 yX2_copy yX2_copy, Cond.initialized RX2, Cond.code yX2_copy cX2_copy 2 none, Cond.fieldLink RX2 41 "DrumTalk$Village" "x" "I", Cond.fieldLink RX2 44 "DrumTalk$Village" "y" "I", Cond.fieldLink RX2 9 "DrumTalk$Village" "drum" "I", Cond.fieldLink RX2 47 "DrumTalk$Village" "cliff" "Z", Cond.fieldLink RX2 51 "DrumTalk$Village" "awakeFrom" "I", Cond.fieldLink RX2 15 "DrumTalk$Village" "awakeBeats" "I", Cond.fieldLink RX2 18 "DrumTalk$Village" "drumming" "I", Cond.fieldLink RX2 54 "DrumTalk$Village" "beatsLeft" "I", Cond.fieldLink RX2 21 "DrumTalk$Village" "queue" "[I", Cond.methodLink RX2 57 arraycopyName, Cond.fieldLink RX2 63 "DrumTalk$Village" "queued" "I", Cond.fieldLink RX2 25 "DrumTalk$Village" "knownSince" "[I", Cond.fieldLink RX2 31 "DrumTalk$Village" "inTheAir" "LDrumTalk$Sounds;", Cond.fieldLink RX2 70 "DrumTalk$Village" "drowned" "I", Cond.methodLink RX2 66 yX1_copy, Cond.instanceMethod yX1_copy, Cond.selects RX1 yX1_copy yX1_copy, Cond.initialized RX1, Cond.code yX1_copy cX1_copy 2 none, Cond.fieldLink RX1 9 "DrumTalk$Sounds" "phrases" "[I"]
def wsX3_larger_r3 : List Cond := [Cond.fieldLink RX1 24 "DrumTalk$Sounds" "size" "I", Cond.methodLink RX1 28 arraycopyName, Cond.fieldLink RX1 15 "DrumTalk$Sounds" "firstBeats" "[I", Cond.fieldLink RX1 18 "DrumTalk$Sounds" "lastBeats" "[I", Cond.fieldLink RX1 21 "DrumTalk$Sounds" "drowned" "[I", Cond.methodLink RX3 145 yX0_letGo, Cond.instanceMethod yX0_letGo, Cond.selects RX0 yX0_letGo yX0_letGo, Cond.code yX0_letGo cX0_letGo 4 (some .int), Cond.methodLink RX0 100 yX0_isQuiet, Cond.instanceMethod yX0_isQuiet, Cond.selects RX0 yX0_isQuiet yX0_isQuiet, Cond.code yX0_isQuiet cX0_isQuiet 3 (some .boolean), Cond.fieldLink RX0 106 "DrumTalk$Village" "queued" "I", Cond.fieldLink RX0 74 "DrumTalk$Village" "inTheAir" "LDrumTalk$Sounds;", Cond.fieldLink RX0 78 "DrumTalk$Sounds" "size" "I", Cond.methodLink RX0 70 yX2_isDrumming, Cond.instanceMethod yX2_isDrumming, Cond.selects RX2 yX2_isDrumming yX2_isDrumming, Cond.code yX2_isDrumming cX2_isDrumming 1 (some .boolean), Cond.methodLink RX0 103 yX0_goBeat, Cond.instanceMethod yX0_goBeat, Cond.selects RX0 yX0_goBeat yX0_goBeat, Cond.code yX0_goBeat cX0_goBeat 3 (some .int)]
def wsX3_larger_r4 : List Cond := [Cond.methodLink RX0 109 yX2_isReady, Cond.instanceMethod yX2_isReady, Cond.selects RX2 yX2_isReady yX2_isReady, Cond.code yX2_isReady cX2_isReady 2 (some .boolean), Cond.methodLink RX2 87 yX2_isDrumming, Cond.methodLink RX2 73 yX2_isAwake, Cond.instanceMethod yX2_isAwake, Cond.selects RX2 yX2_isAwake yX2_isAwake, Cond.code yX2_isAwake cX2_isAwake 2 (some .boolean), Cond.methodLink RX2 81 yJ9_floorMod_7cf53, Cond.static yJ9_floorMod_7cf53, Cond.initialized RJ9, Cond.code yJ9_floorMod_7cf53 cJ9_floorMod_7cf53 3 (some .int), Cond.methodLink RX0 112 yX0_beginDrumming, Cond.instanceMethod yX0_beginDrumming, Cond.selects RX0 yX0_beginDrumming yX0_beginDrumming, Cond.code yX0_beginDrumming cX0_beginDrumming 9 none, Cond.fieldLink RX0 129 "DrumTalk$Village" "drumming" "I", Cond.fieldLink RX0 132 "DrumTalk$Village" "beatsLeft" "I", Cond.fieldLink RX0 139 "DrumTalk$Village" "cliff" "Z", Cond.methodLink RX0 126 yX2_takeFromQueue, Cond.instanceMethod yX2_takeFromQueue, Cond.selects RX2 yX2_takeFromQueue yX2_takeFromQueue, Cond.code yX2_takeFromQueue cX2_takeFromQueue 2 (some .int)]
def wsX3_larger_r5 : List Cond := [Cond.methodLink RX0 93 yX2_distanceTo, Cond.instanceMethod yX2_distanceTo, Cond.selects RX2 yX2_distanceTo yX2_distanceTo, Cond.code yX2_distanceTo cX2_distanceTo 2 (some .int), Cond.methodLink RX2 91 Lib.Math.abs.name, Cond.static Lib.Math.abs.name, Cond.initialized "java/lang/Math", Cond.code Lib.Math.abs.name Lib.Math.abs.code 1 (some .int), Cond.methodLink RX0 97 yX2_isHeardAt, Cond.instanceMethod yX2_isHeardAt, Cond.selects RX2 yX2_isHeardAt yX2_isHeardAt, Cond.code yX2_isHeardAt cX2_isHeardAt 2 (some .boolean), Cond.methodLink RX0 135 yX1_add, Cond.instanceMethod yX1_add, Cond.selects RX1 yX1_add yX1_add, Cond.code yX1_add cX1_add 4 none, Cond.methodLink RX0 116 yX2_drownIfDisturbed, Cond.instanceMethod yX2_drownIfDisturbed, Cond.selects RX2 yX2_drownIfDisturbed yX2_drownIfDisturbed, Cond.code yX2_drownIfDisturbed cX2_drownIfDisturbed 2 none, Cond.methodLink RX2 98 yX1_lasting, Cond.instanceMethod yX1_lasting, Cond.selects RX1 yX1_lasting yX1_lasting, Cond.code yX1_lasting cX1_lasting 4 (some .int)]
def wsX3_larger_r6 : List Cond := [Cond.methodLink RX2 101 yX1_drown, Cond.instanceMethod yX1_drown, Cond.selects RX1 yX1_drown yX1_drown, Cond.code yX1_drown cX1_drown 3 none, Cond.methodLink RX0 119 yX2_endSounds, Cond.instanceMethod yX2_endSounds, Cond.selects RX2 yX2_endSounds yX2_endSounds, Cond.code yX2_endSounds cX2_endSounds 5 (some .int), Cond.fieldLink RX2 105 "DrumTalk$Sounds" "size" "I", Cond.fieldLink RX2 108 "DrumTalk$Sounds" "lastBeats" "[I", Cond.fieldLink RX2 115 "DrumTalk$Sounds" "drowned" "[I", Cond.fieldLink RX2 117 "DrumTalk$Sounds" "phrases" "[I", Cond.methodLink RX2 111 yX1_move, Cond.instanceMethod yX1_move, Cond.selects RX1 yX1_move yX1_move, Cond.code yX1_move cX1_move 3 none, Cond.methodLink RX2 95 yX2_isKnown, Cond.instanceMethod yX2_isKnown, Cond.selects RX2 yX2_isKnown yX2_isKnown, Cond.code yX2_isKnown cX2_isKnown 2 (some .boolean), Cond.methodLink RX2 120 yX2_takeIn, Cond.instanceMethod yX2_takeIn, Cond.selects RX2 yX2_takeIn yX2_takeIn, Cond.code yX2_takeIn cX2_takeIn 3 none]
def wsX3_larger_r7 : List Cond := [Cond.methodLink RX0 123 yX2_endDrumBeat, Cond.instanceMethod yX2_endDrumBeat, Cond.selects RX2 yX2_endDrumBeat yX2_endDrumBeat, Cond.code yX2_endDrumBeat cX2_endDrumBeat 1 none, Cond.methodLink RX3 167 yX0_knownPairs, Cond.instanceMethod yX0_knownPairs, Cond.selects RX0 yX0_knownPairs yX0_knownPairs, Cond.code yX0_knownPairs cX0_knownPairs 3 (some .int), Cond.methodLink RX0 86 yX2_phrasesKnown, Cond.instanceMethod yX2_phrasesKnown, Cond.selects RX2 yX2_phrasesKnown yX2_phrasesKnown, Cond.code yX2_phrasesKnown cX2_phrasesKnown 3 (some .int), Cond.methodLink RX3 171 yX3_pairsIfLarger, Cond.instanceMethod yX3_pairsIfLarger, Cond.selects RX3 yX3_pairsIfLarger yX3_pairsIfLarger, Cond.initialized RX3, Cond.code yX3_pairsIfLarger cX3_pairsIfLarger 3 (some .int)]
def wsX3_larger : List Cond := .code yX3_larger cX3_larger 6 (some .int) :: ((wsX3_larger_r1 ++ (wsX3_larger_r2 ++ (wsX3_larger_r3 ++ (wsX3_larger_r4 ++ (wsX3_larger_r5 ++ (wsX3_larger_r6 ++ wsX3_larger_r7)))))) ++ wsX30 ++ wsX00 ++ wsX20 ++ wsX10 ++ (vx_atS RX3 30 "java/lang/IllegalArgumentException" ["java/lang/RuntimeException", "java/lang/Exception"]).filter goodWord)
def wsX3_known : List Cond := .code yX3_known cX3_known 2 (some .double) :: ([.fieldLink RX3 12 "DrumTalk" "land" "LDrumTalk$Land;", .fieldLink RX3 33 "DrumTalk$Land" "villageCount" "I", .fieldLink RX3 79 "DrumTalk$Land" "phraseCount" "I", .methodLink RX3 167 yX0_knownPairs, .instanceMethod yX0_knownPairs, .selects RX0 yX0_knownPairs yX0_knownPairs, .initialized RX0, .code yX0_knownPairs cX0_knownPairs 3 (some .int), .fieldLink RX0 25 "DrumTalk$Land" "villageCount" "I", .fieldLink RX0 11 "DrumTalk$Land" "villages" "[LDrumTalk$Village;", .methodLink RX0 86 yX2_phrasesKnown, .instanceMethod yX2_phrasesKnown, .selects RX2 yX2_phrasesKnown yX2_phrasesKnown, .initialized RX2, .code yX2_phrasesKnown cX2_phrasesKnown 3 (some .int), .methodLink RX2 95 yX2_isKnown, .instanceMethod yX2_isKnown, .selects RX2 yX2_isKnown yX2_isKnown, .code yX2_isKnown cX2_isKnown 2 (some .boolean), .fieldLink RX2 25 "DrumTalk$Village" "knownSince" "[I"] ++ wsX30 ++ wsX00 ++ wsX20)
def wsX3_digestOn_r1 : List Cond := [Cond.constantLong RX3 176 (31), Cond.fieldLink RX3 12 "DrumTalk" "land" "LDrumTalk$Land;", Cond.fieldLink RX3 100 "DrumTalk$Land" "beat" "I", Cond.fieldLink RX3 124 "DrumTalk$Village" "inTheAir" "LDrumTalk$Sounds;", Cond.fieldLink RX3 95 "DrumTalk$Village" "queued" "I", Cond.fieldLink RX3 117 "DrumTalk$Village" "queue" "[I", Cond.fieldLink RX3 79 "DrumTalk$Land" "phraseCount" "I", Cond.fieldLink RX3 121 "DrumTalk$Village" "knownSince" "[I", Cond.methodLink RX3 112 yX2_figure, Cond.instanceMethod yX2_figure, Cond.selects RX2 yX2_figure yX2_figure, Cond.initialized RX2, Cond.code yX2_figure cX2_figure 3 (some .int), Cond.fieldLink RX2 41 "DrumTalk$Village" "x" "I", Cond.fieldLink RX2 44 "DrumTalk$Village" "y" "I", Cond.fieldLink RX2 9 "DrumTalk$Village" "drum" "I", Cond.fieldLink RX2 47 "DrumTalk$Village" "cliff" "Z", Cond.fieldLink RX2 18 "DrumTalk$Village" "drumming" "I", Cond.fieldLink RX2 54 "DrumTalk$Village" "beatsLeft" "I", Cond.fieldLink RX2 63 "DrumTalk$Village" "queued" "I", Cond.fieldLink RX2 70 "DrumTalk$Village" "drowned" "I", Cond.methodLink RX2 73 yX2_isAwake, Cond.instanceMethod yX2_isAwake, Cond.selects RX2 yX2_isAwake yX2_isAwake]
def wsX3_digestOn_r2 : List Cond := [Cond.code yX2_isAwake cX2_isAwake 2 (some .boolean), Cond.fieldLink RX2 51 "DrumTalk$Village" "awakeFrom" "I", Cond.fieldLink RX2 15 "DrumTalk$Village" "awakeBeats" "I", Cond.methodLink RX2 81 yJ9_floorMod_7cf53, Cond.static yJ9_floorMod_7cf53, Cond.initialized RJ9, Cond.code yJ9_floorMod_7cf53 cJ9_floorMod_7cf53 3 (some .int), Cond.methodLink RX2 77 yX2_phrasesKnown, Cond.instanceMethod yX2_phrasesKnown, Cond.selects RX2 yX2_phrasesKnown yX2_phrasesKnown, Cond.code yX2_phrasesKnown cX2_phrasesKnown 3 (some .int), Cond.methodLink RX2 95 yX2_isKnown, Cond.instanceMethod yX2_isKnown, Cond.selects RX2 yX2_isKnown yX2_isKnown, Cond.code yX2_isKnown cX2_isKnown 2 (some .boolean), Cond.fieldLink RX2 25 "DrumTalk$Village" "knownSince" "[I", Cond.methodLink RX3 128 yX1_lasting, Cond.instanceMethod yX1_lasting, Cond.selects RX1 yX1_lasting yX1_lasting, Cond.initialized RX1, Cond.code yX1_lasting cX1_lasting 4 (some .int), Cond.fieldLink RX1 24 "DrumTalk$Sounds" "size" "I", Cond.fieldLink RX1 15 "DrumTalk$Sounds" "firstBeats" "[I"]
def wsX3_digestOn : List Cond := .code yX3_digestOn cX3_digestOn 7 (some .long) :: ((wsX3_digestOn_r1 ++ wsX3_digestOn_r2) ++ wsX30 ++ wsX00 ++ wsX20 ++ wsX10)
def wsX3_digest_r1 : List Cond := [Cond.constantLong RX3 174 (769), Cond.constantLong RX3 176 (31), Cond.fieldLink RX3 12 "DrumTalk" "land" "LDrumTalk$Land;", Cond.fieldLink RX3 79 "DrumTalk$Land" "phraseCount" "I", Cond.fieldLink RX3 178 "DrumTalk$Land" "tones" "[I", Cond.fieldLink RX3 33 "DrumTalk$Land" "villageCount" "I", Cond.fieldLink RX3 152 "DrumTalk$Land" "villages" "[LDrumTalk$Village;", Cond.methodLink RX3 135 yX0_figure, Cond.instanceMethod yX0_figure, Cond.selects RX0 yX0_figure yX0_figure, Cond.initialized RX0, Cond.code yX0_figure cX0_figure 2 (some .int), Cond.fieldLink RX0 42 "DrumTalk$Land" "beat" "I", Cond.fieldLink RX0 25 "DrumTalk$Land" "villageCount" "I", Cond.fieldLink RX0 39 "DrumTalk$Land" "phraseCount" "I", Cond.fieldLink RX0 45 "DrumTalk$Land" "drummings" "I", Cond.methodLink RX0 57 yX0_drummers, Cond.instanceMethod yX0_drummers, Cond.selects RX0 yX0_drummers yX0_drummers, Cond.code yX0_drummers cX0_drummers 3 (some .int), Cond.fieldLink RX0 11 "DrumTalk$Land" "villages" "[LDrumTalk$Village;", Cond.methodLink RX0 70 yX2_isDrumming, Cond.instanceMethod yX2_isDrumming, Cond.selects RX2 yX2_isDrumming yX2_isDrumming]
def wsX3_digest_r2 : List Cond := [Cond.initialized RX2, Cond.code yX2_isDrumming cX2_isDrumming 1 (some .boolean), Cond.fieldLink RX2 18 "DrumTalk$Village" "drumming" "I", Cond.methodLink RX0 61 yX0_soundsInTheAir, Cond.instanceMethod yX0_soundsInTheAir, Cond.selects RX0 yX0_soundsInTheAir yX0_soundsInTheAir, Cond.code yX0_soundsInTheAir cX0_soundsInTheAir 3 (some .int), Cond.fieldLink RX0 74 "DrumTalk$Village" "inTheAir" "LDrumTalk$Sounds;", Cond.fieldLink RX0 78 "DrumTalk$Sounds" "size" "I", Cond.methodLink RX0 64 yX0_soundsDrowned, Cond.instanceMethod yX0_soundsDrowned, Cond.selects RX0 yX0_soundsDrowned yX0_soundsDrowned, Cond.code yX0_soundsDrowned cX0_soundsDrowned 3 (some .int), Cond.fieldLink RX0 83 "DrumTalk$Village" "drowned" "I", Cond.methodLink RX0 67 yX0_knownPairs, Cond.instanceMethod yX0_knownPairs, Cond.selects RX0 yX0_knownPairs yX0_knownPairs, Cond.code yX0_knownPairs cX0_knownPairs 3 (some .int), Cond.methodLink RX0 86 yX2_phrasesKnown, Cond.instanceMethod yX2_phrasesKnown, Cond.selects RX2 yX2_phrasesKnown yX2_phrasesKnown, Cond.code yX2_phrasesKnown cX2_phrasesKnown 3 (some .int), Cond.methodLink RX2 95 yX2_isKnown, Cond.instanceMethod yX2_isKnown]
def wsX3_digest_r3 : List Cond := [Cond.selects RX2 yX2_isKnown yX2_isKnown, Cond.code yX2_isKnown cX2_isKnown 2 (some .boolean), Cond.fieldLink RX2 25 "DrumTalk$Village" "knownSince" "[I", Cond.methodLink RX3 181 yX3_digestOn, Cond.instanceMethod yX3_digestOn, Cond.selects RX3 yX3_digestOn yX3_digestOn, Cond.initialized RX3, Cond.code yX3_digestOn cX3_digestOn 7 (some .long), Cond.fieldLink RX3 100 "DrumTalk$Land" "beat" "I", Cond.fieldLink RX3 124 "DrumTalk$Village" "inTheAir" "LDrumTalk$Sounds;", Cond.fieldLink RX3 95 "DrumTalk$Village" "queued" "I", Cond.fieldLink RX3 117 "DrumTalk$Village" "queue" "[I", Cond.fieldLink RX3 121 "DrumTalk$Village" "knownSince" "[I", Cond.methodLink RX3 112 yX2_figure, Cond.instanceMethod yX2_figure, Cond.selects RX2 yX2_figure yX2_figure, Cond.code yX2_figure cX2_figure 3 (some .int), Cond.fieldLink RX2 41 "DrumTalk$Village" "x" "I", Cond.fieldLink RX2 44 "DrumTalk$Village" "y" "I", Cond.fieldLink RX2 9 "DrumTalk$Village" "drum" "I", Cond.fieldLink RX2 47 "DrumTalk$Village" "cliff" "Z", Cond.fieldLink RX2 54 "DrumTalk$Village" "beatsLeft" "I", Cond.fieldLink RX2 63 "DrumTalk$Village" "queued" "I", Cond.fieldLink RX2 70 "DrumTalk$Village" "drowned" "I"]
def wsX3_digest_r4 : List Cond := [Cond.methodLink RX2 73 yX2_isAwake, Cond.instanceMethod yX2_isAwake, Cond.selects RX2 yX2_isAwake yX2_isAwake, Cond.code yX2_isAwake cX2_isAwake 2 (some .boolean), Cond.fieldLink RX2 51 "DrumTalk$Village" "awakeFrom" "I", Cond.fieldLink RX2 15 "DrumTalk$Village" "awakeBeats" "I", Cond.methodLink RX2 81 yJ9_floorMod_7cf53, Cond.static yJ9_floorMod_7cf53, Cond.initialized RJ9, Cond.code yJ9_floorMod_7cf53 cJ9_floorMod_7cf53 3 (some .int), Cond.methodLink RX2 77 yX2_phrasesKnown, Cond.methodLink RX3 128 yX1_lasting, Cond.instanceMethod yX1_lasting, Cond.selects RX1 yX1_lasting yX1_lasting, Cond.initialized RX1, Cond.code yX1_lasting cX1_lasting 4 (some .int), Cond.fieldLink RX1 24 "DrumTalk$Sounds" "size" "I", Cond.fieldLink RX1 15 "DrumTalk$Sounds" "firstBeats" "[I"]
def wsX3_digest : List Cond := .code yX3_digest cX3_digest 4 (some .long) :: ((wsX3_digest_r1 ++ (wsX3_digest_r2 ++ (wsX3_digest_r3 ++ wsX3_digest_r4))) ++ wsX30 ++ wsX00 ++ wsX20 ++ wsX10)
def wsX4_init : List Cond := .code yX4_init cX4_init 2 none :: ([.fieldLink RX4 3 "DrumTalkModel$State" "this$0" "LDrumTalkModel;", .methodLink RX4 9 objectInit, .instanceMethod objectInit, .code objectInit ⟨#[0xb1]⟩ 1 none, .arrayClass .int, .fieldLink RX4 15 "DrumTalkModel$State" "drum" "[I", .fieldLink RX4 19 "DrumTalkModel$State" "drums" "[I", .fieldLink RX4 22 "DrumTalkModel$State" "left" "[I", .fieldLink RX4 25 "DrumTalkModel$State" "queued" "[I", .fieldLink RX4 28 "DrumTalkModel$State" "queue" "[I", .fieldLink RX4 31 "DrumTalkModel$State" "known" "[I", .fieldLink RX4 34 "DrumTalkModel$State" "drowned" "[I", .fieldLink RX4 37 "DrumTalkModel$State" "where" "[I", .fieldLink RX4 40 "DrumTalkModel$State" "what" "[I", .fieldLink RX4 43 "DrumTalkModel$State" "first" "[I", .fieldLink RX4 46 "DrumTalkModel$State" "last" "[I", .fieldLink RX4 49 "DrumTalkModel$State" "lost" "[I"] ++ wsX40)
def wsX4_copy : List Cond := .code yX4_copy cX4_copy 4 none :: ([.methodLink RX4 52 arraycopyName, .native arraycopyName, .static arraycopyName, .initialized "java/lang/System"])
def wsX4_become : List Cond := .code yX4_become cX4_become 2 none :: ([.fieldLink RX4 58 "DrumTalkModel$State" "beat" "I", .fieldLink RX4 62 "DrumTalkModel$State" "begun" "I", .fieldLink RX4 65 "DrumTalkModel$State" "sounds" "I", .fieldLink RX4 15 "DrumTalkModel$State" "drum" "[I", .fieldLink RX4 19 "DrumTalkModel$State" "drums" "[I", .fieldLink RX4 22 "DrumTalkModel$State" "left" "[I", .fieldLink RX4 25 "DrumTalkModel$State" "queued" "[I", .fieldLink RX4 28 "DrumTalkModel$State" "queue" "[I", .fieldLink RX4 31 "DrumTalkModel$State" "known" "[I", .fieldLink RX4 34 "DrumTalkModel$State" "drowned" "[I", .fieldLink RX4 37 "DrumTalkModel$State" "where" "[I", .fieldLink RX4 40 "DrumTalkModel$State" "what" "[I", .fieldLink RX4 43 "DrumTalkModel$State" "first" "[I", .fieldLink RX4 46 "DrumTalkModel$State" "last" "[I", .fieldLink RX4 49 "DrumTalkModel$State" "lost" "[I", .methodLink RX4 68 yX4_copy, .instanceMethod yX4_copy, .selects RX4 yX4_copy yX4_copy, .initialized RX4, .code yX4_copy cX4_copy 4 none, .methodLink RX4 52 arraycopyName, .native arraycopyName, .static arraycopyName, .initialized "java/lang/System"] ++ wsX40)
def wsX4_isAwake : List Cond := .code yX4_isAwake cX4_isAwake 2 (some .boolean) :: ([.fieldLink RX4 58 "DrumTalkModel$State" "beat" "I", .fieldLink RX4 3 "DrumTalkModel$State" "this$0" "LDrumTalkModel;"] ++ wsX40 ++ wsX50)
def wsX5_far : List Cond := .code yX5_far cX5_far 3 (some .int) :: ([.fieldLink RX5 9 "DrumTalkModel" "x" "[I", .methodLink RX5 60 Lib.Math.abs.name, .static Lib.Math.abs.name, .initialized "java/lang/Math", .code Lib.Math.abs.name Lib.Math.abs.code 1 (some .int), .fieldLink RX5 13 "DrumTalkModel" "y" "[I"] ++ wsX50)
def wsX4_hears : List Cond := .code yX4_hears cX4_hears 3 (some .boolean) :: ([.fieldLink RX4 3 "DrumTalkModel$State" "this$0" "LDrumTalkModel;", .fieldLink RX4 15 "DrumTalkModel$State" "drum" "[I", .instanceMethod yX5_far, .initialized RX5, .selects RX5 yX5_far yX5_far, .code yX5_far cX5_far 3 (some .int), .fieldLink RX5 9 "DrumTalkModel" "x" "[I", .methodLink RX5 60 Lib.Math.abs.name, .static Lib.Math.abs.name, .initialized "java/lang/Math", .code Lib.Math.abs.name Lib.Math.abs.code 1 (some .int), .fieldLink RX5 13 "DrumTalkModel" "y" "[I"] ++ wsX40 ++ wsX50)
def wsX4_sound : List Cond := .code yX4_sound cX4_sound 4 none :: ([.fieldLink RX4 37 "DrumTalkModel$State" "where" "[I", .fieldLink RX4 65 "DrumTalkModel$State" "sounds" "I", .fieldLink RX4 40 "DrumTalkModel$State" "what" "[I", .fieldLink RX4 43 "DrumTalkModel$State" "first" "[I", .fieldLink RX4 46 "DrumTalkModel$State" "last" "[I", .fieldLink RX4 3 "DrumTalkModel$State" "this$0" "LDrumTalkModel;", .fieldLink RX4 49 "DrumTalkModel$State" "lost" "[I"] ++ wsX40 ++ wsX50)
def wsX4_begin_r1 : List Cond := [Cond.fieldLink RX4 19 "DrumTalkModel$State" "drums" "[I", Cond.fieldLink RX4 25 "DrumTalkModel$State" "queued" "[I", Cond.fieldLink RX4 28 "DrumTalkModel$State" "queue" "[I", Cond.methodLink RX4 52 arraycopyName, Cond.native arraycopyName, Cond.static arraycopyName, Cond.initialized "java/lang/System", Cond.fieldLink RX4 22 "DrumTalkModel$State" "left" "[I", Cond.fieldLink RX4 3 "DrumTalkModel$State" "this$0" "LDrumTalkModel;", Cond.fieldLink RX4 62 "DrumTalkModel$State" "begun" "I", Cond.fieldLink RX4 58 "DrumTalkModel$State" "beat" "I", Cond.methodLink RX4 85 yX4_isAwake, Cond.instanceMethod yX4_isAwake, Cond.selects RX4 yX4_isAwake yX4_isAwake, Cond.initialized RX4, Cond.code yX4_isAwake cX4_isAwake 2 (some .boolean), Cond.methodLink RX4 92 yX4_hears, Cond.instanceMethod yX4_hears, Cond.selects RX4 yX4_hears yX4_hears, Cond.code yX4_hears cX4_hears 3 (some .boolean), Cond.fieldLink RX4 15 "DrumTalkModel$State" "drum" "[I", Cond.instanceMethod yX5_far, Cond.initialized RX5, Cond.selects RX5 yX5_far yX5_far]
def wsX4_begin_r2 : List Cond := [Cond.code yX5_far cX5_far 3 (some .int), Cond.fieldLink RX5 9 "DrumTalkModel" "x" "[I", Cond.methodLink RX5 60 Lib.Math.abs.name, Cond.static Lib.Math.abs.name, Cond.initialized "java/lang/Math", Cond.code Lib.Math.abs.name Lib.Math.abs.code 1 (some .int), Cond.fieldLink RX5 13 "DrumTalkModel" "y" "[I", Cond.methodLink RX4 96 yX4_sound, Cond.instanceMethod yX4_sound, Cond.selects RX4 yX4_sound yX4_sound, Cond.code yX4_sound cX4_sound 4 none, Cond.fieldLink RX4 37 "DrumTalkModel$State" "where" "[I", Cond.fieldLink RX4 65 "DrumTalkModel$State" "sounds" "I", Cond.fieldLink RX4 40 "DrumTalkModel$State" "what" "[I", Cond.fieldLink RX4 43 "DrumTalkModel$State" "first" "[I", Cond.fieldLink RX4 46 "DrumTalkModel$State" "last" "[I", Cond.fieldLink RX4 49 "DrumTalkModel$State" "lost" "[I"]
def wsX4_begin : List Cond := .code yX4_begin cX4_begin 5 none :: ((wsX4_begin_r1 ++ wsX4_begin_r2) ++ wsX40 ++ wsX50)
def wsX4_lasting : List Cond := .code yX4_lasting cX4_lasting 4 (some .int) :: ([.fieldLink RX4 65 "DrumTalkModel$State" "sounds" "I", .fieldLink RX4 37 "DrumTalkModel$State" "where" "[I", .fieldLink RX4 43 "DrumTalkModel$State" "first" "[I", .fieldLink RX4 58 "DrumTalkModel$State" "beat" "I", .fieldLink RX4 46 "DrumTalkModel$State" "last" "[I"] ++ wsX40)
def wsX4_learns : List Cond := .code yX4_learns cX4_learns 3 (some .boolean) :: ([.fieldLink RX4 31 "DrumTalkModel$State" "known" "[I", .fieldLink RX4 58 "DrumTalkModel$State" "beat" "I"] ++ wsX40)
def wsX4_put : List Cond := .code yX4_put cX4_put 3 none :: ([.fieldLink RX4 28 "DrumTalkModel$State" "queue" "[I", .fieldLink RX4 25 "DrumTalkModel$State" "queued" "[I"] ++ wsX40)
def wsX4_pass_r1 : List Cond := [Cond.fieldLink RX4 3 "DrumTalkModel$State" "this$0" "LDrumTalkModel;", Cond.fieldLink RX4 19 "DrumTalkModel$State" "drums" "[I", Cond.fieldLink RX4 65 "DrumTalkModel$State" "sounds" "I", Cond.fieldLink RX4 37 "DrumTalkModel$State" "where" "[I", Cond.fieldLink RX4 43 "DrumTalkModel$State" "first" "[I", Cond.fieldLink RX4 58 "DrumTalkModel$State" "beat" "I", Cond.fieldLink RX4 49 "DrumTalkModel$State" "lost" "[I", Cond.fieldLink RX4 46 "DrumTalkModel$State" "last" "[I", Cond.fieldLink RX4 40 "DrumTalkModel$State" "what" "[I", Cond.fieldLink RX4 34 "DrumTalkModel$State" "drowned" "[I", Cond.fieldLink RX4 25 "DrumTalkModel$State" "queued" "[I", Cond.fieldLink RX4 22 "DrumTalkModel$State" "left" "[I", Cond.methodLink RX4 118 Lib.Math.max.name, Cond.static Lib.Math.max.name, Cond.initialized "java/lang/Math", Cond.code Lib.Math.max.name Lib.Math.max.code 2 (some .int), Cond.methodLink RX4 103 yX4_begin, Cond.instanceMethod yX4_begin, Cond.selects RX4 yX4_begin yX4_begin, Cond.initialized RX4, Cond.code yX4_begin cX4_begin 5 none, Cond.fieldLink RX4 28 "DrumTalkModel$State" "queue" "[I", Cond.methodLink RX4 52 arraycopyName, Cond.native arraycopyName]
def wsX4_pass_r2 : List Cond := [Cond.static arraycopyName, Cond.initialized "java/lang/System", Cond.fieldLink RX4 62 "DrumTalkModel$State" "begun" "I", Cond.methodLink RX4 85 yX4_isAwake, Cond.instanceMethod yX4_isAwake, Cond.selects RX4 yX4_isAwake yX4_isAwake, Cond.code yX4_isAwake cX4_isAwake 2 (some .boolean), Cond.methodLink RX4 92 yX4_hears, Cond.instanceMethod yX4_hears, Cond.selects RX4 yX4_hears yX4_hears, Cond.code yX4_hears cX4_hears 3 (some .boolean), Cond.fieldLink RX4 15 "DrumTalkModel$State" "drum" "[I", Cond.instanceMethod yX5_far, Cond.initialized RX5, Cond.selects RX5 yX5_far yX5_far, Cond.code yX5_far cX5_far 3 (some .int), Cond.fieldLink RX5 9 "DrumTalkModel" "x" "[I", Cond.methodLink RX5 60 Lib.Math.abs.name, Cond.static Lib.Math.abs.name, Cond.code Lib.Math.abs.name Lib.Math.abs.code 1 (some .int), Cond.fieldLink RX5 13 "DrumTalkModel" "y" "[I", Cond.methodLink RX4 96 yX4_sound, Cond.instanceMethod yX4_sound, Cond.selects RX4 yX4_sound yX4_sound]
def wsX4_pass_r3 : List Cond := [Cond.code yX4_sound cX4_sound 4 none, Cond.methodLink RX4 107 yX4_lasting, Cond.instanceMethod yX4_lasting, Cond.selects RX4 yX4_lasting yX4_lasting, Cond.code yX4_lasting cX4_lasting 4 (some .int), Cond.methodLink RX4 111 yX4_learns, Cond.instanceMethod yX4_learns, Cond.selects RX4 yX4_learns yX4_learns, Cond.code yX4_learns cX4_learns 3 (some .boolean), Cond.fieldLink RX4 31 "DrumTalkModel$State" "known" "[I", Cond.methodLink RX4 114 yX4_put, Cond.instanceMethod yX4_put, Cond.selects RX4 yX4_put yX4_put, Cond.code yX4_put cX4_put 3 none]
def wsX4_pass : List Cond := .code yX4_pass cX4_pass 4 (some .int) :: ((wsX4_pass_r1 ++ (wsX4_pass_r2 ++ wsX4_pass_r3)) ++ wsX40 ++ wsX50)
def wsX4_knowing : List Cond := .code yX4_knowing cX4_knowing 4 (some .int) :: ([.fieldLink RX4 3 "DrumTalkModel$State" "this$0" "LDrumTalkModel;", .fieldLink RX4 31 "DrumTalkModel$State" "known" "[I"] ++ wsX40 ++ wsX50)
def wsX4_pairs : List Cond := .code yX4_pairs cX4_pairs 3 (some .int) :: ([.fieldLink RX4 3 "DrumTalkModel$State" "this$0" "LDrumTalkModel;", .methodLink RX4 126 yX4_knowing, .instanceMethod yX4_knowing, .selects RX4 yX4_knowing yX4_knowing, .initialized RX4, .code yX4_knowing cX4_knowing 4 (some .int), .fieldLink RX4 31 "DrumTalkModel$State" "known" "[I"] ++ wsX40 ++ wsX50)
def wsX5_init_r1 : List Cond := [Cond.methodLink RX5 1 objectInit, Cond.instanceMethod objectInit, Cond.code objectInit ⟨#[0xb1]⟩ 1 none, Cond.arrayClass .int, Cond.fieldLink RX5 9 "DrumTalkModel" "x" "[I", Cond.fieldLink RX5 13 "DrumTalkModel" "y" "[I", Cond.fieldLink RX5 16 "DrumTalkModel" "cliff" "[I", Cond.fieldLink RX5 19 "DrumTalkModel" "from" "[I", Cond.fieldLink RX5 22 "DrumTalkModel" "beats" "[I", Cond.fieldLink RX5 25 "DrumTalkModel" "tones" "[I", Cond.fieldLink RX5 28 "DrumTalkModel" "length" "[I", Cond.classLink RX5 31 RX4, Cond.instantiable RX4 16, Cond.initialized RX4, Cond.fieldLink RX5 36 "DrumTalkModel" "s" "LDrumTalkModel$State;", Cond.fieldLink RX5 40 "DrumTalkModel" "ahead" "LDrumTalkModel$State;", Cond.instanceMethod yX4_init, Cond.code yX4_init cX4_init 2 none, Cond.fieldLink RX4 3 "DrumTalkModel$State" "this$0" "LDrumTalkModel;", Cond.methodLink RX4 9 objectInit, Cond.fieldLink RX4 15 "DrumTalkModel$State" "drum" "[I", Cond.fieldLink RX4 19 "DrumTalkModel$State" "drums" "[I", Cond.fieldLink RX4 22 "DrumTalkModel$State" "left" "[I", Cond.fieldLink RX4 25 "DrumTalkModel$State" "queued" "[I"]
def wsX5_init_r2 : List Cond := [Cond.fieldLink RX4 28 "DrumTalkModel$State" "queue" "[I", Cond.fieldLink RX4 31 "DrumTalkModel$State" "known" "[I", Cond.fieldLink RX4 34 "DrumTalkModel$State" "drowned" "[I", Cond.fieldLink RX4 37 "DrumTalkModel$State" "where" "[I", Cond.fieldLink RX4 40 "DrumTalkModel$State" "what" "[I", Cond.fieldLink RX4 43 "DrumTalkModel$State" "first" "[I", Cond.fieldLink RX4 46 "DrumTalkModel$State" "last" "[I", Cond.fieldLink RX4 49 "DrumTalkModel$State" "lost" "[I"]
def wsX5_init : List Cond := .code yX5_init cX5_init 2 none :: ((wsX5_init_r1 ++ wsX5_init_r2) ++ wsX50 ++ wsX40)
def wsX5_thrown : List Cond := .code yX5_thrown cX5_thrown 1 (some .int) :: ([.fieldLink RX5 46 "DrumTalkModel" "thrown" "I"] ++ wsX50)
def wsX5_no : List Cond := .code yX5_no cX5_no 2 (some .int) :: ([.fieldLink RX5 46 "DrumTalkModel" "thrown" "I"] ++ wsX50)
def wsX5_isIn : List Cond := .code yX5_isIn cX5_isIn 3 (some .boolean) :: ([])
def wsX5_isVillage : List Cond := .code yX5_isVillage cX5_isVillage 2 (some .boolean) :: ([.fieldLink RX5 50 "DrumTalkModel" "villages" "I", .methodLink RX5 53 yX5_isIn, .static yX5_isIn, .initialized RX5, .code yX5_isIn cX5_isIn 3 (some .boolean)] ++ wsX50)
def wsX5_isPhrase : List Cond := .code yX5_isPhrase cX5_isPhrase 2 (some .boolean) :: ([.fieldLink RX5 57 "DrumTalkModel" "phrases" "I", .methodLink RX5 53 yX5_isIn, .static yX5_isIn, .initialized RX5, .code yX5_isIn cX5_isIn 3 (some .boolean)] ++ wsX50)
def wsX5_found : List Cond := .code yX5_found cX5_found 6 (some .int) :: ([.fieldLink RX5 46 "DrumTalkModel" "thrown" "I", .fieldLink RX5 50 "DrumTalkModel" "villages" "I", .fieldLink RX5 9 "DrumTalkModel" "x" "[I", .fieldLink RX5 13 "DrumTalkModel" "y" "[I", .fieldLink RX5 22 "DrumTalkModel" "beats" "[I", .fieldLink RX5 36 "DrumTalkModel" "s" "LDrumTalkModel$State;", .methodLink RX5 53 yX5_isIn, .static yX5_isIn, .initialized RX5, .code yX5_isIn cX5_isIn 3 (some .boolean), .methodLink RX5 66 yX5_no, .instanceMethod yX5_no, .selects RX5 yX5_no yX5_no, .code yX5_no cX5_no 2 (some .int)] ++ wsX50 ++ wsX40)
def wsX5_setDrum : List Cond := .code yX5_setDrum cX5_setDrum 4 (some .int) :: ([.fieldLink RX5 46 "DrumTalkModel" "thrown" "I", .fieldLink RX5 36 "DrumTalkModel" "s" "LDrumTalkModel$State;", .methodLink RX5 75 yX5_isVillage, .instanceMethod yX5_isVillage, .selects RX5 yX5_isVillage yX5_isVillage, .initialized RX5, .code yX5_isVillage cX5_isVillage 2 (some .boolean), .fieldLink RX5 50 "DrumTalkModel" "villages" "I", .methodLink RX5 53 yX5_isIn, .static yX5_isIn, .code yX5_isIn cX5_isIn 3 (some .boolean), .methodLink RX5 66 yX5_no, .instanceMethod yX5_no, .selects RX5 yX5_no yX5_no, .code yX5_no cX5_no 2 (some .int)] ++ wsX50 ++ wsX40)
def wsX5_setCliff : List Cond := .code yX5_setCliff cX5_setCliff 4 (some .boolean) :: ([.fieldLink RX5 46 "DrumTalkModel" "thrown" "I", .fieldLink RX5 16 "DrumTalkModel" "cliff" "[I", .methodLink RX5 75 yX5_isVillage, .instanceMethod yX5_isVillage, .selects RX5 yX5_isVillage yX5_isVillage, .initialized RX5, .code yX5_isVillage cX5_isVillage 2 (some .boolean), .fieldLink RX5 50 "DrumTalkModel" "villages" "I", .methodLink RX5 53 yX5_isIn, .static yX5_isIn, .code yX5_isIn cX5_isIn 3 (some .boolean), .methodLink RX5 66 yX5_no, .instanceMethod yX5_no, .selects RX5 yX5_no yX5_no, .code yX5_no cX5_no 2 (some .int)] ++ wsX50)
def wsX5_setAwake : List Cond := .code yX5_setAwake cX5_setAwake 5 (some .int) :: ([.fieldLink RX5 46 "DrumTalkModel" "thrown" "I", .fieldLink RX5 22 "DrumTalkModel" "beats" "[I", .fieldLink RX5 19 "DrumTalkModel" "from" "[I", .methodLink RX5 75 yX5_isVillage, .instanceMethod yX5_isVillage, .selects RX5 yX5_isVillage yX5_isVillage, .initialized RX5, .code yX5_isVillage cX5_isVillage 2 (some .boolean), .fieldLink RX5 50 "DrumTalkModel" "villages" "I", .methodLink RX5 53 yX5_isIn, .static yX5_isIn, .code yX5_isIn cX5_isIn 3 (some .boolean), .methodLink RX5 66 yX5_no, .instanceMethod yX5_no, .selects RX5 yX5_no yX5_no, .code yX5_no cX5_no 2 (some .int)] ++ wsX50)
def wsX5_phrase : List Cond := .code yX5_phrase cX5_phrase 6 (some .int) :: ([.fieldLink RX5 46 "DrumTalkModel" "thrown" "I", .fieldLink RX5 57 "DrumTalkModel" "phrases" "I", .fieldLink RX5 25 "DrumTalkModel" "tones" "[I", .fieldLink RX5 28 "DrumTalkModel" "length" "[I", .methodLink RX5 53 yX5_isIn, .static yX5_isIn, .initialized RX5, .code yX5_isIn cX5_isIn 3 (some .boolean), .methodLink RX5 66 yX5_no, .instanceMethod yX5_no, .selects RX5 yX5_no yX5_no, .code yX5_no cX5_no 2 (some .int)] ++ wsX50)
def wsX5_tell_r1 : List Cond := [Cond.fieldLink RX5 46 "DrumTalkModel" "thrown" "I", Cond.fieldLink RX5 36 "DrumTalkModel" "s" "LDrumTalkModel$State;", Cond.methodLink RX5 75 yX5_isVillage, Cond.instanceMethod yX5_isVillage, Cond.selects RX5 yX5_isVillage yX5_isVillage, Cond.initialized RX5, Cond.code yX5_isVillage cX5_isVillage 2 (some .boolean), Cond.fieldLink RX5 50 "DrumTalkModel" "villages" "I", Cond.methodLink RX5 53 yX5_isIn, Cond.static yX5_isIn, Cond.code yX5_isIn cX5_isIn 3 (some .boolean), Cond.methodLink RX5 79 yX5_isPhrase, Cond.instanceMethod yX5_isPhrase, Cond.selects RX5 yX5_isPhrase yX5_isPhrase, Cond.code yX5_isPhrase cX5_isPhrase 2 (some .boolean), Cond.fieldLink RX5 57 "DrumTalkModel" "phrases" "I", Cond.methodLink RX5 66 yX5_no, Cond.instanceMethod yX5_no, Cond.selects RX5 yX5_no yX5_no, Cond.code yX5_no cX5_no 2 (some .int), Cond.methodLink RX5 85 yX4_learns, Cond.instanceMethod yX4_learns, Cond.selects RX4 yX4_learns yX4_learns, Cond.initialized RX4]
def wsX5_tell_r2 : List Cond := [Cond.code yX4_learns cX4_learns 3 (some .boolean), Cond.fieldLink RX4 31 "DrumTalkModel$State" "known" "[I", Cond.fieldLink RX4 58 "DrumTalkModel$State" "beat" "I", Cond.methodLink RX5 89 yX4_put, Cond.instanceMethod yX4_put, Cond.selects RX4 yX4_put yX4_put, Cond.code yX4_put cX4_put 3 none, Cond.fieldLink RX4 28 "DrumTalkModel$State" "queue" "[I", Cond.fieldLink RX4 25 "DrumTalkModel$State" "queued" "[I"]
def wsX5_tell : List Cond := .code yX5_tell cX5_tell 3 (some .int) :: ((wsX5_tell_r1 ++ wsX5_tell_r2) ++ wsX50 ++ wsX40)
def wsX5_villageTold : List Cond := .code yX5_villageTold cX5_villageTold 5 (some .int) :: ([.fieldLink RX5 57 "DrumTalkModel" "phrases" "I", .fieldLink RX5 36 "DrumTalkModel" "s" "LDrumTalkModel$State;", .arrayClass .int, .fieldLink RX5 9 "DrumTalkModel" "x" "[I", .fieldLink RX5 13 "DrumTalkModel" "y" "[I", .fieldLink RX5 16 "DrumTalkModel" "cliff" "[I", .methodLink RX5 93 yX4_isAwake, .instanceMethod yX4_isAwake, .selects RX4 yX4_isAwake yX4_isAwake, .initialized RX4, .code yX4_isAwake cX4_isAwake 2 (some .boolean), .fieldLink RX4 58 "DrumTalkModel$State" "beat" "I", .fieldLink RX4 3 "DrumTalkModel$State" "this$0" "LDrumTalkModel;"] ++ wsX50 ++ wsX40)
def wsX5_village_r1 : List Cond := [Cond.fieldLink RX5 46 "DrumTalkModel" "thrown" "I", Cond.methodLink RX5 75 yX5_isVillage, Cond.instanceMethod yX5_isVillage, Cond.selects RX5 yX5_isVillage yX5_isVillage, Cond.initialized RX5, Cond.code yX5_isVillage cX5_isVillage 2 (some .boolean), Cond.fieldLink RX5 50 "DrumTalkModel" "villages" "I", Cond.methodLink RX5 53 yX5_isIn, Cond.static yX5_isIn, Cond.code yX5_isIn cX5_isIn 3 (some .boolean), Cond.methodLink RX5 102 yX5_villageTold, Cond.instanceMethod yX5_villageTold, Cond.selects RX5 yX5_villageTold yX5_villageTold, Cond.code yX5_villageTold cX5_villageTold 5 (some .int), Cond.fieldLink RX5 57 "DrumTalkModel" "phrases" "I", Cond.fieldLink RX5 36 "DrumTalkModel" "s" "LDrumTalkModel$State;", Cond.arrayClass .int, Cond.fieldLink RX5 9 "DrumTalkModel" "x" "[I", Cond.fieldLink RX5 13 "DrumTalkModel" "y" "[I", Cond.fieldLink RX5 16 "DrumTalkModel" "cliff" "[I", Cond.methodLink RX5 93 yX4_isAwake, Cond.instanceMethod yX4_isAwake, Cond.selects RX4 yX4_isAwake yX4_isAwake, Cond.initialized RX4]
def wsX5_village_r2 : List Cond := [Cond.code yX4_isAwake cX4_isAwake 2 (some .boolean), Cond.fieldLink RX4 58 "DrumTalkModel$State" "beat" "I", Cond.fieldLink RX4 3 "DrumTalkModel$State" "this$0" "LDrumTalkModel;", Cond.methodLink RX5 66 yX5_no, Cond.instanceMethod yX5_no, Cond.selects RX5 yX5_no yX5_no, Cond.code yX5_no cX5_no 2 (some .int)]
def wsX5_village : List Cond := .code yX5_village cX5_village 3 (some .int) :: ((wsX5_village_r1 ++ wsX5_village_r2) ++ wsX50 ++ wsX40)
def wsX5_queue : List Cond := .code yX5_queue cX5_queue 3 (some .int) :: ([.fieldLink RX5 46 "DrumTalkModel" "thrown" "I", .fieldLink RX5 36 "DrumTalkModel" "s" "LDrumTalkModel$State;", .methodLink RX5 75 yX5_isVillage, .instanceMethod yX5_isVillage, .selects RX5 yX5_isVillage yX5_isVillage, .initialized RX5, .code yX5_isVillage cX5_isVillage 2 (some .boolean), .fieldLink RX5 50 "DrumTalkModel" "villages" "I", .methodLink RX5 53 yX5_isIn, .static yX5_isIn, .code yX5_isIn cX5_isIn 3 (some .boolean), .methodLink RX5 66 yX5_no, .instanceMethod yX5_no, .selects RX5 yX5_no yX5_no, .code yX5_no cX5_no 2 (some .int)] ++ wsX50 ++ wsX40)
def wsX5_knows : List Cond := .code yX5_knows cX5_knows 3 (some .int) :: ([.fieldLink RX5 46 "DrumTalkModel" "thrown" "I", .fieldLink RX5 36 "DrumTalkModel" "s" "LDrumTalkModel$State;", .methodLink RX5 75 yX5_isVillage, .instanceMethod yX5_isVillage, .selects RX5 yX5_isVillage yX5_isVillage, .initialized RX5, .code yX5_isVillage cX5_isVillage 2 (some .boolean), .fieldLink RX5 50 "DrumTalkModel" "villages" "I", .methodLink RX5 53 yX5_isIn, .static yX5_isIn, .code yX5_isIn cX5_isIn 3 (some .boolean), .methodLink RX5 79 yX5_isPhrase, .instanceMethod yX5_isPhrase, .selects RX5 yX5_isPhrase yX5_isPhrase, .code yX5_isPhrase cX5_isPhrase 2 (some .boolean), .fieldLink RX5 57 "DrumTalkModel" "phrases" "I", .methodLink RX5 66 yX5_no, .instanceMethod yX5_no, .selects RX5 yX5_no yX5_no, .code yX5_no cX5_no 2 (some .int)] ++ wsX50 ++ wsX40)
def wsX5_sounds_r1 : List Cond := [Cond.fieldLink RX5 46 "DrumTalkModel" "thrown" "I", Cond.fieldLink RX5 36 "DrumTalkModel" "s" "LDrumTalkModel$State;", Cond.methodLink RX5 75 yX5_isVillage, Cond.instanceMethod yX5_isVillage, Cond.selects RX5 yX5_isVillage yX5_isVillage, Cond.initialized RX5, Cond.code yX5_isVillage cX5_isVillage 2 (some .boolean), Cond.fieldLink RX5 50 "DrumTalkModel" "villages" "I", Cond.methodLink RX5 53 yX5_isIn, Cond.static yX5_isIn, Cond.code yX5_isIn cX5_isIn 3 (some .boolean), Cond.methodLink RX5 109 yX4_lasting, Cond.instanceMethod yX4_lasting, Cond.selects RX4 yX4_lasting yX4_lasting, Cond.initialized RX4, Cond.code yX4_lasting cX4_lasting 4 (some .int), Cond.fieldLink RX4 65 "DrumTalkModel$State" "sounds" "I", Cond.fieldLink RX4 37 "DrumTalkModel$State" "where" "[I", Cond.fieldLink RX4 43 "DrumTalkModel$State" "first" "[I", Cond.fieldLink RX4 58 "DrumTalkModel$State" "beat" "I", Cond.fieldLink RX4 46 "DrumTalkModel$State" "last" "[I", Cond.methodLink RX5 66 yX5_no, Cond.instanceMethod yX5_no, Cond.selects RX5 yX5_no yX5_no]
def wsX5_sounds_r2 : List Cond := [Cond.code yX5_no cX5_no 2 (some .int)]
def wsX5_sounds : List Cond := .code yX5_sounds cX5_sounds 2 (some .int) :: ((wsX5_sounds_r1 ++ wsX5_sounds_r2) ++ wsX50 ++ wsX40)
def wsX5_counted : List Cond := .code yX5_counted cX5_counted 5 (some .int) :: ([.fieldLink RX5 50 "DrumTalkModel" "villages" "I", .fieldLink RX5 36 "DrumTalkModel" "s" "LDrumTalkModel$State;", .arrayClass .int, .fieldLink RX5 57 "DrumTalkModel" "phrases" "I", .methodLink RX5 121 yX4_pairs, .instanceMethod yX4_pairs, .selects RX4 yX4_pairs yX4_pairs, .initialized RX4, .code yX4_pairs cX4_pairs 3 (some .int), .fieldLink RX4 3 "DrumTalkModel$State" "this$0" "LDrumTalkModel;", .methodLink RX4 126 yX4_knowing, .instanceMethod yX4_knowing, .selects RX4 yX4_knowing yX4_knowing, .code yX4_knowing cX4_knowing 4 (some .int), .fieldLink RX4 31 "DrumTalkModel$State" "known" "[I"] ++ wsX50 ++ wsX40)
def wsX5_count_r1 : List Cond := [Cond.fieldLink RX5 46 "DrumTalkModel" "thrown" "I", Cond.methodLink RX5 53 yX5_isIn, Cond.static yX5_isIn, Cond.initialized RX5, Cond.code yX5_isIn cX5_isIn 3 (some .boolean), Cond.methodLink RX5 125 yX5_counted, Cond.instanceMethod yX5_counted, Cond.selects RX5 yX5_counted yX5_counted, Cond.code yX5_counted cX5_counted 5 (some .int), Cond.fieldLink RX5 50 "DrumTalkModel" "villages" "I", Cond.fieldLink RX5 36 "DrumTalkModel" "s" "LDrumTalkModel$State;", Cond.arrayClass .int, Cond.fieldLink RX5 57 "DrumTalkModel" "phrases" "I", Cond.methodLink RX5 121 yX4_pairs, Cond.instanceMethod yX4_pairs, Cond.selects RX4 yX4_pairs yX4_pairs, Cond.initialized RX4, Cond.code yX4_pairs cX4_pairs 3 (some .int), Cond.fieldLink RX4 3 "DrumTalkModel$State" "this$0" "LDrumTalkModel;", Cond.methodLink RX4 126 yX4_knowing, Cond.instanceMethod yX4_knowing, Cond.selects RX4 yX4_knowing yX4_knowing, Cond.code yX4_knowing cX4_knowing 4 (some .int), Cond.fieldLink RX4 31 "DrumTalkModel$State" "known" "[I"]
def wsX5_count_r2 : List Cond := [Cond.methodLink RX5 66 yX5_no, Cond.instanceMethod yX5_no, Cond.selects RX5 yX5_no yX5_no, Cond.code yX5_no cX5_no 2 (some .int)]
def wsX5_count : List Cond := .code yX5_count cX5_count 2 (some .int) :: ((wsX5_count_r1 ++ wsX5_count_r2) ++ wsX50 ++ wsX40)
def wsX5_way_r1 : List Cond := [Cond.fieldLink RX5 46 "DrumTalkModel" "thrown" "I", Cond.fieldLink RX5 50 "DrumTalkModel" "villages" "I", Cond.fieldLink RX5 36 "DrumTalkModel" "s" "LDrumTalkModel$State;", Cond.methodLink RX5 75 yX5_isVillage, Cond.instanceMethod yX5_isVillage, Cond.selects RX5 yX5_isVillage yX5_isVillage, Cond.initialized RX5, Cond.code yX5_isVillage cX5_isVillage 2 (some .boolean), Cond.methodLink RX5 53 yX5_isIn, Cond.static yX5_isIn, Cond.code yX5_isIn cX5_isIn 3 (some .boolean), Cond.methodLink RX5 66 yX5_no, Cond.instanceMethod yX5_no, Cond.selects RX5 yX5_no yX5_no, Cond.code yX5_no cX5_no 2 (some .int), Cond.methodLink RX5 128 yX4_hears, Cond.instanceMethod yX4_hears, Cond.selects RX4 yX4_hears yX4_hears, Cond.initialized RX4, Cond.code yX4_hears cX4_hears 3 (some .boolean), Cond.fieldLink RX4 3 "DrumTalkModel$State" "this$0" "LDrumTalkModel;", Cond.fieldLink RX4 15 "DrumTalkModel$State" "drum" "[I", Cond.instanceMethod yX5_far, Cond.selects RX5 yX5_far yX5_far]
def wsX5_way_r2 : List Cond := [Cond.code yX5_far cX5_far 3 (some .int), Cond.fieldLink RX5 9 "DrumTalkModel" "x" "[I", Cond.methodLink RX5 60 Lib.Math.abs.name, Cond.static Lib.Math.abs.name, Cond.initialized "java/lang/Math", Cond.code Lib.Math.abs.name Lib.Math.abs.code 1 (some .int), Cond.fieldLink RX5 13 "DrumTalkModel" "y" "[I"]
def wsX5_way : List Cond := .code yX5_way cX5_way 8 (some .int) :: ((wsX5_way_r1 ++ wsX5_way_r2) ++ wsX50 ++ wsX40)
def wsX5_pass_r1 : List Cond := [Cond.fieldLink RX5 46 "DrumTalkModel" "thrown" "I", Cond.fieldLink RX5 36 "DrumTalkModel" "s" "LDrumTalkModel$State;", Cond.methodLink RX5 53 yX5_isIn, Cond.static yX5_isIn, Cond.initialized RX5, Cond.code yX5_isIn cX5_isIn 3 (some .boolean), Cond.methodLink RX5 66 yX5_no, Cond.instanceMethod yX5_no, Cond.selects RX5 yX5_no yX5_no, Cond.code yX5_no cX5_no 2 (some .int), Cond.methodLink RX5 131 yX4_pass, Cond.instanceMethod yX4_pass, Cond.selects RX4 yX4_pass yX4_pass, Cond.initialized RX4, Cond.code yX4_pass cX4_pass 4 (some .int), Cond.fieldLink RX4 3 "DrumTalkModel$State" "this$0" "LDrumTalkModel;", Cond.fieldLink RX4 19 "DrumTalkModel$State" "drums" "[I", Cond.fieldLink RX4 65 "DrumTalkModel$State" "sounds" "I", Cond.fieldLink RX4 37 "DrumTalkModel$State" "where" "[I", Cond.fieldLink RX4 43 "DrumTalkModel$State" "first" "[I", Cond.fieldLink RX4 58 "DrumTalkModel$State" "beat" "I", Cond.fieldLink RX4 49 "DrumTalkModel$State" "lost" "[I", Cond.fieldLink RX4 46 "DrumTalkModel$State" "last" "[I", Cond.fieldLink RX4 40 "DrumTalkModel$State" "what" "[I"]
def wsX5_pass_r2 : List Cond := [Cond.fieldLink RX4 34 "DrumTalkModel$State" "drowned" "[I", Cond.fieldLink RX4 25 "DrumTalkModel$State" "queued" "[I", Cond.fieldLink RX4 22 "DrumTalkModel$State" "left" "[I", Cond.methodLink RX4 118 Lib.Math.max.name, Cond.static Lib.Math.max.name, Cond.initialized "java/lang/Math", Cond.code Lib.Math.max.name Lib.Math.max.code 2 (some .int), Cond.methodLink RX4 103 yX4_begin, Cond.instanceMethod yX4_begin, Cond.selects RX4 yX4_begin yX4_begin, Cond.code yX4_begin cX4_begin 5 none, Cond.fieldLink RX4 28 "DrumTalkModel$State" "queue" "[I", Cond.methodLink RX4 52 arraycopyName, Cond.native arraycopyName, Cond.static arraycopyName, Cond.initialized "java/lang/System", Cond.fieldLink RX4 62 "DrumTalkModel$State" "begun" "I", Cond.methodLink RX4 85 yX4_isAwake, Cond.instanceMethod yX4_isAwake, Cond.selects RX4 yX4_isAwake yX4_isAwake, Cond.code yX4_isAwake cX4_isAwake 2 (some .boolean), Cond.methodLink RX4 92 yX4_hears, Cond.instanceMethod yX4_hears, Cond.selects RX4 yX4_hears yX4_hears]
def wsX5_pass_r3 : List Cond := [Cond.code yX4_hears cX4_hears 3 (some .boolean), Cond.fieldLink RX4 15 "DrumTalkModel$State" "drum" "[I", Cond.instanceMethod yX5_far, Cond.selects RX5 yX5_far yX5_far, Cond.code yX5_far cX5_far 3 (some .int), Cond.fieldLink RX5 9 "DrumTalkModel" "x" "[I", Cond.methodLink RX5 60 Lib.Math.abs.name, Cond.static Lib.Math.abs.name, Cond.code Lib.Math.abs.name Lib.Math.abs.code 1 (some .int), Cond.fieldLink RX5 13 "DrumTalkModel" "y" "[I", Cond.methodLink RX4 96 yX4_sound, Cond.instanceMethod yX4_sound, Cond.selects RX4 yX4_sound yX4_sound, Cond.code yX4_sound cX4_sound 4 none, Cond.methodLink RX4 107 yX4_lasting, Cond.instanceMethod yX4_lasting, Cond.selects RX4 yX4_lasting yX4_lasting, Cond.code yX4_lasting cX4_lasting 4 (some .int), Cond.methodLink RX4 111 yX4_learns, Cond.instanceMethod yX4_learns, Cond.selects RX4 yX4_learns yX4_learns, Cond.code yX4_learns cX4_learns 3 (some .boolean), Cond.fieldLink RX4 31 "DrumTalkModel$State" "known" "[I", Cond.methodLink RX4 114 yX4_put]
def wsX5_pass_r4 : List Cond := [Cond.instanceMethod yX4_put, Cond.selects RX4 yX4_put yX4_put, Cond.code yX4_put cX4_put 3 none]
def wsX5_pass : List Cond := .code yX5_pass cX5_pass 4 (some .int) :: ((wsX5_pass_r1 ++ (wsX5_pass_r2 ++ (wsX5_pass_r3 ++ wsX5_pass_r4))) ++ wsX50 ++ wsX40)
def wsX5_reaches_r1 : List Cond := [Cond.fieldLink RX5 46 "DrumTalkModel" "thrown" "I", Cond.fieldLink RX5 40 "DrumTalkModel" "ahead" "LDrumTalkModel$State;", Cond.fieldLink RX5 36 "DrumTalkModel" "s" "LDrumTalkModel$State;", Cond.methodLink RX5 75 yX5_isVillage, Cond.instanceMethod yX5_isVillage, Cond.selects RX5 yX5_isVillage yX5_isVillage, Cond.initialized RX5, Cond.code yX5_isVillage cX5_isVillage 2 (some .boolean), Cond.fieldLink RX5 50 "DrumTalkModel" "villages" "I", Cond.methodLink RX5 53 yX5_isIn, Cond.static yX5_isIn, Cond.code yX5_isIn cX5_isIn 3 (some .boolean), Cond.methodLink RX5 79 yX5_isPhrase, Cond.instanceMethod yX5_isPhrase, Cond.selects RX5 yX5_isPhrase yX5_isPhrase, Cond.code yX5_isPhrase cX5_isPhrase 2 (some .boolean), Cond.fieldLink RX5 57 "DrumTalkModel" "phrases" "I", Cond.methodLink RX5 66 yX5_no, Cond.instanceMethod yX5_no, Cond.selects RX5 yX5_no yX5_no, Cond.code yX5_no cX5_no 2 (some .int), Cond.methodLink RX5 134 yX4_become, Cond.instanceMethod yX4_become, Cond.selects RX4 yX4_become yX4_become]
def wsX5_reaches_r2 : List Cond := [Cond.initialized RX4, Cond.code yX4_become cX4_become 2 none, Cond.fieldLink RX4 58 "DrumTalkModel$State" "beat" "I", Cond.fieldLink RX4 62 "DrumTalkModel$State" "begun" "I", Cond.fieldLink RX4 65 "DrumTalkModel$State" "sounds" "I", Cond.fieldLink RX4 15 "DrumTalkModel$State" "drum" "[I", Cond.fieldLink RX4 19 "DrumTalkModel$State" "drums" "[I", Cond.fieldLink RX4 22 "DrumTalkModel$State" "left" "[I", Cond.fieldLink RX4 25 "DrumTalkModel$State" "queued" "[I", Cond.fieldLink RX4 28 "DrumTalkModel$State" "queue" "[I", Cond.fieldLink RX4 31 "DrumTalkModel$State" "known" "[I", Cond.fieldLink RX4 34 "DrumTalkModel$State" "drowned" "[I", Cond.fieldLink RX4 37 "DrumTalkModel$State" "where" "[I", Cond.fieldLink RX4 40 "DrumTalkModel$State" "what" "[I", Cond.fieldLink RX4 43 "DrumTalkModel$State" "first" "[I", Cond.fieldLink RX4 46 "DrumTalkModel$State" "last" "[I", Cond.fieldLink RX4 49 "DrumTalkModel$State" "lost" "[I", Cond.methodLink RX4 68 yX4_copy, Cond.instanceMethod yX4_copy, Cond.selects RX4 yX4_copy yX4_copy, Cond.code yX4_copy cX4_copy 4 none, Cond.methodLink RX4 52 arraycopyName, Cond.native arraycopyName, Cond.static arraycopyName]
def wsX5_reaches_r3 : List Cond := [Cond.initialized "java/lang/System", Cond.methodLink RX5 131 yX4_pass, Cond.instanceMethod yX4_pass, Cond.selects RX4 yX4_pass yX4_pass, Cond.code yX4_pass cX4_pass 4 (some .int), Cond.fieldLink RX4 3 "DrumTalkModel$State" "this$0" "LDrumTalkModel;", Cond.methodLink RX4 118 Lib.Math.max.name, Cond.static Lib.Math.max.name, Cond.initialized "java/lang/Math", Cond.code Lib.Math.max.name Lib.Math.max.code 2 (some .int), Cond.methodLink RX4 103 yX4_begin, Cond.instanceMethod yX4_begin, Cond.selects RX4 yX4_begin yX4_begin, Cond.code yX4_begin cX4_begin 5 none, Cond.methodLink RX4 85 yX4_isAwake, Cond.instanceMethod yX4_isAwake, Cond.selects RX4 yX4_isAwake yX4_isAwake, Cond.code yX4_isAwake cX4_isAwake 2 (some .boolean), Cond.methodLink RX4 92 yX4_hears, Cond.instanceMethod yX4_hears, Cond.selects RX4 yX4_hears yX4_hears, Cond.code yX4_hears cX4_hears 3 (some .boolean), Cond.instanceMethod yX5_far, Cond.selects RX5 yX5_far yX5_far]
def wsX5_reaches_r4 : List Cond := [Cond.code yX5_far cX5_far 3 (some .int), Cond.fieldLink RX5 9 "DrumTalkModel" "x" "[I", Cond.methodLink RX5 60 Lib.Math.abs.name, Cond.static Lib.Math.abs.name, Cond.code Lib.Math.abs.name Lib.Math.abs.code 1 (some .int), Cond.fieldLink RX5 13 "DrumTalkModel" "y" "[I", Cond.methodLink RX4 96 yX4_sound, Cond.instanceMethod yX4_sound, Cond.selects RX4 yX4_sound yX4_sound, Cond.code yX4_sound cX4_sound 4 none, Cond.methodLink RX4 107 yX4_lasting, Cond.instanceMethod yX4_lasting, Cond.selects RX4 yX4_lasting yX4_lasting, Cond.code yX4_lasting cX4_lasting 4 (some .int), Cond.methodLink RX4 111 yX4_learns, Cond.instanceMethod yX4_learns, Cond.selects RX4 yX4_learns yX4_learns, Cond.code yX4_learns cX4_learns 3 (some .boolean), Cond.methodLink RX4 114 yX4_put, Cond.instanceMethod yX4_put, Cond.selects RX4 yX4_put yX4_put, Cond.code yX4_put cX4_put 3 none]
def wsX5_reaches : List Cond := .code yX5_reaches cX5_reaches 4 (some .int) :: ((wsX5_reaches_r1 ++ (wsX5_reaches_r2 ++ (wsX5_reaches_r3 ++ wsX5_reaches_r4))) ++ wsX50 ++ wsX40)
def wsX5_best_r1 : List Cond := [Cond.fieldLink RX5 46 "DrumTalkModel" "thrown" "I", Cond.fieldLink RX5 40 "DrumTalkModel" "ahead" "LDrumTalkModel$State;", Cond.fieldLink RX5 36 "DrumTalkModel" "s" "LDrumTalkModel$State;", Cond.methodLink RX5 141 Lib.Math.max.name, Cond.static Lib.Math.max.name, Cond.initialized "java/lang/Math", Cond.code Lib.Math.max.name Lib.Math.max.code 2 (some .int), Cond.methodLink RX5 75 yX5_isVillage, Cond.instanceMethod yX5_isVillage, Cond.selects RX5 yX5_isVillage yX5_isVillage, Cond.initialized RX5, Cond.code yX5_isVillage cX5_isVillage 2 (some .boolean), Cond.fieldLink RX5 50 "DrumTalkModel" "villages" "I", Cond.methodLink RX5 53 yX5_isIn, Cond.static yX5_isIn, Cond.code yX5_isIn cX5_isIn 3 (some .boolean), Cond.methodLink RX5 79 yX5_isPhrase, Cond.instanceMethod yX5_isPhrase, Cond.selects RX5 yX5_isPhrase yX5_isPhrase, Cond.code yX5_isPhrase cX5_isPhrase 2 (some .boolean), Cond.fieldLink RX5 57 "DrumTalkModel" "phrases" "I", Cond.methodLink RX5 66 yX5_no, Cond.instanceMethod yX5_no, Cond.selects RX5 yX5_no yX5_no]
def wsX5_best_r2 : List Cond := [Cond.code yX5_no cX5_no 2 (some .int), Cond.methodLink RX5 134 yX4_become, Cond.instanceMethod yX4_become, Cond.selects RX4 yX4_become yX4_become, Cond.initialized RX4, Cond.code yX4_become cX4_become 2 none, Cond.fieldLink RX4 58 "DrumTalkModel$State" "beat" "I", Cond.fieldLink RX4 62 "DrumTalkModel$State" "begun" "I", Cond.fieldLink RX4 65 "DrumTalkModel$State" "sounds" "I", Cond.fieldLink RX4 15 "DrumTalkModel$State" "drum" "[I", Cond.fieldLink RX4 19 "DrumTalkModel$State" "drums" "[I", Cond.fieldLink RX4 22 "DrumTalkModel$State" "left" "[I", Cond.fieldLink RX4 25 "DrumTalkModel$State" "queued" "[I", Cond.fieldLink RX4 28 "DrumTalkModel$State" "queue" "[I", Cond.fieldLink RX4 31 "DrumTalkModel$State" "known" "[I", Cond.fieldLink RX4 34 "DrumTalkModel$State" "drowned" "[I", Cond.fieldLink RX4 37 "DrumTalkModel$State" "where" "[I", Cond.fieldLink RX4 40 "DrumTalkModel$State" "what" "[I", Cond.fieldLink RX4 43 "DrumTalkModel$State" "first" "[I", Cond.fieldLink RX4 46 "DrumTalkModel$State" "last" "[I", Cond.fieldLink RX4 49 "DrumTalkModel$State" "lost" "[I", Cond.methodLink RX4 68 yX4_copy, Cond.instanceMethod yX4_copy, Cond.selects RX4 yX4_copy yX4_copy]
def wsX5_best_r3 : List Cond := [Cond.code yX4_copy cX4_copy 4 none, Cond.methodLink RX4 52 arraycopyName, Cond.native arraycopyName, Cond.static arraycopyName, Cond.initialized "java/lang/System", Cond.methodLink RX5 85 yX4_learns, Cond.instanceMethod yX4_learns, Cond.selects RX4 yX4_learns yX4_learns, Cond.code yX4_learns cX4_learns 3 (some .boolean), Cond.methodLink RX5 89 yX4_put, Cond.instanceMethod yX4_put, Cond.selects RX4 yX4_put yX4_put, Cond.code yX4_put cX4_put 3 none, Cond.methodLink RX5 131 yX4_pass, Cond.instanceMethod yX4_pass, Cond.selects RX4 yX4_pass yX4_pass, Cond.code yX4_pass cX4_pass 4 (some .int), Cond.fieldLink RX4 3 "DrumTalkModel$State" "this$0" "LDrumTalkModel;", Cond.methodLink RX4 118 Lib.Math.max.name, Cond.methodLink RX4 103 yX4_begin, Cond.instanceMethod yX4_begin, Cond.selects RX4 yX4_begin yX4_begin, Cond.code yX4_begin cX4_begin 5 none, Cond.methodLink RX4 85 yX4_isAwake]
def wsX5_best_r4 : List Cond := [Cond.instanceMethod yX4_isAwake, Cond.selects RX4 yX4_isAwake yX4_isAwake, Cond.code yX4_isAwake cX4_isAwake 2 (some .boolean), Cond.methodLink RX4 92 yX4_hears, Cond.instanceMethod yX4_hears, Cond.selects RX4 yX4_hears yX4_hears, Cond.code yX4_hears cX4_hears 3 (some .boolean), Cond.instanceMethod yX5_far, Cond.selects RX5 yX5_far yX5_far, Cond.code yX5_far cX5_far 3 (some .int), Cond.fieldLink RX5 9 "DrumTalkModel" "x" "[I", Cond.methodLink RX5 60 Lib.Math.abs.name, Cond.static Lib.Math.abs.name, Cond.code Lib.Math.abs.name Lib.Math.abs.code 1 (some .int), Cond.fieldLink RX5 13 "DrumTalkModel" "y" "[I", Cond.methodLink RX4 96 yX4_sound, Cond.instanceMethod yX4_sound, Cond.selects RX4 yX4_sound yX4_sound, Cond.code yX4_sound cX4_sound 4 none, Cond.methodLink RX4 107 yX4_lasting, Cond.instanceMethod yX4_lasting, Cond.selects RX4 yX4_lasting yX4_lasting, Cond.code yX4_lasting cX4_lasting 4 (some .int), Cond.methodLink RX4 111 yX4_learns]
def wsX5_best_r5 : List Cond := [Cond.methodLink RX4 114 yX4_put, Cond.methodLink RX5 138 yX4_knowing, Cond.instanceMethod yX4_knowing, Cond.selects RX4 yX4_knowing yX4_knowing, Cond.code yX4_knowing cX4_knowing 4 (some .int)]
def wsX5_best : List Cond := .code yX5_best cX5_best 7 (some .int) :: ((wsX5_best_r1 ++ (wsX5_best_r2 ++ (wsX5_best_r3 ++ (wsX5_best_r4 ++ wsX5_best_r5)))) ++ wsX50 ++ wsX40)
def wsX5_larger_r1 : List Cond := [Cond.fieldLink RX5 46 "DrumTalkModel" "thrown" "I", Cond.fieldLink RX5 50 "DrumTalkModel" "villages" "I", Cond.fieldLink RX5 36 "DrumTalkModel" "s" "LDrumTalkModel$State;", Cond.fieldLink RX5 40 "DrumTalkModel" "ahead" "LDrumTalkModel$State;", Cond.methodLink RX5 141 Lib.Math.max.name, Cond.static Lib.Math.max.name, Cond.initialized "java/lang/Math", Cond.code Lib.Math.max.name Lib.Math.max.code 2 (some .int), Cond.methodLink RX5 53 yX5_isIn, Cond.static yX5_isIn, Cond.initialized RX5, Cond.code yX5_isIn cX5_isIn 3 (some .boolean), Cond.methodLink RX5 66 yX5_no, Cond.instanceMethod yX5_no, Cond.selects RX5 yX5_no yX5_no, Cond.code yX5_no cX5_no 2 (some .int), Cond.methodLink RX5 134 yX4_become, Cond.instanceMethod yX4_become, Cond.selects RX4 yX4_become yX4_become, Cond.initialized RX4, Cond.code yX4_become cX4_become 2 none, Cond.fieldLink RX4 58 "DrumTalkModel$State" "beat" "I", Cond.fieldLink RX4 62 "DrumTalkModel$State" "begun" "I", Cond.fieldLink RX4 65 "DrumTalkModel$State" "sounds" "I"]
def wsX5_larger_r2 : List Cond := [Cond.fieldLink RX4 15 "DrumTalkModel$State" "drum" "[I", Cond.fieldLink RX4 19 "DrumTalkModel$State" "drums" "[I", Cond.fieldLink RX4 22 "DrumTalkModel$State" "left" "[I", Cond.fieldLink RX4 25 "DrumTalkModel$State" "queued" "[I", Cond.fieldLink RX4 28 "DrumTalkModel$State" "queue" "[I", Cond.fieldLink RX4 31 "DrumTalkModel$State" "known" "[I", Cond.fieldLink RX4 34 "DrumTalkModel$State" "drowned" "[I", Cond.fieldLink RX4 37 "DrumTalkModel$State" "where" "[I", Cond.fieldLink RX4 40 "DrumTalkModel$State" "what" "[I", Cond.fieldLink RX4 43 "DrumTalkModel$State" "first" "[I", Cond.fieldLink RX4 46 "DrumTalkModel$State" "last" "[I", Cond.fieldLink RX4 49 "DrumTalkModel$State" "lost" "[I", Cond.methodLink RX4 68 yX4_copy, Cond.instanceMethod yX4_copy, Cond.selects RX4 yX4_copy yX4_copy, Cond.code yX4_copy cX4_copy 4 none, Cond.methodLink RX4 52 arraycopyName, Cond.native arraycopyName, Cond.static arraycopyName, Cond.initialized "java/lang/System", Cond.methodLink RX5 131 yX4_pass, Cond.instanceMethod yX4_pass, Cond.selects RX4 yX4_pass yX4_pass, Cond.code yX4_pass cX4_pass 4 (some .int)]
def wsX5_larger_r3 : List Cond := [Cond.fieldLink RX4 3 "DrumTalkModel$State" "this$0" "LDrumTalkModel;", Cond.methodLink RX4 118 Lib.Math.max.name, Cond.methodLink RX4 103 yX4_begin, Cond.instanceMethod yX4_begin, Cond.selects RX4 yX4_begin yX4_begin, Cond.code yX4_begin cX4_begin 5 none, Cond.methodLink RX4 85 yX4_isAwake, Cond.instanceMethod yX4_isAwake, Cond.selects RX4 yX4_isAwake yX4_isAwake, Cond.code yX4_isAwake cX4_isAwake 2 (some .boolean), Cond.methodLink RX4 92 yX4_hears, Cond.instanceMethod yX4_hears, Cond.selects RX4 yX4_hears yX4_hears, Cond.code yX4_hears cX4_hears 3 (some .boolean), Cond.instanceMethod yX5_far, Cond.selects RX5 yX5_far yX5_far, Cond.code yX5_far cX5_far 3 (some .int), Cond.fieldLink RX5 9 "DrumTalkModel" "x" "[I", Cond.methodLink RX5 60 Lib.Math.abs.name, Cond.static Lib.Math.abs.name, Cond.code Lib.Math.abs.name Lib.Math.abs.code 1 (some .int), Cond.fieldLink RX5 13 "DrumTalkModel" "y" "[I", Cond.methodLink RX4 96 yX4_sound, Cond.instanceMethod yX4_sound]
def wsX5_larger_r4 : List Cond := [Cond.selects RX4 yX4_sound yX4_sound, Cond.code yX4_sound cX4_sound 4 none, Cond.methodLink RX4 107 yX4_lasting, Cond.instanceMethod yX4_lasting, Cond.selects RX4 yX4_lasting yX4_lasting, Cond.code yX4_lasting cX4_lasting 4 (some .int), Cond.methodLink RX4 111 yX4_learns, Cond.instanceMethod yX4_learns, Cond.selects RX4 yX4_learns yX4_learns, Cond.code yX4_learns cX4_learns 3 (some .boolean), Cond.methodLink RX4 114 yX4_put, Cond.instanceMethod yX4_put, Cond.selects RX4 yX4_put yX4_put, Cond.code yX4_put cX4_put 3 none, Cond.methodLink RX5 121 yX4_pairs, Cond.instanceMethod yX4_pairs, Cond.selects RX4 yX4_pairs yX4_pairs, Cond.code yX4_pairs cX4_pairs 3 (some .int), Cond.methodLink RX4 126 yX4_knowing, Cond.instanceMethod yX4_knowing, Cond.selects RX4 yX4_knowing yX4_knowing, Cond.code yX4_knowing cX4_knowing 4 (some .int)]
def wsX5_larger : List Cond := .code yX5_larger cX5_larger 6 (some .int) :: ((wsX5_larger_r1 ++ (wsX5_larger_r2 ++ (wsX5_larger_r3 ++ wsX5_larger_r4))) ++ wsX50 ++ wsX40)
def wsX5_known : List Cond := .code yX5_known cX5_known 1 (some .double) :: ([.fieldLink RX5 46 "DrumTalkModel" "thrown" "I", .fieldLink RX5 50 "DrumTalkModel" "villages" "I", .fieldLink RX5 57 "DrumTalkModel" "phrases" "I", .fieldLink RX5 36 "DrumTalkModel" "s" "LDrumTalkModel$State;", .methodLink RX5 121 yX4_pairs, .instanceMethod yX4_pairs, .selects RX4 yX4_pairs yX4_pairs, .initialized RX4, .code yX4_pairs cX4_pairs 3 (some .int), .fieldLink RX4 3 "DrumTalkModel$State" "this$0" "LDrumTalkModel;", .methodLink RX4 126 yX4_knowing, .instanceMethod yX4_knowing, .selects RX4 yX4_knowing yX4_knowing, .code yX4_knowing cX4_knowing 4 (some .int), .fieldLink RX4 31 "DrumTalkModel$State" "known" "[I"] ++ wsX50 ++ wsX40)
def wsX5_digest_r1 : List Cond := [Cond.fieldLink RX5 46 "DrumTalkModel" "thrown" "I", Cond.constantLong RX5 144 (769), Cond.constantLong RX5 146 (31), Cond.fieldLink RX5 57 "DrumTalkModel" "phrases" "I", Cond.fieldLink RX5 25 "DrumTalkModel" "tones" "[I", Cond.fieldLink RX5 50 "DrumTalkModel" "villages" "I", Cond.fieldLink RX5 36 "DrumTalkModel" "s" "LDrumTalkModel$State;", Cond.methodLink RX5 125 yX5_counted, Cond.instanceMethod yX5_counted, Cond.selects RX5 yX5_counted yX5_counted, Cond.initialized RX5, Cond.code yX5_counted cX5_counted 5 (some .int), Cond.arrayClass .int, Cond.methodLink RX5 121 yX4_pairs, Cond.instanceMethod yX4_pairs, Cond.selects RX4 yX4_pairs yX4_pairs, Cond.initialized RX4, Cond.code yX4_pairs cX4_pairs 3 (some .int), Cond.fieldLink RX4 3 "DrumTalkModel$State" "this$0" "LDrumTalkModel;", Cond.methodLink RX4 126 yX4_knowing, Cond.instanceMethod yX4_knowing, Cond.selects RX4 yX4_knowing yX4_knowing, Cond.code yX4_knowing cX4_knowing 4 (some .int), Cond.fieldLink RX4 31 "DrumTalkModel$State" "known" "[I"]
def wsX5_digest_r2 : List Cond := [Cond.methodLink RX5 102 yX5_villageTold, Cond.instanceMethod yX5_villageTold, Cond.selects RX5 yX5_villageTold yX5_villageTold, Cond.code yX5_villageTold cX5_villageTold 5 (some .int), Cond.fieldLink RX5 9 "DrumTalkModel" "x" "[I", Cond.fieldLink RX5 13 "DrumTalkModel" "y" "[I", Cond.fieldLink RX5 16 "DrumTalkModel" "cliff" "[I", Cond.methodLink RX5 93 yX4_isAwake, Cond.instanceMethod yX4_isAwake, Cond.selects RX4 yX4_isAwake yX4_isAwake, Cond.code yX4_isAwake cX4_isAwake 2 (some .boolean), Cond.fieldLink RX4 58 "DrumTalkModel$State" "beat" "I", Cond.methodLink RX5 109 yX4_lasting, Cond.instanceMethod yX4_lasting, Cond.selects RX4 yX4_lasting yX4_lasting, Cond.code yX4_lasting cX4_lasting 4 (some .int), Cond.fieldLink RX4 65 "DrumTalkModel$State" "sounds" "I", Cond.fieldLink RX4 37 "DrumTalkModel$State" "where" "[I", Cond.fieldLink RX4 43 "DrumTalkModel$State" "first" "[I", Cond.fieldLink RX4 46 "DrumTalkModel$State" "last" "[I"]
def wsX5_digest : List Cond := .code yX5_digest cX5_digest 5 (some .long) :: ((wsX5_digest_r1 ++ wsX5_digest_r2) ++ wsX50 ++ wsX40)
def wsJ9_abs_0f7a4 : List Cond := .code yJ9_abs_0f7a4 cJ9_abs_0f7a4 1 (some .int) :: ([])
def wsJ9_max_7cf53 : List Cond := .code yJ9_max_7cf53 cJ9_max_7cf53 2 (some .int) :: ([])
def wsL_found_r1 : List Cond := [Cond.classLink RL 13 "java/lang/IllegalArgumentException", Cond.classLink RL 15 "java/lang/IllegalStateException", Cond.methodLink RL 7 yX3_found, Cond.instanceMethod yX3_found, Cond.selects RX3 yX3_found yX3_found, Cond.initialized RX3, Cond.code yX3_found cX3_found 4 (some .int), Cond.classLink RX3 26 "java/lang/IllegalArgumentException", Cond.initialized "java/lang/IllegalArgumentException", Cond.classLink RX3 41 "java/lang/IllegalStateException", Cond.initialized "java/lang/IllegalStateException", Cond.fieldLink RX3 12 "DrumTalk" "land" "LDrumTalk$Land;", Cond.fieldLink RX3 33 "DrumTalk$Land" "villageCount" "I", Cond.methodLink RX3 19 yX3_isPlace, Cond.static yX3_isPlace, Cond.code yX3_isPlace cX3_isPlace 1 (some .boolean), Cond.methodLink RX3 23 yX3_isDrum, Cond.static yX3_isDrum, Cond.code yX3_isDrum cX3_isDrum 1 (some .boolean), Cond.methodLink RX3 37 yX0_hasVillageAt, Cond.instanceMethod yX0_hasVillageAt, Cond.selects RX0 yX0_hasVillageAt yX0_hasVillageAt, Cond.initialized RX0, Cond.code yX0_hasVillageAt cX0_hasVillageAt 4 (some .boolean)]
def wsL_found_r2 : List Cond := [Cond.fieldLink RX0 25 "DrumTalk$Land" "villageCount" "I", Cond.fieldLink RX0 11 "DrumTalk$Land" "villages" "[LDrumTalk$Village;", Cond.fieldLink RX0 48 "DrumTalk$Village" "x" "I", Cond.fieldLink RX0 51 "DrumTalk$Village" "y" "I", Cond.methodLink RX3 46 yX0_addVillage, Cond.instanceMethod yX0_addVillage, Cond.selects RX0 yX0_addVillage yX0_addVillage, Cond.code yX0_addVillage cX0_addVillage 5 (some .int), Cond.fieldLink RX0 54 "DrumTalk$Village" "drum" "I"]
def wsL_found : List Cond := .codeWith yL_found cL_found 6 (some .int) [(0, 12, 15, 13), (0, 12, 19, 15)] :: ((wsL_found_r1 ++ wsL_found_r2) ++ wsX30 ++ wsX00 ++ wsX20 ++ (vx_atS RX3 30 "java/lang/IllegalArgumentException" ["java/lang/RuntimeException", "java/lang/Exception"]).filter goodWord ++ (vx_atS RX3 45 "java/lang/IllegalStateException" ["java/lang/RuntimeException", "java/lang/Exception"]).filter goodWord)
def wsL_setDrum_r1 : List Cond := [Cond.classLink RL 21 "java/lang/IndexOutOfBoundsException", Cond.classLink RL 13 "java/lang/IllegalArgumentException", Cond.methodLink RL 17 yX3_setDrum, Cond.instanceMethod yX3_setDrum, Cond.selects RX3 yX3_setDrum yX3_setDrum, Cond.initialized RX3, Cond.code yX3_setDrum cX3_setDrum 5 (some .int), Cond.classLink RX3 26 "java/lang/IllegalArgumentException", Cond.initialized "java/lang/IllegalArgumentException", Cond.fieldLink RX3 56 "DrumTalk$Village" "drum" "I", Cond.methodLink RX3 50 yX3_villageOf, Cond.instanceMethod yX3_villageOf, Cond.selects RX3 yX3_villageOf yX3_villageOf, Cond.code yX3_villageOf cX3_villageOf 2 (some (.object "DrumTalk$Village")), Cond.fieldLink RX3 12 "DrumTalk" "land" "LDrumTalk$Land;", Cond.fieldLink RX3 152 "DrumTalk$Land" "villages" "[LDrumTalk$Village;", Cond.methodLink RX3 137 yX3_checkVillage, Cond.instanceMethod yX3_checkVillage, Cond.selects RX3 yX3_checkVillage yX3_checkVillage, Cond.code yX3_checkVillage cX3_checkVillage 2 none, Cond.classLink RX3 107 "java/lang/IndexOutOfBoundsException", Cond.initialized "java/lang/IndexOutOfBoundsException", Cond.fieldLink RX3 33 "DrumTalk$Land" "villageCount" "I", Cond.methodLink RX3 23 yX3_isDrum]
def wsL_setDrum_r2 : List Cond := [Cond.static yX3_isDrum, Cond.code yX3_isDrum cX3_isDrum 1 (some .boolean)]
def wsL_setDrum : List Cond := .codeWith yL_setDrum cL_setDrum 5 (some .int) [(0, 10, 13, 21), (0, 10, 17, 13)] :: ((wsL_setDrum_r1 ++ wsL_setDrum_r2) ++ wsX20 ++ wsX30 ++ wsX00 ++ (vx_atS RX3 30 "java/lang/IllegalArgumentException" ["java/lang/RuntimeException", "java/lang/Exception"]).filter goodWord ++ (vx_atS RX3 111 "java/lang/IndexOutOfBoundsException" ["java/lang/RuntimeException", "java/lang/Exception"]).filter goodWord)
def wsL_setCliff : List Cond := .codeWith yL_setCliff cL_setCliff 5 (some .int) [(0, 17, 20, 21)] :: ([.classLink RL 21 "java/lang/IndexOutOfBoundsException", .methodLink RL 23 yX3_setCliff, .instanceMethod yX3_setCliff, .selects RX3 yX3_setCliff yX3_setCliff, .initialized RX3, .code yX3_setCliff cX3_setCliff 5 (some .boolean), .fieldLink RX3 61 "DrumTalk$Village" "cliff" "Z", .methodLink RX3 50 yX3_villageOf, .instanceMethod yX3_villageOf, .selects RX3 yX3_villageOf yX3_villageOf, .code yX3_villageOf cX3_villageOf 2 (some (.object "DrumTalk$Village")), .fieldLink RX3 12 "DrumTalk" "land" "LDrumTalk$Land;", .fieldLink RX3 152 "DrumTalk$Land" "villages" "[LDrumTalk$Village;", .methodLink RX3 137 yX3_checkVillage, .instanceMethod yX3_checkVillage, .selects RX3 yX3_checkVillage yX3_checkVillage, .code yX3_checkVillage cX3_checkVillage 2 none, .classLink RX3 107 "java/lang/IndexOutOfBoundsException", .initialized "java/lang/IndexOutOfBoundsException", .fieldLink RX3 33 "DrumTalk$Land" "villageCount" "I"] ++ wsX20 ++ wsX30 ++ wsX00 ++ (vx_atS RX3 111 "java/lang/IndexOutOfBoundsException" ["java/lang/RuntimeException", "java/lang/Exception"]).filter goodWord)
def wsL_setAwake : List Cond := .codeWith yL_setAwake cL_setAwake 6 (some .int) [(0, 12, 15, 21), (0, 12, 19, 13)] :: ([.classLink RL 21 "java/lang/IndexOutOfBoundsException", .classLink RL 13 "java/lang/IllegalArgumentException", .methodLink RL 27 yX3_setAwake, .instanceMethod yX3_setAwake, .selects RX3 yX3_setAwake yX3_setAwake, .initialized RX3, .code yX3_setAwake cX3_setAwake 6 (some .int), .classLink RX3 26 "java/lang/IllegalArgumentException", .initialized "java/lang/IllegalArgumentException", .fieldLink RX3 67 "DrumTalk$Village" "awakeBeats" "I", .fieldLink RX3 70 "DrumTalk$Village" "awakeFrom" "I", .methodLink RX3 50 yX3_villageOf, .instanceMethod yX3_villageOf, .selects RX3 yX3_villageOf yX3_villageOf, .code yX3_villageOf cX3_villageOf 2 (some (.object "DrumTalk$Village")), .fieldLink RX3 12 "DrumTalk" "land" "LDrumTalk$Land;", .fieldLink RX3 152 "DrumTalk$Land" "villages" "[LDrumTalk$Village;", .methodLink RX3 137 yX3_checkVillage, .instanceMethod yX3_checkVillage, .selects RX3 yX3_checkVillage yX3_checkVillage, .code yX3_checkVillage cX3_checkVillage 2 none, .classLink RX3 107 "java/lang/IndexOutOfBoundsException", .initialized "java/lang/IndexOutOfBoundsException", .fieldLink RX3 33 "DrumTalk$Land" "villageCount" "I"] ++ wsX20 ++ wsX30 ++ wsX00 ++ (vx_atS RX3 30 "java/lang/IllegalArgumentException" ["java/lang/RuntimeException", "java/lang/Exception"]).filter goodWord ++ (vx_atS RX3 111 "java/lang/IndexOutOfBoundsException" ["java/lang/RuntimeException", "java/lang/Exception"]).filter goodWord)
def wsL_phrase_r1 : List Cond := [Cond.classLink RL 13 "java/lang/IllegalArgumentException", Cond.classLink RL 15 "java/lang/IllegalStateException", Cond.methodLink RL 30 yX3_phrase, Cond.instanceMethod yX3_phrase, Cond.selects RX3 yX3_phrase yX3_phrase, Cond.initialized RX3, Cond.code yX3_phrase cX3_phrase 3 (some .int), Cond.classLink RX3 26 "java/lang/IllegalArgumentException", Cond.initialized "java/lang/IllegalArgumentException", Cond.classLink RX3 41 "java/lang/IllegalStateException", Cond.initialized "java/lang/IllegalStateException", Cond.fieldLink RX3 12 "DrumTalk" "land" "LDrumTalk$Land;", Cond.fieldLink RX3 79 "DrumTalk$Land" "phraseCount" "I", Cond.methodLink RX3 73 yX3_countTones, Cond.static yX3_countTones, Cond.code yX3_countTones cX3_countTones 4 (some .int), Cond.methodLink RX3 82 yX0_hasPhrase, Cond.instanceMethod yX0_hasPhrase, Cond.selects RX0 yX0_hasPhrase yX0_hasPhrase, Cond.initialized RX0, Cond.code yX0_hasPhrase cX0_hasPhrase 3 (some .boolean), Cond.fieldLink RX0 39 "DrumTalk$Land" "phraseCount" "I", Cond.fieldLink RX0 17 "DrumTalk$Land" "tones" "[I", Cond.methodLink RX3 87 yX0_addPhrase]
def wsL_phrase_r2 : List Cond := [Cond.instanceMethod yX0_addPhrase, Cond.selects RX0 yX0_addPhrase yX0_addPhrase, Cond.code yX0_addPhrase cX0_addPhrase 3 (some .int), Cond.fieldLink RX0 21 "DrumTalk$Land" "toneCounts" "[I"]
def wsL_phrase : List Cond := .codeWith yL_phrase cL_phrase 4 (some .int) [(0, 9, 12, 13), (0, 9, 15, 15)] :: ((wsL_phrase_r1 ++ wsL_phrase_r2) ++ wsX30 ++ wsX00 ++ (vx_atS RX3 30 "java/lang/IllegalArgumentException" ["java/lang/RuntimeException", "java/lang/Exception"]).filter goodWord ++ (vx_atS RX3 45 "java/lang/IllegalStateException" ["java/lang/RuntimeException", "java/lang/Exception"]).filter goodWord)
def wsL_tell_r1 : List Cond := [Cond.classLink RL 21 "java/lang/IndexOutOfBoundsException", Cond.classLink RL 15 "java/lang/IllegalStateException", Cond.methodLink RL 34 yX3_tell, Cond.instanceMethod yX3_tell, Cond.selects RX3 yX3_tell yX3_tell, Cond.initialized RX3, Cond.code yX3_tell cX3_tell 4 (some .int), Cond.classLink RX3 41 "java/lang/IllegalStateException", Cond.initialized "java/lang/IllegalStateException", Cond.fieldLink RX3 95 "DrumTalk$Village" "queued" "I", Cond.fieldLink RX3 12 "DrumTalk" "land" "LDrumTalk$Land;", Cond.fieldLink RX3 100 "DrumTalk$Land" "beat" "I", Cond.methodLink RX3 50 yX3_villageOf, Cond.instanceMethod yX3_villageOf, Cond.selects RX3 yX3_villageOf yX3_villageOf, Cond.code yX3_villageOf cX3_villageOf 2 (some (.object "DrumTalk$Village")), Cond.fieldLink RX3 152 "DrumTalk$Land" "villages" "[LDrumTalk$Village;", Cond.methodLink RX3 137 yX3_checkVillage, Cond.instanceMethod yX3_checkVillage, Cond.selects RX3 yX3_checkVillage yX3_checkVillage, Cond.code yX3_checkVillage cX3_checkVillage 2 none, Cond.classLink RX3 107 "java/lang/IndexOutOfBoundsException", Cond.initialized "java/lang/IndexOutOfBoundsException", Cond.fieldLink RX3 33 "DrumTalk$Land" "villageCount" "I"]
def wsL_tell_r2 : List Cond := [Cond.methodLink RX3 91 yX3_checkPhrase, Cond.instanceMethod yX3_checkPhrase, Cond.selects RX3 yX3_checkPhrase yX3_checkPhrase, Cond.code yX3_checkPhrase cX3_checkPhrase 2 none, Cond.fieldLink RX3 79 "DrumTalk$Land" "phraseCount" "I", Cond.methodLink RX3 103 yX2_takeIn, Cond.instanceMethod yX2_takeIn, Cond.selects RX2 yX2_takeIn yX2_takeIn, Cond.initialized RX2, Cond.code yX2_takeIn cX2_takeIn 3 none, Cond.fieldLink RX2 25 "DrumTalk$Village" "knownSince" "[I", Cond.fieldLink RX2 63 "DrumTalk$Village" "queued" "I", Cond.fieldLink RX2 21 "DrumTalk$Village" "queue" "[I"]
def wsL_tell : List Cond := .codeWith yL_tell cL_tell 5 (some .int) [(0, 10, 13, 21), (0, 10, 17, 15)] :: ((wsL_tell_r1 ++ wsL_tell_r2) ++ wsX20 ++ wsX30 ++ wsX00 ++ (vx_atS RX3 45 "java/lang/IllegalStateException" ["java/lang/RuntimeException", "java/lang/Exception"]).filter goodWord ++ (vx_atS RX3 111 "java/lang/IndexOutOfBoundsException" ["java/lang/RuntimeException", "java/lang/Exception"]).filter goodWord)
def wsL_village_r1 : List Cond := [Cond.classLink RL 21 "java/lang/IndexOutOfBoundsException", Cond.methodLink RL 37 yX3_village, Cond.instanceMethod yX3_village, Cond.selects RX3 yX3_village yX3_village, Cond.initialized RX3, Cond.code yX3_village cX3_village 4 (some .int), Cond.classLink RX3 107 "java/lang/IndexOutOfBoundsException", Cond.initialized "java/lang/IndexOutOfBoundsException", Cond.fieldLink RX3 12 "DrumTalk" "land" "LDrumTalk$Land;", Cond.fieldLink RX3 100 "DrumTalk$Land" "beat" "I", Cond.methodLink RX3 50 yX3_villageOf, Cond.instanceMethod yX3_villageOf, Cond.selects RX3 yX3_villageOf yX3_villageOf, Cond.code yX3_villageOf cX3_villageOf 2 (some (.object "DrumTalk$Village")), Cond.fieldLink RX3 152 "DrumTalk$Land" "villages" "[LDrumTalk$Village;", Cond.methodLink RX3 137 yX3_checkVillage, Cond.instanceMethod yX3_checkVillage, Cond.selects RX3 yX3_checkVillage yX3_checkVillage, Cond.code yX3_checkVillage cX3_checkVillage 2 none, Cond.fieldLink RX3 33 "DrumTalk$Land" "villageCount" "I", Cond.methodLink RX3 112 yX2_figure, Cond.instanceMethod yX2_figure, Cond.selects RX2 yX2_figure yX2_figure, Cond.initialized RX2]
def wsL_village_r2 : List Cond := [Cond.code yX2_figure cX2_figure 3 (some .int), Cond.fieldLink RX2 41 "DrumTalk$Village" "x" "I", Cond.fieldLink RX2 44 "DrumTalk$Village" "y" "I", Cond.fieldLink RX2 9 "DrumTalk$Village" "drum" "I", Cond.fieldLink RX2 47 "DrumTalk$Village" "cliff" "Z", Cond.fieldLink RX2 18 "DrumTalk$Village" "drumming" "I", Cond.fieldLink RX2 54 "DrumTalk$Village" "beatsLeft" "I", Cond.fieldLink RX2 63 "DrumTalk$Village" "queued" "I", Cond.fieldLink RX2 70 "DrumTalk$Village" "drowned" "I", Cond.methodLink RX2 73 yX2_isAwake, Cond.instanceMethod yX2_isAwake, Cond.selects RX2 yX2_isAwake yX2_isAwake, Cond.code yX2_isAwake cX2_isAwake 2 (some .boolean), Cond.fieldLink RX2 51 "DrumTalk$Village" "awakeFrom" "I", Cond.fieldLink RX2 15 "DrumTalk$Village" "awakeBeats" "I", Cond.methodLink RX2 81 yJ9_floorMod_7cf53, Cond.static yJ9_floorMod_7cf53, Cond.initialized RJ9, Cond.code yJ9_floorMod_7cf53 cJ9_floorMod_7cf53 3 (some .int), Cond.methodLink RX2 77 yX2_phrasesKnown, Cond.instanceMethod yX2_phrasesKnown, Cond.selects RX2 yX2_phrasesKnown yX2_phrasesKnown, Cond.code yX2_phrasesKnown cX2_phrasesKnown 3 (some .int), Cond.methodLink RX2 95 yX2_isKnown]
def wsL_village_r3 : List Cond := [Cond.instanceMethod yX2_isKnown, Cond.selects RX2 yX2_isKnown yX2_isKnown, Cond.code yX2_isKnown cX2_isKnown 2 (some .boolean), Cond.fieldLink RX2 25 "DrumTalk$Village" "knownSince" "[I"]
def wsL_village : List Cond := .codeWith yL_village cL_village 5 (some .int) [(0, 10, 13, 21)] :: ((wsL_village_r1 ++ (wsL_village_r2 ++ wsL_village_r3)) ++ wsX30 ++ wsX00 ++ wsX20 ++ (vx_atS RX3 111 "java/lang/IndexOutOfBoundsException" ["java/lang/RuntimeException", "java/lang/Exception"]).filter goodWord)
def wsL_queue : List Cond := .codeWith yL_queue cL_queue 5 (some .int) [(0, 10, 13, 21)] :: ([.classLink RL 21 "java/lang/IndexOutOfBoundsException", .methodLink RL 40 yX3_queue, .instanceMethod yX3_queue, .selects RX3 yX3_queue yX3_queue, .initialized RX3, .code yX3_queue cX3_queue 4 (some .int), .classLink RX3 107 "java/lang/IndexOutOfBoundsException", .initialized "java/lang/IndexOutOfBoundsException", .fieldLink RX3 95 "DrumTalk$Village" "queued" "I", .fieldLink RX3 117 "DrumTalk$Village" "queue" "[I", .methodLink RX3 50 yX3_villageOf, .instanceMethod yX3_villageOf, .selects RX3 yX3_villageOf yX3_villageOf, .code yX3_villageOf cX3_villageOf 2 (some (.object "DrumTalk$Village")), .fieldLink RX3 12 "DrumTalk" "land" "LDrumTalk$Land;", .fieldLink RX3 152 "DrumTalk$Land" "villages" "[LDrumTalk$Village;", .methodLink RX3 137 yX3_checkVillage, .instanceMethod yX3_checkVillage, .selects RX3 yX3_checkVillage yX3_checkVillage, .code yX3_checkVillage cX3_checkVillage 2 none, .fieldLink RX3 33 "DrumTalk$Land" "villageCount" "I"] ++ wsX20 ++ wsX30 ++ wsX00 ++ (vx_atS RX3 111 "java/lang/IndexOutOfBoundsException" ["java/lang/RuntimeException", "java/lang/Exception"]).filter goodWord)
def wsL_knows_r1 : List Cond := [Cond.classLink RL 21 "java/lang/IndexOutOfBoundsException", Cond.methodLink RL 43 yX3_knows, Cond.instanceMethod yX3_knows, Cond.selects RX3 yX3_knows yX3_knows, Cond.initialized RX3, Cond.code yX3_knows cX3_knows 4 (some .int), Cond.fieldLink RX3 121 "DrumTalk$Village" "knownSince" "[I", Cond.methodLink RX3 50 yX3_villageOf, Cond.instanceMethod yX3_villageOf, Cond.selects RX3 yX3_villageOf yX3_villageOf, Cond.code yX3_villageOf cX3_villageOf 2 (some (.object "DrumTalk$Village")), Cond.fieldLink RX3 12 "DrumTalk" "land" "LDrumTalk$Land;", Cond.fieldLink RX3 152 "DrumTalk$Land" "villages" "[LDrumTalk$Village;", Cond.methodLink RX3 137 yX3_checkVillage, Cond.instanceMethod yX3_checkVillage, Cond.selects RX3 yX3_checkVillage yX3_checkVillage, Cond.code yX3_checkVillage cX3_checkVillage 2 none, Cond.classLink RX3 107 "java/lang/IndexOutOfBoundsException", Cond.initialized "java/lang/IndexOutOfBoundsException", Cond.fieldLink RX3 33 "DrumTalk$Land" "villageCount" "I", Cond.methodLink RX3 91 yX3_checkPhrase, Cond.instanceMethod yX3_checkPhrase, Cond.selects RX3 yX3_checkPhrase yX3_checkPhrase, Cond.code yX3_checkPhrase cX3_checkPhrase 2 none]
def wsL_knows_r2 : List Cond := [Cond.fieldLink RX3 79 "DrumTalk$Land" "phraseCount" "I"]
def wsL_knows : List Cond := .codeWith yL_knows cL_knows 5 (some .int) [(0, 10, 13, 21)] :: ((wsL_knows_r1 ++ wsL_knows_r2) ++ wsX20 ++ wsX30 ++ wsX00 ++ (vx_atS RX3 111 "java/lang/IndexOutOfBoundsException" ["java/lang/RuntimeException", "java/lang/Exception"]).filter goodWord)
def wsL_sounds_r1 : List Cond := [Cond.classLink RL 21 "java/lang/IndexOutOfBoundsException", Cond.methodLink RL 46 yX3_sounds, Cond.instanceMethod yX3_sounds, Cond.selects RX3 yX3_sounds yX3_sounds, Cond.initialized RX3, Cond.code yX3_sounds cX3_sounds 2 (some .int), Cond.fieldLink RX3 124 "DrumTalk$Village" "inTheAir" "LDrumTalk$Sounds;", Cond.fieldLink RX3 12 "DrumTalk" "land" "LDrumTalk$Land;", Cond.fieldLink RX3 100 "DrumTalk$Land" "beat" "I", Cond.methodLink RX3 50 yX3_villageOf, Cond.instanceMethod yX3_villageOf, Cond.selects RX3 yX3_villageOf yX3_villageOf, Cond.code yX3_villageOf cX3_villageOf 2 (some (.object "DrumTalk$Village")), Cond.fieldLink RX3 152 "DrumTalk$Land" "villages" "[LDrumTalk$Village;", Cond.methodLink RX3 137 yX3_checkVillage, Cond.instanceMethod yX3_checkVillage, Cond.selects RX3 yX3_checkVillage yX3_checkVillage, Cond.code yX3_checkVillage cX3_checkVillage 2 none, Cond.classLink RX3 107 "java/lang/IndexOutOfBoundsException", Cond.initialized "java/lang/IndexOutOfBoundsException", Cond.fieldLink RX3 33 "DrumTalk$Land" "villageCount" "I", Cond.methodLink RX3 128 yX1_lasting, Cond.instanceMethod yX1_lasting, Cond.selects RX1 yX1_lasting yX1_lasting]
def wsL_sounds_r2 : List Cond := [Cond.initialized RX1, Cond.code yX1_lasting cX1_lasting 4 (some .int), Cond.fieldLink RX1 24 "DrumTalk$Sounds" "size" "I", Cond.fieldLink RX1 15 "DrumTalk$Sounds" "firstBeats" "[I"]
def wsL_sounds : List Cond := .codeWith yL_sounds cL_sounds 4 (some .int) [(0, 9, 12, 21)] :: ((wsL_sounds_r1 ++ wsL_sounds_r2) ++ wsX20 ++ wsX30 ++ wsX00 ++ wsX10 ++ (vx_atS RX3 111 "java/lang/IndexOutOfBoundsException" ["java/lang/RuntimeException", "java/lang/Exception"]).filter goodWord)
def wsL_count_r1 : List Cond := [Cond.classLink RL 21 "java/lang/IndexOutOfBoundsException", Cond.methodLink RL 49 yX3_count, Cond.instanceMethod yX3_count, Cond.selects RX3 yX3_count yX3_count, Cond.initialized RX3, Cond.code yX3_count cX3_count 2 (some .int), Cond.classLink RX3 107 "java/lang/IndexOutOfBoundsException", Cond.initialized "java/lang/IndexOutOfBoundsException", Cond.fieldLink RX3 12 "DrumTalk" "land" "LDrumTalk$Land;", Cond.methodLink RX3 135 yX0_figure, Cond.instanceMethod yX0_figure, Cond.selects RX0 yX0_figure yX0_figure, Cond.initialized RX0, Cond.code yX0_figure cX0_figure 2 (some .int), Cond.fieldLink RX0 42 "DrumTalk$Land" "beat" "I", Cond.fieldLink RX0 25 "DrumTalk$Land" "villageCount" "I", Cond.fieldLink RX0 39 "DrumTalk$Land" "phraseCount" "I", Cond.fieldLink RX0 45 "DrumTalk$Land" "drummings" "I", Cond.methodLink RX0 57 yX0_drummers, Cond.instanceMethod yX0_drummers, Cond.selects RX0 yX0_drummers yX0_drummers, Cond.code yX0_drummers cX0_drummers 3 (some .int), Cond.fieldLink RX0 11 "DrumTalk$Land" "villages" "[LDrumTalk$Village;", Cond.methodLink RX0 70 yX2_isDrumming]
def wsL_count_r2 : List Cond := [Cond.instanceMethod yX2_isDrumming, Cond.selects RX2 yX2_isDrumming yX2_isDrumming, Cond.initialized RX2, Cond.code yX2_isDrumming cX2_isDrumming 1 (some .boolean), Cond.fieldLink RX2 18 "DrumTalk$Village" "drumming" "I", Cond.methodLink RX0 61 yX0_soundsInTheAir, Cond.instanceMethod yX0_soundsInTheAir, Cond.selects RX0 yX0_soundsInTheAir yX0_soundsInTheAir, Cond.code yX0_soundsInTheAir cX0_soundsInTheAir 3 (some .int), Cond.fieldLink RX0 74 "DrumTalk$Village" "inTheAir" "LDrumTalk$Sounds;", Cond.fieldLink RX0 78 "DrumTalk$Sounds" "size" "I", Cond.methodLink RX0 64 yX0_soundsDrowned, Cond.instanceMethod yX0_soundsDrowned, Cond.selects RX0 yX0_soundsDrowned yX0_soundsDrowned, Cond.code yX0_soundsDrowned cX0_soundsDrowned 3 (some .int), Cond.fieldLink RX0 83 "DrumTalk$Village" "drowned" "I", Cond.methodLink RX0 67 yX0_knownPairs, Cond.instanceMethod yX0_knownPairs, Cond.selects RX0 yX0_knownPairs yX0_knownPairs, Cond.code yX0_knownPairs cX0_knownPairs 3 (some .int), Cond.methodLink RX0 86 yX2_phrasesKnown, Cond.instanceMethod yX2_phrasesKnown, Cond.selects RX2 yX2_phrasesKnown yX2_phrasesKnown, Cond.code yX2_phrasesKnown cX2_phrasesKnown 3 (some .int)]
def wsL_count_r3 : List Cond := [Cond.methodLink RX2 95 yX2_isKnown, Cond.instanceMethod yX2_isKnown, Cond.selects RX2 yX2_isKnown yX2_isKnown, Cond.code yX2_isKnown cX2_isKnown 2 (some .boolean), Cond.fieldLink RX2 25 "DrumTalk$Village" "knownSince" "[I"]
def wsL_count : List Cond := .codeWith yL_count cL_count 4 (some .int) [(0, 9, 12, 21)] :: ((wsL_count_r1 ++ (wsL_count_r2 ++ wsL_count_r3)) ++ wsX30 ++ wsX00 ++ wsX20 ++ wsX10 ++ (vx_atS RX3 111 "java/lang/IndexOutOfBoundsException" ["java/lang/RuntimeException", "java/lang/Exception"]).filter goodWord)
def wsL_way_r1 : List Cond := [Cond.classLink RL 21 "java/lang/IndexOutOfBoundsException", Cond.methodLink RL 52 yX3_way, Cond.instanceMethod yX3_way, Cond.selects RX3 yX3_way yX3_way, Cond.initialized RX3, Cond.code yX3_way cX3_way 5 (some .int), Cond.fieldLink RX3 12 "DrumTalk" "land" "LDrumTalk$Land;", Cond.methodLink RX3 137 yX3_checkVillage, Cond.instanceMethod yX3_checkVillage, Cond.selects RX3 yX3_checkVillage yX3_checkVillage, Cond.code yX3_checkVillage cX3_checkVillage 2 none, Cond.classLink RX3 107 "java/lang/IndexOutOfBoundsException", Cond.initialized "java/lang/IndexOutOfBoundsException", Cond.fieldLink RX3 33 "DrumTalk$Land" "villageCount" "I", Cond.methodLink RX3 140 yX0_hearersOf, Cond.instanceMethod yX0_hearersOf, Cond.selects RX0 yX0_hearersOf yX0_hearersOf, Cond.initialized RX0, Cond.code yX0_hearersOf cX0_hearersOf 5 (some .int), Cond.fieldLink RX0 25 "DrumTalk$Land" "villageCount" "I", Cond.fieldLink RX0 11 "DrumTalk$Land" "villages" "[LDrumTalk$Village;", Cond.methodLink RX0 93 yX2_distanceTo, Cond.instanceMethod yX2_distanceTo, Cond.selects RX2 yX2_distanceTo yX2_distanceTo]
def wsL_way_r2 : List Cond := [Cond.initialized RX2, Cond.code yX2_distanceTo cX2_distanceTo 2 (some .int), Cond.fieldLink RX2 41 "DrumTalk$Village" "x" "I", Cond.methodLink RX2 91 Lib.Math.abs.name, Cond.static Lib.Math.abs.name, Cond.initialized "java/lang/Math", Cond.code Lib.Math.abs.name Lib.Math.abs.code 1 (some .int), Cond.fieldLink RX2 44 "DrumTalk$Village" "y" "I", Cond.methodLink RX0 97 yX2_isHeardAt, Cond.instanceMethod yX2_isHeardAt, Cond.selects RX2 yX2_isHeardAt yX2_isHeardAt, Cond.code yX2_isHeardAt cX2_isHeardAt 2 (some .boolean), Cond.fieldLink RX2 9 "DrumTalk$Village" "drum" "I"]
def wsL_way : List Cond := .codeWith yL_way cL_way 5 (some .int) [(0, 10, 13, 21)] :: ((wsL_way_r1 ++ wsL_way_r2) ++ wsX30 ++ wsX00 ++ wsX20 ++ (vx_atS RX3 111 "java/lang/IndexOutOfBoundsException" ["java/lang/RuntimeException", "java/lang/Exception"]).filter goodWord)
def wsL_pass_r1 : List Cond := [Cond.classLink RL 13 "java/lang/IllegalArgumentException", Cond.methodLink RL 55 yX3_pass, Cond.instanceMethod yX3_pass, Cond.selects RX3 yX3_pass yX3_pass, Cond.initialized RX3, Cond.code yX3_pass cX3_pass 2 (some .int), Cond.classLink RX3 26 "java/lang/IllegalArgumentException", Cond.initialized "java/lang/IllegalArgumentException", Cond.fieldLink RX3 12 "DrumTalk" "land" "LDrumTalk$Land;", Cond.methodLink RX3 145 yX0_letGo, Cond.instanceMethod yX0_letGo, Cond.selects RX0 yX0_letGo yX0_letGo, Cond.initialized RX0, Cond.code yX0_letGo cX0_letGo 4 (some .int), Cond.fieldLink RX0 42 "DrumTalk$Land" "beat" "I", Cond.methodLink RX0 100 yX0_isQuiet, Cond.instanceMethod yX0_isQuiet, Cond.selects RX0 yX0_isQuiet yX0_isQuiet, Cond.code yX0_isQuiet cX0_isQuiet 3 (some .boolean), Cond.fieldLink RX0 25 "DrumTalk$Land" "villageCount" "I", Cond.fieldLink RX0 11 "DrumTalk$Land" "villages" "[LDrumTalk$Village;", Cond.fieldLink RX0 106 "DrumTalk$Village" "queued" "I", Cond.fieldLink RX0 74 "DrumTalk$Village" "inTheAir" "LDrumTalk$Sounds;", Cond.fieldLink RX0 78 "DrumTalk$Sounds" "size" "I"]
def wsL_pass_r2 : List Cond := [Cond.methodLink RX0 70 yX2_isDrumming, Cond.instanceMethod yX2_isDrumming, Cond.selects RX2 yX2_isDrumming yX2_isDrumming, Cond.initialized RX2, Cond.code yX2_isDrumming cX2_isDrumming 1 (some .boolean), Cond.fieldLink RX2 18 "DrumTalk$Village" "drumming" "I", Cond.methodLink RX0 103 yX0_goBeat, Cond.instanceMethod yX0_goBeat, Cond.selects RX0 yX0_goBeat yX0_goBeat, Cond.code yX0_goBeat cX0_goBeat 3 (some .int), Cond.methodLink RX0 109 yX2_isReady, Cond.instanceMethod yX2_isReady, Cond.selects RX2 yX2_isReady yX2_isReady, Cond.code yX2_isReady cX2_isReady 2 (some .boolean), Cond.fieldLink RX2 63 "DrumTalk$Village" "queued" "I", Cond.methodLink RX2 87 yX2_isDrumming, Cond.methodLink RX2 73 yX2_isAwake, Cond.instanceMethod yX2_isAwake, Cond.selects RX2 yX2_isAwake yX2_isAwake, Cond.code yX2_isAwake cX2_isAwake 2 (some .boolean), Cond.fieldLink RX2 51 "DrumTalk$Village" "awakeFrom" "I", Cond.fieldLink RX2 15 "DrumTalk$Village" "awakeBeats" "I", Cond.methodLink RX2 81 yJ9_floorMod_7cf53, Cond.static yJ9_floorMod_7cf53]
def wsL_pass_r3 : List Cond := [Cond.initialized RJ9, Cond.code yJ9_floorMod_7cf53 cJ9_floorMod_7cf53 3 (some .int), Cond.methodLink RX0 112 yX0_beginDrumming, Cond.instanceMethod yX0_beginDrumming, Cond.selects RX0 yX0_beginDrumming yX0_beginDrumming, Cond.code yX0_beginDrumming cX0_beginDrumming 9 none, Cond.fieldLink RX0 39 "DrumTalk$Land" "phraseCount" "I", Cond.fieldLink RX0 21 "DrumTalk$Land" "toneCounts" "[I", Cond.fieldLink RX0 129 "DrumTalk$Village" "drumming" "I", Cond.fieldLink RX0 132 "DrumTalk$Village" "beatsLeft" "I", Cond.fieldLink RX0 45 "DrumTalk$Land" "drummings" "I", Cond.fieldLink RX0 139 "DrumTalk$Village" "cliff" "Z", Cond.methodLink RX0 126 yX2_takeFromQueue, Cond.instanceMethod yX2_takeFromQueue, Cond.selects RX2 yX2_takeFromQueue yX2_takeFromQueue, Cond.code yX2_takeFromQueue cX2_takeFromQueue 2 (some .int), Cond.fieldLink RX2 21 "DrumTalk$Village" "queue" "[I", Cond.methodLink RX2 57 arraycopyName, Cond.native arraycopyName, Cond.static arraycopyName, Cond.initialized "java/lang/System", Cond.methodLink RX0 93 yX2_distanceTo, Cond.instanceMethod yX2_distanceTo, Cond.selects RX2 yX2_distanceTo yX2_distanceTo]
def wsL_pass_r4 : List Cond := [Cond.code yX2_distanceTo cX2_distanceTo 2 (some .int), Cond.fieldLink RX2 41 "DrumTalk$Village" "x" "I", Cond.methodLink RX2 91 Lib.Math.abs.name, Cond.static Lib.Math.abs.name, Cond.initialized "java/lang/Math", Cond.code Lib.Math.abs.name Lib.Math.abs.code 1 (some .int), Cond.fieldLink RX2 44 "DrumTalk$Village" "y" "I", Cond.methodLink RX0 97 yX2_isHeardAt, Cond.instanceMethod yX2_isHeardAt, Cond.selects RX2 yX2_isHeardAt yX2_isHeardAt, Cond.code yX2_isHeardAt cX2_isHeardAt 2 (some .boolean), Cond.fieldLink RX2 9 "DrumTalk$Village" "drum" "I", Cond.methodLink RX0 135 yX1_add, Cond.instanceMethod yX1_add, Cond.selects RX1 yX1_add yX1_add, Cond.initialized RX1, Cond.code yX1_add cX1_add 4 none, Cond.fieldLink RX1 24 "DrumTalk$Sounds" "size" "I", Cond.fieldLink RX1 9 "DrumTalk$Sounds" "phrases" "[I", Cond.fieldLink RX1 15 "DrumTalk$Sounds" "firstBeats" "[I", Cond.fieldLink RX1 18 "DrumTalk$Sounds" "lastBeats" "[I", Cond.fieldLink RX1 21 "DrumTalk$Sounds" "drowned" "[I", Cond.methodLink RX0 116 yX2_drownIfDisturbed, Cond.instanceMethod yX2_drownIfDisturbed]
def wsL_pass_r5 : List Cond := [Cond.selects RX2 yX2_drownIfDisturbed yX2_drownIfDisturbed, Cond.code yX2_drownIfDisturbed cX2_drownIfDisturbed 2 none, Cond.fieldLink RX2 31 "DrumTalk$Village" "inTheAir" "LDrumTalk$Sounds;", Cond.methodLink RX2 98 yX1_lasting, Cond.instanceMethod yX1_lasting, Cond.selects RX1 yX1_lasting yX1_lasting, Cond.code yX1_lasting cX1_lasting 4 (some .int), Cond.methodLink RX2 101 yX1_drown, Cond.instanceMethod yX1_drown, Cond.selects RX1 yX1_drown yX1_drown, Cond.code yX1_drown cX1_drown 3 none, Cond.methodLink RX0 119 yX2_endSounds, Cond.instanceMethod yX2_endSounds, Cond.selects RX2 yX2_endSounds yX2_endSounds, Cond.code yX2_endSounds cX2_endSounds 5 (some .int), Cond.fieldLink RX2 105 "DrumTalk$Sounds" "size" "I", Cond.fieldLink RX2 108 "DrumTalk$Sounds" "lastBeats" "[I", Cond.fieldLink RX2 115 "DrumTalk$Sounds" "drowned" "[I", Cond.fieldLink RX2 70 "DrumTalk$Village" "drowned" "I", Cond.fieldLink RX2 117 "DrumTalk$Sounds" "phrases" "[I", Cond.methodLink RX2 111 yX1_move, Cond.instanceMethod yX1_move, Cond.selects RX1 yX1_move yX1_move, Cond.code yX1_move cX1_move 3 none]
def wsL_pass_r6 : List Cond := [Cond.methodLink RX2 95 yX2_isKnown, Cond.instanceMethod yX2_isKnown, Cond.selects RX2 yX2_isKnown yX2_isKnown, Cond.code yX2_isKnown cX2_isKnown 2 (some .boolean), Cond.fieldLink RX2 25 "DrumTalk$Village" "knownSince" "[I", Cond.methodLink RX2 120 yX2_takeIn, Cond.instanceMethod yX2_takeIn, Cond.selects RX2 yX2_takeIn yX2_takeIn, Cond.code yX2_takeIn cX2_takeIn 3 none, Cond.methodLink RX0 123 yX2_endDrumBeat, Cond.instanceMethod yX2_endDrumBeat, Cond.selects RX2 yX2_endDrumBeat yX2_endDrumBeat, Cond.code yX2_endDrumBeat cX2_endDrumBeat 1 none, Cond.fieldLink RX2 54 "DrumTalk$Village" "beatsLeft" "I"]
def wsL_pass : List Cond := .codeWith yL_pass cL_pass 4 (some .int) [(0, 9, 12, 13)] :: ((wsL_pass_r1 ++ (wsL_pass_r2 ++ (wsL_pass_r3 ++ (wsL_pass_r4 ++ (wsL_pass_r5 ++ wsL_pass_r6))))) ++ wsX30 ++ wsX00 ++ wsX20 ++ wsX10 ++ (vx_atS RX3 30 "java/lang/IllegalArgumentException" ["java/lang/RuntimeException", "java/lang/Exception"]).filter goodWord)
def wsL_reaches_r1 : List Cond := [Cond.classLink RL 21 "java/lang/IndexOutOfBoundsException", Cond.methodLink RL 58 yX3_reaches, Cond.instanceMethod yX3_reaches, Cond.selects RX3 yX3_reaches yX3_reaches, Cond.initialized RX3, Cond.code yX3_reaches cX3_reaches 5 (some .int), Cond.fieldLink RX3 16 "DrumTalk" "trial" "LDrumTalk$Land;", Cond.fieldLink RX3 12 "DrumTalk" "land" "LDrumTalk$Land;", Cond.fieldLink RX3 152 "DrumTalk$Land" "villages" "[LDrumTalk$Village;", Cond.methodLink RX3 137 yX3_checkVillage, Cond.instanceMethod yX3_checkVillage, Cond.selects RX3 yX3_checkVillage yX3_checkVillage, Cond.code yX3_checkVillage cX3_checkVillage 2 none, Cond.classLink RX3 107 "java/lang/IndexOutOfBoundsException", Cond.initialized "java/lang/IndexOutOfBoundsException", Cond.fieldLink RX3 33 "DrumTalk$Land" "villageCount" "I", Cond.methodLink RX3 91 yX3_checkPhrase, Cond.instanceMethod yX3_checkPhrase, Cond.selects RX3 yX3_checkPhrase yX3_checkPhrase, Cond.code yX3_checkPhrase cX3_checkPhrase 2 none, Cond.fieldLink RX3 79 "DrumTalk$Land" "phraseCount" "I", Cond.methodLink RX3 148 yX0_copy, Cond.instanceMethod yX0_copy, Cond.selects RX0 yX0_copy yX0_copy]
def wsL_reaches_r2 : List Cond := [Cond.initialized RX0, Cond.code yX0_copy cX0_copy 3 none, Cond.fieldLink RX0 25 "DrumTalk$Land" "villageCount" "I", Cond.fieldLink RX0 11 "DrumTalk$Land" "villages" "[LDrumTalk$Village;", Cond.fieldLink RX0 17 "DrumTalk$Land" "tones" "[I", Cond.methodLink RX0 33 arraycopyName, Cond.native arraycopyName, Cond.static arraycopyName, Cond.initialized "java/lang/System", Cond.fieldLink RX0 21 "DrumTalk$Land" "toneCounts" "[I", Cond.fieldLink RX0 39 "DrumTalk$Land" "phraseCount" "I", Cond.fieldLink RX0 42 "DrumTalk$Land" "beat" "I", Cond.fieldLink RX0 45 "DrumTalk$Land" "drummings" "I", Cond.methodLink RX0 29 yX2_copy, Cond.instanceMethod yX2_copy, Cond.selects RX2 yX2_copy yX2_copy, Cond.initialized RX2, Cond.code yX2_copy cX2_copy 2 none, Cond.fieldLink RX2 41 "DrumTalk$Village" "x" "I", Cond.fieldLink RX2 44 "DrumTalk$Village" "y" "I", Cond.fieldLink RX2 9 "DrumTalk$Village" "drum" "I", Cond.fieldLink RX2 47 "DrumTalk$Village" "cliff" "Z", Cond.fieldLink RX2 51 "DrumTalk$Village" "awakeFrom" "I", Cond.fieldLink RX2 15 "DrumTalk$Village" "awakeBeats" "I"]
def wsL_reaches_r3 : List Cond := [Cond.fieldLink RX2 18 "DrumTalk$Village" "drumming" "I", Cond.fieldLink RX2 54 "DrumTalk$Village" "beatsLeft" "I", Cond.fieldLink RX2 21 "DrumTalk$Village" "queue" "[I", Cond.methodLink RX2 57 arraycopyName, Cond.fieldLink RX2 63 "DrumTalk$Village" "queued" "I", Cond.fieldLink RX2 25 "DrumTalk$Village" "knownSince" "[I", Cond.fieldLink RX2 31 "DrumTalk$Village" "inTheAir" "LDrumTalk$Sounds;", Cond.fieldLink RX2 70 "DrumTalk$Village" "drowned" "I", Cond.methodLink RX2 66 yX1_copy, Cond.instanceMethod yX1_copy, Cond.selects RX1 yX1_copy yX1_copy, Cond.initialized RX1, Cond.code yX1_copy cX1_copy 2 none, Cond.fieldLink RX1 9 "DrumTalk$Sounds" "phrases" "[I", Cond.fieldLink RX1 24 "DrumTalk$Sounds" "size" "I", Cond.methodLink RX1 28 arraycopyName, Cond.fieldLink RX1 15 "DrumTalk$Sounds" "firstBeats" "[I", Cond.fieldLink RX1 18 "DrumTalk$Sounds" "lastBeats" "[I", Cond.fieldLink RX1 21 "DrumTalk$Sounds" "drowned" "[I", Cond.methodLink RX3 156 yX2_isKnown, Cond.instanceMethod yX2_isKnown, Cond.selects RX2 yX2_isKnown yX2_isKnown, Cond.code yX2_isKnown cX2_isKnown 2 (some .boolean), Cond.methodLink RX3 145 yX0_letGo]
def wsL_reaches_r4 : List Cond := [Cond.instanceMethod yX0_letGo, Cond.selects RX0 yX0_letGo yX0_letGo, Cond.code yX0_letGo cX0_letGo 4 (some .int), Cond.methodLink RX0 100 yX0_isQuiet, Cond.instanceMethod yX0_isQuiet, Cond.selects RX0 yX0_isQuiet yX0_isQuiet, Cond.code yX0_isQuiet cX0_isQuiet 3 (some .boolean), Cond.fieldLink RX0 106 "DrumTalk$Village" "queued" "I", Cond.fieldLink RX0 74 "DrumTalk$Village" "inTheAir" "LDrumTalk$Sounds;", Cond.fieldLink RX0 78 "DrumTalk$Sounds" "size" "I", Cond.methodLink RX0 70 yX2_isDrumming, Cond.instanceMethod yX2_isDrumming, Cond.selects RX2 yX2_isDrumming yX2_isDrumming, Cond.code yX2_isDrumming cX2_isDrumming 1 (some .boolean), Cond.methodLink RX0 103 yX0_goBeat, Cond.instanceMethod yX0_goBeat, Cond.selects RX0 yX0_goBeat yX0_goBeat, Cond.code yX0_goBeat cX0_goBeat 3 (some .int), Cond.methodLink RX0 109 yX2_isReady, Cond.instanceMethod yX2_isReady, Cond.selects RX2 yX2_isReady yX2_isReady, Cond.code yX2_isReady cX2_isReady 2 (some .boolean), Cond.methodLink RX2 87 yX2_isDrumming, Cond.methodLink RX2 73 yX2_isAwake]
def wsL_reaches_r5 : List Cond := [Cond.instanceMethod yX2_isAwake, Cond.selects RX2 yX2_isAwake yX2_isAwake, Cond.code yX2_isAwake cX2_isAwake 2 (some .boolean), Cond.methodLink RX2 81 yJ9_floorMod_7cf53, Cond.static yJ9_floorMod_7cf53, Cond.initialized RJ9, Cond.code yJ9_floorMod_7cf53 cJ9_floorMod_7cf53 3 (some .int), Cond.methodLink RX0 112 yX0_beginDrumming, Cond.instanceMethod yX0_beginDrumming, Cond.selects RX0 yX0_beginDrumming yX0_beginDrumming, Cond.code yX0_beginDrumming cX0_beginDrumming 9 none, Cond.fieldLink RX0 129 "DrumTalk$Village" "drumming" "I", Cond.fieldLink RX0 132 "DrumTalk$Village" "beatsLeft" "I", Cond.fieldLink RX0 139 "DrumTalk$Village" "cliff" "Z", Cond.methodLink RX0 126 yX2_takeFromQueue, Cond.instanceMethod yX2_takeFromQueue, Cond.selects RX2 yX2_takeFromQueue yX2_takeFromQueue, Cond.code yX2_takeFromQueue cX2_takeFromQueue 2 (some .int), Cond.methodLink RX0 93 yX2_distanceTo, Cond.instanceMethod yX2_distanceTo, Cond.selects RX2 yX2_distanceTo yX2_distanceTo, Cond.code yX2_distanceTo cX2_distanceTo 2 (some .int), Cond.methodLink RX2 91 Lib.Math.abs.name, Cond.static Lib.Math.abs.name]
def wsL_reaches_r6 : List Cond := [Cond.initialized "java/lang/Math", Cond.code Lib.Math.abs.name Lib.Math.abs.code 1 (some .int), Cond.methodLink RX0 97 yX2_isHeardAt, Cond.instanceMethod yX2_isHeardAt, Cond.selects RX2 yX2_isHeardAt yX2_isHeardAt, Cond.code yX2_isHeardAt cX2_isHeardAt 2 (some .boolean), Cond.methodLink RX0 135 yX1_add, Cond.instanceMethod yX1_add, Cond.selects RX1 yX1_add yX1_add, Cond.code yX1_add cX1_add 4 none, Cond.methodLink RX0 116 yX2_drownIfDisturbed, Cond.instanceMethod yX2_drownIfDisturbed, Cond.selects RX2 yX2_drownIfDisturbed yX2_drownIfDisturbed, Cond.code yX2_drownIfDisturbed cX2_drownIfDisturbed 2 none, Cond.methodLink RX2 98 yX1_lasting, Cond.instanceMethod yX1_lasting, Cond.selects RX1 yX1_lasting yX1_lasting, Cond.code yX1_lasting cX1_lasting 4 (some .int), Cond.methodLink RX2 101 yX1_drown, Cond.instanceMethod yX1_drown, Cond.selects RX1 yX1_drown yX1_drown, Cond.code yX1_drown cX1_drown 3 none, Cond.methodLink RX0 119 yX2_endSounds, Cond.instanceMethod yX2_endSounds]
def wsL_reaches_r7 : List Cond := [Cond.selects RX2 yX2_endSounds yX2_endSounds, Cond.code yX2_endSounds cX2_endSounds 5 (some .int), Cond.fieldLink RX2 105 "DrumTalk$Sounds" "size" "I", Cond.fieldLink RX2 108 "DrumTalk$Sounds" "lastBeats" "[I", Cond.fieldLink RX2 115 "DrumTalk$Sounds" "drowned" "[I", Cond.fieldLink RX2 117 "DrumTalk$Sounds" "phrases" "[I", Cond.methodLink RX2 111 yX1_move, Cond.instanceMethod yX1_move, Cond.selects RX1 yX1_move yX1_move, Cond.code yX1_move cX1_move 3 none, Cond.methodLink RX2 95 yX2_isKnown, Cond.methodLink RX2 120 yX2_takeIn, Cond.instanceMethod yX2_takeIn, Cond.selects RX2 yX2_takeIn yX2_takeIn, Cond.code yX2_takeIn cX2_takeIn 3 none, Cond.methodLink RX0 123 yX2_endDrumBeat, Cond.instanceMethod yX2_endDrumBeat, Cond.selects RX2 yX2_endDrumBeat yX2_endDrumBeat, Cond.code yX2_endDrumBeat cX2_endDrumBeat 1 none]
def wsL_reaches : List Cond := .codeWith yL_reaches cL_reaches 5 (some .int) [(0, 10, 13, 21)] :: ((wsL_reaches_r1 ++ (wsL_reaches_r2 ++ (wsL_reaches_r3 ++ (wsL_reaches_r4 ++ (wsL_reaches_r5 ++ (wsL_reaches_r6 ++ wsL_reaches_r7)))))) ++ wsX30 ++ wsX00 ++ wsX20 ++ wsX10 ++ (vx_atS RX3 111 "java/lang/IndexOutOfBoundsException" ["java/lang/RuntimeException", "java/lang/Exception"]).filter goodWord)
def wsL_best_r1 : List Cond := [Cond.classLink RL 21 "java/lang/IndexOutOfBoundsException", Cond.methodLink RL 61 yX3_best, Cond.instanceMethod yX3_best, Cond.selects RX3 yX3_best yX3_best, Cond.initialized RX3, Cond.code yX3_best cX3_best 7 (some .int), Cond.fieldLink RX3 16 "DrumTalk" "trial" "LDrumTalk$Land;", Cond.fieldLink RX3 12 "DrumTalk" "land" "LDrumTalk$Land;", Cond.methodLink RX3 137 yX3_checkVillage, Cond.instanceMethod yX3_checkVillage, Cond.selects RX3 yX3_checkVillage yX3_checkVillage, Cond.code yX3_checkVillage cX3_checkVillage 2 none, Cond.classLink RX3 107 "java/lang/IndexOutOfBoundsException", Cond.initialized "java/lang/IndexOutOfBoundsException", Cond.fieldLink RX3 33 "DrumTalk$Land" "villageCount" "I", Cond.methodLink RX3 91 yX3_checkPhrase, Cond.instanceMethod yX3_checkPhrase, Cond.selects RX3 yX3_checkPhrase yX3_checkPhrase, Cond.code yX3_checkPhrase cX3_checkPhrase 2 none, Cond.fieldLink RX3 79 "DrumTalk$Land" "phraseCount" "I", Cond.methodLink RX3 148 yX0_copy, Cond.instanceMethod yX0_copy, Cond.selects RX0 yX0_copy yX0_copy, Cond.initialized RX0]
def wsL_best_r2 : List Cond := [Cond.code yX0_copy cX0_copy 3 none, Cond.fieldLink RX0 25 "DrumTalk$Land" "villageCount" "I", Cond.fieldLink RX0 11 "DrumTalk$Land" "villages" "[LDrumTalk$Village;", Cond.fieldLink RX0 17 "DrumTalk$Land" "tones" "[I", Cond.methodLink RX0 33 arraycopyName, Cond.native arraycopyName, Cond.static arraycopyName, Cond.initialized "java/lang/System", Cond.fieldLink RX0 21 "DrumTalk$Land" "toneCounts" "[I", Cond.fieldLink RX0 39 "DrumTalk$Land" "phraseCount" "I", Cond.fieldLink RX0 42 "DrumTalk$Land" "beat" "I", Cond.fieldLink RX0 45 "DrumTalk$Land" "drummings" "I", Cond.methodLink RX0 29 yX2_copy, Cond.instanceMethod yX2_copy, Cond.selects RX2 yX2_copy yX2_copy, Cond.initialized RX2, Cond.code yX2_copy cX2_copy 2 none, Cond.fieldLink RX2 41 "DrumTalk$Village" "x" "I", Cond.fieldLink RX2 44 "DrumTalk$Village" "y" "I", Cond.fieldLink RX2 9 "DrumTalk$Village" "drum" "I", Cond.fieldLink RX2 47 "DrumTalk$Village" "cliff" "Z", Cond.fieldLink RX2 51 "DrumTalk$Village" "awakeFrom" "I", Cond.fieldLink RX2 15 "DrumTalk$Village" "awakeBeats" "I", Cond.fieldLink RX2 18 "DrumTalk$Village" "drumming" "I"]
def wsL_best_r3 : List Cond := [Cond.fieldLink RX2 54 "DrumTalk$Village" "beatsLeft" "I", Cond.fieldLink RX2 21 "DrumTalk$Village" "queue" "[I", Cond.methodLink RX2 57 arraycopyName, Cond.fieldLink RX2 63 "DrumTalk$Village" "queued" "I", Cond.fieldLink RX2 25 "DrumTalk$Village" "knownSince" "[I", Cond.fieldLink RX2 31 "DrumTalk$Village" "inTheAir" "LDrumTalk$Sounds;", Cond.fieldLink RX2 70 "DrumTalk$Village" "drowned" "I", Cond.methodLink RX2 66 yX1_copy, Cond.instanceMethod yX1_copy, Cond.selects RX1 yX1_copy yX1_copy, Cond.initialized RX1, Cond.code yX1_copy cX1_copy 2 none, Cond.fieldLink RX1 9 "DrumTalk$Sounds" "phrases" "[I", Cond.fieldLink RX1 24 "DrumTalk$Sounds" "size" "I", Cond.methodLink RX1 28 arraycopyName, Cond.fieldLink RX1 15 "DrumTalk$Sounds" "firstBeats" "[I", Cond.fieldLink RX1 18 "DrumTalk$Sounds" "lastBeats" "[I", Cond.fieldLink RX1 21 "DrumTalk$Sounds" "drowned" "[I", Cond.methodLink RX3 145 yX0_letGo, Cond.instanceMethod yX0_letGo, Cond.selects RX0 yX0_letGo yX0_letGo, Cond.code yX0_letGo cX0_letGo 4 (some .int), Cond.methodLink RX0 100 yX0_isQuiet, Cond.instanceMethod yX0_isQuiet]
def wsL_best_r4 : List Cond := [Cond.selects RX0 yX0_isQuiet yX0_isQuiet, Cond.code yX0_isQuiet cX0_isQuiet 3 (some .boolean), Cond.fieldLink RX0 106 "DrumTalk$Village" "queued" "I", Cond.fieldLink RX0 74 "DrumTalk$Village" "inTheAir" "LDrumTalk$Sounds;", Cond.fieldLink RX0 78 "DrumTalk$Sounds" "size" "I", Cond.methodLink RX0 70 yX2_isDrumming, Cond.instanceMethod yX2_isDrumming, Cond.selects RX2 yX2_isDrumming yX2_isDrumming, Cond.code yX2_isDrumming cX2_isDrumming 1 (some .boolean), Cond.methodLink RX0 103 yX0_goBeat, Cond.instanceMethod yX0_goBeat, Cond.selects RX0 yX0_goBeat yX0_goBeat, Cond.code yX0_goBeat cX0_goBeat 3 (some .int), Cond.methodLink RX0 109 yX2_isReady, Cond.instanceMethod yX2_isReady, Cond.selects RX2 yX2_isReady yX2_isReady, Cond.code yX2_isReady cX2_isReady 2 (some .boolean), Cond.methodLink RX2 87 yX2_isDrumming, Cond.methodLink RX2 73 yX2_isAwake, Cond.instanceMethod yX2_isAwake, Cond.selects RX2 yX2_isAwake yX2_isAwake, Cond.code yX2_isAwake cX2_isAwake 2 (some .boolean), Cond.methodLink RX2 81 yJ9_floorMod_7cf53, Cond.static yJ9_floorMod_7cf53]
def wsL_best_r5 : List Cond := [Cond.initialized RJ9, Cond.code yJ9_floorMod_7cf53 cJ9_floorMod_7cf53 3 (some .int), Cond.methodLink RX0 112 yX0_beginDrumming, Cond.instanceMethod yX0_beginDrumming, Cond.selects RX0 yX0_beginDrumming yX0_beginDrumming, Cond.code yX0_beginDrumming cX0_beginDrumming 9 none, Cond.fieldLink RX0 129 "DrumTalk$Village" "drumming" "I", Cond.fieldLink RX0 132 "DrumTalk$Village" "beatsLeft" "I", Cond.fieldLink RX0 139 "DrumTalk$Village" "cliff" "Z", Cond.methodLink RX0 126 yX2_takeFromQueue, Cond.instanceMethod yX2_takeFromQueue, Cond.selects RX2 yX2_takeFromQueue yX2_takeFromQueue, Cond.code yX2_takeFromQueue cX2_takeFromQueue 2 (some .int), Cond.methodLink RX0 93 yX2_distanceTo, Cond.instanceMethod yX2_distanceTo, Cond.selects RX2 yX2_distanceTo yX2_distanceTo, Cond.code yX2_distanceTo cX2_distanceTo 2 (some .int), Cond.methodLink RX2 91 Lib.Math.abs.name, Cond.static Lib.Math.abs.name, Cond.initialized "java/lang/Math", Cond.code Lib.Math.abs.name Lib.Math.abs.code 1 (some .int), Cond.methodLink RX0 97 yX2_isHeardAt, Cond.instanceMethod yX2_isHeardAt, Cond.selects RX2 yX2_isHeardAt yX2_isHeardAt]
def wsL_best_r6 : List Cond := [Cond.code yX2_isHeardAt cX2_isHeardAt 2 (some .boolean), Cond.methodLink RX0 135 yX1_add, Cond.instanceMethod yX1_add, Cond.selects RX1 yX1_add yX1_add, Cond.code yX1_add cX1_add 4 none, Cond.methodLink RX0 116 yX2_drownIfDisturbed, Cond.instanceMethod yX2_drownIfDisturbed, Cond.selects RX2 yX2_drownIfDisturbed yX2_drownIfDisturbed, Cond.code yX2_drownIfDisturbed cX2_drownIfDisturbed 2 none, Cond.methodLink RX2 98 yX1_lasting, Cond.instanceMethod yX1_lasting, Cond.selects RX1 yX1_lasting yX1_lasting, Cond.code yX1_lasting cX1_lasting 4 (some .int), Cond.methodLink RX2 101 yX1_drown, Cond.instanceMethod yX1_drown, Cond.selects RX1 yX1_drown yX1_drown, Cond.code yX1_drown cX1_drown 3 none, Cond.methodLink RX0 119 yX2_endSounds, Cond.instanceMethod yX2_endSounds, Cond.selects RX2 yX2_endSounds yX2_endSounds, Cond.code yX2_endSounds cX2_endSounds 5 (some .int), Cond.fieldLink RX2 105 "DrumTalk$Sounds" "size" "I", Cond.fieldLink RX2 108 "DrumTalk$Sounds" "lastBeats" "[I", Cond.fieldLink RX2 115 "DrumTalk$Sounds" "drowned" "[I"]
def wsL_best_r7 : List Cond := [Cond.fieldLink RX2 117 "DrumTalk$Sounds" "phrases" "[I", Cond.methodLink RX2 111 yX1_move, Cond.instanceMethod yX1_move, Cond.selects RX1 yX1_move yX1_move, Cond.code yX1_move cX1_move 3 none, Cond.methodLink RX2 95 yX2_isKnown, Cond.instanceMethod yX2_isKnown, Cond.selects RX2 yX2_isKnown yX2_isKnown, Cond.code yX2_isKnown cX2_isKnown 2 (some .boolean), Cond.methodLink RX2 120 yX2_takeIn, Cond.instanceMethod yX2_takeIn, Cond.selects RX2 yX2_takeIn yX2_takeIn, Cond.code yX2_takeIn cX2_takeIn 3 none, Cond.methodLink RX0 123 yX2_endDrumBeat, Cond.instanceMethod yX2_endDrumBeat, Cond.selects RX2 yX2_endDrumBeat yX2_endDrumBeat, Cond.code yX2_endDrumBeat cX2_endDrumBeat 1 none, Cond.methodLink RX3 159 yX0_knowersOf, Cond.instanceMethod yX0_knowersOf, Cond.selects RX0 yX0_knowersOf yX0_knowersOf, Cond.code yX0_knowersOf cX0_knowersOf 4 (some .int), Cond.methodLink RX0 89 yX2_isKnown, Cond.methodLink RX3 162 yX3_knowersIfTold, Cond.instanceMethod yX3_knowersIfTold]
def wsL_best_r8 : List Cond := [Cond.selects RX3 yX3_knowersIfTold yX3_knowersIfTold, Cond.code yX3_knowersIfTold cX3_knowersIfTold 5 (some .int), Cond.fieldLink RX3 152 "DrumTalk$Land" "villages" "[LDrumTalk$Village;", Cond.fieldLink RX3 95 "DrumTalk$Village" "queued" "I", Cond.fieldLink RX3 100 "DrumTalk$Land" "beat" "I", Cond.methodLink RX3 103 yX2_takeIn]
def wsL_best : List Cond := .codeWith yL_best cL_best 5 (some .int) [(0, 10, 13, 21)] :: ((wsL_best_r1 ++ (wsL_best_r2 ++ (wsL_best_r3 ++ (wsL_best_r4 ++ (wsL_best_r5 ++ (wsL_best_r6 ++ (wsL_best_r7 ++ wsL_best_r8))))))) ++ wsX30 ++ wsX00 ++ wsX20 ++ wsX10 ++ (vx_atS RX3 111 "java/lang/IndexOutOfBoundsException" ["java/lang/RuntimeException", "java/lang/Exception"]).filter goodWord)
def wsL_larger_r1 : List Cond := [Cond.classLink RL 13 "java/lang/IllegalArgumentException", Cond.methodLink RL 64 yX3_larger, Cond.instanceMethod yX3_larger, Cond.selects RX3 yX3_larger yX3_larger, Cond.initialized RX3, Cond.code yX3_larger cX3_larger 6 (some .int), Cond.classLink RX3 26 "java/lang/IllegalArgumentException", Cond.initialized "java/lang/IllegalArgumentException", Cond.fieldLink RX3 16 "DrumTalk" "trial" "LDrumTalk$Land;", Cond.fieldLink RX3 12 "DrumTalk" "land" "LDrumTalk$Land;", Cond.fieldLink RX3 33 "DrumTalk$Land" "villageCount" "I", Cond.fieldLink RX3 152 "DrumTalk$Land" "villages" "[LDrumTalk$Village;", Cond.fieldLink RX3 56 "DrumTalk$Village" "drum" "I", Cond.methodLink RX3 148 yX0_copy, Cond.instanceMethod yX0_copy, Cond.selects RX0 yX0_copy yX0_copy, Cond.initialized RX0, Cond.code yX0_copy cX0_copy 3 none, Cond.fieldLink RX0 25 "DrumTalk$Land" "villageCount" "I", Cond.fieldLink RX0 11 "DrumTalk$Land" "villages" "[LDrumTalk$Village;", Cond.fieldLink RX0 17 "DrumTalk$Land" "tones" "[I", Cond.methodLink RX0 33 arraycopyName, Cond.native arraycopyName, Cond.static arraycopyName]
def wsL_larger_r2 : List Cond := [Cond.initialized "java/lang/System", Cond.fieldLink RX0 21 "DrumTalk$Land" "toneCounts" "[I", Cond.fieldLink RX0 39 "DrumTalk$Land" "phraseCount" "I", Cond.fieldLink RX0 42 "DrumTalk$Land" "beat" "I", Cond.fieldLink RX0 45 "DrumTalk$Land" "drummings" "I", Cond.methodLink RX0 29 yX2_copy, Cond.instanceMethod yX2_copy, Cond.selects RX2 yX2_copy yX2_copy, Cond.initialized RX2, Cond.code yX2_copy cX2_copy 2 none, Cond.fieldLink RX2 41 "DrumTalk$Village" "x" "I", Cond.fieldLink RX2 44 "DrumTalk$Village" "y" "I", Cond.fieldLink RX2 9 "DrumTalk$Village" "drum" "I", Cond.fieldLink RX2 47 "DrumTalk$Village" "cliff" "Z", Cond.fieldLink RX2 51 "DrumTalk$Village" "awakeFrom" "I", Cond.fieldLink RX2 15 "DrumTalk$Village" "awakeBeats" "I", Cond.fieldLink RX2 18 "DrumTalk$Village" "drumming" "I", Cond.fieldLink RX2 54 "DrumTalk$Village" "beatsLeft" "I", Cond.fieldLink RX2 21 "DrumTalk$Village" "queue" "[I", Cond.methodLink RX2 57 arraycopyName, Cond.fieldLink RX2 63 "DrumTalk$Village" "queued" "I", Cond.fieldLink RX2 25 "DrumTalk$Village" "knownSince" "[I", Cond.fieldLink RX2 31 "DrumTalk$Village" "inTheAir" "LDrumTalk$Sounds;", Cond.fieldLink RX2 70 "DrumTalk$Village" "drowned" "I"]
def wsL_larger_r3 : List Cond := [Cond.methodLink RX2 66 yX1_copy, Cond.instanceMethod yX1_copy, Cond.selects RX1 yX1_copy yX1_copy, Cond.initialized RX1, Cond.code yX1_copy cX1_copy 2 none, Cond.fieldLink RX1 9 "DrumTalk$Sounds" "phrases" "[I", Cond.fieldLink RX1 24 "DrumTalk$Sounds" "size" "I", Cond.methodLink RX1 28 arraycopyName, Cond.fieldLink RX1 15 "DrumTalk$Sounds" "firstBeats" "[I", Cond.fieldLink RX1 18 "DrumTalk$Sounds" "lastBeats" "[I", Cond.fieldLink RX1 21 "DrumTalk$Sounds" "drowned" "[I", Cond.methodLink RX3 145 yX0_letGo, Cond.instanceMethod yX0_letGo, Cond.selects RX0 yX0_letGo yX0_letGo, Cond.code yX0_letGo cX0_letGo 4 (some .int), Cond.methodLink RX0 100 yX0_isQuiet, Cond.instanceMethod yX0_isQuiet, Cond.selects RX0 yX0_isQuiet yX0_isQuiet, Cond.code yX0_isQuiet cX0_isQuiet 3 (some .boolean), Cond.fieldLink RX0 106 "DrumTalk$Village" "queued" "I", Cond.fieldLink RX0 74 "DrumTalk$Village" "inTheAir" "LDrumTalk$Sounds;", Cond.fieldLink RX0 78 "DrumTalk$Sounds" "size" "I", Cond.methodLink RX0 70 yX2_isDrumming, Cond.instanceMethod yX2_isDrumming]
def wsL_larger_r4 : List Cond := [Cond.selects RX2 yX2_isDrumming yX2_isDrumming, Cond.code yX2_isDrumming cX2_isDrumming 1 (some .boolean), Cond.methodLink RX0 103 yX0_goBeat, Cond.instanceMethod yX0_goBeat, Cond.selects RX0 yX0_goBeat yX0_goBeat, Cond.code yX0_goBeat cX0_goBeat 3 (some .int), Cond.methodLink RX0 109 yX2_isReady, Cond.instanceMethod yX2_isReady, Cond.selects RX2 yX2_isReady yX2_isReady, Cond.code yX2_isReady cX2_isReady 2 (some .boolean), Cond.methodLink RX2 87 yX2_isDrumming, Cond.methodLink RX2 73 yX2_isAwake, Cond.instanceMethod yX2_isAwake, Cond.selects RX2 yX2_isAwake yX2_isAwake, Cond.code yX2_isAwake cX2_isAwake 2 (some .boolean), Cond.methodLink RX2 81 yJ9_floorMod_7cf53, Cond.static yJ9_floorMod_7cf53, Cond.initialized RJ9, Cond.code yJ9_floorMod_7cf53 cJ9_floorMod_7cf53 3 (some .int), Cond.methodLink RX0 112 yX0_beginDrumming, Cond.instanceMethod yX0_beginDrumming, Cond.selects RX0 yX0_beginDrumming yX0_beginDrumming, Cond.code yX0_beginDrumming cX0_beginDrumming 9 none, Cond.fieldLink RX0 129 "DrumTalk$Village" "drumming" "I"]
def wsL_larger_r5 : List Cond := [Cond.fieldLink RX0 132 "DrumTalk$Village" "beatsLeft" "I", Cond.fieldLink RX0 139 "DrumTalk$Village" "cliff" "Z", Cond.methodLink RX0 126 yX2_takeFromQueue, Cond.instanceMethod yX2_takeFromQueue, Cond.selects RX2 yX2_takeFromQueue yX2_takeFromQueue, Cond.code yX2_takeFromQueue cX2_takeFromQueue 2 (some .int), Cond.methodLink RX0 93 yX2_distanceTo, Cond.instanceMethod yX2_distanceTo, Cond.selects RX2 yX2_distanceTo yX2_distanceTo, Cond.code yX2_distanceTo cX2_distanceTo 2 (some .int), Cond.methodLink RX2 91 Lib.Math.abs.name, Cond.static Lib.Math.abs.name, Cond.initialized "java/lang/Math", Cond.code Lib.Math.abs.name Lib.Math.abs.code 1 (some .int), Cond.methodLink RX0 97 yX2_isHeardAt, Cond.instanceMethod yX2_isHeardAt, Cond.selects RX2 yX2_isHeardAt yX2_isHeardAt, Cond.code yX2_isHeardAt cX2_isHeardAt 2 (some .boolean), Cond.methodLink RX0 135 yX1_add, Cond.instanceMethod yX1_add, Cond.selects RX1 yX1_add yX1_add, Cond.code yX1_add cX1_add 4 none, Cond.methodLink RX0 116 yX2_drownIfDisturbed, Cond.instanceMethod yX2_drownIfDisturbed]
def wsL_larger_r6 : List Cond := [Cond.selects RX2 yX2_drownIfDisturbed yX2_drownIfDisturbed, Cond.code yX2_drownIfDisturbed cX2_drownIfDisturbed 2 none, Cond.methodLink RX2 98 yX1_lasting, Cond.instanceMethod yX1_lasting, Cond.selects RX1 yX1_lasting yX1_lasting, Cond.code yX1_lasting cX1_lasting 4 (some .int), Cond.methodLink RX2 101 yX1_drown, Cond.instanceMethod yX1_drown, Cond.selects RX1 yX1_drown yX1_drown, Cond.code yX1_drown cX1_drown 3 none, Cond.methodLink RX0 119 yX2_endSounds, Cond.instanceMethod yX2_endSounds, Cond.selects RX2 yX2_endSounds yX2_endSounds, Cond.code yX2_endSounds cX2_endSounds 5 (some .int), Cond.fieldLink RX2 105 "DrumTalk$Sounds" "size" "I", Cond.fieldLink RX2 108 "DrumTalk$Sounds" "lastBeats" "[I", Cond.fieldLink RX2 115 "DrumTalk$Sounds" "drowned" "[I", Cond.fieldLink RX2 117 "DrumTalk$Sounds" "phrases" "[I", Cond.methodLink RX2 111 yX1_move, Cond.instanceMethod yX1_move, Cond.selects RX1 yX1_move yX1_move, Cond.code yX1_move cX1_move 3 none, Cond.methodLink RX2 95 yX2_isKnown, Cond.instanceMethod yX2_isKnown]
def wsL_larger_r7 : List Cond := [Cond.selects RX2 yX2_isKnown yX2_isKnown, Cond.code yX2_isKnown cX2_isKnown 2 (some .boolean), Cond.methodLink RX2 120 yX2_takeIn, Cond.instanceMethod yX2_takeIn, Cond.selects RX2 yX2_takeIn yX2_takeIn, Cond.code yX2_takeIn cX2_takeIn 3 none, Cond.methodLink RX0 123 yX2_endDrumBeat, Cond.instanceMethod yX2_endDrumBeat, Cond.selects RX2 yX2_endDrumBeat yX2_endDrumBeat, Cond.code yX2_endDrumBeat cX2_endDrumBeat 1 none, Cond.methodLink RX3 167 yX0_knownPairs, Cond.instanceMethod yX0_knownPairs, Cond.selects RX0 yX0_knownPairs yX0_knownPairs, Cond.code yX0_knownPairs cX0_knownPairs 3 (some .int), Cond.methodLink RX0 86 yX2_phrasesKnown, Cond.instanceMethod yX2_phrasesKnown, Cond.selects RX2 yX2_phrasesKnown yX2_phrasesKnown, Cond.code yX2_phrasesKnown cX2_phrasesKnown 3 (some .int), Cond.methodLink RX3 171 yX3_pairsIfLarger, Cond.instanceMethod yX3_pairsIfLarger, Cond.selects RX3 yX3_pairsIfLarger yX3_pairsIfLarger, Cond.code yX3_pairsIfLarger cX3_pairsIfLarger 3 (some .int)]
def wsL_larger : List Cond := .codeWith yL_larger cL_larger 4 (some .int) [(0, 9, 12, 13)] :: ((wsL_larger_r1 ++ (wsL_larger_r2 ++ (wsL_larger_r3 ++ (wsL_larger_r4 ++ (wsL_larger_r5 ++ (wsL_larger_r6 ++ wsL_larger_r7)))))) ++ wsX30 ++ wsX00 ++ wsX20 ++ wsX10 ++ (vx_atS RX3 30 "java/lang/IllegalArgumentException" ["java/lang/RuntimeException", "java/lang/Exception"]).filter goodWord)
abbrev vwCl : List vw_C := [(RX0, TX0, 7), (RX1, TX1, 5), (RX2, TX2, 13), (RX3, TX3, 2), (RX4, TX4, 16), (RX5, TX5, 12)]
end
section
theorem dX1_init_0 : decode cX1_init 0 = .ok (.aload_n 0, 1) := by decide +kernel
theorem dX1_init_1 : decode cX1_init 1 = .ok (.invokespecial 3, 3) := by decide +kernel
theorem dX1_init_4 : decode cX1_init 4 = .ok (.aload_n 0, 1) := by decide +kernel
theorem dX1_init_5 : decode cX1_init 5 = .ok (.bipush 112, 2) := by decide +kernel
theorem dX1_init_7 : decode cX1_init 7 = .ok (.newarray .int, 2) := by decide +kernel
theorem dX1_init_9 : decode cX1_init 9 = .ok (.putfield 9, 3) := by decide +kernel
theorem dX1_init_12 : decode cX1_init 12 = .ok (.aload_n 0, 1) := by decide +kernel
theorem dX1_init_13 : decode cX1_init 13 = .ok (.bipush 112, 2) := by decide +kernel
theorem dX1_init_15 : decode cX1_init 15 = .ok (.newarray .int, 2) := by decide +kernel
theorem dX1_init_17 : decode cX1_init 17 = .ok (.putfield 15, 3) := by decide +kernel
theorem dX1_init_20 : decode cX1_init 20 = .ok (.aload_n 0, 1) := by decide +kernel
theorem dX1_init_21 : decode cX1_init 21 = .ok (.bipush 112, 2) := by decide +kernel
theorem dX1_init_23 : decode cX1_init 23 = .ok (.newarray .int, 2) := by decide +kernel
theorem dX1_init_25 : decode cX1_init 25 = .ok (.putfield 18, 3) := by decide +kernel
theorem dX1_init_28 : decode cX1_init 28 = .ok (.aload_n 0, 1) := by decide +kernel
theorem dX1_init_29 : decode cX1_init 29 = .ok (.bipush 112, 2) := by decide +kernel
theorem dX1_init_31 : decode cX1_init 31 = .ok (.newarray .int, 2) := by decide +kernel
theorem dX1_init_33 : decode cX1_init 33 = .ok (.putfield 21, 3) := by decide +kernel
theorem dX1_init_36 : decode cX1_init 36 = .ok (.return_, 1) := by decide +kernel
theorem dX1_copy_0 : decode cX1_copy 0 = .ok (.aload_n 1, 1) := by decide +kernel
theorem dX1_copy_1 : decode cX1_copy 1 = .ok (.getfield 9, 3) := by decide +kernel
theorem dX1_copy_4 : decode cX1_copy 4 = .ok (.iconst 0, 1) := by decide +kernel
theorem dX1_copy_5 : decode cX1_copy 5 = .ok (.aload_n 0, 1) := by decide +kernel
theorem dX1_copy_6 : decode cX1_copy 6 = .ok (.getfield 9, 3) := by decide +kernel
theorem dX1_copy_9 : decode cX1_copy 9 = .ok (.iconst 0, 1) := by decide +kernel
theorem dX1_copy_10 : decode cX1_copy 10 = .ok (.aload_n 1, 1) := by decide +kernel
theorem dX1_copy_11 : decode cX1_copy 11 = .ok (.getfield 24, 3) := by decide +kernel
theorem dX1_copy_14 : decode cX1_copy 14 = .ok (.invokestatic 28, 3) := by decide +kernel
theorem dX1_copy_17 : decode cX1_copy 17 = .ok (.aload_n 1, 1) := by decide +kernel
theorem dX1_copy_18 : decode cX1_copy 18 = .ok (.getfield 15, 3) := by decide +kernel
theorem dX1_copy_21 : decode cX1_copy 21 = .ok (.iconst 0, 1) := by decide +kernel
theorem dX1_copy_22 : decode cX1_copy 22 = .ok (.aload_n 0, 1) := by decide +kernel
theorem dX1_copy_23 : decode cX1_copy 23 = .ok (.getfield 15, 3) := by decide +kernel
theorem dX1_copy_26 : decode cX1_copy 26 = .ok (.iconst 0, 1) := by decide +kernel
theorem dX1_copy_27 : decode cX1_copy 27 = .ok (.aload_n 1, 1) := by decide +kernel
theorem dX1_copy_28 : decode cX1_copy 28 = .ok (.getfield 24, 3) := by decide +kernel
theorem dX1_copy_31 : decode cX1_copy 31 = .ok (.invokestatic 28, 3) := by decide +kernel
theorem dX1_copy_34 : decode cX1_copy 34 = .ok (.aload_n 1, 1) := by decide +kernel
theorem dX1_copy_35 : decode cX1_copy 35 = .ok (.getfield 18, 3) := by decide +kernel
theorem dX1_copy_38 : decode cX1_copy 38 = .ok (.iconst 0, 1) := by decide +kernel
theorem dX1_copy_39 : decode cX1_copy 39 = .ok (.aload_n 0, 1) := by decide +kernel
theorem dX1_copy_40 : decode cX1_copy 40 = .ok (.getfield 18, 3) := by decide +kernel
theorem dX1_copy_43 : decode cX1_copy 43 = .ok (.iconst 0, 1) := by decide +kernel
theorem dX1_copy_44 : decode cX1_copy 44 = .ok (.aload_n 1, 1) := by decide +kernel
theorem dX1_copy_45 : decode cX1_copy 45 = .ok (.getfield 24, 3) := by decide +kernel
theorem dX1_copy_48 : decode cX1_copy 48 = .ok (.invokestatic 28, 3) := by decide +kernel
theorem dX1_copy_51 : decode cX1_copy 51 = .ok (.aload_n 1, 1) := by decide +kernel
theorem dX1_copy_52 : decode cX1_copy 52 = .ok (.getfield 21, 3) := by decide +kernel
theorem dX1_copy_55 : decode cX1_copy 55 = .ok (.iconst 0, 1) := by decide +kernel
theorem dX1_copy_56 : decode cX1_copy 56 = .ok (.aload_n 0, 1) := by decide +kernel
theorem dX1_copy_57 : decode cX1_copy 57 = .ok (.getfield 21, 3) := by decide +kernel
theorem dX1_copy_60 : decode cX1_copy 60 = .ok (.iconst 0, 1) := by decide +kernel
theorem dX1_copy_61 : decode cX1_copy 61 = .ok (.aload_n 1, 1) := by decide +kernel
theorem dX1_copy_62 : decode cX1_copy 62 = .ok (.getfield 24, 3) := by decide +kernel
theorem dX1_copy_65 : decode cX1_copy 65 = .ok (.invokestatic 28, 3) := by decide +kernel
theorem dX1_copy_68 : decode cX1_copy 68 = .ok (.aload_n 0, 1) := by decide +kernel
theorem dX1_copy_69 : decode cX1_copy 69 = .ok (.aload_n 1, 1) := by decide +kernel
theorem dX1_copy_70 : decode cX1_copy 70 = .ok (.getfield 24, 3) := by decide +kernel
theorem dX1_copy_73 : decode cX1_copy 73 = .ok (.putfield 24, 3) := by decide +kernel
theorem dX1_copy_76 : decode cX1_copy 76 = .ok (.return_, 1) := by decide +kernel
theorem dX1_add_0 : decode cX1_add 0 = .ok (.aload_n 0, 1) := by decide +kernel
theorem dX1_add_1 : decode cX1_add 1 = .ok (.getfield 24, 3) := by decide +kernel
theorem dX1_add_4 : decode cX1_add 4 = .ok (.bipush 112, 2) := by decide +kernel
theorem dX1_add_6 : decode cX1_add 6 = .ok (.if_icmp .lt 4, 3) := by decide +kernel
theorem dX1_add_9 : decode cX1_add 9 = .ok (.return_, 1) := by decide +kernel
theorem dX1_add_10 : decode cX1_add 10 = .ok (.aload_n 0, 1) := by decide +kernel
theorem dX1_add_11 : decode cX1_add 11 = .ok (.getfield 9, 3) := by decide +kernel
theorem dX1_add_14 : decode cX1_add 14 = .ok (.aload_n 0, 1) := by decide +kernel
theorem dX1_add_15 : decode cX1_add 15 = .ok (.getfield 24, 3) := by decide +kernel
theorem dX1_add_18 : decode cX1_add 18 = .ok (.iload_n 1, 1) := by decide +kernel
theorem dX1_add_19 : decode cX1_add 19 = .ok (.iastore, 1) := by decide +kernel
theorem dX1_add_20 : decode cX1_add 20 = .ok (.aload_n 0, 1) := by decide +kernel
theorem dX1_add_21 : decode cX1_add 21 = .ok (.getfield 15, 3) := by decide +kernel
theorem dX1_add_24 : decode cX1_add 24 = .ok (.aload_n 0, 1) := by decide +kernel
theorem dX1_add_25 : decode cX1_add 25 = .ok (.getfield 24, 3) := by decide +kernel
theorem dX1_add_28 : decode cX1_add 28 = .ok (.iload_n 2, 1) := by decide +kernel
theorem dX1_add_29 : decode cX1_add 29 = .ok (.iastore, 1) := by decide +kernel
theorem dX1_add_30 : decode cX1_add 30 = .ok (.aload_n 0, 1) := by decide +kernel
theorem dX1_add_31 : decode cX1_add 31 = .ok (.getfield 18, 3) := by decide +kernel
theorem dX1_add_34 : decode cX1_add 34 = .ok (.aload_n 0, 1) := by decide +kernel
theorem dX1_add_35 : decode cX1_add 35 = .ok (.getfield 24, 3) := by decide +kernel
theorem dX1_add_38 : decode cX1_add 38 = .ok (.iload_n 2, 1) := by decide +kernel
theorem dX1_add_39 : decode cX1_add 39 = .ok (.iload_n 3, 1) := by decide +kernel
theorem dX1_add_40 : decode cX1_add 40 = .ok (.iadd, 1) := by decide +kernel
theorem dX1_add_41 : decode cX1_add 41 = .ok (.iconst 1, 1) := by decide +kernel
theorem dX1_add_42 : decode cX1_add 42 = .ok (.isub, 1) := by decide +kernel
theorem dX1_add_43 : decode cX1_add 43 = .ok (.iastore, 1) := by decide +kernel
theorem dX1_add_44 : decode cX1_add 44 = .ok (.aload_n 0, 1) := by decide +kernel
theorem dX1_add_45 : decode cX1_add 45 = .ok (.getfield 21, 3) := by decide +kernel
theorem dX1_add_48 : decode cX1_add 48 = .ok (.aload_n 0, 1) := by decide +kernel
theorem dX1_add_49 : decode cX1_add 49 = .ok (.getfield 24, 3) := by decide +kernel
theorem dX1_add_52 : decode cX1_add 52 = .ok (.iconst 0, 1) := by decide +kernel
theorem dX1_add_53 : decode cX1_add 53 = .ok (.iastore, 1) := by decide +kernel
theorem dX1_add_54 : decode cX1_add 54 = .ok (.aload_n 0, 1) := by decide +kernel
theorem dX1_add_55 : decode cX1_add 55 = .ok (.dup, 1) := by decide +kernel
theorem dX1_add_56 : decode cX1_add 56 = .ok (.getfield 24, 3) := by decide +kernel
theorem dX1_add_59 : decode cX1_add 59 = .ok (.iconst 1, 1) := by decide +kernel
theorem dX1_add_60 : decode cX1_add 60 = .ok (.iadd, 1) := by decide +kernel
theorem dX1_add_61 : decode cX1_add 61 = .ok (.putfield 24, 3) := by decide +kernel
theorem dX1_add_64 : decode cX1_add 64 = .ok (.return_, 1) := by decide +kernel
theorem dX1_move_0 : decode cX1_move 0 = .ok (.iload_n 2, 1) := by decide +kernel
theorem dX1_move_1 : decode cX1_move 1 = .ok (.ifCond .lt 16, 3) := by decide +kernel
theorem dX1_move_4 : decode cX1_move 4 = .ok (.iload_n 2, 1) := by decide +kernel
theorem dX1_move_5 : decode cX1_move 5 = .ok (.iload_n 1, 1) := by decide +kernel
theorem dX1_move_6 : decode cX1_move 6 = .ok (.if_icmp .ge 11, 3) := by decide +kernel
theorem dX1_move_9 : decode cX1_move 9 = .ok (.iload_n 1, 1) := by decide +kernel
theorem dX1_move_10 : decode cX1_move 10 = .ok (.aload_n 0, 1) := by decide +kernel
theorem dX1_move_11 : decode cX1_move 11 = .ok (.getfield 24, 3) := by decide +kernel
theorem dX1_move_14 : decode cX1_move 14 = .ok (.if_icmp .lt 4, 3) := by decide +kernel
theorem dX1_move_17 : decode cX1_move 17 = .ok (.return_, 1) := by decide +kernel
theorem dX1_move_18 : decode cX1_move 18 = .ok (.aload_n 0, 1) := by decide +kernel
theorem dX1_move_19 : decode cX1_move 19 = .ok (.getfield 9, 3) := by decide +kernel
theorem dX1_move_22 : decode cX1_move 22 = .ok (.iload_n 2, 1) := by decide +kernel
theorem dX1_move_23 : decode cX1_move 23 = .ok (.aload_n 0, 1) := by decide +kernel
theorem dX1_move_24 : decode cX1_move 24 = .ok (.getfield 9, 3) := by decide +kernel
theorem dX1_move_27 : decode cX1_move 27 = .ok (.iload_n 1, 1) := by decide +kernel
theorem dX1_move_28 : decode cX1_move 28 = .ok (.iaload, 1) := by decide +kernel
theorem dX1_move_29 : decode cX1_move 29 = .ok (.iastore, 1) := by decide +kernel
theorem dX1_move_30 : decode cX1_move 30 = .ok (.aload_n 0, 1) := by decide +kernel
theorem dX1_move_31 : decode cX1_move 31 = .ok (.getfield 15, 3) := by decide +kernel
theorem dX1_move_34 : decode cX1_move 34 = .ok (.iload_n 2, 1) := by decide +kernel
theorem dX1_move_35 : decode cX1_move 35 = .ok (.aload_n 0, 1) := by decide +kernel
theorem dX1_move_36 : decode cX1_move 36 = .ok (.getfield 15, 3) := by decide +kernel
theorem dX1_move_39 : decode cX1_move 39 = .ok (.iload_n 1, 1) := by decide +kernel
theorem dX1_move_40 : decode cX1_move 40 = .ok (.iaload, 1) := by decide +kernel
theorem dX1_move_41 : decode cX1_move 41 = .ok (.iastore, 1) := by decide +kernel
theorem dX1_move_42 : decode cX1_move 42 = .ok (.aload_n 0, 1) := by decide +kernel
theorem dX1_move_43 : decode cX1_move 43 = .ok (.getfield 18, 3) := by decide +kernel
theorem dX1_move_46 : decode cX1_move 46 = .ok (.iload_n 2, 1) := by decide +kernel
theorem dX1_move_47 : decode cX1_move 47 = .ok (.aload_n 0, 1) := by decide +kernel
theorem dX1_move_48 : decode cX1_move 48 = .ok (.getfield 18, 3) := by decide +kernel
theorem dX1_move_51 : decode cX1_move 51 = .ok (.iload_n 1, 1) := by decide +kernel
theorem dX1_move_52 : decode cX1_move 52 = .ok (.iaload, 1) := by decide +kernel
theorem dX1_move_53 : decode cX1_move 53 = .ok (.iastore, 1) := by decide +kernel
theorem dX1_move_54 : decode cX1_move 54 = .ok (.aload_n 0, 1) := by decide +kernel
theorem dX1_move_55 : decode cX1_move 55 = .ok (.getfield 21, 3) := by decide +kernel
theorem dX1_move_58 : decode cX1_move 58 = .ok (.iload_n 2, 1) := by decide +kernel
theorem dX1_move_59 : decode cX1_move 59 = .ok (.aload_n 0, 1) := by decide +kernel
theorem dX1_move_60 : decode cX1_move 60 = .ok (.getfield 21, 3) := by decide +kernel
theorem dX1_move_63 : decode cX1_move 63 = .ok (.iload_n 1, 1) := by decide +kernel
theorem dX1_move_64 : decode cX1_move 64 = .ok (.iaload, 1) := by decide +kernel
theorem dX1_move_65 : decode cX1_move 65 = .ok (.iastore, 1) := by decide +kernel
theorem dX1_move_66 : decode cX1_move 66 = .ok (.return_, 1) := by decide +kernel
theorem dX1_lasting_0 : decode cX1_lasting 0 = .ok (.iconst 0, 1) := by decide +kernel
theorem dX1_lasting_1 : decode cX1_lasting 1 = .ok (.istore_n 2, 1) := by decide +kernel
theorem dX1_lasting_2 : decode cX1_lasting 2 = .ok (.iconst 0, 1) := by decide +kernel
theorem dX1_lasting_3 : decode cX1_lasting 3 = .ok (.istore_n 3, 1) := by decide +kernel
theorem dX1_lasting_4 : decode cX1_lasting 4 = .ok (.iload_n 3, 1) := by decide +kernel
theorem dX1_lasting_5 : decode cX1_lasting 5 = .ok (.aload_n 0, 1) := by decide +kernel
theorem dX1_lasting_6 : decode cX1_lasting 6 = .ok (.getfield 24, 3) := by decide +kernel
theorem dX1_lasting_9 : decode cX1_lasting 9 = .ok (.if_icmp .ge 22, 3) := by decide +kernel
theorem dX1_lasting_12 : decode cX1_lasting 12 = .ok (.aload_n 0, 1) := by decide +kernel
theorem dX1_lasting_13 : decode cX1_lasting 13 = .ok (.getfield 15, 3) := by decide +kernel
theorem dX1_lasting_16 : decode cX1_lasting 16 = .ok (.iload_n 3, 1) := by decide +kernel
theorem dX1_lasting_17 : decode cX1_lasting 17 = .ok (.iaload, 1) := by decide +kernel
theorem dX1_lasting_18 : decode cX1_lasting 18 = .ok (.iload_n 1, 1) := by decide +kernel
theorem dX1_lasting_19 : decode cX1_lasting 19 = .ok (.if_icmp .gt 6, 3) := by decide +kernel
theorem dX1_lasting_22 : decode cX1_lasting 22 = .ok (.iinc 2 1, 3) := by decide +kernel
theorem dX1_lasting_25 : decode cX1_lasting 25 = .ok (.iinc 3 1, 3) := by decide +kernel
theorem dX1_lasting_28 : decode cX1_lasting 28 = .ok (.goto (-24), 3) := by decide +kernel
theorem dX1_lasting_31 : decode cX1_lasting 31 = .ok (.iload_n 2, 1) := by decide +kernel
theorem dX1_lasting_32 : decode cX1_lasting 32 = .ok (.ireturn, 1) := by decide +kernel
theorem dX1_drown_0 : decode cX1_drown 0 = .ok (.iconst 0, 1) := by decide +kernel
theorem dX1_drown_1 : decode cX1_drown 1 = .ok (.istore_n 2, 1) := by decide +kernel
theorem dX1_drown_2 : decode cX1_drown 2 = .ok (.iload_n 2, 1) := by decide +kernel
theorem dX1_drown_3 : decode cX1_drown 3 = .ok (.aload_n 0, 1) := by decide +kernel
theorem dX1_drown_4 : decode cX1_drown 4 = .ok (.getfield 24, 3) := by decide +kernel
theorem dX1_drown_7 : decode cX1_drown 7 = .ok (.if_icmp .ge 26, 3) := by decide +kernel
theorem dX1_drown_10 : decode cX1_drown 10 = .ok (.aload_n 0, 1) := by decide +kernel
theorem dX1_drown_11 : decode cX1_drown 11 = .ok (.getfield 15, 3) := by decide +kernel
theorem dX1_drown_14 : decode cX1_drown 14 = .ok (.iload_n 2, 1) := by decide +kernel
theorem dX1_drown_15 : decode cX1_drown 15 = .ok (.iaload, 1) := by decide +kernel
theorem dX1_drown_16 : decode cX1_drown 16 = .ok (.iload_n 1, 1) := by decide +kernel
theorem dX1_drown_17 : decode cX1_drown 17 = .ok (.if_icmp .gt 10, 3) := by decide +kernel
theorem dX1_drown_20 : decode cX1_drown 20 = .ok (.aload_n 0, 1) := by decide +kernel
theorem dX1_drown_21 : decode cX1_drown 21 = .ok (.getfield 21, 3) := by decide +kernel
theorem dX1_drown_24 : decode cX1_drown 24 = .ok (.iload_n 2, 1) := by decide +kernel
theorem dX1_drown_25 : decode cX1_drown 25 = .ok (.iconst 1, 1) := by decide +kernel
theorem dX1_drown_26 : decode cX1_drown 26 = .ok (.iastore, 1) := by decide +kernel
theorem dX1_drown_27 : decode cX1_drown 27 = .ok (.iinc 2 1, 3) := by decide +kernel
theorem dX1_drown_30 : decode cX1_drown 30 = .ok (.goto (-28), 3) := by decide +kernel
theorem dX1_drown_33 : decode cX1_drown 33 = .ok (.return_, 1) := by decide +kernel
end
section
set_option maxRecDepth 20000 in
theorem ggX2_init_X1_init : GoodIn wsX2_init wsX1_init := goodIn_r _ [15, 16, 2, 3, 7, 17, 18, 19, 20, 38, 39, 40, 41, 42] (by decide +kernel) (by decide +kernel)
set_option maxRecDepth 20000 in
theorem gX2_init_X1_init_n30 : GoodIn wsX2_init (wsX1_init) := ggX2_init_X1_init
set_option maxRecDepth 20000 in
theorem ggX2_init_J7_fill_53178 : GoodIn wsX2_init wsJ7_fill_53178 := goodIn_r _ [24] (by decide +kernel) (by decide +kernel)
set_option maxRecDepth 20000 in
theorem gX2_init_J7_fill_53178 : GoodIn wsX2_init (va_wsS RX2 35 yJ7_fill_53178 wsJ7_fill_53178) := goodIn_app (goodIn_of _ (by decide +kernel)) ggX2_init_J7_fill_53178
theorem dX2_init_0 : decode cX2_init 0 = .ok (.aload_n 0, 1) := by decide +kernel
theorem dX2_init_1 : decode cX2_init 1 = .ok (.invokespecial 3, 3) := by decide +kernel
theorem dX2_init_4 : decode cX2_init 4 = .ok (.aload_n 0, 1) := by decide +kernel
theorem dX2_init_5 : decode cX2_init 5 = .ok (.iconst 1, 1) := by decide +kernel
theorem dX2_init_6 : decode cX2_init 6 = .ok (.putfield 9, 3) := by decide +kernel
theorem dX2_init_9 : decode cX2_init 9 = .ok (.aload_n 0, 1) := by decide +kernel
theorem dX2_init_10 : decode cX2_init 10 = .ok (.bipush 24, 2) := by decide +kernel
theorem dX2_init_12 : decode cX2_init 12 = .ok (.putfield 15, 3) := by decide +kernel
theorem dX2_init_15 : decode cX2_init 15 = .ok (.aload_n 0, 1) := by decide +kernel
theorem dX2_init_16 : decode cX2_init 16 = .ok (.iconst (-1), 1) := by decide +kernel
theorem dX2_init_17 : decode cX2_init 17 = .ok (.putfield 18, 3) := by decide +kernel
theorem dX2_init_20 : decode cX2_init 20 = .ok (.aload_n 0, 1) := by decide +kernel
theorem dX2_init_21 : decode cX2_init 21 = .ok (.iconst 5, 1) := by decide +kernel
theorem dX2_init_22 : decode cX2_init 22 = .ok (.newarray .int, 2) := by decide +kernel
theorem dX2_init_24 : decode cX2_init 24 = .ok (.putfield 21, 3) := by decide +kernel
theorem dX2_init_27 : decode cX2_init 27 = .ok (.aload_n 0, 1) := by decide +kernel
theorem dX2_init_28 : decode cX2_init 28 = .ok (.bipush 12, 2) := by decide +kernel
theorem dX2_init_30 : decode cX2_init 30 = .ok (.newarray .int, 2) := by decide +kernel
theorem dX2_init_32 : decode cX2_init 32 = .ok (.putfield 25, 3) := by decide +kernel
theorem dX2_init_35 : decode cX2_init 35 = .ok (.aload_n 0, 1) := by decide +kernel
theorem dX2_init_36 : decode cX2_init 36 = .ok (.new 28, 3) := by decide +kernel
theorem dX2_init_39 : decode cX2_init 39 = .ok (.dup, 1) := by decide +kernel
theorem dX2_init_40 : decode cX2_init 40 = .ok (.invokespecial 30, 3) := by decide +kernel
theorem dX2_init_43 : decode cX2_init 43 = .ok (.putfield 31, 3) := by decide +kernel
theorem dX2_init_46 : decode cX2_init 46 = .ok (.aload_n 0, 1) := by decide +kernel
theorem dX2_init_47 : decode cX2_init 47 = .ok (.getfield 25, 3) := by decide +kernel
theorem dX2_init_50 : decode cX2_init 50 = .ok (.iconst (-1), 1) := by decide +kernel
theorem dX2_init_51 : decode cX2_init 51 = .ok (.invokestatic 35, 3) := by decide +kernel
theorem dX2_init_54 : decode cX2_init 54 = .ok (.return_, 1) := by decide +kernel
set_option maxRecDepth 20000 in
theorem ggX2_copy_X1_copy : GoodIn wsX2_copy wsX1_copy := goodIn_r _ [22, 23, 24, 25, 11, 12, 13, 26, 27, 28, 42, 43, 44, 45, 46] (by decide +kernel) (by decide +kernel)
set_option maxRecDepth 20000 in
theorem gX2_copy_X1_copy : GoodIn wsX2_copy (wsV RX2 66 RX1 yX1_copy wsX1_copy) := goodIn_app (goodIn_of _ (by decide +kernel)) ggX2_copy_X1_copy
theorem dX2_copy_0 : decode cX2_copy 0 = .ok (.aload_n 0, 1) := by decide +kernel
theorem dX2_copy_1 : decode cX2_copy 1 = .ok (.aload_n 1, 1) := by decide +kernel
theorem dX2_copy_2 : decode cX2_copy 2 = .ok (.getfield 41, 3) := by decide +kernel
theorem dX2_copy_5 : decode cX2_copy 5 = .ok (.putfield 41, 3) := by decide +kernel
theorem dX2_copy_8 : decode cX2_copy 8 = .ok (.aload_n 0, 1) := by decide +kernel
theorem dX2_copy_9 : decode cX2_copy 9 = .ok (.aload_n 1, 1) := by decide +kernel
theorem dX2_copy_10 : decode cX2_copy 10 = .ok (.getfield 44, 3) := by decide +kernel
theorem dX2_copy_13 : decode cX2_copy 13 = .ok (.putfield 44, 3) := by decide +kernel
theorem dX2_copy_16 : decode cX2_copy 16 = .ok (.aload_n 0, 1) := by decide +kernel
theorem dX2_copy_17 : decode cX2_copy 17 = .ok (.aload_n 1, 1) := by decide +kernel
theorem dX2_copy_18 : decode cX2_copy 18 = .ok (.getfield 9, 3) := by decide +kernel
theorem dX2_copy_21 : decode cX2_copy 21 = .ok (.putfield 9, 3) := by decide +kernel
theorem dX2_copy_24 : decode cX2_copy 24 = .ok (.aload_n 0, 1) := by decide +kernel
theorem dX2_copy_25 : decode cX2_copy 25 = .ok (.aload_n 1, 1) := by decide +kernel
theorem dX2_copy_26 : decode cX2_copy 26 = .ok (.getfield 47, 3) := by decide +kernel
theorem dX2_copy_29 : decode cX2_copy 29 = .ok (.putfield 47, 3) := by decide +kernel
theorem dX2_copy_32 : decode cX2_copy 32 = .ok (.aload_n 0, 1) := by decide +kernel
theorem dX2_copy_33 : decode cX2_copy 33 = .ok (.aload_n 1, 1) := by decide +kernel
theorem dX2_copy_34 : decode cX2_copy 34 = .ok (.getfield 51, 3) := by decide +kernel
theorem dX2_copy_37 : decode cX2_copy 37 = .ok (.putfield 51, 3) := by decide +kernel
theorem dX2_copy_40 : decode cX2_copy 40 = .ok (.aload_n 0, 1) := by decide +kernel
theorem dX2_copy_41 : decode cX2_copy 41 = .ok (.aload_n 1, 1) := by decide +kernel
theorem dX2_copy_42 : decode cX2_copy 42 = .ok (.getfield 15, 3) := by decide +kernel
theorem dX2_copy_45 : decode cX2_copy 45 = .ok (.putfield 15, 3) := by decide +kernel
theorem dX2_copy_48 : decode cX2_copy 48 = .ok (.aload_n 0, 1) := by decide +kernel
theorem dX2_copy_49 : decode cX2_copy 49 = .ok (.aload_n 1, 1) := by decide +kernel
theorem dX2_copy_50 : decode cX2_copy 50 = .ok (.getfield 18, 3) := by decide +kernel
theorem dX2_copy_53 : decode cX2_copy 53 = .ok (.putfield 18, 3) := by decide +kernel
theorem dX2_copy_56 : decode cX2_copy 56 = .ok (.aload_n 0, 1) := by decide +kernel
theorem dX2_copy_57 : decode cX2_copy 57 = .ok (.aload_n 1, 1) := by decide +kernel
theorem dX2_copy_58 : decode cX2_copy 58 = .ok (.getfield 54, 3) := by decide +kernel
theorem dX2_copy_61 : decode cX2_copy 61 = .ok (.putfield 54, 3) := by decide +kernel
theorem dX2_copy_64 : decode cX2_copy 64 = .ok (.aload_n 1, 1) := by decide +kernel
theorem dX2_copy_65 : decode cX2_copy 65 = .ok (.getfield 21, 3) := by decide +kernel
theorem dX2_copy_68 : decode cX2_copy 68 = .ok (.iconst 0, 1) := by decide +kernel
theorem dX2_copy_69 : decode cX2_copy 69 = .ok (.aload_n 0, 1) := by decide +kernel
theorem dX2_copy_70 : decode cX2_copy 70 = .ok (.getfield 21, 3) := by decide +kernel
theorem dX2_copy_73 : decode cX2_copy 73 = .ok (.iconst 0, 1) := by decide +kernel
theorem dX2_copy_74 : decode cX2_copy 74 = .ok (.iconst 5, 1) := by decide +kernel
theorem dX2_copy_75 : decode cX2_copy 75 = .ok (.invokestatic 57, 3) := by decide +kernel
theorem dX2_copy_78 : decode cX2_copy 78 = .ok (.aload_n 0, 1) := by decide +kernel
theorem dX2_copy_79 : decode cX2_copy 79 = .ok (.aload_n 1, 1) := by decide +kernel
theorem dX2_copy_80 : decode cX2_copy 80 = .ok (.getfield 63, 3) := by decide +kernel
theorem dX2_copy_83 : decode cX2_copy 83 = .ok (.putfield 63, 3) := by decide +kernel
theorem dX2_copy_86 : decode cX2_copy 86 = .ok (.aload_n 1, 1) := by decide +kernel
theorem dX2_copy_87 : decode cX2_copy 87 = .ok (.getfield 25, 3) := by decide +kernel
theorem dX2_copy_90 : decode cX2_copy 90 = .ok (.iconst 0, 1) := by decide +kernel
theorem dX2_copy_91 : decode cX2_copy 91 = .ok (.aload_n 0, 1) := by decide +kernel
theorem dX2_copy_92 : decode cX2_copy 92 = .ok (.getfield 25, 3) := by decide +kernel
theorem dX2_copy_95 : decode cX2_copy 95 = .ok (.iconst 0, 1) := by decide +kernel
theorem dX2_copy_96 : decode cX2_copy 96 = .ok (.bipush 12, 2) := by decide +kernel
theorem dX2_copy_98 : decode cX2_copy 98 = .ok (.invokestatic 57, 3) := by decide +kernel
theorem dX2_copy_101 : decode cX2_copy 101 = .ok (.aload_n 0, 1) := by decide +kernel
theorem dX2_copy_102 : decode cX2_copy 102 = .ok (.getfield 31, 3) := by decide +kernel
theorem dX2_copy_105 : decode cX2_copy 105 = .ok (.aload_n 1, 1) := by decide +kernel
theorem dX2_copy_106 : decode cX2_copy 106 = .ok (.getfield 31, 3) := by decide +kernel
theorem dX2_copy_109 : decode cX2_copy 109 = .ok (.invokevirtual 66, 3) := by decide +kernel
theorem dX2_copy_112 : decode cX2_copy 112 = .ok (.aload_n 0, 1) := by decide +kernel
theorem dX2_copy_113 : decode cX2_copy 113 = .ok (.aload_n 1, 1) := by decide +kernel
theorem dX2_copy_114 : decode cX2_copy 114 = .ok (.getfield 70, 3) := by decide +kernel
theorem dX2_copy_117 : decode cX2_copy 117 = .ok (.putfield 70, 3) := by decide +kernel
theorem dX2_copy_120 : decode cX2_copy 120 = .ok (.return_, 1) := by decide +kernel
set_option maxRecDepth 20000 in
theorem ggX2_figure_X2_isAwake : GoodIn wsX2_figure wsX2_isAwake := goodIn_r _ [13, 14, 15, 16, 17, 18, 19, 29, 30, 31, 32, 33, 34, 35, 36, 37, 38, 39, 40, 41] (by decide +kernel) (by decide +kernel)
set_option maxRecDepth 20000 in
theorem gX2_figure_X2_isAwake : GoodIn wsX2_figure (wsV RX2 73 RX2 yX2_isAwake wsX2_isAwake) := goodIn_app (goodIn_of _ (by decide +kernel)) ggX2_figure_X2_isAwake
set_option maxRecDepth 20000 in
theorem ggX2_figure_X2_phrasesKnown : GoodIn wsX2_figure wsX2_phrasesKnown := goodIn_r _ [23, 24, 25, 26, 12, 27, 28, 29, 30, 31, 32, 33, 34, 35, 36, 37, 38, 39, 40, 41] (by decide +kernel) (by decide +kernel)
set_option maxRecDepth 20000 in
theorem gX2_figure_X2_phrasesKnown : GoodIn wsX2_figure (wsV RX2 77 RX2 yX2_phrasesKnown wsX2_phrasesKnown) := goodIn_app (goodIn_of _ (by decide +kernel)) ggX2_figure_X2_phrasesKnown
theorem dX2_figure_0 : decode cX2_figure 0 = .ok (.iload_n 1, 1) := by decide +kernel
theorem dX2_figure_1 : decode cX2_figure 1 = .ok (.tableswitch 113 0 8 #[51, 56, 61, 66, 79, 93, 98, 103, 108], 51) := by decide +kernel
theorem dX2_figure_52 : decode cX2_figure 52 = .ok (.aload_n 0, 1) := by decide +kernel
theorem dX2_figure_53 : decode cX2_figure 53 = .ok (.getfield 41, 3) := by decide +kernel
theorem dX2_figure_56 : decode cX2_figure 56 = .ok (.ireturn, 1) := by decide +kernel
theorem dX2_figure_57 : decode cX2_figure 57 = .ok (.aload_n 0, 1) := by decide +kernel
theorem dX2_figure_58 : decode cX2_figure 58 = .ok (.getfield 44, 3) := by decide +kernel
theorem dX2_figure_61 : decode cX2_figure 61 = .ok (.ireturn, 1) := by decide +kernel
theorem dX2_figure_62 : decode cX2_figure 62 = .ok (.aload_n 0, 1) := by decide +kernel
theorem dX2_figure_63 : decode cX2_figure 63 = .ok (.getfield 9, 3) := by decide +kernel
theorem dX2_figure_66 : decode cX2_figure 66 = .ok (.ireturn, 1) := by decide +kernel
theorem dX2_figure_67 : decode cX2_figure 67 = .ok (.aload_n 0, 1) := by decide +kernel
theorem dX2_figure_68 : decode cX2_figure 68 = .ok (.getfield 47, 3) := by decide +kernel
theorem dX2_figure_71 : decode cX2_figure 71 = .ok (.ifCond .eq 7, 3) := by decide +kernel
theorem dX2_figure_74 : decode cX2_figure 74 = .ok (.iconst 1, 1) := by decide +kernel
theorem dX2_figure_75 : decode cX2_figure 75 = .ok (.goto 4, 3) := by decide +kernel
theorem dX2_figure_78 : decode cX2_figure 78 = .ok (.iconst 0, 1) := by decide +kernel
theorem dX2_figure_79 : decode cX2_figure 79 = .ok (.ireturn, 1) := by decide +kernel
theorem dX2_figure_80 : decode cX2_figure 80 = .ok (.aload_n 0, 1) := by decide +kernel
theorem dX2_figure_81 : decode cX2_figure 81 = .ok (.iload_n 2, 1) := by decide +kernel
theorem dX2_figure_82 : decode cX2_figure 82 = .ok (.invokevirtual 73, 3) := by decide +kernel
theorem dX2_figure_85 : decode cX2_figure 85 = .ok (.ifCond .eq 7, 3) := by decide +kernel
theorem dX2_figure_88 : decode cX2_figure 88 = .ok (.iconst 1, 1) := by decide +kernel
theorem dX2_figure_89 : decode cX2_figure 89 = .ok (.goto 4, 3) := by decide +kernel
theorem dX2_figure_92 : decode cX2_figure 92 = .ok (.iconst 0, 1) := by decide +kernel
theorem dX2_figure_93 : decode cX2_figure 93 = .ok (.ireturn, 1) := by decide +kernel
theorem dX2_figure_94 : decode cX2_figure 94 = .ok (.aload_n 0, 1) := by decide +kernel
theorem dX2_figure_95 : decode cX2_figure 95 = .ok (.getfield 18, 3) := by decide +kernel
theorem dX2_figure_98 : decode cX2_figure 98 = .ok (.ireturn, 1) := by decide +kernel
theorem dX2_figure_99 : decode cX2_figure 99 = .ok (.aload_n 0, 1) := by decide +kernel
theorem dX2_figure_100 : decode cX2_figure 100 = .ok (.getfield 54, 3) := by decide +kernel
theorem dX2_figure_103 : decode cX2_figure 103 = .ok (.ireturn, 1) := by decide +kernel
theorem dX2_figure_104 : decode cX2_figure 104 = .ok (.aload_n 0, 1) := by decide +kernel
theorem dX2_figure_105 : decode cX2_figure 105 = .ok (.getfield 63, 3) := by decide +kernel
theorem dX2_figure_108 : decode cX2_figure 108 = .ok (.ireturn, 1) := by decide +kernel
theorem dX2_figure_109 : decode cX2_figure 109 = .ok (.aload_n 0, 1) := by decide +kernel
theorem dX2_figure_110 : decode cX2_figure 110 = .ok (.invokevirtual 77, 3) := by decide +kernel
theorem dX2_figure_113 : decode cX2_figure 113 = .ok (.ireturn, 1) := by decide +kernel
theorem dX2_figure_114 : decode cX2_figure 114 = .ok (.aload_n 0, 1) := by decide +kernel
theorem dX2_figure_115 : decode cX2_figure 115 = .ok (.getfield 70, 3) := by decide +kernel
theorem dX2_figure_118 : decode cX2_figure 118 = .ok (.ireturn, 1) := by decide +kernel
set_option maxRecDepth 20000 in
theorem ggX2_isAwake_J9_floorMod_7cf53 : GoodIn wsX2_isAwake wsJ9_floorMod_7cf53 := goodIn_r _ [6] (by decide +kernel) (by decide +kernel)
set_option maxRecDepth 20000 in
theorem gX2_isAwake_J9_floorMod_7cf53 : GoodIn wsX2_isAwake (va_wsS RX2 81 yJ9_floorMod_7cf53 wsJ9_floorMod_7cf53) := goodIn_app (goodIn_of _ (by decide +kernel)) ggX2_isAwake_J9_floorMod_7cf53
theorem dX2_isAwake_0 : decode cX2_isAwake 0 = .ok (.iload_n 1, 1) := by decide +kernel
theorem dX2_isAwake_1 : decode cX2_isAwake 1 = .ok (.aload_n 0, 1) := by decide +kernel
theorem dX2_isAwake_2 : decode cX2_isAwake 2 = .ok (.getfield 51, 3) := by decide +kernel
theorem dX2_isAwake_5 : decode cX2_isAwake 5 = .ok (.isub, 1) := by decide +kernel
theorem dX2_isAwake_6 : decode cX2_isAwake 6 = .ok (.bipush 24, 2) := by decide +kernel
theorem dX2_isAwake_8 : decode cX2_isAwake 8 = .ok (.invokestatic 81, 3) := by decide +kernel
theorem dX2_isAwake_11 : decode cX2_isAwake 11 = .ok (.aload_n 0, 1) := by decide +kernel
theorem dX2_isAwake_12 : decode cX2_isAwake 12 = .ok (.getfield 15, 3) := by decide +kernel
theorem dX2_isAwake_15 : decode cX2_isAwake 15 = .ok (.if_icmp .ge 7, 3) := by decide +kernel
theorem dX2_isAwake_18 : decode cX2_isAwake 18 = .ok (.iconst 1, 1) := by decide +kernel
theorem dX2_isAwake_19 : decode cX2_isAwake 19 = .ok (.goto 4, 3) := by decide +kernel
theorem dX2_isAwake_22 : decode cX2_isAwake 22 = .ok (.iconst 0, 1) := by decide +kernel
theorem dX2_isAwake_23 : decode cX2_isAwake 23 = .ok (.ireturn, 1) := by decide +kernel
theorem dX2_isDrumming_0 : decode cX2_isDrumming 0 = .ok (.aload_n 0, 1) := by decide +kernel
theorem dX2_isDrumming_1 : decode cX2_isDrumming 1 = .ok (.getfield 18, 3) := by decide +kernel
theorem dX2_isDrumming_4 : decode cX2_isDrumming 4 = .ok (.iconst (-1), 1) := by decide +kernel
theorem dX2_isDrumming_5 : decode cX2_isDrumming 5 = .ok (.if_icmp .eq 7, 3) := by decide +kernel
theorem dX2_isDrumming_8 : decode cX2_isDrumming 8 = .ok (.iconst 1, 1) := by decide +kernel
theorem dX2_isDrumming_9 : decode cX2_isDrumming 9 = .ok (.goto 4, 3) := by decide +kernel
theorem dX2_isDrumming_12 : decode cX2_isDrumming 12 = .ok (.iconst 0, 1) := by decide +kernel
theorem dX2_isDrumming_13 : decode cX2_isDrumming 13 = .ok (.ireturn, 1) := by decide +kernel
set_option maxRecDepth 20000 in
theorem ggX2_isReady_X2_isDrumming : GoodIn wsX2_isReady wsX2_isDrumming := goodIn_r _ [6, 7, 18, 19, 20, 21, 22, 23, 24, 25, 26, 27, 28, 29, 30] (by decide +kernel) (by decide +kernel)
set_option maxRecDepth 20000 in
theorem gX2_isReady_X2_isDrumming : GoodIn wsX2_isReady (wsV RX2 87 RX2 yX2_isDrumming wsX2_isDrumming) := goodIn_app (goodIn_of _ (by decide +kernel)) ggX2_isReady_X2_isDrumming
set_option maxRecDepth 20000 in
theorem ggX2_isReady_X2_isAwake : GoodIn wsX2_isReady wsX2_isAwake := goodIn_r _ [11, 12, 13, 14, 15, 16, 17, 18, 19, 20, 21, 22, 23, 24, 25, 26, 27, 28, 29, 30] (by decide +kernel) (by decide +kernel)
set_option maxRecDepth 20000 in
theorem gX2_isReady_X2_isAwake : GoodIn wsX2_isReady (wsV RX2 73 RX2 yX2_isAwake wsX2_isAwake) := goodIn_app (goodIn_of _ (by decide +kernel)) ggX2_isReady_X2_isAwake
theorem dX2_isReady_0 : decode cX2_isReady 0 = .ok (.aload_n 0, 1) := by decide +kernel
theorem dX2_isReady_1 : decode cX2_isReady 1 = .ok (.invokevirtual 87, 3) := by decide +kernel
theorem dX2_isReady_4 : decode cX2_isReady 4 = .ok (.ifCond .ne 22, 3) := by decide +kernel
theorem dX2_isReady_7 : decode cX2_isReady 7 = .ok (.aload_n 0, 1) := by decide +kernel
theorem dX2_isReady_8 : decode cX2_isReady 8 = .ok (.getfield 63, 3) := by decide +kernel
theorem dX2_isReady_11 : decode cX2_isReady 11 = .ok (.ifCond .le 15, 3) := by decide +kernel
theorem dX2_isReady_14 : decode cX2_isReady 14 = .ok (.aload_n 0, 1) := by decide +kernel
theorem dX2_isReady_15 : decode cX2_isReady 15 = .ok (.iload_n 1, 1) := by decide +kernel
theorem dX2_isReady_16 : decode cX2_isReady 16 = .ok (.invokevirtual 73, 3) := by decide +kernel
theorem dX2_isReady_19 : decode cX2_isReady 19 = .ok (.ifCond .eq 7, 3) := by decide +kernel
theorem dX2_isReady_22 : decode cX2_isReady 22 = .ok (.iconst 1, 1) := by decide +kernel
theorem dX2_isReady_23 : decode cX2_isReady 23 = .ok (.goto 4, 3) := by decide +kernel
theorem dX2_isReady_26 : decode cX2_isReady 26 = .ok (.iconst 0, 1) := by decide +kernel
theorem dX2_isReady_27 : decode cX2_isReady 27 = .ok (.ireturn, 1) := by decide +kernel
theorem dX2_distanceTo_0 : decode cX2_distanceTo 0 = .ok (.aload_n 0, 1) := by decide +kernel
theorem dX2_distanceTo_1 : decode cX2_distanceTo 1 = .ok (.getfield 41, 3) := by decide +kernel
theorem dX2_distanceTo_4 : decode cX2_distanceTo 4 = .ok (.aload_n 1, 1) := by decide +kernel
theorem dX2_distanceTo_5 : decode cX2_distanceTo 5 = .ok (.getfield 41, 3) := by decide +kernel
theorem dX2_distanceTo_8 : decode cX2_distanceTo 8 = .ok (.isub, 1) := by decide +kernel
theorem dX2_distanceTo_9 : decode cX2_distanceTo 9 = .ok (.invokestatic 91, 3) := by decide +kernel
theorem dX2_distanceTo_12 : decode cX2_distanceTo 12 = .ok (.aload_n 0, 1) := by decide +kernel
theorem dX2_distanceTo_13 : decode cX2_distanceTo 13 = .ok (.getfield 44, 3) := by decide +kernel
theorem dX2_distanceTo_16 : decode cX2_distanceTo 16 = .ok (.aload_n 1, 1) := by decide +kernel
theorem dX2_distanceTo_17 : decode cX2_distanceTo 17 = .ok (.getfield 44, 3) := by decide +kernel
theorem dX2_distanceTo_20 : decode cX2_distanceTo 20 = .ok (.isub, 1) := by decide +kernel
theorem dX2_distanceTo_21 : decode cX2_distanceTo 21 = .ok (.invokestatic 91, 3) := by decide +kernel
theorem dX2_distanceTo_24 : decode cX2_distanceTo 24 = .ok (.iadd, 1) := by decide +kernel
theorem dX2_distanceTo_25 : decode cX2_distanceTo 25 = .ok (.ireturn, 1) := by decide +kernel
theorem dX2_isHeardAt_0 : decode cX2_isHeardAt 0 = .ok (.iload_n 1, 1) := by decide +kernel
theorem dX2_isHeardAt_1 : decode cX2_isHeardAt 1 = .ok (.iconst 3, 1) := by decide +kernel
theorem dX2_isHeardAt_2 : decode cX2_isHeardAt 2 = .ok (.aload_n 0, 1) := by decide +kernel
theorem dX2_isHeardAt_3 : decode cX2_isHeardAt 3 = .ok (.getfield 9, 3) := by decide +kernel
theorem dX2_isHeardAt_6 : decode cX2_isHeardAt 6 = .ok (.imul, 1) := by decide +kernel
theorem dX2_isHeardAt_7 : decode cX2_isHeardAt 7 = .ok (.if_icmp .gt 7, 3) := by decide +kernel
theorem dX2_isHeardAt_10 : decode cX2_isHeardAt 10 = .ok (.iconst 1, 1) := by decide +kernel
theorem dX2_isHeardAt_11 : decode cX2_isHeardAt 11 = .ok (.goto 4, 3) := by decide +kernel
theorem dX2_isHeardAt_14 : decode cX2_isHeardAt 14 = .ok (.iconst 0, 1) := by decide +kernel
theorem dX2_isHeardAt_15 : decode cX2_isHeardAt 15 = .ok (.ireturn, 1) := by decide +kernel
theorem dX2_isKnown_0 : decode cX2_isKnown 0 = .ok (.iload_n 1, 1) := by decide +kernel
theorem dX2_isKnown_1 : decode cX2_isKnown 1 = .ok (.ifCond .lt 23, 3) := by decide +kernel
theorem dX2_isKnown_4 : decode cX2_isKnown 4 = .ok (.iload_n 1, 1) := by decide +kernel
theorem dX2_isKnown_5 : decode cX2_isKnown 5 = .ok (.bipush 12, 2) := by decide +kernel
theorem dX2_isKnown_7 : decode cX2_isKnown 7 = .ok (.if_icmp .ge 17, 3) := by decide +kernel
theorem dX2_isKnown_10 : decode cX2_isKnown 10 = .ok (.aload_n 0, 1) := by decide +kernel
theorem dX2_isKnown_11 : decode cX2_isKnown 11 = .ok (.getfield 25, 3) := by decide +kernel
theorem dX2_isKnown_14 : decode cX2_isKnown 14 = .ok (.iload_n 1, 1) := by decide +kernel
theorem dX2_isKnown_15 : decode cX2_isKnown 15 = .ok (.iaload, 1) := by decide +kernel
theorem dX2_isKnown_16 : decode cX2_isKnown 16 = .ok (.iconst (-1), 1) := by decide +kernel
theorem dX2_isKnown_17 : decode cX2_isKnown 17 = .ok (.if_icmp .eq 7, 3) := by decide +kernel
theorem dX2_isKnown_20 : decode cX2_isKnown 20 = .ok (.iconst 1, 1) := by decide +kernel
theorem dX2_isKnown_21 : decode cX2_isKnown 21 = .ok (.goto 4, 3) := by decide +kernel
theorem dX2_isKnown_24 : decode cX2_isKnown 24 = .ok (.iconst 0, 1) := by decide +kernel
theorem dX2_isKnown_25 : decode cX2_isKnown 25 = .ok (.ireturn, 1) := by decide +kernel
set_option maxRecDepth 20000 in
theorem ggX2_phrasesKnown_X2_isKnown : GoodIn wsX2_phrasesKnown wsX2_isKnown := goodIn_r _ [5, 6, 7, 8, 9, 10, 11, 12, 13, 14, 15, 16, 17, 18, 19] (by decide +kernel) (by decide +kernel)
set_option maxRecDepth 20000 in
theorem gX2_phrasesKnown_X2_isKnown : GoodIn wsX2_phrasesKnown (wsV RX2 95 RX2 yX2_isKnown wsX2_isKnown) := goodIn_app (goodIn_of _ (by decide +kernel)) ggX2_phrasesKnown_X2_isKnown
theorem dX2_phrasesKnown_0 : decode cX2_phrasesKnown 0 = .ok (.iconst 0, 1) := by decide +kernel
theorem dX2_phrasesKnown_1 : decode cX2_phrasesKnown 1 = .ok (.istore_n 1, 1) := by decide +kernel
theorem dX2_phrasesKnown_2 : decode cX2_phrasesKnown 2 = .ok (.iconst 0, 1) := by decide +kernel
theorem dX2_phrasesKnown_3 : decode cX2_phrasesKnown 3 = .ok (.istore_n 2, 1) := by decide +kernel
theorem dX2_phrasesKnown_4 : decode cX2_phrasesKnown 4 = .ok (.iload_n 2, 1) := by decide +kernel
theorem dX2_phrasesKnown_5 : decode cX2_phrasesKnown 5 = .ok (.bipush 12, 2) := by decide +kernel
theorem dX2_phrasesKnown_7 : decode cX2_phrasesKnown 7 = .ok (.if_icmp .ge 20, 3) := by decide +kernel
theorem dX2_phrasesKnown_10 : decode cX2_phrasesKnown 10 = .ok (.aload_n 0, 1) := by decide +kernel
theorem dX2_phrasesKnown_11 : decode cX2_phrasesKnown 11 = .ok (.iload_n 2, 1) := by decide +kernel
theorem dX2_phrasesKnown_12 : decode cX2_phrasesKnown 12 = .ok (.invokevirtual 95, 3) := by decide +kernel
theorem dX2_phrasesKnown_15 : decode cX2_phrasesKnown 15 = .ok (.ifCond .eq 6, 3) := by decide +kernel
theorem dX2_phrasesKnown_18 : decode cX2_phrasesKnown 18 = .ok (.iinc 1 1, 3) := by decide +kernel
theorem dX2_phrasesKnown_21 : decode cX2_phrasesKnown 21 = .ok (.iinc 2 1, 3) := by decide +kernel
theorem dX2_phrasesKnown_24 : decode cX2_phrasesKnown 24 = .ok (.goto (-20), 3) := by decide +kernel
theorem dX2_phrasesKnown_27 : decode cX2_phrasesKnown 27 = .ok (.iload_n 1, 1) := by decide +kernel
theorem dX2_phrasesKnown_28 : decode cX2_phrasesKnown 28 = .ok (.ireturn, 1) := by decide +kernel
theorem dX2_takeIn_0 : decode cX2_takeIn 0 = .ok (.iload_n 1, 1) := by decide +kernel
theorem dX2_takeIn_1 : decode cX2_takeIn 1 = .ok (.ifCond .lt 9, 3) := by decide +kernel
theorem dX2_takeIn_4 : decode cX2_takeIn 4 = .ok (.iload_n 1, 1) := by decide +kernel
theorem dX2_takeIn_5 : decode cX2_takeIn 5 = .ok (.bipush 12, 2) := by decide +kernel
theorem dX2_takeIn_7 : decode cX2_takeIn 7 = .ok (.if_icmp .lt 4, 3) := by decide +kernel
theorem dX2_takeIn_10 : decode cX2_takeIn 10 = .ok (.return_, 1) := by decide +kernel
theorem dX2_takeIn_11 : decode cX2_takeIn 11 = .ok (.aload_n 0, 1) := by decide +kernel
theorem dX2_takeIn_12 : decode cX2_takeIn 12 = .ok (.getfield 25, 3) := by decide +kernel
theorem dX2_takeIn_15 : decode cX2_takeIn 15 = .ok (.iload_n 1, 1) := by decide +kernel
theorem dX2_takeIn_16 : decode cX2_takeIn 16 = .ok (.iaload, 1) := by decide +kernel
theorem dX2_takeIn_17 : decode cX2_takeIn 17 = .ok (.iconst (-1), 1) := by decide +kernel
theorem dX2_takeIn_18 : decode cX2_takeIn 18 = .ok (.if_icmp .ne 10, 3) := by decide +kernel
theorem dX2_takeIn_21 : decode cX2_takeIn 21 = .ok (.aload_n 0, 1) := by decide +kernel
theorem dX2_takeIn_22 : decode cX2_takeIn 22 = .ok (.getfield 25, 3) := by decide +kernel
theorem dX2_takeIn_25 : decode cX2_takeIn 25 = .ok (.iload_n 1, 1) := by decide +kernel
theorem dX2_takeIn_26 : decode cX2_takeIn 26 = .ok (.iload_n 2, 1) := by decide +kernel
theorem dX2_takeIn_27 : decode cX2_takeIn 27 = .ok (.iastore, 1) := by decide +kernel
theorem dX2_takeIn_28 : decode cX2_takeIn 28 = .ok (.aload_n 0, 1) := by decide +kernel
theorem dX2_takeIn_29 : decode cX2_takeIn 29 = .ok (.getfield 63, 3) := by decide +kernel
theorem dX2_takeIn_32 : decode cX2_takeIn 32 = .ok (.iconst 5, 1) := by decide +kernel
theorem dX2_takeIn_33 : decode cX2_takeIn 33 = .ok (.if_icmp .ge 23, 3) := by decide +kernel
theorem dX2_takeIn_36 : decode cX2_takeIn 36 = .ok (.aload_n 0, 1) := by decide +kernel
theorem dX2_takeIn_37 : decode cX2_takeIn 37 = .ok (.getfield 21, 3) := by decide +kernel
theorem dX2_takeIn_40 : decode cX2_takeIn 40 = .ok (.aload_n 0, 1) := by decide +kernel
theorem dX2_takeIn_41 : decode cX2_takeIn 41 = .ok (.getfield 63, 3) := by decide +kernel
theorem dX2_takeIn_44 : decode cX2_takeIn 44 = .ok (.iload_n 1, 1) := by decide +kernel
theorem dX2_takeIn_45 : decode cX2_takeIn 45 = .ok (.iastore, 1) := by decide +kernel
theorem dX2_takeIn_46 : decode cX2_takeIn 46 = .ok (.aload_n 0, 1) := by decide +kernel
theorem dX2_takeIn_47 : decode cX2_takeIn 47 = .ok (.dup, 1) := by decide +kernel
theorem dX2_takeIn_48 : decode cX2_takeIn 48 = .ok (.getfield 63, 3) := by decide +kernel
theorem dX2_takeIn_51 : decode cX2_takeIn 51 = .ok (.iconst 1, 1) := by decide +kernel
theorem dX2_takeIn_52 : decode cX2_takeIn 52 = .ok (.iadd, 1) := by decide +kernel
theorem dX2_takeIn_53 : decode cX2_takeIn 53 = .ok (.putfield 63, 3) := by decide +kernel
theorem dX2_takeIn_56 : decode cX2_takeIn 56 = .ok (.return_, 1) := by decide +kernel
theorem dX2_takeFromQueue_0 : decode cX2_takeFromQueue 0 = .ok (.aload_n 0, 1) := by decide +kernel
theorem dX2_takeFromQueue_1 : decode cX2_takeFromQueue 1 = .ok (.getfield 63, 3) := by decide +kernel
theorem dX2_takeFromQueue_4 : decode cX2_takeFromQueue 4 = .ok (.ifCond .ne 5, 3) := by decide +kernel
theorem dX2_takeFromQueue_7 : decode cX2_takeFromQueue 7 = .ok (.iconst (-1), 1) := by decide +kernel
theorem dX2_takeFromQueue_8 : decode cX2_takeFromQueue 8 = .ok (.ireturn, 1) := by decide +kernel
theorem dX2_takeFromQueue_9 : decode cX2_takeFromQueue 9 = .ok (.aload_n 0, 1) := by decide +kernel
theorem dX2_takeFromQueue_10 : decode cX2_takeFromQueue 10 = .ok (.getfield 21, 3) := by decide +kernel
theorem dX2_takeFromQueue_13 : decode cX2_takeFromQueue 13 = .ok (.iconst 0, 1) := by decide +kernel
theorem dX2_takeFromQueue_14 : decode cX2_takeFromQueue 14 = .ok (.iaload, 1) := by decide +kernel
theorem dX2_takeFromQueue_15 : decode cX2_takeFromQueue 15 = .ok (.istore_n 1, 1) := by decide +kernel
theorem dX2_takeFromQueue_16 : decode cX2_takeFromQueue 16 = .ok (.aload_n 0, 1) := by decide +kernel
theorem dX2_takeFromQueue_17 : decode cX2_takeFromQueue 17 = .ok (.dup, 1) := by decide +kernel
theorem dX2_takeFromQueue_18 : decode cX2_takeFromQueue 18 = .ok (.getfield 63, 3) := by decide +kernel
theorem dX2_takeFromQueue_21 : decode cX2_takeFromQueue 21 = .ok (.iconst 1, 1) := by decide +kernel
theorem dX2_takeFromQueue_22 : decode cX2_takeFromQueue 22 = .ok (.isub, 1) := by decide +kernel
theorem dX2_takeFromQueue_23 : decode cX2_takeFromQueue 23 = .ok (.putfield 63, 3) := by decide +kernel
theorem dX2_takeFromQueue_26 : decode cX2_takeFromQueue 26 = .ok (.aload_n 0, 1) := by decide +kernel
theorem dX2_takeFromQueue_27 : decode cX2_takeFromQueue 27 = .ok (.getfield 21, 3) := by decide +kernel
theorem dX2_takeFromQueue_30 : decode cX2_takeFromQueue 30 = .ok (.iconst 1, 1) := by decide +kernel
theorem dX2_takeFromQueue_31 : decode cX2_takeFromQueue 31 = .ok (.aload_n 0, 1) := by decide +kernel
theorem dX2_takeFromQueue_32 : decode cX2_takeFromQueue 32 = .ok (.getfield 21, 3) := by decide +kernel
theorem dX2_takeFromQueue_35 : decode cX2_takeFromQueue 35 = .ok (.iconst 0, 1) := by decide +kernel
theorem dX2_takeFromQueue_36 : decode cX2_takeFromQueue 36 = .ok (.aload_n 0, 1) := by decide +kernel
theorem dX2_takeFromQueue_37 : decode cX2_takeFromQueue 37 = .ok (.getfield 63, 3) := by decide +kernel
theorem dX2_takeFromQueue_40 : decode cX2_takeFromQueue 40 = .ok (.invokestatic 57, 3) := by decide +kernel
theorem dX2_takeFromQueue_43 : decode cX2_takeFromQueue 43 = .ok (.iload_n 1, 1) := by decide +kernel
theorem dX2_takeFromQueue_44 : decode cX2_takeFromQueue 44 = .ok (.ireturn, 1) := by decide +kernel
set_option maxRecDepth 20000 in
theorem ggX2_drownIfDisturbed_X2_isAwake : GoodIn wsX2_drownIfDisturbed wsX2_isAwake := goodIn_r _ [6, 7, 8, 9, 10, 11, 12, 30, 31, 32, 33, 34, 35, 36, 37, 38, 39, 40, 41, 42] (by decide +kernel) (by decide +kernel)
set_option maxRecDepth 20000 in
theorem gX2_drownIfDisturbed_X2_isAwake : GoodIn wsX2_drownIfDisturbed (wsV RX2 73 RX2 yX2_isAwake wsX2_isAwake) := goodIn_app (goodIn_of _ (by decide +kernel)) ggX2_drownIfDisturbed_X2_isAwake
set_option maxRecDepth 20000 in
theorem ggX2_drownIfDisturbed_X2_isDrumming : GoodIn wsX2_drownIfDisturbed wsX2_isDrumming := goodIn_r _ [16, 17, 30, 31, 32, 33, 34, 35, 36, 37, 38, 39, 40, 41, 42] (by decide +kernel) (by decide +kernel)
set_option maxRecDepth 20000 in
theorem gX2_drownIfDisturbed_X2_isDrumming : GoodIn wsX2_drownIfDisturbed (wsV RX2 87 RX2 yX2_isDrumming wsX2_isDrumming) := goodIn_app (goodIn_of _ (by decide +kernel)) ggX2_drownIfDisturbed_X2_isDrumming
set_option maxRecDepth 20000 in
theorem ggX2_drownIfDisturbed_X1_lasting : GoodIn wsX2_drownIfDisturbed wsX1_lasting := goodIn_r _ [22, 23, 24, 43, 44, 45, 46, 47] (by decide +kernel) (by decide +kernel)
set_option maxRecDepth 20000 in
theorem gX2_drownIfDisturbed_X1_lasting : GoodIn wsX2_drownIfDisturbed (wsV RX2 98 RX1 yX1_lasting wsX1_lasting) := goodIn_app (goodIn_of _ (by decide +kernel)) ggX2_drownIfDisturbed_X1_lasting
set_option maxRecDepth 20000 in
theorem ggX2_drownIfDisturbed_X1_drown : GoodIn wsX2_drownIfDisturbed wsX1_drown := goodIn_r _ [28, 23, 24, 29, 43, 44, 45, 46, 47] (by decide +kernel) (by decide +kernel)
set_option maxRecDepth 20000 in
theorem gX2_drownIfDisturbed_X1_drown : GoodIn wsX2_drownIfDisturbed (wsV RX2 101 RX1 yX1_drown wsX1_drown) := goodIn_app (goodIn_of _ (by decide +kernel)) ggX2_drownIfDisturbed_X1_drown
theorem dX2_drownIfDisturbed_0 : decode cX2_drownIfDisturbed 0 = .ok (.aload_n 0, 1) := by decide +kernel
theorem dX2_drownIfDisturbed_1 : decode cX2_drownIfDisturbed 1 = .ok (.iload_n 1, 1) := by decide +kernel
theorem dX2_drownIfDisturbed_2 : decode cX2_drownIfDisturbed 2 = .ok (.invokevirtual 73, 3) := by decide +kernel
theorem dX2_drownIfDisturbed_5 : decode cX2_drownIfDisturbed 5 = .ok (.ifCond .eq 22, 3) := by decide +kernel
theorem dX2_drownIfDisturbed_8 : decode cX2_drownIfDisturbed 8 = .ok (.aload_n 0, 1) := by decide +kernel
theorem dX2_drownIfDisturbed_9 : decode cX2_drownIfDisturbed 9 = .ok (.invokevirtual 87, 3) := by decide +kernel
theorem dX2_drownIfDisturbed_12 : decode cX2_drownIfDisturbed 12 = .ok (.ifCond .ne 15, 3) := by decide +kernel
theorem dX2_drownIfDisturbed_15 : decode cX2_drownIfDisturbed 15 = .ok (.aload_n 0, 1) := by decide +kernel
theorem dX2_drownIfDisturbed_16 : decode cX2_drownIfDisturbed 16 = .ok (.getfield 31, 3) := by decide +kernel
theorem dX2_drownIfDisturbed_19 : decode cX2_drownIfDisturbed 19 = .ok (.iload_n 1, 1) := by decide +kernel
theorem dX2_drownIfDisturbed_20 : decode cX2_drownIfDisturbed 20 = .ok (.invokevirtual 98, 3) := by decide +kernel
theorem dX2_drownIfDisturbed_23 : decode cX2_drownIfDisturbed 23 = .ok (.iconst 2, 1) := by decide +kernel
theorem dX2_drownIfDisturbed_24 : decode cX2_drownIfDisturbed 24 = .ok (.if_icmp .lt 11, 3) := by decide +kernel
theorem dX2_drownIfDisturbed_27 : decode cX2_drownIfDisturbed 27 = .ok (.aload_n 0, 1) := by decide +kernel
theorem dX2_drownIfDisturbed_28 : decode cX2_drownIfDisturbed 28 = .ok (.getfield 31, 3) := by decide +kernel
theorem dX2_drownIfDisturbed_31 : decode cX2_drownIfDisturbed 31 = .ok (.iload_n 1, 1) := by decide +kernel
theorem dX2_drownIfDisturbed_32 : decode cX2_drownIfDisturbed 32 = .ok (.invokevirtual 101, 3) := by decide +kernel
theorem dX2_drownIfDisturbed_35 : decode cX2_drownIfDisturbed 35 = .ok (.return_, 1) := by decide +kernel
set_option maxRecDepth 20000 in
theorem ggX2_endSounds_X1_move : GoodIn wsX2_endSounds wsX1_move := goodIn_r _ [11, 12, 13, 14, 15, 16, 42, 43, 44, 45, 46] (by decide +kernel) (by decide +kernel)
set_option maxRecDepth 20000 in
theorem gX2_endSounds_X1_move : GoodIn wsX2_endSounds (wsV RX2 111 RX1 yX1_move wsX1_move) := goodIn_app (goodIn_of _ (by decide +kernel)) ggX2_endSounds_X1_move
set_option maxRecDepth 20000 in
theorem ggX2_endSounds_X2_isKnown : GoodIn wsX2_endSounds wsX2_isKnown := goodIn_r _ [21, 22, 29, 30, 31, 32, 33, 34, 35, 36, 37, 38, 39, 40, 41] (by decide +kernel) (by decide +kernel)
set_option maxRecDepth 20000 in
theorem gX2_endSounds_X2_isKnown : GoodIn wsX2_endSounds (wsV RX2 95 RX2 yX2_isKnown wsX2_isKnown) := goodIn_app (goodIn_of _ (by decide +kernel)) ggX2_endSounds_X2_isKnown
set_option maxRecDepth 20000 in
theorem ggX2_endSounds_X2_takeIn : GoodIn wsX2_endSounds wsX2_takeIn := goodIn_r _ [26, 22, 27, 28, 29, 30, 31, 32, 33, 34, 35, 36, 37, 38, 39, 40, 41] (by decide +kernel) (by decide +kernel)
set_option maxRecDepth 20000 in
theorem gX2_endSounds_X2_takeIn : GoodIn wsX2_endSounds (wsV RX2 120 RX2 yX2_takeIn wsX2_takeIn) := goodIn_app (goodIn_of _ (by decide +kernel)) ggX2_endSounds_X2_takeIn
theorem dX2_endSounds_0 : decode cX2_endSounds 0 = .ok (.iconst 0, 1) := by decide +kernel
theorem dX2_endSounds_1 : decode cX2_endSounds 1 = .ok (.istore_n 2, 1) := by decide +kernel
theorem dX2_endSounds_2 : decode cX2_endSounds 2 = .ok (.iconst 0, 1) := by decide +kernel
theorem dX2_endSounds_3 : decode cX2_endSounds 3 = .ok (.istore_n 3, 1) := by decide +kernel
theorem dX2_endSounds_4 : decode cX2_endSounds 4 = .ok (.iconst 0, 1) := by decide +kernel
theorem dX2_endSounds_5 : decode cX2_endSounds 5 = .ok (.istore 4, 2) := by decide +kernel
theorem dX2_endSounds_7 : decode cX2_endSounds 7 = .ok (.iload 4, 2) := by decide +kernel
theorem dX2_endSounds_9 : decode cX2_endSounds 9 = .ok (.aload_n 0, 1) := by decide +kernel
theorem dX2_endSounds_10 : decode cX2_endSounds 10 = .ok (.getfield 31, 3) := by decide +kernel
theorem dX2_endSounds_13 : decode cX2_endSounds 13 = .ok (.getfield 105, 3) := by decide +kernel
theorem dX2_endSounds_16 : decode cX2_endSounds 16 = .ok (.if_icmp .ge 100, 3) := by decide +kernel
theorem dX2_endSounds_19 : decode cX2_endSounds 19 = .ok (.aload_n 0, 1) := by decide +kernel
theorem dX2_endSounds_20 : decode cX2_endSounds 20 = .ok (.getfield 31, 3) := by decide +kernel
theorem dX2_endSounds_23 : decode cX2_endSounds 23 = .ok (.getfield 108, 3) := by decide +kernel
theorem dX2_endSounds_26 : decode cX2_endSounds 26 = .ok (.iload 4, 2) := by decide +kernel
theorem dX2_endSounds_28 : decode cX2_endSounds 28 = .ok (.iaload, 1) := by decide +kernel
theorem dX2_endSounds_29 : decode cX2_endSounds 29 = .ok (.iload_n 1, 1) := by decide +kernel
theorem dX2_endSounds_30 : decode cX2_endSounds 30 = .ok (.if_icmp .eq 19, 3) := by decide +kernel
theorem dX2_endSounds_33 : decode cX2_endSounds 33 = .ok (.aload_n 0, 1) := by decide +kernel
theorem dX2_endSounds_34 : decode cX2_endSounds 34 = .ok (.getfield 31, 3) := by decide +kernel
theorem dX2_endSounds_37 : decode cX2_endSounds 37 = .ok (.iload 4, 2) := by decide +kernel
theorem dX2_endSounds_39 : decode cX2_endSounds 39 = .ok (.iload_n 3, 1) := by decide +kernel
theorem dX2_endSounds_40 : decode cX2_endSounds 40 = .ok (.invokevirtual 111, 3) := by decide +kernel
theorem dX2_endSounds_43 : decode cX2_endSounds 43 = .ok (.iinc 3 1, 3) := by decide +kernel
theorem dX2_endSounds_46 : decode cX2_endSounds 46 = .ok (.goto 64, 3) := by decide +kernel
theorem dX2_endSounds_49 : decode cX2_endSounds 49 = .ok (.aload_n 0, 1) := by decide +kernel
theorem dX2_endSounds_50 : decode cX2_endSounds 50 = .ok (.getfield 31, 3) := by decide +kernel
theorem dX2_endSounds_53 : decode cX2_endSounds 53 = .ok (.getfield 115, 3) := by decide +kernel
theorem dX2_endSounds_56 : decode cX2_endSounds 56 = .ok (.iload 4, 2) := by decide +kernel
theorem dX2_endSounds_58 : decode cX2_endSounds 58 = .ok (.iaload, 1) := by decide +kernel
theorem dX2_endSounds_59 : decode cX2_endSounds 59 = .ok (.ifCond .eq 16, 3) := by decide +kernel
theorem dX2_endSounds_62 : decode cX2_endSounds 62 = .ok (.aload_n 0, 1) := by decide +kernel
theorem dX2_endSounds_63 : decode cX2_endSounds 63 = .ok (.dup, 1) := by decide +kernel
theorem dX2_endSounds_64 : decode cX2_endSounds 64 = .ok (.getfield 70, 3) := by decide +kernel
theorem dX2_endSounds_67 : decode cX2_endSounds 67 = .ok (.iconst 1, 1) := by decide +kernel
theorem dX2_endSounds_68 : decode cX2_endSounds 68 = .ok (.iadd, 1) := by decide +kernel
theorem dX2_endSounds_69 : decode cX2_endSounds 69 = .ok (.putfield 70, 3) := by decide +kernel
theorem dX2_endSounds_72 : decode cX2_endSounds 72 = .ok (.goto 38, 3) := by decide +kernel
theorem dX2_endSounds_75 : decode cX2_endSounds 75 = .ok (.aload_n 0, 1) := by decide +kernel
theorem dX2_endSounds_76 : decode cX2_endSounds 76 = .ok (.aload_n 0, 1) := by decide +kernel
theorem dX2_endSounds_77 : decode cX2_endSounds 77 = .ok (.getfield 31, 3) := by decide +kernel
theorem dX2_endSounds_80 : decode cX2_endSounds 80 = .ok (.getfield 117, 3) := by decide +kernel
theorem dX2_endSounds_83 : decode cX2_endSounds 83 = .ok (.iload 4, 2) := by decide +kernel
theorem dX2_endSounds_85 : decode cX2_endSounds 85 = .ok (.iaload, 1) := by decide +kernel
theorem dX2_endSounds_86 : decode cX2_endSounds 86 = .ok (.invokevirtual 95, 3) := by decide +kernel
theorem dX2_endSounds_89 : decode cX2_endSounds 89 = .ok (.ifCond .ne 21, 3) := by decide +kernel
theorem dX2_endSounds_92 : decode cX2_endSounds 92 = .ok (.aload_n 0, 1) := by decide +kernel
theorem dX2_endSounds_93 : decode cX2_endSounds 93 = .ok (.aload_n 0, 1) := by decide +kernel
theorem dX2_endSounds_94 : decode cX2_endSounds 94 = .ok (.getfield 31, 3) := by decide +kernel
theorem dX2_endSounds_97 : decode cX2_endSounds 97 = .ok (.getfield 117, 3) := by decide +kernel
theorem dX2_endSounds_100 : decode cX2_endSounds 100 = .ok (.iload 4, 2) := by decide +kernel
theorem dX2_endSounds_102 : decode cX2_endSounds 102 = .ok (.iaload, 1) := by decide +kernel
theorem dX2_endSounds_103 : decode cX2_endSounds 103 = .ok (.iload_n 1, 1) := by decide +kernel
theorem dX2_endSounds_104 : decode cX2_endSounds 104 = .ok (.invokevirtual 120, 3) := by decide +kernel
theorem dX2_endSounds_107 : decode cX2_endSounds 107 = .ok (.iinc 2 1, 3) := by decide +kernel
theorem dX2_endSounds_110 : decode cX2_endSounds 110 = .ok (.iinc 4 1, 3) := by decide +kernel
theorem dX2_endSounds_113 : decode cX2_endSounds 113 = .ok (.goto (-106), 3) := by decide +kernel
theorem dX2_endSounds_116 : decode cX2_endSounds 116 = .ok (.aload_n 0, 1) := by decide +kernel
theorem dX2_endSounds_117 : decode cX2_endSounds 117 = .ok (.getfield 31, 3) := by decide +kernel
theorem dX2_endSounds_120 : decode cX2_endSounds 120 = .ok (.iload_n 3, 1) := by decide +kernel
theorem dX2_endSounds_121 : decode cX2_endSounds 121 = .ok (.putfield 105, 3) := by decide +kernel
theorem dX2_endSounds_124 : decode cX2_endSounds 124 = .ok (.iload_n 2, 1) := by decide +kernel
theorem dX2_endSounds_125 : decode cX2_endSounds 125 = .ok (.ireturn, 1) := by decide +kernel
set_option maxRecDepth 20000 in
theorem ggX2_endDrumBeat_X2_isDrumming : GoodIn wsX2_endDrumBeat wsX2_isDrumming := goodIn_r _ [7, 2, 8, 9, 10, 11, 12, 13, 14, 15, 16, 17, 18, 19, 20] (by decide +kernel) (by decide +kernel)
set_option maxRecDepth 20000 in
theorem gX2_endDrumBeat_X2_isDrumming : GoodIn wsX2_endDrumBeat (wsV RX2 87 RX2 yX2_isDrumming wsX2_isDrumming) := goodIn_app (goodIn_of _ (by decide +kernel)) ggX2_endDrumBeat_X2_isDrumming
theorem dX2_endDrumBeat_0 : decode cX2_endDrumBeat 0 = .ok (.aload_n 0, 1) := by decide +kernel
theorem dX2_endDrumBeat_1 : decode cX2_endDrumBeat 1 = .ok (.invokevirtual 87, 3) := by decide +kernel
theorem dX2_endDrumBeat_4 : decode cX2_endDrumBeat 4 = .ok (.ifCond .ne 4, 3) := by decide +kernel
theorem dX2_endDrumBeat_7 : decode cX2_endDrumBeat 7 = .ok (.return_, 1) := by decide +kernel
theorem dX2_endDrumBeat_8 : decode cX2_endDrumBeat 8 = .ok (.aload_n 0, 1) := by decide +kernel
theorem dX2_endDrumBeat_9 : decode cX2_endDrumBeat 9 = .ok (.dup, 1) := by decide +kernel
theorem dX2_endDrumBeat_10 : decode cX2_endDrumBeat 10 = .ok (.getfield 54, 3) := by decide +kernel
theorem dX2_endDrumBeat_13 : decode cX2_endDrumBeat 13 = .ok (.iconst 1, 1) := by decide +kernel
theorem dX2_endDrumBeat_14 : decode cX2_endDrumBeat 14 = .ok (.isub, 1) := by decide +kernel
theorem dX2_endDrumBeat_15 : decode cX2_endDrumBeat 15 = .ok (.putfield 54, 3) := by decide +kernel
theorem dX2_endDrumBeat_18 : decode cX2_endDrumBeat 18 = .ok (.aload_n 0, 1) := by decide +kernel
theorem dX2_endDrumBeat_19 : decode cX2_endDrumBeat 19 = .ok (.getfield 54, 3) := by decide +kernel
theorem dX2_endDrumBeat_22 : decode cX2_endDrumBeat 22 = .ok (.ifCond .ne 8, 3) := by decide +kernel
theorem dX2_endDrumBeat_25 : decode cX2_endDrumBeat 25 = .ok (.aload_n 0, 1) := by decide +kernel
theorem dX2_endDrumBeat_26 : decode cX2_endDrumBeat 26 = .ok (.iconst (-1), 1) := by decide +kernel
theorem dX2_endDrumBeat_27 : decode cX2_endDrumBeat 27 = .ok (.putfield 18, 3) := by decide +kernel
theorem dX2_endDrumBeat_30 : decode cX2_endDrumBeat 30 = .ok (.return_, 1) := by decide +kernel
end
section
theorem dJ9_floorMod_7cf53_0 : decode cJ9_floorMod_7cf53 0 = .ok (.iload_n 0, 1) := by decide +kernel
theorem dJ9_floorMod_7cf53_1 : decode cJ9_floorMod_7cf53 1 = .ok (.iload_n 1, 1) := by decide +kernel
theorem dJ9_floorMod_7cf53_2 : decode cJ9_floorMod_7cf53 2 = .ok (.irem, 1) := by decide +kernel
theorem dJ9_floorMod_7cf53_3 : decode cJ9_floorMod_7cf53 3 = .ok (.istore_n 2, 1) := by decide +kernel
theorem dJ9_floorMod_7cf53_4 : decode cJ9_floorMod_7cf53 4 = .ok (.iload_n 0, 1) := by decide +kernel
theorem dJ9_floorMod_7cf53_5 : decode cJ9_floorMod_7cf53 5 = .ok (.iload_n 1, 1) := by decide +kernel
theorem dJ9_floorMod_7cf53_6 : decode cJ9_floorMod_7cf53 6 = .ok (.ixor, 1) := by decide +kernel
theorem dJ9_floorMod_7cf53_7 : decode cJ9_floorMod_7cf53 7 = .ok (.ifCond .ge 11, 3) := by decide +kernel
theorem dJ9_floorMod_7cf53_10 : decode cJ9_floorMod_7cf53 10 = .ok (.iload_n 2, 1) := by decide +kernel
theorem dJ9_floorMod_7cf53_11 : decode cJ9_floorMod_7cf53 11 = .ok (.ifCond .eq 7, 3) := by decide +kernel
theorem dJ9_floorMod_7cf53_14 : decode cJ9_floorMod_7cf53 14 = .ok (.iload_n 2, 1) := by decide +kernel
theorem dJ9_floorMod_7cf53_15 : decode cJ9_floorMod_7cf53 15 = .ok (.iload_n 1, 1) := by decide +kernel
theorem dJ9_floorMod_7cf53_16 : decode cJ9_floorMod_7cf53 16 = .ok (.iadd, 1) := by decide +kernel
theorem dJ9_floorMod_7cf53_17 : decode cJ9_floorMod_7cf53 17 = .ok (.ireturn, 1) := by decide +kernel
theorem dJ9_floorMod_7cf53_18 : decode cJ9_floorMod_7cf53 18 = .ok (.iload_n 2, 1) := by decide +kernel
theorem dJ9_floorMod_7cf53_19 : decode cJ9_floorMod_7cf53 19 = .ok (.ireturn, 1) := by decide +kernel
theorem dJ9_abs_0f7a4_0 : decode cJ9_abs_0f7a4 0 = .ok (.iload_n 0, 1) := by decide +kernel
theorem dJ9_abs_0f7a4_1 : decode cJ9_abs_0f7a4 1 = .ok (.ifCond .ge 8, 3) := by decide +kernel
theorem dJ9_abs_0f7a4_4 : decode cJ9_abs_0f7a4 4 = .ok (.iload_n 0, 1) := by decide +kernel
theorem dJ9_abs_0f7a4_5 : decode cJ9_abs_0f7a4 5 = .ok (.ineg, 1) := by decide +kernel
theorem dJ9_abs_0f7a4_6 : decode cJ9_abs_0f7a4 6 = .ok (.goto 4, 3) := by decide +kernel
theorem dJ9_abs_0f7a4_9 : decode cJ9_abs_0f7a4 9 = .ok (.iload_n 0, 1) := by decide +kernel
theorem dJ9_abs_0f7a4_10 : decode cJ9_abs_0f7a4 10 = .ok (.ireturn, 1) := by decide +kernel
theorem dJ9_max_7cf53_0 : decode cJ9_max_7cf53 0 = .ok (.iload_n 0, 1) := by decide +kernel
theorem dJ9_max_7cf53_1 : decode cJ9_max_7cf53 1 = .ok (.iload_n 1, 1) := by decide +kernel
theorem dJ9_max_7cf53_2 : decode cJ9_max_7cf53 2 = .ok (.if_icmp .lt 7, 3) := by decide +kernel
theorem dJ9_max_7cf53_5 : decode cJ9_max_7cf53 5 = .ok (.iload_n 0, 1) := by decide +kernel
theorem dJ9_max_7cf53_6 : decode cJ9_max_7cf53 6 = .ok (.goto 4, 3) := by decide +kernel
theorem dJ9_max_7cf53_9 : decode cJ9_max_7cf53 9 = .ok (.iload_n 1, 1) := by decide +kernel
theorem dJ9_max_7cf53_10 : decode cJ9_max_7cf53 10 = .ok (.ireturn, 1) := by decide +kernel
theorem dJ7_fill_53178_0 : decode cJ7_fill_53178 0 = .ok (.iconst 0, 1) := by decide +kernel
theorem dJ7_fill_53178_1 : decode cJ7_fill_53178 1 = .ok (.istore_n 2, 1) := by decide +kernel
theorem dJ7_fill_53178_2 : decode cJ7_fill_53178 2 = .ok (.aload_n 0, 1) := by decide +kernel
theorem dJ7_fill_53178_3 : decode cJ7_fill_53178 3 = .ok (.arraylength, 1) := by decide +kernel
theorem dJ7_fill_53178_4 : decode cJ7_fill_53178 4 = .ok (.istore_n 3, 1) := by decide +kernel
theorem dJ7_fill_53178_5 : decode cJ7_fill_53178 5 = .ok (.iload_n 2, 1) := by decide +kernel
theorem dJ7_fill_53178_6 : decode cJ7_fill_53178 6 = .ok (.iload_n 3, 1) := by decide +kernel
theorem dJ7_fill_53178_7 : decode cJ7_fill_53178 7 = .ok (.if_icmp .ge 13, 3) := by decide +kernel
theorem dJ7_fill_53178_10 : decode cJ7_fill_53178 10 = .ok (.aload_n 0, 1) := by decide +kernel
theorem dJ7_fill_53178_11 : decode cJ7_fill_53178 11 = .ok (.iload_n 2, 1) := by decide +kernel
theorem dJ7_fill_53178_12 : decode cJ7_fill_53178 12 = .ok (.iload_n 1, 1) := by decide +kernel
theorem dJ7_fill_53178_13 : decode cJ7_fill_53178 13 = .ok (.iastore, 1) := by decide +kernel
theorem dJ7_fill_53178_14 : decode cJ7_fill_53178 14 = .ok (.iinc 2 1, 3) := by decide +kernel
theorem dJ7_fill_53178_17 : decode cJ7_fill_53178 17 = .ok (.goto (-12), 3) := by decide +kernel
theorem dJ7_fill_53178_20 : decode cJ7_fill_53178 20 = .ok (.return_, 1) := by decide +kernel
end
section
set_option maxRecDepth 20000 in
theorem ggX0_init_X2_init : GoodIn wsX0_init wsX2_init := goodIn_r _ [13, 14, 2, 3, 15, 16, 17, 6, 18, 19, 20, 21, 22, 23, 24, 25, 26, 27, 28, 29, 30, 31, 32, 33, 34, 42, 43, 44, 45, 46, 47, 48, 49, 50, 51, 52, 53, 54, 55, 56, 57, 58, 59] (by decide +kernel) (by decide +kernel)
set_option maxRecDepth 20000 in
theorem gX0_init_X2_init : GoodIn wsX0_init (wsX2_init) := ggX0_init_X2_init
theorem dX0_init_0 : decode cX0_init 0 = .ok (.aload_n 0, 1) := by decide +kernel
theorem dX0_init_1 : decode cX0_init 1 = .ok (.invokespecial 3, 3) := by decide +kernel
theorem dX0_init_4 : decode cX0_init 4 = .ok (.aload_n 0, 1) := by decide +kernel
theorem dX0_init_5 : decode cX0_init 5 = .ok (.bipush 8, 2) := by decide +kernel
theorem dX0_init_7 : decode cX0_init 7 = .ok (.anewarray 9, 3) := by decide +kernel
theorem dX0_init_10 : decode cX0_init 10 = .ok (.putfield 11, 3) := by decide +kernel
theorem dX0_init_13 : decode cX0_init 13 = .ok (.aload_n 0, 1) := by decide +kernel
theorem dX0_init_14 : decode cX0_init 14 = .ok (.bipush 12, 2) := by decide +kernel
theorem dX0_init_16 : decode cX0_init 16 = .ok (.newarray .int, 2) := by decide +kernel
theorem dX0_init_18 : decode cX0_init 18 = .ok (.putfield 17, 3) := by decide +kernel
theorem dX0_init_21 : decode cX0_init 21 = .ok (.aload_n 0, 1) := by decide +kernel
theorem dX0_init_22 : decode cX0_init 22 = .ok (.bipush 12, 2) := by decide +kernel
theorem dX0_init_24 : decode cX0_init 24 = .ok (.newarray .int, 2) := by decide +kernel
theorem dX0_init_26 : decode cX0_init 26 = .ok (.putfield 21, 3) := by decide +kernel
theorem dX0_init_29 : decode cX0_init 29 = .ok (.iconst 0, 1) := by decide +kernel
theorem dX0_init_30 : decode cX0_init 30 = .ok (.istore_n 1, 1) := by decide +kernel
theorem dX0_init_31 : decode cX0_init 31 = .ok (.iload_n 1, 1) := by decide +kernel
theorem dX0_init_32 : decode cX0_init 32 = .ok (.bipush 8, 2) := by decide +kernel
theorem dX0_init_34 : decode cX0_init 34 = .ok (.if_icmp .ge 22, 3) := by decide +kernel
theorem dX0_init_37 : decode cX0_init 37 = .ok (.aload_n 0, 1) := by decide +kernel
theorem dX0_init_38 : decode cX0_init 38 = .ok (.getfield 11, 3) := by decide +kernel
theorem dX0_init_41 : decode cX0_init 41 = .ok (.iload_n 1, 1) := by decide +kernel
theorem dX0_init_42 : decode cX0_init 42 = .ok (.new 9, 3) := by decide +kernel
theorem dX0_init_45 : decode cX0_init 45 = .ok (.dup, 1) := by decide +kernel
theorem dX0_init_46 : decode cX0_init 46 = .ok (.invokespecial 24, 3) := by decide +kernel
theorem dX0_init_49 : decode cX0_init 49 = .ok (.aastore, 1) := by decide +kernel
theorem dX0_init_50 : decode cX0_init 50 = .ok (.iinc 1 1, 3) := by decide +kernel
theorem dX0_init_53 : decode cX0_init 53 = .ok (.goto (-22), 3) := by decide +kernel
theorem dX0_init_56 : decode cX0_init 56 = .ok (.return_, 1) := by decide +kernel
set_option maxRecDepth 20000 in
theorem ggX0_copy_X2_copy : GoodIn wsX0_copy wsX2_copy := goodIn_r _ [16, 17, 18, 19, 20, 21, 22, 23, 24, 25, 26, 5, 6, 7, 27, 28, 29, 30, 31, 32, 33, 34, 35, 36, 37, 38, 39, 40, 41, 49, 50, 51, 52, 53, 54, 55, 56, 57, 58, 59, 60, 61, 62, 63, 64, 65, 66] (by decide +kernel) (by decide +kernel)
set_option maxRecDepth 20000 in
theorem gX0_copy_X2_copy : GoodIn wsX0_copy (wsV RX0 29 RX2 yX2_copy wsX2_copy) := goodIn_app (goodIn_of _ (by decide +kernel)) ggX0_copy_X2_copy
theorem dX0_copy_0 : decode cX0_copy 0 = .ok (.iconst 0, 1) := by decide +kernel
theorem dX0_copy_1 : decode cX0_copy 1 = .ok (.istore_n 2, 1) := by decide +kernel
theorem dX0_copy_2 : decode cX0_copy 2 = .ok (.iload_n 2, 1) := by decide +kernel
theorem dX0_copy_3 : decode cX0_copy 3 = .ok (.aload_n 1, 1) := by decide +kernel
theorem dX0_copy_4 : decode cX0_copy 4 = .ok (.getfield 25, 3) := by decide +kernel
theorem dX0_copy_7 : decode cX0_copy 7 = .ok (.if_icmp .ge 24, 3) := by decide +kernel
theorem dX0_copy_10 : decode cX0_copy 10 = .ok (.aload_n 0, 1) := by decide +kernel
theorem dX0_copy_11 : decode cX0_copy 11 = .ok (.getfield 11, 3) := by decide +kernel
theorem dX0_copy_14 : decode cX0_copy 14 = .ok (.iload_n 2, 1) := by decide +kernel
theorem dX0_copy_15 : decode cX0_copy 15 = .ok (.aaload, 1) := by decide +kernel
theorem dX0_copy_16 : decode cX0_copy 16 = .ok (.aload_n 1, 1) := by decide +kernel
theorem dX0_copy_17 : decode cX0_copy 17 = .ok (.getfield 11, 3) := by decide +kernel
theorem dX0_copy_20 : decode cX0_copy 20 = .ok (.iload_n 2, 1) := by decide +kernel
theorem dX0_copy_21 : decode cX0_copy 21 = .ok (.aaload, 1) := by decide +kernel
theorem dX0_copy_22 : decode cX0_copy 22 = .ok (.invokevirtual 29, 3) := by decide +kernel
theorem dX0_copy_25 : decode cX0_copy 25 = .ok (.iinc 2 1, 3) := by decide +kernel
theorem dX0_copy_28 : decode cX0_copy 28 = .ok (.goto (-26), 3) := by decide +kernel
theorem dX0_copy_31 : decode cX0_copy 31 = .ok (.aload_n 0, 1) := by decide +kernel
theorem dX0_copy_32 : decode cX0_copy 32 = .ok (.aload_n 1, 1) := by decide +kernel
theorem dX0_copy_33 : decode cX0_copy 33 = .ok (.getfield 25, 3) := by decide +kernel
theorem dX0_copy_36 : decode cX0_copy 36 = .ok (.putfield 25, 3) := by decide +kernel
theorem dX0_copy_39 : decode cX0_copy 39 = .ok (.aload_n 1, 1) := by decide +kernel
theorem dX0_copy_40 : decode cX0_copy 40 = .ok (.getfield 17, 3) := by decide +kernel
theorem dX0_copy_43 : decode cX0_copy 43 = .ok (.iconst 0, 1) := by decide +kernel
theorem dX0_copy_44 : decode cX0_copy 44 = .ok (.aload_n 0, 1) := by decide +kernel
theorem dX0_copy_45 : decode cX0_copy 45 = .ok (.getfield 17, 3) := by decide +kernel
theorem dX0_copy_48 : decode cX0_copy 48 = .ok (.iconst 0, 1) := by decide +kernel
theorem dX0_copy_49 : decode cX0_copy 49 = .ok (.bipush 12, 2) := by decide +kernel
theorem dX0_copy_51 : decode cX0_copy 51 = .ok (.invokestatic 33, 3) := by decide +kernel
theorem dX0_copy_54 : decode cX0_copy 54 = .ok (.aload_n 1, 1) := by decide +kernel
theorem dX0_copy_55 : decode cX0_copy 55 = .ok (.getfield 21, 3) := by decide +kernel
theorem dX0_copy_58 : decode cX0_copy 58 = .ok (.iconst 0, 1) := by decide +kernel
theorem dX0_copy_59 : decode cX0_copy 59 = .ok (.aload_n 0, 1) := by decide +kernel
theorem dX0_copy_60 : decode cX0_copy 60 = .ok (.getfield 21, 3) := by decide +kernel
theorem dX0_copy_63 : decode cX0_copy 63 = .ok (.iconst 0, 1) := by decide +kernel
theorem dX0_copy_64 : decode cX0_copy 64 = .ok (.bipush 12, 2) := by decide +kernel
theorem dX0_copy_66 : decode cX0_copy 66 = .ok (.invokestatic 33, 3) := by decide +kernel
theorem dX0_copy_69 : decode cX0_copy 69 = .ok (.aload_n 0, 1) := by decide +kernel
theorem dX0_copy_70 : decode cX0_copy 70 = .ok (.aload_n 1, 1) := by decide +kernel
theorem dX0_copy_71 : decode cX0_copy 71 = .ok (.getfield 39, 3) := by decide +kernel
theorem dX0_copy_74 : decode cX0_copy 74 = .ok (.putfield 39, 3) := by decide +kernel
theorem dX0_copy_77 : decode cX0_copy 77 = .ok (.aload_n 0, 1) := by decide +kernel
theorem dX0_copy_78 : decode cX0_copy 78 = .ok (.aload_n 1, 1) := by decide +kernel
theorem dX0_copy_79 : decode cX0_copy 79 = .ok (.getfield 42, 3) := by decide +kernel
theorem dX0_copy_82 : decode cX0_copy 82 = .ok (.putfield 42, 3) := by decide +kernel
theorem dX0_copy_85 : decode cX0_copy 85 = .ok (.aload_n 0, 1) := by decide +kernel
theorem dX0_copy_86 : decode cX0_copy 86 = .ok (.aload_n 1, 1) := by decide +kernel
theorem dX0_copy_87 : decode cX0_copy 87 = .ok (.getfield 45, 3) := by decide +kernel
theorem dX0_copy_90 : decode cX0_copy 90 = .ok (.putfield 45, 3) := by decide +kernel
theorem dX0_copy_93 : decode cX0_copy 93 = .ok (.return_, 1) := by decide +kernel
theorem dX0_hasVillageAt_0 : decode cX0_hasVillageAt 0 = .ok (.iconst 0, 1) := by decide +kernel
theorem dX0_hasVillageAt_1 : decode cX0_hasVillageAt 1 = .ok (.istore_n 3, 1) := by decide +kernel
theorem dX0_hasVillageAt_2 : decode cX0_hasVillageAt 2 = .ok (.iload_n 3, 1) := by decide +kernel
theorem dX0_hasVillageAt_3 : decode cX0_hasVillageAt 3 = .ok (.aload_n 0, 1) := by decide +kernel
theorem dX0_hasVillageAt_4 : decode cX0_hasVillageAt 4 = .ok (.getfield 25, 3) := by decide +kernel
theorem dX0_hasVillageAt_7 : decode cX0_hasVillageAt 7 = .ok (.if_icmp .ge 37, 3) := by decide +kernel
theorem dX0_hasVillageAt_10 : decode cX0_hasVillageAt 10 = .ok (.aload_n 0, 1) := by decide +kernel
theorem dX0_hasVillageAt_11 : decode cX0_hasVillageAt 11 = .ok (.getfield 11, 3) := by decide +kernel
theorem dX0_hasVillageAt_14 : decode cX0_hasVillageAt 14 = .ok (.iload_n 3, 1) := by decide +kernel
theorem dX0_hasVillageAt_15 : decode cX0_hasVillageAt 15 = .ok (.aaload, 1) := by decide +kernel
theorem dX0_hasVillageAt_16 : decode cX0_hasVillageAt 16 = .ok (.getfield 48, 3) := by decide +kernel
theorem dX0_hasVillageAt_19 : decode cX0_hasVillageAt 19 = .ok (.iload_n 1, 1) := by decide +kernel
theorem dX0_hasVillageAt_20 : decode cX0_hasVillageAt 20 = .ok (.if_icmp .ne 18, 3) := by decide +kernel
theorem dX0_hasVillageAt_23 : decode cX0_hasVillageAt 23 = .ok (.aload_n 0, 1) := by decide +kernel
theorem dX0_hasVillageAt_24 : decode cX0_hasVillageAt 24 = .ok (.getfield 11, 3) := by decide +kernel
theorem dX0_hasVillageAt_27 : decode cX0_hasVillageAt 27 = .ok (.iload_n 3, 1) := by decide +kernel
theorem dX0_hasVillageAt_28 : decode cX0_hasVillageAt 28 = .ok (.aaload, 1) := by decide +kernel
theorem dX0_hasVillageAt_29 : decode cX0_hasVillageAt 29 = .ok (.getfield 51, 3) := by decide +kernel
theorem dX0_hasVillageAt_32 : decode cX0_hasVillageAt 32 = .ok (.iload_n 2, 1) := by decide +kernel
theorem dX0_hasVillageAt_33 : decode cX0_hasVillageAt 33 = .ok (.if_icmp .ne 5, 3) := by decide +kernel
theorem dX0_hasVillageAt_36 : decode cX0_hasVillageAt 36 = .ok (.iconst 1, 1) := by decide +kernel
theorem dX0_hasVillageAt_37 : decode cX0_hasVillageAt 37 = .ok (.ireturn, 1) := by decide +kernel
theorem dX0_hasVillageAt_38 : decode cX0_hasVillageAt 38 = .ok (.iinc 3 1, 3) := by decide +kernel
theorem dX0_hasVillageAt_41 : decode cX0_hasVillageAt 41 = .ok (.goto (-39), 3) := by decide +kernel
theorem dX0_hasVillageAt_44 : decode cX0_hasVillageAt 44 = .ok (.iconst 0, 1) := by decide +kernel
theorem dX0_hasVillageAt_45 : decode cX0_hasVillageAt 45 = .ok (.ireturn, 1) := by decide +kernel
theorem dX0_addVillage_0 : decode cX0_addVillage 0 = .ok (.aload_n 0, 1) := by decide +kernel
theorem dX0_addVillage_1 : decode cX0_addVillage 1 = .ok (.getfield 25, 3) := by decide +kernel
theorem dX0_addVillage_4 : decode cX0_addVillage 4 = .ok (.bipush 8, 2) := by decide +kernel
theorem dX0_addVillage_6 : decode cX0_addVillage 6 = .ok (.if_icmp .lt 5, 3) := by decide +kernel
theorem dX0_addVillage_9 : decode cX0_addVillage 9 = .ok (.iconst (-1), 1) := by decide +kernel
theorem dX0_addVillage_10 : decode cX0_addVillage 10 = .ok (.ireturn, 1) := by decide +kernel
theorem dX0_addVillage_11 : decode cX0_addVillage 11 = .ok (.aload_n 0, 1) := by decide +kernel
theorem dX0_addVillage_12 : decode cX0_addVillage 12 = .ok (.getfield 11, 3) := by decide +kernel
theorem dX0_addVillage_15 : decode cX0_addVillage 15 = .ok (.aload_n 0, 1) := by decide +kernel
theorem dX0_addVillage_16 : decode cX0_addVillage 16 = .ok (.getfield 25, 3) := by decide +kernel
theorem dX0_addVillage_19 : decode cX0_addVillage 19 = .ok (.aaload, 1) := by decide +kernel
theorem dX0_addVillage_20 : decode cX0_addVillage 20 = .ok (.astore 4, 2) := by decide +kernel
theorem dX0_addVillage_22 : decode cX0_addVillage 22 = .ok (.aload 4, 2) := by decide +kernel
theorem dX0_addVillage_24 : decode cX0_addVillage 24 = .ok (.iload_n 1, 1) := by decide +kernel
theorem dX0_addVillage_25 : decode cX0_addVillage 25 = .ok (.putfield 48, 3) := by decide +kernel
theorem dX0_addVillage_28 : decode cX0_addVillage 28 = .ok (.aload 4, 2) := by decide +kernel
theorem dX0_addVillage_30 : decode cX0_addVillage 30 = .ok (.iload_n 2, 1) := by decide +kernel
theorem dX0_addVillage_31 : decode cX0_addVillage 31 = .ok (.putfield 51, 3) := by decide +kernel
theorem dX0_addVillage_34 : decode cX0_addVillage 34 = .ok (.aload 4, 2) := by decide +kernel
theorem dX0_addVillage_36 : decode cX0_addVillage 36 = .ok (.iload_n 3, 1) := by decide +kernel
theorem dX0_addVillage_37 : decode cX0_addVillage 37 = .ok (.putfield 54, 3) := by decide +kernel
theorem dX0_addVillage_40 : decode cX0_addVillage 40 = .ok (.aload_n 0, 1) := by decide +kernel
theorem dX0_addVillage_41 : decode cX0_addVillage 41 = .ok (.dup, 1) := by decide +kernel
theorem dX0_addVillage_42 : decode cX0_addVillage 42 = .ok (.getfield 25, 3) := by decide +kernel
theorem dX0_addVillage_45 : decode cX0_addVillage 45 = .ok (.iconst 1, 1) := by decide +kernel
theorem dX0_addVillage_46 : decode cX0_addVillage 46 = .ok (.iadd, 1) := by decide +kernel
theorem dX0_addVillage_47 : decode cX0_addVillage 47 = .ok (.putfield 25, 3) := by decide +kernel
theorem dX0_addVillage_50 : decode cX0_addVillage 50 = .ok (.aload_n 0, 1) := by decide +kernel
theorem dX0_addVillage_51 : decode cX0_addVillage 51 = .ok (.getfield 25, 3) := by decide +kernel
theorem dX0_addVillage_54 : decode cX0_addVillage 54 = .ok (.iconst 1, 1) := by decide +kernel
theorem dX0_addVillage_55 : decode cX0_addVillage 55 = .ok (.isub, 1) := by decide +kernel
theorem dX0_addVillage_56 : decode cX0_addVillage 56 = .ok (.ireturn, 1) := by decide +kernel
theorem dX0_hasPhrase_0 : decode cX0_hasPhrase 0 = .ok (.iconst 0, 1) := by decide +kernel
theorem dX0_hasPhrase_1 : decode cX0_hasPhrase 1 = .ok (.istore_n 2, 1) := by decide +kernel
theorem dX0_hasPhrase_2 : decode cX0_hasPhrase 2 = .ok (.iload_n 2, 1) := by decide +kernel
theorem dX0_hasPhrase_3 : decode cX0_hasPhrase 3 = .ok (.aload_n 0, 1) := by decide +kernel
theorem dX0_hasPhrase_4 : decode cX0_hasPhrase 4 = .ok (.getfield 39, 3) := by decide +kernel
theorem dX0_hasPhrase_7 : decode cX0_hasPhrase 7 = .ok (.if_icmp .ge 21, 3) := by decide +kernel
theorem dX0_hasPhrase_10 : decode cX0_hasPhrase 10 = .ok (.aload_n 0, 1) := by decide +kernel
theorem dX0_hasPhrase_11 : decode cX0_hasPhrase 11 = .ok (.getfield 17, 3) := by decide +kernel
theorem dX0_hasPhrase_14 : decode cX0_hasPhrase 14 = .ok (.iload_n 2, 1) := by decide +kernel
theorem dX0_hasPhrase_15 : decode cX0_hasPhrase 15 = .ok (.iaload, 1) := by decide +kernel
theorem dX0_hasPhrase_16 : decode cX0_hasPhrase 16 = .ok (.iload_n 1, 1) := by decide +kernel
theorem dX0_hasPhrase_17 : decode cX0_hasPhrase 17 = .ok (.if_icmp .ne 5, 3) := by decide +kernel
theorem dX0_hasPhrase_20 : decode cX0_hasPhrase 20 = .ok (.iconst 1, 1) := by decide +kernel
theorem dX0_hasPhrase_21 : decode cX0_hasPhrase 21 = .ok (.ireturn, 1) := by decide +kernel
theorem dX0_hasPhrase_22 : decode cX0_hasPhrase 22 = .ok (.iinc 2 1, 3) := by decide +kernel
theorem dX0_hasPhrase_25 : decode cX0_hasPhrase 25 = .ok (.goto (-23), 3) := by decide +kernel
theorem dX0_hasPhrase_28 : decode cX0_hasPhrase 28 = .ok (.iconst 0, 1) := by decide +kernel
theorem dX0_hasPhrase_29 : decode cX0_hasPhrase 29 = .ok (.ireturn, 1) := by decide +kernel
theorem dX0_addPhrase_0 : decode cX0_addPhrase 0 = .ok (.aload_n 0, 1) := by decide +kernel
theorem dX0_addPhrase_1 : decode cX0_addPhrase 1 = .ok (.getfield 39, 3) := by decide +kernel
theorem dX0_addPhrase_4 : decode cX0_addPhrase 4 = .ok (.bipush 12, 2) := by decide +kernel
theorem dX0_addPhrase_6 : decode cX0_addPhrase 6 = .ok (.if_icmp .lt 5, 3) := by decide +kernel
theorem dX0_addPhrase_9 : decode cX0_addPhrase 9 = .ok (.iconst (-1), 1) := by decide +kernel
theorem dX0_addPhrase_10 : decode cX0_addPhrase 10 = .ok (.ireturn, 1) := by decide +kernel
theorem dX0_addPhrase_11 : decode cX0_addPhrase 11 = .ok (.aload_n 0, 1) := by decide +kernel
theorem dX0_addPhrase_12 : decode cX0_addPhrase 12 = .ok (.getfield 17, 3) := by decide +kernel
theorem dX0_addPhrase_15 : decode cX0_addPhrase 15 = .ok (.aload_n 0, 1) := by decide +kernel
theorem dX0_addPhrase_16 : decode cX0_addPhrase 16 = .ok (.getfield 39, 3) := by decide +kernel
theorem dX0_addPhrase_19 : decode cX0_addPhrase 19 = .ok (.iload_n 1, 1) := by decide +kernel
theorem dX0_addPhrase_20 : decode cX0_addPhrase 20 = .ok (.iastore, 1) := by decide +kernel
theorem dX0_addPhrase_21 : decode cX0_addPhrase 21 = .ok (.aload_n 0, 1) := by decide +kernel
theorem dX0_addPhrase_22 : decode cX0_addPhrase 22 = .ok (.getfield 21, 3) := by decide +kernel
theorem dX0_addPhrase_25 : decode cX0_addPhrase 25 = .ok (.aload_n 0, 1) := by decide +kernel
theorem dX0_addPhrase_26 : decode cX0_addPhrase 26 = .ok (.getfield 39, 3) := by decide +kernel
theorem dX0_addPhrase_29 : decode cX0_addPhrase 29 = .ok (.iload_n 2, 1) := by decide +kernel
theorem dX0_addPhrase_30 : decode cX0_addPhrase 30 = .ok (.iastore, 1) := by decide +kernel
theorem dX0_addPhrase_31 : decode cX0_addPhrase 31 = .ok (.aload_n 0, 1) := by decide +kernel
theorem dX0_addPhrase_32 : decode cX0_addPhrase 32 = .ok (.dup, 1) := by decide +kernel
theorem dX0_addPhrase_33 : decode cX0_addPhrase 33 = .ok (.getfield 39, 3) := by decide +kernel
theorem dX0_addPhrase_36 : decode cX0_addPhrase 36 = .ok (.iconst 1, 1) := by decide +kernel
theorem dX0_addPhrase_37 : decode cX0_addPhrase 37 = .ok (.iadd, 1) := by decide +kernel
theorem dX0_addPhrase_38 : decode cX0_addPhrase 38 = .ok (.putfield 39, 3) := by decide +kernel
theorem dX0_addPhrase_41 : decode cX0_addPhrase 41 = .ok (.aload_n 0, 1) := by decide +kernel
theorem dX0_addPhrase_42 : decode cX0_addPhrase 42 = .ok (.getfield 39, 3) := by decide +kernel
theorem dX0_addPhrase_45 : decode cX0_addPhrase 45 = .ok (.iconst 1, 1) := by decide +kernel
theorem dX0_addPhrase_46 : decode cX0_addPhrase 46 = .ok (.isub, 1) := by decide +kernel
theorem dX0_addPhrase_47 : decode cX0_addPhrase 47 = .ok (.ireturn, 1) := by decide +kernel
set_option maxRecDepth 20000 in
theorem ggX0_figure_X0_drummers : GoodIn wsX0_figure wsX0_drummers := goodIn_r _ [9, 2, 10, 11, 12, 13, 14, 15, 16, 41, 42, 43, 44, 45, 46, 47, 48, 49, 50, 51, 52, 53, 54, 55, 56, 57, 58, 59, 60] (by decide +kernel) (by decide +kernel)
set_option maxRecDepth 20000 in
theorem gX0_figure_X0_drummers : GoodIn wsX0_figure (wsV RX0 57 RX0 yX0_drummers wsX0_drummers) := goodIn_app (goodIn_of _ (by decide +kernel)) ggX0_figure_X0_drummers
set_option maxRecDepth 20000 in
theorem ggX0_figure_X0_soundsInTheAir : GoodIn wsX0_figure wsX0_soundsInTheAir := goodIn_r _ [20, 2, 10, 21, 22, 41, 42, 43, 44, 45, 46, 47, 48, 49, 50, 51, 52, 53, 54, 55, 56, 57, 58, 59, 60, 61, 62, 63, 64, 65] (by decide +kernel) (by decide +kernel)
set_option maxRecDepth 20000 in
theorem gX0_figure_X0_soundsInTheAir : GoodIn wsX0_figure (wsV RX0 61 RX0 yX0_soundsInTheAir wsX0_soundsInTheAir) := goodIn_app (goodIn_of _ (by decide +kernel)) ggX0_figure_X0_soundsInTheAir
set_option maxRecDepth 20000 in
theorem ggX0_figure_X0_soundsDrowned : GoodIn wsX0_figure wsX0_soundsDrowned := goodIn_r _ [26, 2, 10, 27, 41, 42, 43, 44, 45, 46, 47, 48, 49, 50, 51, 52, 53, 54, 55, 56, 57, 58, 59, 60] (by decide +kernel) (by decide +kernel)
set_option maxRecDepth 20000 in
theorem gX0_figure_X0_soundsDrowned : GoodIn wsX0_figure (wsV RX0 64 RX0 yX0_soundsDrowned wsX0_soundsDrowned) := goodIn_app (goodIn_of _ (by decide +kernel)) ggX0_figure_X0_soundsDrowned
set_option maxRecDepth 20000 in
theorem ggX0_figure_X0_knownPairs : GoodIn wsX0_figure wsX0_knownPairs := goodIn_r _ [31, 2, 10, 32, 33, 34, 14, 35, 36, 37, 38, 39, 40, 41, 42, 43, 44, 45, 46, 47, 48, 49, 50, 51, 52, 53, 54, 55, 56, 57, 58, 59, 60] (by decide +kernel) (by decide +kernel)
set_option maxRecDepth 20000 in
theorem gX0_figure_X0_knownPairs : GoodIn wsX0_figure (wsV RX0 67 RX0 yX0_knownPairs wsX0_knownPairs) := goodIn_app (goodIn_of _ (by decide +kernel)) ggX0_figure_X0_knownPairs
theorem dX0_figure_0 : decode cX0_figure 0 = .ok (.iload_n 1, 1) := by decide +kernel
theorem dX0_figure_1 : decode cX0_figure 1 = .ok (.tableswitch 78 0 6 #[43, 48, 53, 58, 63, 68, 73], 43) := by decide +kernel
theorem dX0_figure_44 : decode cX0_figure 44 = .ok (.aload_n 0, 1) := by decide +kernel
theorem dX0_figure_45 : decode cX0_figure 45 = .ok (.getfield 42, 3) := by decide +kernel
theorem dX0_figure_48 : decode cX0_figure 48 = .ok (.ireturn, 1) := by decide +kernel
theorem dX0_figure_49 : decode cX0_figure 49 = .ok (.aload_n 0, 1) := by decide +kernel
theorem dX0_figure_50 : decode cX0_figure 50 = .ok (.getfield 25, 3) := by decide +kernel
theorem dX0_figure_53 : decode cX0_figure 53 = .ok (.ireturn, 1) := by decide +kernel
theorem dX0_figure_54 : decode cX0_figure 54 = .ok (.aload_n 0, 1) := by decide +kernel
theorem dX0_figure_55 : decode cX0_figure 55 = .ok (.getfield 39, 3) := by decide +kernel
theorem dX0_figure_58 : decode cX0_figure 58 = .ok (.ireturn, 1) := by decide +kernel
theorem dX0_figure_59 : decode cX0_figure 59 = .ok (.aload_n 0, 1) := by decide +kernel
theorem dX0_figure_60 : decode cX0_figure 60 = .ok (.invokevirtual 57, 3) := by decide +kernel
theorem dX0_figure_63 : decode cX0_figure 63 = .ok (.ireturn, 1) := by decide +kernel
theorem dX0_figure_64 : decode cX0_figure 64 = .ok (.aload_n 0, 1) := by decide +kernel
theorem dX0_figure_65 : decode cX0_figure 65 = .ok (.invokevirtual 61, 3) := by decide +kernel
theorem dX0_figure_68 : decode cX0_figure 68 = .ok (.ireturn, 1) := by decide +kernel
theorem dX0_figure_69 : decode cX0_figure 69 = .ok (.aload_n 0, 1) := by decide +kernel
theorem dX0_figure_70 : decode cX0_figure 70 = .ok (.getfield 45, 3) := by decide +kernel
theorem dX0_figure_73 : decode cX0_figure 73 = .ok (.ireturn, 1) := by decide +kernel
theorem dX0_figure_74 : decode cX0_figure 74 = .ok (.aload_n 0, 1) := by decide +kernel
theorem dX0_figure_75 : decode cX0_figure 75 = .ok (.invokevirtual 64, 3) := by decide +kernel
theorem dX0_figure_78 : decode cX0_figure 78 = .ok (.ireturn, 1) := by decide +kernel
theorem dX0_figure_79 : decode cX0_figure 79 = .ok (.aload_n 0, 1) := by decide +kernel
theorem dX0_figure_80 : decode cX0_figure 80 = .ok (.invokevirtual 67, 3) := by decide +kernel
theorem dX0_figure_83 : decode cX0_figure 83 = .ok (.ireturn, 1) := by decide +kernel
set_option maxRecDepth 20000 in
theorem ggX0_drummers_X2_isDrumming : GoodIn wsX0_drummers wsX2_isDrumming := goodIn_r _ [7, 8, 16, 17, 18, 19, 20, 21, 22, 23, 24, 25, 26, 27, 28] (by decide +kernel) (by decide +kernel)
set_option maxRecDepth 20000 in
theorem gX0_drummers_X2_isDrumming : GoodIn wsX0_drummers (wsV RX0 70 RX2 yX2_isDrumming wsX2_isDrumming) := goodIn_app (goodIn_of _ (by decide +kernel)) ggX0_drummers_X2_isDrumming
theorem dX0_drummers_0 : decode cX0_drummers 0 = .ok (.iconst 0, 1) := by decide +kernel
theorem dX0_drummers_1 : decode cX0_drummers 1 = .ok (.istore_n 1, 1) := by decide +kernel
theorem dX0_drummers_2 : decode cX0_drummers 2 = .ok (.iconst 0, 1) := by decide +kernel
theorem dX0_drummers_3 : decode cX0_drummers 3 = .ok (.istore_n 2, 1) := by decide +kernel
theorem dX0_drummers_4 : decode cX0_drummers 4 = .ok (.iload_n 2, 1) := by decide +kernel
theorem dX0_drummers_5 : decode cX0_drummers 5 = .ok (.aload_n 0, 1) := by decide +kernel
theorem dX0_drummers_6 : decode cX0_drummers 6 = .ok (.getfield 25, 3) := by decide +kernel
theorem dX0_drummers_9 : decode cX0_drummers 9 = .ok (.if_icmp .ge 24, 3) := by decide +kernel
theorem dX0_drummers_12 : decode cX0_drummers 12 = .ok (.aload_n 0, 1) := by decide +kernel
theorem dX0_drummers_13 : decode cX0_drummers 13 = .ok (.getfield 11, 3) := by decide +kernel
theorem dX0_drummers_16 : decode cX0_drummers 16 = .ok (.iload_n 2, 1) := by decide +kernel
theorem dX0_drummers_17 : decode cX0_drummers 17 = .ok (.aaload, 1) := by decide +kernel
theorem dX0_drummers_18 : decode cX0_drummers 18 = .ok (.invokevirtual 70, 3) := by decide +kernel
theorem dX0_drummers_21 : decode cX0_drummers 21 = .ok (.ifCond .eq 6, 3) := by decide +kernel
theorem dX0_drummers_24 : decode cX0_drummers 24 = .ok (.iinc 1 1, 3) := by decide +kernel
theorem dX0_drummers_27 : decode cX0_drummers 27 = .ok (.iinc 2 1, 3) := by decide +kernel
theorem dX0_drummers_30 : decode cX0_drummers 30 = .ok (.goto (-26), 3) := by decide +kernel
theorem dX0_drummers_33 : decode cX0_drummers 33 = .ok (.iload_n 1, 1) := by decide +kernel
theorem dX0_drummers_34 : decode cX0_drummers 34 = .ok (.ireturn, 1) := by decide +kernel
theorem dX0_soundsInTheAir_0 : decode cX0_soundsInTheAir 0 = .ok (.iconst 0, 1) := by decide +kernel
theorem dX0_soundsInTheAir_1 : decode cX0_soundsInTheAir 1 = .ok (.istore_n 1, 1) := by decide +kernel
theorem dX0_soundsInTheAir_2 : decode cX0_soundsInTheAir 2 = .ok (.iconst 0, 1) := by decide +kernel
theorem dX0_soundsInTheAir_3 : decode cX0_soundsInTheAir 3 = .ok (.istore_n 2, 1) := by decide +kernel
theorem dX0_soundsInTheAir_4 : decode cX0_soundsInTheAir 4 = .ok (.iload_n 2, 1) := by decide +kernel
theorem dX0_soundsInTheAir_5 : decode cX0_soundsInTheAir 5 = .ok (.aload_n 0, 1) := by decide +kernel
theorem dX0_soundsInTheAir_6 : decode cX0_soundsInTheAir 6 = .ok (.getfield 25, 3) := by decide +kernel
theorem dX0_soundsInTheAir_9 : decode cX0_soundsInTheAir 9 = .ok (.if_icmp .ge 24, 3) := by decide +kernel
theorem dX0_soundsInTheAir_12 : decode cX0_soundsInTheAir 12 = .ok (.iload_n 1, 1) := by decide +kernel
theorem dX0_soundsInTheAir_13 : decode cX0_soundsInTheAir 13 = .ok (.aload_n 0, 1) := by decide +kernel
theorem dX0_soundsInTheAir_14 : decode cX0_soundsInTheAir 14 = .ok (.getfield 11, 3) := by decide +kernel
theorem dX0_soundsInTheAir_17 : decode cX0_soundsInTheAir 17 = .ok (.iload_n 2, 1) := by decide +kernel
theorem dX0_soundsInTheAir_18 : decode cX0_soundsInTheAir 18 = .ok (.aaload, 1) := by decide +kernel
theorem dX0_soundsInTheAir_19 : decode cX0_soundsInTheAir 19 = .ok (.getfield 74, 3) := by decide +kernel
theorem dX0_soundsInTheAir_22 : decode cX0_soundsInTheAir 22 = .ok (.getfield 78, 3) := by decide +kernel
theorem dX0_soundsInTheAir_25 : decode cX0_soundsInTheAir 25 = .ok (.iadd, 1) := by decide +kernel
theorem dX0_soundsInTheAir_26 : decode cX0_soundsInTheAir 26 = .ok (.istore_n 1, 1) := by decide +kernel
theorem dX0_soundsInTheAir_27 : decode cX0_soundsInTheAir 27 = .ok (.iinc 2 1, 3) := by decide +kernel
theorem dX0_soundsInTheAir_30 : decode cX0_soundsInTheAir 30 = .ok (.goto (-26), 3) := by decide +kernel
theorem dX0_soundsInTheAir_33 : decode cX0_soundsInTheAir 33 = .ok (.iload_n 1, 1) := by decide +kernel
theorem dX0_soundsInTheAir_34 : decode cX0_soundsInTheAir 34 = .ok (.ireturn, 1) := by decide +kernel
theorem dX0_soundsDrowned_0 : decode cX0_soundsDrowned 0 = .ok (.iconst 0, 1) := by decide +kernel
theorem dX0_soundsDrowned_1 : decode cX0_soundsDrowned 1 = .ok (.istore_n 1, 1) := by decide +kernel
theorem dX0_soundsDrowned_2 : decode cX0_soundsDrowned 2 = .ok (.iconst 0, 1) := by decide +kernel
theorem dX0_soundsDrowned_3 : decode cX0_soundsDrowned 3 = .ok (.istore_n 2, 1) := by decide +kernel
theorem dX0_soundsDrowned_4 : decode cX0_soundsDrowned 4 = .ok (.iload_n 2, 1) := by decide +kernel
theorem dX0_soundsDrowned_5 : decode cX0_soundsDrowned 5 = .ok (.aload_n 0, 1) := by decide +kernel
theorem dX0_soundsDrowned_6 : decode cX0_soundsDrowned 6 = .ok (.getfield 25, 3) := by decide +kernel
theorem dX0_soundsDrowned_9 : decode cX0_soundsDrowned 9 = .ok (.if_icmp .ge 21, 3) := by decide +kernel
theorem dX0_soundsDrowned_12 : decode cX0_soundsDrowned 12 = .ok (.iload_n 1, 1) := by decide +kernel
theorem dX0_soundsDrowned_13 : decode cX0_soundsDrowned 13 = .ok (.aload_n 0, 1) := by decide +kernel
theorem dX0_soundsDrowned_14 : decode cX0_soundsDrowned 14 = .ok (.getfield 11, 3) := by decide +kernel
theorem dX0_soundsDrowned_17 : decode cX0_soundsDrowned 17 = .ok (.iload_n 2, 1) := by decide +kernel
theorem dX0_soundsDrowned_18 : decode cX0_soundsDrowned 18 = .ok (.aaload, 1) := by decide +kernel
theorem dX0_soundsDrowned_19 : decode cX0_soundsDrowned 19 = .ok (.getfield 83, 3) := by decide +kernel
theorem dX0_soundsDrowned_22 : decode cX0_soundsDrowned 22 = .ok (.iadd, 1) := by decide +kernel
theorem dX0_soundsDrowned_23 : decode cX0_soundsDrowned 23 = .ok (.istore_n 1, 1) := by decide +kernel
theorem dX0_soundsDrowned_24 : decode cX0_soundsDrowned 24 = .ok (.iinc 2 1, 3) := by decide +kernel
theorem dX0_soundsDrowned_27 : decode cX0_soundsDrowned 27 = .ok (.goto (-23), 3) := by decide +kernel
theorem dX0_soundsDrowned_30 : decode cX0_soundsDrowned 30 = .ok (.iload_n 1, 1) := by decide +kernel
theorem dX0_soundsDrowned_31 : decode cX0_soundsDrowned 31 = .ok (.ireturn, 1) := by decide +kernel
set_option maxRecDepth 20000 in
theorem ggX0_knownPairs_X2_phrasesKnown : GoodIn wsX0_knownPairs wsX2_phrasesKnown := goodIn_r _ [7, 8, 9, 10, 6, 11, 12, 20, 21, 22, 23, 24, 25, 26, 27, 28, 29, 30, 31, 32] (by decide +kernel) (by decide +kernel)
set_option maxRecDepth 20000 in
theorem gX0_knownPairs_X2_phrasesKnown : GoodIn wsX0_knownPairs (wsV RX0 86 RX2 yX2_phrasesKnown wsX2_phrasesKnown) := goodIn_app (goodIn_of _ (by decide +kernel)) ggX0_knownPairs_X2_phrasesKnown
theorem dX0_knownPairs_0 : decode cX0_knownPairs 0 = .ok (.iconst 0, 1) := by decide +kernel
theorem dX0_knownPairs_1 : decode cX0_knownPairs 1 = .ok (.istore_n 1, 1) := by decide +kernel
theorem dX0_knownPairs_2 : decode cX0_knownPairs 2 = .ok (.iconst 0, 1) := by decide +kernel
theorem dX0_knownPairs_3 : decode cX0_knownPairs 3 = .ok (.istore_n 2, 1) := by decide +kernel
theorem dX0_knownPairs_4 : decode cX0_knownPairs 4 = .ok (.iload_n 2, 1) := by decide +kernel
theorem dX0_knownPairs_5 : decode cX0_knownPairs 5 = .ok (.aload_n 0, 1) := by decide +kernel
theorem dX0_knownPairs_6 : decode cX0_knownPairs 6 = .ok (.getfield 25, 3) := by decide +kernel
theorem dX0_knownPairs_9 : decode cX0_knownPairs 9 = .ok (.if_icmp .ge 21, 3) := by decide +kernel
theorem dX0_knownPairs_12 : decode cX0_knownPairs 12 = .ok (.iload_n 1, 1) := by decide +kernel
theorem dX0_knownPairs_13 : decode cX0_knownPairs 13 = .ok (.aload_n 0, 1) := by decide +kernel
theorem dX0_knownPairs_14 : decode cX0_knownPairs 14 = .ok (.getfield 11, 3) := by decide +kernel
theorem dX0_knownPairs_17 : decode cX0_knownPairs 17 = .ok (.iload_n 2, 1) := by decide +kernel
theorem dX0_knownPairs_18 : decode cX0_knownPairs 18 = .ok (.aaload, 1) := by decide +kernel
theorem dX0_knownPairs_19 : decode cX0_knownPairs 19 = .ok (.invokevirtual 86, 3) := by decide +kernel
theorem dX0_knownPairs_22 : decode cX0_knownPairs 22 = .ok (.iadd, 1) := by decide +kernel
theorem dX0_knownPairs_23 : decode cX0_knownPairs 23 = .ok (.istore_n 1, 1) := by decide +kernel
theorem dX0_knownPairs_24 : decode cX0_knownPairs 24 = .ok (.iinc 2 1, 3) := by decide +kernel
theorem dX0_knownPairs_27 : decode cX0_knownPairs 27 = .ok (.goto (-23), 3) := by decide +kernel
theorem dX0_knownPairs_30 : decode cX0_knownPairs 30 = .ok (.iload_n 1, 1) := by decide +kernel
theorem dX0_knownPairs_31 : decode cX0_knownPairs 31 = .ok (.ireturn, 1) := by decide +kernel
set_option maxRecDepth 20000 in
theorem ggX0_knowersOf_X2_isKnown : GoodIn wsX0_knowersOf wsX2_isKnown := goodIn_r _ [7, 8, 16, 17, 18, 19, 20, 21, 22, 23, 24, 25, 26, 27, 28] (by decide +kernel) (by decide +kernel)
set_option maxRecDepth 20000 in
theorem gX0_knowersOf_X2_isKnown : GoodIn wsX0_knowersOf (wsV RX0 89 RX2 yX2_isKnown wsX2_isKnown) := goodIn_app (goodIn_of _ (by decide +kernel)) ggX0_knowersOf_X2_isKnown
theorem dX0_knowersOf_0 : decode cX0_knowersOf 0 = .ok (.iconst 0, 1) := by decide +kernel
theorem dX0_knowersOf_1 : decode cX0_knowersOf 1 = .ok (.istore_n 2, 1) := by decide +kernel
theorem dX0_knowersOf_2 : decode cX0_knowersOf 2 = .ok (.iconst 0, 1) := by decide +kernel
theorem dX0_knowersOf_3 : decode cX0_knowersOf 3 = .ok (.istore_n 3, 1) := by decide +kernel
theorem dX0_knowersOf_4 : decode cX0_knowersOf 4 = .ok (.iload_n 3, 1) := by decide +kernel
theorem dX0_knowersOf_5 : decode cX0_knowersOf 5 = .ok (.aload_n 0, 1) := by decide +kernel
theorem dX0_knowersOf_6 : decode cX0_knowersOf 6 = .ok (.getfield 25, 3) := by decide +kernel
theorem dX0_knowersOf_9 : decode cX0_knowersOf 9 = .ok (.if_icmp .ge 25, 3) := by decide +kernel
theorem dX0_knowersOf_12 : decode cX0_knowersOf 12 = .ok (.aload_n 0, 1) := by decide +kernel
theorem dX0_knowersOf_13 : decode cX0_knowersOf 13 = .ok (.getfield 11, 3) := by decide +kernel
theorem dX0_knowersOf_16 : decode cX0_knowersOf 16 = .ok (.iload_n 3, 1) := by decide +kernel
theorem dX0_knowersOf_17 : decode cX0_knowersOf 17 = .ok (.aaload, 1) := by decide +kernel
theorem dX0_knowersOf_18 : decode cX0_knowersOf 18 = .ok (.iload_n 1, 1) := by decide +kernel
theorem dX0_knowersOf_19 : decode cX0_knowersOf 19 = .ok (.invokevirtual 89, 3) := by decide +kernel
theorem dX0_knowersOf_22 : decode cX0_knowersOf 22 = .ok (.ifCond .eq 6, 3) := by decide +kernel
theorem dX0_knowersOf_25 : decode cX0_knowersOf 25 = .ok (.iinc 2 1, 3) := by decide +kernel
theorem dX0_knowersOf_28 : decode cX0_knowersOf 28 = .ok (.iinc 3 1, 3) := by decide +kernel
theorem dX0_knowersOf_31 : decode cX0_knowersOf 31 = .ok (.goto (-27), 3) := by decide +kernel
theorem dX0_knowersOf_34 : decode cX0_knowersOf 34 = .ok (.iload_n 2, 1) := by decide +kernel
theorem dX0_knowersOf_35 : decode cX0_knowersOf 35 = .ok (.ireturn, 1) := by decide +kernel
set_option maxRecDepth 20000 in
theorem ggX0_hearersOf_X2_distanceTo : GoodIn wsX0_hearersOf wsX2_distanceTo := goodIn_r _ [7, 8, 9, 10, 11, 12, 13, 26, 27, 28, 29, 30, 31, 32, 33, 34, 35, 36, 37, 38] (by decide +kernel) (by decide +kernel)
set_option maxRecDepth 20000 in
theorem gX0_hearersOf_X2_distanceTo : GoodIn wsX0_hearersOf (wsV RX0 93 RX2 yX2_distanceTo wsX2_distanceTo) := goodIn_app (goodIn_of _ (by decide +kernel)) ggX0_hearersOf_X2_distanceTo
set_option maxRecDepth 20000 in
theorem ggX0_hearersOf_X2_isHeardAt : GoodIn wsX0_hearersOf wsX2_isHeardAt := goodIn_r _ [17, 18, 26, 27, 28, 29, 30, 31, 32, 33, 34, 35, 36, 37, 38] (by decide +kernel) (by decide +kernel)
set_option maxRecDepth 20000 in
theorem gX0_hearersOf_X2_isHeardAt : GoodIn wsX0_hearersOf (wsV RX0 97 RX2 yX2_isHeardAt wsX2_isHeardAt) := goodIn_app (goodIn_of _ (by decide +kernel)) ggX0_hearersOf_X2_isHeardAt
theorem dX0_hearersOf_0 : decode cX0_hearersOf 0 = .ok (.iconst 0, 1) := by decide +kernel
theorem dX0_hearersOf_1 : decode cX0_hearersOf 1 = .ok (.istore_n 2, 1) := by decide +kernel
theorem dX0_hearersOf_2 : decode cX0_hearersOf 2 = .ok (.iconst 0, 1) := by decide +kernel
theorem dX0_hearersOf_3 : decode cX0_hearersOf 3 = .ok (.istore_n 3, 1) := by decide +kernel
theorem dX0_hearersOf_4 : decode cX0_hearersOf 4 = .ok (.iload_n 3, 1) := by decide +kernel
theorem dX0_hearersOf_5 : decode cX0_hearersOf 5 = .ok (.aload_n 0, 1) := by decide +kernel
theorem dX0_hearersOf_6 : decode cX0_hearersOf 6 = .ok (.getfield 25, 3) := by decide +kernel
theorem dX0_hearersOf_9 : decode cX0_hearersOf 9 = .ok (.if_icmp .ge 71, 3) := by decide +kernel
theorem dX0_hearersOf_12 : decode cX0_hearersOf 12 = .ok (.iload_n 1, 1) := by decide +kernel
theorem dX0_hearersOf_13 : decode cX0_hearersOf 13 = .ok (.iload_n 3, 1) := by decide +kernel
theorem dX0_hearersOf_14 : decode cX0_hearersOf 14 = .ok (.ishr, 1) := by decide +kernel
theorem dX0_hearersOf_15 : decode cX0_hearersOf 15 = .ok (.iconst 1, 1) := by decide +kernel
theorem dX0_hearersOf_16 : decode cX0_hearersOf 16 = .ok (.iand, 1) := by decide +kernel
theorem dX0_hearersOf_17 : decode cX0_hearersOf 17 = .ok (.iconst 1, 1) := by decide +kernel
theorem dX0_hearersOf_18 : decode cX0_hearersOf 18 = .ok (.if_icmp .ne 56, 3) := by decide +kernel
theorem dX0_hearersOf_21 : decode cX0_hearersOf 21 = .ok (.iconst 0, 1) := by decide +kernel
theorem dX0_hearersOf_22 : decode cX0_hearersOf 22 = .ok (.istore 4, 2) := by decide +kernel
theorem dX0_hearersOf_24 : decode cX0_hearersOf 24 = .ok (.iload 4, 2) := by decide +kernel
theorem dX0_hearersOf_26 : decode cX0_hearersOf 26 = .ok (.aload_n 0, 1) := by decide +kernel
theorem dX0_hearersOf_27 : decode cX0_hearersOf 27 = .ok (.getfield 25, 3) := by decide +kernel
theorem dX0_hearersOf_30 : decode cX0_hearersOf 30 = .ok (.if_icmp .ge 44, 3) := by decide +kernel
theorem dX0_hearersOf_33 : decode cX0_hearersOf 33 = .ok (.aload_n 0, 1) := by decide +kernel
theorem dX0_hearersOf_34 : decode cX0_hearersOf 34 = .ok (.getfield 11, 3) := by decide +kernel
theorem dX0_hearersOf_37 : decode cX0_hearersOf 37 = .ok (.iload_n 3, 1) := by decide +kernel
theorem dX0_hearersOf_38 : decode cX0_hearersOf 38 = .ok (.aaload, 1) := by decide +kernel
theorem dX0_hearersOf_39 : decode cX0_hearersOf 39 = .ok (.aload_n 0, 1) := by decide +kernel
theorem dX0_hearersOf_40 : decode cX0_hearersOf 40 = .ok (.getfield 11, 3) := by decide +kernel
theorem dX0_hearersOf_43 : decode cX0_hearersOf 43 = .ok (.iload_n 3, 1) := by decide +kernel
theorem dX0_hearersOf_44 : decode cX0_hearersOf 44 = .ok (.aaload, 1) := by decide +kernel
theorem dX0_hearersOf_45 : decode cX0_hearersOf 45 = .ok (.aload_n 0, 1) := by decide +kernel
theorem dX0_hearersOf_46 : decode cX0_hearersOf 46 = .ok (.getfield 11, 3) := by decide +kernel
theorem dX0_hearersOf_49 : decode cX0_hearersOf 49 = .ok (.iload 4, 2) := by decide +kernel
theorem dX0_hearersOf_51 : decode cX0_hearersOf 51 = .ok (.aaload, 1) := by decide +kernel
theorem dX0_hearersOf_52 : decode cX0_hearersOf 52 = .ok (.invokevirtual 93, 3) := by decide +kernel
theorem dX0_hearersOf_55 : decode cX0_hearersOf 55 = .ok (.invokevirtual 97, 3) := by decide +kernel
theorem dX0_hearersOf_58 : decode cX0_hearersOf 58 = .ok (.ifCond .eq 10, 3) := by decide +kernel
theorem dX0_hearersOf_61 : decode cX0_hearersOf 61 = .ok (.iload_n 2, 1) := by decide +kernel
theorem dX0_hearersOf_62 : decode cX0_hearersOf 62 = .ok (.iconst 1, 1) := by decide +kernel
theorem dX0_hearersOf_63 : decode cX0_hearersOf 63 = .ok (.iload 4, 2) := by decide +kernel
theorem dX0_hearersOf_65 : decode cX0_hearersOf 65 = .ok (.ishl, 1) := by decide +kernel
theorem dX0_hearersOf_66 : decode cX0_hearersOf 66 = .ok (.ior, 1) := by decide +kernel
theorem dX0_hearersOf_67 : decode cX0_hearersOf 67 = .ok (.istore_n 2, 1) := by decide +kernel
theorem dX0_hearersOf_68 : decode cX0_hearersOf 68 = .ok (.iinc 4 1, 3) := by decide +kernel
theorem dX0_hearersOf_71 : decode cX0_hearersOf 71 = .ok (.goto (-47), 3) := by decide +kernel
theorem dX0_hearersOf_74 : decode cX0_hearersOf 74 = .ok (.iinc 3 1, 3) := by decide +kernel
theorem dX0_hearersOf_77 : decode cX0_hearersOf 77 = .ok (.goto (-73), 3) := by decide +kernel
theorem dX0_hearersOf_80 : decode cX0_hearersOf 80 = .ok (.iload_n 2, 1) := by decide +kernel
theorem dX0_hearersOf_81 : decode cX0_hearersOf 81 = .ok (.ireturn, 1) := by decide +kernel
set_option maxRecDepth 20000 in
theorem ggX0_letGo_X0_isQuiet : GoodIn wsX0_letGo wsX0_isQuiet := goodIn_r _ [6, 7, 8, 9, 10, 11, 12, 13, 14, 15, 16, 17, 122, 123, 124, 125, 126, 127, 128, 129, 130, 131, 132, 133, 134, 135, 136, 137, 138, 139, 140, 141, 142, 143, 144, 145, 146] (by decide +kernel) (by decide +kernel)
set_option maxRecDepth 20000 in
theorem gX0_letGo_X0_isQuiet : GoodIn wsX0_letGo (wsV RX0 100 RX0 yX0_isQuiet wsX0_isQuiet) := goodIn_app (goodIn_of _ (by decide +kernel)) ggX0_letGo_X0_isQuiet
set_option maxRecDepth 20000 in
theorem ggX0_letGo_X0_goBeat : GoodIn wsX0_letGo wsX0_goBeat := goodIn_r _ [21, 7, 8, 1, 22, 23, 24, 15, 25, 26, 27, 13, 14, 16, 17, 28, 29, 30, 31, 32, 33, 34, 35, 36, 37, 38, 39, 40, 5, 41, 42, 43, 44, 45, 46, 10, 47, 48, 49, 50, 51, 52, 53, 54, 55, 56, 57, 58, 59, 60, 61, 62, 63, 64, 65, 66, 67, 68, 69, 70, 71, 72, 73, 74, 75, 76, 77, 78, 79, 80, 81, 82, 83, 84, 85, 86, 87, 88, 89, 90, 91, 92, 93, 94, 95, 96, 97, 98, 99, 100, 101, 102, 103, 104, 105, 106, 107, 108, 109, 110, 111, 112, 113, 114, 115, 116, 117, 118, 119, 120, 121, 122, 123, 124, 125, 126, 127, 128, 129, 130, 131, 132, 133, 134, 135, 136, 137, 138, 139, 140, 141, 142, 143, 144, 145, 146] (by decide +kernel) (by decide +kernel)
set_option maxRecDepth 20000 in
theorem gX0_letGo_X0_goBeat : GoodIn wsX0_letGo (wsV RX0 103 RX0 yX0_goBeat wsX0_goBeat) := goodIn_app (goodIn_of _ (by decide +kernel)) ggX0_letGo_X0_goBeat
theorem dX0_letGo_0 : decode cX0_letGo 0 = .ok (.iconst 0, 1) := by decide +kernel
theorem dX0_letGo_1 : decode cX0_letGo 1 = .ok (.istore_n 2, 1) := by decide +kernel
theorem dX0_letGo_2 : decode cX0_letGo 2 = .ok (.iconst 0, 1) := by decide +kernel
theorem dX0_letGo_3 : decode cX0_letGo 3 = .ok (.istore_n 3, 1) := by decide +kernel
theorem dX0_letGo_4 : decode cX0_letGo 4 = .ok (.iload_n 3, 1) := by decide +kernel
theorem dX0_letGo_5 : decode cX0_letGo 5 = .ok (.iload_n 1, 1) := by decide +kernel
theorem dX0_letGo_6 : decode cX0_letGo 6 = .ok (.if_icmp .ge 37, 3) := by decide +kernel
theorem dX0_letGo_9 : decode cX0_letGo 9 = .ok (.aload_n 0, 1) := by decide +kernel
theorem dX0_letGo_10 : decode cX0_letGo 10 = .ok (.invokevirtual 100, 3) := by decide +kernel
theorem dX0_letGo_13 : decode cX0_letGo 13 = .ok (.ifCond .eq 17, 3) := by decide +kernel
theorem dX0_letGo_16 : decode cX0_letGo 16 = .ok (.aload_n 0, 1) := by decide +kernel
theorem dX0_letGo_17 : decode cX0_letGo 17 = .ok (.dup, 1) := by decide +kernel
theorem dX0_letGo_18 : decode cX0_letGo 18 = .ok (.getfield 42, 3) := by decide +kernel
theorem dX0_letGo_21 : decode cX0_letGo 21 = .ok (.iload_n 1, 1) := by decide +kernel
theorem dX0_letGo_22 : decode cX0_letGo 22 = .ok (.iload_n 3, 1) := by decide +kernel
theorem dX0_letGo_23 : decode cX0_letGo 23 = .ok (.isub, 1) := by decide +kernel
theorem dX0_letGo_24 : decode cX0_letGo 24 = .ok (.iadd, 1) := by decide +kernel
theorem dX0_letGo_25 : decode cX0_letGo 25 = .ok (.putfield 42, 3) := by decide +kernel
theorem dX0_letGo_28 : decode cX0_letGo 28 = .ok (.iload_n 2, 1) := by decide +kernel
theorem dX0_letGo_29 : decode cX0_letGo 29 = .ok (.ireturn, 1) := by decide +kernel
theorem dX0_letGo_30 : decode cX0_letGo 30 = .ok (.iload_n 2, 1) := by decide +kernel
theorem dX0_letGo_31 : decode cX0_letGo 31 = .ok (.aload_n 0, 1) := by decide +kernel
theorem dX0_letGo_32 : decode cX0_letGo 32 = .ok (.invokevirtual 103, 3) := by decide +kernel
theorem dX0_letGo_35 : decode cX0_letGo 35 = .ok (.iadd, 1) := by decide +kernel
theorem dX0_letGo_36 : decode cX0_letGo 36 = .ok (.istore_n 2, 1) := by decide +kernel
theorem dX0_letGo_37 : decode cX0_letGo 37 = .ok (.iinc 3 1, 3) := by decide +kernel
theorem dX0_letGo_40 : decode cX0_letGo 40 = .ok (.goto (-36), 3) := by decide +kernel
theorem dX0_letGo_43 : decode cX0_letGo 43 = .ok (.iload_n 2, 1) := by decide +kernel
theorem dX0_letGo_44 : decode cX0_letGo 44 = .ok (.ireturn, 1) := by decide +kernel
set_option maxRecDepth 20000 in
theorem ggX0_isQuiet_X2_isDrumming : GoodIn wsX0_isQuiet wsX2_isDrumming := goodIn_r _ [10, 11, 19, 20, 21, 22, 23, 24, 25, 26, 27, 28, 29, 30, 31] (by decide +kernel) (by decide +kernel)
set_option maxRecDepth 20000 in
theorem gX0_isQuiet_X2_isDrumming : GoodIn wsX0_isQuiet (wsV RX0 70 RX2 yX2_isDrumming wsX2_isDrumming) := goodIn_app (goodIn_of _ (by decide +kernel)) ggX0_isQuiet_X2_isDrumming
theorem dX0_isQuiet_0 : decode cX0_isQuiet 0 = .ok (.iconst 0, 1) := by decide +kernel
theorem dX0_isQuiet_1 : decode cX0_isQuiet 1 = .ok (.istore_n 1, 1) := by decide +kernel
theorem dX0_isQuiet_2 : decode cX0_isQuiet 2 = .ok (.iload_n 1, 1) := by decide +kernel
theorem dX0_isQuiet_3 : decode cX0_isQuiet 3 = .ok (.aload_n 0, 1) := by decide +kernel
theorem dX0_isQuiet_4 : decode cX0_isQuiet 4 = .ok (.getfield 25, 3) := by decide +kernel
theorem dX0_isQuiet_7 : decode cX0_isQuiet 7 = .ok (.if_icmp .ge 42, 3) := by decide +kernel
theorem dX0_isQuiet_10 : decode cX0_isQuiet 10 = .ok (.aload_n 0, 1) := by decide +kernel
theorem dX0_isQuiet_11 : decode cX0_isQuiet 11 = .ok (.getfield 11, 3) := by decide +kernel
theorem dX0_isQuiet_14 : decode cX0_isQuiet 14 = .ok (.iload_n 1, 1) := by decide +kernel
theorem dX0_isQuiet_15 : decode cX0_isQuiet 15 = .ok (.aaload, 1) := by decide +kernel
theorem dX0_isQuiet_16 : decode cX0_isQuiet 16 = .ok (.astore_n 2, 1) := by decide +kernel
theorem dX0_isQuiet_17 : decode cX0_isQuiet 17 = .ok (.aload_n 2, 1) := by decide +kernel
theorem dX0_isQuiet_18 : decode cX0_isQuiet 18 = .ok (.invokevirtual 70, 3) := by decide +kernel
theorem dX0_isQuiet_21 : decode cX0_isQuiet 21 = .ok (.ifCond .ne 20, 3) := by decide +kernel
theorem dX0_isQuiet_24 : decode cX0_isQuiet 24 = .ok (.aload_n 2, 1) := by decide +kernel
theorem dX0_isQuiet_25 : decode cX0_isQuiet 25 = .ok (.getfield 106, 3) := by decide +kernel
theorem dX0_isQuiet_28 : decode cX0_isQuiet 28 = .ok (.ifCond .gt 13, 3) := by decide +kernel
theorem dX0_isQuiet_31 : decode cX0_isQuiet 31 = .ok (.aload_n 2, 1) := by decide +kernel
theorem dX0_isQuiet_32 : decode cX0_isQuiet 32 = .ok (.getfield 74, 3) := by decide +kernel
theorem dX0_isQuiet_35 : decode cX0_isQuiet 35 = .ok (.getfield 78, 3) := by decide +kernel
theorem dX0_isQuiet_38 : decode cX0_isQuiet 38 = .ok (.ifCond .le 5, 3) := by decide +kernel
theorem dX0_isQuiet_41 : decode cX0_isQuiet 41 = .ok (.iconst 0, 1) := by decide +kernel
theorem dX0_isQuiet_42 : decode cX0_isQuiet 42 = .ok (.ireturn, 1) := by decide +kernel
theorem dX0_isQuiet_43 : decode cX0_isQuiet 43 = .ok (.iinc 1 1, 3) := by decide +kernel
theorem dX0_isQuiet_46 : decode cX0_isQuiet 46 = .ok (.goto (-44), 3) := by decide +kernel
theorem dX0_isQuiet_49 : decode cX0_isQuiet 49 = .ok (.iconst 1, 1) := by decide +kernel
theorem dX0_isQuiet_50 : decode cX0_isQuiet 50 = .ok (.ireturn, 1) := by decide +kernel
set_option maxRecDepth 20000 in
theorem ggX0_goBeat_X2_isReady : GoodIn wsX0_goBeat wsX2_isReady := goodIn_r _ [8, 9, 10, 11, 12, 7, 13, 14, 15, 16, 17, 18, 19, 20, 21, 22, 23, 24, 118, 119, 120, 121, 122, 123, 124, 125, 126, 127, 128, 129, 130] (by decide +kernel) (by decide +kernel)
set_option maxRecDepth 20000 in
theorem gX0_goBeat_X2_isReady : GoodIn wsX0_goBeat (wsV RX0 109 RX2 yX2_isReady wsX2_isReady) := goodIn_app (goodIn_of _ (by decide +kernel)) ggX0_goBeat_X2_isReady
set_option maxRecDepth 20000 in
theorem ggX0_goBeat_X0_beginDrumming : GoodIn wsX0_goBeat wsX0_beginDrumming := goodIn_r _ [29, 2, 30, 31, 32, 33, 34, 1, 3, 35, 36, 37, 38, 39, 7, 40, 9, 41, 42, 43, 44, 45, 46, 47, 48, 49, 50, 51, 52, 53, 54, 55, 56, 57, 58, 59, 60, 61, 62, 63, 64, 65, 66, 67, 68, 69, 70, 111, 112, 113, 114, 115, 116, 117, 118, 119, 120, 121, 122, 123, 124, 125, 126, 127, 128, 129, 130, 131, 132, 133, 134, 135] (by decide +kernel) (by decide +kernel)
set_option maxRecDepth 20000 in
theorem gX0_goBeat_X0_beginDrumming : GoodIn wsX0_goBeat (wsV RX0 112 RX0 yX0_beginDrumming wsX0_beginDrumming) := goodIn_app (goodIn_of _ (by decide +kernel)) ggX0_goBeat_X0_beginDrumming
set_option maxRecDepth 20000 in
theorem ggX0_goBeat_X2_drownIfDisturbed : GoodIn wsX0_goBeat wsX2_drownIfDisturbed := goodIn_r _ [74, 75, 15, 16, 17, 7, 18, 19, 20, 21, 22, 23, 24, 10, 11, 12, 13, 14, 76, 77, 78, 64, 79, 66, 68, 80, 81, 82, 83, 70, 118, 119, 120, 121, 122, 123, 124, 125, 126, 127, 128, 129, 130, 131, 132, 133, 134, 135] (by decide +kernel) (by decide +kernel)
set_option maxRecDepth 20000 in
theorem gX0_goBeat_X2_drownIfDisturbed : GoodIn wsX0_goBeat (wsV RX0 116 RX2 yX2_drownIfDisturbed wsX2_drownIfDisturbed) := goodIn_app (goodIn_of _ (by decide +kernel)) ggX0_goBeat_X2_drownIfDisturbed
set_option maxRecDepth 20000 in
theorem ggX0_goBeat_X2_endSounds : GoodIn wsX0_goBeat wsX2_endSounds := goodIn_r _ [87, 75, 88, 89, 90, 91, 92, 93, 94, 95, 64, 96, 66, 67, 68, 69, 70, 97, 98, 99, 7, 100, 101, 102, 103, 104, 105, 9, 41, 118, 119, 120, 121, 122, 123, 124, 125, 126, 127, 128, 129, 130, 131, 132, 133, 134, 135] (by decide +kernel) (by decide +kernel)
set_option maxRecDepth 20000 in
theorem gX0_goBeat_X2_endSounds : GoodIn wsX0_goBeat (wsV RX0 119 RX2 yX2_endSounds wsX2_endSounds) := goodIn_app (goodIn_of _ (by decide +kernel)) ggX0_goBeat_X2_endSounds
set_option maxRecDepth 20000 in
theorem ggX0_goBeat_X2_endDrumBeat : GoodIn wsX0_goBeat wsX2_endDrumBeat := goodIn_r _ [109, 110, 14, 10, 11, 12, 7, 13, 118, 119, 120, 121, 122, 123, 124, 125, 126, 127, 128, 129, 130] (by decide +kernel) (by decide +kernel)
set_option maxRecDepth 20000 in
theorem gX0_goBeat_X2_endDrumBeat : GoodIn wsX0_goBeat (wsV RX0 123 RX2 yX2_endDrumBeat wsX2_endDrumBeat) := goodIn_app (goodIn_of _ (by decide +kernel)) ggX0_goBeat_X2_endDrumBeat
theorem dX0_goBeat_0 : decode cX0_goBeat 0 = .ok (.iconst 0, 1) := by decide +kernel
theorem dX0_goBeat_1 : decode cX0_goBeat 1 = .ok (.istore_n 1, 1) := by decide +kernel
theorem dX0_goBeat_2 : decode cX0_goBeat 2 = .ok (.iload_n 1, 1) := by decide +kernel
theorem dX0_goBeat_3 : decode cX0_goBeat 3 = .ok (.aload_n 0, 1) := by decide +kernel
theorem dX0_goBeat_4 : decode cX0_goBeat 4 = .ok (.getfield 25, 3) := by decide +kernel
theorem dX0_goBeat_7 : decode cX0_goBeat 7 = .ok (.if_icmp .ge 30, 3) := by decide +kernel
theorem dX0_goBeat_10 : decode cX0_goBeat 10 = .ok (.aload_n 0, 1) := by decide +kernel
theorem dX0_goBeat_11 : decode cX0_goBeat 11 = .ok (.getfield 11, 3) := by decide +kernel
theorem dX0_goBeat_14 : decode cX0_goBeat 14 = .ok (.iload_n 1, 1) := by decide +kernel
theorem dX0_goBeat_15 : decode cX0_goBeat 15 = .ok (.aaload, 1) := by decide +kernel
theorem dX0_goBeat_16 : decode cX0_goBeat 16 = .ok (.aload_n 0, 1) := by decide +kernel
theorem dX0_goBeat_17 : decode cX0_goBeat 17 = .ok (.getfield 42, 3) := by decide +kernel
theorem dX0_goBeat_20 : decode cX0_goBeat 20 = .ok (.invokevirtual 109, 3) := by decide +kernel
theorem dX0_goBeat_23 : decode cX0_goBeat 23 = .ok (.ifCond .eq 8, 3) := by decide +kernel
theorem dX0_goBeat_26 : decode cX0_goBeat 26 = .ok (.aload_n 0, 1) := by decide +kernel
theorem dX0_goBeat_27 : decode cX0_goBeat 27 = .ok (.iload_n 1, 1) := by decide +kernel
theorem dX0_goBeat_28 : decode cX0_goBeat 28 = .ok (.invokevirtual 112, 3) := by decide +kernel
theorem dX0_goBeat_31 : decode cX0_goBeat 31 = .ok (.iinc 1 1, 3) := by decide +kernel
theorem dX0_goBeat_34 : decode cX0_goBeat 34 = .ok (.goto (-32), 3) := by decide +kernel
theorem dX0_goBeat_37 : decode cX0_goBeat 37 = .ok (.iconst 0, 1) := by decide +kernel
theorem dX0_goBeat_38 : decode cX0_goBeat 38 = .ok (.istore_n 1, 1) := by decide +kernel
theorem dX0_goBeat_39 : decode cX0_goBeat 39 = .ok (.iload_n 1, 1) := by decide +kernel
theorem dX0_goBeat_40 : decode cX0_goBeat 40 = .ok (.aload_n 0, 1) := by decide +kernel
theorem dX0_goBeat_41 : decode cX0_goBeat 41 = .ok (.getfield 25, 3) := by decide +kernel
theorem dX0_goBeat_44 : decode cX0_goBeat 44 = .ok (.if_icmp .ge 22, 3) := by decide +kernel
theorem dX0_goBeat_47 : decode cX0_goBeat 47 = .ok (.aload_n 0, 1) := by decide +kernel
theorem dX0_goBeat_48 : decode cX0_goBeat 48 = .ok (.getfield 11, 3) := by decide +kernel
theorem dX0_goBeat_51 : decode cX0_goBeat 51 = .ok (.iload_n 1, 1) := by decide +kernel
theorem dX0_goBeat_52 : decode cX0_goBeat 52 = .ok (.aaload, 1) := by decide +kernel
theorem dX0_goBeat_53 : decode cX0_goBeat 53 = .ok (.aload_n 0, 1) := by decide +kernel
theorem dX0_goBeat_54 : decode cX0_goBeat 54 = .ok (.getfield 42, 3) := by decide +kernel
theorem dX0_goBeat_57 : decode cX0_goBeat 57 = .ok (.invokevirtual 116, 3) := by decide +kernel
theorem dX0_goBeat_60 : decode cX0_goBeat 60 = .ok (.iinc 1 1, 3) := by decide +kernel
theorem dX0_goBeat_63 : decode cX0_goBeat 63 = .ok (.goto (-24), 3) := by decide +kernel
theorem dX0_goBeat_66 : decode cX0_goBeat 66 = .ok (.iconst 0, 1) := by decide +kernel
theorem dX0_goBeat_67 : decode cX0_goBeat 67 = .ok (.istore_n 1, 1) := by decide +kernel
theorem dX0_goBeat_68 : decode cX0_goBeat 68 = .ok (.iconst 0, 1) := by decide +kernel
theorem dX0_goBeat_69 : decode cX0_goBeat 69 = .ok (.istore_n 2, 1) := by decide +kernel
theorem dX0_goBeat_70 : decode cX0_goBeat 70 = .ok (.iload_n 2, 1) := by decide +kernel
theorem dX0_goBeat_71 : decode cX0_goBeat 71 = .ok (.aload_n 0, 1) := by decide +kernel
theorem dX0_goBeat_72 : decode cX0_goBeat 72 = .ok (.getfield 25, 3) := by decide +kernel
theorem dX0_goBeat_75 : decode cX0_goBeat 75 = .ok (.if_icmp .ge 25, 3) := by decide +kernel
theorem dX0_goBeat_78 : decode cX0_goBeat 78 = .ok (.iload_n 1, 1) := by decide +kernel
theorem dX0_goBeat_79 : decode cX0_goBeat 79 = .ok (.aload_n 0, 1) := by decide +kernel
theorem dX0_goBeat_80 : decode cX0_goBeat 80 = .ok (.getfield 11, 3) := by decide +kernel
theorem dX0_goBeat_83 : decode cX0_goBeat 83 = .ok (.iload_n 2, 1) := by decide +kernel
theorem dX0_goBeat_84 : decode cX0_goBeat 84 = .ok (.aaload, 1) := by decide +kernel
theorem dX0_goBeat_85 : decode cX0_goBeat 85 = .ok (.aload_n 0, 1) := by decide +kernel
theorem dX0_goBeat_86 : decode cX0_goBeat 86 = .ok (.getfield 42, 3) := by decide +kernel
theorem dX0_goBeat_89 : decode cX0_goBeat 89 = .ok (.invokevirtual 119, 3) := by decide +kernel
theorem dX0_goBeat_92 : decode cX0_goBeat 92 = .ok (.iadd, 1) := by decide +kernel
theorem dX0_goBeat_93 : decode cX0_goBeat 93 = .ok (.istore_n 1, 1) := by decide +kernel
theorem dX0_goBeat_94 : decode cX0_goBeat 94 = .ok (.iinc 2 1, 3) := by decide +kernel
theorem dX0_goBeat_97 : decode cX0_goBeat 97 = .ok (.goto (-27), 3) := by decide +kernel
theorem dX0_goBeat_100 : decode cX0_goBeat 100 = .ok (.iconst 0, 1) := by decide +kernel
theorem dX0_goBeat_101 : decode cX0_goBeat 101 = .ok (.istore_n 2, 1) := by decide +kernel
theorem dX0_goBeat_102 : decode cX0_goBeat 102 = .ok (.iload_n 2, 1) := by decide +kernel
theorem dX0_goBeat_103 : decode cX0_goBeat 103 = .ok (.aload_n 0, 1) := by decide +kernel
theorem dX0_goBeat_104 : decode cX0_goBeat 104 = .ok (.getfield 25, 3) := by decide +kernel
theorem dX0_goBeat_107 : decode cX0_goBeat 107 = .ok (.if_icmp .ge 18, 3) := by decide +kernel
theorem dX0_goBeat_110 : decode cX0_goBeat 110 = .ok (.aload_n 0, 1) := by decide +kernel
theorem dX0_goBeat_111 : decode cX0_goBeat 111 = .ok (.getfield 11, 3) := by decide +kernel
theorem dX0_goBeat_114 : decode cX0_goBeat 114 = .ok (.iload_n 2, 1) := by decide +kernel
theorem dX0_goBeat_115 : decode cX0_goBeat 115 = .ok (.aaload, 1) := by decide +kernel
theorem dX0_goBeat_116 : decode cX0_goBeat 116 = .ok (.invokevirtual 123, 3) := by decide +kernel
theorem dX0_goBeat_119 : decode cX0_goBeat 119 = .ok (.iinc 2 1, 3) := by decide +kernel
theorem dX0_goBeat_122 : decode cX0_goBeat 122 = .ok (.goto (-20), 3) := by decide +kernel
theorem dX0_goBeat_125 : decode cX0_goBeat 125 = .ok (.aload_n 0, 1) := by decide +kernel
theorem dX0_goBeat_126 : decode cX0_goBeat 126 = .ok (.dup, 1) := by decide +kernel
theorem dX0_goBeat_127 : decode cX0_goBeat 127 = .ok (.getfield 42, 3) := by decide +kernel
theorem dX0_goBeat_130 : decode cX0_goBeat 130 = .ok (.iconst 1, 1) := by decide +kernel
theorem dX0_goBeat_131 : decode cX0_goBeat 131 = .ok (.iadd, 1) := by decide +kernel
theorem dX0_goBeat_132 : decode cX0_goBeat 132 = .ok (.putfield 42, 3) := by decide +kernel
theorem dX0_goBeat_135 : decode cX0_goBeat 135 = .ok (.iload_n 1, 1) := by decide +kernel
theorem dX0_goBeat_136 : decode cX0_goBeat 136 = .ok (.ireturn, 1) := by decide +kernel
set_option maxRecDepth 20000 in
theorem ggX0_beginDrumming_X2_takeFromQueue : GoodIn wsX0_beginDrumming wsX2_takeFromQueue := goodIn_r _ [15, 16, 17, 18, 19, 20, 21, 54, 55, 56, 57, 58, 59, 60, 61, 62, 63, 64, 65, 66] (by decide +kernel) (by decide +kernel)
set_option maxRecDepth 20000 in
theorem gX0_beginDrumming_X2_takeFromQueue : GoodIn wsX0_beginDrumming (wsV RX0 126 RX2 yX2_takeFromQueue wsX2_takeFromQueue) := goodIn_app (goodIn_of _ (by decide +kernel)) ggX0_beginDrumming_X2_takeFromQueue
set_option maxRecDepth 20000 in
theorem ggX0_beginDrumming_X2_distanceTo : GoodIn wsX0_beginDrumming wsX2_distanceTo := goodIn_r _ [25, 26, 27, 28, 29, 30, 31, 54, 55, 56, 57, 58, 59, 60, 61, 62, 63, 64, 65, 66] (by decide +kernel) (by decide +kernel)
set_option maxRecDepth 20000 in
theorem gX0_beginDrumming_X2_distanceTo : GoodIn wsX0_beginDrumming (wsV RX0 93 RX2 yX2_distanceTo wsX2_distanceTo) := goodIn_app (goodIn_of _ (by decide +kernel)) ggX0_beginDrumming_X2_distanceTo
set_option maxRecDepth 20000 in
theorem ggX0_beginDrumming_X2_isHeardAt : GoodIn wsX0_beginDrumming wsX2_isHeardAt := goodIn_r _ [35, 36, 54, 55, 56, 57, 58, 59, 60, 61, 62, 63, 64, 65, 66] (by decide +kernel) (by decide +kernel)
set_option maxRecDepth 20000 in
theorem gX0_beginDrumming_X2_isHeardAt : GoodIn wsX0_beginDrumming (wsV RX0 97 RX2 yX2_isHeardAt wsX2_isHeardAt) := goodIn_app (goodIn_of _ (by decide +kernel)) ggX0_beginDrumming_X2_isHeardAt
set_option maxRecDepth 20000 in
theorem ggX0_beginDrumming_X1_add : GoodIn wsX0_beginDrumming wsX1_add := goodIn_r _ [41, 42, 43, 44, 45, 46, 67, 68, 69, 70, 71] (by decide +kernel) (by decide +kernel)
set_option maxRecDepth 20000 in
theorem gX0_beginDrumming_X1_add : GoodIn wsX0_beginDrumming (wsV RX0 135 RX1 yX1_add wsX1_add) := goodIn_app (goodIn_of _ (by decide +kernel)) ggX0_beginDrumming_X1_add
theorem dX0_beginDrumming_0 : decode cX0_beginDrumming 0 = .ok (.aload_n 0, 1) := by decide +kernel
theorem dX0_beginDrumming_1 : decode cX0_beginDrumming 1 = .ok (.getfield 11, 3) := by decide +kernel
theorem dX0_beginDrumming_4 : decode cX0_beginDrumming 4 = .ok (.iload_n 1, 1) := by decide +kernel
theorem dX0_beginDrumming_5 : decode cX0_beginDrumming 5 = .ok (.aaload, 1) := by decide +kernel
theorem dX0_beginDrumming_6 : decode cX0_beginDrumming 6 = .ok (.astore_n 2, 1) := by decide +kernel
theorem dX0_beginDrumming_7 : decode cX0_beginDrumming 7 = .ok (.aload_n 2, 1) := by decide +kernel
theorem dX0_beginDrumming_8 : decode cX0_beginDrumming 8 = .ok (.invokevirtual 126, 3) := by decide +kernel
theorem dX0_beginDrumming_11 : decode cX0_beginDrumming 11 = .ok (.istore_n 3, 1) := by decide +kernel
theorem dX0_beginDrumming_12 : decode cX0_beginDrumming 12 = .ok (.iload_n 3, 1) := by decide +kernel
theorem dX0_beginDrumming_13 : decode cX0_beginDrumming 13 = .ok (.ifCond .lt 11, 3) := by decide +kernel
theorem dX0_beginDrumming_16 : decode cX0_beginDrumming 16 = .ok (.iload_n 3, 1) := by decide +kernel
theorem dX0_beginDrumming_17 : decode cX0_beginDrumming 17 = .ok (.aload_n 0, 1) := by decide +kernel
theorem dX0_beginDrumming_18 : decode cX0_beginDrumming 18 = .ok (.getfield 39, 3) := by decide +kernel
theorem dX0_beginDrumming_21 : decode cX0_beginDrumming 21 = .ok (.if_icmp .lt 4, 3) := by decide +kernel
theorem dX0_beginDrumming_24 : decode cX0_beginDrumming 24 = .ok (.return_, 1) := by decide +kernel
theorem dX0_beginDrumming_25 : decode cX0_beginDrumming 25 = .ok (.aload_n 0, 1) := by decide +kernel
theorem dX0_beginDrumming_26 : decode cX0_beginDrumming 26 = .ok (.getfield 21, 3) := by decide +kernel
theorem dX0_beginDrumming_29 : decode cX0_beginDrumming 29 = .ok (.iload_n 3, 1) := by decide +kernel
theorem dX0_beginDrumming_30 : decode cX0_beginDrumming 30 = .ok (.iaload, 1) := by decide +kernel
theorem dX0_beginDrumming_31 : decode cX0_beginDrumming 31 = .ok (.istore 4, 2) := by decide +kernel
theorem dX0_beginDrumming_33 : decode cX0_beginDrumming 33 = .ok (.aload_n 2, 1) := by decide +kernel
theorem dX0_beginDrumming_34 : decode cX0_beginDrumming 34 = .ok (.iload_n 3, 1) := by decide +kernel
theorem dX0_beginDrumming_35 : decode cX0_beginDrumming 35 = .ok (.putfield 129, 3) := by decide +kernel
theorem dX0_beginDrumming_38 : decode cX0_beginDrumming 38 = .ok (.aload_n 2, 1) := by decide +kernel
theorem dX0_beginDrumming_39 : decode cX0_beginDrumming 39 = .ok (.iload 4, 2) := by decide +kernel
theorem dX0_beginDrumming_41 : decode cX0_beginDrumming 41 = .ok (.putfield 132, 3) := by decide +kernel
theorem dX0_beginDrumming_44 : decode cX0_beginDrumming 44 = .ok (.aload_n 0, 1) := by decide +kernel
theorem dX0_beginDrumming_45 : decode cX0_beginDrumming 45 = .ok (.dup, 1) := by decide +kernel
theorem dX0_beginDrumming_46 : decode cX0_beginDrumming 46 = .ok (.getfield 45, 3) := by decide +kernel
theorem dX0_beginDrumming_49 : decode cX0_beginDrumming 49 = .ok (.iconst 1, 1) := by decide +kernel
theorem dX0_beginDrumming_50 : decode cX0_beginDrumming 50 = .ok (.iadd, 1) := by decide +kernel
theorem dX0_beginDrumming_51 : decode cX0_beginDrumming 51 = .ok (.putfield 45, 3) := by decide +kernel
theorem dX0_beginDrumming_54 : decode cX0_beginDrumming 54 = .ok (.iconst 0, 1) := by decide +kernel
theorem dX0_beginDrumming_55 : decode cX0_beginDrumming 55 = .ok (.istore 5, 2) := by decide +kernel
theorem dX0_beginDrumming_57 : decode cX0_beginDrumming 57 = .ok (.iload 5, 2) := by decide +kernel
theorem dX0_beginDrumming_59 : decode cX0_beginDrumming 59 = .ok (.aload_n 0, 1) := by decide +kernel
theorem dX0_beginDrumming_60 : decode cX0_beginDrumming 60 = .ok (.getfield 25, 3) := by decide +kernel
theorem dX0_beginDrumming_63 : decode cX0_beginDrumming 63 = .ok (.if_icmp .ge 89, 3) := by decide +kernel
theorem dX0_beginDrumming_66 : decode cX0_beginDrumming 66 = .ok (.aload_n 0, 1) := by decide +kernel
theorem dX0_beginDrumming_67 : decode cX0_beginDrumming 67 = .ok (.getfield 11, 3) := by decide +kernel
theorem dX0_beginDrumming_70 : decode cX0_beginDrumming 70 = .ok (.iload 5, 2) := by decide +kernel
theorem dX0_beginDrumming_72 : decode cX0_beginDrumming 72 = .ok (.aaload, 1) := by decide +kernel
theorem dX0_beginDrumming_73 : decode cX0_beginDrumming 73 = .ok (.astore 6, 2) := by decide +kernel
theorem dX0_beginDrumming_75 : decode cX0_beginDrumming 75 = .ok (.aload_n 2, 1) := by decide +kernel
theorem dX0_beginDrumming_76 : decode cX0_beginDrumming 76 = .ok (.aload 6, 2) := by decide +kernel
theorem dX0_beginDrumming_78 : decode cX0_beginDrumming 78 = .ok (.invokevirtual 93, 3) := by decide +kernel
theorem dX0_beginDrumming_81 : decode cX0_beginDrumming 81 = .ok (.istore 7, 2) := by decide +kernel
theorem dX0_beginDrumming_83 : decode cX0_beginDrumming 83 = .ok (.iload 5, 2) := by decide +kernel
theorem dX0_beginDrumming_85 : decode cX0_beginDrumming 85 = .ok (.iload_n 1, 1) := by decide +kernel
theorem dX0_beginDrumming_86 : decode cX0_beginDrumming 86 = .ok (.if_icmp .eq 60, 3) := by decide +kernel
theorem dX0_beginDrumming_89 : decode cX0_beginDrumming 89 = .ok (.aload_n 2, 1) := by decide +kernel
theorem dX0_beginDrumming_90 : decode cX0_beginDrumming 90 = .ok (.iload 7, 2) := by decide +kernel
theorem dX0_beginDrumming_92 : decode cX0_beginDrumming 92 = .ok (.invokevirtual 97, 3) := by decide +kernel
theorem dX0_beginDrumming_95 : decode cX0_beginDrumming 95 = .ok (.ifCond .eq 51, 3) := by decide +kernel
theorem dX0_beginDrumming_98 : decode cX0_beginDrumming 98 = .ok (.aload_n 0, 1) := by decide +kernel
theorem dX0_beginDrumming_99 : decode cX0_beginDrumming 99 = .ok (.getfield 42, 3) := by decide +kernel
theorem dX0_beginDrumming_102 : decode cX0_beginDrumming 102 = .ok (.iload 7, 2) := by decide +kernel
theorem dX0_beginDrumming_104 : decode cX0_beginDrumming 104 = .ok (.iconst 3, 1) := by decide +kernel
theorem dX0_beginDrumming_105 : decode cX0_beginDrumming 105 = .ok (.idiv, 1) := by decide +kernel
theorem dX0_beginDrumming_106 : decode cX0_beginDrumming 106 = .ok (.iadd, 1) := by decide +kernel
theorem dX0_beginDrumming_107 : decode cX0_beginDrumming 107 = .ok (.iconst 1, 1) := by decide +kernel
theorem dX0_beginDrumming_108 : decode cX0_beginDrumming 108 = .ok (.iadd, 1) := by decide +kernel
theorem dX0_beginDrumming_109 : decode cX0_beginDrumming 109 = .ok (.istore 8, 2) := by decide +kernel
theorem dX0_beginDrumming_111 : decode cX0_beginDrumming 111 = .ok (.aload 6, 2) := by decide +kernel
theorem dX0_beginDrumming_113 : decode cX0_beginDrumming 113 = .ok (.getfield 74, 3) := by decide +kernel
theorem dX0_beginDrumming_116 : decode cX0_beginDrumming 116 = .ok (.iload_n 3, 1) := by decide +kernel
theorem dX0_beginDrumming_117 : decode cX0_beginDrumming 117 = .ok (.iload 8, 2) := by decide +kernel
theorem dX0_beginDrumming_119 : decode cX0_beginDrumming 119 = .ok (.iload 4, 2) := by decide +kernel
theorem dX0_beginDrumming_121 : decode cX0_beginDrumming 121 = .ok (.invokevirtual 135, 3) := by decide +kernel
theorem dX0_beginDrumming_124 : decode cX0_beginDrumming 124 = .ok (.aload_n 2, 1) := by decide +kernel
theorem dX0_beginDrumming_125 : decode cX0_beginDrumming 125 = .ok (.getfield 139, 3) := by decide +kernel
theorem dX0_beginDrumming_128 : decode cX0_beginDrumming 128 = .ok (.ifCond .eq 18, 3) := by decide +kernel
theorem dX0_beginDrumming_131 : decode cX0_beginDrumming 131 = .ok (.aload 6, 2) := by decide +kernel
theorem dX0_beginDrumming_133 : decode cX0_beginDrumming 133 = .ok (.getfield 74, 3) := by decide +kernel
theorem dX0_beginDrumming_136 : decode cX0_beginDrumming 136 = .ok (.iload_n 3, 1) := by decide +kernel
theorem dX0_beginDrumming_137 : decode cX0_beginDrumming 137 = .ok (.iload 8, 2) := by decide +kernel
theorem dX0_beginDrumming_139 : decode cX0_beginDrumming 139 = .ok (.iconst 4, 1) := by decide +kernel
theorem dX0_beginDrumming_140 : decode cX0_beginDrumming 140 = .ok (.iadd, 1) := by decide +kernel
theorem dX0_beginDrumming_141 : decode cX0_beginDrumming 141 = .ok (.iload 4, 2) := by decide +kernel
theorem dX0_beginDrumming_143 : decode cX0_beginDrumming 143 = .ok (.invokevirtual 135, 3) := by decide +kernel
theorem dX0_beginDrumming_146 : decode cX0_beginDrumming 146 = .ok (.iinc 5 1, 3) := by decide +kernel
theorem dX0_beginDrumming_149 : decode cX0_beginDrumming 149 = .ok (.goto (-92), 3) := by decide +kernel
theorem dX0_beginDrumming_152 : decode cX0_beginDrumming 152 = .ok (.return_, 1) := by decide +kernel
end
section
set_option maxRecDepth 20000 in
theorem ggX3_init_X0_init : GoodIn wsX3_init wsX0_init := goodIn_r _ [11, 12, 2, 3, 13, 14, 15, 16, 17, 18, 19, 20, 21, 22, 23, 24, 25, 26, 27, 28, 29, 30, 31, 32, 33, 34, 35, 36, 37, 38, 39, 40, 41, 42, 43, 44, 45, 46, 47, 48, 49, 50, 53, 54, 55, 56, 57, 58, 59, 60, 61, 62, 63, 64, 65, 66, 67, 68, 69, 70] (by decide +kernel) (by decide +kernel)
set_option maxRecDepth 20000 in
theorem gX3_init_X0_init : GoodIn wsX3_init (wsX0_init) := ggX3_init_X0_init
theorem dX3_init_0 : decode cX3_init 0 = .ok (.aload_n 0, 1) := by decide +kernel
theorem dX3_init_1 : decode cX3_init 1 = .ok (.invokespecial 3, 3) := by decide +kernel
theorem dX3_init_4 : decode cX3_init 4 = .ok (.aload_n 0, 1) := by decide +kernel
theorem dX3_init_5 : decode cX3_init 5 = .ok (.new 9, 3) := by decide +kernel
theorem dX3_init_8 : decode cX3_init 8 = .ok (.dup, 1) := by decide +kernel
theorem dX3_init_9 : decode cX3_init 9 = .ok (.invokespecial 11, 3) := by decide +kernel
theorem dX3_init_12 : decode cX3_init 12 = .ok (.putfield 12, 3) := by decide +kernel
theorem dX3_init_15 : decode cX3_init 15 = .ok (.aload_n 0, 1) := by decide +kernel
theorem dX3_init_16 : decode cX3_init 16 = .ok (.new 9, 3) := by decide +kernel
theorem dX3_init_19 : decode cX3_init 19 = .ok (.dup, 1) := by decide +kernel
theorem dX3_init_20 : decode cX3_init 20 = .ok (.invokespecial 11, 3) := by decide +kernel
theorem dX3_init_23 : decode cX3_init 23 = .ok (.putfield 16, 3) := by decide +kernel
theorem dX3_init_26 : decode cX3_init 26 = .ok (.return_, 1) := by decide +kernel
set_option maxRecDepth 20000 in
theorem ggX3_found_X3_isPlace : GoodIn wsX3_found wsX3_isPlace := goodIn_r _ [10] (by decide +kernel) (by decide +kernel)
set_option maxRecDepth 20000 in
theorem gX3_found_X3_isPlace : GoodIn wsX3_found (va_wsS RX3 19 yX3_isPlace wsX3_isPlace) := goodIn_app (goodIn_of _ (by decide +kernel)) ggX3_found_X3_isPlace
set_option maxRecDepth 20000 in
theorem ggX3_found_X3_isDrum : GoodIn wsX3_found wsX3_isDrum := goodIn_r _ [13] (by decide +kernel) (by decide +kernel)
set_option maxRecDepth 20000 in
theorem gX3_found_X3_isDrum : GoodIn wsX3_found (va_wsS RX3 23 yX3_isDrum wsX3_isDrum) := goodIn_app (goodIn_of _ (by decide +kernel)) ggX3_found_X3_isDrum
set_option maxRecDepth 20000 in
theorem ggX3_found_X0_hasVillageAt : GoodIn wsX3_found wsX0_hasVillageAt := goodIn_r _ [18, 19, 20, 21, 22, 30, 31, 32, 33, 34, 35, 36, 37, 38, 39, 40, 41, 42, 43, 44, 45, 46, 47, 48, 49] (by decide +kernel) (by decide +kernel)
set_option maxRecDepth 20000 in
theorem gX3_found_X0_hasVillageAt : GoodIn wsX3_found (wsV RX3 37 RX0 yX0_hasVillageAt wsX0_hasVillageAt) := goodIn_app (goodIn_of _ (by decide +kernel)) ggX3_found_X0_hasVillageAt
set_option maxRecDepth 20000 in
theorem ggX3_found_X0_addVillage : GoodIn wsX3_found wsX0_addVillage := goodIn_r _ [26, 19, 20, 21, 22, 27, 30, 31, 32, 33, 34, 35, 36, 37, 38, 39, 40, 41, 42, 43, 44, 45, 46, 47, 48, 49] (by decide +kernel) (by decide +kernel)
set_option maxRecDepth 20000 in
theorem gX3_found_X0_addVillage : GoodIn wsX3_found (wsV RX3 46 RX0 yX0_addVillage wsX0_addVillage) := goodIn_app (goodIn_of _ (by decide +kernel)) ggX3_found_X0_addVillage
theorem dX3_found_0 : decode cX3_found 0 = .ok (.iload_n 1, 1) := by decide +kernel
theorem dX3_found_1 : decode cX3_found 1 = .ok (.invokestatic 19, 3) := by decide +kernel
theorem dX3_found_4 : decode cX3_found 4 = .ok (.ifCond .eq 17, 3) := by decide +kernel
theorem dX3_found_7 : decode cX3_found 7 = .ok (.iload_n 2, 1) := by decide +kernel
theorem dX3_found_8 : decode cX3_found 8 = .ok (.invokestatic 19, 3) := by decide +kernel
theorem dX3_found_11 : decode cX3_found 11 = .ok (.ifCond .eq 10, 3) := by decide +kernel
theorem dX3_found_14 : decode cX3_found 14 = .ok (.iload_n 3, 1) := by decide +kernel
theorem dX3_found_15 : decode cX3_found 15 = .ok (.invokestatic 23, 3) := by decide +kernel
theorem dX3_found_18 : decode cX3_found 18 = .ok (.ifCond .ne 13, 3) := by decide +kernel
theorem dX3_found_21 : decode cX3_found 21 = .ok (.new 26, 3) := by decide +kernel
theorem dX3_found_24 : decode cX3_found 24 = .ok (.dup, 1) := by decide +kernel
theorem dX3_found_25 : decode cX3_found 25 = .ok (.ldc 28, 2) := by decide +kernel
theorem dX3_found_27 : decode cX3_found 27 = .ok (.invokespecial 30, 3) := by decide +kernel
theorem dX3_found_30 : decode cX3_found 30 = .ok (.athrow, 1) := by decide +kernel
theorem dX3_found_31 : decode cX3_found 31 = .ok (.aload_n 0, 1) := by decide +kernel
theorem dX3_found_32 : decode cX3_found 32 = .ok (.getfield 12, 3) := by decide +kernel
theorem dX3_found_35 : decode cX3_found 35 = .ok (.getfield 33, 3) := by decide +kernel
theorem dX3_found_38 : decode cX3_found 38 = .ok (.bipush 8, 2) := by decide +kernel
theorem dX3_found_40 : decode cX3_found 40 = .ok (.if_icmp .ge 15, 3) := by decide +kernel
theorem dX3_found_43 : decode cX3_found 43 = .ok (.aload_n 0, 1) := by decide +kernel
theorem dX3_found_44 : decode cX3_found 44 = .ok (.getfield 12, 3) := by decide +kernel
theorem dX3_found_47 : decode cX3_found 47 = .ok (.iload_n 1, 1) := by decide +kernel
theorem dX3_found_48 : decode cX3_found 48 = .ok (.iload_n 2, 1) := by decide +kernel
theorem dX3_found_49 : decode cX3_found 49 = .ok (.invokevirtual 37, 3) := by decide +kernel
theorem dX3_found_52 : decode cX3_found 52 = .ok (.ifCond .eq 13, 3) := by decide +kernel
theorem dX3_found_55 : decode cX3_found 55 = .ok (.new 41, 3) := by decide +kernel
theorem dX3_found_58 : decode cX3_found 58 = .ok (.dup, 1) := by decide +kernel
theorem dX3_found_59 : decode cX3_found 59 = .ok (.ldc 43, 2) := by decide +kernel
theorem dX3_found_61 : decode cX3_found 61 = .ok (.invokespecial 45, 3) := by decide +kernel
theorem dX3_found_64 : decode cX3_found 64 = .ok (.athrow, 1) := by decide +kernel
theorem dX3_found_65 : decode cX3_found 65 = .ok (.aload_n 0, 1) := by decide +kernel
theorem dX3_found_66 : decode cX3_found 66 = .ok (.getfield 12, 3) := by decide +kernel
theorem dX3_found_69 : decode cX3_found 69 = .ok (.iload_n 1, 1) := by decide +kernel
theorem dX3_found_70 : decode cX3_found 70 = .ok (.iload_n 2, 1) := by decide +kernel
theorem dX3_found_71 : decode cX3_found 71 = .ok (.iload_n 3, 1) := by decide +kernel
theorem dX3_found_72 : decode cX3_found 72 = .ok (.invokevirtual 46, 3) := by decide +kernel
theorem dX3_found_75 : decode cX3_found 75 = .ok (.ireturn, 1) := by decide +kernel
set_option maxRecDepth 20000 in
theorem ggX3_setDrum_X3_villageOf : GoodIn wsX3_setDrum wsX3_villageOf := goodIn_ca (goodIn_r _ [8, 9, 10, 11, 12, 13, 7, 14, 15, 16, 17, 34, 35, 36, 37, 38, 39, 40, 41, 42] (by decide +kernel) (by decide +kernel)) (goodIn_sub (fun _ h => List.mem_cons_of_mem _ (List.mem_append_right _ h)) (by decide +kernel))
set_option maxRecDepth 20000 in
theorem gX3_setDrum_X3_villageOf : GoodIn wsX3_setDrum (wsV RX3 50 RX3 yX3_villageOf wsX3_villageOf) := goodIn_app (goodIn_of _ (by decide +kernel)) ggX3_setDrum_X3_villageOf
set_option maxRecDepth 20000 in
theorem ggX3_setDrum_X3_isDrum : GoodIn wsX3_setDrum wsX3_isDrum := goodIn_r _ [20] (by decide +kernel) (by decide +kernel)
set_option maxRecDepth 20000 in
theorem gX3_setDrum_X3_isDrum : GoodIn wsX3_setDrum (va_wsS RX3 23 yX3_isDrum wsX3_isDrum) := goodIn_app (goodIn_of _ (by decide +kernel)) ggX3_setDrum_X3_isDrum
theorem dX3_setDrum_0 : decode cX3_setDrum 0 = .ok (.aload_n 0, 1) := by decide +kernel
theorem dX3_setDrum_1 : decode cX3_setDrum 1 = .ok (.iload_n 1, 1) := by decide +kernel
theorem dX3_setDrum_2 : decode cX3_setDrum 2 = .ok (.invokevirtual 50, 3) := by decide +kernel
theorem dX3_setDrum_5 : decode cX3_setDrum 5 = .ok (.astore_n 3, 1) := by decide +kernel
theorem dX3_setDrum_6 : decode cX3_setDrum 6 = .ok (.iload_n 2, 1) := by decide +kernel
theorem dX3_setDrum_7 : decode cX3_setDrum 7 = .ok (.invokestatic 23, 3) := by decide +kernel
theorem dX3_setDrum_10 : decode cX3_setDrum 10 = .ok (.ifCond .ne 13, 3) := by decide +kernel
theorem dX3_setDrum_13 : decode cX3_setDrum 13 = .ok (.new 26, 3) := by decide +kernel
theorem dX3_setDrum_16 : decode cX3_setDrum 16 = .ok (.dup, 1) := by decide +kernel
theorem dX3_setDrum_17 : decode cX3_setDrum 17 = .ok (.ldc 54, 2) := by decide +kernel
theorem dX3_setDrum_19 : decode cX3_setDrum 19 = .ok (.invokespecial 30, 3) := by decide +kernel
theorem dX3_setDrum_22 : decode cX3_setDrum 22 = .ok (.athrow, 1) := by decide +kernel
theorem dX3_setDrum_23 : decode cX3_setDrum 23 = .ok (.aload_n 3, 1) := by decide +kernel
theorem dX3_setDrum_24 : decode cX3_setDrum 24 = .ok (.getfield 56, 3) := by decide +kernel
theorem dX3_setDrum_27 : decode cX3_setDrum 27 = .ok (.istore 4, 2) := by decide +kernel
theorem dX3_setDrum_29 : decode cX3_setDrum 29 = .ok (.aload_n 3, 1) := by decide +kernel
theorem dX3_setDrum_30 : decode cX3_setDrum 30 = .ok (.iload_n 2, 1) := by decide +kernel
theorem dX3_setDrum_31 : decode cX3_setDrum 31 = .ok (.putfield 56, 3) := by decide +kernel
theorem dX3_setDrum_34 : decode cX3_setDrum 34 = .ok (.iload 4, 2) := by decide +kernel
theorem dX3_setDrum_36 : decode cX3_setDrum 36 = .ok (.ireturn, 1) := by decide +kernel
set_option maxRecDepth 20000 in
theorem ggX3_setCliff_X3_villageOf : GoodIn wsX3_setCliff wsX3_villageOf := goodIn_ca (goodIn_r _ [6, 7, 8, 9, 10, 11, 5, 12, 13, 14, 15, 29, 30, 31, 32, 33, 34, 35, 36, 37] (by decide +kernel) (by decide +kernel)) (goodIn_sub (fun _ h => List.mem_cons_of_mem _ (List.mem_append_right _ h)) (by decide +kernel))
set_option maxRecDepth 20000 in
theorem gX3_setCliff_X3_villageOf : GoodIn wsX3_setCliff (wsV RX3 50 RX3 yX3_villageOf wsX3_villageOf) := goodIn_app (goodIn_of _ (by decide +kernel)) ggX3_setCliff_X3_villageOf
theorem dX3_setCliff_0 : decode cX3_setCliff 0 = .ok (.aload_n 0, 1) := by decide +kernel
theorem dX3_setCliff_1 : decode cX3_setCliff 1 = .ok (.iload_n 1, 1) := by decide +kernel
theorem dX3_setCliff_2 : decode cX3_setCliff 2 = .ok (.invokevirtual 50, 3) := by decide +kernel
theorem dX3_setCliff_5 : decode cX3_setCliff 5 = .ok (.astore_n 3, 1) := by decide +kernel
theorem dX3_setCliff_6 : decode cX3_setCliff 6 = .ok (.aload_n 3, 1) := by decide +kernel
theorem dX3_setCliff_7 : decode cX3_setCliff 7 = .ok (.getfield 61, 3) := by decide +kernel
theorem dX3_setCliff_10 : decode cX3_setCliff 10 = .ok (.istore 4, 2) := by decide +kernel
theorem dX3_setCliff_12 : decode cX3_setCliff 12 = .ok (.aload_n 3, 1) := by decide +kernel
theorem dX3_setCliff_13 : decode cX3_setCliff 13 = .ok (.iload_n 2, 1) := by decide +kernel
theorem dX3_setCliff_14 : decode cX3_setCliff 14 = .ok (.putfield 61, 3) := by decide +kernel
theorem dX3_setCliff_17 : decode cX3_setCliff 17 = .ok (.iload 4, 2) := by decide +kernel
theorem dX3_setCliff_19 : decode cX3_setCliff 19 = .ok (.ireturn, 1) := by decide +kernel
set_option maxRecDepth 20000 in
theorem ggX3_setAwake_X3_villageOf : GoodIn wsX3_setAwake wsX3_villageOf := goodIn_ca (goodIn_r _ [9, 10, 11, 12, 13, 14, 8, 15, 16, 17, 18, 32, 33, 34, 35, 36, 37, 38, 39, 40] (by decide +kernel) (by decide +kernel)) (goodIn_sub (fun _ h => List.mem_cons_of_mem _ (List.mem_append_right _ h)) (by decide +kernel))
set_option maxRecDepth 20000 in
theorem gX3_setAwake_X3_villageOf : GoodIn wsX3_setAwake (wsV RX3 50 RX3 yX3_villageOf wsX3_villageOf) := goodIn_app (goodIn_of _ (by decide +kernel)) ggX3_setAwake_X3_villageOf
theorem dX3_setAwake_0 : decode cX3_setAwake 0 = .ok (.aload_n 0, 1) := by decide +kernel
theorem dX3_setAwake_1 : decode cX3_setAwake 1 = .ok (.iload_n 1, 1) := by decide +kernel
theorem dX3_setAwake_2 : decode cX3_setAwake 2 = .ok (.invokevirtual 50, 3) := by decide +kernel
theorem dX3_setAwake_5 : decode cX3_setAwake 5 = .ok (.astore 4, 2) := by decide +kernel
theorem dX3_setAwake_7 : decode cX3_setAwake 7 = .ok (.iload_n 2, 1) := by decide +kernel
theorem dX3_setAwake_8 : decode cX3_setAwake 8 = .ok (.ifCond .lt 20, 3) := by decide +kernel
theorem dX3_setAwake_11 : decode cX3_setAwake 11 = .ok (.iload_n 2, 1) := by decide +kernel
theorem dX3_setAwake_12 : decode cX3_setAwake 12 = .ok (.bipush 24, 2) := by decide +kernel
theorem dX3_setAwake_14 : decode cX3_setAwake 14 = .ok (.if_icmp .ge 14, 3) := by decide +kernel
theorem dX3_setAwake_17 : decode cX3_setAwake 17 = .ok (.iload_n 3, 1) := by decide +kernel
theorem dX3_setAwake_18 : decode cX3_setAwake 18 = .ok (.iconst 1, 1) := by decide +kernel
theorem dX3_setAwake_19 : decode cX3_setAwake 19 = .ok (.if_icmp .lt 9, 3) := by decide +kernel
theorem dX3_setAwake_22 : decode cX3_setAwake 22 = .ok (.iload_n 3, 1) := by decide +kernel
theorem dX3_setAwake_23 : decode cX3_setAwake 23 = .ok (.bipush 24, 2) := by decide +kernel
theorem dX3_setAwake_25 : decode cX3_setAwake 25 = .ok (.if_icmp .le 13, 3) := by decide +kernel
theorem dX3_setAwake_28 : decode cX3_setAwake 28 = .ok (.new 26, 3) := by decide +kernel
theorem dX3_setAwake_31 : decode cX3_setAwake 31 = .ok (.dup, 1) := by decide +kernel
theorem dX3_setAwake_32 : decode cX3_setAwake 32 = .ok (.ldc 65, 2) := by decide +kernel
theorem dX3_setAwake_34 : decode cX3_setAwake 34 = .ok (.invokespecial 30, 3) := by decide +kernel
theorem dX3_setAwake_37 : decode cX3_setAwake 37 = .ok (.athrow, 1) := by decide +kernel
theorem dX3_setAwake_38 : decode cX3_setAwake 38 = .ok (.aload 4, 2) := by decide +kernel
theorem dX3_setAwake_40 : decode cX3_setAwake 40 = .ok (.getfield 67, 3) := by decide +kernel
theorem dX3_setAwake_43 : decode cX3_setAwake 43 = .ok (.istore 5, 2) := by decide +kernel
theorem dX3_setAwake_45 : decode cX3_setAwake 45 = .ok (.aload 4, 2) := by decide +kernel
theorem dX3_setAwake_47 : decode cX3_setAwake 47 = .ok (.iload_n 2, 1) := by decide +kernel
theorem dX3_setAwake_48 : decode cX3_setAwake 48 = .ok (.putfield 70, 3) := by decide +kernel
theorem dX3_setAwake_51 : decode cX3_setAwake 51 = .ok (.aload 4, 2) := by decide +kernel
theorem dX3_setAwake_53 : decode cX3_setAwake 53 = .ok (.iload_n 3, 1) := by decide +kernel
theorem dX3_setAwake_54 : decode cX3_setAwake 54 = .ok (.putfield 67, 3) := by decide +kernel
theorem dX3_setAwake_57 : decode cX3_setAwake 57 = .ok (.iload 5, 2) := by decide +kernel
theorem dX3_setAwake_59 : decode cX3_setAwake 59 = .ok (.ireturn, 1) := by decide +kernel
set_option maxRecDepth 20000 in
theorem ggX3_phrase_X3_countTones : GoodIn wsX3_phrase wsX3_countTones := goodIn_r _ [10] (by decide +kernel) (by decide +kernel)
set_option maxRecDepth 20000 in
theorem gX3_phrase_X3_countTones : GoodIn wsX3_phrase (va_wsS RX3 73 yX3_countTones wsX3_countTones) := goodIn_app (goodIn_of _ (by decide +kernel)) ggX3_phrase_X3_countTones
set_option maxRecDepth 20000 in
theorem ggX3_phrase_X0_hasPhrase : GoodIn wsX3_phrase wsX0_hasPhrase := goodIn_r _ [15, 16, 17, 25, 26, 27, 28, 29, 30, 31] (by decide +kernel) (by decide +kernel)
set_option maxRecDepth 20000 in
theorem gX3_phrase_X0_hasPhrase : GoodIn wsX3_phrase (wsV RX3 82 RX0 yX0_hasPhrase wsX0_hasPhrase) := goodIn_app (goodIn_of _ (by decide +kernel)) ggX3_phrase_X0_hasPhrase
set_option maxRecDepth 20000 in
theorem ggX3_phrase_X0_addPhrase : GoodIn wsX3_phrase wsX0_addPhrase := goodIn_r _ [21, 16, 17, 22, 25, 26, 27, 28, 29, 30, 31] (by decide +kernel) (by decide +kernel)
set_option maxRecDepth 20000 in
theorem gX3_phrase_X0_addPhrase : GoodIn wsX3_phrase (wsV RX3 87 RX0 yX0_addPhrase wsX0_addPhrase) := goodIn_app (goodIn_of _ (by decide +kernel)) ggX3_phrase_X0_addPhrase
theorem dX3_phrase_0 : decode cX3_phrase 0 = .ok (.iload_n 1, 1) := by decide +kernel
theorem dX3_phrase_1 : decode cX3_phrase 1 = .ok (.invokestatic 73, 3) := by decide +kernel
theorem dX3_phrase_4 : decode cX3_phrase 4 = .ok (.istore_n 2, 1) := by decide +kernel
theorem dX3_phrase_5 : decode cX3_phrase 5 = .ok (.iload_n 2, 1) := by decide +kernel
theorem dX3_phrase_6 : decode cX3_phrase 6 = .ok (.iconst 2, 1) := by decide +kernel
theorem dX3_phrase_7 : decode cX3_phrase 7 = .ok (.if_icmp .lt 9, 3) := by decide +kernel
theorem dX3_phrase_10 : decode cX3_phrase 10 = .ok (.iload_n 2, 1) := by decide +kernel
theorem dX3_phrase_11 : decode cX3_phrase 11 = .ok (.bipush 8, 2) := by decide +kernel
theorem dX3_phrase_13 : decode cX3_phrase 13 = .ok (.if_icmp .le 13, 3) := by decide +kernel
theorem dX3_phrase_16 : decode cX3_phrase 16 = .ok (.new 26, 3) := by decide +kernel
theorem dX3_phrase_19 : decode cX3_phrase 19 = .ok (.dup, 1) := by decide +kernel
theorem dX3_phrase_20 : decode cX3_phrase 20 = .ok (.ldc 77, 2) := by decide +kernel
theorem dX3_phrase_22 : decode cX3_phrase 22 = .ok (.invokespecial 30, 3) := by decide +kernel
theorem dX3_phrase_25 : decode cX3_phrase 25 = .ok (.athrow, 1) := by decide +kernel
theorem dX3_phrase_26 : decode cX3_phrase 26 = .ok (.aload_n 0, 1) := by decide +kernel
theorem dX3_phrase_27 : decode cX3_phrase 27 = .ok (.getfield 12, 3) := by decide +kernel
theorem dX3_phrase_30 : decode cX3_phrase 30 = .ok (.getfield 79, 3) := by decide +kernel
theorem dX3_phrase_33 : decode cX3_phrase 33 = .ok (.bipush 12, 2) := by decide +kernel
theorem dX3_phrase_35 : decode cX3_phrase 35 = .ok (.if_icmp .ge 14, 3) := by decide +kernel
theorem dX3_phrase_38 : decode cX3_phrase 38 = .ok (.aload_n 0, 1) := by decide +kernel
theorem dX3_phrase_39 : decode cX3_phrase 39 = .ok (.getfield 12, 3) := by decide +kernel
theorem dX3_phrase_42 : decode cX3_phrase 42 = .ok (.iload_n 1, 1) := by decide +kernel
theorem dX3_phrase_43 : decode cX3_phrase 43 = .ok (.invokevirtual 82, 3) := by decide +kernel
theorem dX3_phrase_46 : decode cX3_phrase 46 = .ok (.ifCond .eq 13, 3) := by decide +kernel
theorem dX3_phrase_49 : decode cX3_phrase 49 = .ok (.new 41, 3) := by decide +kernel
theorem dX3_phrase_52 : decode cX3_phrase 52 = .ok (.dup, 1) := by decide +kernel
theorem dX3_phrase_53 : decode cX3_phrase 53 = .ok (.ldc 85, 2) := by decide +kernel
theorem dX3_phrase_55 : decode cX3_phrase 55 = .ok (.invokespecial 45, 3) := by decide +kernel
theorem dX3_phrase_58 : decode cX3_phrase 58 = .ok (.athrow, 1) := by decide +kernel
theorem dX3_phrase_59 : decode cX3_phrase 59 = .ok (.aload_n 0, 1) := by decide +kernel
theorem dX3_phrase_60 : decode cX3_phrase 60 = .ok (.getfield 12, 3) := by decide +kernel
theorem dX3_phrase_63 : decode cX3_phrase 63 = .ok (.iload_n 1, 1) := by decide +kernel
theorem dX3_phrase_64 : decode cX3_phrase 64 = .ok (.iload_n 2, 1) := by decide +kernel
theorem dX3_phrase_65 : decode cX3_phrase 65 = .ok (.invokevirtual 87, 3) := by decide +kernel
theorem dX3_phrase_68 : decode cX3_phrase 68 = .ok (.ireturn, 1) := by decide +kernel
set_option maxRecDepth 20000 in
theorem ggX3_tell_X3_villageOf : GoodIn wsX3_tell wsX3_villageOf := goodIn_ca (goodIn_r _ [10, 4, 11, 12, 13, 14, 9, 15, 16, 17, 18, 45, 46, 47, 48, 49, 50, 51, 52, 53] (by decide +kernel) (by decide +kernel)) (goodIn_sub (fun _ h => List.mem_cons_of_mem _ (List.mem_append_right _ h)) (by decide +kernel))
set_option maxRecDepth 20000 in
theorem gX3_tell_X3_villageOf : GoodIn wsX3_tell (wsV RX3 50 RX3 yX3_villageOf wsX3_villageOf) := goodIn_app (goodIn_of _ (by decide +kernel)) ggX3_tell_X3_villageOf
set_option maxRecDepth 20000 in
theorem ggX3_tell_X3_checkPhrase : GoodIn wsX3_tell wsX3_checkPhrase := goodIn_ca (goodIn_r _ [22, 16, 17, 4, 23, 45, 46, 47, 48, 49, 50, 51, 52, 53] (by decide +kernel) (by decide +kernel)) (goodIn_sub (fun _ h => List.mem_cons_of_mem _ (List.mem_append_right _ h)) (by decide +kernel))
set_option maxRecDepth 20000 in
theorem gX3_tell_X3_checkPhrase : GoodIn wsX3_tell (wsV RX3 91 RX3 yX3_checkPhrase wsX3_checkPhrase) := goodIn_app (goodIn_of _ (by decide +kernel)) ggX3_tell_X3_checkPhrase
set_option maxRecDepth 20000 in
theorem ggX3_tell_X2_takeIn : GoodIn wsX3_tell wsX2_takeIn := goodIn_r _ [28, 29, 30, 31, 32, 33, 34, 35, 36, 37, 38, 39, 40, 41, 42, 43, 44] (by decide +kernel) (by decide +kernel)
set_option maxRecDepth 20000 in
theorem gX3_tell_X2_takeIn : GoodIn wsX3_tell (wsV RX3 103 RX2 yX2_takeIn wsX2_takeIn) := goodIn_app (goodIn_of _ (by decide +kernel)) ggX3_tell_X2_takeIn
theorem dX3_tell_0 : decode cX3_tell 0 = .ok (.aload_n 0, 1) := by decide +kernel
theorem dX3_tell_1 : decode cX3_tell 1 = .ok (.iload_n 1, 1) := by decide +kernel
theorem dX3_tell_2 : decode cX3_tell 2 = .ok (.invokevirtual 50, 3) := by decide +kernel
theorem dX3_tell_5 : decode cX3_tell 5 = .ok (.astore_n 3, 1) := by decide +kernel
theorem dX3_tell_6 : decode cX3_tell 6 = .ok (.aload_n 0, 1) := by decide +kernel
theorem dX3_tell_7 : decode cX3_tell 7 = .ok (.iload_n 2, 1) := by decide +kernel
theorem dX3_tell_8 : decode cX3_tell 8 = .ok (.invokevirtual 91, 3) := by decide +kernel
theorem dX3_tell_11 : decode cX3_tell 11 = .ok (.aload_n 3, 1) := by decide +kernel
theorem dX3_tell_12 : decode cX3_tell 12 = .ok (.getfield 95, 3) := by decide +kernel
theorem dX3_tell_15 : decode cX3_tell 15 = .ok (.iconst 5, 1) := by decide +kernel
theorem dX3_tell_16 : decode cX3_tell 16 = .ok (.if_icmp .lt 13, 3) := by decide +kernel
theorem dX3_tell_19 : decode cX3_tell 19 = .ok (.new 41, 3) := by decide +kernel
theorem dX3_tell_22 : decode cX3_tell 22 = .ok (.dup, 1) := by decide +kernel
theorem dX3_tell_23 : decode cX3_tell 23 = .ok (.ldc 98, 2) := by decide +kernel
theorem dX3_tell_25 : decode cX3_tell 25 = .ok (.invokespecial 45, 3) := by decide +kernel
theorem dX3_tell_28 : decode cX3_tell 28 = .ok (.athrow, 1) := by decide +kernel
theorem dX3_tell_29 : decode cX3_tell 29 = .ok (.aload_n 3, 1) := by decide +kernel
theorem dX3_tell_30 : decode cX3_tell 30 = .ok (.iload_n 2, 1) := by decide +kernel
theorem dX3_tell_31 : decode cX3_tell 31 = .ok (.aload_n 0, 1) := by decide +kernel
theorem dX3_tell_32 : decode cX3_tell 32 = .ok (.getfield 12, 3) := by decide +kernel
theorem dX3_tell_35 : decode cX3_tell 35 = .ok (.getfield 100, 3) := by decide +kernel
theorem dX3_tell_38 : decode cX3_tell 38 = .ok (.invokevirtual 103, 3) := by decide +kernel
theorem dX3_tell_41 : decode cX3_tell 41 = .ok (.aload_n 3, 1) := by decide +kernel
theorem dX3_tell_42 : decode cX3_tell 42 = .ok (.getfield 95, 3) := by decide +kernel
theorem dX3_tell_45 : decode cX3_tell 45 = .ok (.ireturn, 1) := by decide +kernel
set_option maxRecDepth 20000 in
theorem ggX3_village_X3_villageOf : GoodIn wsX3_village wsX3_villageOf := goodIn_ca (goodIn_r _ [9, 3, 10, 11, 12, 13, 8, 14, 1, 2, 15, 48, 49, 50, 51, 52, 53, 54, 55, 56] (by decide +kernel) (by decide +kernel)) (goodIn_sub (fun _ h => List.mem_cons_of_mem _ (List.mem_append_right _ h)) (by decide +kernel))
set_option maxRecDepth 20000 in
theorem gX3_village_X3_villageOf : GoodIn wsX3_village (wsV RX3 50 RX3 yX3_villageOf wsX3_villageOf) := goodIn_app (goodIn_of _ (by decide +kernel)) ggX3_village_X3_villageOf
set_option maxRecDepth 20000 in
theorem ggX3_village_X2_figure : GoodIn wsX3_village wsX2_figure := goodIn_r _ [20, 21, 22, 23, 24, 25, 26, 27, 28, 29, 30, 31, 19, 32, 33, 34, 35, 36, 37, 38, 39, 40, 41, 42, 43, 44, 45, 46, 47, 57, 58, 59, 60, 61, 62, 63, 64, 65, 66, 67, 68, 69] (by decide +kernel) (by decide +kernel)
set_option maxRecDepth 20000 in
theorem gX3_village_X2_figure : GoodIn wsX3_village (wsV RX3 112 RX2 yX2_figure wsX2_figure) := goodIn_app (goodIn_of _ (by decide +kernel)) ggX3_village_X2_figure
theorem dX3_village_0 : decode cX3_village 0 = .ok (.aload_n 0, 1) := by decide +kernel
theorem dX3_village_1 : decode cX3_village 1 = .ok (.iload_n 1, 1) := by decide +kernel
theorem dX3_village_2 : decode cX3_village 2 = .ok (.invokevirtual 50, 3) := by decide +kernel
theorem dX3_village_5 : decode cX3_village 5 = .ok (.astore_n 3, 1) := by decide +kernel
theorem dX3_village_6 : decode cX3_village 6 = .ok (.iload_n 2, 1) := by decide +kernel
theorem dX3_village_7 : decode cX3_village 7 = .ok (.ifCond .lt 9, 3) := by decide +kernel
theorem dX3_village_10 : decode cX3_village 10 = .ok (.iload_n 2, 1) := by decide +kernel
theorem dX3_village_11 : decode cX3_village 11 = .ok (.bipush 10, 2) := by decide +kernel
theorem dX3_village_13 : decode cX3_village 13 = .ok (.if_icmp .lt 13, 3) := by decide +kernel
theorem dX3_village_16 : decode cX3_village 16 = .ok (.new 107, 3) := by decide +kernel
theorem dX3_village_19 : decode cX3_village 19 = .ok (.dup, 1) := by decide +kernel
theorem dX3_village_20 : decode cX3_village 20 = .ok (.ldc 109, 2) := by decide +kernel
theorem dX3_village_22 : decode cX3_village 22 = .ok (.invokespecial 111, 3) := by decide +kernel
theorem dX3_village_25 : decode cX3_village 25 = .ok (.athrow, 1) := by decide +kernel
theorem dX3_village_26 : decode cX3_village 26 = .ok (.aload_n 3, 1) := by decide +kernel
theorem dX3_village_27 : decode cX3_village 27 = .ok (.iload_n 2, 1) := by decide +kernel
theorem dX3_village_28 : decode cX3_village 28 = .ok (.aload_n 0, 1) := by decide +kernel
theorem dX3_village_29 : decode cX3_village 29 = .ok (.getfield 12, 3) := by decide +kernel
theorem dX3_village_32 : decode cX3_village 32 = .ok (.getfield 100, 3) := by decide +kernel
theorem dX3_village_35 : decode cX3_village 35 = .ok (.invokevirtual 112, 3) := by decide +kernel
theorem dX3_village_38 : decode cX3_village 38 = .ok (.ireturn, 1) := by decide +kernel
set_option maxRecDepth 20000 in
theorem ggX3_queue_X3_villageOf : GoodIn wsX3_queue wsX3_villageOf := goodIn_ca (goodIn_r _ [9, 10, 11, 12, 13, 14, 8, 15, 1, 2, 16, 30, 31, 32, 33, 34, 35, 36, 37, 38] (by decide +kernel) (by decide +kernel)) (goodIn_sub (fun _ h => List.mem_cons_of_mem _ (List.mem_append_right _ h)) (by decide +kernel))
set_option maxRecDepth 20000 in
theorem gX3_queue_X3_villageOf : GoodIn wsX3_queue (wsV RX3 50 RX3 yX3_villageOf wsX3_villageOf) := goodIn_app (goodIn_of _ (by decide +kernel)) ggX3_queue_X3_villageOf
theorem dX3_queue_0 : decode cX3_queue 0 = .ok (.aload_n 0, 1) := by decide +kernel
theorem dX3_queue_1 : decode cX3_queue 1 = .ok (.iload_n 1, 1) := by decide +kernel
theorem dX3_queue_2 : decode cX3_queue 2 = .ok (.invokevirtual 50, 3) := by decide +kernel
theorem dX3_queue_5 : decode cX3_queue 5 = .ok (.astore_n 3, 1) := by decide +kernel
theorem dX3_queue_6 : decode cX3_queue 6 = .ok (.iload_n 2, 1) := by decide +kernel
theorem dX3_queue_7 : decode cX3_queue 7 = .ok (.ifCond .lt 11, 3) := by decide +kernel
theorem dX3_queue_10 : decode cX3_queue 10 = .ok (.iload_n 2, 1) := by decide +kernel
theorem dX3_queue_11 : decode cX3_queue 11 = .ok (.aload_n 3, 1) := by decide +kernel
theorem dX3_queue_12 : decode cX3_queue 12 = .ok (.getfield 95, 3) := by decide +kernel
theorem dX3_queue_15 : decode cX3_queue 15 = .ok (.if_icmp .lt 13, 3) := by decide +kernel
theorem dX3_queue_18 : decode cX3_queue 18 = .ok (.new 107, 3) := by decide +kernel
theorem dX3_queue_21 : decode cX3_queue 21 = .ok (.dup, 1) := by decide +kernel
theorem dX3_queue_22 : decode cX3_queue 22 = .ok (.ldc 115, 2) := by decide +kernel
theorem dX3_queue_24 : decode cX3_queue 24 = .ok (.invokespecial 111, 3) := by decide +kernel
theorem dX3_queue_27 : decode cX3_queue 27 = .ok (.athrow, 1) := by decide +kernel
theorem dX3_queue_28 : decode cX3_queue 28 = .ok (.aload_n 3, 1) := by decide +kernel
theorem dX3_queue_29 : decode cX3_queue 29 = .ok (.getfield 117, 3) := by decide +kernel
theorem dX3_queue_32 : decode cX3_queue 32 = .ok (.iload_n 2, 1) := by decide +kernel
theorem dX3_queue_33 : decode cX3_queue 33 = .ok (.iaload, 1) := by decide +kernel
theorem dX3_queue_34 : decode cX3_queue 34 = .ok (.ireturn, 1) := by decide +kernel
set_option maxRecDepth 20000 in
theorem ggX3_knows_X3_villageOf : GoodIn wsX3_knows wsX3_villageOf := goodIn_ca (goodIn_r _ [6, 7, 8, 9, 10, 11, 5, 12, 13, 14, 15, 34, 35, 36, 37, 38, 39, 40, 41, 42] (by decide +kernel) (by decide +kernel)) (goodIn_sub (fun _ h => List.mem_cons_of_mem _ (List.mem_append_right _ h)) (by decide +kernel))
set_option maxRecDepth 20000 in
theorem gX3_knows_X3_villageOf : GoodIn wsX3_knows (wsV RX3 50 RX3 yX3_villageOf wsX3_villageOf) := goodIn_app (goodIn_of _ (by decide +kernel)) ggX3_knows_X3_villageOf
set_option maxRecDepth 20000 in
theorem ggX3_knows_X3_checkPhrase : GoodIn wsX3_knows wsX3_checkPhrase := goodIn_ca (goodIn_r _ [19, 13, 14, 7, 20, 34, 35, 36, 37, 38, 39, 40, 41, 42] (by decide +kernel) (by decide +kernel)) (goodIn_sub (fun _ h => List.mem_cons_of_mem _ (List.mem_append_right _ h)) (by decide +kernel))
set_option maxRecDepth 20000 in
theorem gX3_knows_X3_checkPhrase : GoodIn wsX3_knows (wsV RX3 91 RX3 yX3_checkPhrase wsX3_checkPhrase) := goodIn_app (goodIn_of _ (by decide +kernel)) ggX3_knows_X3_checkPhrase
theorem dX3_knows_0 : decode cX3_knows 0 = .ok (.aload_n 0, 1) := by decide +kernel
theorem dX3_knows_1 : decode cX3_knows 1 = .ok (.iload_n 1, 1) := by decide +kernel
theorem dX3_knows_2 : decode cX3_knows 2 = .ok (.invokevirtual 50, 3) := by decide +kernel
theorem dX3_knows_5 : decode cX3_knows 5 = .ok (.astore_n 3, 1) := by decide +kernel
theorem dX3_knows_6 : decode cX3_knows 6 = .ok (.aload_n 0, 1) := by decide +kernel
theorem dX3_knows_7 : decode cX3_knows 7 = .ok (.iload_n 2, 1) := by decide +kernel
theorem dX3_knows_8 : decode cX3_knows 8 = .ok (.invokevirtual 91, 3) := by decide +kernel
theorem dX3_knows_11 : decode cX3_knows 11 = .ok (.aload_n 3, 1) := by decide +kernel
theorem dX3_knows_12 : decode cX3_knows 12 = .ok (.getfield 121, 3) := by decide +kernel
theorem dX3_knows_15 : decode cX3_knows 15 = .ok (.iload_n 2, 1) := by decide +kernel
theorem dX3_knows_16 : decode cX3_knows 16 = .ok (.iaload, 1) := by decide +kernel
theorem dX3_knows_17 : decode cX3_knows 17 = .ok (.ireturn, 1) := by decide +kernel
set_option maxRecDepth 20000 in
theorem ggX3_sounds_X3_villageOf : GoodIn wsX3_sounds wsX3_villageOf := goodIn_ca (goodIn_r _ [8, 2, 9, 10, 11, 12, 7, 13, 14, 15, 16, 37, 38, 39, 40, 41, 42, 43, 44, 45] (by decide +kernel) (by decide +kernel)) (goodIn_sub (fun _ h => List.mem_cons_of_mem _ (List.mem_append_right _ h)) (by decide +kernel))
set_option maxRecDepth 20000 in
theorem gX3_sounds_X3_villageOf : GoodIn wsX3_sounds (wsV RX3 50 RX3 yX3_villageOf wsX3_villageOf) := goodIn_app (goodIn_of _ (by decide +kernel)) ggX3_sounds_X3_villageOf
set_option maxRecDepth 20000 in
theorem ggX3_sounds_X1_lasting : GoodIn wsX3_sounds wsX1_lasting := goodIn_r _ [21, 22, 23, 46, 47, 48, 49, 50] (by decide +kernel) (by decide +kernel)
set_option maxRecDepth 20000 in
theorem gX3_sounds_X1_lasting : GoodIn wsX3_sounds (wsV RX3 128 RX1 yX1_lasting wsX1_lasting) := goodIn_app (goodIn_of _ (by decide +kernel)) ggX3_sounds_X1_lasting
theorem dX3_sounds_0 : decode cX3_sounds 0 = .ok (.aload_n 0, 1) := by decide +kernel
theorem dX3_sounds_1 : decode cX3_sounds 1 = .ok (.iload_n 1, 1) := by decide +kernel
theorem dX3_sounds_2 : decode cX3_sounds 2 = .ok (.invokevirtual 50, 3) := by decide +kernel
theorem dX3_sounds_5 : decode cX3_sounds 5 = .ok (.getfield 124, 3) := by decide +kernel
theorem dX3_sounds_8 : decode cX3_sounds 8 = .ok (.aload_n 0, 1) := by decide +kernel
theorem dX3_sounds_9 : decode cX3_sounds 9 = .ok (.getfield 12, 3) := by decide +kernel
theorem dX3_sounds_12 : decode cX3_sounds 12 = .ok (.getfield 100, 3) := by decide +kernel
theorem dX3_sounds_15 : decode cX3_sounds 15 = .ok (.invokevirtual 128, 3) := by decide +kernel
theorem dX3_sounds_18 : decode cX3_sounds 18 = .ok (.ireturn, 1) := by decide +kernel
set_option maxRecDepth 20000 in
theorem ggX3_count_X0_figure : GoodIn wsX3_count wsX0_figure := goodIn_r _ [8, 9, 10, 11, 12, 13, 14, 15, 7, 16, 17, 18, 19, 20, 21, 22, 23, 24, 25, 26, 27, 28, 29, 30, 31, 32, 33, 34, 35, 36, 37, 38, 39, 40, 41, 42, 43, 44, 45, 46, 47, 50, 51, 52, 53, 54, 55, 56, 57, 58, 59, 60, 61, 62, 63, 64, 65, 66, 67, 68, 69, 70, 71, 72, 73, 74] (by decide +kernel) (by decide +kernel)
set_option maxRecDepth 20000 in
theorem gX3_count_X0_figure : GoodIn wsX3_count (wsV RX3 135 RX0 yX0_figure wsX0_figure) := goodIn_app (goodIn_of _ (by decide +kernel)) ggX3_count_X0_figure
theorem dX3_count_0 : decode cX3_count 0 = .ok (.iload_n 1, 1) := by decide +kernel
theorem dX3_count_1 : decode cX3_count 1 = .ok (.ifCond .lt 9, 3) := by decide +kernel
theorem dX3_count_4 : decode cX3_count 4 = .ok (.iload_n 1, 1) := by decide +kernel
theorem dX3_count_5 : decode cX3_count 5 = .ok (.bipush 8, 2) := by decide +kernel
theorem dX3_count_7 : decode cX3_count 7 = .ok (.if_icmp .lt 13, 3) := by decide +kernel
theorem dX3_count_10 : decode cX3_count 10 = .ok (.new 107, 3) := by decide +kernel
theorem dX3_count_13 : decode cX3_count 13 = .ok (.dup, 1) := by decide +kernel
theorem dX3_count_14 : decode cX3_count 14 = .ok (.ldc 133, 2) := by decide +kernel
theorem dX3_count_16 : decode cX3_count 16 = .ok (.invokespecial 111, 3) := by decide +kernel
theorem dX3_count_19 : decode cX3_count 19 = .ok (.athrow, 1) := by decide +kernel
theorem dX3_count_20 : decode cX3_count 20 = .ok (.aload_n 0, 1) := by decide +kernel
theorem dX3_count_21 : decode cX3_count 21 = .ok (.getfield 12, 3) := by decide +kernel
theorem dX3_count_24 : decode cX3_count 24 = .ok (.iload_n 1, 1) := by decide +kernel
theorem dX3_count_25 : decode cX3_count 25 = .ok (.invokevirtual 135, 3) := by decide +kernel
theorem dX3_count_28 : decode cX3_count 28 = .ok (.ireturn, 1) := by decide +kernel
set_option maxRecDepth 20000 in
theorem ggX3_way_X3_checkVillage : GoodIn wsX3_way wsX3_checkVillage := goodIn_ca (goodIn_r _ [6, 7, 8, 1, 9, 33, 34, 35, 36, 37, 38, 39, 40, 41] (by decide +kernel) (by decide +kernel)) (goodIn_sub (fun _ h => List.mem_cons_of_mem _ (List.mem_append_right _ h)) (by decide +kernel))
set_option maxRecDepth 20000 in
theorem gX3_way_X3_checkVillage : GoodIn wsX3_way (wsV RX3 137 RX3 yX3_checkVillage wsX3_checkVillage) := goodIn_app (goodIn_of _ (by decide +kernel)) ggX3_way_X3_checkVillage
set_option maxRecDepth 20000 in
theorem ggX3_way_X0_hearersOf : GoodIn wsX3_way wsX0_hearersOf := goodIn_r _ [14, 15, 16, 17, 18, 19, 20, 21, 22, 23, 24, 25, 26, 27, 28, 29, 30, 31, 32, 35, 36, 37, 38, 39, 40, 41, 42, 43, 44, 45, 46, 47, 48, 49, 50, 51, 52, 53, 54] (by decide +kernel) (by decide +kernel)
set_option maxRecDepth 20000 in
theorem gX3_way_X0_hearersOf : GoodIn wsX3_way (wsV RX3 140 RX0 yX0_hearersOf wsX0_hearersOf) := goodIn_app (goodIn_of _ (by decide +kernel)) ggX3_way_X0_hearersOf
theorem dX3_way_0 : decode cX3_way 0 = .ok (.aload_n 0, 1) := by decide +kernel
theorem dX3_way_1 : decode cX3_way 1 = .ok (.iload_n 1, 1) := by decide +kernel
theorem dX3_way_2 : decode cX3_way 2 = .ok (.invokevirtual 137, 3) := by decide +kernel
theorem dX3_way_5 : decode cX3_way 5 = .ok (.aload_n 0, 1) := by decide +kernel
theorem dX3_way_6 : decode cX3_way 6 = .ok (.iload_n 2, 1) := by decide +kernel
theorem dX3_way_7 : decode cX3_way 7 = .ok (.invokevirtual 137, 3) := by decide +kernel
theorem dX3_way_10 : decode cX3_way 10 = .ok (.iconst 1, 1) := by decide +kernel
theorem dX3_way_11 : decode cX3_way 11 = .ok (.iload_n 1, 1) := by decide +kernel
theorem dX3_way_12 : decode cX3_way 12 = .ok (.ishl, 1) := by decide +kernel
theorem dX3_way_13 : decode cX3_way 13 = .ok (.istore_n 3, 1) := by decide +kernel
theorem dX3_way_14 : decode cX3_way 14 = .ok (.iconst 0, 1) := by decide +kernel
theorem dX3_way_15 : decode cX3_way 15 = .ok (.istore 4, 2) := by decide +kernel
theorem dX3_way_17 : decode cX3_way 17 = .ok (.iload 4, 2) := by decide +kernel
theorem dX3_way_19 : decode cX3_way 19 = .ok (.bipush 8, 2) := by decide +kernel
theorem dX3_way_21 : decode cX3_way 21 = .ok (.if_icmp .ge 32, 3) := by decide +kernel
theorem dX3_way_24 : decode cX3_way 24 = .ok (.iload_n 3, 1) := by decide +kernel
theorem dX3_way_25 : decode cX3_way 25 = .ok (.iload_n 2, 1) := by decide +kernel
theorem dX3_way_26 : decode cX3_way 26 = .ok (.ishr, 1) := by decide +kernel
theorem dX3_way_27 : decode cX3_way 27 = .ok (.iconst 1, 1) := by decide +kernel
theorem dX3_way_28 : decode cX3_way 28 = .ok (.iand, 1) := by decide +kernel
theorem dX3_way_29 : decode cX3_way 29 = .ok (.iconst 1, 1) := by decide +kernel
theorem dX3_way_30 : decode cX3_way 30 = .ok (.if_icmp .ne 6, 3) := by decide +kernel
theorem dX3_way_33 : decode cX3_way 33 = .ok (.iload 4, 2) := by decide +kernel
theorem dX3_way_35 : decode cX3_way 35 = .ok (.ireturn, 1) := by decide +kernel
theorem dX3_way_36 : decode cX3_way 36 = .ok (.iload_n 3, 1) := by decide +kernel
theorem dX3_way_37 : decode cX3_way 37 = .ok (.aload_n 0, 1) := by decide +kernel
theorem dX3_way_38 : decode cX3_way 38 = .ok (.getfield 12, 3) := by decide +kernel
theorem dX3_way_41 : decode cX3_way 41 = .ok (.iload_n 3, 1) := by decide +kernel
theorem dX3_way_42 : decode cX3_way 42 = .ok (.invokevirtual 140, 3) := by decide +kernel
theorem dX3_way_45 : decode cX3_way 45 = .ok (.ior, 1) := by decide +kernel
theorem dX3_way_46 : decode cX3_way 46 = .ok (.istore_n 3, 1) := by decide +kernel
theorem dX3_way_47 : decode cX3_way 47 = .ok (.iinc 4 1, 3) := by decide +kernel
theorem dX3_way_50 : decode cX3_way 50 = .ok (.goto (-33), 3) := by decide +kernel
theorem dX3_way_53 : decode cX3_way 53 = .ok (.iconst (-1), 1) := by decide +kernel
theorem dX3_way_54 : decode cX3_way 54 = .ok (.ireturn, 1) := by decide +kernel
set_option maxRecDepth 20000 in
theorem ggX3_pass_X0_letGo : GoodIn wsX3_pass wsX0_letGo := goodIn_r _ [8, 9, 10, 11, 12, 7, 13, 14, 15, 16, 17, 18, 19, 20, 21, 22, 23, 24, 25, 26, 27, 28, 29, 30, 31, 32, 33, 34, 35, 36, 37, 38, 39, 40, 41, 42, 43, 44, 45, 46, 47, 48, 49, 50, 51, 52, 53, 54, 55, 56, 57, 58, 59, 60, 61, 62, 63, 64, 65, 66, 67, 68, 69, 70, 71, 72, 73, 74, 75, 76, 77, 78, 79, 80, 81, 82, 83, 84, 85, 86, 87, 88, 89, 90, 91, 92, 93, 94, 95, 96, 97, 98, 99, 100, 101, 102, 103, 104, 105, 106, 107, 108, 109, 110, 111, 112, 113, 114, 115, 116, 117, 118, 119, 120, 121, 122, 123, 124, 125, 126, 127, 128, 131, 132, 133, 134, 135, 136, 137, 138, 139, 140, 141, 142, 143, 144, 145, 146, 147, 148, 149, 150, 151, 152, 153, 154, 155] (by decide +kernel) (by decide +kernel)
set_option maxRecDepth 20000 in
theorem gX3_pass_X0_letGo : GoodIn wsX3_pass (wsV RX3 145 RX0 yX0_letGo wsX0_letGo) := goodIn_app (goodIn_of _ (by decide +kernel)) ggX3_pass_X0_letGo
theorem dX3_pass_0 : decode cX3_pass 0 = .ok (.iload_n 1, 1) := by decide +kernel
theorem dX3_pass_1 : decode cX3_pass 1 = .ok (.iconst 1, 1) := by decide +kernel
theorem dX3_pass_2 : decode cX3_pass 2 = .ok (.if_icmp .lt 10, 3) := by decide +kernel
theorem dX3_pass_5 : decode cX3_pass 5 = .ok (.iload_n 1, 1) := by decide +kernel
theorem dX3_pass_6 : decode cX3_pass 6 = .ok (.sipush 200, 3) := by decide +kernel
theorem dX3_pass_9 : decode cX3_pass 9 = .ok (.if_icmp .le 13, 3) := by decide +kernel
theorem dX3_pass_12 : decode cX3_pass 12 = .ok (.new 26, 3) := by decide +kernel
theorem dX3_pass_15 : decode cX3_pass 15 = .ok (.dup, 1) := by decide +kernel
theorem dX3_pass_16 : decode cX3_pass 16 = .ok (.ldc 143, 2) := by decide +kernel
theorem dX3_pass_18 : decode cX3_pass 18 = .ok (.invokespecial 30, 3) := by decide +kernel
theorem dX3_pass_21 : decode cX3_pass 21 = .ok (.athrow, 1) := by decide +kernel
theorem dX3_pass_22 : decode cX3_pass 22 = .ok (.aload_n 0, 1) := by decide +kernel
theorem dX3_pass_23 : decode cX3_pass 23 = .ok (.getfield 12, 3) := by decide +kernel
theorem dX3_pass_26 : decode cX3_pass 26 = .ok (.iload_n 1, 1) := by decide +kernel
theorem dX3_pass_27 : decode cX3_pass 27 = .ok (.invokevirtual 145, 3) := by decide +kernel
theorem dX3_pass_30 : decode cX3_pass 30 = .ok (.ireturn, 1) := by decide +kernel
set_option maxRecDepth 20000 in
theorem ggX3_reaches_X3_checkVillage : GoodIn wsX3_reaches wsX3_checkVillage := goodIn_ca (goodIn_r _ [8, 9, 10, 2, 11, 159, 160, 161, 162, 163, 164, 165, 166, 167] (by decide +kernel) (by decide +kernel)) (goodIn_sub (fun _ h => List.mem_cons_of_mem _ (List.mem_append_right _ h)) (by decide +kernel))
set_option maxRecDepth 20000 in
theorem gX3_reaches_X3_checkVillage : GoodIn wsX3_reaches (wsV RX3 137 RX3 yX3_checkVillage wsX3_checkVillage) := goodIn_app (goodIn_of _ (by decide +kernel)) ggX3_reaches_X3_checkVillage
set_option maxRecDepth 20000 in
theorem ggX3_reaches_X3_checkPhrase : GoodIn wsX3_reaches wsX3_checkPhrase := goodIn_ca (goodIn_r _ [15, 9, 10, 2, 16, 159, 160, 161, 162, 163, 164, 165, 166, 167] (by decide +kernel) (by decide +kernel)) (goodIn_sub (fun _ h => List.mem_cons_of_mem _ (List.mem_append_right _ h)) (by decide +kernel))
set_option maxRecDepth 20000 in
theorem gX3_reaches_X3_checkPhrase : GoodIn wsX3_reaches (wsV RX3 91 RX3 yX3_checkPhrase wsX3_checkPhrase) := goodIn_app (goodIn_of _ (by decide +kernel)) ggX3_reaches_X3_checkPhrase
set_option maxRecDepth 20000 in
theorem ggX3_reaches_X0_copy : GoodIn wsX3_reaches wsX0_copy := goodIn_r _ [21, 22, 23, 24, 25, 26, 27, 28, 29, 30, 31, 32, 33, 34, 35, 36, 37, 38, 39, 40, 41, 42, 43, 44, 45, 46, 47, 48, 49, 50, 51, 52, 53, 54, 55, 56, 57, 58, 59, 60, 61, 62, 161, 162, 163, 164, 165, 166, 167, 168, 169, 170, 171, 172, 173, 174, 175, 176, 177, 178, 179, 180, 181, 182, 183, 184, 185] (by decide +kernel) (by decide +kernel)
set_option maxRecDepth 20000 in
theorem gX3_reaches_X0_copy : GoodIn wsX3_reaches (wsV RX3 148 RX0 yX0_copy wsX0_copy) := goodIn_app (goodIn_of _ (by decide +kernel)) ggX3_reaches_X0_copy
set_option maxRecDepth 20000 in
theorem ggX3_reaches_X2_isKnown : GoodIn wsX3_reaches wsX2_isKnown := goodIn_r _ [66, 49, 168, 169, 170, 171, 172, 173, 174, 175, 176, 177, 178, 179, 180] (by decide +kernel) (by decide +kernel)
set_option maxRecDepth 20000 in
theorem gX3_reaches_X2_isKnown : GoodIn wsX3_reaches (wsV RX3 156 RX2 yX2_isKnown wsX2_isKnown) := goodIn_app (goodIn_of _ (by decide +kernel)) ggX3_reaches_X2_isKnown
set_option maxRecDepth 20000 in
theorem ggX3_reaches_X0_letGo : GoodIn wsX3_reaches wsX0_letGo := goodIn_r _ [70, 31, 71, 72, 73, 20, 74, 22, 23, 75, 76, 77, 78, 79, 80, 36, 81, 44, 82, 83, 84, 85, 86, 87, 88, 89, 48, 90, 91, 92, 93, 94, 42, 43, 95, 96, 97, 98, 99, 100, 101, 102, 30, 29, 103, 104, 32, 105, 106, 107, 108, 109, 46, 47, 26, 27, 28, 110, 111, 112, 113, 38, 114, 115, 116, 117, 39, 118, 119, 120, 121, 40, 122, 123, 124, 55, 125, 58, 57, 60, 61, 62, 126, 127, 128, 129, 50, 130, 131, 132, 133, 134, 135, 136, 137, 138, 139, 140, 141, 142, 143, 144, 51, 145, 146, 147, 148, 149, 150, 64, 65, 66, 49, 151, 152, 153, 154, 155, 156, 157, 158, 45, 161, 162, 163, 164, 165, 166, 167, 168, 169, 170, 171, 172, 173, 174, 175, 176, 177, 178, 179, 180, 181, 182, 183, 184, 185] (by decide +kernel) (by decide +kernel)
set_option maxRecDepth 20000 in
theorem gX3_reaches_X0_letGo : GoodIn wsX3_reaches (wsV RX3 145 RX0 yX0_letGo wsX0_letGo) := goodIn_app (goodIn_of _ (by decide +kernel)) ggX3_reaches_X0_letGo
theorem dX3_reaches_0 : decode cX3_reaches 0 = .ok (.aload_n 0, 1) := by decide +kernel
theorem dX3_reaches_1 : decode cX3_reaches 1 = .ok (.iload_n 1, 1) := by decide +kernel
theorem dX3_reaches_2 : decode cX3_reaches 2 = .ok (.invokevirtual 137, 3) := by decide +kernel
theorem dX3_reaches_5 : decode cX3_reaches 5 = .ok (.aload_n 0, 1) := by decide +kernel
theorem dX3_reaches_6 : decode cX3_reaches 6 = .ok (.iload_n 2, 1) := by decide +kernel
theorem dX3_reaches_7 : decode cX3_reaches 7 = .ok (.invokevirtual 91, 3) := by decide +kernel
theorem dX3_reaches_10 : decode cX3_reaches 10 = .ok (.aload_n 0, 1) := by decide +kernel
theorem dX3_reaches_11 : decode cX3_reaches 11 = .ok (.getfield 16, 3) := by decide +kernel
theorem dX3_reaches_14 : decode cX3_reaches 14 = .ok (.aload_n 0, 1) := by decide +kernel
theorem dX3_reaches_15 : decode cX3_reaches 15 = .ok (.getfield 12, 3) := by decide +kernel
theorem dX3_reaches_18 : decode cX3_reaches 18 = .ok (.invokevirtual 148, 3) := by decide +kernel
theorem dX3_reaches_21 : decode cX3_reaches 21 = .ok (.aload_n 0, 1) := by decide +kernel
theorem dX3_reaches_22 : decode cX3_reaches 22 = .ok (.getfield 16, 3) := by decide +kernel
theorem dX3_reaches_25 : decode cX3_reaches 25 = .ok (.getfield 152, 3) := by decide +kernel
theorem dX3_reaches_28 : decode cX3_reaches 28 = .ok (.iload_n 1, 1) := by decide +kernel
theorem dX3_reaches_29 : decode cX3_reaches 29 = .ok (.aaload, 1) := by decide +kernel
theorem dX3_reaches_30 : decode cX3_reaches 30 = .ok (.astore_n 3, 1) := by decide +kernel
theorem dX3_reaches_31 : decode cX3_reaches 31 = .ok (.iconst 0, 1) := by decide +kernel
theorem dX3_reaches_32 : decode cX3_reaches 32 = .ok (.istore 4, 2) := by decide +kernel
theorem dX3_reaches_34 : decode cX3_reaches 34 = .ok (.iload 4, 2) := by decide +kernel
theorem dX3_reaches_36 : decode cX3_reaches 36 = .ok (.sipush 200, 3) := by decide +kernel
theorem dX3_reaches_39 : decode cX3_reaches 39 = .ok (.if_icmp .gt 29, 3) := by decide +kernel
theorem dX3_reaches_42 : decode cX3_reaches 42 = .ok (.aload_n 3, 1) := by decide +kernel
theorem dX3_reaches_43 : decode cX3_reaches 43 = .ok (.iload_n 2, 1) := by decide +kernel
theorem dX3_reaches_44 : decode cX3_reaches 44 = .ok (.invokevirtual 156, 3) := by decide +kernel
theorem dX3_reaches_47 : decode cX3_reaches 47 = .ok (.ifCond .eq 6, 3) := by decide +kernel
theorem dX3_reaches_50 : decode cX3_reaches 50 = .ok (.iload 4, 2) := by decide +kernel
theorem dX3_reaches_52 : decode cX3_reaches 52 = .ok (.ireturn, 1) := by decide +kernel
theorem dX3_reaches_53 : decode cX3_reaches 53 = .ok (.aload_n 0, 1) := by decide +kernel
theorem dX3_reaches_54 : decode cX3_reaches 54 = .ok (.getfield 16, 3) := by decide +kernel
theorem dX3_reaches_57 : decode cX3_reaches 57 = .ok (.iconst 1, 1) := by decide +kernel
theorem dX3_reaches_58 : decode cX3_reaches 58 = .ok (.invokevirtual 145, 3) := by decide +kernel
theorem dX3_reaches_61 : decode cX3_reaches 61 = .ok (.pop, 1) := by decide +kernel
theorem dX3_reaches_62 : decode cX3_reaches 62 = .ok (.iinc 4 1, 3) := by decide +kernel
theorem dX3_reaches_65 : decode cX3_reaches 65 = .ok (.goto (-31), 3) := by decide +kernel
theorem dX3_reaches_68 : decode cX3_reaches 68 = .ok (.iconst (-1), 1) := by decide +kernel
theorem dX3_reaches_69 : decode cX3_reaches 69 = .ok (.ireturn, 1) := by decide +kernel
set_option maxRecDepth 20000 in
theorem ggX3_best_X3_checkVillage : GoodIn wsX3_best wsX3_checkVillage := goodIn_ca (goodIn_r _ [7, 8, 9, 2, 10, 170, 171, 172, 173, 174, 175, 176, 177, 178] (by decide +kernel) (by decide +kernel)) (goodIn_sub (fun _ h => List.mem_cons_of_mem _ (List.mem_append_right _ h)) (by decide +kernel))
set_option maxRecDepth 20000 in
theorem gX3_best_X3_checkVillage : GoodIn wsX3_best (wsV RX3 137 RX3 yX3_checkVillage wsX3_checkVillage) := goodIn_app (goodIn_of _ (by decide +kernel)) ggX3_best_X3_checkVillage
set_option maxRecDepth 20000 in
theorem ggX3_best_X3_checkPhrase : GoodIn wsX3_best wsX3_checkPhrase := goodIn_ca (goodIn_r _ [14, 8, 9, 2, 15, 170, 171, 172, 173, 174, 175, 176, 177, 178] (by decide +kernel) (by decide +kernel)) (goodIn_sub (fun _ h => List.mem_cons_of_mem _ (List.mem_append_right _ h)) (by decide +kernel))
set_option maxRecDepth 20000 in
theorem gX3_best_X3_checkPhrase : GoodIn wsX3_best (wsV RX3 91 RX3 yX3_checkPhrase wsX3_checkPhrase) := goodIn_app (goodIn_of _ (by decide +kernel)) ggX3_best_X3_checkPhrase
set_option maxRecDepth 20000 in
theorem ggX3_best_X0_copy : GoodIn wsX3_best wsX0_copy := goodIn_r _ [20, 21, 22, 23, 24, 25, 26, 27, 28, 29, 30, 31, 32, 33, 34, 35, 36, 37, 38, 39, 40, 41, 42, 43, 44, 45, 46, 47, 48, 49, 50, 51, 52, 53, 54, 55, 56, 57, 58, 59, 60, 61, 172, 173, 174, 175, 176, 177, 178, 179, 180, 181, 182, 183, 184, 185, 186, 187, 188, 189, 190, 191, 192, 193, 194, 195, 196] (by decide +kernel) (by decide +kernel)
set_option maxRecDepth 20000 in
theorem gX3_best_X0_copy : GoodIn wsX3_best (wsV RX3 148 RX0 yX0_copy wsX0_copy) := goodIn_app (goodIn_of _ (by decide +kernel)) ggX3_best_X0_copy
set_option maxRecDepth 20000 in
theorem ggX3_best_X0_letGo : GoodIn wsX3_best wsX0_letGo := goodIn_r _ [65, 30, 66, 67, 68, 19, 69, 21, 22, 70, 71, 72, 73, 74, 75, 35, 76, 43, 77, 78, 79, 80, 81, 82, 83, 84, 47, 85, 86, 87, 88, 89, 41, 42, 90, 91, 92, 93, 94, 95, 96, 97, 29, 28, 98, 99, 31, 100, 101, 102, 103, 104, 45, 46, 25, 26, 27, 105, 106, 107, 108, 37, 109, 110, 111, 112, 38, 113, 114, 115, 116, 39, 117, 118, 119, 54, 120, 57, 56, 59, 60, 61, 121, 122, 123, 124, 49, 125, 126, 127, 128, 129, 130, 131, 132, 133, 134, 135, 136, 137, 138, 139, 50, 140, 141, 142, 143, 144, 145, 146, 147, 148, 48, 149, 150, 151, 152, 153, 154, 155, 156, 44, 172, 173, 174, 175, 176, 177, 178, 179, 180, 181, 182, 183, 184, 185, 186, 187, 188, 189, 190, 191, 192, 193, 194, 195, 196] (by decide +kernel) (by decide +kernel)
set_option maxRecDepth 20000 in
theorem gX3_best_X0_letGo : GoodIn wsX3_best (wsV RX3 145 RX0 yX0_letGo wsX0_letGo) := goodIn_app (goodIn_of _ (by decide +kernel)) ggX3_best_X0_letGo
set_option maxRecDepth 20000 in
theorem ggX3_best_X0_knowersOf : GoodIn wsX3_best wsX0_knowersOf := goodIn_r _ [160, 21, 22, 161, 146, 147, 35, 148, 48, 172, 173, 174, 175, 176, 177, 178, 179, 180, 181, 182, 183, 184, 185, 186, 187, 188, 189, 190, 191] (by decide +kernel) (by decide +kernel)
set_option maxRecDepth 20000 in
theorem gX3_best_X0_knowersOf : GoodIn wsX3_best (wsV RX3 159 RX0 yX0_knowersOf wsX0_knowersOf) := goodIn_app (goodIn_of _ (by decide +kernel)) ggX3_best_X0_knowersOf
set_option maxRecDepth 20000 in
theorem ggX3_best_X3_knowersIfTold : GoodIn wsX3_best wsX3_knowersIfTold := goodIn_r _ [165, 1, 2, 166, 167, 168, 16, 17, 18, 19, 20, 21, 22, 23, 24, 25, 26, 27, 28, 29, 30, 31, 32, 33, 34, 35, 36, 37, 38, 39, 40, 41, 42, 43, 44, 45, 46, 47, 48, 49, 50, 51, 52, 53, 54, 55, 56, 57, 58, 59, 60, 61, 62, 63, 64, 65, 66, 67, 68, 69, 70, 71, 72, 73, 74, 75, 76, 77, 78, 79, 80, 81, 82, 83, 84, 85, 86, 87, 88, 89, 90, 91, 92, 93, 94, 95, 96, 97, 98, 99, 100, 101, 102, 103, 104, 105, 106, 107, 108, 109, 110, 111, 112, 113, 114, 115, 116, 117, 118, 119, 120, 121, 122, 123, 124, 125, 126, 127, 128, 129, 130, 131, 132, 133, 134, 135, 136, 137, 138, 139, 140, 141, 142, 143, 144, 145, 146, 147, 148, 149, 150, 151, 152, 153, 154, 155, 156, 169, 157, 158, 159, 160, 161, 170, 171, 172, 173, 174, 175, 176, 177, 178, 179, 180, 181, 182, 183, 184, 185, 186, 187, 188, 189, 190, 191, 192, 193, 194, 195, 196] (by decide +kernel) (by decide +kernel)
set_option maxRecDepth 20000 in
theorem gX3_best_X3_knowersIfTold : GoodIn wsX3_best (wsV RX3 162 RX3 yX3_knowersIfTold wsX3_knowersIfTold) := goodIn_app (goodIn_of _ (by decide +kernel)) ggX3_best_X3_knowersIfTold
theorem dX3_best_0 : decode cX3_best 0 = .ok (.aload_n 0, 1) := by decide +kernel
theorem dX3_best_1 : decode cX3_best 1 = .ok (.iload_n 1, 1) := by decide +kernel
theorem dX3_best_2 : decode cX3_best 2 = .ok (.invokevirtual 137, 3) := by decide +kernel
theorem dX3_best_5 : decode cX3_best 5 = .ok (.aload_n 0, 1) := by decide +kernel
theorem dX3_best_6 : decode cX3_best 6 = .ok (.iload_n 2, 1) := by decide +kernel
theorem dX3_best_7 : decode cX3_best 7 = .ok (.invokevirtual 91, 3) := by decide +kernel
theorem dX3_best_10 : decode cX3_best 10 = .ok (.aload_n 0, 1) := by decide +kernel
theorem dX3_best_11 : decode cX3_best 11 = .ok (.getfield 16, 3) := by decide +kernel
theorem dX3_best_14 : decode cX3_best 14 = .ok (.aload_n 0, 1) := by decide +kernel
theorem dX3_best_15 : decode cX3_best 15 = .ok (.getfield 12, 3) := by decide +kernel
theorem dX3_best_18 : decode cX3_best 18 = .ok (.invokevirtual 148, 3) := by decide +kernel
theorem dX3_best_21 : decode cX3_best 21 = .ok (.aload_n 0, 1) := by decide +kernel
theorem dX3_best_22 : decode cX3_best 22 = .ok (.getfield 16, 3) := by decide +kernel
theorem dX3_best_25 : decode cX3_best 25 = .ok (.bipush 80, 2) := by decide +kernel
theorem dX3_best_27 : decode cX3_best 27 = .ok (.invokevirtual 145, 3) := by decide +kernel
theorem dX3_best_30 : decode cX3_best 30 = .ok (.pop, 1) := by decide +kernel
theorem dX3_best_31 : decode cX3_best 31 = .ok (.aload_n 0, 1) := by decide +kernel
theorem dX3_best_32 : decode cX3_best 32 = .ok (.getfield 16, 3) := by decide +kernel
theorem dX3_best_35 : decode cX3_best 35 = .ok (.iload_n 2, 1) := by decide +kernel
theorem dX3_best_36 : decode cX3_best 36 = .ok (.invokevirtual 159, 3) := by decide +kernel
theorem dX3_best_39 : decode cX3_best 39 = .ok (.istore_n 3, 1) := by decide +kernel
theorem dX3_best_40 : decode cX3_best 40 = .ok (.iconst (-1), 1) := by decide +kernel
theorem dX3_best_41 : decode cX3_best 41 = .ok (.istore 4, 2) := by decide +kernel
theorem dX3_best_43 : decode cX3_best 43 = .ok (.iconst 0, 1) := by decide +kernel
theorem dX3_best_44 : decode cX3_best 44 = .ok (.istore 5, 2) := by decide +kernel
theorem dX3_best_46 : decode cX3_best 46 = .ok (.iload 5, 2) := by decide +kernel
theorem dX3_best_48 : decode cX3_best 48 = .ok (.bipush 24, 2) := by decide +kernel
theorem dX3_best_50 : decode cX3_best 50 = .ok (.if_icmp .ge 32, 3) := by decide +kernel
theorem dX3_best_53 : decode cX3_best 53 = .ok (.aload_n 0, 1) := by decide +kernel
theorem dX3_best_54 : decode cX3_best 54 = .ok (.iload_n 1, 1) := by decide +kernel
theorem dX3_best_55 : decode cX3_best 55 = .ok (.iload_n 2, 1) := by decide +kernel
theorem dX3_best_56 : decode cX3_best 56 = .ok (.iload 5, 2) := by decide +kernel
theorem dX3_best_58 : decode cX3_best 58 = .ok (.invokevirtual 162, 3) := by decide +kernel
theorem dX3_best_61 : decode cX3_best 61 = .ok (.istore 6, 2) := by decide +kernel
theorem dX3_best_63 : decode cX3_best 63 = .ok (.iload 6, 2) := by decide +kernel
theorem dX3_best_65 : decode cX3_best 65 = .ok (.iload_n 3, 1) := by decide +kernel
theorem dX3_best_66 : decode cX3_best 66 = .ok (.if_icmp .le 10, 3) := by decide +kernel
theorem dX3_best_69 : decode cX3_best 69 = .ok (.iload 6, 2) := by decide +kernel
theorem dX3_best_71 : decode cX3_best 71 = .ok (.istore_n 3, 1) := by decide +kernel
theorem dX3_best_72 : decode cX3_best 72 = .ok (.iload 5, 2) := by decide +kernel
theorem dX3_best_74 : decode cX3_best 74 = .ok (.istore 4, 2) := by decide +kernel
theorem dX3_best_76 : decode cX3_best 76 = .ok (.iinc 5 1, 3) := by decide +kernel
theorem dX3_best_79 : decode cX3_best 79 = .ok (.goto (-33), 3) := by decide +kernel
theorem dX3_best_82 : decode cX3_best 82 = .ok (.iload 4, 2) := by decide +kernel
theorem dX3_best_84 : decode cX3_best 84 = .ok (.ireturn, 1) := by decide +kernel
set_option maxRecDepth 20000 in
theorem ggX3_larger_X0_copy : GoodIn wsX3_larger wsX0_copy := goodIn_r _ [12, 13, 14, 15, 16, 17, 18, 19, 20, 21, 22, 23, 24, 25, 26, 27, 28, 29, 30, 31, 32, 33, 34, 35, 36, 37, 38, 39, 40, 41, 42, 43, 44, 45, 46, 47, 48, 49, 50, 51, 52, 53, 164, 165, 166, 167, 168, 169, 170, 171, 172, 173, 174, 175, 176, 177, 178, 179, 180, 181, 182, 183, 184, 185, 186, 187, 188] (by decide +kernel) (by decide +kernel)
set_option maxRecDepth 20000 in
theorem gX3_larger_X0_copy : GoodIn wsX3_larger (wsV RX3 148 RX0 yX0_copy wsX0_copy) := goodIn_app (goodIn_of _ (by decide +kernel)) ggX3_larger_X0_copy
set_option maxRecDepth 20000 in
theorem ggX3_larger_X0_letGo : GoodIn wsX3_larger wsX0_letGo := goodIn_r _ [57, 22, 58, 59, 60, 11, 61, 13, 14, 62, 63, 64, 65, 66, 67, 27, 68, 35, 69, 70, 71, 72, 73, 74, 75, 76, 39, 77, 78, 79, 80, 81, 33, 34, 82, 83, 84, 85, 86, 87, 88, 89, 21, 20, 90, 91, 23, 92, 93, 94, 95, 96, 37, 38, 17, 18, 19, 97, 98, 99, 100, 29, 101, 102, 103, 104, 30, 105, 106, 107, 108, 31, 109, 110, 111, 46, 112, 49, 48, 51, 52, 53, 113, 114, 115, 116, 41, 117, 118, 119, 120, 121, 122, 123, 124, 125, 126, 127, 128, 129, 130, 131, 42, 132, 133, 134, 135, 136, 137, 138, 139, 140, 40, 141, 142, 143, 144, 145, 146, 147, 148, 36, 164, 165, 166, 167, 168, 169, 170, 171, 172, 173, 174, 175, 176, 177, 178, 179, 180, 181, 182, 183, 184, 185, 186, 187, 188] (by decide +kernel) (by decide +kernel)
set_option maxRecDepth 20000 in
theorem gX3_larger_X0_letGo : GoodIn wsX3_larger (wsV RX3 145 RX0 yX0_letGo wsX0_letGo) := goodIn_app (goodIn_of _ (by decide +kernel)) ggX3_larger_X0_letGo
set_option maxRecDepth 20000 in
theorem ggX3_larger_X0_knownPairs : GoodIn wsX3_larger wsX0_knownPairs := goodIn_r _ [152, 13, 14, 153, 154, 155, 27, 156, 137, 138, 139, 140, 40, 164, 165, 166, 167, 168, 169, 170, 171, 172, 173, 174, 175, 176, 177, 178, 179, 180, 181, 182, 183] (by decide +kernel) (by decide +kernel)
set_option maxRecDepth 20000 in
theorem gX3_larger_X0_knownPairs : GoodIn wsX3_larger (wsV RX3 167 RX0 yX0_knownPairs wsX0_knownPairs) := goodIn_app (goodIn_of _ (by decide +kernel)) ggX3_larger_X0_knownPairs
set_option maxRecDepth 20000 in
theorem ggX3_larger_X3_pairsIfLarger : GoodIn wsX3_larger wsX3_pairsIfLarger := goodIn_r _ [161, 3, 4, 6, 7, 8, 9, 10, 11, 12, 13, 14, 15, 16, 17, 18, 19, 20, 21, 22, 23, 24, 25, 26, 27, 28, 29, 30, 31, 32, 33, 34, 35, 36, 37, 38, 39, 40, 41, 42, 43, 44, 45, 46, 47, 48, 49, 50, 51, 52, 53, 54, 55, 56, 57, 58, 59, 60, 61, 62, 63, 64, 65, 66, 67, 68, 69, 70, 71, 72, 73, 74, 75, 76, 77, 78, 79, 80, 81, 82, 83, 84, 85, 86, 87, 88, 89, 90, 91, 92, 93, 94, 95, 96, 97, 98, 99, 100, 101, 102, 103, 104, 105, 106, 107, 108, 109, 110, 111, 112, 113, 114, 115, 116, 117, 118, 119, 120, 121, 122, 123, 124, 125, 126, 127, 128, 129, 130, 131, 132, 133, 134, 135, 136, 137, 138, 139, 140, 141, 142, 143, 144, 145, 146, 147, 148, 149, 150, 151, 152, 153, 154, 155, 156, 162, 163, 164, 165, 166, 167, 168, 169, 170, 171, 172, 173, 174, 175, 176, 177, 178, 179, 180, 181, 182, 183, 184, 185, 186, 187, 188] (by decide +kernel) (by decide +kernel)
set_option maxRecDepth 20000 in
theorem gX3_larger_X3_pairsIfLarger : GoodIn wsX3_larger (wsV RX3 171 RX3 yX3_pairsIfLarger wsX3_pairsIfLarger) := goodIn_app (goodIn_of _ (by decide +kernel)) ggX3_larger_X3_pairsIfLarger
theorem dX3_larger_0 : decode cX3_larger 0 = .ok (.iload_n 1, 1) := by decide +kernel
theorem dX3_larger_1 : decode cX3_larger 1 = .ok (.iconst 1, 1) := by decide +kernel
theorem dX3_larger_2 : decode cX3_larger 2 = .ok (.if_icmp .lt 9, 3) := by decide +kernel
theorem dX3_larger_5 : decode cX3_larger 5 = .ok (.iload_n 1, 1) := by decide +kernel
theorem dX3_larger_6 : decode cX3_larger 6 = .ok (.bipush 100, 2) := by decide +kernel
theorem dX3_larger_8 : decode cX3_larger 8 = .ok (.if_icmp .le 13, 3) := by decide +kernel
theorem dX3_larger_11 : decode cX3_larger 11 = .ok (.new 26, 3) := by decide +kernel
theorem dX3_larger_14 : decode cX3_larger 14 = .ok (.dup, 1) := by decide +kernel
theorem dX3_larger_15 : decode cX3_larger 15 = .ok (.ldc 165, 2) := by decide +kernel
theorem dX3_larger_17 : decode cX3_larger 17 = .ok (.invokespecial 30, 3) := by decide +kernel
theorem dX3_larger_20 : decode cX3_larger 20 = .ok (.athrow, 1) := by decide +kernel
theorem dX3_larger_21 : decode cX3_larger 21 = .ok (.aload_n 0, 1) := by decide +kernel
theorem dX3_larger_22 : decode cX3_larger 22 = .ok (.getfield 16, 3) := by decide +kernel
theorem dX3_larger_25 : decode cX3_larger 25 = .ok (.aload_n 0, 1) := by decide +kernel
theorem dX3_larger_26 : decode cX3_larger 26 = .ok (.getfield 12, 3) := by decide +kernel
theorem dX3_larger_29 : decode cX3_larger 29 = .ok (.invokevirtual 148, 3) := by decide +kernel
theorem dX3_larger_32 : decode cX3_larger 32 = .ok (.aload_n 0, 1) := by decide +kernel
theorem dX3_larger_33 : decode cX3_larger 33 = .ok (.getfield 16, 3) := by decide +kernel
theorem dX3_larger_36 : decode cX3_larger 36 = .ok (.iload_n 1, 1) := by decide +kernel
theorem dX3_larger_37 : decode cX3_larger 37 = .ok (.invokevirtual 145, 3) := by decide +kernel
theorem dX3_larger_40 : decode cX3_larger 40 = .ok (.pop, 1) := by decide +kernel
theorem dX3_larger_41 : decode cX3_larger 41 = .ok (.aload_n 0, 1) := by decide +kernel
theorem dX3_larger_42 : decode cX3_larger 42 = .ok (.getfield 16, 3) := by decide +kernel
theorem dX3_larger_45 : decode cX3_larger 45 = .ok (.invokevirtual 167, 3) := by decide +kernel
theorem dX3_larger_48 : decode cX3_larger 48 = .ok (.istore_n 2, 1) := by decide +kernel
theorem dX3_larger_49 : decode cX3_larger 49 = .ok (.iconst (-1), 1) := by decide +kernel
theorem dX3_larger_50 : decode cX3_larger 50 = .ok (.istore_n 3, 1) := by decide +kernel
theorem dX3_larger_51 : decode cX3_larger 51 = .ok (.iconst 0, 1) := by decide +kernel
theorem dX3_larger_52 : decode cX3_larger 52 = .ok (.istore 4, 2) := by decide +kernel
theorem dX3_larger_54 : decode cX3_larger 54 = .ok (.iload 4, 2) := by decide +kernel
theorem dX3_larger_56 : decode cX3_larger 56 = .ok (.aload_n 0, 1) := by decide +kernel
theorem dX3_larger_57 : decode cX3_larger 57 = .ok (.getfield 12, 3) := by decide +kernel
theorem dX3_larger_60 : decode cX3_larger 60 = .ok (.getfield 33, 3) := by decide +kernel
theorem dX3_larger_63 : decode cX3_larger 63 = .ok (.if_icmp .ge 48, 3) := by decide +kernel
theorem dX3_larger_66 : decode cX3_larger 66 = .ok (.aload_n 0, 1) := by decide +kernel
theorem dX3_larger_67 : decode cX3_larger 67 = .ok (.getfield 12, 3) := by decide +kernel
theorem dX3_larger_70 : decode cX3_larger 70 = .ok (.getfield 152, 3) := by decide +kernel
theorem dX3_larger_73 : decode cX3_larger 73 = .ok (.iload 4, 2) := by decide +kernel
theorem dX3_larger_75 : decode cX3_larger 75 = .ok (.aaload, 1) := by decide +kernel
theorem dX3_larger_76 : decode cX3_larger 76 = .ok (.getfield 56, 3) := by decide +kernel
theorem dX3_larger_79 : decode cX3_larger 79 = .ok (.bipush 9, 2) := by decide +kernel
theorem dX3_larger_81 : decode cX3_larger 81 = .ok (.if_icmp .ge 24, 3) := by decide +kernel
theorem dX3_larger_84 : decode cX3_larger 84 = .ok (.aload_n 0, 1) := by decide +kernel
theorem dX3_larger_85 : decode cX3_larger 85 = .ok (.iload 4, 2) := by decide +kernel
theorem dX3_larger_87 : decode cX3_larger 87 = .ok (.iload_n 1, 1) := by decide +kernel
theorem dX3_larger_88 : decode cX3_larger 88 = .ok (.invokevirtual 171, 3) := by decide +kernel
theorem dX3_larger_91 : decode cX3_larger 91 = .ok (.istore 5, 2) := by decide +kernel
theorem dX3_larger_93 : decode cX3_larger 93 = .ok (.iload 5, 2) := by decide +kernel
theorem dX3_larger_95 : decode cX3_larger 95 = .ok (.iload_n 2, 1) := by decide +kernel
theorem dX3_larger_96 : decode cX3_larger 96 = .ok (.if_icmp .le 9, 3) := by decide +kernel
theorem dX3_larger_99 : decode cX3_larger 99 = .ok (.iload 5, 2) := by decide +kernel
theorem dX3_larger_101 : decode cX3_larger 101 = .ok (.istore_n 2, 1) := by decide +kernel
theorem dX3_larger_102 : decode cX3_larger 102 = .ok (.iload 4, 2) := by decide +kernel
theorem dX3_larger_104 : decode cX3_larger 104 = .ok (.istore_n 3, 1) := by decide +kernel
theorem dX3_larger_105 : decode cX3_larger 105 = .ok (.iinc 4 1, 3) := by decide +kernel
theorem dX3_larger_108 : decode cX3_larger 108 = .ok (.goto (-54), 3) := by decide +kernel
theorem dX3_larger_111 : decode cX3_larger 111 = .ok (.iload_n 3, 1) := by decide +kernel
theorem dX3_larger_112 : decode cX3_larger 112 = .ok (.ireturn, 1) := by decide +kernel
set_option maxRecDepth 20000 in
theorem ggX3_known_X0_knownPairs : GoodIn wsX3_known wsX0_knownPairs := goodIn_r _ [8, 9, 10, 11, 12, 13, 14, 15, 16, 17, 18, 19, 20, 23, 24, 25, 26, 27, 28, 29, 30, 31, 32, 33, 34, 35, 36, 37, 38, 39, 40, 41, 42] (by decide +kernel) (by decide +kernel)
set_option maxRecDepth 20000 in
theorem gX3_known_X0_knownPairs : GoodIn wsX3_known (wsV RX3 167 RX0 yX0_knownPairs wsX0_knownPairs) := goodIn_app (goodIn_of _ (by decide +kernel)) ggX3_known_X0_knownPairs
theorem dX3_known_0 : decode cX3_known 0 = .ok (.aload_n 0, 1) := by decide +kernel
theorem dX3_known_1 : decode cX3_known 1 = .ok (.getfield 12, 3) := by decide +kernel
theorem dX3_known_4 : decode cX3_known 4 = .ok (.getfield 33, 3) := by decide +kernel
theorem dX3_known_7 : decode cX3_known 7 = .ok (.aload_n 0, 1) := by decide +kernel
theorem dX3_known_8 : decode cX3_known 8 = .ok (.getfield 12, 3) := by decide +kernel
theorem dX3_known_11 : decode cX3_known 11 = .ok (.getfield 79, 3) := by decide +kernel
theorem dX3_known_14 : decode cX3_known 14 = .ok (.imul, 1) := by decide +kernel
theorem dX3_known_15 : decode cX3_known 15 = .ok (.istore_n 1, 1) := by decide +kernel
theorem dX3_known_16 : decode cX3_known 16 = .ok (.iload_n 1, 1) := by decide +kernel
theorem dX3_known_17 : decode cX3_known 17 = .ok (.ifCond .ne 5, 3) := by decide +kernel
theorem dX3_known_20 : decode cX3_known 20 = .ok (.dconst 0, 1) := by decide +kernel
theorem dX3_known_21 : decode cX3_known 21 = .ok (.dreturn, 1) := by decide +kernel
theorem dX3_known_22 : decode cX3_known 22 = .ok (.aload_n 0, 1) := by decide +kernel
theorem dX3_known_23 : decode cX3_known 23 = .ok (.getfield 12, 3) := by decide +kernel
theorem dX3_known_26 : decode cX3_known 26 = .ok (.invokevirtual 167, 3) := by decide +kernel
theorem dX3_known_29 : decode cX3_known 29 = .ok (.i2d, 1) := by decide +kernel
theorem dX3_known_30 : decode cX3_known 30 = .ok (.iload_n 1, 1) := by decide +kernel
theorem dX3_known_31 : decode cX3_known 31 = .ok (.i2d, 1) := by decide +kernel
theorem dX3_known_32 : decode cX3_known 32 = .ok (.ddiv, 1) := by decide +kernel
theorem dX3_known_33 : decode cX3_known 33 = .ok (.dreturn, 1) := by decide +kernel
set_option maxRecDepth 20000 in
theorem ggX3_digest_X0_figure : GoodIn wsX3_digest wsX0_figure := goodIn_r _ [12, 13, 14, 15, 16, 17, 18, 19, 11, 20, 21, 22, 23, 24, 25, 26, 27, 28, 29, 30, 31, 32, 33, 34, 35, 36, 37, 38, 39, 40, 41, 42, 43, 44, 45, 46, 47, 48, 49, 50, 51, 93, 94, 95, 96, 97, 98, 99, 100, 101, 102, 103, 104, 105, 106, 107, 108, 109, 110, 111, 112, 113, 114, 115, 116, 117] (by decide +kernel) (by decide +kernel)
set_option maxRecDepth 20000 in
theorem gX3_digest_X0_figure : GoodIn wsX3_digest (wsV RX3 135 RX0 yX0_figure wsX0_figure) := goodIn_app (goodIn_of _ (by decide +kernel)) ggX3_digest_X0_figure
set_option maxRecDepth 20000 in
theorem ggX3_digest_X3_digestOn : GoodIn wsX3_digest wsX3_digestOn := goodIn_r _ [56, 2, 3, 57, 58, 59, 60, 4, 61, 62, 63, 64, 25, 65, 66, 67, 68, 69, 27, 70, 71, 72, 73, 74, 75, 76, 77, 78, 79, 80, 81, 82, 83, 44, 45, 46, 47, 48, 49, 50, 51, 84, 85, 86, 87, 88, 89, 90, 91, 92, 93, 94, 95, 96, 97, 98, 99, 100, 101, 102, 103, 104, 105, 106, 107, 108, 109, 110, 111, 112, 113, 114, 115, 116, 117] (by decide +kernel) (by decide +kernel)
set_option maxRecDepth 20000 in
theorem gX3_digest_X3_digestOn : GoodIn wsX3_digest (wsV RX3 181 RX3 yX3_digestOn wsX3_digestOn) := goodIn_app (goodIn_of _ (by decide +kernel)) ggX3_digest_X3_digestOn
theorem dX3_digest_0 : decode cX3_digest 0 = .ok (.ldc2_w 174, 3) := by decide +kernel
theorem dX3_digest_3 : decode cX3_digest 3 = .ok (.lstore_n 1, 1) := by decide +kernel
theorem dX3_digest_4 : decode cX3_digest 4 = .ok (.iconst 0, 1) := by decide +kernel
theorem dX3_digest_5 : decode cX3_digest 5 = .ok (.istore_n 3, 1) := by decide +kernel
theorem dX3_digest_6 : decode cX3_digest 6 = .ok (.iload_n 3, 1) := by decide +kernel
theorem dX3_digest_7 : decode cX3_digest 7 = .ok (.bipush 8, 2) := by decide +kernel
theorem dX3_digest_9 : decode cX3_digest 9 = .ok (.if_icmp .ge 25, 3) := by decide +kernel
theorem dX3_digest_12 : decode cX3_digest 12 = .ok (.lload_n 1, 1) := by decide +kernel
theorem dX3_digest_13 : decode cX3_digest 13 = .ok (.ldc2_w 176, 3) := by decide +kernel
theorem dX3_digest_16 : decode cX3_digest 16 = .ok (.lmul, 1) := by decide +kernel
theorem dX3_digest_17 : decode cX3_digest 17 = .ok (.aload_n 0, 1) := by decide +kernel
theorem dX3_digest_18 : decode cX3_digest 18 = .ok (.getfield 12, 3) := by decide +kernel
theorem dX3_digest_21 : decode cX3_digest 21 = .ok (.iload_n 3, 1) := by decide +kernel
theorem dX3_digest_22 : decode cX3_digest 22 = .ok (.invokevirtual 135, 3) := by decide +kernel
theorem dX3_digest_25 : decode cX3_digest 25 = .ok (.i2l, 1) := by decide +kernel
theorem dX3_digest_26 : decode cX3_digest 26 = .ok (.ladd, 1) := by decide +kernel
theorem dX3_digest_27 : decode cX3_digest 27 = .ok (.lstore_n 1, 1) := by decide +kernel
theorem dX3_digest_28 : decode cX3_digest 28 = .ok (.iinc 3 1, 3) := by decide +kernel
theorem dX3_digest_31 : decode cX3_digest 31 = .ok (.goto (-25), 3) := by decide +kernel
theorem dX3_digest_34 : decode cX3_digest 34 = .ok (.iconst 0, 1) := by decide +kernel
theorem dX3_digest_35 : decode cX3_digest 35 = .ok (.istore_n 3, 1) := by decide +kernel
theorem dX3_digest_36 : decode cX3_digest 36 = .ok (.iload_n 3, 1) := by decide +kernel
theorem dX3_digest_37 : decode cX3_digest 37 = .ok (.aload_n 0, 1) := by decide +kernel
theorem dX3_digest_38 : decode cX3_digest 38 = .ok (.getfield 12, 3) := by decide +kernel
theorem dX3_digest_41 : decode cX3_digest 41 = .ok (.getfield 79, 3) := by decide +kernel
theorem dX3_digest_44 : decode cX3_digest 44 = .ok (.if_icmp .ge 26, 3) := by decide +kernel
theorem dX3_digest_47 : decode cX3_digest 47 = .ok (.lload_n 1, 1) := by decide +kernel
theorem dX3_digest_48 : decode cX3_digest 48 = .ok (.ldc2_w 176, 3) := by decide +kernel
theorem dX3_digest_51 : decode cX3_digest 51 = .ok (.lmul, 1) := by decide +kernel
theorem dX3_digest_52 : decode cX3_digest 52 = .ok (.aload_n 0, 1) := by decide +kernel
theorem dX3_digest_53 : decode cX3_digest 53 = .ok (.getfield 12, 3) := by decide +kernel
theorem dX3_digest_56 : decode cX3_digest 56 = .ok (.getfield 178, 3) := by decide +kernel
theorem dX3_digest_59 : decode cX3_digest 59 = .ok (.iload_n 3, 1) := by decide +kernel
theorem dX3_digest_60 : decode cX3_digest 60 = .ok (.iaload, 1) := by decide +kernel
theorem dX3_digest_61 : decode cX3_digest 61 = .ok (.i2l, 1) := by decide +kernel
theorem dX3_digest_62 : decode cX3_digest 62 = .ok (.ladd, 1) := by decide +kernel
theorem dX3_digest_63 : decode cX3_digest 63 = .ok (.lstore_n 1, 1) := by decide +kernel
theorem dX3_digest_64 : decode cX3_digest 64 = .ok (.iinc 3 1, 3) := by decide +kernel
theorem dX3_digest_67 : decode cX3_digest 67 = .ok (.goto (-31), 3) := by decide +kernel
theorem dX3_digest_70 : decode cX3_digest 70 = .ok (.iconst 0, 1) := by decide +kernel
theorem dX3_digest_71 : decode cX3_digest 71 = .ok (.istore_n 3, 1) := by decide +kernel
theorem dX3_digest_72 : decode cX3_digest 72 = .ok (.iload_n 3, 1) := by decide +kernel
theorem dX3_digest_73 : decode cX3_digest 73 = .ok (.aload_n 0, 1) := by decide +kernel
theorem dX3_digest_74 : decode cX3_digest 74 = .ok (.getfield 12, 3) := by decide +kernel
theorem dX3_digest_77 : decode cX3_digest 77 = .ok (.getfield 33, 3) := by decide +kernel
theorem dX3_digest_80 : decode cX3_digest 80 = .ok (.if_icmp .ge 24, 3) := by decide +kernel
theorem dX3_digest_83 : decode cX3_digest 83 = .ok (.aload_n 0, 1) := by decide +kernel
theorem dX3_digest_84 : decode cX3_digest 84 = .ok (.lload_n 1, 1) := by decide +kernel
theorem dX3_digest_85 : decode cX3_digest 85 = .ok (.aload_n 0, 1) := by decide +kernel
theorem dX3_digest_86 : decode cX3_digest 86 = .ok (.getfield 12, 3) := by decide +kernel
theorem dX3_digest_89 : decode cX3_digest 89 = .ok (.getfield 152, 3) := by decide +kernel
theorem dX3_digest_92 : decode cX3_digest 92 = .ok (.iload_n 3, 1) := by decide +kernel
theorem dX3_digest_93 : decode cX3_digest 93 = .ok (.aaload, 1) := by decide +kernel
theorem dX3_digest_94 : decode cX3_digest 94 = .ok (.invokevirtual 181, 3) := by decide +kernel
theorem dX3_digest_97 : decode cX3_digest 97 = .ok (.lstore_n 1, 1) := by decide +kernel
theorem dX3_digest_98 : decode cX3_digest 98 = .ok (.iinc 3 1, 3) := by decide +kernel
theorem dX3_digest_101 : decode cX3_digest 101 = .ok (.goto (-29), 3) := by decide +kernel
theorem dX3_digest_104 : decode cX3_digest 104 = .ok (.lload_n 1, 1) := by decide +kernel
theorem dX3_digest_105 : decode cX3_digest 105 = .ok (.lreturn, 1) := by decide +kernel
theorem dX3_isPlace_0 : decode cX3_isPlace 0 = .ok (.iload_n 0, 1) := by decide +kernel
theorem dX3_isPlace_1 : decode cX3_isPlace 1 = .ok (.ifCond .lt 13, 3) := by decide +kernel
theorem dX3_isPlace_4 : decode cX3_isPlace 4 = .ok (.iload_n 0, 1) := by decide +kernel
theorem dX3_isPlace_5 : decode cX3_isPlace 5 = .ok (.bipush 30, 2) := by decide +kernel
theorem dX3_isPlace_7 : decode cX3_isPlace 7 = .ok (.if_icmp .gt 7, 3) := by decide +kernel
theorem dX3_isPlace_10 : decode cX3_isPlace 10 = .ok (.iconst 1, 1) := by decide +kernel
theorem dX3_isPlace_11 : decode cX3_isPlace 11 = .ok (.goto 4, 3) := by decide +kernel
theorem dX3_isPlace_14 : decode cX3_isPlace 14 = .ok (.iconst 0, 1) := by decide +kernel
theorem dX3_isPlace_15 : decode cX3_isPlace 15 = .ok (.ireturn, 1) := by decide +kernel
theorem dX3_isDrum_0 : decode cX3_isDrum 0 = .ok (.iload_n 0, 1) := by decide +kernel
theorem dX3_isDrum_1 : decode cX3_isDrum 1 = .ok (.iconst 1, 1) := by decide +kernel
theorem dX3_isDrum_2 : decode cX3_isDrum 2 = .ok (.if_icmp .lt 13, 3) := by decide +kernel
theorem dX3_isDrum_5 : decode cX3_isDrum 5 = .ok (.iload_n 0, 1) := by decide +kernel
theorem dX3_isDrum_6 : decode cX3_isDrum 6 = .ok (.bipush 9, 2) := by decide +kernel
theorem dX3_isDrum_8 : decode cX3_isDrum 8 = .ok (.if_icmp .gt 7, 3) := by decide +kernel
theorem dX3_isDrum_11 : decode cX3_isDrum 11 = .ok (.iconst 1, 1) := by decide +kernel
theorem dX3_isDrum_12 : decode cX3_isDrum 12 = .ok (.goto 4, 3) := by decide +kernel
theorem dX3_isDrum_15 : decode cX3_isDrum 15 = .ok (.iconst 0, 1) := by decide +kernel
theorem dX3_isDrum_16 : decode cX3_isDrum 16 = .ok (.ireturn, 1) := by decide +kernel
theorem dX3_countTones_0 : decode cX3_countTones 0 = .ok (.iload_n 0, 1) := by decide +kernel
theorem dX3_countTones_1 : decode cX3_countTones 1 = .ok (.istore_n 1, 1) := by decide +kernel
theorem dX3_countTones_2 : decode cX3_countTones 2 = .ok (.iconst 0, 1) := by decide +kernel
theorem dX3_countTones_3 : decode cX3_countTones 3 = .ok (.istore_n 2, 1) := by decide +kernel
theorem dX3_countTones_4 : decode cX3_countTones 4 = .ok (.iload_n 2, 1) := by decide +kernel
theorem dX3_countTones_5 : decode cX3_countTones 5 = .ok (.bipush 8, 2) := by decide +kernel
theorem dX3_countTones_7 : decode cX3_countTones 7 = .ok (.if_icmp .gt 37, 3) := by decide +kernel
theorem dX3_countTones_10 : decode cX3_countTones 10 = .ok (.iload_n 1, 1) := by decide +kernel
theorem dX3_countTones_11 : decode cX3_countTones 11 = .ok (.ifCond .ne 5, 3) := by decide +kernel
theorem dX3_countTones_14 : decode cX3_countTones 14 = .ok (.iload_n 2, 1) := by decide +kernel
theorem dX3_countTones_15 : decode cX3_countTones 15 = .ok (.ireturn, 1) := by decide +kernel
theorem dX3_countTones_16 : decode cX3_countTones 16 = .ok (.iload_n 1, 1) := by decide +kernel
theorem dX3_countTones_17 : decode cX3_countTones 17 = .ok (.bipush 10, 2) := by decide +kernel
theorem dX3_countTones_19 : decode cX3_countTones 19 = .ok (.irem, 1) := by decide +kernel
theorem dX3_countTones_20 : decode cX3_countTones 20 = .ok (.istore_n 3, 1) := by decide +kernel
theorem dX3_countTones_21 : decode cX3_countTones 21 = .ok (.iload_n 3, 1) := by decide +kernel
theorem dX3_countTones_22 : decode cX3_countTones 22 = .ok (.iconst 1, 1) := by decide +kernel
theorem dX3_countTones_23 : decode cX3_countTones 23 = .ok (.if_icmp .eq 10, 3) := by decide +kernel
theorem dX3_countTones_26 : decode cX3_countTones 26 = .ok (.iload_n 3, 1) := by decide +kernel
theorem dX3_countTones_27 : decode cX3_countTones 27 = .ok (.iconst 2, 1) := by decide +kernel
theorem dX3_countTones_28 : decode cX3_countTones 28 = .ok (.if_icmp .eq 5, 3) := by decide +kernel
theorem dX3_countTones_31 : decode cX3_countTones 31 = .ok (.iconst 0, 1) := by decide +kernel
theorem dX3_countTones_32 : decode cX3_countTones 32 = .ok (.ireturn, 1) := by decide +kernel
theorem dX3_countTones_33 : decode cX3_countTones 33 = .ok (.iload_n 1, 1) := by decide +kernel
theorem dX3_countTones_34 : decode cX3_countTones 34 = .ok (.bipush 10, 2) := by decide +kernel
theorem dX3_countTones_36 : decode cX3_countTones 36 = .ok (.idiv, 1) := by decide +kernel
theorem dX3_countTones_37 : decode cX3_countTones 37 = .ok (.istore_n 1, 1) := by decide +kernel
theorem dX3_countTones_38 : decode cX3_countTones 38 = .ok (.iinc 2 1, 3) := by decide +kernel
theorem dX3_countTones_41 : decode cX3_countTones 41 = .ok (.goto (-37), 3) := by decide +kernel
theorem dX3_countTones_44 : decode cX3_countTones 44 = .ok (.iconst 0, 1) := by decide +kernel
theorem dX3_countTones_45 : decode cX3_countTones 45 = .ok (.ireturn, 1) := by decide +kernel
theorem dX3_checkVillage_0 : decode cX3_checkVillage 0 = .ok (.iload_n 1, 1) := by decide +kernel
theorem dX3_checkVillage_1 : decode cX3_checkVillage 1 = .ok (.ifCond .lt 14, 3) := by decide +kernel
theorem dX3_checkVillage_4 : decode cX3_checkVillage 4 = .ok (.iload_n 1, 1) := by decide +kernel
theorem dX3_checkVillage_5 : decode cX3_checkVillage 5 = .ok (.aload_n 0, 1) := by decide +kernel
theorem dX3_checkVillage_6 : decode cX3_checkVillage 6 = .ok (.getfield 12, 3) := by decide +kernel
theorem dX3_checkVillage_9 : decode cX3_checkVillage 9 = .ok (.getfield 33, 3) := by decide +kernel
theorem dX3_checkVillage_12 : decode cX3_checkVillage 12 = .ok (.if_icmp .lt 13, 3) := by decide +kernel
theorem dX3_checkVillage_15 : decode cX3_checkVillage 15 = .ok (.new 107, 3) := by decide +kernel
theorem dX3_checkVillage_18 : decode cX3_checkVillage 18 = .ok (.dup, 1) := by decide +kernel
theorem dX3_checkVillage_19 : decode cX3_checkVillage 19 = .ok (.ldc 185, 2) := by decide +kernel
theorem dX3_checkVillage_21 : decode cX3_checkVillage 21 = .ok (.invokespecial 111, 3) := by decide +kernel
theorem dX3_checkVillage_24 : decode cX3_checkVillage 24 = .ok (.athrow, 1) := by decide +kernel
theorem dX3_checkVillage_25 : decode cX3_checkVillage 25 = .ok (.return_, 1) := by decide +kernel
theorem dX3_checkPhrase_0 : decode cX3_checkPhrase 0 = .ok (.iload_n 1, 1) := by decide +kernel
theorem dX3_checkPhrase_1 : decode cX3_checkPhrase 1 = .ok (.ifCond .lt 14, 3) := by decide +kernel
theorem dX3_checkPhrase_4 : decode cX3_checkPhrase 4 = .ok (.iload_n 1, 1) := by decide +kernel
theorem dX3_checkPhrase_5 : decode cX3_checkPhrase 5 = .ok (.aload_n 0, 1) := by decide +kernel
theorem dX3_checkPhrase_6 : decode cX3_checkPhrase 6 = .ok (.getfield 12, 3) := by decide +kernel
theorem dX3_checkPhrase_9 : decode cX3_checkPhrase 9 = .ok (.getfield 79, 3) := by decide +kernel
theorem dX3_checkPhrase_12 : decode cX3_checkPhrase 12 = .ok (.if_icmp .lt 13, 3) := by decide +kernel
theorem dX3_checkPhrase_15 : decode cX3_checkPhrase 15 = .ok (.new 107, 3) := by decide +kernel
theorem dX3_checkPhrase_18 : decode cX3_checkPhrase 18 = .ok (.dup, 1) := by decide +kernel
theorem dX3_checkPhrase_19 : decode cX3_checkPhrase 19 = .ok (.ldc 187, 2) := by decide +kernel
theorem dX3_checkPhrase_21 : decode cX3_checkPhrase 21 = .ok (.invokespecial 111, 3) := by decide +kernel
theorem dX3_checkPhrase_24 : decode cX3_checkPhrase 24 = .ok (.athrow, 1) := by decide +kernel
theorem dX3_checkPhrase_25 : decode cX3_checkPhrase 25 = .ok (.return_, 1) := by decide +kernel
set_option maxRecDepth 20000 in
theorem ggX3_villageOf_X3_checkVillage : GoodIn wsX3_villageOf wsX3_checkVillage := goodIn_ca (goodIn_r _ [7, 8, 9, 1, 10, 11, 12, 13, 14, 15, 16, 17, 18, 19] (by decide +kernel) (by decide +kernel)) (goodIn_sub (fun _ h => List.mem_cons_of_mem _ (List.mem_append_right _ h)) (by decide +kernel))
set_option maxRecDepth 20000 in
theorem gX3_villageOf_X3_checkVillage : GoodIn wsX3_villageOf (wsV RX3 137 RX3 yX3_checkVillage wsX3_checkVillage) := goodIn_app (goodIn_of _ (by decide +kernel)) ggX3_villageOf_X3_checkVillage
theorem dX3_villageOf_0 : decode cX3_villageOf 0 = .ok (.aload_n 0, 1) := by decide +kernel
theorem dX3_villageOf_1 : decode cX3_villageOf 1 = .ok (.iload_n 1, 1) := by decide +kernel
theorem dX3_villageOf_2 : decode cX3_villageOf 2 = .ok (.invokevirtual 137, 3) := by decide +kernel
theorem dX3_villageOf_5 : decode cX3_villageOf 5 = .ok (.aload_n 0, 1) := by decide +kernel
theorem dX3_villageOf_6 : decode cX3_villageOf 6 = .ok (.getfield 12, 3) := by decide +kernel
theorem dX3_villageOf_9 : decode cX3_villageOf 9 = .ok (.getfield 152, 3) := by decide +kernel
theorem dX3_villageOf_12 : decode cX3_villageOf 12 = .ok (.iload_n 1, 1) := by decide +kernel
theorem dX3_villageOf_13 : decode cX3_villageOf 13 = .ok (.aaload, 1) := by decide +kernel
theorem dX3_villageOf_14 : decode cX3_villageOf 14 = .ok (.areturn, 1) := by decide +kernel
set_option maxRecDepth 20000 in
theorem ggX3_knowersIfTold_X0_copy : GoodIn wsX3_knowersIfTold wsX0_copy := goodIn_r _ [10, 11, 12, 13, 14, 15, 16, 17, 18, 19, 20, 21, 22, 23, 24, 25, 26, 27, 28, 29, 30, 31, 32, 33, 34, 35, 36, 37, 38, 39, 40, 41, 42, 43, 44, 45, 46, 47, 48, 49, 50, 51, 155, 156, 157, 158, 159, 160, 161, 162, 163, 164, 165, 166, 167, 168, 169, 170, 171, 172, 173, 174, 175, 176, 177, 178, 179] (by decide +kernel) (by decide +kernel)
set_option maxRecDepth 20000 in
theorem gX3_knowersIfTold_X0_copy : GoodIn wsX3_knowersIfTold (wsV RX3 148 RX0 yX0_copy wsX0_copy) := goodIn_app (goodIn_of _ (by decide +kernel)) ggX3_knowersIfTold_X0_copy
set_option maxRecDepth 20000 in
theorem ggX3_knowersIfTold_X0_letGo : GoodIn wsX3_knowersIfTold wsX0_letGo := goodIn_r _ [55, 20, 56, 57, 58, 9, 59, 11, 12, 60, 61, 62, 63, 64, 65, 25, 66, 33, 67, 68, 69, 70, 71, 72, 73, 74, 37, 75, 76, 77, 78, 79, 31, 32, 80, 81, 82, 83, 84, 85, 86, 87, 19, 18, 88, 89, 21, 90, 91, 92, 93, 94, 35, 36, 15, 16, 17, 95, 96, 97, 98, 27, 99, 100, 101, 102, 28, 103, 104, 105, 106, 29, 107, 108, 109, 44, 110, 47, 46, 49, 50, 51, 111, 112, 113, 114, 39, 115, 116, 117, 118, 119, 120, 121, 122, 123, 124, 125, 126, 127, 128, 129, 40, 130, 131, 132, 133, 134, 135, 136, 137, 138, 38, 139, 140, 141, 142, 143, 144, 145, 146, 34, 155, 156, 157, 158, 159, 160, 161, 162, 163, 164, 165, 166, 167, 168, 169, 170, 171, 172, 173, 174, 175, 176, 177, 178, 179] (by decide +kernel) (by decide +kernel)
set_option maxRecDepth 20000 in
theorem gX3_knowersIfTold_X0_letGo : GoodIn wsX3_knowersIfTold (wsV RX3 145 RX0 yX0_letGo wsX0_letGo) := goodIn_app (goodIn_of _ (by decide +kernel)) ggX3_knowersIfTold_X0_letGo
set_option maxRecDepth 20000 in
theorem ggX3_knowersIfTold_X2_takeIn : GoodIn wsX3_knowersIfTold wsX2_takeIn := goodIn_r _ [142, 38, 37, 35, 162, 163, 164, 165, 166, 167, 168, 169, 170, 171, 172, 173, 174] (by decide +kernel) (by decide +kernel)
set_option maxRecDepth 20000 in
theorem gX3_knowersIfTold_X2_takeIn : GoodIn wsX3_knowersIfTold (wsV RX3 103 RX2 yX2_takeIn wsX2_takeIn) := goodIn_app (goodIn_of _ (by decide +kernel)) ggX3_knowersIfTold_X2_takeIn
set_option maxRecDepth 20000 in
theorem ggX3_knowersIfTold_X0_knowersOf : GoodIn wsX3_knowersIfTold wsX0_knowersOf := goodIn_r _ [151, 11, 12, 152, 136, 137, 25, 138, 38, 155, 156, 157, 158, 159, 160, 161, 162, 163, 164, 165, 166, 167, 168, 169, 170, 171, 172, 173, 174] (by decide +kernel) (by decide +kernel)
set_option maxRecDepth 20000 in
theorem gX3_knowersIfTold_X0_knowersOf : GoodIn wsX3_knowersIfTold (wsV RX3 159 RX0 yX0_knowersOf wsX0_knowersOf) := goodIn_app (goodIn_of _ (by decide +kernel)) ggX3_knowersIfTold_X0_knowersOf
theorem dX3_knowersIfTold_0 : decode cX3_knowersIfTold 0 = .ok (.aload_n 0, 1) := by decide +kernel
theorem dX3_knowersIfTold_1 : decode cX3_knowersIfTold 1 = .ok (.getfield 16, 3) := by decide +kernel
theorem dX3_knowersIfTold_4 : decode cX3_knowersIfTold 4 = .ok (.aload_n 0, 1) := by decide +kernel
theorem dX3_knowersIfTold_5 : decode cX3_knowersIfTold 5 = .ok (.getfield 12, 3) := by decide +kernel
theorem dX3_knowersIfTold_8 : decode cX3_knowersIfTold 8 = .ok (.invokevirtual 148, 3) := by decide +kernel
theorem dX3_knowersIfTold_11 : decode cX3_knowersIfTold 11 = .ok (.aload_n 0, 1) := by decide +kernel
theorem dX3_knowersIfTold_12 : decode cX3_knowersIfTold 12 = .ok (.getfield 16, 3) := by decide +kernel
theorem dX3_knowersIfTold_15 : decode cX3_knowersIfTold 15 = .ok (.iload_n 3, 1) := by decide +kernel
theorem dX3_knowersIfTold_16 : decode cX3_knowersIfTold 16 = .ok (.invokevirtual 145, 3) := by decide +kernel
theorem dX3_knowersIfTold_19 : decode cX3_knowersIfTold 19 = .ok (.pop, 1) := by decide +kernel
theorem dX3_knowersIfTold_20 : decode cX3_knowersIfTold 20 = .ok (.aload_n 0, 1) := by decide +kernel
theorem dX3_knowersIfTold_21 : decode cX3_knowersIfTold 21 = .ok (.getfield 16, 3) := by decide +kernel
theorem dX3_knowersIfTold_24 : decode cX3_knowersIfTold 24 = .ok (.getfield 152, 3) := by decide +kernel
theorem dX3_knowersIfTold_27 : decode cX3_knowersIfTold 27 = .ok (.iload_n 1, 1) := by decide +kernel
theorem dX3_knowersIfTold_28 : decode cX3_knowersIfTold 28 = .ok (.aaload, 1) := by decide +kernel
theorem dX3_knowersIfTold_29 : decode cX3_knowersIfTold 29 = .ok (.astore 4, 2) := by decide +kernel
theorem dX3_knowersIfTold_31 : decode cX3_knowersIfTold 31 = .ok (.aload 4, 2) := by decide +kernel
theorem dX3_knowersIfTold_33 : decode cX3_knowersIfTold 33 = .ok (.getfield 95, 3) := by decide +kernel
theorem dX3_knowersIfTold_36 : decode cX3_knowersIfTold 36 = .ok (.iconst 5, 1) := by decide +kernel
theorem dX3_knowersIfTold_37 : decode cX3_knowersIfTold 37 = .ok (.if_icmp .ge 16, 3) := by decide +kernel
theorem dX3_knowersIfTold_40 : decode cX3_knowersIfTold 40 = .ok (.aload 4, 2) := by decide +kernel
theorem dX3_knowersIfTold_42 : decode cX3_knowersIfTold 42 = .ok (.iload_n 2, 1) := by decide +kernel
theorem dX3_knowersIfTold_43 : decode cX3_knowersIfTold 43 = .ok (.aload_n 0, 1) := by decide +kernel
theorem dX3_knowersIfTold_44 : decode cX3_knowersIfTold 44 = .ok (.getfield 16, 3) := by decide +kernel
theorem dX3_knowersIfTold_47 : decode cX3_knowersIfTold 47 = .ok (.getfield 100, 3) := by decide +kernel
theorem dX3_knowersIfTold_50 : decode cX3_knowersIfTold 50 = .ok (.invokevirtual 103, 3) := by decide +kernel
theorem dX3_knowersIfTold_53 : decode cX3_knowersIfTold 53 = .ok (.aload_n 0, 1) := by decide +kernel
theorem dX3_knowersIfTold_54 : decode cX3_knowersIfTold 54 = .ok (.getfield 16, 3) := by decide +kernel
theorem dX3_knowersIfTold_57 : decode cX3_knowersIfTold 57 = .ok (.bipush 80, 2) := by decide +kernel
theorem dX3_knowersIfTold_59 : decode cX3_knowersIfTold 59 = .ok (.iload_n 3, 1) := by decide +kernel
theorem dX3_knowersIfTold_60 : decode cX3_knowersIfTold 60 = .ok (.isub, 1) := by decide +kernel
theorem dX3_knowersIfTold_61 : decode cX3_knowersIfTold 61 = .ok (.invokevirtual 145, 3) := by decide +kernel
theorem dX3_knowersIfTold_64 : decode cX3_knowersIfTold 64 = .ok (.pop, 1) := by decide +kernel
theorem dX3_knowersIfTold_65 : decode cX3_knowersIfTold 65 = .ok (.aload_n 0, 1) := by decide +kernel
theorem dX3_knowersIfTold_66 : decode cX3_knowersIfTold 66 = .ok (.getfield 16, 3) := by decide +kernel
theorem dX3_knowersIfTold_69 : decode cX3_knowersIfTold 69 = .ok (.iload_n 2, 1) := by decide +kernel
theorem dX3_knowersIfTold_70 : decode cX3_knowersIfTold 70 = .ok (.invokevirtual 159, 3) := by decide +kernel
theorem dX3_knowersIfTold_73 : decode cX3_knowersIfTold 73 = .ok (.ireturn, 1) := by decide +kernel
set_option maxRecDepth 20000 in
theorem ggX3_pairsIfLarger_X0_copy : GoodIn wsX3_pairsIfLarger wsX0_copy := goodIn_r _ [9, 10, 11, 12, 13, 14, 15, 16, 17, 18, 19, 20, 21, 22, 23, 24, 25, 26, 27, 28, 29, 30, 31, 32, 33, 34, 35, 36, 37, 38, 39, 40, 41, 42, 43, 44, 45, 46, 47, 48, 49, 50, 156, 157, 158, 159, 160, 161, 162, 163, 164, 165, 166, 167, 168, 169, 170, 171, 172, 173, 174, 175, 176, 177, 178, 179, 180] (by decide +kernel) (by decide +kernel)
set_option maxRecDepth 20000 in
theorem gX3_pairsIfLarger_X0_copy : GoodIn wsX3_pairsIfLarger (wsV RX3 148 RX0 yX0_copy wsX0_copy) := goodIn_app (goodIn_of _ (by decide +kernel)) ggX3_pairsIfLarger_X0_copy
set_option maxRecDepth 20000 in
theorem ggX3_pairsIfLarger_X0_letGo : GoodIn wsX3_pairsIfLarger wsX0_letGo := goodIn_r _ [54, 19, 55, 56, 57, 8, 58, 10, 11, 59, 60, 61, 62, 63, 64, 24, 65, 32, 66, 67, 68, 69, 70, 71, 72, 73, 36, 74, 75, 76, 77, 78, 30, 31, 79, 80, 81, 82, 83, 84, 85, 86, 18, 17, 87, 88, 20, 89, 90, 91, 92, 93, 34, 35, 14, 15, 16, 94, 95, 96, 97, 26, 98, 99, 100, 101, 27, 102, 103, 104, 105, 28, 106, 107, 108, 43, 109, 46, 45, 48, 49, 50, 110, 111, 112, 113, 38, 114, 115, 116, 117, 118, 119, 120, 121, 122, 123, 124, 125, 126, 127, 128, 39, 129, 130, 131, 132, 133, 134, 135, 136, 137, 37, 138, 139, 140, 141, 142, 143, 144, 145, 33, 156, 157, 158, 159, 160, 161, 162, 163, 164, 165, 166, 167, 168, 169, 170, 171, 172, 173, 174, 175, 176, 177, 178, 179, 180] (by decide +kernel) (by decide +kernel)
set_option maxRecDepth 20000 in
theorem gX3_pairsIfLarger_X0_letGo : GoodIn wsX3_pairsIfLarger (wsV RX3 145 RX0 yX0_letGo wsX0_letGo) := goodIn_app (goodIn_of _ (by decide +kernel)) ggX3_pairsIfLarger_X0_letGo
set_option maxRecDepth 20000 in
theorem ggX3_pairsIfLarger_X0_knownPairs : GoodIn wsX3_pairsIfLarger wsX0_knownPairs := goodIn_r _ [149, 10, 11, 150, 151, 152, 24, 153, 134, 135, 136, 137, 37, 156, 157, 158, 159, 160, 161, 162, 163, 164, 165, 166, 167, 168, 169, 170, 171, 172, 173, 174, 175] (by decide +kernel) (by decide +kernel)
set_option maxRecDepth 20000 in
theorem gX3_pairsIfLarger_X0_knownPairs : GoodIn wsX3_pairsIfLarger (wsV RX3 167 RX0 yX0_knownPairs wsX0_knownPairs) := goodIn_app (goodIn_of _ (by decide +kernel)) ggX3_pairsIfLarger_X0_knownPairs
theorem dX3_pairsIfLarger_0 : decode cX3_pairsIfLarger 0 = .ok (.aload_n 0, 1) := by decide +kernel
theorem dX3_pairsIfLarger_1 : decode cX3_pairsIfLarger 1 = .ok (.getfield 16, 3) := by decide +kernel
theorem dX3_pairsIfLarger_4 : decode cX3_pairsIfLarger 4 = .ok (.aload_n 0, 1) := by decide +kernel
theorem dX3_pairsIfLarger_5 : decode cX3_pairsIfLarger 5 = .ok (.getfield 12, 3) := by decide +kernel
theorem dX3_pairsIfLarger_8 : decode cX3_pairsIfLarger 8 = .ok (.invokevirtual 148, 3) := by decide +kernel
theorem dX3_pairsIfLarger_11 : decode cX3_pairsIfLarger 11 = .ok (.aload_n 0, 1) := by decide +kernel
theorem dX3_pairsIfLarger_12 : decode cX3_pairsIfLarger 12 = .ok (.getfield 16, 3) := by decide +kernel
theorem dX3_pairsIfLarger_15 : decode cX3_pairsIfLarger 15 = .ok (.getfield 152, 3) := by decide +kernel
theorem dX3_pairsIfLarger_18 : decode cX3_pairsIfLarger 18 = .ok (.iload_n 1, 1) := by decide +kernel
theorem dX3_pairsIfLarger_19 : decode cX3_pairsIfLarger 19 = .ok (.aaload, 1) := by decide +kernel
theorem dX3_pairsIfLarger_20 : decode cX3_pairsIfLarger 20 = .ok (.dup, 1) := by decide +kernel
theorem dX3_pairsIfLarger_21 : decode cX3_pairsIfLarger 21 = .ok (.getfield 56, 3) := by decide +kernel
theorem dX3_pairsIfLarger_24 : decode cX3_pairsIfLarger 24 = .ok (.iconst 1, 1) := by decide +kernel
theorem dX3_pairsIfLarger_25 : decode cX3_pairsIfLarger 25 = .ok (.iadd, 1) := by decide +kernel
theorem dX3_pairsIfLarger_26 : decode cX3_pairsIfLarger 26 = .ok (.putfield 56, 3) := by decide +kernel
theorem dX3_pairsIfLarger_29 : decode cX3_pairsIfLarger 29 = .ok (.aload_n 0, 1) := by decide +kernel
theorem dX3_pairsIfLarger_30 : decode cX3_pairsIfLarger 30 = .ok (.getfield 16, 3) := by decide +kernel
theorem dX3_pairsIfLarger_33 : decode cX3_pairsIfLarger 33 = .ok (.iload_n 2, 1) := by decide +kernel
theorem dX3_pairsIfLarger_34 : decode cX3_pairsIfLarger 34 = .ok (.invokevirtual 145, 3) := by decide +kernel
theorem dX3_pairsIfLarger_37 : decode cX3_pairsIfLarger 37 = .ok (.pop, 1) := by decide +kernel
theorem dX3_pairsIfLarger_38 : decode cX3_pairsIfLarger 38 = .ok (.aload_n 0, 1) := by decide +kernel
theorem dX3_pairsIfLarger_39 : decode cX3_pairsIfLarger 39 = .ok (.getfield 16, 3) := by decide +kernel
theorem dX3_pairsIfLarger_42 : decode cX3_pairsIfLarger 42 = .ok (.invokevirtual 167, 3) := by decide +kernel
theorem dX3_pairsIfLarger_45 : decode cX3_pairsIfLarger 45 = .ok (.ireturn, 1) := by decide +kernel
set_option maxRecDepth 20000 in
theorem ggX3_digestOn_X2_figure : GoodIn wsX3_digestOn wsX2_figure := goodIn_r _ [13, 14, 15, 16, 17, 18, 19, 20, 21, 22, 23, 24, 12, 25, 26, 27, 28, 29, 30, 31, 32, 33, 34, 35, 36, 37, 38, 39, 40, 57, 58, 59, 60, 61, 62, 63, 64, 65, 66, 67, 68, 69] (by decide +kernel) (by decide +kernel)
set_option maxRecDepth 20000 in
theorem gX3_digestOn_X2_figure : GoodIn wsX3_digestOn (wsV RX3 112 RX2 yX2_figure wsX2_figure) := goodIn_app (goodIn_of _ (by decide +kernel)) ggX3_digestOn_X2_figure
set_option maxRecDepth 20000 in
theorem ggX3_digestOn_X1_lasting : GoodIn wsX3_digestOn wsX1_lasting := goodIn_r _ [45, 46, 47, 70, 71, 72, 73, 74] (by decide +kernel) (by decide +kernel)
set_option maxRecDepth 20000 in
theorem gX3_digestOn_X1_lasting : GoodIn wsX3_digestOn (wsV RX3 128 RX1 yX1_lasting wsX1_lasting) := goodIn_app (goodIn_of _ (by decide +kernel)) ggX3_digestOn_X1_lasting
theorem dX3_digestOn_0 : decode cX3_digestOn 0 = .ok (.lload_n 1, 1) := by decide +kernel
theorem dX3_digestOn_1 : decode cX3_digestOn 1 = .ok (.lstore 4, 2) := by decide +kernel
theorem dX3_digestOn_3 : decode cX3_digestOn 3 = .ok (.iconst 0, 1) := by decide +kernel
theorem dX3_digestOn_4 : decode cX3_digestOn 4 = .ok (.istore 6, 2) := by decide +kernel
theorem dX3_digestOn_6 : decode cX3_digestOn 6 = .ok (.iload 6, 2) := by decide +kernel
theorem dX3_digestOn_8 : decode cX3_digestOn 8 = .ok (.bipush 10, 2) := by decide +kernel
theorem dX3_digestOn_10 : decode cX3_digestOn 10 = .ok (.if_icmp .ge 32, 3) := by decide +kernel
theorem dX3_digestOn_13 : decode cX3_digestOn 13 = .ok (.lload 4, 2) := by decide +kernel
theorem dX3_digestOn_15 : decode cX3_digestOn 15 = .ok (.ldc2_w 176, 3) := by decide +kernel
theorem dX3_digestOn_18 : decode cX3_digestOn 18 = .ok (.lmul, 1) := by decide +kernel
theorem dX3_digestOn_19 : decode cX3_digestOn 19 = .ok (.aload_n 3, 1) := by decide +kernel
theorem dX3_digestOn_20 : decode cX3_digestOn 20 = .ok (.iload 6, 2) := by decide +kernel
theorem dX3_digestOn_22 : decode cX3_digestOn 22 = .ok (.aload_n 0, 1) := by decide +kernel
theorem dX3_digestOn_23 : decode cX3_digestOn 23 = .ok (.getfield 12, 3) := by decide +kernel
theorem dX3_digestOn_26 : decode cX3_digestOn 26 = .ok (.getfield 100, 3) := by decide +kernel
theorem dX3_digestOn_29 : decode cX3_digestOn 29 = .ok (.invokevirtual 112, 3) := by decide +kernel
theorem dX3_digestOn_32 : decode cX3_digestOn 32 = .ok (.i2l, 1) := by decide +kernel
theorem dX3_digestOn_33 : decode cX3_digestOn 33 = .ok (.ladd, 1) := by decide +kernel
theorem dX3_digestOn_34 : decode cX3_digestOn 34 = .ok (.lstore 4, 2) := by decide +kernel
theorem dX3_digestOn_36 : decode cX3_digestOn 36 = .ok (.iinc 6 1, 3) := by decide +kernel
theorem dX3_digestOn_39 : decode cX3_digestOn 39 = .ok (.goto (-33), 3) := by decide +kernel
theorem dX3_digestOn_42 : decode cX3_digestOn 42 = .ok (.lload 4, 2) := by decide +kernel
theorem dX3_digestOn_44 : decode cX3_digestOn 44 = .ok (.ldc2_w 176, 3) := by decide +kernel
theorem dX3_digestOn_47 : decode cX3_digestOn 47 = .ok (.lmul, 1) := by decide +kernel
theorem dX3_digestOn_48 : decode cX3_digestOn 48 = .ok (.aload_n 3, 1) := by decide +kernel
theorem dX3_digestOn_49 : decode cX3_digestOn 49 = .ok (.getfield 124, 3) := by decide +kernel
theorem dX3_digestOn_52 : decode cX3_digestOn 52 = .ok (.aload_n 0, 1) := by decide +kernel
theorem dX3_digestOn_53 : decode cX3_digestOn 53 = .ok (.getfield 12, 3) := by decide +kernel
theorem dX3_digestOn_56 : decode cX3_digestOn 56 = .ok (.getfield 100, 3) := by decide +kernel
theorem dX3_digestOn_59 : decode cX3_digestOn 59 = .ok (.invokevirtual 128, 3) := by decide +kernel
theorem dX3_digestOn_62 : decode cX3_digestOn 62 = .ok (.i2l, 1) := by decide +kernel
theorem dX3_digestOn_63 : decode cX3_digestOn 63 = .ok (.ladd, 1) := by decide +kernel
theorem dX3_digestOn_64 : decode cX3_digestOn 64 = .ok (.lstore 4, 2) := by decide +kernel
theorem dX3_digestOn_66 : decode cX3_digestOn 66 = .ok (.iconst 0, 1) := by decide +kernel
theorem dX3_digestOn_67 : decode cX3_digestOn 67 = .ok (.istore 6, 2) := by decide +kernel
theorem dX3_digestOn_69 : decode cX3_digestOn 69 = .ok (.iload 6, 2) := by decide +kernel
theorem dX3_digestOn_71 : decode cX3_digestOn 71 = .ok (.aload_n 3, 1) := by decide +kernel
theorem dX3_digestOn_72 : decode cX3_digestOn 72 = .ok (.getfield 95, 3) := by decide +kernel
theorem dX3_digestOn_75 : decode cX3_digestOn 75 = .ok (.if_icmp .ge 26, 3) := by decide +kernel
theorem dX3_digestOn_78 : decode cX3_digestOn 78 = .ok (.lload 4, 2) := by decide +kernel
theorem dX3_digestOn_80 : decode cX3_digestOn 80 = .ok (.ldc2_w 176, 3) := by decide +kernel
theorem dX3_digestOn_83 : decode cX3_digestOn 83 = .ok (.lmul, 1) := by decide +kernel
theorem dX3_digestOn_84 : decode cX3_digestOn 84 = .ok (.aload_n 3, 1) := by decide +kernel
theorem dX3_digestOn_85 : decode cX3_digestOn 85 = .ok (.getfield 117, 3) := by decide +kernel
theorem dX3_digestOn_88 : decode cX3_digestOn 88 = .ok (.iload 6, 2) := by decide +kernel
theorem dX3_digestOn_90 : decode cX3_digestOn 90 = .ok (.iaload, 1) := by decide +kernel
theorem dX3_digestOn_91 : decode cX3_digestOn 91 = .ok (.i2l, 1) := by decide +kernel
theorem dX3_digestOn_92 : decode cX3_digestOn 92 = .ok (.ladd, 1) := by decide +kernel
theorem dX3_digestOn_93 : decode cX3_digestOn 93 = .ok (.lstore 4, 2) := by decide +kernel
theorem dX3_digestOn_95 : decode cX3_digestOn 95 = .ok (.iinc 6 1, 3) := by decide +kernel
theorem dX3_digestOn_98 : decode cX3_digestOn 98 = .ok (.goto (-29), 3) := by decide +kernel
theorem dX3_digestOn_101 : decode cX3_digestOn 101 = .ok (.iconst 0, 1) := by decide +kernel
theorem dX3_digestOn_102 : decode cX3_digestOn 102 = .ok (.istore 6, 2) := by decide +kernel
theorem dX3_digestOn_104 : decode cX3_digestOn 104 = .ok (.iload 6, 2) := by decide +kernel
theorem dX3_digestOn_106 : decode cX3_digestOn 106 = .ok (.aload_n 0, 1) := by decide +kernel
theorem dX3_digestOn_107 : decode cX3_digestOn 107 = .ok (.getfield 12, 3) := by decide +kernel
theorem dX3_digestOn_110 : decode cX3_digestOn 110 = .ok (.getfield 79, 3) := by decide +kernel
theorem dX3_digestOn_113 : decode cX3_digestOn 113 = .ok (.if_icmp .ge 26, 3) := by decide +kernel
theorem dX3_digestOn_116 : decode cX3_digestOn 116 = .ok (.lload 4, 2) := by decide +kernel
theorem dX3_digestOn_118 : decode cX3_digestOn 118 = .ok (.ldc2_w 176, 3) := by decide +kernel
theorem dX3_digestOn_121 : decode cX3_digestOn 121 = .ok (.lmul, 1) := by decide +kernel
theorem dX3_digestOn_122 : decode cX3_digestOn 122 = .ok (.aload_n 3, 1) := by decide +kernel
theorem dX3_digestOn_123 : decode cX3_digestOn 123 = .ok (.getfield 121, 3) := by decide +kernel
theorem dX3_digestOn_126 : decode cX3_digestOn 126 = .ok (.iload 6, 2) := by decide +kernel
theorem dX3_digestOn_128 : decode cX3_digestOn 128 = .ok (.iaload, 1) := by decide +kernel
theorem dX3_digestOn_129 : decode cX3_digestOn 129 = .ok (.i2l, 1) := by decide +kernel
theorem dX3_digestOn_130 : decode cX3_digestOn 130 = .ok (.ladd, 1) := by decide +kernel
theorem dX3_digestOn_131 : decode cX3_digestOn 131 = .ok (.lstore 4, 2) := by decide +kernel
theorem dX3_digestOn_133 : decode cX3_digestOn 133 = .ok (.iinc 6 1, 3) := by decide +kernel
theorem dX3_digestOn_136 : decode cX3_digestOn 136 = .ok (.goto (-32), 3) := by decide +kernel
theorem dX3_digestOn_139 : decode cX3_digestOn 139 = .ok (.lload 4, 2) := by decide +kernel
theorem dX3_digestOn_141 : decode cX3_digestOn 141 = .ok (.lreturn, 1) := by decide +kernel
end
section
theorem dX4_init_0 : decode cX4_init 0 = .ok (.aload_n 0, 1) := by decide +kernel
theorem dX4_init_1 : decode cX4_init 1 = .ok (.aload_n 1, 1) := by decide +kernel
theorem dX4_init_2 : decode cX4_init 2 = .ok (.putfield 3, 3) := by decide +kernel
theorem dX4_init_5 : decode cX4_init 5 = .ok (.aload_n 0, 1) := by decide +kernel
theorem dX4_init_6 : decode cX4_init 6 = .ok (.invokespecial 9, 3) := by decide +kernel
theorem dX4_init_9 : decode cX4_init 9 = .ok (.aload_n 0, 1) := by decide +kernel
theorem dX4_init_10 : decode cX4_init 10 = .ok (.bipush 8, 2) := by decide +kernel
theorem dX4_init_12 : decode cX4_init 12 = .ok (.newarray .int, 2) := by decide +kernel
theorem dX4_init_14 : decode cX4_init 14 = .ok (.putfield 15, 3) := by decide +kernel
theorem dX4_init_17 : decode cX4_init 17 = .ok (.aload_n 0, 1) := by decide +kernel
theorem dX4_init_18 : decode cX4_init 18 = .ok (.bipush 8, 2) := by decide +kernel
theorem dX4_init_20 : decode cX4_init 20 = .ok (.newarray .int, 2) := by decide +kernel
theorem dX4_init_22 : decode cX4_init 22 = .ok (.putfield 19, 3) := by decide +kernel
theorem dX4_init_25 : decode cX4_init 25 = .ok (.aload_n 0, 1) := by decide +kernel
theorem dX4_init_26 : decode cX4_init 26 = .ok (.bipush 8, 2) := by decide +kernel
theorem dX4_init_28 : decode cX4_init 28 = .ok (.newarray .int, 2) := by decide +kernel
theorem dX4_init_30 : decode cX4_init 30 = .ok (.putfield 22, 3) := by decide +kernel
theorem dX4_init_33 : decode cX4_init 33 = .ok (.aload_n 0, 1) := by decide +kernel
theorem dX4_init_34 : decode cX4_init 34 = .ok (.bipush 8, 2) := by decide +kernel
theorem dX4_init_36 : decode cX4_init 36 = .ok (.newarray .int, 2) := by decide +kernel
theorem dX4_init_38 : decode cX4_init 38 = .ok (.putfield 25, 3) := by decide +kernel
theorem dX4_init_41 : decode cX4_init 41 = .ok (.aload_n 0, 1) := by decide +kernel
theorem dX4_init_42 : decode cX4_init 42 = .ok (.bipush 40, 2) := by decide +kernel
theorem dX4_init_44 : decode cX4_init 44 = .ok (.newarray .int, 2) := by decide +kernel
theorem dX4_init_46 : decode cX4_init 46 = .ok (.putfield 28, 3) := by decide +kernel
theorem dX4_init_49 : decode cX4_init 49 = .ok (.aload_n 0, 1) := by decide +kernel
theorem dX4_init_50 : decode cX4_init 50 = .ok (.bipush 96, 2) := by decide +kernel
theorem dX4_init_52 : decode cX4_init 52 = .ok (.newarray .int, 2) := by decide +kernel
theorem dX4_init_54 : decode cX4_init 54 = .ok (.putfield 31, 3) := by decide +kernel
theorem dX4_init_57 : decode cX4_init 57 = .ok (.aload_n 0, 1) := by decide +kernel
theorem dX4_init_58 : decode cX4_init 58 = .ok (.bipush 8, 2) := by decide +kernel
theorem dX4_init_60 : decode cX4_init 60 = .ok (.newarray .int, 2) := by decide +kernel
theorem dX4_init_62 : decode cX4_init 62 = .ok (.putfield 34, 3) := by decide +kernel
theorem dX4_init_65 : decode cX4_init 65 = .ok (.aload_n 0, 1) := by decide +kernel
theorem dX4_init_66 : decode cX4_init 66 = .ok (.sipush 1024, 3) := by decide +kernel
theorem dX4_init_69 : decode cX4_init 69 = .ok (.newarray .int, 2) := by decide +kernel
theorem dX4_init_71 : decode cX4_init 71 = .ok (.putfield 37, 3) := by decide +kernel
theorem dX4_init_74 : decode cX4_init 74 = .ok (.aload_n 0, 1) := by decide +kernel
theorem dX4_init_75 : decode cX4_init 75 = .ok (.sipush 1024, 3) := by decide +kernel
theorem dX4_init_78 : decode cX4_init 78 = .ok (.newarray .int, 2) := by decide +kernel
theorem dX4_init_80 : decode cX4_init 80 = .ok (.putfield 40, 3) := by decide +kernel
theorem dX4_init_83 : decode cX4_init 83 = .ok (.aload_n 0, 1) := by decide +kernel
theorem dX4_init_84 : decode cX4_init 84 = .ok (.sipush 1024, 3) := by decide +kernel
theorem dX4_init_87 : decode cX4_init 87 = .ok (.newarray .int, 2) := by decide +kernel
theorem dX4_init_89 : decode cX4_init 89 = .ok (.putfield 43, 3) := by decide +kernel
theorem dX4_init_92 : decode cX4_init 92 = .ok (.aload_n 0, 1) := by decide +kernel
theorem dX4_init_93 : decode cX4_init 93 = .ok (.sipush 1024, 3) := by decide +kernel
theorem dX4_init_96 : decode cX4_init 96 = .ok (.newarray .int, 2) := by decide +kernel
theorem dX4_init_98 : decode cX4_init 98 = .ok (.putfield 46, 3) := by decide +kernel
theorem dX4_init_101 : decode cX4_init 101 = .ok (.aload_n 0, 1) := by decide +kernel
theorem dX4_init_102 : decode cX4_init 102 = .ok (.sipush 1024, 3) := by decide +kernel
theorem dX4_init_105 : decode cX4_init 105 = .ok (.newarray .int, 2) := by decide +kernel
theorem dX4_init_107 : decode cX4_init 107 = .ok (.putfield 49, 3) := by decide +kernel
theorem dX4_init_110 : decode cX4_init 110 = .ok (.return_, 1) := by decide +kernel
theorem dX4_copy_0 : decode cX4_copy 0 = .ok (.aload_n 1, 1) := by decide +kernel
theorem dX4_copy_1 : decode cX4_copy 1 = .ok (.iconst 0, 1) := by decide +kernel
theorem dX4_copy_2 : decode cX4_copy 2 = .ok (.aload_n 2, 1) := by decide +kernel
theorem dX4_copy_3 : decode cX4_copy 3 = .ok (.iconst 0, 1) := by decide +kernel
theorem dX4_copy_4 : decode cX4_copy 4 = .ok (.iload_n 3, 1) := by decide +kernel
theorem dX4_copy_5 : decode cX4_copy 5 = .ok (.invokestatic 52, 3) := by decide +kernel
theorem dX4_copy_8 : decode cX4_copy 8 = .ok (.return_, 1) := by decide +kernel
set_option maxRecDepth 20000 in
theorem ggX4_become_X4_copy : GoodIn wsX4_become wsX4_copy := goodIn_r _ [20, 21, 22, 23, 24] (by decide +kernel) (by decide +kernel)
set_option maxRecDepth 20000 in
theorem gX4_become_X4_copy : GoodIn wsX4_become (wsV RX4 68 RX4 yX4_copy wsX4_copy) := goodIn_app (goodIn_of _ (by decide +kernel)) ggX4_become_X4_copy
theorem dX4_become_0 : decode cX4_become 0 = .ok (.aload_n 0, 1) := by decide +kernel
theorem dX4_become_1 : decode cX4_become 1 = .ok (.aload_n 1, 1) := by decide +kernel
theorem dX4_become_2 : decode cX4_become 2 = .ok (.getfield 58, 3) := by decide +kernel
theorem dX4_become_5 : decode cX4_become 5 = .ok (.putfield 58, 3) := by decide +kernel
theorem dX4_become_8 : decode cX4_become 8 = .ok (.aload_n 0, 1) := by decide +kernel
theorem dX4_become_9 : decode cX4_become 9 = .ok (.aload_n 1, 1) := by decide +kernel
theorem dX4_become_10 : decode cX4_become 10 = .ok (.getfield 62, 3) := by decide +kernel
theorem dX4_become_13 : decode cX4_become 13 = .ok (.putfield 62, 3) := by decide +kernel
theorem dX4_become_16 : decode cX4_become 16 = .ok (.aload_n 0, 1) := by decide +kernel
theorem dX4_become_17 : decode cX4_become 17 = .ok (.aload_n 1, 1) := by decide +kernel
theorem dX4_become_18 : decode cX4_become 18 = .ok (.getfield 65, 3) := by decide +kernel
theorem dX4_become_21 : decode cX4_become 21 = .ok (.putfield 65, 3) := by decide +kernel
theorem dX4_become_24 : decode cX4_become 24 = .ok (.aload_n 0, 1) := by decide +kernel
theorem dX4_become_25 : decode cX4_become 25 = .ok (.aload_n 1, 1) := by decide +kernel
theorem dX4_become_26 : decode cX4_become 26 = .ok (.getfield 15, 3) := by decide +kernel
theorem dX4_become_29 : decode cX4_become 29 = .ok (.aload_n 0, 1) := by decide +kernel
theorem dX4_become_30 : decode cX4_become 30 = .ok (.getfield 15, 3) := by decide +kernel
theorem dX4_become_33 : decode cX4_become 33 = .ok (.bipush 8, 2) := by decide +kernel
theorem dX4_become_35 : decode cX4_become 35 = .ok (.invokevirtual 68, 3) := by decide +kernel
theorem dX4_become_38 : decode cX4_become 38 = .ok (.aload_n 0, 1) := by decide +kernel
theorem dX4_become_39 : decode cX4_become 39 = .ok (.aload_n 1, 1) := by decide +kernel
theorem dX4_become_40 : decode cX4_become 40 = .ok (.getfield 19, 3) := by decide +kernel
theorem dX4_become_43 : decode cX4_become 43 = .ok (.aload_n 0, 1) := by decide +kernel
theorem dX4_become_44 : decode cX4_become 44 = .ok (.getfield 19, 3) := by decide +kernel
theorem dX4_become_47 : decode cX4_become 47 = .ok (.bipush 8, 2) := by decide +kernel
theorem dX4_become_49 : decode cX4_become 49 = .ok (.invokevirtual 68, 3) := by decide +kernel
theorem dX4_become_52 : decode cX4_become 52 = .ok (.aload_n 0, 1) := by decide +kernel
theorem dX4_become_53 : decode cX4_become 53 = .ok (.aload_n 1, 1) := by decide +kernel
theorem dX4_become_54 : decode cX4_become 54 = .ok (.getfield 22, 3) := by decide +kernel
theorem dX4_become_57 : decode cX4_become 57 = .ok (.aload_n 0, 1) := by decide +kernel
theorem dX4_become_58 : decode cX4_become 58 = .ok (.getfield 22, 3) := by decide +kernel
theorem dX4_become_61 : decode cX4_become 61 = .ok (.bipush 8, 2) := by decide +kernel
theorem dX4_become_63 : decode cX4_become 63 = .ok (.invokevirtual 68, 3) := by decide +kernel
theorem dX4_become_66 : decode cX4_become 66 = .ok (.aload_n 0, 1) := by decide +kernel
theorem dX4_become_67 : decode cX4_become 67 = .ok (.aload_n 1, 1) := by decide +kernel
theorem dX4_become_68 : decode cX4_become 68 = .ok (.getfield 25, 3) := by decide +kernel
theorem dX4_become_71 : decode cX4_become 71 = .ok (.aload_n 0, 1) := by decide +kernel
theorem dX4_become_72 : decode cX4_become 72 = .ok (.getfield 25, 3) := by decide +kernel
theorem dX4_become_75 : decode cX4_become 75 = .ok (.bipush 8, 2) := by decide +kernel
theorem dX4_become_77 : decode cX4_become 77 = .ok (.invokevirtual 68, 3) := by decide +kernel
theorem dX4_become_80 : decode cX4_become 80 = .ok (.aload_n 0, 1) := by decide +kernel
theorem dX4_become_81 : decode cX4_become 81 = .ok (.aload_n 1, 1) := by decide +kernel
theorem dX4_become_82 : decode cX4_become 82 = .ok (.getfield 28, 3) := by decide +kernel
theorem dX4_become_85 : decode cX4_become 85 = .ok (.aload_n 0, 1) := by decide +kernel
theorem dX4_become_86 : decode cX4_become 86 = .ok (.getfield 28, 3) := by decide +kernel
theorem dX4_become_89 : decode cX4_become 89 = .ok (.bipush 40, 2) := by decide +kernel
theorem dX4_become_91 : decode cX4_become 91 = .ok (.invokevirtual 68, 3) := by decide +kernel
theorem dX4_become_94 : decode cX4_become 94 = .ok (.aload_n 0, 1) := by decide +kernel
theorem dX4_become_95 : decode cX4_become 95 = .ok (.aload_n 1, 1) := by decide +kernel
theorem dX4_become_96 : decode cX4_become 96 = .ok (.getfield 31, 3) := by decide +kernel
theorem dX4_become_99 : decode cX4_become 99 = .ok (.aload_n 0, 1) := by decide +kernel
theorem dX4_become_100 : decode cX4_become 100 = .ok (.getfield 31, 3) := by decide +kernel
theorem dX4_become_103 : decode cX4_become 103 = .ok (.bipush 96, 2) := by decide +kernel
theorem dX4_become_105 : decode cX4_become 105 = .ok (.invokevirtual 68, 3) := by decide +kernel
theorem dX4_become_108 : decode cX4_become 108 = .ok (.aload_n 0, 1) := by decide +kernel
theorem dX4_become_109 : decode cX4_become 109 = .ok (.aload_n 1, 1) := by decide +kernel
theorem dX4_become_110 : decode cX4_become 110 = .ok (.getfield 34, 3) := by decide +kernel
theorem dX4_become_113 : decode cX4_become 113 = .ok (.aload_n 0, 1) := by decide +kernel
theorem dX4_become_114 : decode cX4_become 114 = .ok (.getfield 34, 3) := by decide +kernel
theorem dX4_become_117 : decode cX4_become 117 = .ok (.bipush 8, 2) := by decide +kernel
theorem dX4_become_119 : decode cX4_become 119 = .ok (.invokevirtual 68, 3) := by decide +kernel
theorem dX4_become_122 : decode cX4_become 122 = .ok (.aload_n 0, 1) := by decide +kernel
theorem dX4_become_123 : decode cX4_become 123 = .ok (.aload_n 1, 1) := by decide +kernel
theorem dX4_become_124 : decode cX4_become 124 = .ok (.getfield 37, 3) := by decide +kernel
theorem dX4_become_127 : decode cX4_become 127 = .ok (.aload_n 0, 1) := by decide +kernel
theorem dX4_become_128 : decode cX4_become 128 = .ok (.getfield 37, 3) := by decide +kernel
theorem dX4_become_131 : decode cX4_become 131 = .ok (.aload_n 0, 1) := by decide +kernel
theorem dX4_become_132 : decode cX4_become 132 = .ok (.getfield 65, 3) := by decide +kernel
theorem dX4_become_135 : decode cX4_become 135 = .ok (.invokevirtual 68, 3) := by decide +kernel
theorem dX4_become_138 : decode cX4_become 138 = .ok (.aload_n 0, 1) := by decide +kernel
theorem dX4_become_139 : decode cX4_become 139 = .ok (.aload_n 1, 1) := by decide +kernel
theorem dX4_become_140 : decode cX4_become 140 = .ok (.getfield 40, 3) := by decide +kernel
theorem dX4_become_143 : decode cX4_become 143 = .ok (.aload_n 0, 1) := by decide +kernel
theorem dX4_become_144 : decode cX4_become 144 = .ok (.getfield 40, 3) := by decide +kernel
theorem dX4_become_147 : decode cX4_become 147 = .ok (.aload_n 0, 1) := by decide +kernel
theorem dX4_become_148 : decode cX4_become 148 = .ok (.getfield 65, 3) := by decide +kernel
theorem dX4_become_151 : decode cX4_become 151 = .ok (.invokevirtual 68, 3) := by decide +kernel
theorem dX4_become_154 : decode cX4_become 154 = .ok (.aload_n 0, 1) := by decide +kernel
theorem dX4_become_155 : decode cX4_become 155 = .ok (.aload_n 1, 1) := by decide +kernel
theorem dX4_become_156 : decode cX4_become 156 = .ok (.getfield 43, 3) := by decide +kernel
theorem dX4_become_159 : decode cX4_become 159 = .ok (.aload_n 0, 1) := by decide +kernel
theorem dX4_become_160 : decode cX4_become 160 = .ok (.getfield 43, 3) := by decide +kernel
theorem dX4_become_163 : decode cX4_become 163 = .ok (.aload_n 0, 1) := by decide +kernel
theorem dX4_become_164 : decode cX4_become 164 = .ok (.getfield 65, 3) := by decide +kernel
theorem dX4_become_167 : decode cX4_become 167 = .ok (.invokevirtual 68, 3) := by decide +kernel
theorem dX4_become_170 : decode cX4_become 170 = .ok (.aload_n 0, 1) := by decide +kernel
theorem dX4_become_171 : decode cX4_become 171 = .ok (.aload_n 1, 1) := by decide +kernel
theorem dX4_become_172 : decode cX4_become 172 = .ok (.getfield 46, 3) := by decide +kernel
theorem dX4_become_175 : decode cX4_become 175 = .ok (.aload_n 0, 1) := by decide +kernel
theorem dX4_become_176 : decode cX4_become 176 = .ok (.getfield 46, 3) := by decide +kernel
theorem dX4_become_179 : decode cX4_become 179 = .ok (.aload_n 0, 1) := by decide +kernel
theorem dX4_become_180 : decode cX4_become 180 = .ok (.getfield 65, 3) := by decide +kernel
theorem dX4_become_183 : decode cX4_become 183 = .ok (.invokevirtual 68, 3) := by decide +kernel
theorem dX4_become_186 : decode cX4_become 186 = .ok (.aload_n 0, 1) := by decide +kernel
theorem dX4_become_187 : decode cX4_become 187 = .ok (.aload_n 1, 1) := by decide +kernel
theorem dX4_become_188 : decode cX4_become 188 = .ok (.getfield 49, 3) := by decide +kernel
theorem dX4_become_191 : decode cX4_become 191 = .ok (.aload_n 0, 1) := by decide +kernel
theorem dX4_become_192 : decode cX4_become 192 = .ok (.getfield 49, 3) := by decide +kernel
theorem dX4_become_195 : decode cX4_become 195 = .ok (.aload_n 0, 1) := by decide +kernel
theorem dX4_become_196 : decode cX4_become 196 = .ok (.getfield 65, 3) := by decide +kernel
theorem dX4_become_199 : decode cX4_become 199 = .ok (.invokevirtual 68, 3) := by decide +kernel
theorem dX4_become_202 : decode cX4_become 202 = .ok (.return_, 1) := by decide +kernel
theorem dX4_isAwake_0 : decode cX4_isAwake 0 = .ok (.aload_n 0, 1) := by decide +kernel
theorem dX4_isAwake_1 : decode cX4_isAwake 1 = .ok (.getfield 58, 3) := by decide +kernel
theorem dX4_isAwake_4 : decode cX4_isAwake 4 = .ok (.bipush 24, 2) := by decide +kernel
theorem dX4_isAwake_6 : decode cX4_isAwake 6 = .ok (.irem, 1) := by decide +kernel
theorem dX4_isAwake_7 : decode cX4_isAwake 7 = .ok (.bipush 24, 2) := by decide +kernel
theorem dX4_isAwake_9 : decode cX4_isAwake 9 = .ok (.iadd, 1) := by decide +kernel
theorem dX4_isAwake_10 : decode cX4_isAwake 10 = .ok (.aload_n 0, 1) := by decide +kernel
theorem dX4_isAwake_11 : decode cX4_isAwake 11 = .ok (.getfield 3, 3) := by decide +kernel
theorem dX4_isAwake_14 : decode cX4_isAwake 14 = .ok (.getfield 72, 3) := by decide +kernel
theorem dX4_isAwake_17 : decode cX4_isAwake 17 = .ok (.iload_n 1, 1) := by decide +kernel
theorem dX4_isAwake_18 : decode cX4_isAwake 18 = .ok (.iaload, 1) := by decide +kernel
theorem dX4_isAwake_19 : decode cX4_isAwake 19 = .ok (.isub, 1) := by decide +kernel
theorem dX4_isAwake_20 : decode cX4_isAwake 20 = .ok (.bipush 24, 2) := by decide +kernel
theorem dX4_isAwake_22 : decode cX4_isAwake 22 = .ok (.irem, 1) := by decide +kernel
theorem dX4_isAwake_23 : decode cX4_isAwake 23 = .ok (.aload_n 0, 1) := by decide +kernel
theorem dX4_isAwake_24 : decode cX4_isAwake 24 = .ok (.getfield 3, 3) := by decide +kernel
theorem dX4_isAwake_27 : decode cX4_isAwake 27 = .ok (.getfield 75, 3) := by decide +kernel
theorem dX4_isAwake_30 : decode cX4_isAwake 30 = .ok (.iload_n 1, 1) := by decide +kernel
theorem dX4_isAwake_31 : decode cX4_isAwake 31 = .ok (.iaload, 1) := by decide +kernel
theorem dX4_isAwake_32 : decode cX4_isAwake 32 = .ok (.if_icmp .ge 7, 3) := by decide +kernel
theorem dX4_isAwake_35 : decode cX4_isAwake 35 = .ok (.iconst 1, 1) := by decide +kernel
theorem dX4_isAwake_36 : decode cX4_isAwake 36 = .ok (.goto 4, 3) := by decide +kernel
theorem dX4_isAwake_39 : decode cX4_isAwake 39 = .ok (.iconst 0, 1) := by decide +kernel
theorem dX4_isAwake_40 : decode cX4_isAwake 40 = .ok (.ireturn, 1) := by decide +kernel
set_option maxRecDepth 20000 in
theorem ggX4_hears_X5_far : GoodIn wsX4_hears wsX5_far := goodIn_r _ [6, 7, 8, 9, 10, 11, 12, 29, 30, 31, 32, 33, 34, 35, 36, 37, 38, 39, 40] (by decide +kernel) (by decide +kernel)
set_option maxRecDepth 20000 in
theorem gX4_hears_X5_far_n78 : GoodIn wsX4_hears (wsX5_far) := ggX4_hears_X5_far
theorem dX4_hears_0 : decode cX4_hears 0 = .ok (.aload_n 0, 1) := by decide +kernel
theorem dX4_hears_1 : decode cX4_hears 1 = .ok (.getfield 3, 3) := by decide +kernel
theorem dX4_hears_4 : decode cX4_hears 4 = .ok (.iload_n 1, 1) := by decide +kernel
theorem dX4_hears_5 : decode cX4_hears 5 = .ok (.iload_n 2, 1) := by decide +kernel
theorem dX4_hears_6 : decode cX4_hears 6 = .ok (.invokevirtual 78, 3) := by decide +kernel
theorem dX4_hears_9 : decode cX4_hears 9 = .ok (.iconst 3, 1) := by decide +kernel
theorem dX4_hears_10 : decode cX4_hears 10 = .ok (.aload_n 0, 1) := by decide +kernel
theorem dX4_hears_11 : decode cX4_hears 11 = .ok (.getfield 15, 3) := by decide +kernel
theorem dX4_hears_14 : decode cX4_hears 14 = .ok (.iload_n 1, 1) := by decide +kernel
theorem dX4_hears_15 : decode cX4_hears 15 = .ok (.iaload, 1) := by decide +kernel
theorem dX4_hears_16 : decode cX4_hears 16 = .ok (.imul, 1) := by decide +kernel
theorem dX4_hears_17 : decode cX4_hears 17 = .ok (.if_icmp .gt 7, 3) := by decide +kernel
theorem dX4_hears_20 : decode cX4_hears 20 = .ok (.iconst 1, 1) := by decide +kernel
theorem dX4_hears_21 : decode cX4_hears 21 = .ok (.goto 4, 3) := by decide +kernel
theorem dX4_hears_24 : decode cX4_hears 24 = .ok (.iconst 0, 1) := by decide +kernel
theorem dX4_hears_25 : decode cX4_hears 25 = .ok (.ireturn, 1) := by decide +kernel
theorem dX4_sound_0 : decode cX4_sound 0 = .ok (.aload_n 0, 1) := by decide +kernel
theorem dX4_sound_1 : decode cX4_sound 1 = .ok (.getfield 37, 3) := by decide +kernel
theorem dX4_sound_4 : decode cX4_sound 4 = .ok (.aload_n 0, 1) := by decide +kernel
theorem dX4_sound_5 : decode cX4_sound 5 = .ok (.getfield 65, 3) := by decide +kernel
theorem dX4_sound_8 : decode cX4_sound 8 = .ok (.iload_n 1, 1) := by decide +kernel
theorem dX4_sound_9 : decode cX4_sound 9 = .ok (.iastore, 1) := by decide +kernel
theorem dX4_sound_10 : decode cX4_sound 10 = .ok (.aload_n 0, 1) := by decide +kernel
theorem dX4_sound_11 : decode cX4_sound 11 = .ok (.getfield 40, 3) := by decide +kernel
theorem dX4_sound_14 : decode cX4_sound 14 = .ok (.aload_n 0, 1) := by decide +kernel
theorem dX4_sound_15 : decode cX4_sound 15 = .ok (.getfield 65, 3) := by decide +kernel
theorem dX4_sound_18 : decode cX4_sound 18 = .ok (.iload_n 2, 1) := by decide +kernel
theorem dX4_sound_19 : decode cX4_sound 19 = .ok (.iastore, 1) := by decide +kernel
theorem dX4_sound_20 : decode cX4_sound 20 = .ok (.aload_n 0, 1) := by decide +kernel
theorem dX4_sound_21 : decode cX4_sound 21 = .ok (.getfield 43, 3) := by decide +kernel
theorem dX4_sound_24 : decode cX4_sound 24 = .ok (.aload_n 0, 1) := by decide +kernel
theorem dX4_sound_25 : decode cX4_sound 25 = .ok (.getfield 65, 3) := by decide +kernel
theorem dX4_sound_28 : decode cX4_sound 28 = .ok (.iload_n 3, 1) := by decide +kernel
theorem dX4_sound_29 : decode cX4_sound 29 = .ok (.iastore, 1) := by decide +kernel
theorem dX4_sound_30 : decode cX4_sound 30 = .ok (.aload_n 0, 1) := by decide +kernel
theorem dX4_sound_31 : decode cX4_sound 31 = .ok (.getfield 46, 3) := by decide +kernel
theorem dX4_sound_34 : decode cX4_sound 34 = .ok (.aload_n 0, 1) := by decide +kernel
theorem dX4_sound_35 : decode cX4_sound 35 = .ok (.getfield 65, 3) := by decide +kernel
theorem dX4_sound_38 : decode cX4_sound 38 = .ok (.iload_n 3, 1) := by decide +kernel
theorem dX4_sound_39 : decode cX4_sound 39 = .ok (.aload_n 0, 1) := by decide +kernel
theorem dX4_sound_40 : decode cX4_sound 40 = .ok (.getfield 3, 3) := by decide +kernel
theorem dX4_sound_43 : decode cX4_sound 43 = .ok (.getfield 82, 3) := by decide +kernel
theorem dX4_sound_46 : decode cX4_sound 46 = .ok (.iload_n 2, 1) := by decide +kernel
theorem dX4_sound_47 : decode cX4_sound 47 = .ok (.iaload, 1) := by decide +kernel
theorem dX4_sound_48 : decode cX4_sound 48 = .ok (.iadd, 1) := by decide +kernel
theorem dX4_sound_49 : decode cX4_sound 49 = .ok (.iconst 1, 1) := by decide +kernel
theorem dX4_sound_50 : decode cX4_sound 50 = .ok (.isub, 1) := by decide +kernel
theorem dX4_sound_51 : decode cX4_sound 51 = .ok (.iastore, 1) := by decide +kernel
theorem dX4_sound_52 : decode cX4_sound 52 = .ok (.aload_n 0, 1) := by decide +kernel
theorem dX4_sound_53 : decode cX4_sound 53 = .ok (.getfield 49, 3) := by decide +kernel
theorem dX4_sound_56 : decode cX4_sound 56 = .ok (.aload_n 0, 1) := by decide +kernel
theorem dX4_sound_57 : decode cX4_sound 57 = .ok (.getfield 65, 3) := by decide +kernel
theorem dX4_sound_60 : decode cX4_sound 60 = .ok (.iconst 0, 1) := by decide +kernel
theorem dX4_sound_61 : decode cX4_sound 61 = .ok (.iastore, 1) := by decide +kernel
theorem dX4_sound_62 : decode cX4_sound 62 = .ok (.aload_n 0, 1) := by decide +kernel
theorem dX4_sound_63 : decode cX4_sound 63 = .ok (.dup, 1) := by decide +kernel
theorem dX4_sound_64 : decode cX4_sound 64 = .ok (.getfield 65, 3) := by decide +kernel
theorem dX4_sound_67 : decode cX4_sound 67 = .ok (.iconst 1, 1) := by decide +kernel
theorem dX4_sound_68 : decode cX4_sound 68 = .ok (.iadd, 1) := by decide +kernel
theorem dX4_sound_69 : decode cX4_sound 69 = .ok (.putfield 65, 3) := by decide +kernel
theorem dX4_sound_72 : decode cX4_sound 72 = .ok (.return_, 1) := by decide +kernel
set_option maxRecDepth 20000 in
theorem ggX4_begin_X4_isAwake : GoodIn wsX4_begin wsX4_isAwake := goodIn_r _ [16, 11, 9, 42, 43, 44, 45, 46, 47, 48, 49, 50, 51, 52, 53, 54, 55, 56, 57, 58, 59, 60, 61, 62, 63, 64, 65, 66, 67, 68, 69] (by decide +kernel) (by decide +kernel)
set_option maxRecDepth 20000 in
theorem gX4_begin_X4_isAwake : GoodIn wsX4_begin (wsV RX4 85 RX4 yX4_isAwake wsX4_isAwake) := goodIn_app (goodIn_of _ (by decide +kernel)) ggX4_begin_X4_isAwake
set_option maxRecDepth 20000 in
theorem ggX4_begin_X4_hears : GoodIn wsX4_begin wsX4_hears := goodIn_r _ [20, 9, 21, 22, 23, 24, 25, 26, 27, 28, 29, 30, 31, 42, 43, 44, 45, 46, 47, 48, 49, 50, 51, 52, 53, 54, 55, 56, 57, 58, 59, 60, 61, 62, 63, 64, 65, 66, 67, 68, 69] (by decide +kernel) (by decide +kernel)
set_option maxRecDepth 20000 in
theorem gX4_begin_X4_hears : GoodIn wsX4_begin (wsV RX4 92 RX4 yX4_hears wsX4_hears) := goodIn_app (goodIn_of _ (by decide +kernel)) ggX4_begin_X4_hears
set_option maxRecDepth 20000 in
theorem ggX4_begin_X5_far : GoodIn wsX4_begin wsX5_far := goodIn_r _ [25, 26, 27, 28, 29, 30, 31, 58, 59, 60, 61, 62, 63, 64, 65, 66, 67, 68, 69] (by decide +kernel) (by decide +kernel)
set_option maxRecDepth 20000 in
theorem gX4_begin_X5_far_n78 : GoodIn wsX4_begin (wsX5_far) := ggX4_begin_X5_far
set_option maxRecDepth 20000 in
theorem ggX4_begin_X4_sound : GoodIn wsX4_begin wsX4_sound := goodIn_r _ [35, 36, 37, 38, 39, 40, 9, 41, 42, 43, 44, 45, 46, 47, 48, 49, 50, 51, 52, 53, 54, 55, 56, 57, 58, 59, 60, 61, 62, 63, 64, 65, 66, 67, 68, 69] (by decide +kernel) (by decide +kernel)
set_option maxRecDepth 20000 in
theorem gX4_begin_X4_sound : GoodIn wsX4_begin (wsV RX4 96 RX4 yX4_sound wsX4_sound) := goodIn_app (goodIn_of _ (by decide +kernel)) ggX4_begin_X4_sound
theorem dX4_begin_0 : decode cX4_begin 0 = .ok (.aload_n 0, 1) := by decide +kernel
theorem dX4_begin_1 : decode cX4_begin 1 = .ok (.getfield 19, 3) := by decide +kernel
theorem dX4_begin_4 : decode cX4_begin 4 = .ok (.iload_n 1, 1) := by decide +kernel
theorem dX4_begin_5 : decode cX4_begin 5 = .ok (.iaload, 1) := by decide +kernel
theorem dX4_begin_6 : decode cX4_begin 6 = .ok (.iconst (-1), 1) := by decide +kernel
theorem dX4_begin_7 : decode cX4_begin 7 = .ok (.if_icmp .ne 20, 3) := by decide +kernel
theorem dX4_begin_10 : decode cX4_begin 10 = .ok (.aload_n 0, 1) := by decide +kernel
theorem dX4_begin_11 : decode cX4_begin 11 = .ok (.iload_n 1, 1) := by decide +kernel
theorem dX4_begin_12 : decode cX4_begin 12 = .ok (.invokevirtual 85, 3) := by decide +kernel
theorem dX4_begin_15 : decode cX4_begin 15 = .ok (.ifCond .eq 12, 3) := by decide +kernel
theorem dX4_begin_18 : decode cX4_begin 18 = .ok (.aload_n 0, 1) := by decide +kernel
theorem dX4_begin_19 : decode cX4_begin 19 = .ok (.getfield 25, 3) := by decide +kernel
theorem dX4_begin_22 : decode cX4_begin 22 = .ok (.iload_n 1, 1) := by decide +kernel
theorem dX4_begin_23 : decode cX4_begin 23 = .ok (.iaload, 1) := by decide +kernel
theorem dX4_begin_24 : decode cX4_begin 24 = .ok (.ifCond .ne 4, 3) := by decide +kernel
theorem dX4_begin_27 : decode cX4_begin 27 = .ok (.return_, 1) := by decide +kernel
theorem dX4_begin_28 : decode cX4_begin 28 = .ok (.aload_n 0, 1) := by decide +kernel
theorem dX4_begin_29 : decode cX4_begin 29 = .ok (.getfield 28, 3) := by decide +kernel
theorem dX4_begin_32 : decode cX4_begin 32 = .ok (.iconst 5, 1) := by decide +kernel
theorem dX4_begin_33 : decode cX4_begin 33 = .ok (.iload_n 1, 1) := by decide +kernel
theorem dX4_begin_34 : decode cX4_begin 34 = .ok (.imul, 1) := by decide +kernel
theorem dX4_begin_35 : decode cX4_begin 35 = .ok (.iaload, 1) := by decide +kernel
theorem dX4_begin_36 : decode cX4_begin 36 = .ok (.istore_n 2, 1) := by decide +kernel
theorem dX4_begin_37 : decode cX4_begin 37 = .ok (.aload_n 0, 1) := by decide +kernel
theorem dX4_begin_38 : decode cX4_begin 38 = .ok (.getfield 25, 3) := by decide +kernel
theorem dX4_begin_41 : decode cX4_begin 41 = .ok (.iload_n 1, 1) := by decide +kernel
theorem dX4_begin_42 : decode cX4_begin 42 = .ok (.dup2, 1) := by decide +kernel
theorem dX4_begin_43 : decode cX4_begin 43 = .ok (.iaload, 1) := by decide +kernel
theorem dX4_begin_44 : decode cX4_begin 44 = .ok (.iconst 1, 1) := by decide +kernel
theorem dX4_begin_45 : decode cX4_begin 45 = .ok (.isub, 1) := by decide +kernel
theorem dX4_begin_46 : decode cX4_begin 46 = .ok (.iastore, 1) := by decide +kernel
theorem dX4_begin_47 : decode cX4_begin 47 = .ok (.aload_n 0, 1) := by decide +kernel
theorem dX4_begin_48 : decode cX4_begin 48 = .ok (.getfield 28, 3) := by decide +kernel
theorem dX4_begin_51 : decode cX4_begin 51 = .ok (.iconst 5, 1) := by decide +kernel
theorem dX4_begin_52 : decode cX4_begin 52 = .ok (.iload_n 1, 1) := by decide +kernel
theorem dX4_begin_53 : decode cX4_begin 53 = .ok (.imul, 1) := by decide +kernel
theorem dX4_begin_54 : decode cX4_begin 54 = .ok (.iconst 1, 1) := by decide +kernel
theorem dX4_begin_55 : decode cX4_begin 55 = .ok (.iadd, 1) := by decide +kernel
theorem dX4_begin_56 : decode cX4_begin 56 = .ok (.aload_n 0, 1) := by decide +kernel
theorem dX4_begin_57 : decode cX4_begin 57 = .ok (.getfield 28, 3) := by decide +kernel
theorem dX4_begin_60 : decode cX4_begin 60 = .ok (.iconst 5, 1) := by decide +kernel
theorem dX4_begin_61 : decode cX4_begin 61 = .ok (.iload_n 1, 1) := by decide +kernel
theorem dX4_begin_62 : decode cX4_begin 62 = .ok (.imul, 1) := by decide +kernel
theorem dX4_begin_63 : decode cX4_begin 63 = .ok (.aload_n 0, 1) := by decide +kernel
theorem dX4_begin_64 : decode cX4_begin 64 = .ok (.getfield 25, 3) := by decide +kernel
theorem dX4_begin_67 : decode cX4_begin 67 = .ok (.iload_n 1, 1) := by decide +kernel
theorem dX4_begin_68 : decode cX4_begin 68 = .ok (.iaload, 1) := by decide +kernel
theorem dX4_begin_69 : decode cX4_begin 69 = .ok (.invokestatic 52, 3) := by decide +kernel
theorem dX4_begin_72 : decode cX4_begin 72 = .ok (.aload_n 0, 1) := by decide +kernel
theorem dX4_begin_73 : decode cX4_begin 73 = .ok (.getfield 19, 3) := by decide +kernel
theorem dX4_begin_76 : decode cX4_begin 76 = .ok (.iload_n 1, 1) := by decide +kernel
theorem dX4_begin_77 : decode cX4_begin 77 = .ok (.iload_n 2, 1) := by decide +kernel
theorem dX4_begin_78 : decode cX4_begin 78 = .ok (.iastore, 1) := by decide +kernel
theorem dX4_begin_79 : decode cX4_begin 79 = .ok (.aload_n 0, 1) := by decide +kernel
theorem dX4_begin_80 : decode cX4_begin 80 = .ok (.getfield 22, 3) := by decide +kernel
theorem dX4_begin_83 : decode cX4_begin 83 = .ok (.iload_n 1, 1) := by decide +kernel
theorem dX4_begin_84 : decode cX4_begin 84 = .ok (.aload_n 0, 1) := by decide +kernel
theorem dX4_begin_85 : decode cX4_begin 85 = .ok (.getfield 3, 3) := by decide +kernel
theorem dX4_begin_88 : decode cX4_begin 88 = .ok (.getfield 82, 3) := by decide +kernel
theorem dX4_begin_91 : decode cX4_begin 91 = .ok (.iload_n 2, 1) := by decide +kernel
theorem dX4_begin_92 : decode cX4_begin 92 = .ok (.iaload, 1) := by decide +kernel
theorem dX4_begin_93 : decode cX4_begin 93 = .ok (.iastore, 1) := by decide +kernel
theorem dX4_begin_94 : decode cX4_begin 94 = .ok (.aload_n 0, 1) := by decide +kernel
theorem dX4_begin_95 : decode cX4_begin 95 = .ok (.dup, 1) := by decide +kernel
theorem dX4_begin_96 : decode cX4_begin 96 = .ok (.getfield 62, 3) := by decide +kernel
theorem dX4_begin_99 : decode cX4_begin 99 = .ok (.iconst 1, 1) := by decide +kernel
theorem dX4_begin_100 : decode cX4_begin 100 = .ok (.iadd, 1) := by decide +kernel
theorem dX4_begin_101 : decode cX4_begin 101 = .ok (.putfield 62, 3) := by decide +kernel
theorem dX4_begin_104 : decode cX4_begin 104 = .ok (.iconst 0, 1) := by decide +kernel
theorem dX4_begin_105 : decode cX4_begin 105 = .ok (.istore_n 3, 1) := by decide +kernel
theorem dX4_begin_106 : decode cX4_begin 106 = .ok (.iload_n 3, 1) := by decide +kernel
theorem dX4_begin_107 : decode cX4_begin 107 = .ok (.aload_n 0, 1) := by decide +kernel
theorem dX4_begin_108 : decode cX4_begin 108 = .ok (.getfield 3, 3) := by decide +kernel
theorem dX4_begin_111 : decode cX4_begin 111 = .ok (.getfield 89, 3) := by decide +kernel
theorem dX4_begin_114 : decode cX4_begin 114 = .ok (.if_icmp .ge 77, 3) := by decide +kernel
theorem dX4_begin_117 : decode cX4_begin 117 = .ok (.iload_n 3, 1) := by decide +kernel
theorem dX4_begin_118 : decode cX4_begin 118 = .ok (.iload_n 1, 1) := by decide +kernel
theorem dX4_begin_119 : decode cX4_begin 119 = .ok (.if_icmp .eq 66, 3) := by decide +kernel
theorem dX4_begin_122 : decode cX4_begin 122 = .ok (.aload_n 0, 1) := by decide +kernel
theorem dX4_begin_123 : decode cX4_begin 123 = .ok (.iload_n 1, 1) := by decide +kernel
theorem dX4_begin_124 : decode cX4_begin 124 = .ok (.iload_n 3, 1) := by decide +kernel
theorem dX4_begin_125 : decode cX4_begin 125 = .ok (.invokevirtual 92, 3) := by decide +kernel
theorem dX4_begin_128 : decode cX4_begin 128 = .ok (.ifCond .ne 6, 3) := by decide +kernel
theorem dX4_begin_131 : decode cX4_begin 131 = .ok (.goto 54, 3) := by decide +kernel
theorem dX4_begin_134 : decode cX4_begin 134 = .ok (.aload_n 0, 1) := by decide +kernel
theorem dX4_begin_135 : decode cX4_begin 135 = .ok (.getfield 58, 3) := by decide +kernel
theorem dX4_begin_138 : decode cX4_begin 138 = .ok (.aload_n 0, 1) := by decide +kernel
theorem dX4_begin_139 : decode cX4_begin 139 = .ok (.getfield 3, 3) := by decide +kernel
theorem dX4_begin_142 : decode cX4_begin 142 = .ok (.iload_n 1, 1) := by decide +kernel
theorem dX4_begin_143 : decode cX4_begin 143 = .ok (.iload_n 3, 1) := by decide +kernel
theorem dX4_begin_144 : decode cX4_begin 144 = .ok (.invokevirtual 78, 3) := by decide +kernel
theorem dX4_begin_147 : decode cX4_begin 147 = .ok (.iconst 3, 1) := by decide +kernel
theorem dX4_begin_148 : decode cX4_begin 148 = .ok (.idiv, 1) := by decide +kernel
theorem dX4_begin_149 : decode cX4_begin 149 = .ok (.iadd, 1) := by decide +kernel
theorem dX4_begin_150 : decode cX4_begin 150 = .ok (.iconst 1, 1) := by decide +kernel
theorem dX4_begin_151 : decode cX4_begin 151 = .ok (.iadd, 1) := by decide +kernel
theorem dX4_begin_152 : decode cX4_begin 152 = .ok (.istore 4, 2) := by decide +kernel
theorem dX4_begin_154 : decode cX4_begin 154 = .ok (.aload_n 0, 1) := by decide +kernel
theorem dX4_begin_155 : decode cX4_begin 155 = .ok (.iload_n 3, 1) := by decide +kernel
theorem dX4_begin_156 : decode cX4_begin 156 = .ok (.iload_n 2, 1) := by decide +kernel
theorem dX4_begin_157 : decode cX4_begin 157 = .ok (.iload 4, 2) := by decide +kernel
theorem dX4_begin_159 : decode cX4_begin 159 = .ok (.invokevirtual 96, 3) := by decide +kernel
theorem dX4_begin_162 : decode cX4_begin 162 = .ok (.aload_n 0, 1) := by decide +kernel
theorem dX4_begin_163 : decode cX4_begin 163 = .ok (.getfield 3, 3) := by decide +kernel
theorem dX4_begin_166 : decode cX4_begin 166 = .ok (.getfield 100, 3) := by decide +kernel
theorem dX4_begin_169 : decode cX4_begin 169 = .ok (.iload_n 1, 1) := by decide +kernel
theorem dX4_begin_170 : decode cX4_begin 170 = .ok (.iaload, 1) := by decide +kernel
theorem dX4_begin_171 : decode cX4_begin 171 = .ok (.iconst 1, 1) := by decide +kernel
theorem dX4_begin_172 : decode cX4_begin 172 = .ok (.if_icmp .ne 13, 3) := by decide +kernel
theorem dX4_begin_175 : decode cX4_begin 175 = .ok (.aload_n 0, 1) := by decide +kernel
theorem dX4_begin_176 : decode cX4_begin 176 = .ok (.iload_n 3, 1) := by decide +kernel
theorem dX4_begin_177 : decode cX4_begin 177 = .ok (.iload_n 2, 1) := by decide +kernel
theorem dX4_begin_178 : decode cX4_begin 178 = .ok (.iload 4, 2) := by decide +kernel
theorem dX4_begin_180 : decode cX4_begin 180 = .ok (.iconst 4, 1) := by decide +kernel
theorem dX4_begin_181 : decode cX4_begin 181 = .ok (.iadd, 1) := by decide +kernel
theorem dX4_begin_182 : decode cX4_begin 182 = .ok (.invokevirtual 96, 3) := by decide +kernel
theorem dX4_begin_185 : decode cX4_begin 185 = .ok (.iinc 3 1, 3) := by decide +kernel
theorem dX4_begin_188 : decode cX4_begin 188 = .ok (.goto (-82), 3) := by decide +kernel
theorem dX4_begin_191 : decode cX4_begin 191 = .ok (.return_, 1) := by decide +kernel
theorem dX4_lasting_0 : decode cX4_lasting 0 = .ok (.iconst 0, 1) := by decide +kernel
theorem dX4_lasting_1 : decode cX4_lasting 1 = .ok (.istore_n 2, 1) := by decide +kernel
theorem dX4_lasting_2 : decode cX4_lasting 2 = .ok (.iconst 0, 1) := by decide +kernel
theorem dX4_lasting_3 : decode cX4_lasting 3 = .ok (.istore_n 3, 1) := by decide +kernel
theorem dX4_lasting_4 : decode cX4_lasting 4 = .ok (.iload_n 3, 1) := by decide +kernel
theorem dX4_lasting_5 : decode cX4_lasting 5 = .ok (.aload_n 0, 1) := by decide +kernel
theorem dX4_lasting_6 : decode cX4_lasting 6 = .ok (.getfield 65, 3) := by decide +kernel
theorem dX4_lasting_9 : decode cX4_lasting 9 = .ok (.if_icmp .ge 53, 3) := by decide +kernel
theorem dX4_lasting_12 : decode cX4_lasting 12 = .ok (.iload_n 2, 1) := by decide +kernel
theorem dX4_lasting_13 : decode cX4_lasting 13 = .ok (.aload_n 0, 1) := by decide +kernel
theorem dX4_lasting_14 : decode cX4_lasting 14 = .ok (.getfield 37, 3) := by decide +kernel
theorem dX4_lasting_17 : decode cX4_lasting 17 = .ok (.iload_n 3, 1) := by decide +kernel
theorem dX4_lasting_18 : decode cX4_lasting 18 = .ok (.iaload, 1) := by decide +kernel
theorem dX4_lasting_19 : decode cX4_lasting 19 = .ok (.iload_n 1, 1) := by decide +kernel
theorem dX4_lasting_20 : decode cX4_lasting 20 = .ok (.if_icmp .ne 33, 3) := by decide +kernel
theorem dX4_lasting_23 : decode cX4_lasting 23 = .ok (.aload_n 0, 1) := by decide +kernel
theorem dX4_lasting_24 : decode cX4_lasting 24 = .ok (.getfield 43, 3) := by decide +kernel
theorem dX4_lasting_27 : decode cX4_lasting 27 = .ok (.iload_n 3, 1) := by decide +kernel
theorem dX4_lasting_28 : decode cX4_lasting 28 = .ok (.iaload, 1) := by decide +kernel
theorem dX4_lasting_29 : decode cX4_lasting 29 = .ok (.aload_n 0, 1) := by decide +kernel
theorem dX4_lasting_30 : decode cX4_lasting 30 = .ok (.getfield 58, 3) := by decide +kernel
theorem dX4_lasting_33 : decode cX4_lasting 33 = .ok (.if_icmp .gt 20, 3) := by decide +kernel
theorem dX4_lasting_36 : decode cX4_lasting 36 = .ok (.aload_n 0, 1) := by decide +kernel
theorem dX4_lasting_37 : decode cX4_lasting 37 = .ok (.getfield 46, 3) := by decide +kernel
theorem dX4_lasting_40 : decode cX4_lasting 40 = .ok (.iload_n 3, 1) := by decide +kernel
theorem dX4_lasting_41 : decode cX4_lasting 41 = .ok (.iaload, 1) := by decide +kernel
theorem dX4_lasting_42 : decode cX4_lasting 42 = .ok (.aload_n 0, 1) := by decide +kernel
theorem dX4_lasting_43 : decode cX4_lasting 43 = .ok (.getfield 58, 3) := by decide +kernel
theorem dX4_lasting_46 : decode cX4_lasting 46 = .ok (.if_icmp .lt 7, 3) := by decide +kernel
theorem dX4_lasting_49 : decode cX4_lasting 49 = .ok (.iconst 1, 1) := by decide +kernel
theorem dX4_lasting_50 : decode cX4_lasting 50 = .ok (.goto 4, 3) := by decide +kernel
theorem dX4_lasting_53 : decode cX4_lasting 53 = .ok (.iconst 0, 1) := by decide +kernel
theorem dX4_lasting_54 : decode cX4_lasting 54 = .ok (.iadd, 1) := by decide +kernel
theorem dX4_lasting_55 : decode cX4_lasting 55 = .ok (.istore_n 2, 1) := by decide +kernel
theorem dX4_lasting_56 : decode cX4_lasting 56 = .ok (.iinc 3 1, 3) := by decide +kernel
theorem dX4_lasting_59 : decode cX4_lasting 59 = .ok (.goto (-55), 3) := by decide +kernel
theorem dX4_lasting_62 : decode cX4_lasting 62 = .ok (.iload_n 2, 1) := by decide +kernel
theorem dX4_lasting_63 : decode cX4_lasting 63 = .ok (.ireturn, 1) := by decide +kernel
theorem dX4_learns_0 : decode cX4_learns 0 = .ok (.aload_n 0, 1) := by decide +kernel
theorem dX4_learns_1 : decode cX4_learns 1 = .ok (.getfield 31, 3) := by decide +kernel
theorem dX4_learns_4 : decode cX4_learns 4 = .ok (.bipush 12, 2) := by decide +kernel
theorem dX4_learns_6 : decode cX4_learns 6 = .ok (.iload_n 1, 1) := by decide +kernel
theorem dX4_learns_7 : decode cX4_learns 7 = .ok (.imul, 1) := by decide +kernel
theorem dX4_learns_8 : decode cX4_learns 8 = .ok (.iload_n 2, 1) := by decide +kernel
theorem dX4_learns_9 : decode cX4_learns 9 = .ok (.iadd, 1) := by decide +kernel
theorem dX4_learns_10 : decode cX4_learns 10 = .ok (.iaload, 1) := by decide +kernel
theorem dX4_learns_11 : decode cX4_learns 11 = .ok (.iconst (-1), 1) := by decide +kernel
theorem dX4_learns_12 : decode cX4_learns 12 = .ok (.if_icmp .eq 5, 3) := by decide +kernel
theorem dX4_learns_15 : decode cX4_learns 15 = .ok (.iconst 0, 1) := by decide +kernel
theorem dX4_learns_16 : decode cX4_learns 16 = .ok (.ireturn, 1) := by decide +kernel
theorem dX4_learns_17 : decode cX4_learns 17 = .ok (.aload_n 0, 1) := by decide +kernel
theorem dX4_learns_18 : decode cX4_learns 18 = .ok (.getfield 31, 3) := by decide +kernel
theorem dX4_learns_21 : decode cX4_learns 21 = .ok (.bipush 12, 2) := by decide +kernel
theorem dX4_learns_23 : decode cX4_learns 23 = .ok (.iload_n 1, 1) := by decide +kernel
theorem dX4_learns_24 : decode cX4_learns 24 = .ok (.imul, 1) := by decide +kernel
theorem dX4_learns_25 : decode cX4_learns 25 = .ok (.iload_n 2, 1) := by decide +kernel
theorem dX4_learns_26 : decode cX4_learns 26 = .ok (.iadd, 1) := by decide +kernel
theorem dX4_learns_27 : decode cX4_learns 27 = .ok (.aload_n 0, 1) := by decide +kernel
theorem dX4_learns_28 : decode cX4_learns 28 = .ok (.getfield 58, 3) := by decide +kernel
theorem dX4_learns_31 : decode cX4_learns 31 = .ok (.iastore, 1) := by decide +kernel
theorem dX4_learns_32 : decode cX4_learns 32 = .ok (.iconst 1, 1) := by decide +kernel
theorem dX4_learns_33 : decode cX4_learns 33 = .ok (.ireturn, 1) := by decide +kernel
theorem dX4_put_0 : decode cX4_put 0 = .ok (.aload_n 0, 1) := by decide +kernel
theorem dX4_put_1 : decode cX4_put 1 = .ok (.getfield 28, 3) := by decide +kernel
theorem dX4_put_4 : decode cX4_put 4 = .ok (.iconst 5, 1) := by decide +kernel
theorem dX4_put_5 : decode cX4_put 5 = .ok (.iload_n 1, 1) := by decide +kernel
theorem dX4_put_6 : decode cX4_put 6 = .ok (.imul, 1) := by decide +kernel
theorem dX4_put_7 : decode cX4_put 7 = .ok (.aload_n 0, 1) := by decide +kernel
theorem dX4_put_8 : decode cX4_put 8 = .ok (.getfield 25, 3) := by decide +kernel
theorem dX4_put_11 : decode cX4_put 11 = .ok (.iload_n 1, 1) := by decide +kernel
theorem dX4_put_12 : decode cX4_put 12 = .ok (.iaload, 1) := by decide +kernel
theorem dX4_put_13 : decode cX4_put 13 = .ok (.iadd, 1) := by decide +kernel
theorem dX4_put_14 : decode cX4_put 14 = .ok (.iload_n 2, 1) := by decide +kernel
theorem dX4_put_15 : decode cX4_put 15 = .ok (.iastore, 1) := by decide +kernel
theorem dX4_put_16 : decode cX4_put 16 = .ok (.aload_n 0, 1) := by decide +kernel
theorem dX4_put_17 : decode cX4_put 17 = .ok (.getfield 25, 3) := by decide +kernel
theorem dX4_put_20 : decode cX4_put 20 = .ok (.iload_n 1, 1) := by decide +kernel
theorem dX4_put_21 : decode cX4_put 21 = .ok (.dup2, 1) := by decide +kernel
theorem dX4_put_22 : decode cX4_put 22 = .ok (.iaload, 1) := by decide +kernel
theorem dX4_put_23 : decode cX4_put 23 = .ok (.iconst 1, 1) := by decide +kernel
theorem dX4_put_24 : decode cX4_put 24 = .ok (.iadd, 1) := by decide +kernel
theorem dX4_put_25 : decode cX4_put 25 = .ok (.iastore, 1) := by decide +kernel
theorem dX4_put_26 : decode cX4_put 26 = .ok (.return_, 1) := by decide +kernel
set_option maxRecDepth 20000 in
theorem ggX4_pass_X4_begin : GoodIn wsX4_pass wsX4_begin := goodIn_r _ [21, 2, 11, 22, 23, 24, 25, 26, 12, 1, 27, 6, 28, 29, 30, 20, 31, 32, 33, 34, 35, 36, 37, 38, 39, 40, 41, 42, 43, 15, 44, 45, 46, 47, 48, 49, 4, 3, 9, 5, 8, 7, 63, 64, 65, 66, 67, 68, 69, 70, 71, 72, 73, 74, 75, 76, 77, 78, 79, 80, 81, 82, 83, 84, 85, 86, 87, 88, 89, 90] (by decide +kernel) (by decide +kernel)
set_option maxRecDepth 20000 in
theorem gX4_pass_X4_begin : GoodIn wsX4_pass (wsV RX4 103 RX4 yX4_begin wsX4_begin) := goodIn_app (goodIn_of _ (by decide +kernel)) ggX4_pass_X4_begin
set_option maxRecDepth 20000 in
theorem ggX4_pass_X4_isAwake : GoodIn wsX4_pass wsX4_isAwake := goodIn_r _ [31, 6, 1, 63, 64, 65, 66, 67, 68, 69, 70, 71, 72, 73, 74, 75, 76, 77, 78, 79, 80, 81, 82, 83, 84, 85, 86, 87, 88, 89, 90] (by decide +kernel) (by decide +kernel)
set_option maxRecDepth 20000 in
theorem gX4_pass_X4_isAwake : GoodIn wsX4_pass (wsV RX4 85 RX4 yX4_isAwake wsX4_isAwake) := goodIn_app (goodIn_of _ (by decide +kernel)) ggX4_pass_X4_isAwake
set_option maxRecDepth 20000 in
theorem ggX4_pass_X4_lasting : GoodIn wsX4_pass wsX4_lasting := goodIn_r _ [53, 3, 4, 5, 6, 8, 63, 64, 65, 66, 67, 68, 69, 70, 71, 72, 73, 74, 75, 76, 77, 78] (by decide +kernel) (by decide +kernel)
set_option maxRecDepth 20000 in
theorem gX4_pass_X4_lasting : GoodIn wsX4_pass (wsV RX4 107 RX4 yX4_lasting wsX4_lasting) := goodIn_app (goodIn_of _ (by decide +kernel)) ggX4_pass_X4_lasting
set_option maxRecDepth 20000 in
theorem ggX4_pass_X4_learns : GoodIn wsX4_pass wsX4_learns := goodIn_r _ [57, 58, 6, 63, 64, 65, 66, 67, 68, 69, 70, 71, 72, 73, 74, 75, 76, 77, 78] (by decide +kernel) (by decide +kernel)
set_option maxRecDepth 20000 in
theorem gX4_pass_X4_learns : GoodIn wsX4_pass (wsV RX4 111 RX4 yX4_learns wsX4_learns) := goodIn_app (goodIn_of _ (by decide +kernel)) ggX4_pass_X4_learns
set_option maxRecDepth 20000 in
theorem ggX4_pass_X4_put : GoodIn wsX4_pass wsX4_put := goodIn_r _ [62, 22, 11, 63, 64, 65, 66, 67, 68, 69, 70, 71, 72, 73, 74, 75, 76, 77, 78] (by decide +kernel) (by decide +kernel)
set_option maxRecDepth 20000 in
theorem gX4_pass_X4_put : GoodIn wsX4_pass (wsV RX4 114 RX4 yX4_put wsX4_put) := goodIn_app (goodIn_of _ (by decide +kernel)) ggX4_pass_X4_put
theorem dX4_pass_0 : decode cX4_pass 0 = .ok (.iconst 0, 1) := by decide +kernel
theorem dX4_pass_1 : decode cX4_pass 1 = .ok (.istore_n 1, 1) := by decide +kernel
theorem dX4_pass_2 : decode cX4_pass 2 = .ok (.iload_n 1, 1) := by decide +kernel
theorem dX4_pass_3 : decode cX4_pass 3 = .ok (.aload_n 0, 1) := by decide +kernel
theorem dX4_pass_4 : decode cX4_pass 4 = .ok (.getfield 3, 3) := by decide +kernel
theorem dX4_pass_7 : decode cX4_pass 7 = .ok (.getfield 89, 3) := by decide +kernel
theorem dX4_pass_10 : decode cX4_pass 10 = .ok (.if_icmp .ge 14, 3) := by decide +kernel
theorem dX4_pass_13 : decode cX4_pass 13 = .ok (.aload_n 0, 1) := by decide +kernel
theorem dX4_pass_14 : decode cX4_pass 14 = .ok (.iload_n 1, 1) := by decide +kernel
theorem dX4_pass_15 : decode cX4_pass 15 = .ok (.invokevirtual 103, 3) := by decide +kernel
theorem dX4_pass_18 : decode cX4_pass 18 = .ok (.iinc 1 1, 3) := by decide +kernel
theorem dX4_pass_21 : decode cX4_pass 21 = .ok (.goto (-19), 3) := by decide +kernel
theorem dX4_pass_24 : decode cX4_pass 24 = .ok (.iconst 0, 1) := by decide +kernel
theorem dX4_pass_25 : decode cX4_pass 25 = .ok (.istore_n 1, 1) := by decide +kernel
theorem dX4_pass_26 : decode cX4_pass 26 = .ok (.iload_n 1, 1) := by decide +kernel
theorem dX4_pass_27 : decode cX4_pass 27 = .ok (.aload_n 0, 1) := by decide +kernel
theorem dX4_pass_28 : decode cX4_pass 28 = .ok (.getfield 3, 3) := by decide +kernel
theorem dX4_pass_31 : decode cX4_pass 31 = .ok (.getfield 89, 3) := by decide +kernel
theorem dX4_pass_34 : decode cX4_pass 34 = .ok (.if_icmp .ge 85, 3) := by decide +kernel
theorem dX4_pass_37 : decode cX4_pass 37 = .ok (.aload_n 0, 1) := by decide +kernel
theorem dX4_pass_38 : decode cX4_pass 38 = .ok (.iload_n 1, 1) := by decide +kernel
theorem dX4_pass_39 : decode cX4_pass 39 = .ok (.invokevirtual 85, 3) := by decide +kernel
theorem dX4_pass_42 : decode cX4_pass 42 = .ok (.ifCond .eq 25, 3) := by decide +kernel
theorem dX4_pass_45 : decode cX4_pass 45 = .ok (.aload_n 0, 1) := by decide +kernel
theorem dX4_pass_46 : decode cX4_pass 46 = .ok (.getfield 19, 3) := by decide +kernel
theorem dX4_pass_49 : decode cX4_pass 49 = .ok (.iload_n 1, 1) := by decide +kernel
theorem dX4_pass_50 : decode cX4_pass 50 = .ok (.iaload, 1) := by decide +kernel
theorem dX4_pass_51 : decode cX4_pass 51 = .ok (.iconst (-1), 1) := by decide +kernel
theorem dX4_pass_52 : decode cX4_pass 52 = .ok (.if_icmp .ne 15, 3) := by decide +kernel
theorem dX4_pass_55 : decode cX4_pass 55 = .ok (.aload_n 0, 1) := by decide +kernel
theorem dX4_pass_56 : decode cX4_pass 56 = .ok (.iload_n 1, 1) := by decide +kernel
theorem dX4_pass_57 : decode cX4_pass 57 = .ok (.invokevirtual 107, 3) := by decide +kernel
theorem dX4_pass_60 : decode cX4_pass 60 = .ok (.iconst 2, 1) := by decide +kernel
theorem dX4_pass_61 : decode cX4_pass 61 = .ok (.if_icmp .ge 6, 3) := by decide +kernel
theorem dX4_pass_64 : decode cX4_pass 64 = .ok (.goto 49, 3) := by decide +kernel
theorem dX4_pass_67 : decode cX4_pass 67 = .ok (.iconst 0, 1) := by decide +kernel
theorem dX4_pass_68 : decode cX4_pass 68 = .ok (.istore_n 2, 1) := by decide +kernel
theorem dX4_pass_69 : decode cX4_pass 69 = .ok (.iload_n 2, 1) := by decide +kernel
theorem dX4_pass_70 : decode cX4_pass 70 = .ok (.aload_n 0, 1) := by decide +kernel
theorem dX4_pass_71 : decode cX4_pass 71 = .ok (.getfield 65, 3) := by decide +kernel
theorem dX4_pass_74 : decode cX4_pass 74 = .ok (.if_icmp .ge 39, 3) := by decide +kernel
theorem dX4_pass_77 : decode cX4_pass 77 = .ok (.aload_n 0, 1) := by decide +kernel
theorem dX4_pass_78 : decode cX4_pass 78 = .ok (.getfield 37, 3) := by decide +kernel
theorem dX4_pass_81 : decode cX4_pass 81 = .ok (.iload_n 2, 1) := by decide +kernel
theorem dX4_pass_82 : decode cX4_pass 82 = .ok (.iaload, 1) := by decide +kernel
theorem dX4_pass_83 : decode cX4_pass 83 = .ok (.iload_n 1, 1) := by decide +kernel
theorem dX4_pass_84 : decode cX4_pass 84 = .ok (.if_icmp .ne 23, 3) := by decide +kernel
theorem dX4_pass_87 : decode cX4_pass 87 = .ok (.aload_n 0, 1) := by decide +kernel
theorem dX4_pass_88 : decode cX4_pass 88 = .ok (.getfield 43, 3) := by decide +kernel
theorem dX4_pass_91 : decode cX4_pass 91 = .ok (.iload_n 2, 1) := by decide +kernel
theorem dX4_pass_92 : decode cX4_pass 92 = .ok (.iaload, 1) := by decide +kernel
theorem dX4_pass_93 : decode cX4_pass 93 = .ok (.aload_n 0, 1) := by decide +kernel
theorem dX4_pass_94 : decode cX4_pass 94 = .ok (.getfield 58, 3) := by decide +kernel
theorem dX4_pass_97 : decode cX4_pass 97 = .ok (.if_icmp .gt 10, 3) := by decide +kernel
theorem dX4_pass_100 : decode cX4_pass 100 = .ok (.aload_n 0, 1) := by decide +kernel
theorem dX4_pass_101 : decode cX4_pass 101 = .ok (.getfield 49, 3) := by decide +kernel
theorem dX4_pass_104 : decode cX4_pass 104 = .ok (.iload_n 2, 1) := by decide +kernel
theorem dX4_pass_105 : decode cX4_pass 105 = .ok (.iconst 1, 1) := by decide +kernel
theorem dX4_pass_106 : decode cX4_pass 106 = .ok (.iastore, 1) := by decide +kernel
theorem dX4_pass_107 : decode cX4_pass 107 = .ok (.iinc 2 1, 3) := by decide +kernel
theorem dX4_pass_110 : decode cX4_pass 110 = .ok (.goto (-41), 3) := by decide +kernel
theorem dX4_pass_113 : decode cX4_pass 113 = .ok (.iinc 1 1, 3) := by decide +kernel
theorem dX4_pass_116 : decode cX4_pass 116 = .ok (.goto (-90), 3) := by decide +kernel
theorem dX4_pass_119 : decode cX4_pass 119 = .ok (.iconst 0, 1) := by decide +kernel
theorem dX4_pass_120 : decode cX4_pass 120 = .ok (.istore_n 1, 1) := by decide +kernel
theorem dX4_pass_121 : decode cX4_pass 121 = .ok (.iconst 0, 1) := by decide +kernel
theorem dX4_pass_122 : decode cX4_pass 122 = .ok (.istore_n 2, 1) := by decide +kernel
theorem dX4_pass_123 : decode cX4_pass 123 = .ok (.iconst 0, 1) := by decide +kernel
theorem dX4_pass_124 : decode cX4_pass 124 = .ok (.istore_n 3, 1) := by decide +kernel
theorem dX4_pass_125 : decode cX4_pass 125 = .ok (.iload_n 3, 1) := by decide +kernel
theorem dX4_pass_126 : decode cX4_pass 126 = .ok (.aload_n 0, 1) := by decide +kernel
theorem dX4_pass_127 : decode cX4_pass 127 = .ok (.getfield 65, 3) := by decide +kernel
theorem dX4_pass_130 : decode cX4_pass 130 = .ok (.if_icmp .ge 169, 3) := by decide +kernel
theorem dX4_pass_133 : decode cX4_pass 133 = .ok (.aload_n 0, 1) := by decide +kernel
theorem dX4_pass_134 : decode cX4_pass 134 = .ok (.getfield 46, 3) := by decide +kernel
theorem dX4_pass_137 : decode cX4_pass 137 = .ok (.iload_n 3, 1) := by decide +kernel
theorem dX4_pass_138 : decode cX4_pass 138 = .ok (.iaload, 1) := by decide +kernel
theorem dX4_pass_139 : decode cX4_pass 139 = .ok (.aload_n 0, 1) := by decide +kernel
theorem dX4_pass_140 : decode cX4_pass 140 = .ok (.getfield 58, 3) := by decide +kernel
theorem dX4_pass_143 : decode cX4_pass 143 = .ok (.if_icmp .le 69, 3) := by decide +kernel
theorem dX4_pass_146 : decode cX4_pass 146 = .ok (.aload_n 0, 1) := by decide +kernel
theorem dX4_pass_147 : decode cX4_pass 147 = .ok (.getfield 37, 3) := by decide +kernel
theorem dX4_pass_150 : decode cX4_pass 150 = .ok (.iload_n 2, 1) := by decide +kernel
theorem dX4_pass_151 : decode cX4_pass 151 = .ok (.aload_n 0, 1) := by decide +kernel
theorem dX4_pass_152 : decode cX4_pass 152 = .ok (.getfield 37, 3) := by decide +kernel
theorem dX4_pass_155 : decode cX4_pass 155 = .ok (.iload_n 3, 1) := by decide +kernel
theorem dX4_pass_156 : decode cX4_pass 156 = .ok (.iaload, 1) := by decide +kernel
theorem dX4_pass_157 : decode cX4_pass 157 = .ok (.iastore, 1) := by decide +kernel
theorem dX4_pass_158 : decode cX4_pass 158 = .ok (.aload_n 0, 1) := by decide +kernel
theorem dX4_pass_159 : decode cX4_pass 159 = .ok (.getfield 40, 3) := by decide +kernel
theorem dX4_pass_162 : decode cX4_pass 162 = .ok (.iload_n 2, 1) := by decide +kernel
theorem dX4_pass_163 : decode cX4_pass 163 = .ok (.aload_n 0, 1) := by decide +kernel
theorem dX4_pass_164 : decode cX4_pass 164 = .ok (.getfield 40, 3) := by decide +kernel
theorem dX4_pass_167 : decode cX4_pass 167 = .ok (.iload_n 3, 1) := by decide +kernel
theorem dX4_pass_168 : decode cX4_pass 168 = .ok (.iaload, 1) := by decide +kernel
theorem dX4_pass_169 : decode cX4_pass 169 = .ok (.iastore, 1) := by decide +kernel
theorem dX4_pass_170 : decode cX4_pass 170 = .ok (.aload_n 0, 1) := by decide +kernel
theorem dX4_pass_171 : decode cX4_pass 171 = .ok (.getfield 43, 3) := by decide +kernel
theorem dX4_pass_174 : decode cX4_pass 174 = .ok (.iload_n 2, 1) := by decide +kernel
theorem dX4_pass_175 : decode cX4_pass 175 = .ok (.aload_n 0, 1) := by decide +kernel
theorem dX4_pass_176 : decode cX4_pass 176 = .ok (.getfield 43, 3) := by decide +kernel
theorem dX4_pass_179 : decode cX4_pass 179 = .ok (.iload_n 3, 1) := by decide +kernel
theorem dX4_pass_180 : decode cX4_pass 180 = .ok (.iaload, 1) := by decide +kernel
theorem dX4_pass_181 : decode cX4_pass 181 = .ok (.iastore, 1) := by decide +kernel
theorem dX4_pass_182 : decode cX4_pass 182 = .ok (.aload_n 0, 1) := by decide +kernel
theorem dX4_pass_183 : decode cX4_pass 183 = .ok (.getfield 46, 3) := by decide +kernel
theorem dX4_pass_186 : decode cX4_pass 186 = .ok (.iload_n 2, 1) := by decide +kernel
theorem dX4_pass_187 : decode cX4_pass 187 = .ok (.aload_n 0, 1) := by decide +kernel
theorem dX4_pass_188 : decode cX4_pass 188 = .ok (.getfield 46, 3) := by decide +kernel
theorem dX4_pass_191 : decode cX4_pass 191 = .ok (.iload_n 3, 1) := by decide +kernel
theorem dX4_pass_192 : decode cX4_pass 192 = .ok (.iaload, 1) := by decide +kernel
theorem dX4_pass_193 : decode cX4_pass 193 = .ok (.iastore, 1) := by decide +kernel
theorem dX4_pass_194 : decode cX4_pass 194 = .ok (.aload_n 0, 1) := by decide +kernel
theorem dX4_pass_195 : decode cX4_pass 195 = .ok (.getfield 49, 3) := by decide +kernel
theorem dX4_pass_198 : decode cX4_pass 198 = .ok (.iload_n 2, 1) := by decide +kernel
theorem dX4_pass_199 : decode cX4_pass 199 = .ok (.aload_n 0, 1) := by decide +kernel
theorem dX4_pass_200 : decode cX4_pass 200 = .ok (.getfield 49, 3) := by decide +kernel
theorem dX4_pass_203 : decode cX4_pass 203 = .ok (.iload_n 3, 1) := by decide +kernel
theorem dX4_pass_204 : decode cX4_pass 204 = .ok (.iaload, 1) := by decide +kernel
theorem dX4_pass_205 : decode cX4_pass 205 = .ok (.iastore, 1) := by decide +kernel
theorem dX4_pass_206 : decode cX4_pass 206 = .ok (.iinc 2 1, 3) := by decide +kernel
theorem dX4_pass_209 : decode cX4_pass 209 = .ok (.goto 84, 3) := by decide +kernel
theorem dX4_pass_212 : decode cX4_pass 212 = .ok (.aload_n 0, 1) := by decide +kernel
theorem dX4_pass_213 : decode cX4_pass 213 = .ok (.getfield 49, 3) := by decide +kernel
theorem dX4_pass_216 : decode cX4_pass 216 = .ok (.iload_n 3, 1) := by decide +kernel
theorem dX4_pass_217 : decode cX4_pass 217 = .ok (.iaload, 1) := by decide +kernel
theorem dX4_pass_218 : decode cX4_pass 218 = .ok (.iconst 1, 1) := by decide +kernel
theorem dX4_pass_219 : decode cX4_pass 219 = .ok (.if_icmp .ne 21, 3) := by decide +kernel
theorem dX4_pass_222 : decode cX4_pass 222 = .ok (.aload_n 0, 1) := by decide +kernel
theorem dX4_pass_223 : decode cX4_pass 223 = .ok (.getfield 34, 3) := by decide +kernel
theorem dX4_pass_226 : decode cX4_pass 226 = .ok (.aload_n 0, 1) := by decide +kernel
theorem dX4_pass_227 : decode cX4_pass 227 = .ok (.getfield 37, 3) := by decide +kernel
theorem dX4_pass_230 : decode cX4_pass 230 = .ok (.iload_n 3, 1) := by decide +kernel
theorem dX4_pass_231 : decode cX4_pass 231 = .ok (.iaload, 1) := by decide +kernel
theorem dX4_pass_232 : decode cX4_pass 232 = .ok (.dup2, 1) := by decide +kernel
theorem dX4_pass_233 : decode cX4_pass 233 = .ok (.iaload, 1) := by decide +kernel
theorem dX4_pass_234 : decode cX4_pass 234 = .ok (.iconst 1, 1) := by decide +kernel
theorem dX4_pass_235 : decode cX4_pass 235 = .ok (.iadd, 1) := by decide +kernel
theorem dX4_pass_236 : decode cX4_pass 236 = .ok (.iastore, 1) := by decide +kernel
theorem dX4_pass_237 : decode cX4_pass 237 = .ok (.goto 56, 3) := by decide +kernel
theorem dX4_pass_240 : decode cX4_pass 240 = .ok (.aload_n 0, 1) := by decide +kernel
theorem dX4_pass_241 : decode cX4_pass 241 = .ok (.aload_n 0, 1) := by decide +kernel
theorem dX4_pass_242 : decode cX4_pass 242 = .ok (.getfield 37, 3) := by decide +kernel
theorem dX4_pass_245 : decode cX4_pass 245 = .ok (.iload_n 3, 1) := by decide +kernel
theorem dX4_pass_246 : decode cX4_pass 246 = .ok (.iaload, 1) := by decide +kernel
theorem dX4_pass_247 : decode cX4_pass 247 = .ok (.aload_n 0, 1) := by decide +kernel
theorem dX4_pass_248 : decode cX4_pass 248 = .ok (.getfield 40, 3) := by decide +kernel
theorem dX4_pass_251 : decode cX4_pass 251 = .ok (.iload_n 3, 1) := by decide +kernel
theorem dX4_pass_252 : decode cX4_pass 252 = .ok (.iaload, 1) := by decide +kernel
theorem dX4_pass_253 : decode cX4_pass 253 = .ok (.invokevirtual 111, 3) := by decide +kernel
theorem dX4_pass_256 : decode cX4_pass 256 = .ok (.ifCond .eq 37, 3) := by decide +kernel
theorem dX4_pass_259 : decode cX4_pass 259 = .ok (.iinc 1 1, 3) := by decide +kernel
theorem dX4_pass_262 : decode cX4_pass 262 = .ok (.aload_n 0, 1) := by decide +kernel
theorem dX4_pass_263 : decode cX4_pass 263 = .ok (.getfield 25, 3) := by decide +kernel
theorem dX4_pass_266 : decode cX4_pass 266 = .ok (.aload_n 0, 1) := by decide +kernel
theorem dX4_pass_267 : decode cX4_pass 267 = .ok (.getfield 37, 3) := by decide +kernel
theorem dX4_pass_270 : decode cX4_pass 270 = .ok (.iload_n 3, 1) := by decide +kernel
theorem dX4_pass_271 : decode cX4_pass 271 = .ok (.iaload, 1) := by decide +kernel
theorem dX4_pass_272 : decode cX4_pass 272 = .ok (.iaload, 1) := by decide +kernel
theorem dX4_pass_273 : decode cX4_pass 273 = .ok (.iconst 5, 1) := by decide +kernel
theorem dX4_pass_274 : decode cX4_pass 274 = .ok (.if_icmp .ge 19, 3) := by decide +kernel
theorem dX4_pass_277 : decode cX4_pass 277 = .ok (.aload_n 0, 1) := by decide +kernel
theorem dX4_pass_278 : decode cX4_pass 278 = .ok (.aload_n 0, 1) := by decide +kernel
theorem dX4_pass_279 : decode cX4_pass 279 = .ok (.getfield 37, 3) := by decide +kernel
theorem dX4_pass_282 : decode cX4_pass 282 = .ok (.iload_n 3, 1) := by decide +kernel
theorem dX4_pass_283 : decode cX4_pass 283 = .ok (.iaload, 1) := by decide +kernel
theorem dX4_pass_284 : decode cX4_pass 284 = .ok (.aload_n 0, 1) := by decide +kernel
theorem dX4_pass_285 : decode cX4_pass 285 = .ok (.getfield 40, 3) := by decide +kernel
theorem dX4_pass_288 : decode cX4_pass 288 = .ok (.iload_n 3, 1) := by decide +kernel
theorem dX4_pass_289 : decode cX4_pass 289 = .ok (.iaload, 1) := by decide +kernel
theorem dX4_pass_290 : decode cX4_pass 290 = .ok (.invokevirtual 114, 3) := by decide +kernel
theorem dX4_pass_293 : decode cX4_pass 293 = .ok (.iinc 3 1, 3) := by decide +kernel
theorem dX4_pass_296 : decode cX4_pass 296 = .ok (.goto (-171), 3) := by decide +kernel
theorem dX4_pass_299 : decode cX4_pass 299 = .ok (.aload_n 0, 1) := by decide +kernel
theorem dX4_pass_300 : decode cX4_pass 300 = .ok (.iload_n 2, 1) := by decide +kernel
theorem dX4_pass_301 : decode cX4_pass 301 = .ok (.putfield 65, 3) := by decide +kernel
theorem dX4_pass_304 : decode cX4_pass 304 = .ok (.iconst 0, 1) := by decide +kernel
theorem dX4_pass_305 : decode cX4_pass 305 = .ok (.istore_n 3, 1) := by decide +kernel
theorem dX4_pass_306 : decode cX4_pass 306 = .ok (.iload_n 3, 1) := by decide +kernel
theorem dX4_pass_307 : decode cX4_pass 307 = .ok (.aload_n 0, 1) := by decide +kernel
theorem dX4_pass_308 : decode cX4_pass 308 = .ok (.getfield 3, 3) := by decide +kernel
theorem dX4_pass_311 : decode cX4_pass 311 = .ok (.getfield 89, 3) := by decide +kernel
theorem dX4_pass_314 : decode cX4_pass 314 = .ok (.if_icmp .ge 43, 3) := by decide +kernel
theorem dX4_pass_317 : decode cX4_pass 317 = .ok (.aload_n 0, 1) := by decide +kernel
theorem dX4_pass_318 : decode cX4_pass 318 = .ok (.getfield 22, 3) := by decide +kernel
theorem dX4_pass_321 : decode cX4_pass 321 = .ok (.iload_n 3, 1) := by decide +kernel
theorem dX4_pass_322 : decode cX4_pass 322 = .ok (.iconst 0, 1) := by decide +kernel
theorem dX4_pass_323 : decode cX4_pass 323 = .ok (.aload_n 0, 1) := by decide +kernel
theorem dX4_pass_324 : decode cX4_pass 324 = .ok (.getfield 22, 3) := by decide +kernel
theorem dX4_pass_327 : decode cX4_pass 327 = .ok (.iload_n 3, 1) := by decide +kernel
theorem dX4_pass_328 : decode cX4_pass 328 = .ok (.iaload, 1) := by decide +kernel
theorem dX4_pass_329 : decode cX4_pass 329 = .ok (.iconst 1, 1) := by decide +kernel
theorem dX4_pass_330 : decode cX4_pass 330 = .ok (.isub, 1) := by decide +kernel
theorem dX4_pass_331 : decode cX4_pass 331 = .ok (.invokestatic 118, 3) := by decide +kernel
theorem dX4_pass_334 : decode cX4_pass 334 = .ok (.iastore, 1) := by decide +kernel
theorem dX4_pass_335 : decode cX4_pass 335 = .ok (.aload_n 0, 1) := by decide +kernel
theorem dX4_pass_336 : decode cX4_pass 336 = .ok (.getfield 22, 3) := by decide +kernel
theorem dX4_pass_339 : decode cX4_pass 339 = .ok (.iload_n 3, 1) := by decide +kernel
theorem dX4_pass_340 : decode cX4_pass 340 = .ok (.iaload, 1) := by decide +kernel
theorem dX4_pass_341 : decode cX4_pass 341 = .ok (.ifCond .ne 10, 3) := by decide +kernel
theorem dX4_pass_344 : decode cX4_pass 344 = .ok (.aload_n 0, 1) := by decide +kernel
theorem dX4_pass_345 : decode cX4_pass 345 = .ok (.getfield 19, 3) := by decide +kernel
theorem dX4_pass_348 : decode cX4_pass 348 = .ok (.iload_n 3, 1) := by decide +kernel
theorem dX4_pass_349 : decode cX4_pass 349 = .ok (.iconst (-1), 1) := by decide +kernel
theorem dX4_pass_350 : decode cX4_pass 350 = .ok (.iastore, 1) := by decide +kernel
theorem dX4_pass_351 : decode cX4_pass 351 = .ok (.iinc 3 1, 3) := by decide +kernel
theorem dX4_pass_354 : decode cX4_pass 354 = .ok (.goto (-48), 3) := by decide +kernel
theorem dX4_pass_357 : decode cX4_pass 357 = .ok (.aload_n 0, 1) := by decide +kernel
theorem dX4_pass_358 : decode cX4_pass 358 = .ok (.dup, 1) := by decide +kernel
theorem dX4_pass_359 : decode cX4_pass 359 = .ok (.getfield 58, 3) := by decide +kernel
theorem dX4_pass_362 : decode cX4_pass 362 = .ok (.iconst 1, 1) := by decide +kernel
theorem dX4_pass_363 : decode cX4_pass 363 = .ok (.iadd, 1) := by decide +kernel
theorem dX4_pass_364 : decode cX4_pass 364 = .ok (.putfield 58, 3) := by decide +kernel
theorem dX4_pass_367 : decode cX4_pass 367 = .ok (.iload_n 1, 1) := by decide +kernel
theorem dX4_pass_368 : decode cX4_pass 368 = .ok (.ireturn, 1) := by decide +kernel
theorem dX4_knowing_0 : decode cX4_knowing 0 = .ok (.iconst 0, 1) := by decide +kernel
theorem dX4_knowing_1 : decode cX4_knowing 1 = .ok (.istore_n 2, 1) := by decide +kernel
theorem dX4_knowing_2 : decode cX4_knowing 2 = .ok (.iconst 0, 1) := by decide +kernel
theorem dX4_knowing_3 : decode cX4_knowing 3 = .ok (.istore_n 3, 1) := by decide +kernel
theorem dX4_knowing_4 : decode cX4_knowing 4 = .ok (.iload_n 3, 1) := by decide +kernel
theorem dX4_knowing_5 : decode cX4_knowing 5 = .ok (.aload_n 0, 1) := by decide +kernel
theorem dX4_knowing_6 : decode cX4_knowing 6 = .ok (.getfield 3, 3) := by decide +kernel
theorem dX4_knowing_9 : decode cX4_knowing 9 = .ok (.getfield 89, 3) := by decide +kernel
theorem dX4_knowing_12 : decode cX4_knowing 12 = .ok (.if_icmp .ge 32, 3) := by decide +kernel
theorem dX4_knowing_15 : decode cX4_knowing 15 = .ok (.iload_n 2, 1) := by decide +kernel
theorem dX4_knowing_16 : decode cX4_knowing 16 = .ok (.aload_n 0, 1) := by decide +kernel
theorem dX4_knowing_17 : decode cX4_knowing 17 = .ok (.getfield 31, 3) := by decide +kernel
theorem dX4_knowing_20 : decode cX4_knowing 20 = .ok (.bipush 12, 2) := by decide +kernel
theorem dX4_knowing_22 : decode cX4_knowing 22 = .ok (.iload_n 3, 1) := by decide +kernel
theorem dX4_knowing_23 : decode cX4_knowing 23 = .ok (.imul, 1) := by decide +kernel
theorem dX4_knowing_24 : decode cX4_knowing 24 = .ok (.iload_n 1, 1) := by decide +kernel
theorem dX4_knowing_25 : decode cX4_knowing 25 = .ok (.iadd, 1) := by decide +kernel
theorem dX4_knowing_26 : decode cX4_knowing 26 = .ok (.iaload, 1) := by decide +kernel
theorem dX4_knowing_27 : decode cX4_knowing 27 = .ok (.iconst (-1), 1) := by decide +kernel
theorem dX4_knowing_28 : decode cX4_knowing 28 = .ok (.if_icmp .ne 7, 3) := by decide +kernel
theorem dX4_knowing_31 : decode cX4_knowing 31 = .ok (.iconst 0, 1) := by decide +kernel
theorem dX4_knowing_32 : decode cX4_knowing 32 = .ok (.goto 4, 3) := by decide +kernel
theorem dX4_knowing_35 : decode cX4_knowing 35 = .ok (.iconst 1, 1) := by decide +kernel
theorem dX4_knowing_36 : decode cX4_knowing 36 = .ok (.iadd, 1) := by decide +kernel
theorem dX4_knowing_37 : decode cX4_knowing 37 = .ok (.istore_n 2, 1) := by decide +kernel
theorem dX4_knowing_38 : decode cX4_knowing 38 = .ok (.iinc 3 1, 3) := by decide +kernel
theorem dX4_knowing_41 : decode cX4_knowing 41 = .ok (.goto (-37), 3) := by decide +kernel
theorem dX4_knowing_44 : decode cX4_knowing 44 = .ok (.iload_n 2, 1) := by decide +kernel
theorem dX4_knowing_45 : decode cX4_knowing 45 = .ok (.ireturn, 1) := by decide +kernel
set_option maxRecDepth 20000 in
theorem ggX4_pairs_X4_knowing : GoodIn wsX4_pairs wsX4_knowing := goodIn_r _ [6, 1, 7, 8, 9, 10, 11, 12, 13, 14, 15, 16, 17, 18, 19, 20, 21, 22, 23, 24, 25, 26, 27, 28, 29, 30, 31, 32, 33, 34, 35] (by decide +kernel) (by decide +kernel)
set_option maxRecDepth 20000 in
theorem gX4_pairs_X4_knowing : GoodIn wsX4_pairs (wsV RX4 126 RX4 yX4_knowing wsX4_knowing) := goodIn_app (goodIn_of _ (by decide +kernel)) ggX4_pairs_X4_knowing
theorem dX4_pairs_0 : decode cX4_pairs 0 = .ok (.iconst 0, 1) := by decide +kernel
theorem dX4_pairs_1 : decode cX4_pairs 1 = .ok (.istore_n 1, 1) := by decide +kernel
theorem dX4_pairs_2 : decode cX4_pairs 2 = .ok (.iconst 0, 1) := by decide +kernel
theorem dX4_pairs_3 : decode cX4_pairs 3 = .ok (.istore_n 2, 1) := by decide +kernel
theorem dX4_pairs_4 : decode cX4_pairs 4 = .ok (.iload_n 2, 1) := by decide +kernel
theorem dX4_pairs_5 : decode cX4_pairs 5 = .ok (.aload_n 0, 1) := by decide +kernel
theorem dX4_pairs_6 : decode cX4_pairs 6 = .ok (.getfield 3, 3) := by decide +kernel
theorem dX4_pairs_9 : decode cX4_pairs 9 = .ok (.getfield 123, 3) := by decide +kernel
theorem dX4_pairs_12 : decode cX4_pairs 12 = .ok (.if_icmp .ge 17, 3) := by decide +kernel
theorem dX4_pairs_15 : decode cX4_pairs 15 = .ok (.iload_n 1, 1) := by decide +kernel
theorem dX4_pairs_16 : decode cX4_pairs 16 = .ok (.aload_n 0, 1) := by decide +kernel
theorem dX4_pairs_17 : decode cX4_pairs 17 = .ok (.iload_n 2, 1) := by decide +kernel
theorem dX4_pairs_18 : decode cX4_pairs 18 = .ok (.invokevirtual 126, 3) := by decide +kernel
theorem dX4_pairs_21 : decode cX4_pairs 21 = .ok (.iadd, 1) := by decide +kernel
theorem dX4_pairs_22 : decode cX4_pairs 22 = .ok (.istore_n 1, 1) := by decide +kernel
theorem dX4_pairs_23 : decode cX4_pairs 23 = .ok (.iinc 2 1, 3) := by decide +kernel
theorem dX4_pairs_26 : decode cX4_pairs 26 = .ok (.goto (-22), 3) := by decide +kernel
theorem dX4_pairs_29 : decode cX4_pairs 29 = .ok (.iload_n 1, 1) := by decide +kernel
theorem dX4_pairs_30 : decode cX4_pairs 30 = .ok (.ireturn, 1) := by decide +kernel
end
section
set_option maxRecDepth 20000 in
theorem ggX5_init_X4_init : GoodIn wsX5_init wsX4_init := goodIn_r _ [18, 19, 20, 2, 3, 4, 21, 22, 23, 24, 25, 26, 27, 28, 29, 30, 31, 32, 45, 46, 47, 48, 49, 50, 51, 52, 53, 54, 55, 56, 57, 58, 59, 60] (by decide +kernel) (by decide +kernel)
set_option maxRecDepth 20000 in
theorem gX5_init_X4_init_n33 : GoodIn wsX5_init (wsX4_init) := ggX5_init_X4_init
theorem dX5_init_0 : decode cX5_init 0 = .ok (.aload_n 0, 1) := by decide +kernel
theorem dX5_init_1 : decode cX5_init 1 = .ok (.invokespecial 1, 3) := by decide +kernel
theorem dX5_init_4 : decode cX5_init 4 = .ok (.aload_n 0, 1) := by decide +kernel
theorem dX5_init_5 : decode cX5_init 5 = .ok (.bipush 8, 2) := by decide +kernel
theorem dX5_init_7 : decode cX5_init 7 = .ok (.newarray .int, 2) := by decide +kernel
theorem dX5_init_9 : decode cX5_init 9 = .ok (.putfield 9, 3) := by decide +kernel
theorem dX5_init_12 : decode cX5_init 12 = .ok (.aload_n 0, 1) := by decide +kernel
theorem dX5_init_13 : decode cX5_init 13 = .ok (.bipush 8, 2) := by decide +kernel
theorem dX5_init_15 : decode cX5_init 15 = .ok (.newarray .int, 2) := by decide +kernel
theorem dX5_init_17 : decode cX5_init 17 = .ok (.putfield 13, 3) := by decide +kernel
theorem dX5_init_20 : decode cX5_init 20 = .ok (.aload_n 0, 1) := by decide +kernel
theorem dX5_init_21 : decode cX5_init 21 = .ok (.bipush 8, 2) := by decide +kernel
theorem dX5_init_23 : decode cX5_init 23 = .ok (.newarray .int, 2) := by decide +kernel
theorem dX5_init_25 : decode cX5_init 25 = .ok (.putfield 16, 3) := by decide +kernel
theorem dX5_init_28 : decode cX5_init 28 = .ok (.aload_n 0, 1) := by decide +kernel
theorem dX5_init_29 : decode cX5_init 29 = .ok (.bipush 8, 2) := by decide +kernel
theorem dX5_init_31 : decode cX5_init 31 = .ok (.newarray .int, 2) := by decide +kernel
theorem dX5_init_33 : decode cX5_init 33 = .ok (.putfield 19, 3) := by decide +kernel
theorem dX5_init_36 : decode cX5_init 36 = .ok (.aload_n 0, 1) := by decide +kernel
theorem dX5_init_37 : decode cX5_init 37 = .ok (.bipush 8, 2) := by decide +kernel
theorem dX5_init_39 : decode cX5_init 39 = .ok (.newarray .int, 2) := by decide +kernel
theorem dX5_init_41 : decode cX5_init 41 = .ok (.putfield 22, 3) := by decide +kernel
theorem dX5_init_44 : decode cX5_init 44 = .ok (.aload_n 0, 1) := by decide +kernel
theorem dX5_init_45 : decode cX5_init 45 = .ok (.bipush 12, 2) := by decide +kernel
theorem dX5_init_47 : decode cX5_init 47 = .ok (.newarray .int, 2) := by decide +kernel
theorem dX5_init_49 : decode cX5_init 49 = .ok (.putfield 25, 3) := by decide +kernel
theorem dX5_init_52 : decode cX5_init 52 = .ok (.aload_n 0, 1) := by decide +kernel
theorem dX5_init_53 : decode cX5_init 53 = .ok (.bipush 12, 2) := by decide +kernel
theorem dX5_init_55 : decode cX5_init 55 = .ok (.newarray .int, 2) := by decide +kernel
theorem dX5_init_57 : decode cX5_init 57 = .ok (.putfield 28, 3) := by decide +kernel
theorem dX5_init_60 : decode cX5_init 60 = .ok (.aload_n 0, 1) := by decide +kernel
theorem dX5_init_61 : decode cX5_init 61 = .ok (.new 31, 3) := by decide +kernel
theorem dX5_init_64 : decode cX5_init 64 = .ok (.dup, 1) := by decide +kernel
theorem dX5_init_65 : decode cX5_init 65 = .ok (.aload_n 0, 1) := by decide +kernel
theorem dX5_init_66 : decode cX5_init 66 = .ok (.invokespecial 33, 3) := by decide +kernel
theorem dX5_init_69 : decode cX5_init 69 = .ok (.putfield 36, 3) := by decide +kernel
theorem dX5_init_72 : decode cX5_init 72 = .ok (.aload_n 0, 1) := by decide +kernel
theorem dX5_init_73 : decode cX5_init 73 = .ok (.new 31, 3) := by decide +kernel
theorem dX5_init_76 : decode cX5_init 76 = .ok (.dup, 1) := by decide +kernel
theorem dX5_init_77 : decode cX5_init 77 = .ok (.aload_n 0, 1) := by decide +kernel
theorem dX5_init_78 : decode cX5_init 78 = .ok (.invokespecial 33, 3) := by decide +kernel
theorem dX5_init_81 : decode cX5_init 81 = .ok (.putfield 40, 3) := by decide +kernel
theorem dX5_init_84 : decode cX5_init 84 = .ok (.iconst 0, 1) := by decide +kernel
theorem dX5_init_85 : decode cX5_init 85 = .ok (.istore_n 1, 1) := by decide +kernel
theorem dX5_init_86 : decode cX5_init 86 = .ok (.iload_n 1, 1) := by decide +kernel
theorem dX5_init_87 : decode cX5_init 87 = .ok (.bipush 96, 2) := by decide +kernel
theorem dX5_init_89 : decode cX5_init 89 = .ok (.if_icmp .ge 19, 3) := by decide +kernel
theorem dX5_init_92 : decode cX5_init 92 = .ok (.aload_n 0, 1) := by decide +kernel
theorem dX5_init_93 : decode cX5_init 93 = .ok (.getfield 36, 3) := by decide +kernel
theorem dX5_init_96 : decode cX5_init 96 = .ok (.getfield 43, 3) := by decide +kernel
theorem dX5_init_99 : decode cX5_init 99 = .ok (.iload_n 1, 1) := by decide +kernel
theorem dX5_init_100 : decode cX5_init 100 = .ok (.iconst (-1), 1) := by decide +kernel
theorem dX5_init_101 : decode cX5_init 101 = .ok (.iastore, 1) := by decide +kernel
theorem dX5_init_102 : decode cX5_init 102 = .ok (.iinc 1 1, 3) := by decide +kernel
theorem dX5_init_105 : decode cX5_init 105 = .ok (.goto (-19), 3) := by decide +kernel
theorem dX5_init_108 : decode cX5_init 108 = .ok (.return_, 1) := by decide +kernel
theorem dX5_thrown_0 : decode cX5_thrown 0 = .ok (.aload_n 0, 1) := by decide +kernel
theorem dX5_thrown_1 : decode cX5_thrown 1 = .ok (.getfield 46, 3) := by decide +kernel
theorem dX5_thrown_4 : decode cX5_thrown 4 = .ok (.ireturn, 1) := by decide +kernel
theorem dX5_no_0 : decode cX5_no 0 = .ok (.aload_n 0, 1) := by decide +kernel
theorem dX5_no_1 : decode cX5_no 1 = .ok (.iload_n 1, 1) := by decide +kernel
theorem dX5_no_2 : decode cX5_no 2 = .ok (.putfield 46, 3) := by decide +kernel
theorem dX5_no_5 : decode cX5_no 5 = .ok (.iconst 0, 1) := by decide +kernel
theorem dX5_no_6 : decode cX5_no 6 = .ok (.ireturn, 1) := by decide +kernel
theorem dX5_isIn_0 : decode cX5_isIn 0 = .ok (.iload_n 0, 1) := by decide +kernel
theorem dX5_isIn_1 : decode cX5_isIn 1 = .ok (.iload_n 1, 1) := by decide +kernel
theorem dX5_isIn_2 : decode cX5_isIn 2 = .ok (.if_icmp .lt 12, 3) := by decide +kernel
theorem dX5_isIn_5 : decode cX5_isIn 5 = .ok (.iload_n 0, 1) := by decide +kernel
theorem dX5_isIn_6 : decode cX5_isIn 6 = .ok (.iload_n 2, 1) := by decide +kernel
theorem dX5_isIn_7 : decode cX5_isIn 7 = .ok (.if_icmp .gt 7, 3) := by decide +kernel
theorem dX5_isIn_10 : decode cX5_isIn 10 = .ok (.iconst 1, 1) := by decide +kernel
theorem dX5_isIn_11 : decode cX5_isIn 11 = .ok (.goto 4, 3) := by decide +kernel
theorem dX5_isIn_14 : decode cX5_isIn 14 = .ok (.iconst 0, 1) := by decide +kernel
theorem dX5_isIn_15 : decode cX5_isIn 15 = .ok (.ireturn, 1) := by decide +kernel
set_option maxRecDepth 20000 in
theorem ggX5_isVillage_X5_isIn : GoodIn wsX5_isVillage wsX5_isIn := goodIn_r _ [5] (by decide +kernel) (by decide +kernel)
set_option maxRecDepth 20000 in
theorem gX5_isVillage_X5_isIn : GoodIn wsX5_isVillage (va_wsS RX5 53 yX5_isIn wsX5_isIn) := goodIn_app (goodIn_of _ (by decide +kernel)) ggX5_isVillage_X5_isIn
theorem dX5_isVillage_0 : decode cX5_isVillage 0 = .ok (.iload_n 1, 1) := by decide +kernel
theorem dX5_isVillage_1 : decode cX5_isVillage 1 = .ok (.iconst 0, 1) := by decide +kernel
theorem dX5_isVillage_2 : decode cX5_isVillage 2 = .ok (.aload_n 0, 1) := by decide +kernel
theorem dX5_isVillage_3 : decode cX5_isVillage 3 = .ok (.getfield 50, 3) := by decide +kernel
theorem dX5_isVillage_6 : decode cX5_isVillage 6 = .ok (.iconst 1, 1) := by decide +kernel
theorem dX5_isVillage_7 : decode cX5_isVillage 7 = .ok (.isub, 1) := by decide +kernel
theorem dX5_isVillage_8 : decode cX5_isVillage 8 = .ok (.invokestatic 53, 3) := by decide +kernel
theorem dX5_isVillage_11 : decode cX5_isVillage 11 = .ok (.ireturn, 1) := by decide +kernel
set_option maxRecDepth 20000 in
theorem ggX5_isPhrase_X5_isIn : GoodIn wsX5_isPhrase wsX5_isIn := goodIn_r _ [5] (by decide +kernel) (by decide +kernel)
set_option maxRecDepth 20000 in
theorem gX5_isPhrase_X5_isIn : GoodIn wsX5_isPhrase (va_wsS RX5 53 yX5_isIn wsX5_isIn) := goodIn_app (goodIn_of _ (by decide +kernel)) ggX5_isPhrase_X5_isIn
theorem dX5_isPhrase_0 : decode cX5_isPhrase 0 = .ok (.iload_n 1, 1) := by decide +kernel
theorem dX5_isPhrase_1 : decode cX5_isPhrase 1 = .ok (.iconst 0, 1) := by decide +kernel
theorem dX5_isPhrase_2 : decode cX5_isPhrase 2 = .ok (.aload_n 0, 1) := by decide +kernel
theorem dX5_isPhrase_3 : decode cX5_isPhrase 3 = .ok (.getfield 57, 3) := by decide +kernel
theorem dX5_isPhrase_6 : decode cX5_isPhrase 6 = .ok (.iconst 1, 1) := by decide +kernel
theorem dX5_isPhrase_7 : decode cX5_isPhrase 7 = .ok (.isub, 1) := by decide +kernel
theorem dX5_isPhrase_8 : decode cX5_isPhrase 8 = .ok (.invokestatic 53, 3) := by decide +kernel
theorem dX5_isPhrase_11 : decode cX5_isPhrase 11 = .ok (.ireturn, 1) := by decide +kernel
theorem dX5_far_0 : decode cX5_far 0 = .ok (.aload_n 0, 1) := by decide +kernel
theorem dX5_far_1 : decode cX5_far 1 = .ok (.getfield 9, 3) := by decide +kernel
theorem dX5_far_4 : decode cX5_far 4 = .ok (.iload_n 1, 1) := by decide +kernel
theorem dX5_far_5 : decode cX5_far 5 = .ok (.iaload, 1) := by decide +kernel
theorem dX5_far_6 : decode cX5_far 6 = .ok (.aload_n 0, 1) := by decide +kernel
theorem dX5_far_7 : decode cX5_far 7 = .ok (.getfield 9, 3) := by decide +kernel
theorem dX5_far_10 : decode cX5_far 10 = .ok (.iload_n 2, 1) := by decide +kernel
theorem dX5_far_11 : decode cX5_far 11 = .ok (.iaload, 1) := by decide +kernel
theorem dX5_far_12 : decode cX5_far 12 = .ok (.isub, 1) := by decide +kernel
theorem dX5_far_13 : decode cX5_far 13 = .ok (.invokestatic 60, 3) := by decide +kernel
theorem dX5_far_16 : decode cX5_far 16 = .ok (.aload_n 0, 1) := by decide +kernel
theorem dX5_far_17 : decode cX5_far 17 = .ok (.getfield 13, 3) := by decide +kernel
theorem dX5_far_20 : decode cX5_far 20 = .ok (.iload_n 1, 1) := by decide +kernel
theorem dX5_far_21 : decode cX5_far 21 = .ok (.iaload, 1) := by decide +kernel
theorem dX5_far_22 : decode cX5_far 22 = .ok (.aload_n 0, 1) := by decide +kernel
theorem dX5_far_23 : decode cX5_far 23 = .ok (.getfield 13, 3) := by decide +kernel
theorem dX5_far_26 : decode cX5_far 26 = .ok (.iload_n 2, 1) := by decide +kernel
theorem dX5_far_27 : decode cX5_far 27 = .ok (.iaload, 1) := by decide +kernel
theorem dX5_far_28 : decode cX5_far 28 = .ok (.isub, 1) := by decide +kernel
theorem dX5_far_29 : decode cX5_far 29 = .ok (.invokestatic 60, 3) := by decide +kernel
theorem dX5_far_32 : decode cX5_far 32 = .ok (.iadd, 1) := by decide +kernel
theorem dX5_far_33 : decode cX5_far 33 = .ok (.ireturn, 1) := by decide +kernel
set_option maxRecDepth 20000 in
theorem ggX5_found_X5_isIn : GoodIn wsX5_found wsX5_isIn := goodIn_r _ [10] (by decide +kernel) (by decide +kernel)
set_option maxRecDepth 20000 in
theorem gX5_found_X5_isIn : GoodIn wsX5_found (va_wsS RX5 53 yX5_isIn wsX5_isIn) := goodIn_app (goodIn_of _ (by decide +kernel)) ggX5_found_X5_isIn
set_option maxRecDepth 20000 in
theorem ggX5_found_X5_no : GoodIn wsX5_found wsX5_no := goodIn_r _ [14, 1, 15, 16, 17, 18, 19, 20, 21, 22, 23, 24, 25, 26] (by decide +kernel) (by decide +kernel)
set_option maxRecDepth 20000 in
theorem gX5_found_X5_no : GoodIn wsX5_found (wsV RX5 66 RX5 yX5_no wsX5_no) := goodIn_app (goodIn_of _ (by decide +kernel)) ggX5_found_X5_no
theorem dX5_found_0 : decode cX5_found 0 = .ok (.aload_n 0, 1) := by decide +kernel
theorem dX5_found_1 : decode cX5_found 1 = .ok (.iconst 0, 1) := by decide +kernel
theorem dX5_found_2 : decode cX5_found 2 = .ok (.putfield 46, 3) := by decide +kernel
theorem dX5_found_5 : decode cX5_found 5 = .ok (.iload_n 1, 1) := by decide +kernel
theorem dX5_found_6 : decode cX5_found 6 = .ok (.iconst 0, 1) := by decide +kernel
theorem dX5_found_7 : decode cX5_found 7 = .ok (.bipush 30, 2) := by decide +kernel
theorem dX5_found_9 : decode cX5_found 9 = .ok (.invokestatic 53, 3) := by decide +kernel
theorem dX5_found_12 : decode cX5_found 12 = .ok (.ifCond .eq 23, 3) := by decide +kernel
theorem dX5_found_15 : decode cX5_found 15 = .ok (.iload_n 2, 1) := by decide +kernel
theorem dX5_found_16 : decode cX5_found 16 = .ok (.iconst 0, 1) := by decide +kernel
theorem dX5_found_17 : decode cX5_found 17 = .ok (.bipush 30, 2) := by decide +kernel
theorem dX5_found_19 : decode cX5_found 19 = .ok (.invokestatic 53, 3) := by decide +kernel
theorem dX5_found_22 : decode cX5_found 22 = .ok (.ifCond .eq 13, 3) := by decide +kernel
theorem dX5_found_25 : decode cX5_found 25 = .ok (.iload_n 3, 1) := by decide +kernel
theorem dX5_found_26 : decode cX5_found 26 = .ok (.iconst 1, 1) := by decide +kernel
theorem dX5_found_27 : decode cX5_found 27 = .ok (.bipush 9, 2) := by decide +kernel
theorem dX5_found_29 : decode cX5_found 29 = .ok (.invokestatic 53, 3) := by decide +kernel
theorem dX5_found_32 : decode cX5_found 32 = .ok (.ifCond .ne 9, 3) := by decide +kernel
theorem dX5_found_35 : decode cX5_found 35 = .ok (.aload_n 0, 1) := by decide +kernel
theorem dX5_found_36 : decode cX5_found 36 = .ok (.iconst 1, 1) := by decide +kernel
theorem dX5_found_37 : decode cX5_found 37 = .ok (.invokevirtual 66, 3) := by decide +kernel
theorem dX5_found_40 : decode cX5_found 40 = .ok (.ireturn, 1) := by decide +kernel
theorem dX5_found_41 : decode cX5_found 41 = .ok (.aload_n 0, 1) := by decide +kernel
theorem dX5_found_42 : decode cX5_found 42 = .ok (.getfield 50, 3) := by decide +kernel
theorem dX5_found_45 : decode cX5_found 45 = .ok (.bipush 8, 2) := by decide +kernel
theorem dX5_found_47 : decode cX5_found 47 = .ok (.if_icmp .ne 7, 3) := by decide +kernel
theorem dX5_found_50 : decode cX5_found 50 = .ok (.iconst 1, 1) := by decide +kernel
theorem dX5_found_51 : decode cX5_found 51 = .ok (.goto 4, 3) := by decide +kernel
theorem dX5_found_54 : decode cX5_found 54 = .ok (.iconst 0, 1) := by decide +kernel
theorem dX5_found_55 : decode cX5_found 55 = .ok (.istore 4, 2) := by decide +kernel
theorem dX5_found_57 : decode cX5_found 57 = .ok (.iconst 0, 1) := by decide +kernel
theorem dX5_found_58 : decode cX5_found 58 = .ok (.istore 5, 2) := by decide +kernel
theorem dX5_found_60 : decode cX5_found 60 = .ok (.iload 5, 2) := by decide +kernel
theorem dX5_found_62 : decode cX5_found 62 = .ok (.aload_n 0, 1) := by decide +kernel
theorem dX5_found_63 : decode cX5_found 63 = .ok (.getfield 50, 3) := by decide +kernel
theorem dX5_found_66 : decode cX5_found 66 = .ok (.if_icmp .ge 41, 3) := by decide +kernel
theorem dX5_found_69 : decode cX5_found 69 = .ok (.iload 4, 2) := by decide +kernel
theorem dX5_found_71 : decode cX5_found 71 = .ok (.aload_n 0, 1) := by decide +kernel
theorem dX5_found_72 : decode cX5_found 72 = .ok (.getfield 9, 3) := by decide +kernel
theorem dX5_found_75 : decode cX5_found 75 = .ok (.iload 5, 2) := by decide +kernel
theorem dX5_found_77 : decode cX5_found 77 = .ok (.iaload, 1) := by decide +kernel
theorem dX5_found_78 : decode cX5_found 78 = .ok (.iload_n 1, 1) := by decide +kernel
theorem dX5_found_79 : decode cX5_found 79 = .ok (.if_icmp .ne 18, 3) := by decide +kernel
theorem dX5_found_82 : decode cX5_found 82 = .ok (.aload_n 0, 1) := by decide +kernel
theorem dX5_found_83 : decode cX5_found 83 = .ok (.getfield 13, 3) := by decide +kernel
theorem dX5_found_86 : decode cX5_found 86 = .ok (.iload 5, 2) := by decide +kernel
theorem dX5_found_88 : decode cX5_found 88 = .ok (.iaload, 1) := by decide +kernel
theorem dX5_found_89 : decode cX5_found 89 = .ok (.iload_n 2, 1) := by decide +kernel
theorem dX5_found_90 : decode cX5_found 90 = .ok (.if_icmp .ne 7, 3) := by decide +kernel
theorem dX5_found_93 : decode cX5_found 93 = .ok (.iconst 1, 1) := by decide +kernel
theorem dX5_found_94 : decode cX5_found 94 = .ok (.goto 4, 3) := by decide +kernel
theorem dX5_found_97 : decode cX5_found 97 = .ok (.iconst 0, 1) := by decide +kernel
theorem dX5_found_98 : decode cX5_found 98 = .ok (.ior, 1) := by decide +kernel
theorem dX5_found_99 : decode cX5_found 99 = .ok (.istore 4, 2) := by decide +kernel
theorem dX5_found_101 : decode cX5_found 101 = .ok (.iinc 5 1, 3) := by decide +kernel
theorem dX5_found_104 : decode cX5_found 104 = .ok (.goto (-44), 3) := by decide +kernel
theorem dX5_found_107 : decode cX5_found 107 = .ok (.iload 4, 2) := by decide +kernel
theorem dX5_found_109 : decode cX5_found 109 = .ok (.ifCond .eq 9, 3) := by decide +kernel
theorem dX5_found_112 : decode cX5_found 112 = .ok (.aload_n 0, 1) := by decide +kernel
theorem dX5_found_113 : decode cX5_found 113 = .ok (.iconst 2, 1) := by decide +kernel
theorem dX5_found_114 : decode cX5_found 114 = .ok (.invokevirtual 66, 3) := by decide +kernel
theorem dX5_found_117 : decode cX5_found 117 = .ok (.ireturn, 1) := by decide +kernel
theorem dX5_found_118 : decode cX5_found 118 = .ok (.aload_n 0, 1) := by decide +kernel
theorem dX5_found_119 : decode cX5_found 119 = .ok (.getfield 9, 3) := by decide +kernel
theorem dX5_found_122 : decode cX5_found 122 = .ok (.aload_n 0, 1) := by decide +kernel
theorem dX5_found_123 : decode cX5_found 123 = .ok (.getfield 50, 3) := by decide +kernel
theorem dX5_found_126 : decode cX5_found 126 = .ok (.iload_n 1, 1) := by decide +kernel
theorem dX5_found_127 : decode cX5_found 127 = .ok (.iastore, 1) := by decide +kernel
theorem dX5_found_128 : decode cX5_found 128 = .ok (.aload_n 0, 1) := by decide +kernel
theorem dX5_found_129 : decode cX5_found 129 = .ok (.getfield 13, 3) := by decide +kernel
theorem dX5_found_132 : decode cX5_found 132 = .ok (.aload_n 0, 1) := by decide +kernel
theorem dX5_found_133 : decode cX5_found 133 = .ok (.getfield 50, 3) := by decide +kernel
theorem dX5_found_136 : decode cX5_found 136 = .ok (.iload_n 2, 1) := by decide +kernel
theorem dX5_found_137 : decode cX5_found 137 = .ok (.iastore, 1) := by decide +kernel
theorem dX5_found_138 : decode cX5_found 138 = .ok (.aload_n 0, 1) := by decide +kernel
theorem dX5_found_139 : decode cX5_found 139 = .ok (.getfield 22, 3) := by decide +kernel
theorem dX5_found_142 : decode cX5_found 142 = .ok (.aload_n 0, 1) := by decide +kernel
theorem dX5_found_143 : decode cX5_found 143 = .ok (.getfield 50, 3) := by decide +kernel
theorem dX5_found_146 : decode cX5_found 146 = .ok (.bipush 24, 2) := by decide +kernel
theorem dX5_found_148 : decode cX5_found 148 = .ok (.iastore, 1) := by decide +kernel
theorem dX5_found_149 : decode cX5_found 149 = .ok (.aload_n 0, 1) := by decide +kernel
theorem dX5_found_150 : decode cX5_found 150 = .ok (.getfield 36, 3) := by decide +kernel
theorem dX5_found_153 : decode cX5_found 153 = .ok (.getfield 69, 3) := by decide +kernel
theorem dX5_found_156 : decode cX5_found 156 = .ok (.aload_n 0, 1) := by decide +kernel
theorem dX5_found_157 : decode cX5_found 157 = .ok (.getfield 50, 3) := by decide +kernel
theorem dX5_found_160 : decode cX5_found 160 = .ok (.iload_n 3, 1) := by decide +kernel
theorem dX5_found_161 : decode cX5_found 161 = .ok (.iastore, 1) := by decide +kernel
theorem dX5_found_162 : decode cX5_found 162 = .ok (.aload_n 0, 1) := by decide +kernel
theorem dX5_found_163 : decode cX5_found 163 = .ok (.getfield 36, 3) := by decide +kernel
theorem dX5_found_166 : decode cX5_found 166 = .ok (.getfield 72, 3) := by decide +kernel
theorem dX5_found_169 : decode cX5_found 169 = .ok (.aload_n 0, 1) := by decide +kernel
theorem dX5_found_170 : decode cX5_found 170 = .ok (.getfield 50, 3) := by decide +kernel
theorem dX5_found_173 : decode cX5_found 173 = .ok (.iconst (-1), 1) := by decide +kernel
theorem dX5_found_174 : decode cX5_found 174 = .ok (.iastore, 1) := by decide +kernel
theorem dX5_found_175 : decode cX5_found 175 = .ok (.aload_n 0, 1) := by decide +kernel
theorem dX5_found_176 : decode cX5_found 176 = .ok (.dup, 1) := by decide +kernel
theorem dX5_found_177 : decode cX5_found 177 = .ok (.getfield 50, 3) := by decide +kernel
theorem dX5_found_180 : decode cX5_found 180 = .ok (.iconst 1, 1) := by decide +kernel
theorem dX5_found_181 : decode cX5_found 181 = .ok (.iadd, 1) := by decide +kernel
theorem dX5_found_182 : decode cX5_found 182 = .ok (.putfield 50, 3) := by decide +kernel
theorem dX5_found_185 : decode cX5_found 185 = .ok (.aload_n 0, 1) := by decide +kernel
theorem dX5_found_186 : decode cX5_found 186 = .ok (.getfield 50, 3) := by decide +kernel
theorem dX5_found_189 : decode cX5_found 189 = .ok (.iconst 1, 1) := by decide +kernel
theorem dX5_found_190 : decode cX5_found 190 = .ok (.isub, 1) := by decide +kernel
theorem dX5_found_191 : decode cX5_found 191 = .ok (.ireturn, 1) := by decide +kernel
set_option maxRecDepth 20000 in
theorem ggX5_setDrum_X5_isVillage : GoodIn wsX5_setDrum wsX5_isVillage := goodIn_r _ [7, 8, 9, 10, 6, 11, 16, 17, 18, 19, 20, 21, 22, 23, 24, 25, 26, 27] (by decide +kernel) (by decide +kernel)
set_option maxRecDepth 20000 in
theorem gX5_setDrum_X5_isVillage : GoodIn wsX5_setDrum (wsV RX5 75 RX5 yX5_isVillage wsX5_isVillage) := goodIn_app (goodIn_of _ (by decide +kernel)) ggX5_setDrum_X5_isVillage
set_option maxRecDepth 20000 in
theorem ggX5_setDrum_X5_no : GoodIn wsX5_setDrum wsX5_no := goodIn_r _ [15, 1, 16, 17, 18, 19, 20, 21, 22, 23, 24, 25, 26, 27] (by decide +kernel) (by decide +kernel)
set_option maxRecDepth 20000 in
theorem gX5_setDrum_X5_no : GoodIn wsX5_setDrum (wsV RX5 66 RX5 yX5_no wsX5_no) := goodIn_app (goodIn_of _ (by decide +kernel)) ggX5_setDrum_X5_no
set_option maxRecDepth 20000 in
theorem ggX5_setDrum_X5_isIn : GoodIn wsX5_setDrum wsX5_isIn := goodIn_r _ [11] (by decide +kernel) (by decide +kernel)
set_option maxRecDepth 20000 in
theorem gX5_setDrum_X5_isIn : GoodIn wsX5_setDrum (va_wsS RX5 53 yX5_isIn wsX5_isIn) := goodIn_app (goodIn_of _ (by decide +kernel)) ggX5_setDrum_X5_isIn
theorem dX5_setDrum_0 : decode cX5_setDrum 0 = .ok (.aload_n 0, 1) := by decide +kernel
theorem dX5_setDrum_1 : decode cX5_setDrum 1 = .ok (.iconst 0, 1) := by decide +kernel
theorem dX5_setDrum_2 : decode cX5_setDrum 2 = .ok (.putfield 46, 3) := by decide +kernel
theorem dX5_setDrum_5 : decode cX5_setDrum 5 = .ok (.aload_n 0, 1) := by decide +kernel
theorem dX5_setDrum_6 : decode cX5_setDrum 6 = .ok (.iload_n 1, 1) := by decide +kernel
theorem dX5_setDrum_7 : decode cX5_setDrum 7 = .ok (.invokevirtual 75, 3) := by decide +kernel
theorem dX5_setDrum_10 : decode cX5_setDrum 10 = .ok (.ifCond .ne 9, 3) := by decide +kernel
theorem dX5_setDrum_13 : decode cX5_setDrum 13 = .ok (.aload_n 0, 1) := by decide +kernel
theorem dX5_setDrum_14 : decode cX5_setDrum 14 = .ok (.iconst 1, 1) := by decide +kernel
theorem dX5_setDrum_15 : decode cX5_setDrum 15 = .ok (.invokevirtual 66, 3) := by decide +kernel
theorem dX5_setDrum_18 : decode cX5_setDrum 18 = .ok (.ireturn, 1) := by decide +kernel
theorem dX5_setDrum_19 : decode cX5_setDrum 19 = .ok (.iload_n 2, 1) := by decide +kernel
theorem dX5_setDrum_20 : decode cX5_setDrum 20 = .ok (.iconst 1, 1) := by decide +kernel
theorem dX5_setDrum_21 : decode cX5_setDrum 21 = .ok (.bipush 9, 2) := by decide +kernel
theorem dX5_setDrum_23 : decode cX5_setDrum 23 = .ok (.invokestatic 53, 3) := by decide +kernel
theorem dX5_setDrum_26 : decode cX5_setDrum 26 = .ok (.ifCond .ne 9, 3) := by decide +kernel
theorem dX5_setDrum_29 : decode cX5_setDrum 29 = .ok (.aload_n 0, 1) := by decide +kernel
theorem dX5_setDrum_30 : decode cX5_setDrum 30 = .ok (.iconst 2, 1) := by decide +kernel
theorem dX5_setDrum_31 : decode cX5_setDrum 31 = .ok (.invokevirtual 66, 3) := by decide +kernel
theorem dX5_setDrum_34 : decode cX5_setDrum 34 = .ok (.ireturn, 1) := by decide +kernel
theorem dX5_setDrum_35 : decode cX5_setDrum 35 = .ok (.aload_n 0, 1) := by decide +kernel
theorem dX5_setDrum_36 : decode cX5_setDrum 36 = .ok (.getfield 36, 3) := by decide +kernel
theorem dX5_setDrum_39 : decode cX5_setDrum 39 = .ok (.getfield 69, 3) := by decide +kernel
theorem dX5_setDrum_42 : decode cX5_setDrum 42 = .ok (.iload_n 1, 1) := by decide +kernel
theorem dX5_setDrum_43 : decode cX5_setDrum 43 = .ok (.iaload, 1) := by decide +kernel
theorem dX5_setDrum_44 : decode cX5_setDrum 44 = .ok (.istore_n 3, 1) := by decide +kernel
theorem dX5_setDrum_45 : decode cX5_setDrum 45 = .ok (.aload_n 0, 1) := by decide +kernel
theorem dX5_setDrum_46 : decode cX5_setDrum 46 = .ok (.getfield 36, 3) := by decide +kernel
theorem dX5_setDrum_49 : decode cX5_setDrum 49 = .ok (.getfield 69, 3) := by decide +kernel
theorem dX5_setDrum_52 : decode cX5_setDrum 52 = .ok (.iload_n 1, 1) := by decide +kernel
theorem dX5_setDrum_53 : decode cX5_setDrum 53 = .ok (.iload_n 2, 1) := by decide +kernel
theorem dX5_setDrum_54 : decode cX5_setDrum 54 = .ok (.iastore, 1) := by decide +kernel
theorem dX5_setDrum_55 : decode cX5_setDrum 55 = .ok (.iload_n 3, 1) := by decide +kernel
theorem dX5_setDrum_56 : decode cX5_setDrum 56 = .ok (.ireturn, 1) := by decide +kernel
set_option maxRecDepth 20000 in
theorem ggX5_setCliff_X5_isVillage : GoodIn wsX5_setCliff wsX5_isVillage := goodIn_r _ [7, 8, 9, 10, 6, 11, 16, 17, 18, 19, 20, 21, 22, 23, 24, 25, 26, 27] (by decide +kernel) (by decide +kernel)
set_option maxRecDepth 20000 in
theorem gX5_setCliff_X5_isVillage : GoodIn wsX5_setCliff (wsV RX5 75 RX5 yX5_isVillage wsX5_isVillage) := goodIn_app (goodIn_of _ (by decide +kernel)) ggX5_setCliff_X5_isVillage
set_option maxRecDepth 20000 in
theorem ggX5_setCliff_X5_no : GoodIn wsX5_setCliff wsX5_no := goodIn_r _ [15, 1, 16, 17, 18, 19, 20, 21, 22, 23, 24, 25, 26, 27] (by decide +kernel) (by decide +kernel)
set_option maxRecDepth 20000 in
theorem gX5_setCliff_X5_no : GoodIn wsX5_setCliff (wsV RX5 66 RX5 yX5_no wsX5_no) := goodIn_app (goodIn_of _ (by decide +kernel)) ggX5_setCliff_X5_no
theorem dX5_setCliff_0 : decode cX5_setCliff 0 = .ok (.aload_n 0, 1) := by decide +kernel
theorem dX5_setCliff_1 : decode cX5_setCliff 1 = .ok (.iconst 0, 1) := by decide +kernel
theorem dX5_setCliff_2 : decode cX5_setCliff 2 = .ok (.putfield 46, 3) := by decide +kernel
theorem dX5_setCliff_5 : decode cX5_setCliff 5 = .ok (.aload_n 0, 1) := by decide +kernel
theorem dX5_setCliff_6 : decode cX5_setCliff 6 = .ok (.iload_n 1, 1) := by decide +kernel
theorem dX5_setCliff_7 : decode cX5_setCliff 7 = .ok (.invokevirtual 75, 3) := by decide +kernel
theorem dX5_setCliff_10 : decode cX5_setCliff 10 = .ok (.ifCond .ne 17, 3) := by decide +kernel
theorem dX5_setCliff_13 : decode cX5_setCliff 13 = .ok (.aload_n 0, 1) := by decide +kernel
theorem dX5_setCliff_14 : decode cX5_setCliff 14 = .ok (.iconst 1, 1) := by decide +kernel
theorem dX5_setCliff_15 : decode cX5_setCliff 15 = .ok (.invokevirtual 66, 3) := by decide +kernel
theorem dX5_setCliff_18 : decode cX5_setCliff 18 = .ok (.ifCond .eq 7, 3) := by decide +kernel
theorem dX5_setCliff_21 : decode cX5_setCliff 21 = .ok (.iconst 1, 1) := by decide +kernel
theorem dX5_setCliff_22 : decode cX5_setCliff 22 = .ok (.goto 4, 3) := by decide +kernel
theorem dX5_setCliff_25 : decode cX5_setCliff 25 = .ok (.iconst 0, 1) := by decide +kernel
theorem dX5_setCliff_26 : decode cX5_setCliff 26 = .ok (.ireturn, 1) := by decide +kernel
theorem dX5_setCliff_27 : decode cX5_setCliff 27 = .ok (.aload_n 0, 1) := by decide +kernel
theorem dX5_setCliff_28 : decode cX5_setCliff 28 = .ok (.getfield 16, 3) := by decide +kernel
theorem dX5_setCliff_31 : decode cX5_setCliff 31 = .ok (.iload_n 1, 1) := by decide +kernel
theorem dX5_setCliff_32 : decode cX5_setCliff 32 = .ok (.iaload, 1) := by decide +kernel
theorem dX5_setCliff_33 : decode cX5_setCliff 33 = .ok (.iconst 1, 1) := by decide +kernel
theorem dX5_setCliff_34 : decode cX5_setCliff 34 = .ok (.if_icmp .ne 7, 3) := by decide +kernel
theorem dX5_setCliff_37 : decode cX5_setCliff 37 = .ok (.iconst 1, 1) := by decide +kernel
theorem dX5_setCliff_38 : decode cX5_setCliff 38 = .ok (.goto 4, 3) := by decide +kernel
theorem dX5_setCliff_41 : decode cX5_setCliff 41 = .ok (.iconst 0, 1) := by decide +kernel
theorem dX5_setCliff_42 : decode cX5_setCliff 42 = .ok (.istore_n 3, 1) := by decide +kernel
theorem dX5_setCliff_43 : decode cX5_setCliff 43 = .ok (.aload_n 0, 1) := by decide +kernel
theorem dX5_setCliff_44 : decode cX5_setCliff 44 = .ok (.getfield 16, 3) := by decide +kernel
theorem dX5_setCliff_47 : decode cX5_setCliff 47 = .ok (.iload_n 1, 1) := by decide +kernel
theorem dX5_setCliff_48 : decode cX5_setCliff 48 = .ok (.iload_n 2, 1) := by decide +kernel
theorem dX5_setCliff_49 : decode cX5_setCliff 49 = .ok (.ifCond .eq 7, 3) := by decide +kernel
theorem dX5_setCliff_52 : decode cX5_setCliff 52 = .ok (.iconst 1, 1) := by decide +kernel
theorem dX5_setCliff_53 : decode cX5_setCliff 53 = .ok (.goto 4, 3) := by decide +kernel
theorem dX5_setCliff_56 : decode cX5_setCliff 56 = .ok (.iconst 0, 1) := by decide +kernel
theorem dX5_setCliff_57 : decode cX5_setCliff 57 = .ok (.iastore, 1) := by decide +kernel
theorem dX5_setCliff_58 : decode cX5_setCliff 58 = .ok (.iload_n 3, 1) := by decide +kernel
theorem dX5_setCliff_59 : decode cX5_setCliff 59 = .ok (.ireturn, 1) := by decide +kernel
set_option maxRecDepth 20000 in
theorem ggX5_setAwake_X5_isVillage : GoodIn wsX5_setAwake wsX5_isVillage := goodIn_r _ [8, 9, 10, 11, 7, 12, 17, 18, 19, 20, 21, 22, 23, 24, 25, 26, 27, 28] (by decide +kernel) (by decide +kernel)
set_option maxRecDepth 20000 in
theorem gX5_setAwake_X5_isVillage : GoodIn wsX5_setAwake (wsV RX5 75 RX5 yX5_isVillage wsX5_isVillage) := goodIn_app (goodIn_of _ (by decide +kernel)) ggX5_setAwake_X5_isVillage
set_option maxRecDepth 20000 in
theorem ggX5_setAwake_X5_no : GoodIn wsX5_setAwake wsX5_no := goodIn_r _ [16, 1, 17, 18, 19, 20, 21, 22, 23, 24, 25, 26, 27, 28] (by decide +kernel) (by decide +kernel)
set_option maxRecDepth 20000 in
theorem gX5_setAwake_X5_no : GoodIn wsX5_setAwake (wsV RX5 66 RX5 yX5_no wsX5_no) := goodIn_app (goodIn_of _ (by decide +kernel)) ggX5_setAwake_X5_no
set_option maxRecDepth 20000 in
theorem ggX5_setAwake_X5_isIn : GoodIn wsX5_setAwake wsX5_isIn := goodIn_r _ [12] (by decide +kernel) (by decide +kernel)
set_option maxRecDepth 20000 in
theorem gX5_setAwake_X5_isIn : GoodIn wsX5_setAwake (va_wsS RX5 53 yX5_isIn wsX5_isIn) := goodIn_app (goodIn_of _ (by decide +kernel)) ggX5_setAwake_X5_isIn
theorem dX5_setAwake_0 : decode cX5_setAwake 0 = .ok (.aload_n 0, 1) := by decide +kernel
theorem dX5_setAwake_1 : decode cX5_setAwake 1 = .ok (.iconst 0, 1) := by decide +kernel
theorem dX5_setAwake_2 : decode cX5_setAwake 2 = .ok (.putfield 46, 3) := by decide +kernel
theorem dX5_setAwake_5 : decode cX5_setAwake 5 = .ok (.aload_n 0, 1) := by decide +kernel
theorem dX5_setAwake_6 : decode cX5_setAwake 6 = .ok (.iload_n 1, 1) := by decide +kernel
theorem dX5_setAwake_7 : decode cX5_setAwake 7 = .ok (.invokevirtual 75, 3) := by decide +kernel
theorem dX5_setAwake_10 : decode cX5_setAwake 10 = .ok (.ifCond .ne 9, 3) := by decide +kernel
theorem dX5_setAwake_13 : decode cX5_setAwake 13 = .ok (.aload_n 0, 1) := by decide +kernel
theorem dX5_setAwake_14 : decode cX5_setAwake 14 = .ok (.iconst 1, 1) := by decide +kernel
theorem dX5_setAwake_15 : decode cX5_setAwake 15 = .ok (.invokevirtual 66, 3) := by decide +kernel
theorem dX5_setAwake_18 : decode cX5_setAwake 18 = .ok (.ireturn, 1) := by decide +kernel
theorem dX5_setAwake_19 : decode cX5_setAwake 19 = .ok (.iload_n 2, 1) := by decide +kernel
theorem dX5_setAwake_20 : decode cX5_setAwake 20 = .ok (.iconst 0, 1) := by decide +kernel
theorem dX5_setAwake_21 : decode cX5_setAwake 21 = .ok (.bipush 23, 2) := by decide +kernel
theorem dX5_setAwake_23 : decode cX5_setAwake 23 = .ok (.invokestatic 53, 3) := by decide +kernel
theorem dX5_setAwake_26 : decode cX5_setAwake 26 = .ok (.ifCond .eq 13, 3) := by decide +kernel
theorem dX5_setAwake_29 : decode cX5_setAwake 29 = .ok (.iload_n 3, 1) := by decide +kernel
theorem dX5_setAwake_30 : decode cX5_setAwake 30 = .ok (.iconst 1, 1) := by decide +kernel
theorem dX5_setAwake_31 : decode cX5_setAwake 31 = .ok (.bipush 24, 2) := by decide +kernel
theorem dX5_setAwake_33 : decode cX5_setAwake 33 = .ok (.invokestatic 53, 3) := by decide +kernel
theorem dX5_setAwake_36 : decode cX5_setAwake 36 = .ok (.ifCond .ne 9, 3) := by decide +kernel
theorem dX5_setAwake_39 : decode cX5_setAwake 39 = .ok (.aload_n 0, 1) := by decide +kernel
theorem dX5_setAwake_40 : decode cX5_setAwake 40 = .ok (.iconst 2, 1) := by decide +kernel
theorem dX5_setAwake_41 : decode cX5_setAwake 41 = .ok (.invokevirtual 66, 3) := by decide +kernel
theorem dX5_setAwake_44 : decode cX5_setAwake 44 = .ok (.ireturn, 1) := by decide +kernel
theorem dX5_setAwake_45 : decode cX5_setAwake 45 = .ok (.aload_n 0, 1) := by decide +kernel
theorem dX5_setAwake_46 : decode cX5_setAwake 46 = .ok (.getfield 22, 3) := by decide +kernel
theorem dX5_setAwake_49 : decode cX5_setAwake 49 = .ok (.iload_n 1, 1) := by decide +kernel
theorem dX5_setAwake_50 : decode cX5_setAwake 50 = .ok (.iaload, 1) := by decide +kernel
theorem dX5_setAwake_51 : decode cX5_setAwake 51 = .ok (.istore 4, 2) := by decide +kernel
theorem dX5_setAwake_53 : decode cX5_setAwake 53 = .ok (.aload_n 0, 1) := by decide +kernel
theorem dX5_setAwake_54 : decode cX5_setAwake 54 = .ok (.getfield 19, 3) := by decide +kernel
theorem dX5_setAwake_57 : decode cX5_setAwake 57 = .ok (.iload_n 1, 1) := by decide +kernel
theorem dX5_setAwake_58 : decode cX5_setAwake 58 = .ok (.iload_n 2, 1) := by decide +kernel
theorem dX5_setAwake_59 : decode cX5_setAwake 59 = .ok (.iastore, 1) := by decide +kernel
theorem dX5_setAwake_60 : decode cX5_setAwake 60 = .ok (.aload_n 0, 1) := by decide +kernel
theorem dX5_setAwake_61 : decode cX5_setAwake 61 = .ok (.getfield 22, 3) := by decide +kernel
theorem dX5_setAwake_64 : decode cX5_setAwake 64 = .ok (.iload_n 1, 1) := by decide +kernel
theorem dX5_setAwake_65 : decode cX5_setAwake 65 = .ok (.iload_n 3, 1) := by decide +kernel
theorem dX5_setAwake_66 : decode cX5_setAwake 66 = .ok (.iastore, 1) := by decide +kernel
theorem dX5_setAwake_67 : decode cX5_setAwake 67 = .ok (.iload 4, 2) := by decide +kernel
theorem dX5_setAwake_69 : decode cX5_setAwake 69 = .ok (.ireturn, 1) := by decide +kernel
set_option maxRecDepth 20000 in
theorem ggX5_phrase_X5_isIn : GoodIn wsX5_phrase wsX5_isIn := goodIn_r _ [8] (by decide +kernel) (by decide +kernel)
set_option maxRecDepth 20000 in
theorem gX5_phrase_X5_isIn : GoodIn wsX5_phrase (va_wsS RX5 53 yX5_isIn wsX5_isIn) := goodIn_app (goodIn_of _ (by decide +kernel)) ggX5_phrase_X5_isIn
set_option maxRecDepth 20000 in
theorem ggX5_phrase_X5_no : GoodIn wsX5_phrase wsX5_no := goodIn_r _ [12, 1, 13, 14, 15, 16, 17, 18, 19, 20, 21, 22, 23, 24] (by decide +kernel) (by decide +kernel)
set_option maxRecDepth 20000 in
theorem gX5_phrase_X5_no : GoodIn wsX5_phrase (wsV RX5 66 RX5 yX5_no wsX5_no) := goodIn_app (goodIn_of _ (by decide +kernel)) ggX5_phrase_X5_no
theorem dX5_phrase_0 : decode cX5_phrase 0 = .ok (.aload_n 0, 1) := by decide +kernel
theorem dX5_phrase_1 : decode cX5_phrase 1 = .ok (.iconst 0, 1) := by decide +kernel
theorem dX5_phrase_2 : decode cX5_phrase 2 = .ok (.putfield 46, 3) := by decide +kernel
theorem dX5_phrase_5 : decode cX5_phrase 5 = .ok (.iconst 0, 1) := by decide +kernel
theorem dX5_phrase_6 : decode cX5_phrase 6 = .ok (.istore_n 2, 1) := by decide +kernel
theorem dX5_phrase_7 : decode cX5_phrase 7 = .ok (.iload_n 1, 1) := by decide +kernel
theorem dX5_phrase_8 : decode cX5_phrase 8 = .ok (.ifCond .le 7, 3) := by decide +kernel
theorem dX5_phrase_11 : decode cX5_phrase 11 = .ok (.iconst 1, 1) := by decide +kernel
theorem dX5_phrase_12 : decode cX5_phrase 12 = .ok (.goto 4, 3) := by decide +kernel
theorem dX5_phrase_15 : decode cX5_phrase 15 = .ok (.iconst 0, 1) := by decide +kernel
theorem dX5_phrase_16 : decode cX5_phrase 16 = .ok (.istore_n 3, 1) := by decide +kernel
theorem dX5_phrase_17 : decode cX5_phrase 17 = .ok (.iload_n 1, 1) := by decide +kernel
theorem dX5_phrase_18 : decode cX5_phrase 18 = .ok (.istore 4, 2) := by decide +kernel
theorem dX5_phrase_20 : decode cX5_phrase 20 = .ok (.iload 4, 2) := by decide +kernel
theorem dX5_phrase_22 : decode cX5_phrase 22 = .ok (.ifCond .le 29, 3) := by decide +kernel
theorem dX5_phrase_25 : decode cX5_phrase 25 = .ok (.iinc 2 1, 3) := by decide +kernel
theorem dX5_phrase_28 : decode cX5_phrase 28 = .ok (.iload_n 3, 1) := by decide +kernel
theorem dX5_phrase_29 : decode cX5_phrase 29 = .ok (.iload 4, 2) := by decide +kernel
theorem dX5_phrase_31 : decode cX5_phrase 31 = .ok (.bipush 10, 2) := by decide +kernel
theorem dX5_phrase_33 : decode cX5_phrase 33 = .ok (.irem, 1) := by decide +kernel
theorem dX5_phrase_34 : decode cX5_phrase 34 = .ok (.iconst 1, 1) := by decide +kernel
theorem dX5_phrase_35 : decode cX5_phrase 35 = .ok (.iconst 2, 1) := by decide +kernel
theorem dX5_phrase_36 : decode cX5_phrase 36 = .ok (.invokestatic 53, 3) := by decide +kernel
theorem dX5_phrase_39 : decode cX5_phrase 39 = .ok (.iand, 1) := by decide +kernel
theorem dX5_phrase_40 : decode cX5_phrase 40 = .ok (.istore_n 3, 1) := by decide +kernel
theorem dX5_phrase_41 : decode cX5_phrase 41 = .ok (.iload 4, 2) := by decide +kernel
theorem dX5_phrase_43 : decode cX5_phrase 43 = .ok (.bipush 10, 2) := by decide +kernel
theorem dX5_phrase_45 : decode cX5_phrase 45 = .ok (.idiv, 1) := by decide +kernel
theorem dX5_phrase_46 : decode cX5_phrase 46 = .ok (.istore 4, 2) := by decide +kernel
theorem dX5_phrase_48 : decode cX5_phrase 48 = .ok (.goto (-28), 3) := by decide +kernel
theorem dX5_phrase_51 : decode cX5_phrase 51 = .ok (.iload_n 3, 1) := by decide +kernel
theorem dX5_phrase_52 : decode cX5_phrase 52 = .ok (.ifCond .eq 13, 3) := by decide +kernel
theorem dX5_phrase_55 : decode cX5_phrase 55 = .ok (.iload_n 2, 1) := by decide +kernel
theorem dX5_phrase_56 : decode cX5_phrase 56 = .ok (.iconst 2, 1) := by decide +kernel
theorem dX5_phrase_57 : decode cX5_phrase 57 = .ok (.bipush 8, 2) := by decide +kernel
theorem dX5_phrase_59 : decode cX5_phrase 59 = .ok (.invokestatic 53, 3) := by decide +kernel
theorem dX5_phrase_62 : decode cX5_phrase 62 = .ok (.ifCond .ne 9, 3) := by decide +kernel
theorem dX5_phrase_65 : decode cX5_phrase 65 = .ok (.aload_n 0, 1) := by decide +kernel
theorem dX5_phrase_66 : decode cX5_phrase 66 = .ok (.iconst 1, 1) := by decide +kernel
theorem dX5_phrase_67 : decode cX5_phrase 67 = .ok (.invokevirtual 66, 3) := by decide +kernel
theorem dX5_phrase_70 : decode cX5_phrase 70 = .ok (.ireturn, 1) := by decide +kernel
theorem dX5_phrase_71 : decode cX5_phrase 71 = .ok (.aload_n 0, 1) := by decide +kernel
theorem dX5_phrase_72 : decode cX5_phrase 72 = .ok (.getfield 57, 3) := by decide +kernel
theorem dX5_phrase_75 : decode cX5_phrase 75 = .ok (.bipush 12, 2) := by decide +kernel
theorem dX5_phrase_77 : decode cX5_phrase 77 = .ok (.if_icmp .ne 7, 3) := by decide +kernel
theorem dX5_phrase_80 : decode cX5_phrase 80 = .ok (.iconst 1, 1) := by decide +kernel
theorem dX5_phrase_81 : decode cX5_phrase 81 = .ok (.goto 4, 3) := by decide +kernel
theorem dX5_phrase_84 : decode cX5_phrase 84 = .ok (.iconst 0, 1) := by decide +kernel
theorem dX5_phrase_85 : decode cX5_phrase 85 = .ok (.istore 4, 2) := by decide +kernel
theorem dX5_phrase_87 : decode cX5_phrase 87 = .ok (.iconst 0, 1) := by decide +kernel
theorem dX5_phrase_88 : decode cX5_phrase 88 = .ok (.istore 5, 2) := by decide +kernel
theorem dX5_phrase_90 : decode cX5_phrase 90 = .ok (.iload 5, 2) := by decide +kernel
theorem dX5_phrase_92 : decode cX5_phrase 92 = .ok (.aload_n 0, 1) := by decide +kernel
theorem dX5_phrase_93 : decode cX5_phrase 93 = .ok (.getfield 57, 3) := by decide +kernel
theorem dX5_phrase_96 : decode cX5_phrase 96 = .ok (.if_icmp .ge 30, 3) := by decide +kernel
theorem dX5_phrase_99 : decode cX5_phrase 99 = .ok (.iload 4, 2) := by decide +kernel
theorem dX5_phrase_101 : decode cX5_phrase 101 = .ok (.aload_n 0, 1) := by decide +kernel
theorem dX5_phrase_102 : decode cX5_phrase 102 = .ok (.getfield 25, 3) := by decide +kernel
theorem dX5_phrase_105 : decode cX5_phrase 105 = .ok (.iload 5, 2) := by decide +kernel
theorem dX5_phrase_107 : decode cX5_phrase 107 = .ok (.iaload, 1) := by decide +kernel
theorem dX5_phrase_108 : decode cX5_phrase 108 = .ok (.iload_n 1, 1) := by decide +kernel
theorem dX5_phrase_109 : decode cX5_phrase 109 = .ok (.if_icmp .ne 7, 3) := by decide +kernel
theorem dX5_phrase_112 : decode cX5_phrase 112 = .ok (.iconst 1, 1) := by decide +kernel
theorem dX5_phrase_113 : decode cX5_phrase 113 = .ok (.goto 4, 3) := by decide +kernel
theorem dX5_phrase_116 : decode cX5_phrase 116 = .ok (.iconst 0, 1) := by decide +kernel
theorem dX5_phrase_117 : decode cX5_phrase 117 = .ok (.ior, 1) := by decide +kernel
theorem dX5_phrase_118 : decode cX5_phrase 118 = .ok (.istore 4, 2) := by decide +kernel
theorem dX5_phrase_120 : decode cX5_phrase 120 = .ok (.iinc 5 1, 3) := by decide +kernel
theorem dX5_phrase_123 : decode cX5_phrase 123 = .ok (.goto (-33), 3) := by decide +kernel
theorem dX5_phrase_126 : decode cX5_phrase 126 = .ok (.iload 4, 2) := by decide +kernel
theorem dX5_phrase_128 : decode cX5_phrase 128 = .ok (.ifCond .eq 9, 3) := by decide +kernel
theorem dX5_phrase_131 : decode cX5_phrase 131 = .ok (.aload_n 0, 1) := by decide +kernel
theorem dX5_phrase_132 : decode cX5_phrase 132 = .ok (.iconst 2, 1) := by decide +kernel
theorem dX5_phrase_133 : decode cX5_phrase 133 = .ok (.invokevirtual 66, 3) := by decide +kernel
theorem dX5_phrase_136 : decode cX5_phrase 136 = .ok (.ireturn, 1) := by decide +kernel
theorem dX5_phrase_137 : decode cX5_phrase 137 = .ok (.aload_n 0, 1) := by decide +kernel
theorem dX5_phrase_138 : decode cX5_phrase 138 = .ok (.getfield 25, 3) := by decide +kernel
theorem dX5_phrase_141 : decode cX5_phrase 141 = .ok (.aload_n 0, 1) := by decide +kernel
theorem dX5_phrase_142 : decode cX5_phrase 142 = .ok (.getfield 57, 3) := by decide +kernel
theorem dX5_phrase_145 : decode cX5_phrase 145 = .ok (.iload_n 1, 1) := by decide +kernel
theorem dX5_phrase_146 : decode cX5_phrase 146 = .ok (.iastore, 1) := by decide +kernel
theorem dX5_phrase_147 : decode cX5_phrase 147 = .ok (.aload_n 0, 1) := by decide +kernel
theorem dX5_phrase_148 : decode cX5_phrase 148 = .ok (.getfield 28, 3) := by decide +kernel
theorem dX5_phrase_151 : decode cX5_phrase 151 = .ok (.aload_n 0, 1) := by decide +kernel
theorem dX5_phrase_152 : decode cX5_phrase 152 = .ok (.getfield 57, 3) := by decide +kernel
theorem dX5_phrase_155 : decode cX5_phrase 155 = .ok (.iload_n 2, 1) := by decide +kernel
theorem dX5_phrase_156 : decode cX5_phrase 156 = .ok (.iastore, 1) := by decide +kernel
theorem dX5_phrase_157 : decode cX5_phrase 157 = .ok (.aload_n 0, 1) := by decide +kernel
theorem dX5_phrase_158 : decode cX5_phrase 158 = .ok (.dup, 1) := by decide +kernel
theorem dX5_phrase_159 : decode cX5_phrase 159 = .ok (.getfield 57, 3) := by decide +kernel
theorem dX5_phrase_162 : decode cX5_phrase 162 = .ok (.iconst 1, 1) := by decide +kernel
theorem dX5_phrase_163 : decode cX5_phrase 163 = .ok (.iadd, 1) := by decide +kernel
theorem dX5_phrase_164 : decode cX5_phrase 164 = .ok (.putfield 57, 3) := by decide +kernel
theorem dX5_phrase_167 : decode cX5_phrase 167 = .ok (.aload_n 0, 1) := by decide +kernel
theorem dX5_phrase_168 : decode cX5_phrase 168 = .ok (.getfield 57, 3) := by decide +kernel
theorem dX5_phrase_171 : decode cX5_phrase 171 = .ok (.iconst 1, 1) := by decide +kernel
theorem dX5_phrase_172 : decode cX5_phrase 172 = .ok (.isub, 1) := by decide +kernel
theorem dX5_phrase_173 : decode cX5_phrase 173 = .ok (.ireturn, 1) := by decide +kernel
set_option maxRecDepth 20000 in
theorem ggX5_tell_X5_isVillage : GoodIn wsX5_tell wsX5_isVillage := goodIn_r _ [7, 8, 9, 10, 6, 11, 34, 35, 36, 37, 38, 39, 40, 41, 42, 43, 44, 45] (by decide +kernel) (by decide +kernel)
set_option maxRecDepth 20000 in
theorem gX5_tell_X5_isVillage : GoodIn wsX5_tell (wsV RX5 75 RX5 yX5_isVillage wsX5_isVillage) := goodIn_app (goodIn_of _ (by decide +kernel)) ggX5_tell_X5_isVillage
set_option maxRecDepth 20000 in
theorem ggX5_tell_X5_isPhrase : GoodIn wsX5_tell wsX5_isPhrase := goodIn_r _ [15, 16, 9, 10, 6, 11, 34, 35, 36, 37, 38, 39, 40, 41, 42, 43, 44, 45] (by decide +kernel) (by decide +kernel)
set_option maxRecDepth 20000 in
theorem gX5_tell_X5_isPhrase : GoodIn wsX5_tell (wsV RX5 79 RX5 yX5_isPhrase wsX5_isPhrase) := goodIn_app (goodIn_of _ (by decide +kernel)) ggX5_tell_X5_isPhrase
set_option maxRecDepth 20000 in
theorem ggX5_tell_X5_no : GoodIn wsX5_tell wsX5_no := goodIn_r _ [20, 1, 34, 35, 36, 37, 38, 39, 40, 41, 42, 43, 44, 45] (by decide +kernel) (by decide +kernel)
set_option maxRecDepth 20000 in
theorem gX5_tell_X5_no : GoodIn wsX5_tell (wsV RX5 66 RX5 yX5_no wsX5_no) := goodIn_app (goodIn_of _ (by decide +kernel)) ggX5_tell_X5_no
set_option maxRecDepth 20000 in
theorem ggX5_tell_X4_learns : GoodIn wsX5_tell wsX4_learns := goodIn_r _ [25, 26, 27, 46, 47, 48, 49, 50, 51, 52, 53, 54, 55, 56, 57, 58, 59, 60, 61] (by decide +kernel) (by decide +kernel)
set_option maxRecDepth 20000 in
theorem gX5_tell_X4_learns : GoodIn wsX5_tell (wsV RX5 85 RX4 yX4_learns wsX4_learns) := goodIn_app (goodIn_of _ (by decide +kernel)) ggX5_tell_X4_learns
set_option maxRecDepth 20000 in
theorem ggX5_tell_X4_put : GoodIn wsX5_tell wsX4_put := goodIn_r _ [31, 32, 33, 46, 47, 48, 49, 50, 51, 52, 53, 54, 55, 56, 57, 58, 59, 60, 61] (by decide +kernel) (by decide +kernel)
set_option maxRecDepth 20000 in
theorem gX5_tell_X4_put : GoodIn wsX5_tell (wsV RX5 89 RX4 yX4_put wsX4_put) := goodIn_app (goodIn_of _ (by decide +kernel)) ggX5_tell_X4_put
theorem dX5_tell_0 : decode cX5_tell 0 = .ok (.aload_n 0, 1) := by decide +kernel
theorem dX5_tell_1 : decode cX5_tell 1 = .ok (.iconst 0, 1) := by decide +kernel
theorem dX5_tell_2 : decode cX5_tell 2 = .ok (.putfield 46, 3) := by decide +kernel
theorem dX5_tell_5 : decode cX5_tell 5 = .ok (.aload_n 0, 1) := by decide +kernel
theorem dX5_tell_6 : decode cX5_tell 6 = .ok (.iload_n 1, 1) := by decide +kernel
theorem dX5_tell_7 : decode cX5_tell 7 = .ok (.invokevirtual 75, 3) := by decide +kernel
theorem dX5_tell_10 : decode cX5_tell 10 = .ok (.ifCond .eq 11, 3) := by decide +kernel
theorem dX5_tell_13 : decode cX5_tell 13 = .ok (.aload_n 0, 1) := by decide +kernel
theorem dX5_tell_14 : decode cX5_tell 14 = .ok (.iload_n 2, 1) := by decide +kernel
theorem dX5_tell_15 : decode cX5_tell 15 = .ok (.invokevirtual 79, 3) := by decide +kernel
theorem dX5_tell_18 : decode cX5_tell 18 = .ok (.ifCond .ne 9, 3) := by decide +kernel
theorem dX5_tell_21 : decode cX5_tell 21 = .ok (.aload_n 0, 1) := by decide +kernel
theorem dX5_tell_22 : decode cX5_tell 22 = .ok (.iconst 1, 1) := by decide +kernel
theorem dX5_tell_23 : decode cX5_tell 23 = .ok (.invokevirtual 66, 3) := by decide +kernel
theorem dX5_tell_26 : decode cX5_tell 26 = .ok (.ireturn, 1) := by decide +kernel
theorem dX5_tell_27 : decode cX5_tell 27 = .ok (.aload_n 0, 1) := by decide +kernel
theorem dX5_tell_28 : decode cX5_tell 28 = .ok (.getfield 36, 3) := by decide +kernel
theorem dX5_tell_31 : decode cX5_tell 31 = .ok (.getfield 82, 3) := by decide +kernel
theorem dX5_tell_34 : decode cX5_tell 34 = .ok (.iload_n 1, 1) := by decide +kernel
theorem dX5_tell_35 : decode cX5_tell 35 = .ok (.iaload, 1) := by decide +kernel
theorem dX5_tell_36 : decode cX5_tell 36 = .ok (.iconst 5, 1) := by decide +kernel
theorem dX5_tell_37 : decode cX5_tell 37 = .ok (.if_icmp .ne 9, 3) := by decide +kernel
theorem dX5_tell_40 : decode cX5_tell 40 = .ok (.aload_n 0, 1) := by decide +kernel
theorem dX5_tell_41 : decode cX5_tell 41 = .ok (.iconst 2, 1) := by decide +kernel
theorem dX5_tell_42 : decode cX5_tell 42 = .ok (.invokevirtual 66, 3) := by decide +kernel
theorem dX5_tell_45 : decode cX5_tell 45 = .ok (.ireturn, 1) := by decide +kernel
theorem dX5_tell_46 : decode cX5_tell 46 = .ok (.aload_n 0, 1) := by decide +kernel
theorem dX5_tell_47 : decode cX5_tell 47 = .ok (.getfield 36, 3) := by decide +kernel
theorem dX5_tell_50 : decode cX5_tell 50 = .ok (.iload_n 1, 1) := by decide +kernel
theorem dX5_tell_51 : decode cX5_tell 51 = .ok (.iload_n 2, 1) := by decide +kernel
theorem dX5_tell_52 : decode cX5_tell 52 = .ok (.invokevirtual 85, 3) := by decide +kernel
theorem dX5_tell_55 : decode cX5_tell 55 = .ok (.pop, 1) := by decide +kernel
theorem dX5_tell_56 : decode cX5_tell 56 = .ok (.aload_n 0, 1) := by decide +kernel
theorem dX5_tell_57 : decode cX5_tell 57 = .ok (.getfield 36, 3) := by decide +kernel
theorem dX5_tell_60 : decode cX5_tell 60 = .ok (.iload_n 1, 1) := by decide +kernel
theorem dX5_tell_61 : decode cX5_tell 61 = .ok (.iload_n 2, 1) := by decide +kernel
theorem dX5_tell_62 : decode cX5_tell 62 = .ok (.invokevirtual 89, 3) := by decide +kernel
theorem dX5_tell_65 : decode cX5_tell 65 = .ok (.aload_n 0, 1) := by decide +kernel
theorem dX5_tell_66 : decode cX5_tell 66 = .ok (.getfield 36, 3) := by decide +kernel
theorem dX5_tell_69 : decode cX5_tell 69 = .ok (.getfield 82, 3) := by decide +kernel
theorem dX5_tell_72 : decode cX5_tell 72 = .ok (.iload_n 1, 1) := by decide +kernel
theorem dX5_tell_73 : decode cX5_tell 73 = .ok (.iaload, 1) := by decide +kernel
theorem dX5_tell_74 : decode cX5_tell 74 = .ok (.ireturn, 1) := by decide +kernel
set_option maxRecDepth 20000 in
theorem ggX5_villageTold_X4_isAwake : GoodIn wsX5_villageTold wsX4_isAwake := goodIn_r _ [11, 12, 13, 26, 27, 28, 29, 30, 31, 32, 33, 34, 35, 36, 37, 38, 39, 40, 41, 14, 15, 16, 17, 18, 19, 20, 21, 22, 23, 24, 25] (by decide +kernel) (by decide +kernel)
set_option maxRecDepth 20000 in
theorem gX5_villageTold_X4_isAwake : GoodIn wsX5_villageTold (wsV RX5 93 RX4 yX4_isAwake wsX4_isAwake) := goodIn_app (goodIn_of _ (by decide +kernel)) ggX5_villageTold_X4_isAwake
theorem dX5_villageTold_0 : decode cX5_villageTold 0 = .ok (.iconst 0, 1) := by decide +kernel
theorem dX5_villageTold_1 : decode cX5_villageTold 1 = .ok (.istore_n 3, 1) := by decide +kernel
theorem dX5_villageTold_2 : decode cX5_villageTold 2 = .ok (.iconst 0, 1) := by decide +kernel
theorem dX5_villageTold_3 : decode cX5_villageTold 3 = .ok (.istore 4, 2) := by decide +kernel
theorem dX5_villageTold_5 : decode cX5_villageTold 5 = .ok (.iload 4, 2) := by decide +kernel
theorem dX5_villageTold_7 : decode cX5_villageTold 7 = .ok (.aload_n 0, 1) := by decide +kernel
theorem dX5_villageTold_8 : decode cX5_villageTold 8 = .ok (.getfield 57, 3) := by decide +kernel
theorem dX5_villageTold_11 : decode cX5_villageTold 11 = .ok (.if_icmp .ge 36, 3) := by decide +kernel
theorem dX5_villageTold_14 : decode cX5_villageTold 14 = .ok (.iload_n 3, 1) := by decide +kernel
theorem dX5_villageTold_15 : decode cX5_villageTold 15 = .ok (.aload_n 0, 1) := by decide +kernel
theorem dX5_villageTold_16 : decode cX5_villageTold 16 = .ok (.getfield 36, 3) := by decide +kernel
theorem dX5_villageTold_19 : decode cX5_villageTold 19 = .ok (.getfield 43, 3) := by decide +kernel
theorem dX5_villageTold_22 : decode cX5_villageTold 22 = .ok (.bipush 12, 2) := by decide +kernel
theorem dX5_villageTold_24 : decode cX5_villageTold 24 = .ok (.iload_n 1, 1) := by decide +kernel
theorem dX5_villageTold_25 : decode cX5_villageTold 25 = .ok (.imul, 1) := by decide +kernel
theorem dX5_villageTold_26 : decode cX5_villageTold 26 = .ok (.iload 4, 2) := by decide +kernel
theorem dX5_villageTold_28 : decode cX5_villageTold 28 = .ok (.iadd, 1) := by decide +kernel
theorem dX5_villageTold_29 : decode cX5_villageTold 29 = .ok (.iaload, 1) := by decide +kernel
theorem dX5_villageTold_30 : decode cX5_villageTold 30 = .ok (.iconst (-1), 1) := by decide +kernel
theorem dX5_villageTold_31 : decode cX5_villageTold 31 = .ok (.if_icmp .ne 7, 3) := by decide +kernel
theorem dX5_villageTold_34 : decode cX5_villageTold 34 = .ok (.iconst 0, 1) := by decide +kernel
theorem dX5_villageTold_35 : decode cX5_villageTold 35 = .ok (.goto 4, 3) := by decide +kernel
theorem dX5_villageTold_38 : decode cX5_villageTold 38 = .ok (.iconst 1, 1) := by decide +kernel
theorem dX5_villageTold_39 : decode cX5_villageTold 39 = .ok (.iadd, 1) := by decide +kernel
theorem dX5_villageTold_40 : decode cX5_villageTold 40 = .ok (.istore_n 3, 1) := by decide +kernel
theorem dX5_villageTold_41 : decode cX5_villageTold 41 = .ok (.iinc 4 1, 3) := by decide +kernel
theorem dX5_villageTold_44 : decode cX5_villageTold 44 = .ok (.goto (-39), 3) := by decide +kernel
theorem dX5_villageTold_47 : decode cX5_villageTold 47 = .ok (.bipush 10, 2) := by decide +kernel
theorem dX5_villageTold_49 : decode cX5_villageTold 49 = .ok (.newarray .int, 2) := by decide +kernel
theorem dX5_villageTold_51 : decode cX5_villageTold 51 = .ok (.dup, 1) := by decide +kernel
theorem dX5_villageTold_52 : decode cX5_villageTold 52 = .ok (.iconst 0, 1) := by decide +kernel
theorem dX5_villageTold_53 : decode cX5_villageTold 53 = .ok (.aload_n 0, 1) := by decide +kernel
theorem dX5_villageTold_54 : decode cX5_villageTold 54 = .ok (.getfield 9, 3) := by decide +kernel
theorem dX5_villageTold_57 : decode cX5_villageTold 57 = .ok (.iload_n 1, 1) := by decide +kernel
theorem dX5_villageTold_58 : decode cX5_villageTold 58 = .ok (.iaload, 1) := by decide +kernel
theorem dX5_villageTold_59 : decode cX5_villageTold 59 = .ok (.iastore, 1) := by decide +kernel
theorem dX5_villageTold_60 : decode cX5_villageTold 60 = .ok (.dup, 1) := by decide +kernel
theorem dX5_villageTold_61 : decode cX5_villageTold 61 = .ok (.iconst 1, 1) := by decide +kernel
theorem dX5_villageTold_62 : decode cX5_villageTold 62 = .ok (.aload_n 0, 1) := by decide +kernel
theorem dX5_villageTold_63 : decode cX5_villageTold 63 = .ok (.getfield 13, 3) := by decide +kernel
theorem dX5_villageTold_66 : decode cX5_villageTold 66 = .ok (.iload_n 1, 1) := by decide +kernel
theorem dX5_villageTold_67 : decode cX5_villageTold 67 = .ok (.iaload, 1) := by decide +kernel
theorem dX5_villageTold_68 : decode cX5_villageTold 68 = .ok (.iastore, 1) := by decide +kernel
theorem dX5_villageTold_69 : decode cX5_villageTold 69 = .ok (.dup, 1) := by decide +kernel
theorem dX5_villageTold_70 : decode cX5_villageTold 70 = .ok (.iconst 2, 1) := by decide +kernel
theorem dX5_villageTold_71 : decode cX5_villageTold 71 = .ok (.aload_n 0, 1) := by decide +kernel
theorem dX5_villageTold_72 : decode cX5_villageTold 72 = .ok (.getfield 36, 3) := by decide +kernel
theorem dX5_villageTold_75 : decode cX5_villageTold 75 = .ok (.getfield 69, 3) := by decide +kernel
theorem dX5_villageTold_78 : decode cX5_villageTold 78 = .ok (.iload_n 1, 1) := by decide +kernel
theorem dX5_villageTold_79 : decode cX5_villageTold 79 = .ok (.iaload, 1) := by decide +kernel
theorem dX5_villageTold_80 : decode cX5_villageTold 80 = .ok (.iastore, 1) := by decide +kernel
theorem dX5_villageTold_81 : decode cX5_villageTold 81 = .ok (.dup, 1) := by decide +kernel
theorem dX5_villageTold_82 : decode cX5_villageTold 82 = .ok (.iconst 3, 1) := by decide +kernel
theorem dX5_villageTold_83 : decode cX5_villageTold 83 = .ok (.aload_n 0, 1) := by decide +kernel
theorem dX5_villageTold_84 : decode cX5_villageTold 84 = .ok (.getfield 16, 3) := by decide +kernel
theorem dX5_villageTold_87 : decode cX5_villageTold 87 = .ok (.iload_n 1, 1) := by decide +kernel
theorem dX5_villageTold_88 : decode cX5_villageTold 88 = .ok (.iaload, 1) := by decide +kernel
theorem dX5_villageTold_89 : decode cX5_villageTold 89 = .ok (.iastore, 1) := by decide +kernel
theorem dX5_villageTold_90 : decode cX5_villageTold 90 = .ok (.dup, 1) := by decide +kernel
theorem dX5_villageTold_91 : decode cX5_villageTold 91 = .ok (.iconst 4, 1) := by decide +kernel
theorem dX5_villageTold_92 : decode cX5_villageTold 92 = .ok (.aload_n 0, 1) := by decide +kernel
theorem dX5_villageTold_93 : decode cX5_villageTold 93 = .ok (.getfield 36, 3) := by decide +kernel
theorem dX5_villageTold_96 : decode cX5_villageTold 96 = .ok (.iload_n 1, 1) := by decide +kernel
theorem dX5_villageTold_97 : decode cX5_villageTold 97 = .ok (.invokevirtual 93, 3) := by decide +kernel
theorem dX5_villageTold_100 : decode cX5_villageTold 100 = .ok (.ifCond .eq 7, 3) := by decide +kernel
theorem dX5_villageTold_103 : decode cX5_villageTold 103 = .ok (.iconst 1, 1) := by decide +kernel
theorem dX5_villageTold_104 : decode cX5_villageTold 104 = .ok (.goto 4, 3) := by decide +kernel
theorem dX5_villageTold_107 : decode cX5_villageTold 107 = .ok (.iconst 0, 1) := by decide +kernel
theorem dX5_villageTold_108 : decode cX5_villageTold 108 = .ok (.iastore, 1) := by decide +kernel
theorem dX5_villageTold_109 : decode cX5_villageTold 109 = .ok (.dup, 1) := by decide +kernel
theorem dX5_villageTold_110 : decode cX5_villageTold 110 = .ok (.iconst 5, 1) := by decide +kernel
theorem dX5_villageTold_111 : decode cX5_villageTold 111 = .ok (.aload_n 0, 1) := by decide +kernel
theorem dX5_villageTold_112 : decode cX5_villageTold 112 = .ok (.getfield 36, 3) := by decide +kernel
theorem dX5_villageTold_115 : decode cX5_villageTold 115 = .ok (.getfield 72, 3) := by decide +kernel
theorem dX5_villageTold_118 : decode cX5_villageTold 118 = .ok (.iload_n 1, 1) := by decide +kernel
theorem dX5_villageTold_119 : decode cX5_villageTold 119 = .ok (.iaload, 1) := by decide +kernel
theorem dX5_villageTold_120 : decode cX5_villageTold 120 = .ok (.iastore, 1) := by decide +kernel
theorem dX5_villageTold_121 : decode cX5_villageTold 121 = .ok (.dup, 1) := by decide +kernel
theorem dX5_villageTold_122 : decode cX5_villageTold 122 = .ok (.bipush 6, 2) := by decide +kernel
theorem dX5_villageTold_124 : decode cX5_villageTold 124 = .ok (.aload_n 0, 1) := by decide +kernel
theorem dX5_villageTold_125 : decode cX5_villageTold 125 = .ok (.getfield 36, 3) := by decide +kernel
theorem dX5_villageTold_128 : decode cX5_villageTold 128 = .ok (.getfield 96, 3) := by decide +kernel
theorem dX5_villageTold_131 : decode cX5_villageTold 131 = .ok (.iload_n 1, 1) := by decide +kernel
theorem dX5_villageTold_132 : decode cX5_villageTold 132 = .ok (.iaload, 1) := by decide +kernel
theorem dX5_villageTold_133 : decode cX5_villageTold 133 = .ok (.iastore, 1) := by decide +kernel
theorem dX5_villageTold_134 : decode cX5_villageTold 134 = .ok (.dup, 1) := by decide +kernel
theorem dX5_villageTold_135 : decode cX5_villageTold 135 = .ok (.bipush 7, 2) := by decide +kernel
theorem dX5_villageTold_137 : decode cX5_villageTold 137 = .ok (.aload_n 0, 1) := by decide +kernel
theorem dX5_villageTold_138 : decode cX5_villageTold 138 = .ok (.getfield 36, 3) := by decide +kernel
theorem dX5_villageTold_141 : decode cX5_villageTold 141 = .ok (.getfield 82, 3) := by decide +kernel
theorem dX5_villageTold_144 : decode cX5_villageTold 144 = .ok (.iload_n 1, 1) := by decide +kernel
theorem dX5_villageTold_145 : decode cX5_villageTold 145 = .ok (.iaload, 1) := by decide +kernel
theorem dX5_villageTold_146 : decode cX5_villageTold 146 = .ok (.iastore, 1) := by decide +kernel
theorem dX5_villageTold_147 : decode cX5_villageTold 147 = .ok (.dup, 1) := by decide +kernel
theorem dX5_villageTold_148 : decode cX5_villageTold 148 = .ok (.bipush 8, 2) := by decide +kernel
theorem dX5_villageTold_150 : decode cX5_villageTold 150 = .ok (.iload_n 3, 1) := by decide +kernel
theorem dX5_villageTold_151 : decode cX5_villageTold 151 = .ok (.iastore, 1) := by decide +kernel
theorem dX5_villageTold_152 : decode cX5_villageTold 152 = .ok (.dup, 1) := by decide +kernel
theorem dX5_villageTold_153 : decode cX5_villageTold 153 = .ok (.bipush 9, 2) := by decide +kernel
theorem dX5_villageTold_155 : decode cX5_villageTold 155 = .ok (.aload_n 0, 1) := by decide +kernel
theorem dX5_villageTold_156 : decode cX5_villageTold 156 = .ok (.getfield 36, 3) := by decide +kernel
theorem dX5_villageTold_159 : decode cX5_villageTold 159 = .ok (.getfield 99, 3) := by decide +kernel
theorem dX5_villageTold_162 : decode cX5_villageTold 162 = .ok (.iload_n 1, 1) := by decide +kernel
theorem dX5_villageTold_163 : decode cX5_villageTold 163 = .ok (.iaload, 1) := by decide +kernel
theorem dX5_villageTold_164 : decode cX5_villageTold 164 = .ok (.iastore, 1) := by decide +kernel
theorem dX5_villageTold_165 : decode cX5_villageTold 165 = .ok (.astore 4, 2) := by decide +kernel
theorem dX5_villageTold_167 : decode cX5_villageTold 167 = .ok (.aload 4, 2) := by decide +kernel
theorem dX5_villageTold_169 : decode cX5_villageTold 169 = .ok (.iload_n 2, 1) := by decide +kernel
theorem dX5_villageTold_170 : decode cX5_villageTold 170 = .ok (.iaload, 1) := by decide +kernel
theorem dX5_villageTold_171 : decode cX5_villageTold 171 = .ok (.ireturn, 1) := by decide +kernel
set_option maxRecDepth 20000 in
theorem ggX5_village_X5_isVillage : GoodIn wsX5_village wsX5_isVillage := goodIn_r _ [6, 7, 8, 9, 5, 10, 32, 33, 34, 35, 36, 37, 38, 39, 40, 41, 42, 43] (by decide +kernel) (by decide +kernel)
set_option maxRecDepth 20000 in
theorem gX5_village_X5_isVillage : GoodIn wsX5_village (wsV RX5 75 RX5 yX5_isVillage wsX5_isVillage) := goodIn_app (goodIn_of _ (by decide +kernel)) ggX5_village_X5_isVillage
set_option maxRecDepth 20000 in
theorem ggX5_village_X5_isIn : GoodIn wsX5_village wsX5_isIn := goodIn_r _ [10] (by decide +kernel) (by decide +kernel)
set_option maxRecDepth 20000 in
theorem gX5_village_X5_isIn : GoodIn wsX5_village (va_wsS RX5 53 yX5_isIn wsX5_isIn) := goodIn_app (goodIn_of _ (by decide +kernel)) ggX5_village_X5_isIn
set_option maxRecDepth 20000 in
theorem ggX5_village_X5_villageTold : GoodIn wsX5_village wsX5_villageTold := goodIn_r _ [14, 15, 16, 17, 18, 19, 20, 21, 22, 23, 24, 25, 26, 27, 32, 33, 34, 35, 36, 37, 38, 39, 40, 41, 42, 43, 44, 45, 46, 47, 48, 49, 50, 51, 52, 53, 54, 55, 56, 57, 58, 59] (by decide +kernel) (by decide +kernel)
set_option maxRecDepth 20000 in
theorem gX5_village_X5_villageTold : GoodIn wsX5_village (wsV RX5 102 RX5 yX5_villageTold wsX5_villageTold) := goodIn_app (goodIn_of _ (by decide +kernel)) ggX5_village_X5_villageTold
set_option maxRecDepth 20000 in
theorem ggX5_village_X5_no : GoodIn wsX5_village wsX5_no := goodIn_r _ [31, 1, 32, 33, 34, 35, 36, 37, 38, 39, 40, 41, 42, 43] (by decide +kernel) (by decide +kernel)
set_option maxRecDepth 20000 in
theorem gX5_village_X5_no : GoodIn wsX5_village (wsV RX5 66 RX5 yX5_no wsX5_no) := goodIn_app (goodIn_of _ (by decide +kernel)) ggX5_village_X5_no
theorem dX5_village_0 : decode cX5_village 0 = .ok (.aload_n 0, 1) := by decide +kernel
theorem dX5_village_1 : decode cX5_village 1 = .ok (.iconst 0, 1) := by decide +kernel
theorem dX5_village_2 : decode cX5_village 2 = .ok (.putfield 46, 3) := by decide +kernel
theorem dX5_village_5 : decode cX5_village 5 = .ok (.aload_n 0, 1) := by decide +kernel
theorem dX5_village_6 : decode cX5_village 6 = .ok (.iload_n 1, 1) := by decide +kernel
theorem dX5_village_7 : decode cX5_village 7 = .ok (.invokevirtual 75, 3) := by decide +kernel
theorem dX5_village_10 : decode cX5_village 10 = .ok (.ifCond .eq 22, 3) := by decide +kernel
theorem dX5_village_13 : decode cX5_village 13 = .ok (.iload_n 2, 1) := by decide +kernel
theorem dX5_village_14 : decode cX5_village 14 = .ok (.iconst 0, 1) := by decide +kernel
theorem dX5_village_15 : decode cX5_village 15 = .ok (.bipush 9, 2) := by decide +kernel
theorem dX5_village_17 : decode cX5_village 17 = .ok (.invokestatic 53, 3) := by decide +kernel
theorem dX5_village_20 : decode cX5_village 20 = .ok (.ifCond .eq 12, 3) := by decide +kernel
theorem dX5_village_23 : decode cX5_village 23 = .ok (.aload_n 0, 1) := by decide +kernel
theorem dX5_village_24 : decode cX5_village 24 = .ok (.iload_n 1, 1) := by decide +kernel
theorem dX5_village_25 : decode cX5_village 25 = .ok (.iload_n 2, 1) := by decide +kernel
theorem dX5_village_26 : decode cX5_village 26 = .ok (.invokevirtual 102, 3) := by decide +kernel
theorem dX5_village_29 : decode cX5_village 29 = .ok (.goto 8, 3) := by decide +kernel
theorem dX5_village_32 : decode cX5_village 32 = .ok (.aload_n 0, 1) := by decide +kernel
theorem dX5_village_33 : decode cX5_village 33 = .ok (.iconst 1, 1) := by decide +kernel
theorem dX5_village_34 : decode cX5_village 34 = .ok (.invokevirtual 66, 3) := by decide +kernel
theorem dX5_village_37 : decode cX5_village 37 = .ok (.ireturn, 1) := by decide +kernel
set_option maxRecDepth 20000 in
theorem ggX5_queue_X5_isVillage : GoodIn wsX5_queue wsX5_isVillage := goodIn_r _ [7, 8, 9, 10, 6, 11, 16, 17, 18, 19, 20, 21, 22, 23, 24, 25, 26, 27] (by decide +kernel) (by decide +kernel)
set_option maxRecDepth 20000 in
theorem gX5_queue_X5_isVillage : GoodIn wsX5_queue (wsV RX5 75 RX5 yX5_isVillage wsX5_isVillage) := goodIn_app (goodIn_of _ (by decide +kernel)) ggX5_queue_X5_isVillage
set_option maxRecDepth 20000 in
theorem ggX5_queue_X5_isIn : GoodIn wsX5_queue wsX5_isIn := goodIn_r _ [11] (by decide +kernel) (by decide +kernel)
set_option maxRecDepth 20000 in
theorem gX5_queue_X5_isIn : GoodIn wsX5_queue (va_wsS RX5 53 yX5_isIn wsX5_isIn) := goodIn_app (goodIn_of _ (by decide +kernel)) ggX5_queue_X5_isIn
set_option maxRecDepth 20000 in
theorem ggX5_queue_X5_no : GoodIn wsX5_queue wsX5_no := goodIn_r _ [15, 1, 16, 17, 18, 19, 20, 21, 22, 23, 24, 25, 26, 27] (by decide +kernel) (by decide +kernel)
set_option maxRecDepth 20000 in
theorem gX5_queue_X5_no : GoodIn wsX5_queue (wsV RX5 66 RX5 yX5_no wsX5_no) := goodIn_app (goodIn_of _ (by decide +kernel)) ggX5_queue_X5_no
theorem dX5_queue_0 : decode cX5_queue 0 = .ok (.aload_n 0, 1) := by decide +kernel
theorem dX5_queue_1 : decode cX5_queue 1 = .ok (.iconst 0, 1) := by decide +kernel
theorem dX5_queue_2 : decode cX5_queue 2 = .ok (.putfield 46, 3) := by decide +kernel
theorem dX5_queue_5 : decode cX5_queue 5 = .ok (.aload_n 0, 1) := by decide +kernel
theorem dX5_queue_6 : decode cX5_queue 6 = .ok (.iload_n 1, 1) := by decide +kernel
theorem dX5_queue_7 : decode cX5_queue 7 = .ok (.invokevirtual 75, 3) := by decide +kernel
theorem dX5_queue_10 : decode cX5_queue 10 = .ok (.ifCond .eq 38, 3) := by decide +kernel
theorem dX5_queue_13 : decode cX5_queue 13 = .ok (.iload_n 2, 1) := by decide +kernel
theorem dX5_queue_14 : decode cX5_queue 14 = .ok (.iconst 0, 1) := by decide +kernel
theorem dX5_queue_15 : decode cX5_queue 15 = .ok (.aload_n 0, 1) := by decide +kernel
theorem dX5_queue_16 : decode cX5_queue 16 = .ok (.getfield 36, 3) := by decide +kernel
theorem dX5_queue_19 : decode cX5_queue 19 = .ok (.getfield 82, 3) := by decide +kernel
theorem dX5_queue_22 : decode cX5_queue 22 = .ok (.iload_n 1, 1) := by decide +kernel
theorem dX5_queue_23 : decode cX5_queue 23 = .ok (.iaload, 1) := by decide +kernel
theorem dX5_queue_24 : decode cX5_queue 24 = .ok (.iconst 1, 1) := by decide +kernel
theorem dX5_queue_25 : decode cX5_queue 25 = .ok (.isub, 1) := by decide +kernel
theorem dX5_queue_26 : decode cX5_queue 26 = .ok (.invokestatic 53, 3) := by decide +kernel
theorem dX5_queue_29 : decode cX5_queue 29 = .ok (.ifCond .eq 19, 3) := by decide +kernel
theorem dX5_queue_32 : decode cX5_queue 32 = .ok (.aload_n 0, 1) := by decide +kernel
theorem dX5_queue_33 : decode cX5_queue 33 = .ok (.getfield 36, 3) := by decide +kernel
theorem dX5_queue_36 : decode cX5_queue 36 = .ok (.getfield 106, 3) := by decide +kernel
theorem dX5_queue_39 : decode cX5_queue 39 = .ok (.iconst 5, 1) := by decide +kernel
theorem dX5_queue_40 : decode cX5_queue 40 = .ok (.iload_n 1, 1) := by decide +kernel
theorem dX5_queue_41 : decode cX5_queue 41 = .ok (.imul, 1) := by decide +kernel
theorem dX5_queue_42 : decode cX5_queue 42 = .ok (.iload_n 2, 1) := by decide +kernel
theorem dX5_queue_43 : decode cX5_queue 43 = .ok (.iadd, 1) := by decide +kernel
theorem dX5_queue_44 : decode cX5_queue 44 = .ok (.iaload, 1) := by decide +kernel
theorem dX5_queue_45 : decode cX5_queue 45 = .ok (.goto 8, 3) := by decide +kernel
theorem dX5_queue_48 : decode cX5_queue 48 = .ok (.aload_n 0, 1) := by decide +kernel
theorem dX5_queue_49 : decode cX5_queue 49 = .ok (.iconst 1, 1) := by decide +kernel
theorem dX5_queue_50 : decode cX5_queue 50 = .ok (.invokevirtual 66, 3) := by decide +kernel
theorem dX5_queue_53 : decode cX5_queue 53 = .ok (.ireturn, 1) := by decide +kernel
set_option maxRecDepth 20000 in
theorem ggX5_knows_X5_isVillage : GoodIn wsX5_knows wsX5_isVillage := goodIn_r _ [7, 8, 9, 10, 6, 11, 21, 22, 23, 24, 25, 26, 27, 28, 29, 30, 31, 32] (by decide +kernel) (by decide +kernel)
set_option maxRecDepth 20000 in
theorem gX5_knows_X5_isVillage : GoodIn wsX5_knows (wsV RX5 75 RX5 yX5_isVillage wsX5_isVillage) := goodIn_app (goodIn_of _ (by decide +kernel)) ggX5_knows_X5_isVillage
set_option maxRecDepth 20000 in
theorem ggX5_knows_X5_isPhrase : GoodIn wsX5_knows wsX5_isPhrase := goodIn_r _ [15, 16, 9, 10, 6, 11, 21, 22, 23, 24, 25, 26, 27, 28, 29, 30, 31, 32] (by decide +kernel) (by decide +kernel)
set_option maxRecDepth 20000 in
theorem gX5_knows_X5_isPhrase : GoodIn wsX5_knows (wsV RX5 79 RX5 yX5_isPhrase wsX5_isPhrase) := goodIn_app (goodIn_of _ (by decide +kernel)) ggX5_knows_X5_isPhrase
set_option maxRecDepth 20000 in
theorem ggX5_knows_X5_no : GoodIn wsX5_knows wsX5_no := goodIn_r _ [20, 1, 21, 22, 23, 24, 25, 26, 27, 28, 29, 30, 31, 32] (by decide +kernel) (by decide +kernel)
set_option maxRecDepth 20000 in
theorem gX5_knows_X5_no : GoodIn wsX5_knows (wsV RX5 66 RX5 yX5_no wsX5_no) := goodIn_app (goodIn_of _ (by decide +kernel)) ggX5_knows_X5_no
theorem dX5_knows_0 : decode cX5_knows 0 = .ok (.aload_n 0, 1) := by decide +kernel
theorem dX5_knows_1 : decode cX5_knows 1 = .ok (.iconst 0, 1) := by decide +kernel
theorem dX5_knows_2 : decode cX5_knows 2 = .ok (.putfield 46, 3) := by decide +kernel
theorem dX5_knows_5 : decode cX5_knows 5 = .ok (.aload_n 0, 1) := by decide +kernel
theorem dX5_knows_6 : decode cX5_knows 6 = .ok (.iload_n 1, 1) := by decide +kernel
theorem dX5_knows_7 : decode cX5_knows 7 = .ok (.invokevirtual 75, 3) := by decide +kernel
theorem dX5_knows_10 : decode cX5_knows 10 = .ok (.ifCond .eq 28, 3) := by decide +kernel
theorem dX5_knows_13 : decode cX5_knows 13 = .ok (.aload_n 0, 1) := by decide +kernel
theorem dX5_knows_14 : decode cX5_knows 14 = .ok (.iload_n 2, 1) := by decide +kernel
theorem dX5_knows_15 : decode cX5_knows 15 = .ok (.invokevirtual 79, 3) := by decide +kernel
theorem dX5_knows_18 : decode cX5_knows 18 = .ok (.ifCond .eq 20, 3) := by decide +kernel
theorem dX5_knows_21 : decode cX5_knows 21 = .ok (.aload_n 0, 1) := by decide +kernel
theorem dX5_knows_22 : decode cX5_knows 22 = .ok (.getfield 36, 3) := by decide +kernel
theorem dX5_knows_25 : decode cX5_knows 25 = .ok (.getfield 43, 3) := by decide +kernel
theorem dX5_knows_28 : decode cX5_knows 28 = .ok (.bipush 12, 2) := by decide +kernel
theorem dX5_knows_30 : decode cX5_knows 30 = .ok (.iload_n 1, 1) := by decide +kernel
theorem dX5_knows_31 : decode cX5_knows 31 = .ok (.imul, 1) := by decide +kernel
theorem dX5_knows_32 : decode cX5_knows 32 = .ok (.iload_n 2, 1) := by decide +kernel
theorem dX5_knows_33 : decode cX5_knows 33 = .ok (.iadd, 1) := by decide +kernel
theorem dX5_knows_34 : decode cX5_knows 34 = .ok (.iaload, 1) := by decide +kernel
theorem dX5_knows_35 : decode cX5_knows 35 = .ok (.goto 8, 3) := by decide +kernel
theorem dX5_knows_38 : decode cX5_knows 38 = .ok (.aload_n 0, 1) := by decide +kernel
theorem dX5_knows_39 : decode cX5_knows 39 = .ok (.iconst 1, 1) := by decide +kernel
theorem dX5_knows_40 : decode cX5_knows 40 = .ok (.invokevirtual 66, 3) := by decide +kernel
theorem dX5_knows_43 : decode cX5_knows 43 = .ok (.ireturn, 1) := by decide +kernel
set_option maxRecDepth 20000 in
theorem ggX5_sounds_X5_isVillage : GoodIn wsX5_sounds wsX5_isVillage := goodIn_r _ [7, 8, 9, 10, 6, 11, 26, 27, 28, 29, 30, 31, 32, 33, 34, 35, 36, 37] (by decide +kernel) (by decide +kernel)
set_option maxRecDepth 20000 in
theorem gX5_sounds_X5_isVillage : GoodIn wsX5_sounds (wsV RX5 75 RX5 yX5_isVillage wsX5_isVillage) := goodIn_app (goodIn_of _ (by decide +kernel)) ggX5_sounds_X5_isVillage
set_option maxRecDepth 20000 in
theorem ggX5_sounds_X4_lasting : GoodIn wsX5_sounds wsX4_lasting := goodIn_r _ [16, 17, 18, 19, 20, 21, 38, 39, 40, 41, 42, 43, 44, 45, 46, 47, 48, 49, 50, 51, 52, 53] (by decide +kernel) (by decide +kernel)
set_option maxRecDepth 20000 in
theorem gX5_sounds_X4_lasting : GoodIn wsX5_sounds (wsV RX5 109 RX4 yX4_lasting wsX4_lasting) := goodIn_app (goodIn_of _ (by decide +kernel)) ggX5_sounds_X4_lasting
set_option maxRecDepth 20000 in
theorem ggX5_sounds_X5_no : GoodIn wsX5_sounds wsX5_no := goodIn_r _ [25, 1, 26, 27, 28, 29, 30, 31, 32, 33, 34, 35, 36, 37] (by decide +kernel) (by decide +kernel)
set_option maxRecDepth 20000 in
theorem gX5_sounds_X5_no : GoodIn wsX5_sounds (wsV RX5 66 RX5 yX5_no wsX5_no) := goodIn_app (goodIn_of _ (by decide +kernel)) ggX5_sounds_X5_no
theorem dX5_sounds_0 : decode cX5_sounds 0 = .ok (.aload_n 0, 1) := by decide +kernel
theorem dX5_sounds_1 : decode cX5_sounds 1 = .ok (.iconst 0, 1) := by decide +kernel
theorem dX5_sounds_2 : decode cX5_sounds 2 = .ok (.putfield 46, 3) := by decide +kernel
theorem dX5_sounds_5 : decode cX5_sounds 5 = .ok (.aload_n 0, 1) := by decide +kernel
theorem dX5_sounds_6 : decode cX5_sounds 6 = .ok (.iload_n 1, 1) := by decide +kernel
theorem dX5_sounds_7 : decode cX5_sounds 7 = .ok (.invokevirtual 75, 3) := by decide +kernel
theorem dX5_sounds_10 : decode cX5_sounds 10 = .ok (.ifCond .eq 14, 3) := by decide +kernel
theorem dX5_sounds_13 : decode cX5_sounds 13 = .ok (.aload_n 0, 1) := by decide +kernel
theorem dX5_sounds_14 : decode cX5_sounds 14 = .ok (.getfield 36, 3) := by decide +kernel
theorem dX5_sounds_17 : decode cX5_sounds 17 = .ok (.iload_n 1, 1) := by decide +kernel
theorem dX5_sounds_18 : decode cX5_sounds 18 = .ok (.invokevirtual 109, 3) := by decide +kernel
theorem dX5_sounds_21 : decode cX5_sounds 21 = .ok (.goto 8, 3) := by decide +kernel
theorem dX5_sounds_24 : decode cX5_sounds 24 = .ok (.aload_n 0, 1) := by decide +kernel
theorem dX5_sounds_25 : decode cX5_sounds 25 = .ok (.iconst 1, 1) := by decide +kernel
theorem dX5_sounds_26 : decode cX5_sounds 26 = .ok (.invokevirtual 66, 3) := by decide +kernel
theorem dX5_sounds_29 : decode cX5_sounds 29 = .ok (.ireturn, 1) := by decide +kernel
set_option maxRecDepth 20000 in
theorem ggX5_counted_X4_pairs : GoodIn wsX5_counted wsX4_pairs := goodIn_r _ [9, 10, 11, 12, 13, 8, 14, 15, 28, 29, 30, 31, 32, 33, 34, 35, 36, 37, 38, 39, 40, 41, 42, 43, 16, 17, 18, 19, 20, 21, 22, 23, 24, 25, 26, 27] (by decide +kernel) (by decide +kernel)
set_option maxRecDepth 20000 in
theorem gX5_counted_X4_pairs : GoodIn wsX5_counted (wsV RX5 121 RX4 yX4_pairs wsX4_pairs) := goodIn_app (goodIn_of _ (by decide +kernel)) ggX5_counted_X4_pairs
theorem dX5_counted_0 : decode cX5_counted 0 = .ok (.iconst 0, 1) := by decide +kernel
theorem dX5_counted_1 : decode cX5_counted 1 = .ok (.istore_n 2, 1) := by decide +kernel
theorem dX5_counted_2 : decode cX5_counted 2 = .ok (.iconst 0, 1) := by decide +kernel
theorem dX5_counted_3 : decode cX5_counted 3 = .ok (.istore_n 3, 1) := by decide +kernel
theorem dX5_counted_4 : decode cX5_counted 4 = .ok (.iconst 0, 1) := by decide +kernel
theorem dX5_counted_5 : decode cX5_counted 5 = .ok (.istore 4, 2) := by decide +kernel
theorem dX5_counted_7 : decode cX5_counted 7 = .ok (.iload 4, 2) := by decide +kernel
theorem dX5_counted_9 : decode cX5_counted 9 = .ok (.aload_n 0, 1) := by decide +kernel
theorem dX5_counted_10 : decode cX5_counted 10 = .ok (.getfield 50, 3) := by decide +kernel
theorem dX5_counted_13 : decode cX5_counted 13 = .ok (.if_icmp .ge 44, 3) := by decide +kernel
theorem dX5_counted_16 : decode cX5_counted 16 = .ok (.iload_n 2, 1) := by decide +kernel
theorem dX5_counted_17 : decode cX5_counted 17 = .ok (.aload_n 0, 1) := by decide +kernel
theorem dX5_counted_18 : decode cX5_counted 18 = .ok (.getfield 36, 3) := by decide +kernel
theorem dX5_counted_21 : decode cX5_counted 21 = .ok (.getfield 72, 3) := by decide +kernel
theorem dX5_counted_24 : decode cX5_counted 24 = .ok (.iload 4, 2) := by decide +kernel
theorem dX5_counted_26 : decode cX5_counted 26 = .ok (.iaload, 1) := by decide +kernel
theorem dX5_counted_27 : decode cX5_counted 27 = .ok (.iconst (-1), 1) := by decide +kernel
theorem dX5_counted_28 : decode cX5_counted 28 = .ok (.if_icmp .ne 7, 3) := by decide +kernel
theorem dX5_counted_31 : decode cX5_counted 31 = .ok (.iconst 0, 1) := by decide +kernel
theorem dX5_counted_32 : decode cX5_counted 32 = .ok (.goto 4, 3) := by decide +kernel
theorem dX5_counted_35 : decode cX5_counted 35 = .ok (.iconst 1, 1) := by decide +kernel
theorem dX5_counted_36 : decode cX5_counted 36 = .ok (.iadd, 1) := by decide +kernel
theorem dX5_counted_37 : decode cX5_counted 37 = .ok (.istore_n 2, 1) := by decide +kernel
theorem dX5_counted_38 : decode cX5_counted 38 = .ok (.iload_n 3, 1) := by decide +kernel
theorem dX5_counted_39 : decode cX5_counted 39 = .ok (.aload_n 0, 1) := by decide +kernel
theorem dX5_counted_40 : decode cX5_counted 40 = .ok (.getfield 36, 3) := by decide +kernel
theorem dX5_counted_43 : decode cX5_counted 43 = .ok (.getfield 99, 3) := by decide +kernel
theorem dX5_counted_46 : decode cX5_counted 46 = .ok (.iload 4, 2) := by decide +kernel
theorem dX5_counted_48 : decode cX5_counted 48 = .ok (.iaload, 1) := by decide +kernel
theorem dX5_counted_49 : decode cX5_counted 49 = .ok (.iadd, 1) := by decide +kernel
theorem dX5_counted_50 : decode cX5_counted 50 = .ok (.istore_n 3, 1) := by decide +kernel
theorem dX5_counted_51 : decode cX5_counted 51 = .ok (.iinc 4 1, 3) := by decide +kernel
theorem dX5_counted_54 : decode cX5_counted 54 = .ok (.goto (-47), 3) := by decide +kernel
theorem dX5_counted_57 : decode cX5_counted 57 = .ok (.bipush 8, 2) := by decide +kernel
theorem dX5_counted_59 : decode cX5_counted 59 = .ok (.newarray .int, 2) := by decide +kernel
theorem dX5_counted_61 : decode cX5_counted 61 = .ok (.dup, 1) := by decide +kernel
theorem dX5_counted_62 : decode cX5_counted 62 = .ok (.iconst 0, 1) := by decide +kernel
theorem dX5_counted_63 : decode cX5_counted 63 = .ok (.aload_n 0, 1) := by decide +kernel
theorem dX5_counted_64 : decode cX5_counted 64 = .ok (.getfield 36, 3) := by decide +kernel
theorem dX5_counted_67 : decode cX5_counted 67 = .ok (.getfield 112, 3) := by decide +kernel
theorem dX5_counted_70 : decode cX5_counted 70 = .ok (.iastore, 1) := by decide +kernel
theorem dX5_counted_71 : decode cX5_counted 71 = .ok (.dup, 1) := by decide +kernel
theorem dX5_counted_72 : decode cX5_counted 72 = .ok (.iconst 1, 1) := by decide +kernel
theorem dX5_counted_73 : decode cX5_counted 73 = .ok (.aload_n 0, 1) := by decide +kernel
theorem dX5_counted_74 : decode cX5_counted 74 = .ok (.getfield 50, 3) := by decide +kernel
theorem dX5_counted_77 : decode cX5_counted 77 = .ok (.iastore, 1) := by decide +kernel
theorem dX5_counted_78 : decode cX5_counted 78 = .ok (.dup, 1) := by decide +kernel
theorem dX5_counted_79 : decode cX5_counted 79 = .ok (.iconst 2, 1) := by decide +kernel
theorem dX5_counted_80 : decode cX5_counted 80 = .ok (.aload_n 0, 1) := by decide +kernel
theorem dX5_counted_81 : decode cX5_counted 81 = .ok (.getfield 57, 3) := by decide +kernel
theorem dX5_counted_84 : decode cX5_counted 84 = .ok (.iastore, 1) := by decide +kernel
theorem dX5_counted_85 : decode cX5_counted 85 = .ok (.dup, 1) := by decide +kernel
theorem dX5_counted_86 : decode cX5_counted 86 = .ok (.iconst 3, 1) := by decide +kernel
theorem dX5_counted_87 : decode cX5_counted 87 = .ok (.iload_n 2, 1) := by decide +kernel
theorem dX5_counted_88 : decode cX5_counted 88 = .ok (.iastore, 1) := by decide +kernel
theorem dX5_counted_89 : decode cX5_counted 89 = .ok (.dup, 1) := by decide +kernel
theorem dX5_counted_90 : decode cX5_counted 90 = .ok (.iconst 4, 1) := by decide +kernel
theorem dX5_counted_91 : decode cX5_counted 91 = .ok (.aload_n 0, 1) := by decide +kernel
theorem dX5_counted_92 : decode cX5_counted 92 = .ok (.getfield 36, 3) := by decide +kernel
theorem dX5_counted_95 : decode cX5_counted 95 = .ok (.getfield 115, 3) := by decide +kernel
theorem dX5_counted_98 : decode cX5_counted 98 = .ok (.iastore, 1) := by decide +kernel
theorem dX5_counted_99 : decode cX5_counted 99 = .ok (.dup, 1) := by decide +kernel
theorem dX5_counted_100 : decode cX5_counted 100 = .ok (.iconst 5, 1) := by decide +kernel
theorem dX5_counted_101 : decode cX5_counted 101 = .ok (.aload_n 0, 1) := by decide +kernel
theorem dX5_counted_102 : decode cX5_counted 102 = .ok (.getfield 36, 3) := by decide +kernel
theorem dX5_counted_105 : decode cX5_counted 105 = .ok (.getfield 118, 3) := by decide +kernel
theorem dX5_counted_108 : decode cX5_counted 108 = .ok (.iastore, 1) := by decide +kernel
theorem dX5_counted_109 : decode cX5_counted 109 = .ok (.dup, 1) := by decide +kernel
theorem dX5_counted_110 : decode cX5_counted 110 = .ok (.bipush 6, 2) := by decide +kernel
theorem dX5_counted_112 : decode cX5_counted 112 = .ok (.iload_n 3, 1) := by decide +kernel
theorem dX5_counted_113 : decode cX5_counted 113 = .ok (.iastore, 1) := by decide +kernel
theorem dX5_counted_114 : decode cX5_counted 114 = .ok (.dup, 1) := by decide +kernel
theorem dX5_counted_115 : decode cX5_counted 115 = .ok (.bipush 7, 2) := by decide +kernel
theorem dX5_counted_117 : decode cX5_counted 117 = .ok (.aload_n 0, 1) := by decide +kernel
theorem dX5_counted_118 : decode cX5_counted 118 = .ok (.getfield 36, 3) := by decide +kernel
theorem dX5_counted_121 : decode cX5_counted 121 = .ok (.invokevirtual 121, 3) := by decide +kernel
theorem dX5_counted_124 : decode cX5_counted 124 = .ok (.iastore, 1) := by decide +kernel
theorem dX5_counted_125 : decode cX5_counted 125 = .ok (.astore 4, 2) := by decide +kernel
theorem dX5_counted_127 : decode cX5_counted 127 = .ok (.aload 4, 2) := by decide +kernel
theorem dX5_counted_129 : decode cX5_counted 129 = .ok (.iload_n 1, 1) := by decide +kernel
theorem dX5_counted_130 : decode cX5_counted 130 = .ok (.iaload, 1) := by decide +kernel
theorem dX5_counted_131 : decode cX5_counted 131 = .ok (.ireturn, 1) := by decide +kernel
set_option maxRecDepth 20000 in
theorem ggX5_count_X5_isIn : GoodIn wsX5_count wsX5_isIn := goodIn_r _ [5] (by decide +kernel) (by decide +kernel)
set_option maxRecDepth 20000 in
theorem gX5_count_X5_isIn : GoodIn wsX5_count (va_wsS RX5 53 yX5_isIn wsX5_isIn) := goodIn_app (goodIn_of _ (by decide +kernel)) ggX5_count_X5_isIn
set_option maxRecDepth 20000 in
theorem ggX5_count_X5_counted : GoodIn wsX5_count wsX5_counted := goodIn_r _ [9, 10, 11, 12, 13, 14, 15, 16, 17, 18, 19, 20, 21, 22, 23, 24, 29, 30, 31, 32, 33, 34, 35, 36, 37, 38, 39, 40, 41, 42, 43, 44, 45, 46, 47, 48, 49, 50, 51, 52, 53, 54, 55, 56] (by decide +kernel) (by decide +kernel)
set_option maxRecDepth 20000 in
theorem gX5_count_X5_counted : GoodIn wsX5_count (wsV RX5 125 RX5 yX5_counted wsX5_counted) := goodIn_app (goodIn_of _ (by decide +kernel)) ggX5_count_X5_counted
set_option maxRecDepth 20000 in
theorem ggX5_count_X5_no : GoodIn wsX5_count wsX5_no := goodIn_r _ [28, 1, 29, 30, 31, 32, 33, 34, 35, 36, 37, 38, 39, 40] (by decide +kernel) (by decide +kernel)
set_option maxRecDepth 20000 in
theorem gX5_count_X5_no : GoodIn wsX5_count (wsV RX5 66 RX5 yX5_no wsX5_no) := goodIn_app (goodIn_of _ (by decide +kernel)) ggX5_count_X5_no
theorem dX5_count_0 : decode cX5_count 0 = .ok (.aload_n 0, 1) := by decide +kernel
theorem dX5_count_1 : decode cX5_count 1 = .ok (.iconst 0, 1) := by decide +kernel
theorem dX5_count_2 : decode cX5_count 2 = .ok (.putfield 46, 3) := by decide +kernel
theorem dX5_count_5 : decode cX5_count 5 = .ok (.iload_n 1, 1) := by decide +kernel
theorem dX5_count_6 : decode cX5_count 6 = .ok (.iconst 0, 1) := by decide +kernel
theorem dX5_count_7 : decode cX5_count 7 = .ok (.bipush 7, 2) := by decide +kernel
theorem dX5_count_9 : decode cX5_count 9 = .ok (.invokestatic 53, 3) := by decide +kernel
theorem dX5_count_12 : decode cX5_count 12 = .ok (.ifCond .eq 11, 3) := by decide +kernel
theorem dX5_count_15 : decode cX5_count 15 = .ok (.aload_n 0, 1) := by decide +kernel
theorem dX5_count_16 : decode cX5_count 16 = .ok (.iload_n 1, 1) := by decide +kernel
theorem dX5_count_17 : decode cX5_count 17 = .ok (.invokevirtual 125, 3) := by decide +kernel
theorem dX5_count_20 : decode cX5_count 20 = .ok (.goto 8, 3) := by decide +kernel
theorem dX5_count_23 : decode cX5_count 23 = .ok (.aload_n 0, 1) := by decide +kernel
theorem dX5_count_24 : decode cX5_count 24 = .ok (.iconst 1, 1) := by decide +kernel
theorem dX5_count_25 : decode cX5_count 25 = .ok (.invokevirtual 66, 3) := by decide +kernel
theorem dX5_count_28 : decode cX5_count 28 = .ok (.ireturn, 1) := by decide +kernel
set_option maxRecDepth 20000 in
theorem ggX5_way_X5_isVillage : GoodIn wsX5_way wsX5_isVillage := goodIn_r _ [8, 2, 9, 10, 7, 11, 32, 33, 34, 35, 36, 37, 38, 39, 40, 41, 42, 43] (by decide +kernel) (by decide +kernel)
set_option maxRecDepth 20000 in
theorem gX5_way_X5_isVillage : GoodIn wsX5_way (wsV RX5 75 RX5 yX5_isVillage wsX5_isVillage) := goodIn_app (goodIn_of _ (by decide +kernel)) ggX5_way_X5_isVillage
set_option maxRecDepth 20000 in
theorem ggX5_way_X5_no : GoodIn wsX5_way wsX5_no := goodIn_r _ [15, 1, 32, 33, 34, 35, 36, 37, 38, 39, 40, 41, 42, 43] (by decide +kernel) (by decide +kernel)
set_option maxRecDepth 20000 in
theorem gX5_way_X5_no : GoodIn wsX5_way (wsV RX5 66 RX5 yX5_no wsX5_no) := goodIn_app (goodIn_of _ (by decide +kernel)) ggX5_way_X5_no
set_option maxRecDepth 20000 in
theorem ggX5_way_X4_hears : GoodIn wsX5_way wsX4_hears := goodIn_r _ [20, 21, 22, 23, 7, 24, 25, 26, 27, 28, 29, 30, 31, 44, 45, 46, 47, 48, 49, 50, 51, 52, 53, 54, 55, 56, 57, 58, 59, 32, 33, 34, 35, 36, 37, 38, 39, 40, 41, 42, 43] (by decide +kernel) (by decide +kernel)
set_option maxRecDepth 20000 in
theorem gX5_way_X4_hears : GoodIn wsX5_way (wsV RX5 128 RX4 yX4_hears wsX4_hears) := goodIn_app (goodIn_of _ (by decide +kernel)) ggX5_way_X4_hears
theorem dX5_way_0 : decode cX5_way 0 = .ok (.aload_n 0, 1) := by decide +kernel
theorem dX5_way_1 : decode cX5_way 1 = .ok (.iconst 0, 1) := by decide +kernel
theorem dX5_way_2 : decode cX5_way 2 = .ok (.putfield 46, 3) := by decide +kernel
theorem dX5_way_5 : decode cX5_way 5 = .ok (.aload_n 0, 1) := by decide +kernel
theorem dX5_way_6 : decode cX5_way 6 = .ok (.iload_n 1, 1) := by decide +kernel
theorem dX5_way_7 : decode cX5_way 7 = .ok (.invokevirtual 75, 3) := by decide +kernel
theorem dX5_way_10 : decode cX5_way 10 = .ok (.ifCond .eq 11, 3) := by decide +kernel
theorem dX5_way_13 : decode cX5_way 13 = .ok (.aload_n 0, 1) := by decide +kernel
theorem dX5_way_14 : decode cX5_way 14 = .ok (.iload_n 2, 1) := by decide +kernel
theorem dX5_way_15 : decode cX5_way 15 = .ok (.invokevirtual 75, 3) := by decide +kernel
theorem dX5_way_18 : decode cX5_way 18 = .ok (.ifCond .ne 9, 3) := by decide +kernel
theorem dX5_way_21 : decode cX5_way 21 = .ok (.aload_n 0, 1) := by decide +kernel
theorem dX5_way_22 : decode cX5_way 22 = .ok (.iconst 1, 1) := by decide +kernel
theorem dX5_way_23 : decode cX5_way 23 = .ok (.invokevirtual 66, 3) := by decide +kernel
theorem dX5_way_26 : decode cX5_way 26 = .ok (.ireturn, 1) := by decide +kernel
theorem dX5_way_27 : decode cX5_way 27 = .ok (.iconst 1, 1) := by decide +kernel
theorem dX5_way_28 : decode cX5_way 28 = .ok (.iload_n 1, 1) := by decide +kernel
theorem dX5_way_29 : decode cX5_way 29 = .ok (.ishl, 1) := by decide +kernel
theorem dX5_way_30 : decode cX5_way 30 = .ok (.istore_n 3, 1) := by decide +kernel
theorem dX5_way_31 : decode cX5_way 31 = .ok (.iconst 0, 1) := by decide +kernel
theorem dX5_way_32 : decode cX5_way 32 = .ok (.istore 4, 2) := by decide +kernel
theorem dX5_way_34 : decode cX5_way 34 = .ok (.iload 4, 2) := by decide +kernel
theorem dX5_way_36 : decode cX5_way 36 = .ok (.aload_n 0, 1) := by decide +kernel
theorem dX5_way_37 : decode cX5_way 37 = .ok (.getfield 50, 3) := by decide +kernel
theorem dX5_way_40 : decode cX5_way 40 = .ok (.if_icmp .ge 96, 3) := by decide +kernel
theorem dX5_way_43 : decode cX5_way 43 = .ok (.iload_n 3, 1) := by decide +kernel
theorem dX5_way_44 : decode cX5_way 44 = .ok (.iload_n 2, 1) := by decide +kernel
theorem dX5_way_45 : decode cX5_way 45 = .ok (.ishr, 1) := by decide +kernel
theorem dX5_way_46 : decode cX5_way 46 = .ok (.iconst 1, 1) := by decide +kernel
theorem dX5_way_47 : decode cX5_way 47 = .ok (.iand, 1) := by decide +kernel
theorem dX5_way_48 : decode cX5_way 48 = .ok (.iconst 1, 1) := by decide +kernel
theorem dX5_way_49 : decode cX5_way 49 = .ok (.if_icmp .ne 6, 3) := by decide +kernel
theorem dX5_way_52 : decode cX5_way 52 = .ok (.iload 4, 2) := by decide +kernel
theorem dX5_way_54 : decode cX5_way 54 = .ok (.ireturn, 1) := by decide +kernel
theorem dX5_way_55 : decode cX5_way 55 = .ok (.iload_n 3, 1) := by decide +kernel
theorem dX5_way_56 : decode cX5_way 56 = .ok (.istore 5, 2) := by decide +kernel
theorem dX5_way_58 : decode cX5_way 58 = .ok (.iconst 0, 1) := by decide +kernel
theorem dX5_way_59 : decode cX5_way 59 = .ok (.istore 6, 2) := by decide +kernel
theorem dX5_way_61 : decode cX5_way 61 = .ok (.iload 6, 2) := by decide +kernel
theorem dX5_way_63 : decode cX5_way 63 = .ok (.aload_n 0, 1) := by decide +kernel
theorem dX5_way_64 : decode cX5_way 64 = .ok (.getfield 50, 3) := by decide +kernel
theorem dX5_way_67 : decode cX5_way 67 = .ok (.if_icmp .ge 60, 3) := by decide +kernel
theorem dX5_way_70 : decode cX5_way 70 = .ok (.iconst 0, 1) := by decide +kernel
theorem dX5_way_71 : decode cX5_way 71 = .ok (.istore 7, 2) := by decide +kernel
theorem dX5_way_73 : decode cX5_way 73 = .ok (.iload 7, 2) := by decide +kernel
theorem dX5_way_75 : decode cX5_way 75 = .ok (.aload_n 0, 1) := by decide +kernel
theorem dX5_way_76 : decode cX5_way 76 = .ok (.getfield 50, 3) := by decide +kernel
theorem dX5_way_79 : decode cX5_way 79 = .ok (.if_icmp .ge 42, 3) := by decide +kernel
theorem dX5_way_82 : decode cX5_way 82 = .ok (.iload_n 3, 1) := by decide +kernel
theorem dX5_way_83 : decode cX5_way 83 = .ok (.iload 6, 2) := by decide +kernel
theorem dX5_way_85 : decode cX5_way 85 = .ok (.ishr, 1) := by decide +kernel
theorem dX5_way_86 : decode cX5_way 86 = .ok (.iconst 1, 1) := by decide +kernel
theorem dX5_way_87 : decode cX5_way 87 = .ok (.iand, 1) := by decide +kernel
theorem dX5_way_88 : decode cX5_way 88 = .ok (.iconst 1, 1) := by decide +kernel
theorem dX5_way_89 : decode cX5_way 89 = .ok (.if_icmp .ne 26, 3) := by decide +kernel
theorem dX5_way_92 : decode cX5_way 92 = .ok (.aload_n 0, 1) := by decide +kernel
theorem dX5_way_93 : decode cX5_way 93 = .ok (.getfield 36, 3) := by decide +kernel
theorem dX5_way_96 : decode cX5_way 96 = .ok (.iload 6, 2) := by decide +kernel
theorem dX5_way_98 : decode cX5_way 98 = .ok (.iload 7, 2) := by decide +kernel
theorem dX5_way_100 : decode cX5_way 100 = .ok (.invokevirtual 128, 3) := by decide +kernel
theorem dX5_way_103 : decode cX5_way 103 = .ok (.ifCond .eq 12, 3) := by decide +kernel
theorem dX5_way_106 : decode cX5_way 106 = .ok (.iload 5, 2) := by decide +kernel
theorem dX5_way_108 : decode cX5_way 108 = .ok (.iconst 1, 1) := by decide +kernel
theorem dX5_way_109 : decode cX5_way 109 = .ok (.iload 7, 2) := by decide +kernel
theorem dX5_way_111 : decode cX5_way 111 = .ok (.ishl, 1) := by decide +kernel
theorem dX5_way_112 : decode cX5_way 112 = .ok (.ior, 1) := by decide +kernel
theorem dX5_way_113 : decode cX5_way 113 = .ok (.istore 5, 2) := by decide +kernel
theorem dX5_way_115 : decode cX5_way 115 = .ok (.iinc 7 1, 3) := by decide +kernel
theorem dX5_way_118 : decode cX5_way 118 = .ok (.goto (-45), 3) := by decide +kernel
theorem dX5_way_121 : decode cX5_way 121 = .ok (.iinc 6 1, 3) := by decide +kernel
theorem dX5_way_124 : decode cX5_way 124 = .ok (.goto (-63), 3) := by decide +kernel
theorem dX5_way_127 : decode cX5_way 127 = .ok (.iload 5, 2) := by decide +kernel
theorem dX5_way_129 : decode cX5_way 129 = .ok (.istore_n 3, 1) := by decide +kernel
theorem dX5_way_130 : decode cX5_way 130 = .ok (.iinc 4 1, 3) := by decide +kernel
theorem dX5_way_133 : decode cX5_way 133 = .ok (.goto (-99), 3) := by decide +kernel
theorem dX5_way_136 : decode cX5_way 136 = .ok (.iconst (-1), 1) := by decide +kernel
theorem dX5_way_137 : decode cX5_way 137 = .ok (.ireturn, 1) := by decide +kernel
set_option maxRecDepth 20000 in
theorem ggX5_pass_X5_isIn : GoodIn wsX5_pass wsX5_isIn := goodIn_r _ [6] (by decide +kernel) (by decide +kernel)
set_option maxRecDepth 20000 in
theorem gX5_pass_X5_isIn : GoodIn wsX5_pass (va_wsS RX5 53 yX5_isIn wsX5_isIn) := goodIn_app (goodIn_of _ (by decide +kernel)) ggX5_pass_X5_isIn
set_option maxRecDepth 20000 in
theorem ggX5_pass_X5_no : GoodIn wsX5_pass wsX5_no := goodIn_r _ [10, 1, 76, 77, 78, 79, 80, 81, 82, 83, 84, 85, 86, 87] (by decide +kernel) (by decide +kernel)
set_option maxRecDepth 20000 in
theorem gX5_pass_X5_no : GoodIn wsX5_pass (wsV RX5 66 RX5 yX5_no wsX5_no) := goodIn_app (goodIn_of _ (by decide +kernel)) ggX5_pass_X5_no
set_option maxRecDepth 20000 in
theorem ggX5_pass_X4_pass : GoodIn wsX5_pass wsX4_pass := goodIn_r _ [15, 16, 17, 18, 19, 20, 21, 22, 23, 24, 25, 26, 27, 28, 29, 30, 31, 32, 33, 34, 14, 35, 36, 37, 38, 39, 40, 41, 42, 43, 44, 45, 46, 47, 48, 49, 50, 51, 5, 52, 53, 54, 55, 56, 57, 58, 59, 60, 61, 62, 63, 64, 65, 66, 67, 68, 69, 70, 71, 72, 73, 74, 75, 88, 89, 90, 91, 92, 93, 94, 95, 96, 97, 98, 99, 100, 101, 102, 103, 76, 77, 78, 79, 80, 81, 82, 83, 84, 85, 86, 87] (by decide +kernel) (by decide +kernel)
set_option maxRecDepth 20000 in
theorem gX5_pass_X4_pass : GoodIn wsX5_pass (wsV RX5 131 RX4 yX4_pass wsX4_pass) := goodIn_app (goodIn_of _ (by decide +kernel)) ggX5_pass_X4_pass
theorem dX5_pass_0 : decode cX5_pass 0 = .ok (.aload_n 0, 1) := by decide +kernel
theorem dX5_pass_1 : decode cX5_pass 1 = .ok (.iconst 0, 1) := by decide +kernel
theorem dX5_pass_2 : decode cX5_pass 2 = .ok (.putfield 46, 3) := by decide +kernel
theorem dX5_pass_5 : decode cX5_pass 5 = .ok (.iload_n 1, 1) := by decide +kernel
theorem dX5_pass_6 : decode cX5_pass 6 = .ok (.iconst 1, 1) := by decide +kernel
theorem dX5_pass_7 : decode cX5_pass 7 = .ok (.sipush 200, 3) := by decide +kernel
theorem dX5_pass_10 : decode cX5_pass 10 = .ok (.invokestatic 53, 3) := by decide +kernel
theorem dX5_pass_13 : decode cX5_pass 13 = .ok (.ifCond .ne 9, 3) := by decide +kernel
theorem dX5_pass_16 : decode cX5_pass 16 = .ok (.aload_n 0, 1) := by decide +kernel
theorem dX5_pass_17 : decode cX5_pass 17 = .ok (.iconst 1, 1) := by decide +kernel
theorem dX5_pass_18 : decode cX5_pass 18 = .ok (.invokevirtual 66, 3) := by decide +kernel
theorem dX5_pass_21 : decode cX5_pass 21 = .ok (.ireturn, 1) := by decide +kernel
theorem dX5_pass_22 : decode cX5_pass 22 = .ok (.iconst 0, 1) := by decide +kernel
theorem dX5_pass_23 : decode cX5_pass 23 = .ok (.istore_n 2, 1) := by decide +kernel
theorem dX5_pass_24 : decode cX5_pass 24 = .ok (.iconst 0, 1) := by decide +kernel
theorem dX5_pass_25 : decode cX5_pass 25 = .ok (.istore_n 3, 1) := by decide +kernel
theorem dX5_pass_26 : decode cX5_pass 26 = .ok (.iload_n 3, 1) := by decide +kernel
theorem dX5_pass_27 : decode cX5_pass 27 = .ok (.iload_n 1, 1) := by decide +kernel
theorem dX5_pass_28 : decode cX5_pass 28 = .ok (.if_icmp .ge 19, 3) := by decide +kernel
theorem dX5_pass_31 : decode cX5_pass 31 = .ok (.iload_n 2, 1) := by decide +kernel
theorem dX5_pass_32 : decode cX5_pass 32 = .ok (.aload_n 0, 1) := by decide +kernel
theorem dX5_pass_33 : decode cX5_pass 33 = .ok (.getfield 36, 3) := by decide +kernel
theorem dX5_pass_36 : decode cX5_pass 36 = .ok (.invokevirtual 131, 3) := by decide +kernel
theorem dX5_pass_39 : decode cX5_pass 39 = .ok (.iadd, 1) := by decide +kernel
theorem dX5_pass_40 : decode cX5_pass 40 = .ok (.istore_n 2, 1) := by decide +kernel
theorem dX5_pass_41 : decode cX5_pass 41 = .ok (.iinc 3 1, 3) := by decide +kernel
theorem dX5_pass_44 : decode cX5_pass 44 = .ok (.goto (-18), 3) := by decide +kernel
theorem dX5_pass_47 : decode cX5_pass 47 = .ok (.iload_n 2, 1) := by decide +kernel
theorem dX5_pass_48 : decode cX5_pass 48 = .ok (.ireturn, 1) := by decide +kernel
set_option maxRecDepth 20000 in
theorem ggX5_reaches_X5_isVillage : GoodIn wsX5_reaches wsX5_isVillage := goodIn_r _ [8, 9, 10, 11, 7, 12, 95, 96, 97, 98, 99, 100, 101, 102, 103, 104, 105, 106] (by decide +kernel) (by decide +kernel)
set_option maxRecDepth 20000 in
theorem gX5_reaches_X5_isVillage : GoodIn wsX5_reaches (wsV RX5 75 RX5 yX5_isVillage wsX5_isVillage) := goodIn_app (goodIn_of _ (by decide +kernel)) ggX5_reaches_X5_isVillage
set_option maxRecDepth 20000 in
theorem ggX5_reaches_X5_isPhrase : GoodIn wsX5_reaches wsX5_isPhrase := goodIn_r _ [16, 17, 10, 11, 7, 12, 95, 96, 97, 98, 99, 100, 101, 102, 103, 104, 105, 106] (by decide +kernel) (by decide +kernel)
set_option maxRecDepth 20000 in
theorem gX5_reaches_X5_isPhrase : GoodIn wsX5_reaches (wsV RX5 79 RX5 yX5_isPhrase wsX5_isPhrase) := goodIn_app (goodIn_of _ (by decide +kernel)) ggX5_reaches_X5_isPhrase
set_option maxRecDepth 20000 in
theorem ggX5_reaches_X5_no : GoodIn wsX5_reaches wsX5_no := goodIn_r _ [21, 1, 95, 96, 97, 98, 99, 100, 101, 102, 103, 104, 105, 106] (by decide +kernel) (by decide +kernel)
set_option maxRecDepth 20000 in
theorem gX5_reaches_X5_no : GoodIn wsX5_reaches (wsV RX5 66 RX5 yX5_no wsX5_no) := goodIn_app (goodIn_of _ (by decide +kernel)) ggX5_reaches_X5_no
set_option maxRecDepth 20000 in
theorem ggX5_reaches_X4_become : GoodIn wsX5_reaches wsX4_become := goodIn_r _ [26, 27, 28, 29, 30, 31, 32, 33, 34, 35, 36, 37, 38, 39, 40, 41, 42, 43, 44, 25, 45, 46, 47, 48, 49, 107, 108, 109, 110, 111, 112, 113, 114, 115, 116, 117, 118, 119, 120, 121, 122] (by decide +kernel) (by decide +kernel)
set_option maxRecDepth 20000 in
theorem gX5_reaches_X4_become : GoodIn wsX5_reaches (wsV RX5 134 RX4 yX4_become wsX4_become) := goodIn_app (goodIn_of _ (by decide +kernel)) ggX5_reaches_X4_become
set_option maxRecDepth 20000 in
theorem ggX5_reaches_X4_pass : GoodIn wsX5_reaches wsX4_pass := goodIn_r _ [53, 54, 31, 29, 37, 39, 27, 41, 40, 38, 36, 33, 32, 55, 56, 57, 58, 59, 60, 61, 25, 62, 34, 46, 47, 48, 49, 28, 63, 64, 65, 66, 67, 68, 69, 70, 30, 71, 7, 72, 73, 74, 75, 76, 77, 78, 79, 80, 81, 82, 83, 84, 85, 86, 87, 88, 89, 90, 35, 91, 92, 93, 94, 107, 108, 109, 110, 111, 112, 113, 114, 115, 116, 117, 118, 119, 120, 121, 122, 95, 96, 97, 98, 99, 100, 101, 102, 103, 104, 105, 106] (by decide +kernel) (by decide +kernel)
set_option maxRecDepth 20000 in
theorem gX5_reaches_X4_pass : GoodIn wsX5_reaches (wsV RX5 131 RX4 yX4_pass wsX4_pass) := goodIn_app (goodIn_of _ (by decide +kernel)) ggX5_reaches_X4_pass
theorem dX5_reaches_0 : decode cX5_reaches 0 = .ok (.aload_n 0, 1) := by decide +kernel
theorem dX5_reaches_1 : decode cX5_reaches 1 = .ok (.iconst 0, 1) := by decide +kernel
theorem dX5_reaches_2 : decode cX5_reaches 2 = .ok (.putfield 46, 3) := by decide +kernel
theorem dX5_reaches_5 : decode cX5_reaches 5 = .ok (.aload_n 0, 1) := by decide +kernel
theorem dX5_reaches_6 : decode cX5_reaches 6 = .ok (.iload_n 1, 1) := by decide +kernel
theorem dX5_reaches_7 : decode cX5_reaches 7 = .ok (.invokevirtual 75, 3) := by decide +kernel
theorem dX5_reaches_10 : decode cX5_reaches 10 = .ok (.ifCond .eq 11, 3) := by decide +kernel
theorem dX5_reaches_13 : decode cX5_reaches 13 = .ok (.aload_n 0, 1) := by decide +kernel
theorem dX5_reaches_14 : decode cX5_reaches 14 = .ok (.iload_n 2, 1) := by decide +kernel
theorem dX5_reaches_15 : decode cX5_reaches 15 = .ok (.invokevirtual 79, 3) := by decide +kernel
theorem dX5_reaches_18 : decode cX5_reaches 18 = .ok (.ifCond .ne 9, 3) := by decide +kernel
theorem dX5_reaches_21 : decode cX5_reaches 21 = .ok (.aload_n 0, 1) := by decide +kernel
theorem dX5_reaches_22 : decode cX5_reaches 22 = .ok (.iconst 1, 1) := by decide +kernel
theorem dX5_reaches_23 : decode cX5_reaches 23 = .ok (.invokevirtual 66, 3) := by decide +kernel
theorem dX5_reaches_26 : decode cX5_reaches 26 = .ok (.ireturn, 1) := by decide +kernel
theorem dX5_reaches_27 : decode cX5_reaches 27 = .ok (.aload_n 0, 1) := by decide +kernel
theorem dX5_reaches_28 : decode cX5_reaches 28 = .ok (.getfield 40, 3) := by decide +kernel
theorem dX5_reaches_31 : decode cX5_reaches 31 = .ok (.aload_n 0, 1) := by decide +kernel
theorem dX5_reaches_32 : decode cX5_reaches 32 = .ok (.getfield 36, 3) := by decide +kernel
theorem dX5_reaches_35 : decode cX5_reaches 35 = .ok (.invokevirtual 134, 3) := by decide +kernel
theorem dX5_reaches_38 : decode cX5_reaches 38 = .ok (.iconst 0, 1) := by decide +kernel
theorem dX5_reaches_39 : decode cX5_reaches 39 = .ok (.istore_n 3, 1) := by decide +kernel
theorem dX5_reaches_40 : decode cX5_reaches 40 = .ok (.iload_n 3, 1) := by decide +kernel
theorem dX5_reaches_41 : decode cX5_reaches 41 = .ok (.sipush 200, 3) := by decide +kernel
theorem dX5_reaches_44 : decode cX5_reaches 44 = .ok (.if_icmp .gt 37, 3) := by decide +kernel
theorem dX5_reaches_47 : decode cX5_reaches 47 = .ok (.aload_n 0, 1) := by decide +kernel
theorem dX5_reaches_48 : decode cX5_reaches 48 = .ok (.getfield 40, 3) := by decide +kernel
theorem dX5_reaches_51 : decode cX5_reaches 51 = .ok (.getfield 43, 3) := by decide +kernel
theorem dX5_reaches_54 : decode cX5_reaches 54 = .ok (.bipush 12, 2) := by decide +kernel
theorem dX5_reaches_56 : decode cX5_reaches 56 = .ok (.iload_n 1, 1) := by decide +kernel
theorem dX5_reaches_57 : decode cX5_reaches 57 = .ok (.imul, 1) := by decide +kernel
theorem dX5_reaches_58 : decode cX5_reaches 58 = .ok (.iload_n 2, 1) := by decide +kernel
theorem dX5_reaches_59 : decode cX5_reaches 59 = .ok (.iadd, 1) := by decide +kernel
theorem dX5_reaches_60 : decode cX5_reaches 60 = .ok (.iaload, 1) := by decide +kernel
theorem dX5_reaches_61 : decode cX5_reaches 61 = .ok (.iconst (-1), 1) := by decide +kernel
theorem dX5_reaches_62 : decode cX5_reaches 62 = .ok (.if_icmp .eq 5, 3) := by decide +kernel
theorem dX5_reaches_65 : decode cX5_reaches 65 = .ok (.iload_n 3, 1) := by decide +kernel
theorem dX5_reaches_66 : decode cX5_reaches 66 = .ok (.ireturn, 1) := by decide +kernel
theorem dX5_reaches_67 : decode cX5_reaches 67 = .ok (.aload_n 0, 1) := by decide +kernel
theorem dX5_reaches_68 : decode cX5_reaches 68 = .ok (.getfield 40, 3) := by decide +kernel
theorem dX5_reaches_71 : decode cX5_reaches 71 = .ok (.invokevirtual 131, 3) := by decide +kernel
theorem dX5_reaches_74 : decode cX5_reaches 74 = .ok (.pop, 1) := by decide +kernel
theorem dX5_reaches_75 : decode cX5_reaches 75 = .ok (.iinc 3 1, 3) := by decide +kernel
theorem dX5_reaches_78 : decode cX5_reaches 78 = .ok (.goto (-38), 3) := by decide +kernel
theorem dX5_reaches_81 : decode cX5_reaches 81 = .ok (.iconst (-1), 1) := by decide +kernel
theorem dX5_reaches_82 : decode cX5_reaches 82 = .ok (.ireturn, 1) := by decide +kernel
set_option maxRecDepth 20000 in
theorem ggX5_best_X5_isVillage : GoodIn wsX5_best wsX5_isVillage := goodIn_r _ [12, 13, 14, 15, 11, 16, 102, 103, 104, 105, 106, 107, 108, 109, 110, 111, 112, 113] (by decide +kernel) (by decide +kernel)
set_option maxRecDepth 20000 in
theorem gX5_best_X5_isVillage : GoodIn wsX5_best (wsV RX5 75 RX5 yX5_isVillage wsX5_isVillage) := goodIn_app (goodIn_of _ (by decide +kernel)) ggX5_best_X5_isVillage
set_option maxRecDepth 20000 in
theorem ggX5_best_X5_isPhrase : GoodIn wsX5_best wsX5_isPhrase := goodIn_r _ [20, 21, 14, 15, 11, 16, 102, 103, 104, 105, 106, 107, 108, 109, 110, 111, 112, 113] (by decide +kernel) (by decide +kernel)
set_option maxRecDepth 20000 in
theorem gX5_best_X5_isPhrase : GoodIn wsX5_best (wsV RX5 79 RX5 yX5_isPhrase wsX5_isPhrase) := goodIn_app (goodIn_of _ (by decide +kernel)) ggX5_best_X5_isPhrase
set_option maxRecDepth 20000 in
theorem ggX5_best_X5_no : GoodIn wsX5_best wsX5_no := goodIn_r _ [25, 1, 102, 103, 104, 105, 106, 107, 108, 109, 110, 111, 112, 113] (by decide +kernel) (by decide +kernel)
set_option maxRecDepth 20000 in
theorem gX5_best_X5_no : GoodIn wsX5_best (wsV RX5 66 RX5 yX5_no wsX5_no) := goodIn_app (goodIn_of _ (by decide +kernel)) ggX5_best_X5_no
set_option maxRecDepth 20000 in
theorem ggX5_best_X4_become : GoodIn wsX5_best wsX4_become := goodIn_r _ [30, 31, 32, 33, 34, 35, 36, 37, 38, 39, 40, 41, 42, 43, 44, 45, 46, 47, 48, 29, 49, 50, 51, 52, 53, 114, 115, 116, 117, 118, 119, 120, 121, 122, 123, 124, 125, 126, 127, 128, 129] (by decide +kernel) (by decide +kernel)
set_option maxRecDepth 20000 in
theorem gX5_best_X4_become : GoodIn wsX5_best (wsV RX5 134 RX4 yX4_become wsX4_become) := goodIn_app (goodIn_of _ (by decide +kernel)) ggX5_best_X4_become
set_option maxRecDepth 20000 in
theorem ggX5_best_X4_learns : GoodIn wsX5_best wsX4_learns := goodIn_r _ [57, 39, 31, 114, 115, 116, 117, 118, 119, 120, 121, 122, 123, 124, 125, 126, 127, 128, 129] (by decide +kernel) (by decide +kernel)
set_option maxRecDepth 20000 in
theorem gX5_best_X4_learns : GoodIn wsX5_best (wsV RX5 85 RX4 yX4_learns wsX4_learns) := goodIn_app (goodIn_of _ (by decide +kernel)) ggX5_best_X4_learns
set_option maxRecDepth 20000 in
theorem ggX5_best_X4_put : GoodIn wsX5_best wsX4_put := goodIn_r _ [61, 38, 37, 114, 115, 116, 117, 118, 119, 120, 121, 122, 123, 124, 125, 126, 127, 128, 129] (by decide +kernel) (by decide +kernel)
set_option maxRecDepth 20000 in
theorem gX5_best_X4_put : GoodIn wsX5_best (wsV RX5 89 RX4 yX4_put wsX4_put) := goodIn_app (goodIn_of _ (by decide +kernel)) ggX5_best_X4_put
set_option maxRecDepth 20000 in
theorem ggX5_best_X4_pass : GoodIn wsX5_best wsX4_pass := goodIn_r _ [65, 66, 35, 33, 41, 43, 31, 45, 44, 42, 40, 37, 36, 67, 5, 6, 7, 68, 69, 70, 29, 71, 38, 50, 51, 52, 53, 32, 72, 73, 74, 75, 76, 77, 78, 79, 34, 80, 11, 81, 82, 83, 84, 85, 86, 87, 88, 89, 90, 91, 92, 93, 94, 95, 96, 55, 56, 57, 39, 97, 59, 60, 61, 114, 115, 116, 117, 118, 119, 120, 121, 122, 123, 124, 125, 126, 127, 128, 129, 102, 103, 104, 105, 106, 107, 108, 109, 110, 111, 112, 113] (by decide +kernel) (by decide +kernel)
set_option maxRecDepth 20000 in
theorem gX5_best_X4_pass : GoodIn wsX5_best (wsV RX5 131 RX4 yX4_pass wsX4_pass) := goodIn_app (goodIn_of _ (by decide +kernel)) ggX5_best_X4_pass
set_option maxRecDepth 20000 in
theorem ggX5_best_X4_knowing : GoodIn wsX5_best wsX4_knowing := goodIn_r _ [101, 66, 39, 114, 115, 116, 117, 118, 119, 120, 121, 122, 123, 124, 125, 126, 127, 128, 129, 102, 103, 104, 105, 106, 107, 108, 109, 110, 111, 112, 113] (by decide +kernel) (by decide +kernel)
set_option maxRecDepth 20000 in
theorem gX5_best_X4_knowing : GoodIn wsX5_best (wsV RX5 138 RX4 yX4_knowing wsX4_knowing) := goodIn_app (goodIn_of _ (by decide +kernel)) ggX5_best_X4_knowing
theorem dX5_best_0 : decode cX5_best 0 = .ok (.aload_n 0, 1) := by decide +kernel
theorem dX5_best_1 : decode cX5_best 1 = .ok (.iconst 0, 1) := by decide +kernel
theorem dX5_best_2 : decode cX5_best 2 = .ok (.putfield 46, 3) := by decide +kernel
theorem dX5_best_5 : decode cX5_best 5 = .ok (.aload_n 0, 1) := by decide +kernel
theorem dX5_best_6 : decode cX5_best 6 = .ok (.iload_n 1, 1) := by decide +kernel
theorem dX5_best_7 : decode cX5_best 7 = .ok (.invokevirtual 75, 3) := by decide +kernel
theorem dX5_best_10 : decode cX5_best 10 = .ok (.ifCond .eq 11, 3) := by decide +kernel
theorem dX5_best_13 : decode cX5_best 13 = .ok (.aload_n 0, 1) := by decide +kernel
theorem dX5_best_14 : decode cX5_best 14 = .ok (.iload_n 2, 1) := by decide +kernel
theorem dX5_best_15 : decode cX5_best 15 = .ok (.invokevirtual 79, 3) := by decide +kernel
theorem dX5_best_18 : decode cX5_best 18 = .ok (.ifCond .ne 9, 3) := by decide +kernel
theorem dX5_best_21 : decode cX5_best 21 = .ok (.aload_n 0, 1) := by decide +kernel
theorem dX5_best_22 : decode cX5_best 22 = .ok (.iconst 1, 1) := by decide +kernel
theorem dX5_best_23 : decode cX5_best 23 = .ok (.invokevirtual 66, 3) := by decide +kernel
theorem dX5_best_26 : decode cX5_best 26 = .ok (.ireturn, 1) := by decide +kernel
theorem dX5_best_27 : decode cX5_best 27 = .ok (.iconst (-1), 1) := by decide +kernel
theorem dX5_best_28 : decode cX5_best 28 = .ok (.istore_n 3, 1) := by decide +kernel
theorem dX5_best_29 : decode cX5_best 29 = .ok (.iconst 0, 1) := by decide +kernel
theorem dX5_best_30 : decode cX5_best 30 = .ok (.istore 4, 2) := by decide +kernel
theorem dX5_best_32 : decode cX5_best 32 = .ok (.iconst (-1), 1) := by decide +kernel
theorem dX5_best_33 : decode cX5_best 33 = .ok (.istore 5, 2) := by decide +kernel
theorem dX5_best_35 : decode cX5_best 35 = .ok (.iload 5, 2) := by decide +kernel
theorem dX5_best_37 : decode cX5_best 37 = .ok (.bipush 24, 2) := by decide +kernel
theorem dX5_best_39 : decode cX5_best 39 = .ok (.if_icmp .ge 118, 3) := by decide +kernel
theorem dX5_best_42 : decode cX5_best 42 = .ok (.aload_n 0, 1) := by decide +kernel
theorem dX5_best_43 : decode cX5_best 43 = .ok (.getfield 40, 3) := by decide +kernel
theorem dX5_best_46 : decode cX5_best 46 = .ok (.aload_n 0, 1) := by decide +kernel
theorem dX5_best_47 : decode cX5_best 47 = .ok (.getfield 36, 3) := by decide +kernel
theorem dX5_best_50 : decode cX5_best 50 = .ok (.invokevirtual 134, 3) := by decide +kernel
theorem dX5_best_53 : decode cX5_best 53 = .ok (.iconst 0, 1) := by decide +kernel
theorem dX5_best_54 : decode cX5_best 54 = .ok (.istore 6, 2) := by decide +kernel
theorem dX5_best_56 : decode cX5_best 56 = .ok (.iload 6, 2) := by decide +kernel
theorem dX5_best_58 : decode cX5_best 58 = .ok (.bipush 80, 2) := by decide +kernel
theorem dX5_best_60 : decode cX5_best 60 = .ok (.if_icmp .ge 56, 3) := by decide +kernel
theorem dX5_best_63 : decode cX5_best 63 = .ok (.iload 6, 2) := by decide +kernel
theorem dX5_best_65 : decode cX5_best 65 = .ok (.iload 5, 2) := by decide +kernel
theorem dX5_best_67 : decode cX5_best 67 = .ok (.if_icmp .ne 35, 3) := by decide +kernel
theorem dX5_best_70 : decode cX5_best 70 = .ok (.aload_n 0, 1) := by decide +kernel
theorem dX5_best_71 : decode cX5_best 71 = .ok (.getfield 40, 3) := by decide +kernel
theorem dX5_best_74 : decode cX5_best 74 = .ok (.getfield 82, 3) := by decide +kernel
theorem dX5_best_77 : decode cX5_best 77 = .ok (.iload_n 1, 1) := by decide +kernel
theorem dX5_best_78 : decode cX5_best 78 = .ok (.iaload, 1) := by decide +kernel
theorem dX5_best_79 : decode cX5_best 79 = .ok (.iconst 5, 1) := by decide +kernel
theorem dX5_best_80 : decode cX5_best 80 = .ok (.if_icmp .ge 22, 3) := by decide +kernel
theorem dX5_best_83 : decode cX5_best 83 = .ok (.aload_n 0, 1) := by decide +kernel
theorem dX5_best_84 : decode cX5_best 84 = .ok (.getfield 40, 3) := by decide +kernel
theorem dX5_best_87 : decode cX5_best 87 = .ok (.iload_n 1, 1) := by decide +kernel
theorem dX5_best_88 : decode cX5_best 88 = .ok (.iload_n 2, 1) := by decide +kernel
theorem dX5_best_89 : decode cX5_best 89 = .ok (.invokevirtual 85, 3) := by decide +kernel
theorem dX5_best_92 : decode cX5_best 92 = .ok (.pop, 1) := by decide +kernel
theorem dX5_best_93 : decode cX5_best 93 = .ok (.aload_n 0, 1) := by decide +kernel
theorem dX5_best_94 : decode cX5_best 94 = .ok (.getfield 40, 3) := by decide +kernel
theorem dX5_best_97 : decode cX5_best 97 = .ok (.iload_n 1, 1) := by decide +kernel
theorem dX5_best_98 : decode cX5_best 98 = .ok (.iload_n 2, 1) := by decide +kernel
theorem dX5_best_99 : decode cX5_best 99 = .ok (.invokevirtual 89, 3) := by decide +kernel
theorem dX5_best_102 : decode cX5_best 102 = .ok (.aload_n 0, 1) := by decide +kernel
theorem dX5_best_103 : decode cX5_best 103 = .ok (.getfield 40, 3) := by decide +kernel
theorem dX5_best_106 : decode cX5_best 106 = .ok (.invokevirtual 131, 3) := by decide +kernel
theorem dX5_best_109 : decode cX5_best 109 = .ok (.pop, 1) := by decide +kernel
theorem dX5_best_110 : decode cX5_best 110 = .ok (.iinc 6 1, 3) := by decide +kernel
theorem dX5_best_113 : decode cX5_best 113 = .ok (.goto (-57), 3) := by decide +kernel
theorem dX5_best_116 : decode cX5_best 116 = .ok (.aload_n 0, 1) := by decide +kernel
theorem dX5_best_117 : decode cX5_best 117 = .ok (.getfield 40, 3) := by decide +kernel
theorem dX5_best_120 : decode cX5_best 120 = .ok (.iload_n 2, 1) := by decide +kernel
theorem dX5_best_121 : decode cX5_best 121 = .ok (.invokevirtual 138, 3) := by decide +kernel
theorem dX5_best_124 : decode cX5_best 124 = .ok (.istore 6, 2) := by decide +kernel
theorem dX5_best_126 : decode cX5_best 126 = .ok (.iload 5, 2) := by decide +kernel
theorem dX5_best_128 : decode cX5_best 128 = .ok (.iconst (-1), 1) := by decide +kernel
theorem dX5_best_129 : decode cX5_best 129 = .ok (.if_icmp .eq 13, 3) := by decide +kernel
theorem dX5_best_132 : decode cX5_best 132 = .ok (.iload 6, 2) := by decide +kernel
theorem dX5_best_134 : decode cX5_best 134 = .ok (.iload 4, 2) := by decide +kernel
theorem dX5_best_136 : decode cX5_best 136 = .ok (.if_icmp .le 6, 3) := by decide +kernel
theorem dX5_best_139 : decode cX5_best 139 = .ok (.iload 5, 2) := by decide +kernel
theorem dX5_best_141 : decode cX5_best 141 = .ok (.istore_n 3, 1) := by decide +kernel
theorem dX5_best_142 : decode cX5_best 142 = .ok (.iload 4, 2) := by decide +kernel
theorem dX5_best_144 : decode cX5_best 144 = .ok (.iload 6, 2) := by decide +kernel
theorem dX5_best_146 : decode cX5_best 146 = .ok (.invokestatic 141, 3) := by decide +kernel
theorem dX5_best_149 : decode cX5_best 149 = .ok (.istore 4, 2) := by decide +kernel
theorem dX5_best_151 : decode cX5_best 151 = .ok (.iinc 5 1, 3) := by decide +kernel
theorem dX5_best_154 : decode cX5_best 154 = .ok (.goto (-119), 3) := by decide +kernel
theorem dX5_best_157 : decode cX5_best 157 = .ok (.iload_n 3, 1) := by decide +kernel
theorem dX5_best_158 : decode cX5_best 158 = .ok (.ireturn, 1) := by decide +kernel
set_option maxRecDepth 20000 in
theorem ggX5_larger_X5_isIn : GoodIn wsX5_larger wsX5_isIn := goodIn_r _ [12] (by decide +kernel) (by decide +kernel)
set_option maxRecDepth 20000 in
theorem gX5_larger_X5_isIn : GoodIn wsX5_larger (va_wsS RX5 53 yX5_isIn wsX5_isIn) := goodIn_app (goodIn_of _ (by decide +kernel)) ggX5_larger_X5_isIn
set_option maxRecDepth 20000 in
theorem ggX5_larger_X5_no : GoodIn wsX5_larger wsX5_no := goodIn_r _ [16, 1, 95, 96, 97, 98, 99, 100, 101, 102, 103, 104, 105, 106] (by decide +kernel) (by decide +kernel)
set_option maxRecDepth 20000 in
theorem gX5_larger_X5_no : GoodIn wsX5_larger (wsV RX5 66 RX5 yX5_no wsX5_no) := goodIn_app (goodIn_of _ (by decide +kernel)) ggX5_larger_X5_no
set_option maxRecDepth 20000 in
theorem ggX5_larger_X4_become : GoodIn wsX5_larger wsX4_become := goodIn_r _ [21, 22, 23, 24, 25, 26, 27, 28, 29, 30, 31, 32, 33, 34, 35, 36, 37, 38, 39, 20, 40, 41, 42, 43, 44, 107, 108, 109, 110, 111, 112, 113, 114, 115, 116, 117, 118, 119, 120, 121, 122] (by decide +kernel) (by decide +kernel)
set_option maxRecDepth 20000 in
theorem gX5_larger_X4_become : GoodIn wsX5_larger (wsV RX5 134 RX4 yX4_become wsX4_become) := goodIn_app (goodIn_of _ (by decide +kernel)) ggX5_larger_X4_become
set_option maxRecDepth 20000 in
theorem ggX5_larger_X4_pass : GoodIn wsX5_larger wsX4_pass := goodIn_r _ [48, 49, 26, 24, 32, 34, 22, 36, 35, 33, 31, 28, 27, 50, 6, 7, 8, 51, 52, 53, 20, 54, 29, 41, 42, 43, 44, 23, 55, 56, 57, 58, 59, 60, 61, 62, 25, 63, 11, 64, 65, 66, 67, 68, 69, 70, 71, 72, 73, 74, 75, 76, 77, 78, 79, 80, 81, 82, 30, 83, 84, 85, 86, 107, 108, 109, 110, 111, 112, 113, 114, 115, 116, 117, 118, 119, 120, 121, 122, 95, 96, 97, 98, 99, 100, 101, 102, 103, 104, 105, 106] (by decide +kernel) (by decide +kernel)
set_option maxRecDepth 20000 in
theorem gX5_larger_X4_pass : GoodIn wsX5_larger (wsV RX5 131 RX4 yX4_pass wsX4_pass) := goodIn_app (goodIn_of _ (by decide +kernel)) ggX5_larger_X4_pass
set_option maxRecDepth 20000 in
theorem ggX5_larger_X4_pairs : GoodIn wsX5_larger wsX4_pairs := goodIn_r _ [90, 49, 91, 92, 93, 20, 94, 30, 107, 108, 109, 110, 111, 112, 113, 114, 115, 116, 117, 118, 119, 120, 121, 122, 95, 96, 97, 98, 99, 100, 101, 102, 103, 104, 105, 106] (by decide +kernel) (by decide +kernel)
set_option maxRecDepth 20000 in
theorem gX5_larger_X4_pairs : GoodIn wsX5_larger (wsV RX5 121 RX4 yX4_pairs wsX4_pairs) := goodIn_app (goodIn_of _ (by decide +kernel)) ggX5_larger_X4_pairs
theorem dX5_larger_0 : decode cX5_larger 0 = .ok (.aload_n 0, 1) := by decide +kernel
theorem dX5_larger_1 : decode cX5_larger 1 = .ok (.iconst 0, 1) := by decide +kernel
theorem dX5_larger_2 : decode cX5_larger 2 = .ok (.putfield 46, 3) := by decide +kernel
theorem dX5_larger_5 : decode cX5_larger 5 = .ok (.iload_n 1, 1) := by decide +kernel
theorem dX5_larger_6 : decode cX5_larger 6 = .ok (.iconst 1, 1) := by decide +kernel
theorem dX5_larger_7 : decode cX5_larger 7 = .ok (.bipush 100, 2) := by decide +kernel
theorem dX5_larger_9 : decode cX5_larger 9 = .ok (.invokestatic 53, 3) := by decide +kernel
theorem dX5_larger_12 : decode cX5_larger 12 = .ok (.ifCond .ne 9, 3) := by decide +kernel
theorem dX5_larger_15 : decode cX5_larger 15 = .ok (.aload_n 0, 1) := by decide +kernel
theorem dX5_larger_16 : decode cX5_larger 16 = .ok (.iconst 1, 1) := by decide +kernel
theorem dX5_larger_17 : decode cX5_larger 17 = .ok (.invokevirtual 66, 3) := by decide +kernel
theorem dX5_larger_20 : decode cX5_larger 20 = .ok (.ireturn, 1) := by decide +kernel
theorem dX5_larger_21 : decode cX5_larger 21 = .ok (.iconst (-1), 1) := by decide +kernel
theorem dX5_larger_22 : decode cX5_larger 22 = .ok (.istore_n 2, 1) := by decide +kernel
theorem dX5_larger_23 : decode cX5_larger 23 = .ok (.iconst 0, 1) := by decide +kernel
theorem dX5_larger_24 : decode cX5_larger 24 = .ok (.istore_n 3, 1) := by decide +kernel
theorem dX5_larger_25 : decode cX5_larger 25 = .ok (.iconst (-1), 1) := by decide +kernel
theorem dX5_larger_26 : decode cX5_larger 26 = .ok (.istore 4, 2) := by decide +kernel
theorem dX5_larger_28 : decode cX5_larger 28 = .ok (.iload 4, 2) := by decide +kernel
theorem dX5_larger_30 : decode cX5_larger 30 = .ok (.aload_n 0, 1) := by decide +kernel
theorem dX5_larger_31 : decode cX5_larger 31 = .ok (.getfield 50, 3) := by decide +kernel
theorem dX5_larger_34 : decode cX5_larger 34 = .ok (.if_icmp .ge 118, 3) := by decide +kernel
theorem dX5_larger_37 : decode cX5_larger 37 = .ok (.iload 4, 2) := by decide +kernel
theorem dX5_larger_39 : decode cX5_larger 39 = .ok (.iconst (-1), 1) := by decide +kernel
theorem dX5_larger_40 : decode cX5_larger 40 = .ok (.if_icmp .eq 21, 3) := by decide +kernel
theorem dX5_larger_43 : decode cX5_larger 43 = .ok (.aload_n 0, 1) := by decide +kernel
theorem dX5_larger_44 : decode cX5_larger 44 = .ok (.getfield 36, 3) := by decide +kernel
theorem dX5_larger_47 : decode cX5_larger 47 = .ok (.getfield 69, 3) := by decide +kernel
theorem dX5_larger_50 : decode cX5_larger 50 = .ok (.iload 4, 2) := by decide +kernel
theorem dX5_larger_52 : decode cX5_larger 52 = .ok (.iaload, 1) := by decide +kernel
theorem dX5_larger_53 : decode cX5_larger 53 = .ok (.bipush 9, 2) := by decide +kernel
theorem dX5_larger_55 : decode cX5_larger 55 = .ok (.if_icmp .ne 6, 3) := by decide +kernel
theorem dX5_larger_58 : decode cX5_larger 58 = .ok (.goto 88, 3) := by decide +kernel
theorem dX5_larger_61 : decode cX5_larger 61 = .ok (.aload_n 0, 1) := by decide +kernel
theorem dX5_larger_62 : decode cX5_larger 62 = .ok (.getfield 40, 3) := by decide +kernel
theorem dX5_larger_65 : decode cX5_larger 65 = .ok (.aload_n 0, 1) := by decide +kernel
theorem dX5_larger_66 : decode cX5_larger 66 = .ok (.getfield 36, 3) := by decide +kernel
theorem dX5_larger_69 : decode cX5_larger 69 = .ok (.invokevirtual 134, 3) := by decide +kernel
theorem dX5_larger_72 : decode cX5_larger 72 = .ok (.iload 4, 2) := by decide +kernel
theorem dX5_larger_74 : decode cX5_larger 74 = .ok (.iconst (-1), 1) := by decide +kernel
theorem dX5_larger_75 : decode cX5_larger 75 = .ok (.if_icmp .eq 17, 3) := by decide +kernel
theorem dX5_larger_78 : decode cX5_larger 78 = .ok (.aload_n 0, 1) := by decide +kernel
theorem dX5_larger_79 : decode cX5_larger 79 = .ok (.getfield 40, 3) := by decide +kernel
theorem dX5_larger_82 : decode cX5_larger 82 = .ok (.getfield 69, 3) := by decide +kernel
theorem dX5_larger_85 : decode cX5_larger 85 = .ok (.iload 4, 2) := by decide +kernel
theorem dX5_larger_87 : decode cX5_larger 87 = .ok (.dup2, 1) := by decide +kernel
theorem dX5_larger_88 : decode cX5_larger 88 = .ok (.iaload, 1) := by decide +kernel
theorem dX5_larger_89 : decode cX5_larger 89 = .ok (.iconst 1, 1) := by decide +kernel
theorem dX5_larger_90 : decode cX5_larger 90 = .ok (.iadd, 1) := by decide +kernel
theorem dX5_larger_91 : decode cX5_larger 91 = .ok (.iastore, 1) := by decide +kernel
theorem dX5_larger_92 : decode cX5_larger 92 = .ok (.iconst 0, 1) := by decide +kernel
theorem dX5_larger_93 : decode cX5_larger 93 = .ok (.istore 5, 2) := by decide +kernel
theorem dX5_larger_95 : decode cX5_larger 95 = .ok (.iload 5, 2) := by decide +kernel
theorem dX5_larger_97 : decode cX5_larger 97 = .ok (.iload_n 1, 1) := by decide +kernel
theorem dX5_larger_98 : decode cX5_larger 98 = .ok (.if_icmp .ge 17, 3) := by decide +kernel
theorem dX5_larger_101 : decode cX5_larger 101 = .ok (.aload_n 0, 1) := by decide +kernel
theorem dX5_larger_102 : decode cX5_larger 102 = .ok (.getfield 40, 3) := by decide +kernel
theorem dX5_larger_105 : decode cX5_larger 105 = .ok (.invokevirtual 131, 3) := by decide +kernel
theorem dX5_larger_108 : decode cX5_larger 108 = .ok (.pop, 1) := by decide +kernel
theorem dX5_larger_109 : decode cX5_larger 109 = .ok (.iinc 5 1, 3) := by decide +kernel
theorem dX5_larger_112 : decode cX5_larger 112 = .ok (.goto (-17), 3) := by decide +kernel
theorem dX5_larger_115 : decode cX5_larger 115 = .ok (.aload_n 0, 1) := by decide +kernel
theorem dX5_larger_116 : decode cX5_larger 116 = .ok (.getfield 40, 3) := by decide +kernel
theorem dX5_larger_119 : decode cX5_larger 119 = .ok (.invokevirtual 121, 3) := by decide +kernel
theorem dX5_larger_122 : decode cX5_larger 122 = .ok (.istore 5, 2) := by decide +kernel
theorem dX5_larger_124 : decode cX5_larger 124 = .ok (.iload 4, 2) := by decide +kernel
theorem dX5_larger_126 : decode cX5_larger 126 = .ok (.iconst (-1), 1) := by decide +kernel
theorem dX5_larger_127 : decode cX5_larger 127 = .ok (.if_icmp .eq 12, 3) := by decide +kernel
theorem dX5_larger_130 : decode cX5_larger 130 = .ok (.iload 5, 2) := by decide +kernel
theorem dX5_larger_132 : decode cX5_larger 132 = .ok (.iload_n 3, 1) := by decide +kernel
theorem dX5_larger_133 : decode cX5_larger 133 = .ok (.if_icmp .le 6, 3) := by decide +kernel
theorem dX5_larger_136 : decode cX5_larger 136 = .ok (.iload 4, 2) := by decide +kernel
theorem dX5_larger_138 : decode cX5_larger 138 = .ok (.istore_n 2, 1) := by decide +kernel
theorem dX5_larger_139 : decode cX5_larger 139 = .ok (.iload_n 3, 1) := by decide +kernel
theorem dX5_larger_140 : decode cX5_larger 140 = .ok (.iload 5, 2) := by decide +kernel
theorem dX5_larger_142 : decode cX5_larger 142 = .ok (.invokestatic 141, 3) := by decide +kernel
theorem dX5_larger_145 : decode cX5_larger 145 = .ok (.istore_n 3, 1) := by decide +kernel
theorem dX5_larger_146 : decode cX5_larger 146 = .ok (.iinc 4 1, 3) := by decide +kernel
theorem dX5_larger_149 : decode cX5_larger 149 = .ok (.goto (-121), 3) := by decide +kernel
theorem dX5_larger_152 : decode cX5_larger 152 = .ok (.iload_n 2, 1) := by decide +kernel
theorem dX5_larger_153 : decode cX5_larger 153 = .ok (.ireturn, 1) := by decide +kernel
set_option maxRecDepth 20000 in
theorem ggX5_known_X4_pairs : GoodIn wsX5_known wsX4_pairs := goodIn_r _ [9, 10, 11, 12, 13, 8, 14, 15, 28, 29, 30, 31, 32, 33, 34, 35, 36, 37, 38, 39, 40, 41, 42, 43, 16, 17, 18, 19, 20, 21, 22, 23, 24, 25, 26, 27] (by decide +kernel) (by decide +kernel)
set_option maxRecDepth 20000 in
theorem gX5_known_X4_pairs : GoodIn wsX5_known (wsV RX5 121 RX4 yX4_pairs wsX4_pairs) := goodIn_app (goodIn_of _ (by decide +kernel)) ggX5_known_X4_pairs
theorem dX5_known_0 : decode cX5_known 0 = .ok (.aload_n 0, 1) := by decide +kernel
theorem dX5_known_1 : decode cX5_known 1 = .ok (.iconst 0, 1) := by decide +kernel
theorem dX5_known_2 : decode cX5_known 2 = .ok (.putfield 46, 3) := by decide +kernel
theorem dX5_known_5 : decode cX5_known 5 = .ok (.aload_n 0, 1) := by decide +kernel
theorem dX5_known_6 : decode cX5_known 6 = .ok (.getfield 50, 3) := by decide +kernel
theorem dX5_known_9 : decode cX5_known 9 = .ok (.aload_n 0, 1) := by decide +kernel
theorem dX5_known_10 : decode cX5_known 10 = .ok (.getfield 57, 3) := by decide +kernel
theorem dX5_known_13 : decode cX5_known 13 = .ok (.imul, 1) := by decide +kernel
theorem dX5_known_14 : decode cX5_known 14 = .ok (.ifCond .ne 7, 3) := by decide +kernel
theorem dX5_known_17 : decode cX5_known 17 = .ok (.dconst 0, 1) := by decide +kernel
theorem dX5_known_18 : decode cX5_known 18 = .ok (.goto 22, 3) := by decide +kernel
theorem dX5_known_21 : decode cX5_known 21 = .ok (.aload_n 0, 1) := by decide +kernel
theorem dX5_known_22 : decode cX5_known 22 = .ok (.getfield 36, 3) := by decide +kernel
theorem dX5_known_25 : decode cX5_known 25 = .ok (.invokevirtual 121, 3) := by decide +kernel
theorem dX5_known_28 : decode cX5_known 28 = .ok (.i2d, 1) := by decide +kernel
theorem dX5_known_29 : decode cX5_known 29 = .ok (.aload_n 0, 1) := by decide +kernel
theorem dX5_known_30 : decode cX5_known 30 = .ok (.getfield 50, 3) := by decide +kernel
theorem dX5_known_33 : decode cX5_known 33 = .ok (.aload_n 0, 1) := by decide +kernel
theorem dX5_known_34 : decode cX5_known 34 = .ok (.getfield 57, 3) := by decide +kernel
theorem dX5_known_37 : decode cX5_known 37 = .ok (.imul, 1) := by decide +kernel
theorem dX5_known_38 : decode cX5_known 38 = .ok (.i2d, 1) := by decide +kernel
theorem dX5_known_39 : decode cX5_known 39 = .ok (.ddiv, 1) := by decide +kernel
theorem dX5_known_40 : decode cX5_known 40 = .ok (.dreturn, 1) := by decide +kernel
set_option maxRecDepth 20000 in
theorem ggX5_digest_X5_counted : GoodIn wsX5_digest wsX5_counted := goodIn_r _ [12, 6, 7, 13, 4, 14, 15, 16, 17, 18, 19, 20, 21, 22, 23, 24, 45, 46, 47, 48, 49, 50, 51, 52, 53, 54, 55, 56, 57, 58, 59, 60, 61, 62, 63, 64, 65, 66, 67, 68, 69, 70, 71, 72] (by decide +kernel) (by decide +kernel)
set_option maxRecDepth 20000 in
theorem gX5_digest_X5_counted : GoodIn wsX5_digest (wsV RX5 125 RX5 yX5_counted wsX5_counted) := goodIn_app (goodIn_of _ (by decide +kernel)) ggX5_digest_X5_counted
set_option maxRecDepth 20000 in
theorem ggX5_digest_X5_villageTold : GoodIn wsX5_digest wsX5_villageTold := goodIn_r _ [28, 4, 7, 13, 29, 30, 31, 32, 33, 34, 17, 35, 36, 19, 45, 46, 47, 48, 49, 50, 51, 52, 53, 54, 55, 56, 57, 58, 59, 60, 61, 62, 63, 64, 65, 66, 67, 68, 69, 70, 71, 72] (by decide +kernel) (by decide +kernel)
set_option maxRecDepth 20000 in
theorem gX5_digest_X5_villageTold : GoodIn wsX5_digest (wsV RX5 102 RX5 yX5_villageTold wsX5_villageTold) := goodIn_app (goodIn_of _ (by decide +kernel)) ggX5_digest_X5_villageTold
set_option maxRecDepth 20000 in
theorem ggX5_digest_X4_lasting : GoodIn wsX5_digest wsX4_lasting := goodIn_r _ [40, 41, 42, 43, 36, 44, 57, 58, 59, 60, 61, 62, 63, 64, 65, 66, 67, 68, 69, 70, 71, 72] (by decide +kernel) (by decide +kernel)
set_option maxRecDepth 20000 in
theorem gX5_digest_X4_lasting : GoodIn wsX5_digest (wsV RX5 109 RX4 yX4_lasting wsX4_lasting) := goodIn_app (goodIn_of _ (by decide +kernel)) ggX5_digest_X4_lasting
theorem dX5_digest_0 : decode cX5_digest 0 = .ok (.aload_n 0, 1) := by decide +kernel
theorem dX5_digest_1 : decode cX5_digest 1 = .ok (.iconst 0, 1) := by decide +kernel
theorem dX5_digest_2 : decode cX5_digest 2 = .ok (.putfield 46, 3) := by decide +kernel
theorem dX5_digest_5 : decode cX5_digest 5 = .ok (.ldc2_w 144, 3) := by decide +kernel
theorem dX5_digest_8 : decode cX5_digest 8 = .ok (.lstore_n 1, 1) := by decide +kernel
theorem dX5_digest_9 : decode cX5_digest 9 = .ok (.iconst 0, 1) := by decide +kernel
theorem dX5_digest_10 : decode cX5_digest 10 = .ok (.istore_n 3, 1) := by decide +kernel
theorem dX5_digest_11 : decode cX5_digest 11 = .ok (.iload_n 3, 1) := by decide +kernel
theorem dX5_digest_12 : decode cX5_digest 12 = .ok (.bipush 8, 2) := by decide +kernel
theorem dX5_digest_14 : decode cX5_digest 14 = .ok (.if_icmp .ge 22, 3) := by decide +kernel
theorem dX5_digest_17 : decode cX5_digest 17 = .ok (.lload_n 1, 1) := by decide +kernel
theorem dX5_digest_18 : decode cX5_digest 18 = .ok (.ldc2_w 146, 3) := by decide +kernel
theorem dX5_digest_21 : decode cX5_digest 21 = .ok (.lmul, 1) := by decide +kernel
theorem dX5_digest_22 : decode cX5_digest 22 = .ok (.aload_n 0, 1) := by decide +kernel
theorem dX5_digest_23 : decode cX5_digest 23 = .ok (.iload_n 3, 1) := by decide +kernel
theorem dX5_digest_24 : decode cX5_digest 24 = .ok (.invokevirtual 125, 3) := by decide +kernel
theorem dX5_digest_27 : decode cX5_digest 27 = .ok (.i2l, 1) := by decide +kernel
theorem dX5_digest_28 : decode cX5_digest 28 = .ok (.ladd, 1) := by decide +kernel
theorem dX5_digest_29 : decode cX5_digest 29 = .ok (.lstore_n 1, 1) := by decide +kernel
theorem dX5_digest_30 : decode cX5_digest 30 = .ok (.iinc 3 1, 3) := by decide +kernel
theorem dX5_digest_33 : decode cX5_digest 33 = .ok (.goto (-22), 3) := by decide +kernel
theorem dX5_digest_36 : decode cX5_digest 36 = .ok (.iconst 0, 1) := by decide +kernel
theorem dX5_digest_37 : decode cX5_digest 37 = .ok (.istore_n 3, 1) := by decide +kernel
theorem dX5_digest_38 : decode cX5_digest 38 = .ok (.iload_n 3, 1) := by decide +kernel
theorem dX5_digest_39 : decode cX5_digest 39 = .ok (.aload_n 0, 1) := by decide +kernel
theorem dX5_digest_40 : decode cX5_digest 40 = .ok (.getfield 57, 3) := by decide +kernel
theorem dX5_digest_43 : decode cX5_digest 43 = .ok (.if_icmp .ge 23, 3) := by decide +kernel
theorem dX5_digest_46 : decode cX5_digest 46 = .ok (.lload_n 1, 1) := by decide +kernel
theorem dX5_digest_47 : decode cX5_digest 47 = .ok (.ldc2_w 146, 3) := by decide +kernel
theorem dX5_digest_50 : decode cX5_digest 50 = .ok (.lmul, 1) := by decide +kernel
theorem dX5_digest_51 : decode cX5_digest 51 = .ok (.aload_n 0, 1) := by decide +kernel
theorem dX5_digest_52 : decode cX5_digest 52 = .ok (.getfield 25, 3) := by decide +kernel
theorem dX5_digest_55 : decode cX5_digest 55 = .ok (.iload_n 3, 1) := by decide +kernel
theorem dX5_digest_56 : decode cX5_digest 56 = .ok (.iaload, 1) := by decide +kernel
theorem dX5_digest_57 : decode cX5_digest 57 = .ok (.i2l, 1) := by decide +kernel
theorem dX5_digest_58 : decode cX5_digest 58 = .ok (.ladd, 1) := by decide +kernel
theorem dX5_digest_59 : decode cX5_digest 59 = .ok (.lstore_n 1, 1) := by decide +kernel
theorem dX5_digest_60 : decode cX5_digest 60 = .ok (.iinc 3 1, 3) := by decide +kernel
theorem dX5_digest_63 : decode cX5_digest 63 = .ok (.goto (-25), 3) := by decide +kernel
theorem dX5_digest_66 : decode cX5_digest 66 = .ok (.iconst 0, 1) := by decide +kernel
theorem dX5_digest_67 : decode cX5_digest 67 = .ok (.istore_n 3, 1) := by decide +kernel
theorem dX5_digest_68 : decode cX5_digest 68 = .ok (.iload_n 3, 1) := by decide +kernel
theorem dX5_digest_69 : decode cX5_digest 69 = .ok (.aload_n 0, 1) := by decide +kernel
theorem dX5_digest_70 : decode cX5_digest 70 = .ok (.getfield 50, 3) := by decide +kernel
theorem dX5_digest_73 : decode cX5_digest 73 = .ok (.if_icmp .ge 142, 3) := by decide +kernel
theorem dX5_digest_76 : decode cX5_digest 76 = .ok (.iconst 0, 1) := by decide +kernel
theorem dX5_digest_77 : decode cX5_digest 77 = .ok (.istore 4, 2) := by decide +kernel
theorem dX5_digest_79 : decode cX5_digest 79 = .ok (.iload 4, 2) := by decide +kernel
theorem dX5_digest_81 : decode cX5_digest 81 = .ok (.bipush 10, 2) := by decide +kernel
theorem dX5_digest_83 : decode cX5_digest 83 = .ok (.if_icmp .ge 24, 3) := by decide +kernel
theorem dX5_digest_86 : decode cX5_digest 86 = .ok (.lload_n 1, 1) := by decide +kernel
theorem dX5_digest_87 : decode cX5_digest 87 = .ok (.ldc2_w 146, 3) := by decide +kernel
theorem dX5_digest_90 : decode cX5_digest 90 = .ok (.lmul, 1) := by decide +kernel
theorem dX5_digest_91 : decode cX5_digest 91 = .ok (.aload_n 0, 1) := by decide +kernel
theorem dX5_digest_92 : decode cX5_digest 92 = .ok (.iload_n 3, 1) := by decide +kernel
theorem dX5_digest_93 : decode cX5_digest 93 = .ok (.iload 4, 2) := by decide +kernel
theorem dX5_digest_95 : decode cX5_digest 95 = .ok (.invokevirtual 102, 3) := by decide +kernel
theorem dX5_digest_98 : decode cX5_digest 98 = .ok (.i2l, 1) := by decide +kernel
theorem dX5_digest_99 : decode cX5_digest 99 = .ok (.ladd, 1) := by decide +kernel
theorem dX5_digest_100 : decode cX5_digest 100 = .ok (.lstore_n 1, 1) := by decide +kernel
theorem dX5_digest_101 : decode cX5_digest 101 = .ok (.iinc 4 1, 3) := by decide +kernel
theorem dX5_digest_104 : decode cX5_digest 104 = .ok (.goto (-25), 3) := by decide +kernel
theorem dX5_digest_107 : decode cX5_digest 107 = .ok (.lload_n 1, 1) := by decide +kernel
theorem dX5_digest_108 : decode cX5_digest 108 = .ok (.ldc2_w 146, 3) := by decide +kernel
theorem dX5_digest_111 : decode cX5_digest 111 = .ok (.lmul, 1) := by decide +kernel
theorem dX5_digest_112 : decode cX5_digest 112 = .ok (.aload_n 0, 1) := by decide +kernel
theorem dX5_digest_113 : decode cX5_digest 113 = .ok (.getfield 36, 3) := by decide +kernel
theorem dX5_digest_116 : decode cX5_digest 116 = .ok (.iload_n 3, 1) := by decide +kernel
theorem dX5_digest_117 : decode cX5_digest 117 = .ok (.invokevirtual 109, 3) := by decide +kernel
theorem dX5_digest_120 : decode cX5_digest 120 = .ok (.i2l, 1) := by decide +kernel
theorem dX5_digest_121 : decode cX5_digest 121 = .ok (.ladd, 1) := by decide +kernel
theorem dX5_digest_122 : decode cX5_digest 122 = .ok (.lstore_n 1, 1) := by decide +kernel
theorem dX5_digest_123 : decode cX5_digest 123 = .ok (.iconst 0, 1) := by decide +kernel
theorem dX5_digest_124 : decode cX5_digest 124 = .ok (.istore 4, 2) := by decide +kernel
theorem dX5_digest_126 : decode cX5_digest 126 = .ok (.iload 4, 2) := by decide +kernel
theorem dX5_digest_128 : decode cX5_digest 128 = .ok (.aload_n 0, 1) := by decide +kernel
theorem dX5_digest_129 : decode cX5_digest 129 = .ok (.getfield 36, 3) := by decide +kernel
theorem dX5_digest_132 : decode cX5_digest 132 = .ok (.getfield 82, 3) := by decide +kernel
theorem dX5_digest_135 : decode cX5_digest 135 = .ok (.iload_n 3, 1) := by decide +kernel
theorem dX5_digest_136 : decode cX5_digest 136 = .ok (.iaload, 1) := by decide +kernel
theorem dX5_digest_137 : decode cX5_digest 137 = .ok (.if_icmp .ge 31, 3) := by decide +kernel
theorem dX5_digest_140 : decode cX5_digest 140 = .ok (.lload_n 1, 1) := by decide +kernel
theorem dX5_digest_141 : decode cX5_digest 141 = .ok (.ldc2_w 146, 3) := by decide +kernel
theorem dX5_digest_144 : decode cX5_digest 144 = .ok (.lmul, 1) := by decide +kernel
theorem dX5_digest_145 : decode cX5_digest 145 = .ok (.aload_n 0, 1) := by decide +kernel
theorem dX5_digest_146 : decode cX5_digest 146 = .ok (.getfield 36, 3) := by decide +kernel
theorem dX5_digest_149 : decode cX5_digest 149 = .ok (.getfield 106, 3) := by decide +kernel
theorem dX5_digest_152 : decode cX5_digest 152 = .ok (.iconst 5, 1) := by decide +kernel
theorem dX5_digest_153 : decode cX5_digest 153 = .ok (.iload_n 3, 1) := by decide +kernel
theorem dX5_digest_154 : decode cX5_digest 154 = .ok (.imul, 1) := by decide +kernel
theorem dX5_digest_155 : decode cX5_digest 155 = .ok (.iload 4, 2) := by decide +kernel
theorem dX5_digest_157 : decode cX5_digest 157 = .ok (.iadd, 1) := by decide +kernel
theorem dX5_digest_158 : decode cX5_digest 158 = .ok (.iaload, 1) := by decide +kernel
theorem dX5_digest_159 : decode cX5_digest 159 = .ok (.i2l, 1) := by decide +kernel
theorem dX5_digest_160 : decode cX5_digest 160 = .ok (.ladd, 1) := by decide +kernel
theorem dX5_digest_161 : decode cX5_digest 161 = .ok (.lstore_n 1, 1) := by decide +kernel
theorem dX5_digest_162 : decode cX5_digest 162 = .ok (.iinc 4 1, 3) := by decide +kernel
theorem dX5_digest_165 : decode cX5_digest 165 = .ok (.goto (-39), 3) := by decide +kernel
theorem dX5_digest_168 : decode cX5_digest 168 = .ok (.iconst 0, 1) := by decide +kernel
theorem dX5_digest_169 : decode cX5_digest 169 = .ok (.istore 4, 2) := by decide +kernel
theorem dX5_digest_171 : decode cX5_digest 171 = .ok (.iload 4, 2) := by decide +kernel
theorem dX5_digest_173 : decode cX5_digest 173 = .ok (.aload_n 0, 1) := by decide +kernel
theorem dX5_digest_174 : decode cX5_digest 174 = .ok (.getfield 57, 3) := by decide +kernel
theorem dX5_digest_177 : decode cX5_digest 177 = .ok (.if_icmp .ge 32, 3) := by decide +kernel
theorem dX5_digest_180 : decode cX5_digest 180 = .ok (.lload_n 1, 1) := by decide +kernel
theorem dX5_digest_181 : decode cX5_digest 181 = .ok (.ldc2_w 146, 3) := by decide +kernel
theorem dX5_digest_184 : decode cX5_digest 184 = .ok (.lmul, 1) := by decide +kernel
theorem dX5_digest_185 : decode cX5_digest 185 = .ok (.aload_n 0, 1) := by decide +kernel
theorem dX5_digest_186 : decode cX5_digest 186 = .ok (.getfield 36, 3) := by decide +kernel
theorem dX5_digest_189 : decode cX5_digest 189 = .ok (.getfield 43, 3) := by decide +kernel
theorem dX5_digest_192 : decode cX5_digest 192 = .ok (.bipush 12, 2) := by decide +kernel
theorem dX5_digest_194 : decode cX5_digest 194 = .ok (.iload_n 3, 1) := by decide +kernel
theorem dX5_digest_195 : decode cX5_digest 195 = .ok (.imul, 1) := by decide +kernel
theorem dX5_digest_196 : decode cX5_digest 196 = .ok (.iload 4, 2) := by decide +kernel
theorem dX5_digest_198 : decode cX5_digest 198 = .ok (.iadd, 1) := by decide +kernel
theorem dX5_digest_199 : decode cX5_digest 199 = .ok (.iaload, 1) := by decide +kernel
theorem dX5_digest_200 : decode cX5_digest 200 = .ok (.i2l, 1) := by decide +kernel
theorem dX5_digest_201 : decode cX5_digest 201 = .ok (.ladd, 1) := by decide +kernel
theorem dX5_digest_202 : decode cX5_digest 202 = .ok (.lstore_n 1, 1) := by decide +kernel
theorem dX5_digest_203 : decode cX5_digest 203 = .ok (.iinc 4 1, 3) := by decide +kernel
theorem dX5_digest_206 : decode cX5_digest 206 = .ok (.goto (-35), 3) := by decide +kernel
theorem dX5_digest_209 : decode cX5_digest 209 = .ok (.iinc 3 1, 3) := by decide +kernel
theorem dX5_digest_212 : decode cX5_digest 212 = .ok (.goto (-144), 3) := by decide +kernel
theorem dX5_digest_215 : decode cX5_digest 215 = .ok (.lload_n 1, 1) := by decide +kernel
theorem dX5_digest_216 : decode cX5_digest 216 = .ok (.lreturn, 1) := by decide +kernel
end
section
/-! Our own words over the kit's rows: one memory of numbers for the whole world, keys for its cells. -/
abbrev Ky : Type := Nat × Nat × Nat
abbrev Mm : Type := Ky → Nat → Int
abbrev vI (z : Int) : Value := .int (Int32.ofInt z)
def inR (z : Int) : Prop := -2147483648 ≤ z ∧ z < 2147483648
def rng (w : Mm) : Prop := ∀ k j, inR (w k j)
def st1 (w : Mm) (k : Ky) (j : Nat) (x : Int) : Mm := fun k' j' => if k' = k ∧ j' = j then x else w k' j'
theorem st1_eq (w : Mm) (k : Ky) (j : Nat) (x : Int) : st1 w k j x k j = x := by simp [st1]
theorem st1_j {w : Mm} {k : Ky} {j j' : Nat} {x : Int} (h : j' ≠ j) : st1 w k j x k j' = w k j' := by simp [st1, h]
theorem st1_k {w : Mm} {k k' : Ky} {j j' : Nat} {x : Int} (h : k' ≠ k) : st1 w k j x k' j' = w k' j' := by simp [st1, h]
theorem rng_st {w : Mm} {k : Ky} {j : Nat} {x : Int} (h : rng w) (hx : inR x) : rng (st1 w k j x) := by
  intro k' j'
  unfold st1
  split
  · exact hx
  · exact h k' j'
theorem tI {z : Int} (h : inR z) : (Int32.ofInt z).toInt = z := by
  refine Int32.toInt_ofInt_of_le ?_ ?_
  · have := h.1; omega
  · have := h.2; omega
theorem inR_of (x : Int32) : inR x.toInt := by
  have h1 := Int32.le_toInt x
  have h2 := Int32.toInt_lt x
  exact ⟨by omega, by omega⟩
/-- what kind of cell a key is: 0 Land, 1 Sounds, 2 Village, 3 DrumTalk, 4 State, 5 Model, 6 a row of numbers, 7 the villages, 8 a row of longs, 9 none -/
def kd (k : Ky) : Nat × Nat :=
  if k.1 ≤ 1 then
    if k.2.1 ≤ 7 then
      (match k.2.2 with | 0 => (2, 0) | 1 => (6, 5) | 2 => (6, 12) | 3 => (1, 0) | 4 => (6, 112) | 5 => (6, 112) | 6 => (6, 112) | 7 => (6, 112) | _ => (9, 0))
    else if k.2.1 = 8 then
      (match k.2.2 with | 0 => (0, 0) | 1 => (6, 12) | 2 => (6, 12) | 3 => (7, 8) | _ => (9, 0))
    else (9, 0)
  else if k.2.1 = 0 then
    (match k.1 with
    | 2 => (match k.2.2 with | 0 => (3, 0) | _ => (9, 0))
    | 3 => (match k.2.2 with | 0 => (5, 0) | 1 => (6, 8) | 2 => (6, 8) | 3 => (6, 8) | 4 => (6, 8) | 5 => (6, 8) | 6 => (6, 12) | 7 => (6, 12) | _ => (9, 0))
    | 4 | 5 => (match k.2.2 with | 0 => (4, 0) | 1 => (6, 8) | 2 => (6, 8) | 3 => (6, 8) | 4 => (6, 8) | 5 => (6, 40) | 6 => (6, 96) | 7 => (6, 8) | 8 => (6, 1024) | 9 => (6, 1024) | 10 => (6, 1024) | 11 => (6, 1024) | 12 => (6, 1024) | _ => (9, 0))
    | 6 => (match k.2.2 with | 0 => (8, 1) | _ => (9, 0))
    | 7 => (match k.2.2 with | 0 => (6, 10) | 1 => (6, 8) | _ => (9, 0))
    | _ => (9, 0))
  else (9, 0)
/-- the world's fixed things: the classes' numbers; which keys stand; where -/
abbrev Gt : Type := va_G × (ClassId × ClassId × ClassId) × (Ky → Prop) × (Ky → Nat)
def adr (G : Gt) (k : Ky) : Nat := G.2.2.2 k
def okk (G : Gt) (k : Ky) : Prop := G.2.2.1 k
def flds (ad : Ky → Nat) (w : Mm) (k : Ky) (ci : Nat) : List Value := match ci with
  | 0 => [.ref (ad (k.1, 8, 3)), vI (w k 1), .ref (ad (k.1, 8, 1)), .ref (ad (k.1, 8, 2)), vI (w k 4), vI (w k 5), vI (w k 6)]
  | 1 => [.ref (ad (k.1, k.2.1, 4)), .ref (ad (k.1, k.2.1, 5)), .ref (ad (k.1, k.2.1, 6)), .ref (ad (k.1, k.2.1, 7)), vI (w k 4)]
  | 2 => [vI (w k 0), vI (w k 1), vI (w k 2), vI (w k 3), vI (w k 4), vI (w k 5), vI (w k 6), vI (w k 7), .ref (ad (k.1, k.2.1, 1)), vI (w k 9), .ref (ad (k.1, k.2.1, 2)), .ref (ad (k.1, k.2.1, 3)), vI (w k 12)]
  | 3 => [.ref (ad (0, 8, 0)), .ref (ad (1, 8, 0))]
  | 4 => [vI (w k 0), vI (w k 1), vI (w k 2), .ref (ad (k.1, 0, 1)), .ref (ad (k.1, 0, 2)), .ref (ad (k.1, 0, 3)), .ref (ad (k.1, 0, 4)), .ref (ad (k.1, 0, 5)), .ref (ad (k.1, 0, 6)), .ref (ad (k.1, 0, 7)), .ref (ad (k.1, 0, 8)), .ref (ad (k.1, 0, 9)), .ref (ad (k.1, 0, 10)), .ref (ad (k.1, 0, 11)), .ref (ad (k.1, 0, 12)), .ref (ad (3, 0, 0))]
  | 5 => [vI (w k 0), vI (w k 1), vI (w k 2), .ref (ad (3, 0, 1)), .ref (ad (3, 0, 2)), .ref (ad (3, 0, 3)), .ref (ad (3, 0, 4)), .ref (ad (3, 0, 5)), .ref (ad (3, 0, 6)), .ref (ad (3, 0, 7)), .ref (ad (4, 0, 0)), .ref (ad (5, 0, 0))]
  | _ => []
def ent (c3 : ClassId × ClassId × ClassId) (ad : Ky → Nat) (w : Mm) (k : Ky) : va_E := match kd k with
  | (6, n) => .inl (c3.1, n, .inl (fun j => Int32.ofInt (w k j)))
  | (7, n) => .inl (c3.2.1, n, .inr (.inr (.inr (.inr (fun j => some (ad (k.1, j, 0)))))))
  | (8, n) => .inl (c3.2.2, n, .inr (.inl (fun j => Int64.ofInt (w k j))))
  | (ci, _) => .inr (ci, flds ad w k ci)
def Pic (G : Gt) (w : Mm) (H : Heap) : Prop := rng w ∧ ∀ k, okk G k → va_at G.1 vwCl (adr G k, ent G.2.1 (adr G) w k) H
abbrev tysG (G : Gt) : List (ClassId × FieldType) := [(G.2.1.1, .int), (G.2.1.2.1, .object RX2), (G.2.1.2.2, .long)]
def Gok (G : Gt) : Prop := (∀ k k', okk G k → okk G k' → adr G k = adr G k' → k = k') ∧ ∀ k, (kd k).1 < 9 → k.1 ≤ 6 → okk G k
abbrev Bx : Type := Program × Launch × Env × Room × State × MethodId × Array Value × List Frame × Method × Code
/-- a walk over any heap that holds the memory w -/
def Wm (B : Bx) (nL : Nat) (G : Gt) (A : Nat → Prop) (Q : State → Prop) (w : Mm) (cells slots pc : Nat) (lv : List (Nat × Value)) (st : List Value) : Prop :=
  ∀ (H : Heap) (locs : List Loc) (ls : Array Slot), Pic G w H → va_S A B.2.2.2.2.1.heap H locs → lv_has ls nL lv → W B.1 B.2.1 B.2.2.1 B.2.2.2.1 B.2.2.2.2.1 B.2.2.2.2.2.1 B.2.2.2.2.2.2.1 B.2.2.2.2.2.2.2.1 B.2.2.2.2.2.2.2.2.1 B.2.2.2.2.2.2.2.2.2 H locs cells slots Q (F0 B.2.2.2.2.2.1 pc ls st)
def Ag (G : Gt) (sz : Nat) : Nat → Prop := fun q => (∃ k, okk G k ∧ adr G k = q) ∨ sz ≤ q
/-- what stands while a method is walked -/
def Cx (B : Bx) (nL : Nat) (G : Gt) (A : Nat → Prop) (cc : ByteArray) (own : String) (Ts : List Cond) (ret : Option FieldType) (Rm : Room) : Prop :=
  B.1.tables.exec = Jvm.exec ∧ B.2.2.2.2.2.2.2.2.2.code = cc ∧ B.2.2.2.2.2.2.2.2.2.maxLocals = nL ∧ B.2.2.2.2.1.vm.findClass own = some B.2.2.2.2.2.1.cls ∧ (∀ w ∈ Ts, w.before B.2.2.2.2.2.2.1 B.2.2.2.2.1 = true) ∧ va_K G.1 vwCl (tysG G) B.2.2.2.2.1 ∧ Gok G ∧ (∀ k, okk G k → A (adr G k)) ∧ (∀ q : Nat, B.2.2.2.2.1.heap.size ≤ q → A q) ∧ B.2.2.2.2.2.2.2.2.1.locks = false ∧ B.2.2.2.2.2.2.2.2.1.sig.returnType = ret ∧ B.2.2.2.1 = Rm
def Qw (G : Gt) (v : Option Value) (w' : Mm) (A : Nat → Prop) : Array Value → State → Outcome → State → Prop := fun _ st oc t => oc = .returned v ∧ Pic G w' t.heap ∧ va_F A st t
def Pw (G : Gt) (w : Mm) (sz : Nat) (av : List Value) : Array Value → State → Prop := fun v U => v = av.toArray ∧ U.heap.size = sz ∧ Pic G w U.heap ∧ va_K G.1 vwCl (tysG G) U
theorem Pw.blind {G : Gt} {w : Mm} {sz : Nat} {av : List Value} : FrameBlind (Pw G w sz av) := fun a U g mk q => by
  obtain ⟨q0, q1, qP, qK⟩ := q
  exact ⟨q0, q1, qP, va_K.moved (u := U) (U := U.calling g mk a) (Vm.Alike.refl U.vm) qK⟩
/-- a contract over the whole world: it answers v, and the memory is w' -/
def Con (l : Launch) (G : Gt) (y : MethodName) (ws : List Cond) (rm : Room) (w : Mm) (av : List Value) (v : Option Value) (w' : Mm) (mc ms : Nat) : Prop :=
  ∀ sz : Nat, Met l y ws rm (Pw G w sz av) (Qw G v w' (Ag G sz)) mc ms (Ag G sz)
abbrev Qe (B : Bx) (G : Gt) (A : Nat → Prop) (v : Option Value) (w' : Mm) (mc ms : Nat) : State → Prop := MQ B.2.2.2.2.2.2.2.1 (Qw G v w' A) B.2.2.2.2.2.2.1 B.2.2.2.2.1 mc ms A
theorem Con.head {l : Launch} {G : Gt} {y : MethodName} {ws ws' : List Cond} {rm : Room} {w : Mm} {av : List Value} {v : Option Value} {w' : Mm} {mc ms : Nat} {cc : ByteArray} {nL : Nat} {ret : Option FieldType}
    (hG : Gok G) (hy : plainName y.cls = true) (hw : ws = Cond.code y cc nL ret :: ws') (hn : (lg_sl av).length ≤ nL)
    (body : ∀ (B : Bx) (A : Nat → Prop), B.2.1 = l → Cx B nL G A cc y.cls ws ret rm → rng w → Wm B nL G A (Qe B G A v w' mc ms) w 0 0 0 (lv_args 0 av) []) : Con l G y ws rm w av v w' mc ms := by
  intro sz
  refine Met.ofW (cc := cc) (maxL := nL) (ret := ret) hy hw ?_
  intro p e s m args below meth c s₁ B hml hv
  obtain ⟨rfl, hsz, hP, hK⟩ := hv
  have hts := atoms_spec (ws := ws) B.pre
  have hown : s.vm.findClass y.cls = some m.cls := findClass_of_methodNamed B.named
  subst hsz
  have hl := lv_entry av hn
  rw [lg_entry_eq]
  refine body (p, l, e, (headSpec ws rm).room, s, m, av.toArray, below, meth, c) (Ag G s.heap.size) rfl ⟨B.exec, B.bytes, hml, hown, hts, hK, hG, fun k hk => Or.inl ⟨k, hk, rfl⟩, fun q h => Or.inr h, B.notSynchronized, B.returns, rfl⟩ hP.1 s.heap [] _ hP va_S.rf hl

/-! numbers -/
theorem ci_eq1 {a b : Int} (ha : inR a) (hb : inR b) (h : Int32.ofInt a = Int32.ofInt b) : a = b := by rw [← tI ha, ← tI hb, h]
theorem ci_eq2 {a b : Int} (_ : inR a) (_ : inR b) (h : ¬ Int32.ofInt a = Int32.ofInt b) : ¬ a = b := fun q => h (by rw [q])
theorem ci_ne1 {a b : Int} (_ : inR a) (_ : inR b) (h : ¬ Int32.ofInt a = Int32.ofInt b) : ¬ a = b := fun q => h (by rw [q])
theorem ci_ne2 {a b : Int} (ha : inR a) (hb : inR b) (h : Int32.ofInt a = Int32.ofInt b) : a = b := by rw [← tI ha, ← tI hb, h]
theorem ci_lt {a b : Int} (ha : inR a) (hb : inR b) : Int32.ofInt a < Int32.ofInt b ↔ a < b := by rw [Int32.lt_iff_toInt_lt, tI ha, tI hb]
theorem ci_le {a b : Int} (ha : inR a) (hb : inR b) : Int32.ofInt a ≤ Int32.ofInt b ↔ a ≤ b := by rw [Int32.le_iff_toInt_le, tI ha, tI hb]
theorem ci_lt1 {a b : Int} (ha : inR a) (hb : inR b) (h : Int32.ofInt a < Int32.ofInt b) : a < b := (ci_lt ha hb).mp h
theorem ci_lt2 {a b : Int} (ha : inR a) (hb : inR b) (h : ¬ Int32.ofInt a < Int32.ofInt b) : b ≤ a := Int.not_lt.mp (fun q => h ((ci_lt ha hb).mpr q))
theorem ci_ge1 {a b : Int} (ha : inR a) (hb : inR b) (h : Int32.ofInt b ≤ Int32.ofInt a) : b ≤ a := (ci_le hb ha).mp h
theorem ci_ge2 {a b : Int} (ha : inR a) (hb : inR b) (h : ¬ Int32.ofInt b ≤ Int32.ofInt a) : a < b := Int.not_le.mp (fun q => h ((ci_le hb ha).mpr q))
theorem ci_gt1 {a b : Int} (ha : inR a) (hb : inR b) (h : Int32.ofInt b < Int32.ofInt a) : b < a := (ci_lt hb ha).mp h
theorem ci_gt2 {a b : Int} (ha : inR a) (hb : inR b) (h : ¬ Int32.ofInt b < Int32.ofInt a) : a ≤ b := Int.not_lt.mp (fun q => h ((ci_lt hb ha).mpr q))
theorem ci_le1 {a b : Int} (ha : inR a) (hb : inR b) (h : Int32.ofInt a ≤ Int32.ofInt b) : a ≤ b := (ci_le ha hb).mp h
theorem ci_le2 {a b : Int} (ha : inR a) (hb : inR b) (h : ¬ Int32.ofInt a ≤ Int32.ofInt b) : b < a := Int.not_le.mp (fun q => h ((ci_le ha hb).mpr q))
theorem inR_0 : inR 0 := ⟨by decide, by decide⟩
theorem oi0 : Int32.ofInt 0 = 0 := rfl
theorem c0_eq1 {a : Int} (ha : inR a) (h : Int32.ofInt a = 0) : a = 0 := ci_eq1 ha inR_0 h
theorem c0_eq2 {a : Int} (ha : inR a) (h : ¬ Int32.ofInt a = 0) : ¬ a = 0 := ci_eq2 ha inR_0 h
theorem c0_ne1 {a : Int} (ha : inR a) (h : ¬ Int32.ofInt a = 0) : ¬ a = 0 := ci_eq2 ha inR_0 h
theorem c0_ne2 {a : Int} (ha : inR a) (h : Int32.ofInt a = 0) : a = 0 := ci_eq1 ha inR_0 h
theorem c0_lt1 {a : Int} (ha : inR a) (h : Int32.ofInt a < 0) : a < 0 := ci_lt1 ha inR_0 h
theorem c0_lt2 {a : Int} (ha : inR a) (h : ¬ Int32.ofInt a < 0) : 0 ≤ a := ci_lt2 ha inR_0 h
theorem c0_ge1 {a : Int} (ha : inR a) (h : 0 ≤ Int32.ofInt a) : 0 ≤ a := ci_ge1 ha inR_0 h
theorem c0_ge2 {a : Int} (ha : inR a) (h : ¬ 0 ≤ Int32.ofInt a) : a < 0 := ci_ge2 ha inR_0 h
theorem c0_gt1 {a : Int} (ha : inR a) (h : 0 < Int32.ofInt a) : 0 < a := ci_gt1 ha inR_0 h
theorem c0_gt2 {a : Int} (ha : inR a) (h : ¬ 0 < Int32.ofInt a) : a ≤ 0 := ci_gt2 ha inR_0 h
theorem c0_le1 {a : Int} (ha : inR a) (h : Int32.ofInt a ≤ 0) : a ≤ 0 := ci_le1 ha inR_0 h
theorem c0_le2 {a : Int} (ha : inR a) (h : ¬ Int32.ofInt a ≤ 0) : 0 < a := ci_le2 ha inR_0 h
theorem div_ne {b : Int} (h : 0 < b) (h2 : b < 2147483648) : ¬ Int32.ofInt b = 0 := fun q => by
  have := c0_eq1 ⟨by omega, h2⟩ q
  omega
theorem div_eq {a b : Int} (ha : 0 ≤ a) (ha2 : a < 2147483648) (hb : 0 < b) (hb2 : b < 2147483648) : Int32.ofInt a / Int32.ofInt b = Int32.ofInt (a / b) := by
  have h1 : (Int32.ofInt a).toInt = a := tI ⟨by omega, ha2⟩
  have h2 : (Int32.ofInt b).toInt = b := tI ⟨by omega, hb2⟩
  have h3 : 0 ≤ a / b := Int.ediv_nonneg ha (by omega)
  have h4 : a / b ≤ a := Int.ediv_le_self b ha
  apply Int32.toInt_inj.mp
  rw [Int32.toInt_div_of_ne_right _ _ (fun q => by rw [q] at h2; simp at h2; omega), h1, h2, tI ⟨by omega, by omega⟩]
  exact Int.tdiv_eq_ediv_of_nonneg ha
theorem rem_eq {a b : Int} (ha : 0 ≤ a) (ha2 : a < 2147483648) (hb : 0 < b) (hb2 : b < 2147483648) : Int32.ofInt a - Int32.ofInt a / Int32.ofInt b * Int32.ofInt b = Int32.ofInt (a % b) := by
  rw [div_eq ha ha2 hb hb2, ← Int32.ofInt_mul, ← Int32.ofInt_sub]
  congr 1
  have := Int.emod_add_mul_ediv a b
  rw [Int.mul_comm (a / b) b]
  omega
theorem i2l_eq {a : Int} (ha : inR a) : (Int32.ofInt a).toInt64 = Int64.ofInt a := by
  rw [← Int64.ofInt_int32ToInt, tI ha]

section ROWS
variable {B : Bx} {nL : Nat} {G : Gt} {A : Nat → Prop} {cc : ByteArray} {own : String} {Ts : List Cond} {ret : Option FieldType} {Rm : Room} {Q : State → Prop} {w : Mm} {cells slots pc : Nat} {lv : List (Nat × Value)} {st : List Value}

theorem r_iconst (C : Cx B nL G A cc own Ts ret Rm) {n : Int} (hd : decode cc pc = .ok (.iconst n, 1))  (kk : Wm B nL G A Q w cells slots (pc + 1) lv (vI n :: st)) : Wm B nL G A Q w cells slots pc lv (st) := by
  obtain ⟨p, l, e, R, s, m, args, below, meth, c⟩ := B
  intro H locs ls hP hS hl
  have kk := kk H locs ls hP hS hl
  
  exact lv_iconst C.1 C.2.1 hd rfl kk

theorem r_bipush (C : Cx B nL G A cc own Ts ret Rm) {n : Int} (hd : decode cc pc = .ok (.bipush n, 2)) (hn : (Int8.ofInt n).toInt32 = Int32.ofInt n) (kk : Wm B nL G A Q w cells slots (pc + 2) lv (vI n :: st)) : Wm B nL G A Q w cells slots pc lv (st) := by
  obtain ⟨p, l, e, R, s, m, args, below, meth, c⟩ := B
  intro H locs ls hP hS hl
  have kk := kk H locs ls hP hS hl
  
  exact lv_bipush C.1 C.2.1 hd hn kk

theorem r_sipush (C : Cx B nL G A cc own Ts ret Rm) {n : Int} (hd : decode cc pc = .ok (.sipush n, 3)) (hn : (Int16.ofInt n).toInt32 = Int32.ofInt n) (kk : Wm B nL G A Q w cells slots (pc + 3) lv (vI n :: st)) : Wm B nL G A Q w cells slots pc lv (st) := by
  obtain ⟨p, l, e, R, s, m, args, below, meth, c⟩ := B
  intro H locs ls hP hS hl
  have kk := kk H locs ls hP hS hl
  
  exact lv_sipush C.1 C.2.1 hd hn kk

theorem r_iload_n (C : Cx B nL G A cc own Ts ret Rm) {i : Fin 4} {k : Nat} {z : Int} (hd : decode cc pc = .ok (.iload_n i, 1)) (hk : lv[k]? = some ((i : Nat), vI z)) (kk : Wm B nL G A Q w cells slots (pc + 1) lv (vI z :: st)) : Wm B nL G A Q w cells slots pc lv (st) := by
  obtain ⟨p, l, e, R, s, m, args, below, meth, c⟩ := B
  intro H locs ls hP hS hl
  have kk := kk H locs ls hP hS hl
  
  exact lv_iload_n C.1 C.2.1 hd rfl (lv_at hl k hk) kk

theorem r_iload (C : Cx B nL G A cc own Ts ret Rm) {i : Nat} {k : Nat} {z : Int} (hd : decode cc pc = .ok (.iload i, 2)) (hk : lv[k]? = some (i, vI z)) (kk : Wm B nL G A Q w cells slots (pc + 2) lv (vI z :: st)) : Wm B nL G A Q w cells slots pc lv (st) := by
  obtain ⟨p, l, e, R, s, m, args, below, meth, c⟩ := B
  intro H locs ls hP hS hl
  have kk := kk H locs ls hP hS hl
  
  exact lv_iload C.1 C.2.1 hd (lv_at hl k hk) kk

theorem r_aload_n (C : Cx B nL G A cc own Ts ret Rm) {i : Fin 4} {k : Nat} {a : Nat} (hd : decode cc pc = .ok (.aload_n i, 1)) (hk : lv[k]? = some ((i : Nat), .ref a)) (kk : Wm B nL G A Q w cells slots (pc + 1) lv (.ref a :: st)) : Wm B nL G A Q w cells slots pc lv (st) := by
  obtain ⟨p, l, e, R, s, m, args, below, meth, c⟩ := B
  intro H locs ls hP hS hl
  have kk := kk H locs ls hP hS hl
  
  exact lv_aload_n C.1 C.2.1 hd rfl (lv_at hl k hk) kk

theorem r_aload (C : Cx B nL G A cc own Ts ret Rm) {i : Nat} {k : Nat} {a : Nat} (hd : decode cc pc = .ok (.aload i, 2)) (hk : lv[k]? = some (i, .ref a)) (kk : Wm B nL G A Q w cells slots (pc + 2) lv (.ref a :: st)) : Wm B nL G A Q w cells slots pc lv (st) := by
  obtain ⟨p, l, e, R, s, m, args, below, meth, c⟩ := B
  intro H locs ls hP hS hl
  have kk := kk H locs ls hP hS hl
  
  exact lv_aload C.1 C.2.1 hd (lv_at hl k hk) kk

theorem r_lload_n (C : Cx B nL G A cc own Ts ret Rm) {i : Fin 4} {k : Nat} {z : Int64} (hd : decode cc pc = .ok (.lload_n i, 1)) (hk : lv[k]? = some ((i : Nat), .long z)) (kk : Wm B nL G A Q w cells slots (pc + 1) lv (.long z :: st)) : Wm B nL G A Q w cells slots pc lv (st) := by
  obtain ⟨p, l, e, R, s, m, args, below, meth, c⟩ := B
  intro H locs ls hP hS hl
  have kk := kk H locs ls hP hS hl
  
  exact lv_lload_n C.1 C.2.1 hd rfl (lv_at hl k hk) kk

theorem r_lload (C : Cx B nL G A cc own Ts ret Rm) {i : Nat} {k : Nat} {z : Int64} (hd : decode cc pc = .ok (.lload i, 2)) (hk : lv[k]? = some (i, .long z)) (kk : Wm B nL G A Q w cells slots (pc + 2) lv (.long z :: st)) : Wm B nL G A Q w cells slots pc lv (st) := by
  obtain ⟨p, l, e, R, s, m, args, below, meth, c⟩ := B
  intro H locs ls hP hS hl
  have kk := kk H locs ls hP hS hl
  
  exact lv_lload C.1 C.2.1 hd (lv_at hl k hk) kk

theorem r_dload (C : Cx B nL G A cc own Ts ret Rm) {i : Nat} {k : Nat} {z : UInt64} (hd : decode cc pc = .ok (.dload i, 2)) (hk : lv[k]? = some (i, .double z)) (kk : Wm B nL G A Q w cells slots (pc + 2) lv (.double z :: st)) : Wm B nL G A Q w cells slots pc lv (st) := by
  obtain ⟨p, l, e, R, s, m, args, below, meth, c⟩ := B
  intro H locs ls hP hS hl
  have kk := kk H locs ls hP hS hl
  
  exact lv_dload C.1 C.2.1 hd (lv_at hl k hk) kk

theorem r_istore_n (C : Cx B nL G A cc own Ts ret Rm) {j : Fin 4} {i : Nat} {z : Int} {lv' : List (Nat × Value)} (hd : decode cc pc = .ok (.istore_n j, 1)) (hi : (j : Nat) = i) (hn : i < nL) (hl : (i, vI z) :: lv.filter (fun q => !(q.1 == i) && !(q.1 + 1 == i && q.2.category == 2)) = lv') (kk : Wm B nL G A Q w cells slots (pc + 1) lv' st) : Wm B nL G A Q w cells slots pc lv (vI z :: st) := by
  obtain ⟨p, l, e, R, s, m, args, below, meth, c⟩ := B
  intro H locs ls hP hS h
  exact lv_istore_n C.1 C.2.1 hd hi h hn hl (fun ls' h' => kk H locs ls' hP hS h')

theorem r_istore (C : Cx B nL G A cc own Ts ret Rm) {i : Nat} {z : Int} {lv' : List (Nat × Value)} (hd : decode cc pc = .ok (.istore i, 2))  (hn : i < nL) (hl : (i, vI z) :: lv.filter (fun q => !(q.1 == i) && !(q.1 + 1 == i && q.2.category == 2)) = lv') (kk : Wm B nL G A Q w cells slots (pc + 2) lv' st) : Wm B nL G A Q w cells slots pc lv (vI z :: st) := by
  obtain ⟨p, l, e, R, s, m, args, below, meth, c⟩ := B
  intro H locs ls hP hS h
  exact lv_istore C.1 C.2.1 hd  h hn hl (fun ls' h' => kk H locs ls' hP hS h')

theorem r_astore_n (C : Cx B nL G A cc own Ts ret Rm) {j : Fin 4} {i : Nat} {z : Nat} {lv' : List (Nat × Value)} (hd : decode cc pc = .ok (.astore_n j, 1)) (hi : (j : Nat) = i) (hn : i < nL) (hl : (i, .ref z) :: lv.filter (fun q => !(q.1 == i) && !(q.1 + 1 == i && q.2.category == 2)) = lv') (kk : Wm B nL G A Q w cells slots (pc + 1) lv' st) : Wm B nL G A Q w cells slots pc lv (.ref z :: st) := by
  obtain ⟨p, l, e, R, s, m, args, below, meth, c⟩ := B
  intro H locs ls hP hS h
  exact lv_astore_n C.1 C.2.1 hd hi h hn hl (fun ls' h' => kk H locs ls' hP hS h')

theorem r_astore (C : Cx B nL G A cc own Ts ret Rm) {i : Nat} {z : Nat} {lv' : List (Nat × Value)} (hd : decode cc pc = .ok (.astore i, 2))  (hn : i < nL) (hl : (i, .ref z) :: lv.filter (fun q => !(q.1 == i) && !(q.1 + 1 == i && q.2.category == 2)) = lv') (kk : Wm B nL G A Q w cells slots (pc + 2) lv' st) : Wm B nL G A Q w cells slots pc lv (.ref z :: st) := by
  obtain ⟨p, l, e, R, s, m, args, below, meth, c⟩ := B
  intro H locs ls hP hS h
  exact lv_astore C.1 C.2.1 hd  h hn hl (fun ls' h' => kk H locs ls' hP hS h')

theorem r_lstore_n (C : Cx B nL G A cc own Ts ret Rm) {j : Fin 4} {i : Nat} {z : Int64} {lv' : List (Nat × Value)} (hd : decode cc pc = .ok (.lstore_n j, 1)) (hi : (j : Nat) = i) (hn : i + 1 < nL) (hl : (i, .long z) :: lv.filter (fun q => !(q.1 == i) && (!(q.1 == i + 1) && !(q.1 + 1 == i && q.2.category == 2))) = lv') (kk : Wm B nL G A Q w cells slots (pc + 1) lv' st) : Wm B nL G A Q w cells slots pc lv (.long z :: st) := by
  obtain ⟨p, l, e, R, s, m, args, below, meth, c⟩ := B
  intro H locs ls hP hS h
  exact lv_lstore_n C.1 C.2.1 hd hi h hn hl (fun ls' h' => kk H locs ls' hP hS h')

theorem r_lstore (C : Cx B nL G A cc own Ts ret Rm) {i : Nat} {z : Int64} {lv' : List (Nat × Value)} (hd : decode cc pc = .ok (.lstore i, 2))  (hn : i + 1 < nL) (hl : (i, .long z) :: lv.filter (fun q => !(q.1 == i) && (!(q.1 == i + 1) && !(q.1 + 1 == i && q.2.category == 2))) = lv') (kk : Wm B nL G A Q w cells slots (pc + 2) lv' st) : Wm B nL G A Q w cells slots pc lv (.long z :: st) := by
  obtain ⟨p, l, e, R, s, m, args, below, meth, c⟩ := B
  intro H locs ls hP hS h
  exact lv_lstore C.1 C.2.1 hd  h hn hl (fun ls' h' => kk H locs ls' hP hS h')

theorem r_dstore (C : Cx B nL G A cc own Ts ret Rm) {i : Nat} {z : UInt64} {lv' : List (Nat × Value)} (hd : decode cc pc = .ok (.dstore i, 2))  (hn : i + 1 < nL) (hl : (i, .double z) :: lv.filter (fun q => !(q.1 == i) && (!(q.1 == i + 1) && !(q.1 + 1 == i && q.2.category == 2))) = lv') (kk : Wm B nL G A Q w cells slots (pc + 2) lv' st) : Wm B nL G A Q w cells slots pc lv (.double z :: st) := by
  obtain ⟨p, l, e, R, s, m, args, below, meth, c⟩ := B
  intro H locs ls hP hS h
  exact lv_dstore C.1 C.2.1 hd  h hn hl (fun ls' h' => kk H locs ls' hP hS h')

theorem r_iinc (C : Cx B nL G A cc own Ts ret Rm) {i k : Nat} {n z : Int} {lv' : List (Nat × Value)} (hd : decode cc pc = .ok (.iinc i n, 3)) (hk : lv[k]? = some (i, vI z)) (hn : i < nL) (hl : (i, vI (z + n)) :: lv.filter (fun q => !(q.1 == i) && !(q.1 + 1 == i && q.2.category == 2)) = lv') (kk : Wm B nL G A Q w cells slots (pc + 3) lv' st) : Wm B nL G A Q w cells slots pc lv st := by
  obtain ⟨p, l, e, R, s, m, args, below, meth, c⟩ := B
  intro H locs ls hP hS h
  exact lv_iinc C.1 C.2.1 hd h hk (Int32.ofInt_add z n).symm hn hl (fun ls' h' => kk H locs ls' hP hS h')

theorem r_iadd (C : Cx B nL G A cc own Ts ret Rm) {a b : Int} (hd : decode cc pc = .ok (.iadd, 1))  (kk : Wm B nL G A Q w cells slots (pc + 1) lv (vI (a + b) :: st)) : Wm B nL G A Q w cells slots pc lv (vI b :: vI a :: st) := by
  obtain ⟨p, l, e, R, s, m, args, below, meth, c⟩ := B
  intro H locs ls hP hS hl
  have kk := kk H locs ls hP hS hl
  rw [show vI (a + b) = .int (Int32.ofInt a + Int32.ofInt b) from congrArg Value.int (Int32.ofInt_add a b)] at kk
  exact lv_iadd C.1 C.2.1 hd  kk

theorem r_isub (C : Cx B nL G A cc own Ts ret Rm) {a b : Int} (hd : decode cc pc = .ok (.isub, 1))  (kk : Wm B nL G A Q w cells slots (pc + 1) lv (vI (a - b) :: st)) : Wm B nL G A Q w cells slots pc lv (vI b :: vI a :: st) := by
  obtain ⟨p, l, e, R, s, m, args, below, meth, c⟩ := B
  intro H locs ls hP hS hl
  have kk := kk H locs ls hP hS hl
  rw [show vI (a - b) = .int (Int32.ofInt a - Int32.ofInt b) from congrArg Value.int (Int32.ofInt_sub a b)] at kk
  exact lv_isub C.1 C.2.1 hd  kk

theorem r_imul (C : Cx B nL G A cc own Ts ret Rm) {a b : Int} (hd : decode cc pc = .ok (.imul, 1))  (kk : Wm B nL G A Q w cells slots (pc + 1) lv (vI (a * b) :: st)) : Wm B nL G A Q w cells slots pc lv (vI b :: vI a :: st) := by
  obtain ⟨p, l, e, R, s, m, args, below, meth, c⟩ := B
  intro H locs ls hP hS hl
  have kk := kk H locs ls hP hS hl
  rw [show vI (a * b) = .int (Int32.ofInt a * Int32.ofInt b) from congrArg Value.int (Int32.ofInt_mul a b)] at kk
  exact lv_imul C.1 C.2.1 hd  kk

theorem r_goto (C : Cx B nL G A cc own Ts ret Rm) {off : Int} {tgt : Nat} (hd : decode cc pc = .ok (.goto off, 3)) (ht : (pc : Int) + off = (tgt : Int)) (kk : Wm B nL G A Q w cells slots tgt lv (st)) : Wm B nL G A Q w cells slots pc lv (st) := by
  obtain ⟨p, l, e, R, s, m, args, below, meth, c⟩ := B
  intro H locs ls hP hS hl
  have kk := kk H locs ls hP hS hl
  
  exact lv_goto C.1 C.2.1 hd ht kk

theorem r_dup (C : Cx B nL G A cc own Ts ret Rm) {v : Value} (hd : decode cc pc = .ok (.dup, 1)) (hv : v.category = 1) (kk : Wm B nL G A Q w cells slots (pc + 1) lv (v :: v :: st)) : Wm B nL G A Q w cells slots pc lv (v :: st) := by
  obtain ⟨p, l, e, R, s, m, args, below, meth, c⟩ := B
  intro H locs ls hP hS hl
  have kk := kk H locs ls hP hS hl
  
  exact lv_dup C.1 C.2.1 hd hv kk

theorem r_dup2 (C : Cx B nL G A cc own Ts ret Rm) {v u : Value} (hd : decode cc pc = .ok (.dup2, 1)) (hv : v.category = 1) (hu : u.category = 1) (kk : Wm B nL G A Q w cells slots (pc + 1) lv (v :: u :: v :: u :: st)) : Wm B nL G A Q w cells slots pc lv (v :: u :: st) := by
  obtain ⟨p, l, e, R, s, m, args, below, meth, c⟩ := B
  intro H locs ls hP hS hl
  have kk := kk H locs ls hP hS hl
  
  exact lv_dup2_11 C.1 C.2.1 hd hv hu kk

theorem r_pop (C : Cx B nL G A cc own Ts ret Rm) {v : Value} (hd : decode cc pc = .ok (.pop, 1)) (hv : v.category = 1) (kk : Wm B nL G A Q w cells slots (pc + 1) lv (st)) : Wm B nL G A Q w cells slots pc lv (v :: st) := by
  obtain ⟨p, l, e, R, s, m, args, below, meth, c⟩ := B
  intro H locs ls hP hS hl
  have kk := kk H locs ls hP hS hl
  
  exact lv_pop C.1 C.2.1 hd hv kk

theorem r_ladd (C : Cx B nL G A cc own Ts ret Rm) {a b : Int64} (hd : decode cc pc = .ok (.ladd, 1))  (kk : Wm B nL G A Q w cells slots (pc + 1) lv (.long (a + b) :: st)) : Wm B nL G A Q w cells slots pc lv (.long b :: .long a :: st) := by
  obtain ⟨p, l, e, R, s, m, args, below, meth, c⟩ := B
  intro H locs ls hP hS hl
  have kk := kk H locs ls hP hS hl
  
  exact lv_ladd C.1 C.2.1 hd  kk

theorem r_lmul (C : Cx B nL G A cc own Ts ret Rm) {a b : Int64} (hd : decode cc pc = .ok (.lmul, 1))  (kk : Wm B nL G A Q w cells slots (pc + 1) lv (.long (a * b) :: st)) : Wm B nL G A Q w cells slots pc lv (.long b :: .long a :: st) := by
  obtain ⟨p, l, e, R, s, m, args, below, meth, c⟩ := B
  intro H locs ls hP hS hl
  have kk := kk H locs ls hP hS hl
  
  exact lv_lmul C.1 C.2.1 hd  kk

theorem r_i2l (C : Cx B nL G A cc own Ts ret Rm) {a : Int} (hd : decode cc pc = .ok (.i2l, 1)) (ha : inR a) (kk : Wm B nL G A Q w cells slots (pc + 1) lv (.long (Int64.ofInt a) :: st)) : Wm B nL G A Q w cells slots pc lv (vI a :: st) := by
  obtain ⟨p, l, e, R, s, m, args, below, meth, c⟩ := B
  intro H locs ls hP hS hl
  have kk := kk H locs ls hP hS hl
  
  exact lv_i2l C.1 C.2.1 hd (i2l_eq ha) kk

theorem r_ior (C : Cx B nL G A cc own Ts ret Rm) {a b c9 : Int} (hd : decode cc pc = .ok (.ior, 1)) (hc : Int32.ofInt a ||| Int32.ofInt b = Int32.ofInt c9) (kk : Wm B nL G A Q w cells slots (pc + 1) lv (vI c9 :: st)) : Wm B nL G A Q w cells slots pc lv (vI b :: vI a :: st) := by
  obtain ⟨p, l, e, R, s, m, args, below, meth, c⟩ := B
  intro H locs ls hP hS hl
  have kk := kk H locs ls hP hS hl
  rw [show vI c9 = .int (Int32.ofInt a ||| Int32.ofInt b) from congrArg Value.int hc.symm] at kk
  exact lv_ior C.1 C.2.1 hd  kk

theorem r_iand (C : Cx B nL G A cc own Ts ret Rm) {a b c9 : Int} (hd : decode cc pc = .ok (.iand, 1)) (hc : Int32.ofInt a &&& Int32.ofInt b = Int32.ofInt c9) (kk : Wm B nL G A Q w cells slots (pc + 1) lv (vI c9 :: st)) : Wm B nL G A Q w cells slots pc lv (vI b :: vI a :: st) := by
  obtain ⟨p, l, e, R, s, m, args, below, meth, c⟩ := B
  intro H locs ls hP hS hl
  have kk := kk H locs ls hP hS hl
  rw [show vI c9 = .int (Int32.ofInt a &&& Int32.ofInt b) from congrArg Value.int hc.symm] at kk
  exact lv_iand C.1 C.2.1 hd  kk

theorem r_idiv (C : Cx B nL G A cc own Ts ret Rm) {a b : Int} (hd : decode cc pc = .ok (.idiv, 1)) (ha : 0 ≤ a) (ha2 : a < 2147483648) (hb : 0 < b) (hb2 : b < 2147483648) (kk : Wm B nL G A Q w cells slots (pc + 1) lv (vI (a / b) :: st)) : Wm B nL G A Q w cells slots pc lv (vI b :: vI a :: st) := by
  obtain ⟨p, l, e, R, s, m, args, below, meth, c⟩ := B
  intro H locs ls hP hS hl
  have kk := kk H locs ls hP hS hl
  rw [show vI (a / b) = .int (Int32.ofInt a / Int32.ofInt b) from congrArg Value.int (div_eq ha ha2 hb hb2).symm] at kk
  exact lv_idiv C.1 C.2.1 hd (div_ne hb hb2) kk

theorem r_irem (C : Cx B nL G A cc own Ts ret Rm) {a b : Int} (hd : decode cc pc = .ok (.irem, 1)) (ha : 0 ≤ a) (ha2 : a < 2147483648) (hb : 0 < b) (hb2 : b < 2147483648) (kk : Wm B nL G A Q w cells slots (pc + 1) lv (vI (a % b) :: st)) : Wm B nL G A Q w cells slots pc lv (vI b :: vI a :: st) := by
  obtain ⟨p, l, e, R, s, m, args, below, meth, c⟩ := B
  intro H locs ls hP hS hl
  have kk := kk H locs ls hP hS hl
  rw [show vI (a % b) = .int (Int32.ofInt a - Int32.ofInt a / Int32.ofInt b * Int32.ofInt b) from congrArg Value.int (rem_eq ha ha2 hb hb2).symm] at kk
  exact lv_irem C.1 C.2.1 hd (div_ne hb hb2) kk

theorem r_icmp_eq (C : Cx B nL G A cc own Ts ret Rm) {a b off : Int} {tgt : Nat} (hd : decode cc pc = .ok (.if_icmp .eq off, 3)) (ht : (pc : Int) + off = (tgt : Int)) (ha : inR a) (hb : inR b) (k1 : a = b → Wm B nL G A Q w cells slots tgt lv st) (k2 : ¬ a = b → Wm B nL G A Q w cells slots (pc + 3) lv st) : Wm B nL G A Q w cells slots pc lv (vI b :: vI a :: st) := by
  obtain ⟨p, l, e, R, s, m, args, below, meth, c⟩ := B
  intro H locs ls hP hS hl
  exact lv_icmp_eq C.1 C.2.1 hd ht (fun h => k1 (ci_eq1 ha hb h) H locs ls hP hS hl) (fun h => k2 (ci_eq2 ha hb h) H locs ls hP hS hl)

theorem r_if_eq (C : Cx B nL G A cc own Ts ret Rm) {a off : Int} {tgt : Nat} (hd : decode cc pc = .ok (.ifCond .eq off, 3)) (ht : (pc : Int) + off = (tgt : Int)) (ha : inR a) (k1 : a = 0 → Wm B nL G A Q w cells slots tgt lv st) (k2 : ¬ a = 0 → Wm B nL G A Q w cells slots (pc + 3) lv st) : Wm B nL G A Q w cells slots pc lv (vI a :: st) := by
  obtain ⟨p, l, e, R, s, m, args, below, meth, c⟩ := B
  intro H locs ls hP hS hl
  exact lv_if_eq C.1 C.2.1 hd ht (fun h => k1 (c0_eq1 ha h) H locs ls hP hS hl) (fun h => k2 (c0_eq2 ha h) H locs ls hP hS hl)

theorem r_icmp_ne (C : Cx B nL G A cc own Ts ret Rm) {a b off : Int} {tgt : Nat} (hd : decode cc pc = .ok (.if_icmp .ne off, 3)) (ht : (pc : Int) + off = (tgt : Int)) (ha : inR a) (hb : inR b) (k1 : ¬ a = b → Wm B nL G A Q w cells slots tgt lv st) (k2 : a = b → Wm B nL G A Q w cells slots (pc + 3) lv st) : Wm B nL G A Q w cells slots pc lv (vI b :: vI a :: st) := by
  obtain ⟨p, l, e, R, s, m, args, below, meth, c⟩ := B
  intro H locs ls hP hS hl
  exact lv_icmp_ne C.1 C.2.1 hd ht (fun h => k1 (ci_ne1 ha hb h) H locs ls hP hS hl) (fun h => k2 (ci_ne2 ha hb h) H locs ls hP hS hl)

theorem r_if_ne (C : Cx B nL G A cc own Ts ret Rm) {a off : Int} {tgt : Nat} (hd : decode cc pc = .ok (.ifCond .ne off, 3)) (ht : (pc : Int) + off = (tgt : Int)) (ha : inR a) (k1 : ¬ a = 0 → Wm B nL G A Q w cells slots tgt lv st) (k2 : a = 0 → Wm B nL G A Q w cells slots (pc + 3) lv st) : Wm B nL G A Q w cells slots pc lv (vI a :: st) := by
  obtain ⟨p, l, e, R, s, m, args, below, meth, c⟩ := B
  intro H locs ls hP hS hl
  exact lv_if_ne C.1 C.2.1 hd ht (fun h => k1 (c0_ne1 ha h) H locs ls hP hS hl) (fun h => k2 (c0_ne2 ha h) H locs ls hP hS hl)

theorem r_icmp_lt (C : Cx B nL G A cc own Ts ret Rm) {a b off : Int} {tgt : Nat} (hd : decode cc pc = .ok (.if_icmp .lt off, 3)) (ht : (pc : Int) + off = (tgt : Int)) (ha : inR a) (hb : inR b) (k1 : a < b → Wm B nL G A Q w cells slots tgt lv st) (k2 : b ≤ a → Wm B nL G A Q w cells slots (pc + 3) lv st) : Wm B nL G A Q w cells slots pc lv (vI b :: vI a :: st) := by
  obtain ⟨p, l, e, R, s, m, args, below, meth, c⟩ := B
  intro H locs ls hP hS hl
  exact lv_icmp_lt C.1 C.2.1 hd ht (fun h => k1 (ci_lt1 ha hb h) H locs ls hP hS hl) (fun h => k2 (ci_lt2 ha hb h) H locs ls hP hS hl)

theorem r_if_lt (C : Cx B nL G A cc own Ts ret Rm) {a off : Int} {tgt : Nat} (hd : decode cc pc = .ok (.ifCond .lt off, 3)) (ht : (pc : Int) + off = (tgt : Int)) (ha : inR a) (k1 : a < 0 → Wm B nL G A Q w cells slots tgt lv st) (k2 : 0 ≤ a → Wm B nL G A Q w cells slots (pc + 3) lv st) : Wm B nL G A Q w cells slots pc lv (vI a :: st) := by
  obtain ⟨p, l, e, R, s, m, args, below, meth, c⟩ := B
  intro H locs ls hP hS hl
  exact lv_if_lt C.1 C.2.1 hd ht (fun h => k1 (c0_lt1 ha h) H locs ls hP hS hl) (fun h => k2 (c0_lt2 ha h) H locs ls hP hS hl)

theorem r_icmp_ge (C : Cx B nL G A cc own Ts ret Rm) {a b off : Int} {tgt : Nat} (hd : decode cc pc = .ok (.if_icmp .ge off, 3)) (ht : (pc : Int) + off = (tgt : Int)) (ha : inR a) (hb : inR b) (k1 : b ≤ a → Wm B nL G A Q w cells slots tgt lv st) (k2 : a < b → Wm B nL G A Q w cells slots (pc + 3) lv st) : Wm B nL G A Q w cells slots pc lv (vI b :: vI a :: st) := by
  obtain ⟨p, l, e, R, s, m, args, below, meth, c⟩ := B
  intro H locs ls hP hS hl
  exact lv_icmp_ge C.1 C.2.1 hd ht (fun h => k1 (ci_ge1 ha hb h) H locs ls hP hS hl) (fun h => k2 (ci_ge2 ha hb h) H locs ls hP hS hl)

theorem r_if_ge (C : Cx B nL G A cc own Ts ret Rm) {a off : Int} {tgt : Nat} (hd : decode cc pc = .ok (.ifCond .ge off, 3)) (ht : (pc : Int) + off = (tgt : Int)) (ha : inR a) (k1 : 0 ≤ a → Wm B nL G A Q w cells slots tgt lv st) (k2 : a < 0 → Wm B nL G A Q w cells slots (pc + 3) lv st) : Wm B nL G A Q w cells slots pc lv (vI a :: st) := by
  obtain ⟨p, l, e, R, s, m, args, below, meth, c⟩ := B
  intro H locs ls hP hS hl
  exact lv_if_ge C.1 C.2.1 hd ht (fun h => k1 (c0_ge1 ha h) H locs ls hP hS hl) (fun h => k2 (c0_ge2 ha h) H locs ls hP hS hl)

theorem r_icmp_gt (C : Cx B nL G A cc own Ts ret Rm) {a b off : Int} {tgt : Nat} (hd : decode cc pc = .ok (.if_icmp .gt off, 3)) (ht : (pc : Int) + off = (tgt : Int)) (ha : inR a) (hb : inR b) (k1 : b < a → Wm B nL G A Q w cells slots tgt lv st) (k2 : a ≤ b → Wm B nL G A Q w cells slots (pc + 3) lv st) : Wm B nL G A Q w cells slots pc lv (vI b :: vI a :: st) := by
  obtain ⟨p, l, e, R, s, m, args, below, meth, c⟩ := B
  intro H locs ls hP hS hl
  exact lv_icmp_gt C.1 C.2.1 hd ht (fun h => k1 (ci_gt1 ha hb h) H locs ls hP hS hl) (fun h => k2 (ci_gt2 ha hb h) H locs ls hP hS hl)

theorem r_if_gt (C : Cx B nL G A cc own Ts ret Rm) {a off : Int} {tgt : Nat} (hd : decode cc pc = .ok (.ifCond .gt off, 3)) (ht : (pc : Int) + off = (tgt : Int)) (ha : inR a) (k1 : 0 < a → Wm B nL G A Q w cells slots tgt lv st) (k2 : a ≤ 0 → Wm B nL G A Q w cells slots (pc + 3) lv st) : Wm B nL G A Q w cells slots pc lv (vI a :: st) := by
  obtain ⟨p, l, e, R, s, m, args, below, meth, c⟩ := B
  intro H locs ls hP hS hl
  exact lv_if_gt C.1 C.2.1 hd ht (fun h => k1 (c0_gt1 ha h) H locs ls hP hS hl) (fun h => k2 (c0_gt2 ha h) H locs ls hP hS hl)

theorem r_icmp_le (C : Cx B nL G A cc own Ts ret Rm) {a b off : Int} {tgt : Nat} (hd : decode cc pc = .ok (.if_icmp .le off, 3)) (ht : (pc : Int) + off = (tgt : Int)) (ha : inR a) (hb : inR b) (k1 : a ≤ b → Wm B nL G A Q w cells slots tgt lv st) (k2 : b < a → Wm B nL G A Q w cells slots (pc + 3) lv st) : Wm B nL G A Q w cells slots pc lv (vI b :: vI a :: st) := by
  obtain ⟨p, l, e, R, s, m, args, below, meth, c⟩ := B
  intro H locs ls hP hS hl
  exact lv_icmp_le C.1 C.2.1 hd ht (fun h => k1 (ci_le1 ha hb h) H locs ls hP hS hl) (fun h => k2 (ci_le2 ha hb h) H locs ls hP hS hl)

theorem r_if_le (C : Cx B nL G A cc own Ts ret Rm) {a off : Int} {tgt : Nat} (hd : decode cc pc = .ok (.ifCond .le off, 3)) (ht : (pc : Int) + off = (tgt : Int)) (ha : inR a) (k1 : a ≤ 0 → Wm B nL G A Q w cells slots tgt lv st) (k2 : 0 < a → Wm B nL G A Q w cells slots (pc + 3) lv st) : Wm B nL G A Q w cells slots pc lv (vI a :: st) := by
  obtain ⟨p, l, e, R, s, m, args, below, meth, c⟩ := B
  intro H locs ls hP hS hl
  exact lv_if_le C.1 C.2.1 hd ht (fun h => k1 (c0_le1 ha h) H locs ls hP hS hl) (fun h => k2 (c0_le2 ha h) H locs ls hP hS hl)

/-! cells -/
def isI (ci j : Nat) : Bool := match ci with
  | 0 => j == 1 || j == 4 || j == 5 || j == 6
  | 1 => j == 4
  | 2 => j == 0 || j == 1 || j == 2 || j == 3 || j == 4 || j == 5 || j == 6 || j == 7 || j == 9 || j == 12
  | 4 => j == 0 || j == 1 || j == 2
  | 5 => j == 0 || j == 1 || j == 2
  | _ => false
theorem flds_eq {ad : Ky → Nat} {w w' : Mm} {k : Ky} (ci : Nat) (h : w' k = w k) : flds ad w' k ci = flds ad w k ci := by
  unfold flds
  rw [h]
theorem ent_eq {c3 : ClassId × ClassId × ClassId} {ad : Ky → Nat} {w w' : Mm} {k : Ky} (h : w' k = w k) : ent c3 ad w' k = ent c3 ad w k := by
  unfold ent
  rw [h]
  split <;> first | rfl | rw [flds_eq _ h]
theorem ent_obj {c3 : ClassId × ClassId × ClassId} {ad : Ky → Nat} {w : Mm} {k : Ky} {ci n : Nat} (h : kd k = (ci, n)) (hlt : ci < 6) : ent c3 ad w k = .inr (ci, flds ad w k ci) := by
  unfold ent
  rw [h]
  rcases (show ci = 0 ∨ ci = 1 ∨ ci = 2 ∨ ci = 3 ∨ ci = 4 ∨ ci = 5 by omega) with rfl | rfl | rfl | rfl | rfl | rfl <;> rfl
theorem ent_row {c3 : ClassId × ClassId × ClassId} {ad : Ky → Nat} {w : Mm} {k : Ky} {n : Nat} (h : kd k = (6, n)) : ent c3 ad w k = .inl (c3.1, n, .inl (fun j => Int32.ofInt (w k j))) := by
  unfold ent
  rw [h]
  rfl
theorem ent_vil {c3 : ClassId × ClassId × ClassId} {ad : Ky → Nat} {w : Mm} {k : Ky} {n : Nat} (h : kd k = (7, n)) : ent c3 ad w k = .inl (c3.2.1, n, .inr (.inr (.inr (.inr (fun j => some (ad (k.1, j, 0))))))) := by
  unfold ent
  rw [h]
  rfl
theorem ent_lng {c3 : ClassId × ClassId × ClassId} {ad : Ky → Nat} {w : Mm} {k : Ky} {n : Nat} (h : kd k = (8, n)) : ent c3 ad w k = .inl (c3.2.2, n, .inr (.inl (fun j => Int64.ofInt (w k j)))) := by
  unfold ent
  rw [h]
  rfl
theorem flds_st {ad : Ky → Nat} {w : Mm} {k : Ky} {ci j : Nat} {x : Int} (h : isI ci j = true) : flds ad (st1 w k j x) k ci = (flds ad w k ci).set j (vI x) := by
  unfold isI at h
  split at h
  · simp only [Bool.or_eq_true, beq_iff_eq] at h
    rcases h with ((rfl | rfl) | rfl) | rfl <;> simp [flds, st1]
  · simp only [beq_iff_eq] at h
    subst h
    simp [flds, st1]
  · simp only [Bool.or_eq_true, beq_iff_eq] at h
    rcases h with ((((((((rfl | rfl) | rfl) | rfl) | rfl) | rfl) | rfl) | rfl) | rfl) | rfl <;> simp [flds, st1]
  · simp only [Bool.or_eq_true, beq_iff_eq] at h
    rcases h with (rfl | rfl) | rfl <;> simp [flds, st1]
  · simp only [Bool.or_eq_true, beq_iff_eq] at h
    rcases h with (rfl | rfl) | rfl <;> simp [flds, st1]
  · cases h
theorem Pic.upd {G : Gt} {w w' : Mm} {H H1 : Heap} {k : Ky} (hP : Pic G w H) (hG : Gok G) (hok : okk G k) (hr : rng w') (hw : ∀ k', k' ≠ k → w' k' = w k') (he : va_at G.1 vwCl (adr G k, ent G.2.1 (adr G) w' k) H1) (oq : ∀ q : Nat, q ≠ adr G k → H1[q]? = H[q]?) : Pic G w' H1 := by
  refine ⟨hr, fun k' hk' => ?_⟩
  by_cases hkk : k' = k
  · subst hkk
    exact he
  · rw [ent_eq (hw k' hkk)]
    exact (hP.2 k' hk').kept (oq _ (fun q => hkk (hG.1 k' k hk' hok q)))
theorem st1_off {w : Mm} {k : Ky} {j : Nat} {x : Int} (k' : Ky) (h : k' ≠ k) : st1 w k j x k' = w k' := by
  funext j'
  exact st1_k h
theorem r_getf (C : Cx B nL G A cc own Ts ret Rm) {k : Ky} {ci n N index : Nat} (j : Nat) {T : u_T} {Cn : String} {v : Value} (hok : okk G k) (hkd : kd k = (ci, n)) (hlt : ci < 6) (hc : vwCl[ci]? = some (Cn, T, N)) (hin : ∀ w ∈ u_ws Cn T N, w ∈ Ts) (hj : j < N) (hlink : Cond.fieldLink own index Cn (T j).2.1 (T j).2.2.1 ∈ Ts) (hcn : (T j).1 = Cn) (hv : (flds (adr G) w k ci)[j]? = some v) (hd : decode cc pc = .ok (.getfield index, 3)) (kk : Wm B nL G A Q w cells slots (pc + 3) lv (v :: st)) : Wm B nL G A Q w cells slots pc lv (.ref (adr G k) :: st) := by
  obtain ⟨p, l, e, R, s, m, args, below, meth, c⟩ := B
  obtain ⟨hx, hb, hml, hown, hts, hK, hG, hA1, hA2, hlk, hret, hR⟩ := C
  intro H locs ls hP hS hl
  have hat := hP.2 k hok
  rw [ent_obj hkd hlt] at hat
  have hP1 : va_P G.1 vwCl [(adr G k, .inr (ci, flds (adr G) w k ci))] H := fun i q hq => by
    cases i with
    | zero => cases hq; exact hat
    | succ i => simp at hq
  exact va_get hx hb hts hin hown hK hP1 0 rfl hc j hj (hts _ hlink) (fun x h => by rw [hcn] at h; exact h) hv hd (kk H locs ls hP hS hl)
theorem r_putf (C : Cx B nL G A cc own Ts ret Rm) {k : Ky} {ci n N index : Nat} (j : Nat) {T : u_T} {Cn : String} {x : Int} (hr : rng w) (hx0 : inR x) (hok : okk G k) (hkd : kd k = (ci, n)) (hlt : ci < 6) (hc : vwCl[ci]? = some (Cn, T, N)) (hin : ∀ w ∈ u_ws Cn T N, w ∈ Ts) {ty0 : Nat → FieldType} (hty : ∀ k, k < N → parseFieldDescriptor (T k).2.2.1 = some (ty0 k)) (hnm : ∀ a, a < N → ∀ b, b < N → a ≠ b → (T a).2.1 ≠ (T b).2.1) (hj : j < N) (hlink : Cond.fieldLink own index Cn (T j).2.1 (T j).2.2.1 ∈ Ts) (hcn : (T j).1 = Cn) (hfin : (T j).2.2.2 = false) {ty : FieldType} (hdty : parseFieldDescriptor (T j).2.2.1 = some ty) (hn : narrow ty (vI x) = vI x) (hfit : fits ty (vI x) = true) (hI : isI ci j = true) (hlen : j < (flds (adr G) w k ci).length) (hd : decode cc pc = .ok (.putfield index, 3)) (kk : rng (st1 w k j x) → Wm B nL G A Q (st1 w k j x) cells slots (pc + 3) lv st) : Wm B nL G A Q w cells slots pc lv (vI x :: .ref (adr G k) :: st) := by
  obtain ⟨p, l, e, R, s, m, args, below, meth, c⟩ := B
  obtain ⟨hx, hb, hml, hown, hts, hK, hG, hA1, hA2, hlk, hret, hR⟩ := C
  intro H locs ls hP hS hl
  have hat := hP.2 k hok
  rw [ent_obj hkd hlt] at hat
  have hap := va_apart (own := own) hts hin ty0 hty hnm hK hc
  obtain ⟨r, h1, cell, q1, q2, q3, q4⟩ := hat
  have hrr : r = (Cn, T, N) := Option.some.inj (h1.symm.trans hc)
  subst hrr
  obtain ⟨hSl, hfc, kC, hkC, hkind⟩ := hK.1 ci _ hc
  obtain ⟨cf, kf, fi, f, hi, hsl⟩ := hSl j hj
  have hlay := hts _ (hin _ (u_in_lay hj))
  unfold u_lay at hlay
  rw [if_neg (by rw [hfin]; decide)] at hlay
  have hst := (u_facts hfc hkC (u_lays hts hin hj) hi).1
  have h6 := u_store hfc hkC hkind hlay hi hdty hn hfit
  refine W.putK hx hb (f := f) ⟨hown, hts _ hlink, ⟨_, _, _, by rw [hcn] at hi; exact hi⟩, hst⟩ (by rw [q2]; exact h6) q1 q3 (by rw [hsl]; exact k2_hasslot (q4 j hj)) rfl rfl hd fun H' e1 e2 e3 => ?_
  rw [hsl] at e1 ⊢
  refine kk (rng_st hr hx0) H' _ ls (hP.upd hG hok (rng_st hr hx0) st1_off ?_ e3) (hS.put e2 e3 (hA1 k hok)) hl
  rw [ent_obj hkd hlt, flds_st hI]
  exact ⟨_, hc, t_OB.to (V := updV (vp_V (flds (adr G) w k ci)) j (vI x)) ⟨_, e1, q2, q3, t_set q4 hap hj (vI x)⟩ (fun i _ => vp_updV_set hlen (vI x) i)⟩
theorem oi_nat (n : Nat) : Int32.ofInt (n : Int) = nI n := Int32.ofInt_eq_ofNat
theorem r_iald (C : Cx B nL G A cc own Ts ret Rm) {k : Ky} {len : Nat} {z : Int} (n : Nat) (hok : okk G k) (hkd : kd k = (6, len)) (hz : z = (n : Int)) (hn : n < len) (hlen : len < 2 ^ 31) (hd : decode cc pc = .ok (.iaload, 1)) (kk : Wm B nL G A Q w cells slots (pc + 1) lv (vI (w k n) :: st)) : Wm B nL G A Q w cells slots pc lv (vI z :: .ref (adr G k) :: st) := by
  obtain ⟨p, l, e, R, s, m, args, below, meth, c⟩ := B
  obtain ⟨hx, hb, hml, hown, hts, hK, hG, hA1, hA2, hlk, hret, hR⟩ := C
  intro H locs ls hP hS hl
  subst hz
  have hat := hP.2 k hok
  rw [ent_row hkd] at hat
  have hP1 : va_P G.1 vwCl [(adr G k, .inl (G.2.1.1, len, .inl (fun j => Int32.ofInt (w k j))))] H := fun i q hq => by
    cases i with
    | zero => cases hq; exact hat
    | succ i => simp at hq
  have kk := kk H locs ls hP hS hl
  refine va_iald hx hb hK hP1 0 0 rfl rfl (i := Int32.ofInt (n : Int)) (by rw [oi_nat]; exact vp_in_nI hn (by omega)) hd ?_
  rw [oi_nat, nI_clamp (by omega)]
  exact kk
theorem r_aald (C : Cx B nL G A cc own Ts ret Rm) {t : Nat} {z : Int} (n : Nat) (hok : okk G (t, 8, 3)) (ht : t ≤ 1) (hz : z = (n : Int)) (hn : n < 8) (hd : decode cc pc = .ok (.aaload, 1)) (kk : Wm B nL G A Q w cells slots (pc + 1) lv (.ref (adr G (t, n, 0)) :: st)) : Wm B nL G A Q w cells slots pc lv (vI z :: .ref (adr G (t, 8, 3)) :: st) := by
  obtain ⟨p, l, e, R, s, m, args, below, meth, c⟩ := B
  obtain ⟨hx, hb, hml, hown, hts, hK, hG, hA1, hA2, hlk, hret, hR⟩ := C
  intro H locs ls hP hS hl
  subst hz
  have hat := hP.2 (t, 8, 3) hok
  rw [ent_vil (n := 8) (by simp [kd, ht])] at hat
  have hP1 : va_P G.1 vwCl [(adr G (t, 8, 3), .inl (G.2.1.2.1, 8, .inr (.inr (.inr (.inr (fun j => some (adr G (t, j, 0))))))))] H := fun i q hq => by
    cases i with
    | zero => cases hq; exact hat
    | succ i => simp at hq
  have kk := kk H locs ls hP hS hl
  refine va_aldq hx hb hK hP1 0 1 rfl rfl (i := Int32.ofInt (n : Int)) (by rw [oi_nat]; exact vp_in_nI hn (by omega)) hd ?_
  rw [oi_nat, nI_clamp (by omega)]
  exact kk
theorem r_lald (C : Cx B nL G A cc own Ts ret Rm) {k : Ky} {len : Nat} {z : Int} (n : Nat) (hok : okk G k) (hkd : kd k = (8, len)) (hz : z = (n : Int)) (hn : n < len) (hlen : len < 2 ^ 31) (hd : decode cc pc = .ok (.laload, 1)) (kk : Wm B nL G A Q w cells slots (pc + 1) lv (.long (Int64.ofInt (w k n)) :: st)) : Wm B nL G A Q w cells slots pc lv (vI z :: .ref (adr G k) :: st) := by
  obtain ⟨p, l, e, R, s, m, args, below, meth, c⟩ := B
  obtain ⟨hx, hb, hml, hown, hts, hK, hG, hA1, hA2, hlk, hret, hR⟩ := C
  intro H locs ls hP hS hl
  subst hz
  have hat := hP.2 k hok
  rw [ent_lng hkd] at hat
  have hP1 : va_P G.1 vwCl [(adr G k, .inl (G.2.1.2.2, len, .inr (.inl (fun j => Int64.ofInt (w k j)))))] H := fun i q hq => by
    cases i with
    | zero => cases hq; exact hat
    | succ i => simp at hq
  have kk := kk H locs ls hP hS hl
  refine va_lald hx hb hK hP1 0 2 rfl rfl (i := Int32.ofInt (n : Int)) (by rw [oi_nat]; exact vp_in_nI hn (by omega)) hd ?_
  rw [oi_nat, nI_clamp (by omega)]
  exact kk
theorem r_iast (C : Cx B nL G A cc own Ts ret Rm) {k : Ky} {len : Nat} {z x : Int} (n : Nat) (hr : rng w) (hx0 : inR x) (hok : okk G k) (hkd : kd k = (6, len)) (hz : z = (n : Int)) (hn : n < len) (hlen : len < 2 ^ 31) (hd : decode cc pc = .ok (.iastore, 1)) (kk : rng (st1 w k n x) → Wm B nL G A Q (st1 w k n x) cells slots (pc + 1) lv st) : Wm B nL G A Q w cells slots pc lv (vI x :: vI z :: .ref (adr G k) :: st) := by
  obtain ⟨p, l, e, R, s, m, args, below, meth, c⟩ := B
  obtain ⟨hx, hb, hml, hown, hts, hK, hG, hA1, hA2, hlk, hret, hR⟩ := C
  intro H locs ls hP hS hl
  subst hz
  have hat := hP.2 k hok
  rw [ent_row hkd] at hat
  have hcl : (Int32.ofInt (n : Int)).toNatClampNeg = n := by rw [oi_nat, nI_clamp (by omega)]
  have hvin : vp_in (Int32.ofInt (n : Int)) len := by rw [oi_nat]; exact vp_in_nI hn (by omega)
  refine W.iast hx hb hat ((hK.2 0 _ rfl).1 len (fun j => .int (Int32.ofInt (w k j)))) (fun q => by cases q) (by show ¬ (_ ∨ (arrV _ _ _).slots.size ≤ _); rw [arrV_size]; exact hvin) rfl rfl hd fun H1 e z oq => ?_
  refine kk (rng_st hr hx0) H1 _ ls (hP.upd hG hok (rng_st hr hx0) st1_off ?_ oq) (hS.put z oq (hA1 k hok)) hl
  rw [ent_row hkd]
  show H1[adr G k]? = some (vp_cell _ _)
  rw [e, vp_cell_i, vp_cell_i, arrV_store, hcl]
  congr 2
  funext q
  by_cases hq : q = n
  · subst hq
    simp [updV, st1]
  · simp [updV, st1, hq]
theorem r_last (C : Cx B nL G A cc own Ts ret Rm) {k : Ky} {len : Nat} {z x : Int} (n : Nat) (hr : rng w) (hx0 : inR x) (hok : okk G k) (hkd : kd k = (8, len)) (hz : z = (n : Int)) (hn : n < len) (hlen : len < 2 ^ 31) (hd : decode cc pc = .ok (.lastore, 1)) (kk : rng (st1 w k n x) → Wm B nL G A Q (st1 w k n x) cells slots (pc + 1) lv st) : Wm B nL G A Q w cells slots pc lv (.long (Int64.ofInt x) :: vI z :: .ref (adr G k) :: st) := by
  obtain ⟨p, l, e, R, s, m, args, below, meth, c⟩ := B
  obtain ⟨hx, hb, hml, hown, hts, hK, hG, hA1, hA2, hlk, hret, hR⟩ := C
  intro H locs ls hP hS hl
  subst hz
  have hat := hP.2 k hok
  rw [ent_lng hkd] at hat
  have hcl : (Int32.ofInt (n : Int)).toNatClampNeg = n := by rw [oi_nat, nI_clamp (by omega)]
  have hvin : vp_in (Int32.ofInt (n : Int)) len := by rw [oi_nat]; exact vp_in_nI hn (by omega)
  refine W.last hx hb hat ((hK.2 2 _ rfl).1 len (fun j => .long (Int64.ofInt (w k j)))) (fun q => by cases q) (by show ¬ (_ ∨ (arrV _ _ _).slots.size ≤ _); rw [arrV_size]; exact hvin) rfl rfl hd fun H1 e z oq => ?_
  refine kk (rng_st hr hx0) H1 _ ls (hP.upd hG hok (rng_st hr hx0) st1_off ?_ oq) (hS.put z oq (hA1 k hok)) hl
  rw [ent_lng hkd]
  show H1[adr G k]? = some (vp_cell _ _)
  rw [e, vp_cell_l, vp_cell_l, arrV_store, hcl]
  congr 2
  funext q
  by_cases hq : q = n
  · subst hq
    simp [updV, st1]
  · simp [updV, st1, hq]
def cpy (w : Mm) (k0 k1 : Ky) (sp dp n : Nat) : Mm := fun k j => if k = k1 ∧ dp ≤ j ∧ j < dp + n then w k0 (sp + (j - dp)) else w k j
theorem cpy_off {w : Mm} {k0 k1 : Ky} {sp dp n : Nat} (k' : Ky) (h : k' ≠ k1) : cpy w k0 k1 sp dp n k' = w k' := by
  funext j
  simp [cpy, h]
theorem cpy_rng {w : Mm} {k0 k1 : Ky} {sp dp n : Nat} (h : rng w) : rng (cpy w k0 k1 sp dp n) := by
  intro k j
  unfold cpy
  split
  · exact h _ _
  · exact h _ _
theorem r_copy (C : Cx B nL G A cc own Ts ret Rm) {k0 k1 : Ky} {len0 len1 index : Nat} {sp dp n : Int} (sp' dp' n' : Nat) (hr : rng w) (hok0 : okk G k0) (hok1 : okk G k1) (hkd0 : kd k0 = (6, len0)) (hkd1 : kd k1 = (6, len1)) (hsp : sp = (sp' : Int)) (hdp : dp = (dp' : Int)) (hn : n = (n' : Int)) (h4 : sp' + n' ≤ len0) (h5 : dp' + n' ≤ len1) (hl0 : len0 < 2 ^ 31) (hl1 : len1 < 2 ^ 31)
    (hlink : Cond.methodLink own index arraycopyName ∈ Ts) (hnat : Cond.native arraycopyName ∈ Ts) (hstat : Cond.static arraycopyName ∈ Ts) (hini : Cond.initialized "java/lang/System" ∈ Ts)
    (hfr : 1 ≤ Rm.frames) (hlo : (st.map fun v => v.category).sum + (nativeFrameWords "java/lang/System" "arraycopy" 5 + 11) ≤ Rm.locals) (hd : decode cc pc = .ok (.invokestatic index, 3))
    (kk : rng (cpy w k0 k1 sp' dp' n') → Wm B nL G A Q (cpy w k0 k1 sp' dp' n') cells slots (pc + 3) lv st) : Wm B nL G A Q w cells slots pc lv (vI n :: vI dp :: .ref (adr G k1) :: vI sp :: .ref (adr G k0) :: st) := by
  obtain ⟨p, l, e, R, s, m, args, below, meth, c⟩ := B
  obtain ⟨hx, hb, hml, hown, hts, hK, hG, hA1, hA2, hlk, hret, hR⟩ := C
  dsimp only at hR
  subst hR
  intro H locs ls hP hS hl T hT X
  subst hsp; subst hdp; subst hn
  have hc0 := hP.2 k0 hok0
  rw [ent_row hkd0] at hc0
  have hc1 := hP.2 k1 hok1
  rw [ent_row hkd1] at hc1
  replace hc0 : H[adr G k0]? = some (vp_cell G.2.1.1 (len0, .inl (fun j => Int32.ofInt (w k0 j)))) := hc0
  replace hc1 : H[adr G k1]? = some (vp_cell G.2.1.1 (len1, .inl (fun j => Int32.ofInt (w k1 j)))) := hc1
  have e1 : (Int32.ofInt (sp' : Int)).toNatClampNeg = sp' := by rw [oi_nat, nI_clamp (by omega)]
  have e2 : (Int32.ofInt (dp' : Int)).toNatClampNeg = dp' := by rw [oi_nat, nI_clamp (by omega)]
  have e3 : (Int32.ofInt (n' : Int)).toNatClampNeg = n' := by rw [oi_nat, nI_clamp (by omega)]
  have g1 : (Int32.ofInt (sp' : Int)).toInt = (sp' : Int) := by rw [oi_nat, nI_toInt (by omega)]
  have g2 : (Int32.ofInt (dp' : Int)).toInt = (dp' : Int) := by rw [oi_nat, nI_toInt (by omega)]
  have g3 : (Int32.ofInt (n' : Int)).toInt = (n' : Int) := by rw [oi_nat, nI_toInt (by omega)]
  have n1 : ¬ Int32.ofInt (sp' : Int) < 0 := by rw [oi_nat]; exact nI_pos (by omega)
  have n2 : ¬ Int32.ofInt (dp' : Int) < 0 := by rw [oi_nat]; exact nI_pos (by omega)
  have n3 : ¬ Int32.ofInt (n' : Int) < 0 := by rw [oi_nat]; exact nI_pos (by omega)
  obtain ⟨-, a0, hk0, cm0, hkk0⟩ := (hK.2 0 _ rfl).1 len0 (fun j => .int (Int32.ofInt (w k0 j)))
  obtain ⟨-, a1, hk1, cm1, hkk1⟩ := (hK.2 0 _ rfl).1 len1 (fun j => .int (Int32.ofInt (w k1 j)))
  obtain ⟨vm', X', step⟩ := X.arraycopy hx hown (hts _ hlink) (hts _ hnat) (hts _ hstat) (hts _ hini) (src := adr G k0) (dst := adr G k1) (cs := vp_cell G.2.1.1 (len0, .inl (fun j => Int32.ofInt (w k0 j)))) (cd := vp_cell G.2.1.1 (len1, .inl (fun j => Int32.ofInt (w k1 j)))) (srcPos := Int32.ofInt (sp' : Int)) (destPos := Int32.ofInt (dp' : Int)) (n := Int32.ofInt (n' : Int)) (by rw [hT]; exact hc0) (by rw [hT]; exact hc1)
    (fun _ h => by cases h) (fun _ h => by cases h) (fun h => by cases h) (fun h => by cases h) hk0 hk1 hkk0 hkk1 (by simp [refKind]) n1 n2 n3
    (by rw [g1, g3]; show ¬ _ > ((arrV G.2.1.1 len0 (fun j => .int (Int32.ofInt (w k0 j)))).slots.size : Int); rw [arrV_size]; omega)
    (by rw [g2, g3]; show ¬ _ > ((arrV G.2.1.1 len1 (fun j => .int (Int32.ofInt (w k1 j)))).slots.size : Int); rw [arrV_size]; omega)
    (fun vm₁ _ i hi => by
      rw [e3] at hi
      rw [e1]
      have e : (vp_cell G.2.1.1 (len0, .inl (fun j => Int32.ofInt (w k0 j)))).slots.getD (sp' + i) .null = .int (Int32.ofInt (w k0 (sp' + i))) := by
        show (arrV G.2.1.1 len0 (fun j => .int (Int32.ofInt (w k0 j)))).slots.getD _ _ = _
        rw [Array.getD_eq_getD_getElem?, arrV_read _ _ (by omega)]
        rfl
      refine ⟨?_, ?_⟩
      · rw [e]
        rfl
      · rw [e]
        exact trivial)
    (g := F0 m pc ls (vI (n' : Int) :: vI (dp' : Int) :: .ref (adr G k1) :: vI (sp' : Int) :: .ref (adr G k0) :: st)) rfl (by show ls.size = c.maxLocals; rw [hl.1]; exact hml.symm) (rest := st) rfl (by rw [show c.code = cc from hb]; exact hd) hfr (by show 2 * 0 + _ + _ ≤ R.locals; omega)
  have ecp : copied (vp_cell G.2.1.1 (len0, .inl (fun j => Int32.ofInt (w k0 j)))) (vp_cell G.2.1.1 (len1, .inl (fun j => Int32.ofInt (w k1 j)))) (Int32.ofInt (sp' : Int)) (Int32.ofInt (dp' : Int)) (Int32.ofInt (n' : Int)) = vp_cell G.2.1.1 (len1, .inl (fun j => Int32.ofInt (cpy w k0 k1 sp' dp' n' k1 j))) := by
    have h := va_copied (fun z : Int32 => Value.int z) G.2.1.1 G.2.1.1 (n1 := len1) (dp := dp') (fun j => Int32.ofInt (w k0 j)) (fun j => Int32.ofInt (w k1 j)) h4
    unfold copied
    rw [e1, e2, e3]
    refine h.trans ?_
    rw [vp_cell_i]
    congr 1
    funext j
    simp only [va_cpy, cpy, true_and]
    split <;> rfl
  rw [ecp] at X' step
  have hl9 : adr G k1 < H.size := (Array.getElem?_eq_some_iff.mp hc1).1
  have hheap : ((T.setVm vm').setCell (adr G k1) (vp_cell G.2.1.1 (len1, .inl (fun j => Int32.ofInt (cpy w k0 k1 sp' dp' n' k1 j))))).heap = H.setIfInBounds (adr G k1) (vp_cell G.2.1.1 (len1, .inl (fun j => Int32.ofInt (cpy w k0 k1 sp' dp' n' k1 j)))) := by rw [← hT]; rfl
  have oq : ∀ q : Nat, q ≠ adr G k1 → (H.setIfInBounds (adr G k1) (vp_cell G.2.1.1 (len1, .inl (fun j => Int32.ofInt (cpy w k0 k1 sp' dp' n' k1 j)))))[q]? = H[q]? := fun q hq => by simp [Array.getElem?_setIfInBounds, Ne.symm hq]
  obtain ⟨t, b1, b2⟩ := kk (cpy_rng hr) _ _ ls (hP.upd hG hok1 (cpy_rng hr) cpy_off (by rw [ent_row hkd1]; show (H.setIfInBounds (adr G k1) _)[adr G k1]? = some _; simp [Array.getElem?_setIfInBounds, hl9]) oq) ⟨by simp; exact hS.1, fun q g1 g2 => by
      rw [oq q (fun e => g2 (by rw [e]; exact hA1 k1 hok1))]
      exact hS.2.1 q g1 g2, fun q hq => by
      rcases List.mem_append.mp hq with h | h
      · exact hS.2.2 q h
      · obtain ⟨z, -, hz⟩ := List.mem_map.mp h
        rw [← hz]
        exact hA1 k1 hok1⟩ hl _ hheap X'
  exact ⟨t, step t b1, b2⟩
theorem abs_eq {a : Int} (ha : -2147483648 < a) (ha2 : a < 2147483648) : (if 0 ≤ Int32.ofInt a then Int32.ofInt a else 0 - Int32.ofInt a) = Int32.ofInt (a.natAbs : Int) := by
  by_cases h : 0 ≤ a
  · rw [if_pos (show (0 : Int32) ≤ Int32.ofInt a from (ci_le inR_0 ⟨by omega, ha2⟩).mpr h), Int.natAbs_of_nonneg h]
  · rw [if_neg (fun q => h (c0_ge1 ⟨by omega, ha2⟩ q))]
    rw [show (a.natAbs : Int) = 0 - a by omega, Int32.ofInt_sub]
    rfl
theorem r_mabs (C : Cx B nL G A cc own Ts ret Rm) {a : Int} {index : Nat} (ha : -2147483648 < a) (ha2 : a < 2147483648) (hlink : Cond.methodLink own index Lib.Math.abs.name ∈ Ts) (hstat : Cond.static Lib.Math.abs.name ∈ Ts) (hini : Cond.initialized "java/lang/Math" ∈ Ts) (hcode : Cond.code Lib.Math.abs.name Lib.Math.abs.code 1 (some .int) ∈ Ts) (hfr : 1 ≤ Rm.frames) (hlo : (st.map fun v => v.category).sum + 13 ≤ Rm.locals) (hc : cells ≤ Rm.cells) (hs : slots ≤ Rm.slots) (hd : decode cc pc = .ok (.invokestatic index, 3))
    (kk : Wm B nL G A Q w cells slots (pc + 3) lv (vI (a.natAbs : Int) :: st)) : Wm B nL G A Q w cells slots pc lv (vI a :: st) := by
  obtain ⟨p, l, e, R, s, m, args, below, meth, c⟩ := B
  obtain ⟨hx, hb, hml, hown, hts, hK, hG, hA1, hA2, hlk, hret, hR⟩ := C
  intro H locs ls hP hS hl
  have kk := kk H locs ls hP hS hl
  rw [show vI (a.natAbs : Int) = .int (if 0 ≤ Int32.ofInt a then Int32.ofInt a else 0 - Int32.ofInt a) from congrArg Value.int (abs_eq ha ha2).symm] at kk
  dsimp only at hR
  subst hR
  exact va_mabs hx hb (by rw [hl.1]; exact hml) hown (hts _ hlink) (hts _ hstat) (hts _ hini) (hts _ hcode) hfr hlo hc hs hd kk
theorem max_eq {a b : Int} (ha : inR a) (hb : inR b) : (if Int32.ofInt a < Int32.ofInt b then Int32.ofInt b else Int32.ofInt a) = Int32.ofInt (max a b) := by
  by_cases h : a < b
  · rw [if_pos ((ci_lt ha hb).mpr h), show max a b = b by omega]
  · rw [if_neg (fun q => h (ci_lt1 ha hb q)), show max a b = a by omega]
theorem r_mmax (C : Cx B nL G A cc own Ts ret Rm) {a b : Int} {index : Nat} (ha : inR a) (hb0 : inR b) (hlink : Cond.methodLink own index Lib.Math.max.name ∈ Ts) (hstat : Cond.static Lib.Math.max.name ∈ Ts) (hini : Cond.initialized "java/lang/Math" ∈ Ts) (hcode : Cond.code Lib.Math.max.name Lib.Math.max.code 2 (some .int) ∈ Ts) (hfr : 1 ≤ Rm.frames) (hlo : (st.map fun v => v.category).sum + 13 ≤ Rm.locals) (hc : cells ≤ Rm.cells) (hs : slots ≤ Rm.slots) (hd : decode cc pc = .ok (.invokestatic index, 3))
    (kk : Wm B nL G A Q w cells slots (pc + 3) lv (vI (max a b) :: st)) : Wm B nL G A Q w cells slots pc lv (vI b :: vI a :: st) := by
  obtain ⟨p, l, e, R, s, m, args, below, meth, c⟩ := B
  obtain ⟨hx, hb, hml, hown, hts, hK, hG, hA1, hA2, hlk, hret, hR⟩ := C
  intro H locs ls hP hS hl
  have kk := kk H locs ls hP hS hl
  rw [show vI (max a b) = .int (if Int32.ofInt a < Int32.ofInt b then Int32.ofInt b else Int32.ofInt a) from congrArg Value.int (max_eq ha hb0).symm] at kk
  dsimp only at hR
  subst hR
  exact va_mmax hx hb (by rw [hl.1]; exact hml) hown (hts _ hlink) (hts _ hstat) (hts _ hini) (hts _ hcode) hfr hlo hc hs hd kk
theorem r_tsIn (C : Cx B nL G A cc own Ts ret Rm) {a dflt lo hi off : Int} {offs : Array Int} {len tgt : Nat} (hd : decode cc pc = .ok (.tableswitch dflt lo hi offs, len)) (ha : inR a) (h1 : lo ≤ a) (h2 : a ≤ hi) (ho : offs[(a - lo).toNat]? = some off) (ht : (pc : Int) + off = (tgt : Int)) (kk : Wm B nL G A Q w cells slots tgt lv st) : Wm B nL G A Q w cells slots pc lv (vI a :: st) := by
  obtain ⟨p, l, e, R, s, m, args, below, meth, c⟩ := B
  intro H locs ls hP hS hl
  exact lv_tableIn C.1 C.2.1 hd (by rw [tI ha]; omega) (by rw [tI ha]; omega) (by rw [tI ha]; exact ho) ht (kk H locs ls hP hS hl)
theorem r_tsOut (C : Cx B nL G A cc own Ts ret Rm) {a dflt lo hi : Int} {offs : Array Int} {len tgt : Nat} (hd : decode cc pc = .ok (.tableswitch dflt lo hi offs, len)) (ha : inR a) (h : a < lo ∨ hi < a) (ht : (pc : Int) + dflt = (tgt : Int)) (kk : Wm B nL G A Q w cells slots tgt lv st) : Wm B nL G A Q w cells slots pc lv (vI a :: st) := by
  obtain ⟨p, l, e, R, s, m, args, below, meth, c⟩ := B
  intro H locs ls hP hS hl
  exact lv_tableOut C.1 C.2.1 hd (by rw [tI ha]; exact h) ht (kk H locs ls hP hS hl)
theorem Wm.widen {B : Bx} {nL : Nat} {G : Gt} {A : Nat → Prop} {Q : State → Prop} {w : Mm} {cells slots c2 s2 pc : Nat} {lv : List (Nat × Value)} {st : List Value} (h1 : cells ≤ c2) (h2 : slots ≤ s2) (kk : Wm B nL G A Q w c2 s2 pc lv st) : Wm B nL G A Q w cells slots pc lv st := fun H locs ls hP hS hl => W.widen h1 h2 (kk H locs ls hP hS hl)
theorem Wm.sub {B : Bx} {nL : Nat} {G : Gt} {A : Nat → Prop} {Q : State → Prop} {w : Mm} {cells slots pc : Nat} {lv lv' : List (Nat × Value)} {st : List Value} (ks : List Nat) (h : lv_pick lv ks = lv') (kk : Wm B nL G A Q w cells slots pc lv' st) : Wm B nL G A Q w cells slots pc lv st := fun H locs ls hP hS hl => kk H locs ls hP hS (lv_sub hl ks h)
theorem r_back {A0 A1 : Nat → Prop} {p : Program} {l : Launch} {e : Env} {R : Room} {s : State} {m : MethodId} {args : Array Value} {below : List Frame} {meth : Method} {c : Code} {H : Heap} {locs : List Loc} {cells slots pc mc ms : Nat} {Q : State → Prop} {ls : Array Slot} {rest st0 : List Value} {a : Array Value} {free : Addr → Prop} {H0 : Heap} {G : Gt} {v : Option Value} {w' : Mm}
    (hr : va_Run p l e R s m args below meth c H locs cells slots mc ms (F0 m pc ls st0) rest (Qw G v w' A1 a) free) (hS : va_S A0 H0 H locs) (hA : ∀ q, q < H.size → A1 q → A0 q) (hf : ∀ q, free q → A0 q)
    (kk : ∀ (H1 : Heap) (locs1 : List Loc), Pic G w' H1 → va_S A0 H0 H1 locs1 → W p l e R s m args below meth c H1 locs1 (cells + mc) (slots + ms) Q (F0 m (pc + 3) ls (v.toList ++ rest))) : W p l e R s m args below meth c H locs cells slots Q (F0 m pc ls st0) := by
  intro T hT X
  obtain ⟨v2, st₀, t, T', L, h0, X', hL, e1, e2, ⟨hv, hp, hz, hk⟩, st⟩ := hr T hT X
  cases hv
  rw [h0] at hz hk
  obtain ⟨t2, a1, b1⟩ := kk T'.heap (locs ++ L) (by rw [e1]; exact hp)
    ⟨Nat.le_trans hS.1 (by rw [e1]; exact hz), fun q h1 h2 => by rw [e1, hk q (Nat.lt_of_lt_of_le h1 hS.1) (fun z => h2 (hA q (Nat.lt_of_lt_of_le h1 hS.1) z))]; exact hS.2.1 q h1 h2, fun q hq => by
      rcases List.mem_append.mp hq with h | h
      · exact hS.2.2 q h
      · exact hf _ (hL q h)⟩ T' rfl X'
  exact ⟨t2, st t2 a1, b1⟩
theorem Ag_in {B : Bx} {nL : Nat} {G : Gt} {A : Nat → Prop} {cc : ByteArray} {own : String} {Ts : List Cond} {ret : Option FieldType} {Rm : Room} (C : Cx B nL G A cc own Ts ret Rm) {H : Heap} {locs : List Loc} (hS : va_S A B.2.2.2.2.1.heap H locs) : ∀ q, Ag G H.size q → A q := by
  intro q h
  rcases h with ⟨k, hk, rfl⟩ | h
  · exact C.2.2.2.2.2.2.2.1 k hk
  · exact C.2.2.2.2.2.2.2.2.1 q (Nat.le_trans hS.1 h)
theorem r_callV (C : Cx B nL G A cc own Ts ret Rm) {y : MethodName} {ws ws' : List Cond} {rm : Room} {v : Option Value} {w' : Mm} {mc ms index maxL : Nat} {bytes : ByteArray} {retY : Option FieldType} {k0 : Ky} {ci nk N : Nat} {Cn : String} {T : u_T} {rest st' : List Value} (As : List Value) (n : Nat)
    (hM : Con B.2.1 G y ws rm w (.ref (adr G k0) :: As) v w' mc ms) (hg : GoodIn Ts (wsV own index Cn y ws)) (hw : ws = Cond.code y bytes maxL retY :: ws') (hrc : rm.cells = mc) (hrs : rm.slots = ms)
    (hdc : y.cls = Cn ∧ y.cls ≠ "java/lang/invoke/MethodHandle" ∧ y.cls ≠ "java/lang/invoke/VarHandle" ∧ (parseMethodDescriptor y.desc).map (fun d => d.parameters.length) = some n) (h1 : rm.frames + 1 ≤ Rm.frames) (h2 : 8 + (maxL + 11) + rm.locals ≤ Rm.locals) (hf : cells + mc ≤ Rm.cells ∧ slots + ms ≤ Rm.slots)
    (hok : okk G k0) (hkd : kd k0 = (ci, nk)) (hlt : ci < 6) (hc : vwCl[ci]? = some (Cn, T, N)) (hn : As.length = n) (hst : st = As.reverse ++ .ref (adr G k0) :: rest) (hcat : (rest.map fun v => v.category).sum ≤ 8) (hst' : v.toList ++ rest = st') (hd : decode cc pc = .ok (.invokevirtual index, 3))
    (kk : rng w' → Wm B nL G A Q w' (cells + mc) (slots + ms) (pc + 3) lv st') : Wm B nL G A Q w cells slots pc lv st := by
  have hAg := @Ag_in _ _ _ _ _ _ _ _ _ C
  obtain ⟨p, l, e, R, s, m, args, below, meth, c⟩ := B
  obtain ⟨hx, hb, hml, hown, hts, hK, hG, hA1, hA2, hlk, hret, hR⟩ := C
  intro H locs ls hP hS hl
  dsimp only at hR
  subst hR; subst hst; subst hst'
  have hat := hP.2 k0 hok
  rw [ent_obj hkd hlt] at hat
  have hP1 : va_P G.1 vwCl [(adr G k0, .inr (ci, flds (adr G) w k0 ci))] H := fun i q hq => by
    cases i with
    | zero => cases hq; exact hat
    | succ i => simp at hq
  exact r_back (va_runV (As := As) (rest := rest) ⟨hx, hb, hml, hown, hts⟩ (hM H.size) (cwV n hts hg hw hrc hrs hdc ⟨h1, h2⟩) ⟨Pw.blind, va_recv hK hP1 (q0 := 0) hc rfl, fun U hU hW => ⟨rfl, by rw [hU], by rw [hU]; exact hP, va_K.moved hW.alike hK⟩⟩ rfl hn hl.1 rfl (lv_room hcat) hd hf) hS (fun q _ h => hAg hS q h) (hAg hS) (fun H1 locs1 hP1 hS1 => kk hP1.1 H1 locs1 ls hP1 hS1 hl)
theorem r_callS (C : Cx B nL G A cc own Ts ret Rm) {y : MethodName} {ws ws' : List Cond} {rm : Room} {v : Option Value} {w' : Mm} {mc ms index maxL : Nat} {bytes : ByteArray} {retY : Option FieldType} {rest st' : List Value} (As : List Value) (n : Nat)
    (hM : Con B.2.1 G y ws rm w As v w' mc ms) (hg : GoodIn Ts (va_wsS own index y ws)) (hw : ws = Cond.code y bytes maxL retY :: ws') (hrc : rm.cells = mc) (hrs : rm.slots = ms)
    (hdc : y.cls ≠ "java/lang/invoke/MethodHandle" ∧ y.cls ≠ "java/lang/invoke/VarHandle" ∧ (parseMethodDescriptor y.desc).map (fun d => d.parameters.length) = some n) (h1 : rm.frames + 1 ≤ Rm.frames) (h2 : 8 + (maxL + 11) + rm.locals ≤ Rm.locals) (hf : cells + mc ≤ Rm.cells ∧ slots + ms ≤ Rm.slots)
    (hn : As.length = n) (hst : st = As.reverse ++ rest) (hcat : (rest.map fun v => v.category).sum ≤ 8) (hst' : v.toList ++ rest = st') (hd : decode cc pc = .ok (.invokestatic index, 3))
    (kk : rng w' → Wm B nL G A Q w' (cells + mc) (slots + ms) (pc + 3) lv st') : Wm B nL G A Q w cells slots pc lv st := by
  have hAg := @Ag_in _ _ _ _ _ _ _ _ _ C
  obtain ⟨p, l, e, R, s, m, args, below, meth, c⟩ := B
  obtain ⟨hx, hb, hml, hown, hts, hK, hG, hA1, hA2, hlk, hret, hR⟩ := C
  intro H locs ls hP hS hl
  dsimp only at hR
  subst hR; subst hst; subst hst'
  exact r_back (va_runS (As := As) (rest := rest) ⟨hx, hb, hml, hown, hts⟩ (hM H.size) (va_cwS n hts hg hw hrc hrs hdc ⟨h1, h2⟩) ⟨Pw.blind, fun U hU hW => ⟨rfl, by rw [hU], by rw [hU]; exact hP, va_K.moved hW.alike hK⟩⟩ rfl hn hl.1 rfl (lv_room hcat) hd hf) hS (fun q _ h => hAg hS q h) (hAg hS) (fun H1 locs1 hP1 hS1 => kk hP1.1 H1 locs1 ls hP1 hS1 hl)
theorem r_iret (C : Cx B nL G A cc own Ts (some .int) Rm) {z : Int} {v : Option Value} {w' : Mm} (hd : decode cc pc = .ok (.ireturn, 1)) (hv : some (vI z) = v) (hw : w = w') : Wm B nL G A (Qe B G A v w' cells slots) w cells slots pc lv [vI z] := by
  obtain ⟨p, l, e, R, s, m, args, below, meth, c⟩ := B
  obtain ⟨hx, hb, hml, hown, hts, hK, hG, hA1, hA2, hlk, hret, hR⟩ := C
  intro H locs ls hP hS hl
  subst hv; subst hw
  exact W.iret hx hb hret (fun t ht hW => ⟨rfl, by rw [ht]; exact hP, hS.F ht⟩) hS.2.2 hd hlk
theorem r_zret (C : Cx B nL G A cc own Ts (some .boolean) Rm) {z : Int} {v : Option Value} {w' : Mm} (hd : decode cc pc = .ok (.ireturn, 1)) (hz : z = 0 ∨ z = 1) (hv : some (vI z) = v) (hw : w = w') : Wm B nL G A (Qe B G A v w' cells slots) w cells slots pc lv [vI z] := by
  obtain ⟨p, l, e, R, s, m, args, below, meth, c⟩ := B
  obtain ⟨hx, hb, hml, hown, hts, hK, hG, hA1, hA2, hlk, hret, hR⟩ := C
  intro H locs ls hP hS hl
  subst hv; subst hw
  exact W.zret hx hb hret (by rcases hz with rfl | rfl <;> decide) (fun t ht hW => ⟨rfl, by rw [ht]; exact hP, hS.F ht⟩) hS.2.2 hd hlk
theorem r_vret (C : Cx B nL G A cc own Ts none Rm) {w' : Mm} (hd : decode cc pc = .ok (.return_, 1)) (hw : w = w') : Wm B nL G A (Qe B G A none w' cells slots) w cells slots pc lv [] := by
  obtain ⟨p, l, e, R, s, m, args, below, meth, c⟩ := B
  obtain ⟨hx, hb, hml, hown, hts, hK, hG, hA1, hA2, hlk, hret, hR⟩ := C
  intro H locs ls hP hS hl
  subst hw
  exact W.vret hx hb hret (fun t ht hW => ⟨rfl, by rw [ht]; exact hP, hS.F ht⟩) hS.2.2 hd hlk
theorem r_lret (C : Cx B nL G A cc own Ts (some .long) Rm) {z : Int64} {v : Option Value} {w' : Mm} (hd : decode cc pc = .ok (.lreturn, 1)) (hv : some (Value.long z) = v) (hw : w = w') : Wm B nL G A (Qe B G A v w' cells slots) w cells slots pc lv [.long z] := by
  obtain ⟨p, l, e, R, s, m, args, below, meth, c⟩ := B
  obtain ⟨hx, hb, hml, hown, hts, hK, hG, hA1, hA2, hlk, hret, hR⟩ := C
  intro H locs ls hP hS hl
  subst hv; subst hw
  exact W.lret hx hb hret (fun t ht hW => ⟨rfl, by rw [ht]; exact hP, hS.F ht⟩) hS.2.2 hd hlk

theorem Wm.mem {B : Bx} {nL : Nat} {G : Gt} {A : Nat → Prop} {Q : State → Prop} {w w' : Mm} {cells slots pc : Nat} {lv lv' : List (Nat × Value)} {st : List Value} (h : w = w') (hl : lv = lv') (kk : Wm B nL G A Q w' cells slots pc lv' st) : Wm B nL G A Q w cells slots pc lv st := by
  subst h
  subst hl
  exact kk
theorem Wm.top {B : Bx} {nL : Nat} {G : Gt} {A : Nat → Prop} {Q : State → Prop} {w : Mm} {cells slots pc : Nat} {lv : List (Nat × Value)} {st : List Value} {z z' : Int} (h : z = z') (kk : Wm B nL G A Q w cells slots pc lv (vI z' :: st)) : Wm B nL G A Q w cells slots pc lv (vI z :: st) := by
  subst h
  exact kk
/-! truth values -/
def bI (P : Prop) [Decidable P] : Int := if P then 1 else 0
theorem bI_01 (P : Prop) [Decidable P] : bI P = 0 ∨ bI P = 1 := by
  unfold bI
  split
  · exact Or.inr rfl
  · exact Or.inl rfl
theorem bI_t {P : Prop} [Decidable P] (h : P) : bI P = 1 := if_pos h
theorem bI_f {P : Prop} [Decidable P] (h : ¬ P) : bI P = 0 := if_neg h
theorem bI_inR (P : Prop) [Decidable P] : inR (bI P) := by
  rcases bI_01 P with h | h <;> rw [h] <;> exact ⟨by decide, by decide⟩
theorem bI_0 {P : Prop} [Decidable P] (h : bI P = 0) : ¬ P := fun q => by rw [bI_t q] at h; omega
theorem bI_1 {P : Prop} [Decidable P] (h : ¬ bI P = 0) : P := Decidable.byContradiction fun q => h (bI_f q)
theorem r_if_eqP (C : Cx B nL G A cc own Ts ret Rm) {P : Prop} [Decidable P] {off : Int} {tgt : Nat} (hd : decode cc pc = .ok (.ifCond .eq off, 3)) (ht : (pc : Int) + off = (tgt : Int)) (k1 : ¬ P → Wm B nL G A Q w cells slots tgt lv st) (k2 : P → Wm B nL G A Q w cells slots (pc + 3) lv st) : Wm B nL G A Q w cells slots pc lv (vI (bI P) :: st) :=
  r_if_eq C hd ht (bI_inR P) (fun h => k1 (bI_0 h)) (fun h => k2 (bI_1 h))
theorem r_if_neP (C : Cx B nL G A cc own Ts ret Rm) {P : Prop} [Decidable P] {off : Int} {tgt : Nat} (hd : decode cc pc = .ok (.ifCond .ne off, 3)) (ht : (pc : Int) + off = (tgt : Int)) (k1 : P → Wm B nL G A Q w cells slots tgt lv st) (k2 : ¬ P → Wm B nL G A Q w cells slots (pc + 3) lv st) : Wm B nL G A Q w cells slots pc lv (vI (bI P) :: st) :=
  r_if_ne C hd ht (bI_inR P) (fun h => k1 (bI_1 h)) (fun h => k2 (bI_0 h))
/-! keys -/
theorem ok_of {G : Gt} (hG : Gok G) {k : Ky} {ci n : Nat} (h : kd k = (ci, n)) (h9 : ci < 9) (h6 : k.1 ≤ 6) : okk G k := hG.2 k (by rw [h]; exact h9) h6
theorem kdv0 {t v : Nat} (ht : t ≤ 1) (hv : v ≤ 7) : kd (t, v, 0) = (2, 0) := by simp [kd, ht, hv]
theorem kdv1 {t v : Nat} (ht : t ≤ 1) (hv : v ≤ 7) : kd (t, v, 1) = (6, 5) := by simp [kd, ht, hv]
theorem kdv2 {t v : Nat} (ht : t ≤ 1) (hv : v ≤ 7) : kd (t, v, 2) = (6, 12) := by simp [kd, ht, hv]
theorem kdv3 {t v : Nat} (ht : t ≤ 1) (hv : v ≤ 7) : kd (t, v, 3) = (1, 0) := by simp [kd, ht, hv]
theorem kdv4 {t v : Nat} (ht : t ≤ 1) (hv : v ≤ 7) : kd (t, v, 4) = (6, 112) := by simp [kd, ht, hv]
theorem kdv5 {t v : Nat} (ht : t ≤ 1) (hv : v ≤ 7) : kd (t, v, 5) = (6, 112) := by simp [kd, ht, hv]
theorem kdv6 {t v : Nat} (ht : t ≤ 1) (hv : v ≤ 7) : kd (t, v, 6) = (6, 112) := by simp [kd, ht, hv]
theorem kdv7 {t v : Nat} (ht : t ≤ 1) (hv : v ≤ 7) : kd (t, v, 7) = (6, 112) := by simp [kd, ht, hv]
theorem kdl0 {t : Nat} (ht : t ≤ 1) : kd (t, 8, 0) = (0, 0) := by simp [kd, ht]
theorem kdl1 {t : Nat} (ht : t ≤ 1) : kd (t, 8, 1) = (6, 12) := by simp [kd, ht]
theorem kdl2 {t : Nat} (ht : t ≤ 1) : kd (t, 8, 2) = (6, 12) := by simp [kd, ht]
theorem kdl3 {t : Nat} (ht : t ≤ 1) : kd (t, 8, 3) = (7, 8) := by simp [kd, ht]
theorem kds0 {u : Nat} (hu : u = 4 ∨ u = 5) : kd (u, 0, 0) = (4, 0) := by rcases hu with rfl | rfl <;> rfl
theorem kds1 {u : Nat} (hu : u = 4 ∨ u = 5) : kd (u, 0, 1) = (6, 8) := by rcases hu with rfl | rfl <;> rfl
theorem kds2 {u : Nat} (hu : u = 4 ∨ u = 5) : kd (u, 0, 2) = (6, 8) := by rcases hu with rfl | rfl <;> rfl
theorem kds3 {u : Nat} (hu : u = 4 ∨ u = 5) : kd (u, 0, 3) = (6, 8) := by rcases hu with rfl | rfl <;> rfl
theorem kds4 {u : Nat} (hu : u = 4 ∨ u = 5) : kd (u, 0, 4) = (6, 8) := by rcases hu with rfl | rfl <;> rfl
theorem kds5 {u : Nat} (hu : u = 4 ∨ u = 5) : kd (u, 0, 5) = (6, 40) := by rcases hu with rfl | rfl <;> rfl
theorem kds6 {u : Nat} (hu : u = 4 ∨ u = 5) : kd (u, 0, 6) = (6, 96) := by rcases hu with rfl | rfl <;> rfl
theorem kds7 {u : Nat} (hu : u = 4 ∨ u = 5) : kd (u, 0, 7) = (6, 8) := by rcases hu with rfl | rfl <;> rfl
theorem kds8 {u : Nat} (hu : u = 4 ∨ u = 5) : kd (u, 0, 8) = (6, 1024) := by rcases hu with rfl | rfl <;> rfl
theorem kds9 {u : Nat} (hu : u = 4 ∨ u = 5) : kd (u, 0, 9) = (6, 1024) := by rcases hu with rfl | rfl <;> rfl
theorem kds10 {u : Nat} (hu : u = 4 ∨ u = 5) : kd (u, 0, 10) = (6, 1024) := by rcases hu with rfl | rfl <;> rfl
theorem kds11 {u : Nat} (hu : u = 4 ∨ u = 5) : kd (u, 0, 11) = (6, 1024) := by rcases hu with rfl | rfl <;> rfl
theorem kds12 {u : Nat} (hu : u = 4 ∨ u = 5) : kd (u, 0, 12) = (6, 1024) := by rcases hu with rfl | rfl <;> rfl
theorem rem_t {a b : Int} (ha : inR a) (hb : 0 < b) (hb2 : b < 2147483648) : Int32.ofInt a - Int32.ofInt a / Int32.ofInt b * Int32.ofInt b = Int32.ofInt (a.tmod b) := by
  have h2 : (Int32.ofInt b).toInt = b := tI ⟨by omega, hb2⟩
  have h3 : Int32.ofInt a / Int32.ofInt b = Int32.ofInt (a.tdiv b) := by
    rw [← Int32.ofInt_toInt (Int32.ofInt a / Int32.ofInt b), Int32.toInt_div_of_ne_right _ _ (fun q => by rw [q] at h2; simp at h2; omega), tI ha, h2]
  rw [h3, ← Int32.ofInt_mul, ← Int32.ofInt_sub, Int.tmod_def, Int.mul_comm]
theorem r_iremT (C : Cx B nL G A cc own Ts ret Rm) {a b : Int} (hd : decode cc pc = .ok (.irem, 1)) (ha : inR a) (hb : 0 < b) (hb2 : b < 2147483648) (kk : Wm B nL G A Q w cells slots (pc + 1) lv (vI (a.tmod b) :: st)) : Wm B nL G A Q w cells slots pc lv (vI b :: vI a :: st) := by
  obtain ⟨p, l, e, R, s, m, args, below, meth, c⟩ := B
  intro H locs ls hP hS hl
  have kk := kk H locs ls hP hS hl
  rw [show vI (a.tmod b) = .int (Int32.ofInt a - Int32.ofInt a / Int32.ofInt b * Int32.ofInt b) from congrArg Value.int (rem_t ha hb hb2).symm] at kk
  exact lv_irem C.1 C.2.1 hd (div_ne hb hb2) kk
def xr (a b : Int) : Int := (Int32.ofInt a ^^^ Int32.ofInt b).toInt
theorem xr_neg {a b : Int} (ha : inR a) (hb : 0 < b) (hb2 : b < 2147483648) : xr a b < 0 ↔ a < 0 := by
  have h1 : (Int32.ofInt a).toBitVec.toInt = a := tI ha
  have h2 : (Int32.ofInt b).toBitVec.toInt = b := tI ⟨by omega, hb2⟩
  have h3 : ((Int32.ofInt a ^^^ Int32.ofInt b).toBitVec).msb = ((Int32.ofInt a).toBitVec.msb ^^ (Int32.ofInt b).toBitVec.msb) := by
    rw [Int32.toBitVec_xor, BitVec.msb_xor]
  rw [BitVec.msb_eq_toInt, BitVec.msb_eq_toInt, BitVec.msb_eq_toInt, h1, h2] at h3
  have h4 : decide (b < 0) = false := decide_eq_false (by omega)
  rw [h4, Bool.xor_false] at h3
  exact decide_eq_decide.mp h3
theorem r_ixor (C : Cx B nL G A cc own Ts ret Rm) {a b : Int} (hd : decode cc pc = .ok (.ixor, 1)) (kk : Wm B nL G A Q w cells slots (pc + 1) lv (vI (xr a b) :: st)) : Wm B nL G A Q w cells slots pc lv (vI b :: vI a :: st) := by
  obtain ⟨p, l, e, R, s, m, args, below, meth, c⟩ := B
  intro H locs ls hP hS hl
  have kk := kk H locs ls hP hS hl
  rw [show vI (xr a b) = .int (Int32.ofInt a ^^^ Int32.ofInt b) from congrArg Value.int (Int32.ofInt_toInt _)] at kk
  exact lv_ixor C.1 C.2.1 hd kk
theorem r_aret (C : Cx B nL G A cc own Ts ret Rm) {z : Nat} {v : Option Value} {w' : Mm} (hrt : ∃ n, ret = some (.object n)) (hd : decode cc pc = .ok (.areturn, 1)) (hv : some (Value.ref z) = v) (hw : w = w') : Wm B nL G A (Qe B G A v w' cells slots) w cells slots pc lv [.ref z] := by
  obtain ⟨p, l, e, R, s, m, args, below, meth, c⟩ := B
  obtain ⟨hx, hb, hml, hown, hts, hK, hG, hA1, hA2, hlk, hret, hR⟩ := C
  obtain ⟨n, rfl⟩ := hrt
  intro H locs ls hP hS hl
  subst hv; subst hw
  exact W.aret hx hb hret (Or.inl ⟨_, rfl⟩) (Or.inr ⟨_, rfl⟩) (fun t ht hW => ⟨rfl, by rw [ht]; exact hP, hS.F ht⟩) hS.2.2 hd hlk

theorem Met.ofWF {l : Launch} {y : MethodName} {ws ws' : List Cond} {rm : Room} {Pc : Array Value → State → Prop} {Qc : Array Value → State → Outcome → State → Prop} {mc ms : Nat} {free : Addr → Prop} {cc : ByteArray} {maxL : Nat} {ret : Option FieldType}
    (hy : plainFor y = true) (hw : ws = Cond.code y cc maxL ret :: ws')
    (body : ∀ p e s m args below meth c s₁, BodyLoose p l y (headSpec ws rm) cc maxL ret e s m args below meth c s₁ → c.maxLocals = maxL → Pc args s →
      W p l e (headSpec ws rm).room s m args below meth c s.heap [] 0 0 (MQ below Qc args s mc ms free) (entryFrame m args maxL)) : Met l y ws rm Pc Qc mc ms free := by
  refine MetFree.of_bodySF (code := cc) (maxLocals := maxL) (ret := ret) hy ?_ ?_
  · intro args s m h hn
    obtain ⟨meth, c, h1, h2, h3, h4, h5, h6, -, -⟩ := Cond.code_spec hn (atoms_spec (ws := ws) h _ (by rw [hw]; exact List.mem_cons_self))
    exact ⟨meth, c, h1, h2, h3, h4, h5, h6⟩
  · intro p e s m args below meth c s₁ B hml hP _
    have hh0 : s₁.heap = s.heap := by rw [B.state]; rfl
    obtain ⟨t, a1, o, b1, b2, b3⟩ := body p e s m args below meth c s₁ B hml hP s₁ hh0 (Stand.of_body B)
    exact ⟨t, o, a1, b1, b2, ⟨b3.1, b3.2⟩⟩
theorem Con.headF {l : Launch} {G : Gt} {y : MethodName} {ws ws' : List Cond} {rm : Room} {w : Mm} {av : List Value} {v : Option Value} {w' : Mm} {mc ms : Nat} {cc : ByteArray} {nL : Nat} {ret : Option FieldType}
    (hG : Gok G) (hy : plainFor y = true) (hw : ws = Cond.code y cc nL ret :: ws') (hn : (lg_sl av).length ≤ nL)
    (body : ∀ (B : Bx) (A : Nat → Prop), B.2.1 = l → Cx B nL G A cc y.cls ws ret rm → rng w → Wm B nL G A (Qe B G A v w' mc ms) w 0 0 0 (lv_args 0 av) []) : Con l G y ws rm w av v w' mc ms := by
  intro sz
  refine Met.ofWF (cc := cc) (maxL := nL) (ret := ret) hy hw ?_
  intro p e s m args below meth c s₁ B hml hv
  obtain ⟨rfl, hsz, hP, hK⟩ := hv
  have hts := atoms_spec (ws := ws) B.pre
  have hown : s.vm.findClass y.cls = some m.cls := findClass_of_methodNamed B.named
  subst hsz
  have hl := lv_entry av hn
  rw [lg_entry_eq]
  refine body (p, l, e, (headSpec ws rm).room, s, m, av.toArray, below, meth, c) (Ag G s.heap.size) rfl ⟨B.exec, B.bytes, hml, hown, hts, hK, hG, fun k hk => Or.inl ⟨k, hk, rfl⟩, fun q h => Or.inr h, B.notSynchronized, B.returns, rfl⟩ hP.1 s.heap [] _ hP va_S.rf hl

end ROWS
end
section
/-! DrumTalk$Sounds: what its methods do to the memory -/
def s1add (w : Mm) (t v : Nat) (p f b : Int) : Mm :=
  if w (t, v, 3) 4 < 112 then
    st1 (st1 (st1 (st1 (st1 w (t, v, 4) (w (t, v, 3) 4).toNat p) (t, v, 5) (w (t, v, 3) 4).toNat f) (t, v, 6) (w (t, v, 3) 4).toNat (f + b - 1)) (t, v, 7) (w (t, v, 3) 4).toNat 0) (t, v, 3) 4 (w (t, v, 3) 4 + 1)
  else w
def s1mv (w : Mm) (t v : Nat) (a b : Nat) : Mm :=
  st1 (st1 (st1 (st1 w (t, v, 4) b (w (t, v, 4) a)) (t, v, 5) b (w (t, v, 5) a)) (t, v, 6) b (w (t, v, 6) a)) (t, v, 7) b (w (t, v, 7) a)
def s1move (w : Mm) (t v : Nat) (a b : Int) : Mm :=
  if b < 0 ∨ a ≤ b ∨ w (t, v, 3) 4 ≤ a then w else s1mv w t v a.toNat b.toNat
def s1cp (w : Mm) (t v t2 v2 : Nat) : Mm :=
  st1 (cpy (cpy (cpy (cpy w (t2, v2, 4) (t, v, 4) 0 0 (w (t2, v2, 3) 4).toNat) (t2, v2, 5) (t, v, 5) 0 0 (w (t2, v2, 3) 4).toNat) (t2, v2, 6) (t, v, 6) 0 0 (w (t2, v2, 3) 4).toNat) (t2, v2, 7) (t, v, 7) 0 0 (w (t2, v2, 3) 4).toNat) (t, v, 3) 4 (w (t2, v2, 3) 4)
theorem s1cp_off {w : Mm} {t v t2 v2 : Nat} {k : Ky} {j : Nat} (h3 : k ≠ (t, v, 3)) (h4 : k ≠ (t, v, 4)) (h5 : k ≠ (t, v, 5)) (h6 : k ≠ (t, v, 6)) (h7 : k ≠ (t, v, 7)) : s1cp w t v t2 v2 k j = w k j := by
  simp [s1cp, st1, cpy, h3, h4, h5, h6, h7]
def s1last (w : Mm) (t v : Nat) (b : Int) : Nat → Nat
  | 0 => 0
  | n + 1 => if b < w (t, v, 5) n then s1last w t v b n else s1last w t v b n + 1
theorem s1last_le (w : Mm) (t v : Nat) (b : Int) : ∀ n, s1last w t v b n ≤ n
  | 0 => Nat.le_refl 0
  | n + 1 => by
    have := s1last_le w t v b n
    unfold s1last
    split <;> omega
def s1drown (w : Mm) (t v : Nat) (b : Int) : Nat → Mm
  | 0 => w
  | n + 1 => if b < w (t, v, 5) n then s1drown w t v b n else st1 (s1drown w t v b n) (t, v, 7) n 1
theorem s1drown_off {w : Mm} {t v : Nat} {b : Int} {k : Ky} {j : Nat} (h : k ≠ (t, v, 7)) : ∀ n, s1drown w t v b n k j = w k j
  | 0 => rfl
  | n + 1 => by
    have ih := s1drown_off (w := w) (t := t) (v := v) (b := b) (j := j) h n
    unfold s1drown
    split
    · exact ih
    · rw [st1_k h]
      exact ih

set_option maxRecDepth 100000 in
set_option maxHeartbeats 8000000 in
theorem c_X1_add {l : Launch} {G : Gt} (hG : Gok G) {t : Nat} {v : Nat} (ht : t ≤ 1) (hv : v ≤ 7) {w : Mm} {p : Int} {f : Int} {b : Int} (hz : 0 ≤ w (t, v, 3) 4 ∧ w (t, v, 3) 4 ≤ 112) (hp : inR p) (hf : inR f) (hb : inR (f + b - 1)) : Con l G yX1_add wsX1_add ({ frames := 0, cells := 0, slots := 0, locals := 0 } : Room) w [.ref (adr G (t, v, 3)), vI p, vI f, vI b] none (s1add w t v p f b) 0 0 := by
  refine Con.head (cc := cX1_add) (nL := 4) (ret := none) hG (by decide +kernel) rfl (Nat.le_of_ble_eq_true rfl) ?_
  intro B A hBl C hr
  have hr0 := hr
  have hinX1 : ∀ w ∈ u_ws RX1 TX1 5, w ∈ wsX1_add := by decide +kernel
  obtain ⟨hz1, hz2⟩ := hz
  refine r_aload_n C (k := 0) dX1_add_0 rfl ?_
  refine r_getf C 4 (ok_of hG (kdv3 ht hv) (by decide) (Nat.le_trans ht (by decide))) (kdv3 ht hv) (by decide) rfl hinX1 (by decide) (by decide +kernel) rfl rfl dX1_add_1 ?_
  refine r_bipush C dX1_add_4 (by decide) ?_
  refine r_icmp_lt C (tgt := 10) dX1_add_6 (by decide) (by first | exact hr _ _ | exact hr0 _ _ | assumption | exact ⟨by omega, by omega⟩) ⟨by decide, by decide⟩ (fun h_1 => ?_) (fun h_1 => ?_)
  · skip
    refine r_aload_n C (k := 0) dX1_add_10 rfl ?_
    refine r_getf C 0 (v := .ref (adr G (t, v, 4))) (ok_of hG (kdv3 ht hv) (by decide) (Nat.le_trans ht (by decide))) (kdv3 ht hv) (by decide) rfl hinX1 (by decide) (by decide +kernel) rfl rfl dX1_add_11 ?_
    refine r_aload_n C (k := 0) dX1_add_14 rfl ?_
    refine r_getf C 4 (ok_of hG (kdv3 ht hv) (by decide) (Nat.le_trans ht (by decide))) (kdv3 ht hv) (by decide) rfl hinX1 (by decide) (by decide +kernel) rfl rfl dX1_add_15 ?_
    refine r_iload_n C (k := 1) dX1_add_18 rfl ?_
    refine r_iast C ((w (t, v, 3) (4)).toNat) hr (by first | exact hr _ _ | exact hr0 _ _ | assumption | exact ⟨by omega, by omega⟩) (ok_of hG (kdv4 ht hv) (by decide) (Nat.le_trans ht (by decide))) (kdv4 ht hv) (Int.toNat_of_nonneg (by first | omega | assumption)).symm (by first | omega | assumption) (by decide) dX1_add_19 (fun hr => ?_)
    refine r_aload_n C (k := 0) dX1_add_20 rfl ?_
    refine r_getf C 1 (v := .ref (adr G (t, v, 5))) (ok_of hG (kdv3 ht hv) (by decide) (Nat.le_trans ht (by decide))) (kdv3 ht hv) (by decide) rfl hinX1 (by decide) (by decide +kernel) rfl rfl dX1_add_21 ?_
    refine r_aload_n C (k := 0) dX1_add_24 rfl ?_
    refine r_getf C 4 (ok_of hG (kdv3 ht hv) (by decide) (Nat.le_trans ht (by decide))) (kdv3 ht hv) (by decide) rfl hinX1 (by decide) (by decide +kernel) rfl rfl dX1_add_25 ?_
    refine Wm.top (z' := w (t, v, 3) (4)) (by simp [st1, cpy]) ?_
    refine r_iload_n C (k := 2) dX1_add_28 rfl ?_
    refine r_iast C ((w (t, v, 3) (4)).toNat) hr (by first | exact hr _ _ | exact hr0 _ _ | assumption | exact ⟨by omega, by omega⟩) (ok_of hG (kdv5 ht hv) (by decide) (Nat.le_trans ht (by decide))) (kdv5 ht hv) (Int.toNat_of_nonneg (by first | omega | assumption)).symm (by first | omega | assumption) (by decide) dX1_add_29 (fun hr => ?_)
    refine r_aload_n C (k := 0) dX1_add_30 rfl ?_
    refine r_getf C 2 (v := .ref (adr G (t, v, 6))) (ok_of hG (kdv3 ht hv) (by decide) (Nat.le_trans ht (by decide))) (kdv3 ht hv) (by decide) rfl hinX1 (by decide) (by decide +kernel) rfl rfl dX1_add_31 ?_
    refine r_aload_n C (k := 0) dX1_add_34 rfl ?_
    refine r_getf C 4 (ok_of hG (kdv3 ht hv) (by decide) (Nat.le_trans ht (by decide))) (kdv3 ht hv) (by decide) rfl hinX1 (by decide) (by decide +kernel) rfl rfl dX1_add_35 ?_
    refine Wm.top (z' := w (t, v, 3) (4)) (by simp [st1, cpy]) ?_
    refine r_iload_n C (k := 2) dX1_add_38 rfl ?_
    refine r_iload_n C (k := 3) dX1_add_39 rfl ?_
    refine r_iadd C dX1_add_40 ?_
    refine r_iconst C dX1_add_41 ?_
    refine r_isub C dX1_add_42 ?_
    refine r_iast C ((w (t, v, 3) (4)).toNat) hr (by first | exact hr _ _ | exact hr0 _ _ | assumption | exact ⟨by omega, by omega⟩) (ok_of hG (kdv6 ht hv) (by decide) (Nat.le_trans ht (by decide))) (kdv6 ht hv) (Int.toNat_of_nonneg (by first | omega | assumption)).symm (by first | omega | assumption) (by decide) dX1_add_43 (fun hr => ?_)
    refine r_aload_n C (k := 0) dX1_add_44 rfl ?_
    refine r_getf C 3 (v := .ref (adr G (t, v, 7))) (ok_of hG (kdv3 ht hv) (by decide) (Nat.le_trans ht (by decide))) (kdv3 ht hv) (by decide) rfl hinX1 (by decide) (by decide +kernel) rfl rfl dX1_add_45 ?_
    refine r_aload_n C (k := 0) dX1_add_48 rfl ?_
    refine r_getf C 4 (ok_of hG (kdv3 ht hv) (by decide) (Nat.le_trans ht (by decide))) (kdv3 ht hv) (by decide) rfl hinX1 (by decide) (by decide +kernel) rfl rfl dX1_add_49 ?_
    refine Wm.top (z' := w (t, v, 3) (4)) (by simp [st1, cpy]) ?_
    refine r_iconst C dX1_add_52 ?_
    refine r_iast C ((w (t, v, 3) (4)).toNat) hr ⟨by decide, by decide⟩ (ok_of hG (kdv7 ht hv) (by decide) (Nat.le_trans ht (by decide))) (kdv7 ht hv) (Int.toNat_of_nonneg (by first | omega | assumption)).symm (by first | omega | assumption) (by decide) dX1_add_53 (fun hr => ?_)
    refine r_aload_n C (k := 0) dX1_add_54 rfl ?_
    refine r_dup C dX1_add_55 rfl ?_
    refine r_getf C 4 (ok_of hG (kdv3 ht hv) (by decide) (Nat.le_trans ht (by decide))) (kdv3 ht hv) (by decide) rfl hinX1 (by decide) (by decide +kernel) rfl rfl dX1_add_56 ?_
    refine Wm.top (z' := w (t, v, 3) (4)) (by simp [st1, cpy]) ?_
    refine r_iconst C dX1_add_59 ?_
    refine r_iadd C dX1_add_60 ?_
    refine r_putf C 4 hr (by first | exact hr _ _ | exact hr0 _ _ | assumption | exact ⟨by omega, by omega⟩) (ok_of hG (kdv3 ht hv) (by decide) (Nat.le_trans ht (by decide))) (kdv3 ht hv) (by decide) rfl hinX1 tyX1_ok nmX1 (by decide) (by decide +kernel) rfl rfl (ty := .int) (by decide +kernel) rfl rfl rfl (Nat.le_of_ble_eq_true rfl) dX1_add_61 (fun hr => ?_)
    exact r_vret C dX1_add_64 (by first | rfl | (unfold s1add; rw [if_pos (by assumption)]) | (unfold s1add; rw [if_neg (by omega)]))
  · skip
    exact r_vret C dX1_add_9 (by first | rfl | (unfold s1add; rw [if_pos (by assumption)]) | (unfold s1add; rw [if_neg (by omega)]))

set_option maxRecDepth 100000 in
set_option maxHeartbeats 8000000 in
theorem c_X1_move {l : Launch} {G : Gt} (hG : Gok G) {t : Nat} {v : Nat} (ht : t ≤ 1) (hv : v ≤ 7) {w : Mm} {a : Int} {b : Int} (hz : 0 ≤ w (t, v, 3) 4 ∧ w (t, v, 3) 4 ≤ 112) (ha : inR a) (hb : inR b) : Con l G yX1_move wsX1_move ({ frames := 0, cells := 0, slots := 0, locals := 0 } : Room) w [.ref (adr G (t, v, 3)), vI a, vI b] none (s1move w t v a b) 0 0 := by
  refine Con.head (cc := cX1_move) (nL := 3) (ret := none) hG (by decide +kernel) rfl (Nat.le_of_ble_eq_true rfl) ?_
  intro B A hBl C hr
  have hr0 := hr
  have hinX1 : ∀ w ∈ u_ws RX1 TX1 5, w ∈ wsX1_move := by decide +kernel
  obtain ⟨hz1, hz2⟩ := hz
  refine r_iload_n C (k := 2) dX1_move_0 rfl ?_
  refine r_if_lt C (tgt := 17) dX1_move_1 (by decide) (by first | exact hr _ _ | exact hr0 _ _ | assumption | exact ⟨by omega, by omega⟩) (fun h_1 => ?_) (fun h_1 => ?_)
  · skip
    exact r_vret C dX1_move_17 (by first | (unfold s1move; rw [if_pos (by omega)]) | (unfold s1move; rw [if_neg (by omega)]; rfl))
  · skip
    refine r_iload_n C (k := 2) dX1_move_4 rfl ?_
    refine r_iload_n C (k := 1) dX1_move_5 rfl ?_
    refine r_icmp_ge C (tgt := 17) dX1_move_6 (by decide) (by first | exact hr _ _ | exact hr0 _ _ | assumption | exact ⟨by omega, by omega⟩) (by first | exact hr _ _ | exact hr0 _ _ | assumption | exact ⟨by omega, by omega⟩) (fun h_2 => ?_) (fun h_2 => ?_)
    · skip
      exact r_vret C dX1_move_17 (by first | (unfold s1move; rw [if_pos (by omega)]) | (unfold s1move; rw [if_neg (by omega)]; rfl))
    · skip
      refine r_iload_n C (k := 1) dX1_move_9 rfl ?_
      refine r_aload_n C (k := 0) dX1_move_10 rfl ?_
      refine r_getf C 4 (ok_of hG (kdv3 ht hv) (by decide) (Nat.le_trans ht (by decide))) (kdv3 ht hv) (by decide) rfl hinX1 (by decide) (by decide +kernel) rfl rfl dX1_move_11 ?_
      refine r_icmp_lt C (tgt := 18) dX1_move_14 (by decide) (by first | exact hr _ _ | exact hr0 _ _ | assumption | exact ⟨by omega, by omega⟩) (by first | exact hr _ _ | exact hr0 _ _ | assumption | exact ⟨by omega, by omega⟩) (fun h_3 => ?_) (fun h_3 => ?_)
      · skip
        refine r_aload_n C (k := 0) dX1_move_18 rfl ?_
        refine r_getf C 0 (v := .ref (adr G (t, v, 4))) (ok_of hG (kdv3 ht hv) (by decide) (Nat.le_trans ht (by decide))) (kdv3 ht hv) (by decide) rfl hinX1 (by decide) (by decide +kernel) rfl rfl dX1_move_19 ?_
        refine r_iload_n C (k := 2) dX1_move_22 rfl ?_
        refine r_aload_n C (k := 0) dX1_move_23 rfl ?_
        refine r_getf C 0 (v := .ref (adr G (t, v, 4))) (ok_of hG (kdv3 ht hv) (by decide) (Nat.le_trans ht (by decide))) (kdv3 ht hv) (by decide) rfl hinX1 (by decide) (by decide +kernel) rfl rfl dX1_move_24 ?_
        refine r_iload_n C (k := 1) dX1_move_27 rfl ?_
        refine r_iald C ((a).toNat) (ok_of hG (kdv4 ht hv) (by decide) (Nat.le_trans ht (by decide))) (kdv4 ht hv) (Int.toNat_of_nonneg (by first | omega | assumption)).symm (by first | omega | assumption) (by decide) dX1_move_28 ?_
        refine r_iast C ((b).toNat) hr (by first | exact hr _ _ | exact hr0 _ _ | assumption | exact ⟨by omega, by omega⟩) (ok_of hG (kdv4 ht hv) (by decide) (Nat.le_trans ht (by decide))) (kdv4 ht hv) (Int.toNat_of_nonneg (by first | omega | assumption)).symm (by first | omega | assumption) (by decide) dX1_move_29 (fun hr => ?_)
        refine r_aload_n C (k := 0) dX1_move_30 rfl ?_
        refine r_getf C 1 (v := .ref (adr G (t, v, 5))) (ok_of hG (kdv3 ht hv) (by decide) (Nat.le_trans ht (by decide))) (kdv3 ht hv) (by decide) rfl hinX1 (by decide) (by decide +kernel) rfl rfl dX1_move_31 ?_
        refine r_iload_n C (k := 2) dX1_move_34 rfl ?_
        refine r_aload_n C (k := 0) dX1_move_35 rfl ?_
        refine r_getf C 1 (v := .ref (adr G (t, v, 5))) (ok_of hG (kdv3 ht hv) (by decide) (Nat.le_trans ht (by decide))) (kdv3 ht hv) (by decide) rfl hinX1 (by decide) (by decide +kernel) rfl rfl dX1_move_36 ?_
        refine r_iload_n C (k := 1) dX1_move_39 rfl ?_
        refine r_iald C ((a).toNat) (ok_of hG (kdv5 ht hv) (by decide) (Nat.le_trans ht (by decide))) (kdv5 ht hv) (Int.toNat_of_nonneg (by first | omega | assumption)).symm (by first | omega | assumption) (by decide) dX1_move_40 ?_
        refine Wm.top (z' := w (t, v, 5) ((a).toNat)) (by simp [st1, cpy]) ?_
        refine r_iast C ((b).toNat) hr (by first | exact hr _ _ | exact hr0 _ _ | assumption | exact ⟨by omega, by omega⟩) (ok_of hG (kdv5 ht hv) (by decide) (Nat.le_trans ht (by decide))) (kdv5 ht hv) (Int.toNat_of_nonneg (by first | omega | assumption)).symm (by first | omega | assumption) (by decide) dX1_move_41 (fun hr => ?_)
        refine r_aload_n C (k := 0) dX1_move_42 rfl ?_
        refine r_getf C 2 (v := .ref (adr G (t, v, 6))) (ok_of hG (kdv3 ht hv) (by decide) (Nat.le_trans ht (by decide))) (kdv3 ht hv) (by decide) rfl hinX1 (by decide) (by decide +kernel) rfl rfl dX1_move_43 ?_
        refine r_iload_n C (k := 2) dX1_move_46 rfl ?_
        refine r_aload_n C (k := 0) dX1_move_47 rfl ?_
        refine r_getf C 2 (v := .ref (adr G (t, v, 6))) (ok_of hG (kdv3 ht hv) (by decide) (Nat.le_trans ht (by decide))) (kdv3 ht hv) (by decide) rfl hinX1 (by decide) (by decide +kernel) rfl rfl dX1_move_48 ?_
        refine r_iload_n C (k := 1) dX1_move_51 rfl ?_
        refine r_iald C ((a).toNat) (ok_of hG (kdv6 ht hv) (by decide) (Nat.le_trans ht (by decide))) (kdv6 ht hv) (Int.toNat_of_nonneg (by first | omega | assumption)).symm (by first | omega | assumption) (by decide) dX1_move_52 ?_
        refine Wm.top (z' := w (t, v, 6) ((a).toNat)) (by simp [st1, cpy]) ?_
        refine r_iast C ((b).toNat) hr (by first | exact hr _ _ | exact hr0 _ _ | assumption | exact ⟨by omega, by omega⟩) (ok_of hG (kdv6 ht hv) (by decide) (Nat.le_trans ht (by decide))) (kdv6 ht hv) (Int.toNat_of_nonneg (by first | omega | assumption)).symm (by first | omega | assumption) (by decide) dX1_move_53 (fun hr => ?_)
        refine r_aload_n C (k := 0) dX1_move_54 rfl ?_
        refine r_getf C 3 (v := .ref (adr G (t, v, 7))) (ok_of hG (kdv3 ht hv) (by decide) (Nat.le_trans ht (by decide))) (kdv3 ht hv) (by decide) rfl hinX1 (by decide) (by decide +kernel) rfl rfl dX1_move_55 ?_
        refine r_iload_n C (k := 2) dX1_move_58 rfl ?_
        refine r_aload_n C (k := 0) dX1_move_59 rfl ?_
        refine r_getf C 3 (v := .ref (adr G (t, v, 7))) (ok_of hG (kdv3 ht hv) (by decide) (Nat.le_trans ht (by decide))) (kdv3 ht hv) (by decide) rfl hinX1 (by decide) (by decide +kernel) rfl rfl dX1_move_60 ?_
        refine r_iload_n C (k := 1) dX1_move_63 rfl ?_
        refine r_iald C ((a).toNat) (ok_of hG (kdv7 ht hv) (by decide) (Nat.le_trans ht (by decide))) (kdv7 ht hv) (Int.toNat_of_nonneg (by first | omega | assumption)).symm (by first | omega | assumption) (by decide) dX1_move_64 ?_
        refine Wm.top (z' := w (t, v, 7) ((a).toNat)) (by simp [st1, cpy]) ?_
        refine r_iast C ((b).toNat) hr (by first | exact hr _ _ | exact hr0 _ _ | assumption | exact ⟨by omega, by omega⟩) (ok_of hG (kdv7 ht hv) (by decide) (Nat.le_trans ht (by decide))) (kdv7 ht hv) (Int.toNat_of_nonneg (by first | omega | assumption)).symm (by first | omega | assumption) (by decide) dX1_move_65 (fun hr => ?_)
        exact r_vret C dX1_move_66 (by first | (unfold s1move; rw [if_pos (by omega)]) | (unfold s1move; rw [if_neg (by omega)]; rfl))
      · skip
        exact r_vret C dX1_move_17 (by first | (unfold s1move; rw [if_pos (by omega)]) | (unfold s1move; rw [if_neg (by omega)]; rfl))

set_option maxRecDepth 100000 in
set_option maxHeartbeats 8000000 in
theorem c_X1_copy {l : Launch} {G : Gt} (hG : Gok G) {t : Nat} {v : Nat} {t2 : Nat} {v2 : Nat} (ht : t ≤ 1) (hv : v ≤ 7) (ht2 : t2 ≤ 1) (hv2 : v2 ≤ 7) {w : Mm} (hz : 0 ≤ w (t2, v2, 3) 4 ∧ w (t2, v2, 3) 4 ≤ 112) (hne : t ≠ t2) : Con l G yX1_copy wsX1_copy ({ frames := 1, cells := 0, slots := 0, locals := 26 } : Room) w [.ref (adr G (t, v, 3)), .ref (adr G (t2, v2, 3))] none (s1cp w t v t2 v2) 0 0 := by
  refine Con.head (cc := cX1_copy) (nL := 2) (ret := none) hG (by decide +kernel) rfl (Nat.le_of_ble_eq_true rfl) ?_
  intro B A hBl C hr
  have hr0 := hr
  have hinX1 : ∀ w ∈ u_ws RX1 TX1 5, w ∈ wsX1_copy := by decide +kernel
  obtain ⟨hz1, hz2⟩ := hz
  refine r_aload_n C (k := 1) dX1_copy_0 rfl ?_
  refine r_getf C 0 (v := .ref (adr G (t2, v2, 4))) (ok_of hG (kdv3 ht2 hv2) (by decide) (Nat.le_trans ht2 (by decide))) (kdv3 ht2 hv2) (by decide) rfl hinX1 (by decide) (by decide +kernel) rfl rfl dX1_copy_1 ?_
  refine r_iconst C dX1_copy_4 ?_
  refine r_aload_n C (k := 0) dX1_copy_5 rfl ?_
  refine r_getf C 0 (v := .ref (adr G (t, v, 4))) (ok_of hG (kdv3 ht hv) (by decide) (Nat.le_trans ht (by decide))) (kdv3 ht hv) (by decide) rfl hinX1 (by decide) (by decide +kernel) rfl rfl dX1_copy_6 ?_
  refine r_iconst C dX1_copy_9 ?_
  refine r_aload_n C (k := 1) dX1_copy_10 rfl ?_
  refine r_getf C 4 (ok_of hG (kdv3 ht2 hv2) (by decide) (Nat.le_trans ht2 (by decide))) (kdv3 ht2 hv2) (by decide) rfl hinX1 (by decide) (by decide +kernel) rfl rfl dX1_copy_11 ?_
  refine r_copy C (0) (0) ((w (t2, v2, 3) (4)).toNat) hr (ok_of hG (kdv4 ht2 hv2) (by decide) (Nat.le_trans ht2 (by decide))) (ok_of hG (kdv4 ht hv) (by decide) (Nat.le_trans ht (by decide))) (kdv4 ht2 hv2) (kdv4 ht hv) rfl rfl (Int.toNat_of_nonneg (by first | omega | assumption)).symm (by first | omega | assumption) (by first | omega | assumption) (by decide) (by decide) (by decide +kernel) (by decide +kernel) (by decide +kernel) (by decide +kernel) (Nat.le_of_ble_eq_true rfl) (Nat.le_of_ble_eq_true rfl) dX1_copy_14 (fun hr => ?_)
  refine r_aload_n C (k := 1) dX1_copy_17 rfl ?_
  refine r_getf C 1 (v := .ref (adr G (t2, v2, 5))) (ok_of hG (kdv3 ht2 hv2) (by decide) (Nat.le_trans ht2 (by decide))) (kdv3 ht2 hv2) (by decide) rfl hinX1 (by decide) (by decide +kernel) rfl rfl dX1_copy_18 ?_
  refine r_iconst C dX1_copy_21 ?_
  refine r_aload_n C (k := 0) dX1_copy_22 rfl ?_
  refine r_getf C 1 (v := .ref (adr G (t, v, 5))) (ok_of hG (kdv3 ht hv) (by decide) (Nat.le_trans ht (by decide))) (kdv3 ht hv) (by decide) rfl hinX1 (by decide) (by decide +kernel) rfl rfl dX1_copy_23 ?_
  refine r_iconst C dX1_copy_26 ?_
  refine r_aload_n C (k := 1) dX1_copy_27 rfl ?_
  refine r_getf C 4 (ok_of hG (kdv3 ht2 hv2) (by decide) (Nat.le_trans ht2 (by decide))) (kdv3 ht2 hv2) (by decide) rfl hinX1 (by decide) (by decide +kernel) rfl rfl dX1_copy_28 ?_
  refine Wm.top (z' := w (t2, v2, 3) (4)) (by simp [st1, cpy]) ?_
  refine r_copy C (0) (0) ((w (t2, v2, 3) (4)).toNat) hr (ok_of hG (kdv5 ht2 hv2) (by decide) (Nat.le_trans ht2 (by decide))) (ok_of hG (kdv5 ht hv) (by decide) (Nat.le_trans ht (by decide))) (kdv5 ht2 hv2) (kdv5 ht hv) rfl rfl (Int.toNat_of_nonneg (by first | omega | assumption)).symm (by first | omega | assumption) (by first | omega | assumption) (by decide) (by decide) (by decide +kernel) (by decide +kernel) (by decide +kernel) (by decide +kernel) (Nat.le_of_ble_eq_true rfl) (Nat.le_of_ble_eq_true rfl) dX1_copy_31 (fun hr => ?_)
  refine r_aload_n C (k := 1) dX1_copy_34 rfl ?_
  refine r_getf C 2 (v := .ref (adr G (t2, v2, 6))) (ok_of hG (kdv3 ht2 hv2) (by decide) (Nat.le_trans ht2 (by decide))) (kdv3 ht2 hv2) (by decide) rfl hinX1 (by decide) (by decide +kernel) rfl rfl dX1_copy_35 ?_
  refine r_iconst C dX1_copy_38 ?_
  refine r_aload_n C (k := 0) dX1_copy_39 rfl ?_
  refine r_getf C 2 (v := .ref (adr G (t, v, 6))) (ok_of hG (kdv3 ht hv) (by decide) (Nat.le_trans ht (by decide))) (kdv3 ht hv) (by decide) rfl hinX1 (by decide) (by decide +kernel) rfl rfl dX1_copy_40 ?_
  refine r_iconst C dX1_copy_43 ?_
  refine r_aload_n C (k := 1) dX1_copy_44 rfl ?_
  refine r_getf C 4 (ok_of hG (kdv3 ht2 hv2) (by decide) (Nat.le_trans ht2 (by decide))) (kdv3 ht2 hv2) (by decide) rfl hinX1 (by decide) (by decide +kernel) rfl rfl dX1_copy_45 ?_
  refine Wm.top (z' := w (t2, v2, 3) (4)) (by simp [st1, cpy]) ?_
  refine r_copy C (0) (0) ((w (t2, v2, 3) (4)).toNat) hr (ok_of hG (kdv6 ht2 hv2) (by decide) (Nat.le_trans ht2 (by decide))) (ok_of hG (kdv6 ht hv) (by decide) (Nat.le_trans ht (by decide))) (kdv6 ht2 hv2) (kdv6 ht hv) rfl rfl (Int.toNat_of_nonneg (by first | omega | assumption)).symm (by first | omega | assumption) (by first | omega | assumption) (by decide) (by decide) (by decide +kernel) (by decide +kernel) (by decide +kernel) (by decide +kernel) (Nat.le_of_ble_eq_true rfl) (Nat.le_of_ble_eq_true rfl) dX1_copy_48 (fun hr => ?_)
  refine r_aload_n C (k := 1) dX1_copy_51 rfl ?_
  refine r_getf C 3 (v := .ref (adr G (t2, v2, 7))) (ok_of hG (kdv3 ht2 hv2) (by decide) (Nat.le_trans ht2 (by decide))) (kdv3 ht2 hv2) (by decide) rfl hinX1 (by decide) (by decide +kernel) rfl rfl dX1_copy_52 ?_
  refine r_iconst C dX1_copy_55 ?_
  refine r_aload_n C (k := 0) dX1_copy_56 rfl ?_
  refine r_getf C 3 (v := .ref (adr G (t, v, 7))) (ok_of hG (kdv3 ht hv) (by decide) (Nat.le_trans ht (by decide))) (kdv3 ht hv) (by decide) rfl hinX1 (by decide) (by decide +kernel) rfl rfl dX1_copy_57 ?_
  refine r_iconst C dX1_copy_60 ?_
  refine r_aload_n C (k := 1) dX1_copy_61 rfl ?_
  refine r_getf C 4 (ok_of hG (kdv3 ht2 hv2) (by decide) (Nat.le_trans ht2 (by decide))) (kdv3 ht2 hv2) (by decide) rfl hinX1 (by decide) (by decide +kernel) rfl rfl dX1_copy_62 ?_
  refine Wm.top (z' := w (t2, v2, 3) (4)) (by simp [st1, cpy]) ?_
  refine r_copy C (0) (0) ((w (t2, v2, 3) (4)).toNat) hr (ok_of hG (kdv7 ht2 hv2) (by decide) (Nat.le_trans ht2 (by decide))) (ok_of hG (kdv7 ht hv) (by decide) (Nat.le_trans ht (by decide))) (kdv7 ht2 hv2) (kdv7 ht hv) rfl rfl (Int.toNat_of_nonneg (by first | omega | assumption)).symm (by first | omega | assumption) (by first | omega | assumption) (by decide) (by decide) (by decide +kernel) (by decide +kernel) (by decide +kernel) (by decide +kernel) (Nat.le_of_ble_eq_true rfl) (Nat.le_of_ble_eq_true rfl) dX1_copy_65 (fun hr => ?_)
  refine r_aload_n C (k := 0) dX1_copy_68 rfl ?_
  refine r_aload_n C (k := 1) dX1_copy_69 rfl ?_
  refine r_getf C 4 (ok_of hG (kdv3 ht2 hv2) (by decide) (Nat.le_trans ht2 (by decide))) (kdv3 ht2 hv2) (by decide) rfl hinX1 (by decide) (by decide +kernel) rfl rfl dX1_copy_70 ?_
  refine Wm.top (z' := w (t2, v2, 3) (4)) (by simp [st1, cpy]) ?_
  refine r_putf C 4 hr (by first | exact hr _ _ | exact hr0 _ _ | assumption | exact ⟨by omega, by omega⟩) (ok_of hG (kdv3 ht hv) (by decide) (Nat.le_trans ht (by decide))) (kdv3 ht hv) (by decide) rfl hinX1 tyX1_ok nmX1 (by decide) (by decide +kernel) rfl rfl (ty := .int) (by decide +kernel) rfl rfl rfl (Nat.le_of_ble_eq_true rfl) dX1_copy_73 (fun hr => ?_)
  exact r_vret C dX1_copy_76 (by first | rfl | (simp [*]; done))

set_option maxRecDepth 100000 in
set_option maxHeartbeats 8000000 in
theorem c_X1_lasting {l : Launch} {G : Gt} (hG : Gok G) {t : Nat} {v : Nat} (ht : t ≤ 1) (hv : v ≤ 7) {w : Mm} {b : Int} (hz : 0 ≤ w (t, v, 3) 4 ∧ w (t, v, 3) 4 ≤ 112) (hb : inR b) : Con l G yX1_lasting wsX1_lasting ({ frames := 0, cells := 0, slots := 0, locals := 0 } : Room) w [.ref (adr G (t, v, 3)), vI b] (some (vI (((s1last w t v b (w (t, v, 3) 4).toNat : Nat) : Int)))) w 0 0 := by
  refine Con.head (cc := cX1_lasting) (nL := 4) (ret := (some .int)) hG (by decide +kernel) rfl (Nat.le_of_ble_eq_true rfl) ?_
  intro B A hBl C hr
  have hr0 := hr
  have hinX1 : ∀ w ∈ u_ws RX1 TX1 5, w ∈ wsX1_lasting := by decide +kernel
  obtain ⟨hz1, hz2⟩ := hz
  refine r_iconst C dX1_lasting_0 ?_
  refine r_istore_n C (i := 2) (lv' := [(2, vI (0)), (0, .ref (adr G (t, v, 3))), (1, vI (b))]) dX1_lasting_1 rfl (by decide) rfl ?_
  refine r_iconst C dX1_lasting_2 ?_
  refine r_istore_n C (i := 3) (lv' := [(3, vI (0)), (2, vI (0)), (0, .ref (adr G (t, v, 3))), (1, vI (b))]) dX1_lasting_3 rfl (by decide) rfl ?_
  have loop_4 : ∀ (n : Nat) (i : Nat), (i ≤ (w (t, v, 3) 4).toNat) → (w (t, v, 3) 4).toNat - i < n → rng w → Wm B 4 G A (Qe B G A (some (vI (((s1last w t v b (w (t, v, 3) 4).toNat : Nat) : Int)))) w 0 0) w 0 0 4 [(0, .ref (adr G (t, v, 3))), (1, vI (b)), (2, vI (((s1last w t v b i : Nat) : Int))), (3, vI (((i : Nat) : Int)))] [] := by
    intro n
    induction n with
    | zero => intro i hi hm; exact absurd hm (Nat.not_lt_zero _)
    | succ n ih =>
      intro i hi hm hr
      have hsl := s1last_le w t v b i
      refine r_iload_n C (k := 3) dX1_lasting_4 rfl ?_
      refine r_aload_n C (k := 0) dX1_lasting_5 rfl ?_
      refine r_getf C 4 (ok_of hG (kdv3 ht hv) (by decide) (Nat.le_trans ht (by decide))) (kdv3 ht hv) (by decide) rfl hinX1 (by decide) (by decide +kernel) rfl rfl dX1_lasting_6 ?_
      refine r_icmp_ge C (tgt := 31) dX1_lasting_9 (by decide) (by first | exact hr _ _ | exact hr0 _ _ | assumption | exact ⟨by omega, by omega⟩) (by first | exact hr _ _ | exact hr0 _ _ | assumption | exact ⟨by omega, by omega⟩) (fun h_1 => ?_) (fun h_1 => ?_)
      · skip
        refine r_iload_n C (k := 2) dX1_lasting_31 rfl ?_
        exact r_iret C dX1_lasting_32 (by (obtain rfl : i = (w (t, v, 3) 4).toNat := (by omega)); rfl) (by first | rfl | (simp [*]; done))
      · skip
        refine r_aload_n C (k := 0) dX1_lasting_12 rfl ?_
        refine r_getf C 1 (v := .ref (adr G (t, v, 5))) (ok_of hG (kdv3 ht hv) (by decide) (Nat.le_trans ht (by decide))) (kdv3 ht hv) (by decide) rfl hinX1 (by decide) (by decide +kernel) rfl rfl dX1_lasting_13 ?_
        refine r_iload_n C (k := 3) dX1_lasting_16 rfl ?_
        refine r_iald C (i) (ok_of hG (kdv5 ht hv) (by decide) (Nat.le_trans ht (by decide))) (kdv5 ht hv) rfl (by first | omega | assumption) (by decide) dX1_lasting_17 ?_
        refine r_iload_n C (k := 1) dX1_lasting_18 rfl ?_
        refine r_icmp_gt C (tgt := 25) dX1_lasting_19 (by decide) (by first | exact hr _ _ | exact hr0 _ _ | assumption | exact ⟨by omega, by omega⟩) (by first | exact hr _ _ | exact hr0 _ _ | assumption | exact ⟨by omega, by omega⟩) (fun h_2 => ?_) (fun h_2 => ?_)
        · skip
          refine r_iinc C (k := 3) (lv' := [(3, vI (((i + 1 : Nat) : Int))), (0, .ref (adr G (t, v, 3))), (1, vI (b)), (2, vI (((s1last w t v b i : Nat) : Int)))]) dX1_lasting_25 rfl (by decide) rfl ?_
          refine r_goto C (tgt := 4) dX1_lasting_28 (by decide) ?_
          have e_3 : w = w := by rfl
          refine Wm.sub (lv' := [(0, .ref (adr G (t, v, 3))), (1, vI (b)), (2, vI (((s1last w t v b i : Nat) : Int))), (3, vI (((i + 1 : Nat) : Int)))]) [1, 2, 3, 0] rfl ?_
          refine Wm.mem (lv' := [(0, .ref (adr G (t, v, 3))), (1, vI (b)), (2, vI (((s1last w t v b (i + 1) : Nat) : Int))), (3, vI ((((i + 1) : Nat) : Int)))]) e_3 (by (simp only [s1last]; first | rw [if_pos (by assumption)] | rw [if_neg (by omega)]); try rfl) ?_
          exact ih ((i + 1)) (by omega) (by omega) (e_3 ▸ hr)
        · skip
          refine r_iinc C (k := 2) (lv' := [(2, vI (((s1last w t v b i + 1 : Nat) : Int))), (0, .ref (adr G (t, v, 3))), (1, vI (b)), (3, vI (((i : Nat) : Int)))]) dX1_lasting_22 rfl (by decide) rfl ?_
          refine r_iinc C (k := 3) (lv' := [(3, vI (((i + 1 : Nat) : Int))), (2, vI (((s1last w t v b i + 1 : Nat) : Int))), (0, .ref (adr G (t, v, 3))), (1, vI (b))]) dX1_lasting_25 rfl (by decide) rfl ?_
          refine r_goto C (tgt := 4) dX1_lasting_28 (by decide) ?_
          have e_4 : w = w := by rfl
          refine Wm.sub (lv' := [(0, .ref (adr G (t, v, 3))), (1, vI (b)), (2, vI (((s1last w t v b i + 1 : Nat) : Int))), (3, vI (((i + 1 : Nat) : Int)))]) [2, 3, 1, 0] rfl ?_
          refine Wm.mem (lv' := [(0, .ref (adr G (t, v, 3))), (1, vI (b)), (2, vI (((s1last w t v b (i + 1) : Nat) : Int))), (3, vI ((((i + 1) : Nat) : Int)))]) e_4 (by (simp only [s1last]; first | rw [if_pos (by assumption)] | rw [if_neg (by omega)]); try rfl) ?_
          exact ih ((i + 1)) (by omega) (by omega) (e_4 ▸ hr)
  have e_5 : w = w := by rfl
  refine Wm.sub (lv' := [(0, .ref (adr G (t, v, 3))), (1, vI (b)), (2, vI (0)), (3, vI (0))]) [2, 3, 1, 0] rfl ?_
  refine Wm.mem (lv' := [(0, .ref (adr G (t, v, 3))), (1, vI (b)), (2, vI (((s1last w t v b 0 : Nat) : Int))), (3, vI (((0 : Nat) : Int)))]) e_5 (by rfl) ?_
  exact loop_4 _ (0) (by omega) (Nat.lt_succ_self _) (e_5 ▸ hr)

set_option maxRecDepth 100000 in
set_option maxHeartbeats 8000000 in
theorem c_X1_drown {l : Launch} {G : Gt} (hG : Gok G) {t : Nat} {v : Nat} (ht : t ≤ 1) (hv : v ≤ 7) {w : Mm} {b : Int} (hz : 0 ≤ w (t, v, 3) 4 ∧ w (t, v, 3) 4 ≤ 112) (hb : inR b) : Con l G yX1_drown wsX1_drown ({ frames := 0, cells := 0, slots := 0, locals := 0 } : Room) w [.ref (adr G (t, v, 3)), vI b] none (s1drown w t v b (w (t, v, 3) 4).toNat) 0 0 := by
  refine Con.head (cc := cX1_drown) (nL := 3) (ret := none) hG (by decide +kernel) rfl (Nat.le_of_ble_eq_true rfl) ?_
  intro B A hBl C hr
  have hr0 := hr
  have hinX1 : ∀ w ∈ u_ws RX1 TX1 5, w ∈ wsX1_drown := by decide +kernel
  obtain ⟨hz1, hz2⟩ := hz
  refine r_iconst C dX1_drown_0 ?_
  refine r_istore_n C (i := 2) (lv' := [(2, vI (0)), (0, .ref (adr G (t, v, 3))), (1, vI (b))]) dX1_drown_1 rfl (by decide) rfl ?_
  have loop_2 : ∀ (n : Nat) (i : Nat), (i ≤ (w (t, v, 3) 4).toNat) → (w (t, v, 3) 4).toNat - i < n → rng (s1drown w t v b i) → Wm B 3 G A (Qe B G A none (s1drown w t v b (w (t, v, 3) 4).toNat) 0 0) (s1drown w t v b i) 0 0 2 [(0, .ref (adr G (t, v, 3))), (1, vI (b)), (2, vI (((i : Nat) : Int)))] [] := by
    intro n
    induction n with
    | zero => intro i hi hm; exact absurd hm (Nat.not_lt_zero _)
    | succ n ih =>
      intro i hi hm hr
      refine r_iload_n C (k := 2) dX1_drown_2 rfl ?_
      refine r_aload_n C (k := 0) dX1_drown_3 rfl ?_
      refine r_getf C 4 (ok_of hG (kdv3 ht hv) (by decide) (Nat.le_trans ht (by decide))) (kdv3 ht hv) (by decide) rfl hinX1 (by decide) (by decide +kernel) rfl rfl dX1_drown_4 ?_
      refine Wm.top (z' := w (t, v, 3) (4)) (by simp [st1, cpy, s1drown_off]) ?_
      refine r_icmp_ge C (tgt := 33) dX1_drown_7 (by decide) (by first | exact hr _ _ | exact hr0 _ _ | assumption | exact ⟨by omega, by omega⟩) (by first | exact hr _ _ | exact hr0 _ _ | assumption | exact ⟨by omega, by omega⟩) (fun h_1 => ?_) (fun h_1 => ?_)
      · skip
        exact r_vret C dX1_drown_33 (by (obtain rfl : i = (w (t, v, 3) 4).toNat := (by omega)); rfl)
      · skip
        refine r_aload_n C (k := 0) dX1_drown_10 rfl ?_
        refine r_getf C 1 (v := .ref (adr G (t, v, 5))) (ok_of hG (kdv3 ht hv) (by decide) (Nat.le_trans ht (by decide))) (kdv3 ht hv) (by decide) rfl hinX1 (by decide) (by decide +kernel) rfl rfl dX1_drown_11 ?_
        refine r_iload_n C (k := 2) dX1_drown_14 rfl ?_
        refine r_iald C (i) (ok_of hG (kdv5 ht hv) (by decide) (Nat.le_trans ht (by decide))) (kdv5 ht hv) rfl (by first | omega | assumption) (by decide) dX1_drown_15 ?_
        refine Wm.top (z' := w (t, v, 5) (i)) (by simp [st1, cpy, s1drown_off]) ?_
        refine r_iload_n C (k := 1) dX1_drown_16 rfl ?_
        refine r_icmp_gt C (tgt := 27) dX1_drown_17 (by decide) (by first | exact hr _ _ | exact hr0 _ _ | assumption | exact ⟨by omega, by omega⟩) (by first | exact hr _ _ | exact hr0 _ _ | assumption | exact ⟨by omega, by omega⟩) (fun h_2 => ?_) (fun h_2 => ?_)
        · skip
          refine r_iinc C (k := 2) (lv' := [(2, vI (((i + 1 : Nat) : Int))), (0, .ref (adr G (t, v, 3))), (1, vI (b))]) dX1_drown_27 rfl (by decide) rfl ?_
          refine r_goto C (tgt := 2) dX1_drown_30 (by decide) ?_
          have e_3 : (s1drown w t v b i) = (s1drown w t v b (i + 1)) := by first | (simp only [s1drown]; rw [if_pos (by assumption)]) | (simp only [s1drown]; rw [if_neg (by omega)])
          refine Wm.sub (lv' := [(0, .ref (adr G (t, v, 3))), (1, vI (b)), (2, vI (((i + 1 : Nat) : Int)))]) [1, 2, 0] rfl ?_
          refine Wm.mem (lv' := [(0, .ref (adr G (t, v, 3))), (1, vI (b)), (2, vI ((((i + 1) : Nat) : Int)))]) e_3 (by rfl) ?_
          exact ih ((i + 1)) (by omega) (by omega) (e_3 ▸ hr)
        · skip
          refine r_aload_n C (k := 0) dX1_drown_20 rfl ?_
          refine r_getf C 3 (v := .ref (adr G (t, v, 7))) (ok_of hG (kdv3 ht hv) (by decide) (Nat.le_trans ht (by decide))) (kdv3 ht hv) (by decide) rfl hinX1 (by decide) (by decide +kernel) rfl rfl dX1_drown_21 ?_
          refine r_iload_n C (k := 2) dX1_drown_24 rfl ?_
          refine r_iconst C dX1_drown_25 ?_
          refine r_iast C (i) hr ⟨by decide, by decide⟩ (ok_of hG (kdv7 ht hv) (by decide) (Nat.le_trans ht (by decide))) (kdv7 ht hv) rfl (by first | omega | assumption) (by decide) dX1_drown_26 (fun hr => ?_)
          refine r_iinc C (k := 2) (lv' := [(2, vI (((i + 1 : Nat) : Int))), (0, .ref (adr G (t, v, 3))), (1, vI (b))]) dX1_drown_27 rfl (by decide) rfl ?_
          refine r_goto C (tgt := 2) dX1_drown_30 (by decide) ?_
          have e_4 : (st1 (s1drown w t v b i) (t, v, 7) (i) (1)) = (s1drown w t v b (i + 1)) := by first | (simp only [s1drown]; rw [if_pos (by assumption)]) | (simp only [s1drown]; rw [if_neg (by omega)])
          refine Wm.sub (lv' := [(0, .ref (adr G (t, v, 3))), (1, vI (b)), (2, vI (((i + 1 : Nat) : Int)))]) [1, 2, 0] rfl ?_
          refine Wm.mem (lv' := [(0, .ref (adr G (t, v, 3))), (1, vI (b)), (2, vI ((((i + 1) : Nat) : Int)))]) e_4 (by rfl) ?_
          exact ih ((i + 1)) (by omega) (by omega) (e_4 ▸ hr)
  have e_5 : w = (s1drown w t v b 0) := by rfl
  refine Wm.sub (lv' := [(0, .ref (adr G (t, v, 3))), (1, vI (b)), (2, vI (0))]) [1, 2, 0] rfl ?_
  refine Wm.mem (lv' := [(0, .ref (adr G (t, v, 3))), (1, vI (b)), (2, vI (((0 : Nat) : Int)))]) e_5 (by rfl) ?_
  exact loop_2 _ (0) (by omega) (Nat.lt_succ_self _) (e_5 ▸ hr)
end
section
/-! DrumTalk$Village: what its methods do to the memory -/
abbrev awk (w : Mm) (t v : Nat) (b : Int) : Prop := (b - w (t, v, 0) 4) % 24 < w (t, v, 0) 5
abbrev kno (w : Mm) (t v : Nat) (p : Int) : Prop := 0 ≤ p ∧ p < 12 ∧ ¬ w (t, v, 2) p.toNat = -1
def s2dist (w : Mm) (t v t2 v2 : Nat) : Int := ((w (t, v, 0) 0 - w (t2, v2, 0) 0).natAbs : Int) + ((w (t, v, 0) 1 - w (t2, v2, 0) 1).natAbs : Int)
def s2kn (w : Mm) (t v : Nat) : Nat → Nat
  | 0 => 0
  | n + 1 => if kno w t v ((n : Nat) : Int) then s2kn w t v n + 1 else s2kn w t v n
theorem s2kn_le (w : Mm) (t v : Nat) : ∀ n, s2kn w t v n ≤ n
  | 0 => Nat.le_refl 0
  | n + 1 => by
    have := s2kn_le w t v n
    unfold s2kn
    split <;> omega
def s2take (w : Mm) (t v : Nat) (p b : Int) : Mm :=
  if p < 0 ∨ 12 ≤ p then w else
  if w (t, v, 2) p.toNat = -1 then
    (if w (t, v, 0) 9 < 5 then st1 (st1 (st1 w (t, v, 2) p.toNat b) (t, v, 1) (w (t, v, 0) 9).toNat p) (t, v, 0) 9 (w (t, v, 0) 9 + 1) else st1 w (t, v, 2) p.toNat b)
  else
    (if w (t, v, 0) 9 < 5 then st1 (st1 w (t, v, 1) (w (t, v, 0) 9).toNat p) (t, v, 0) 9 (w (t, v, 0) 9 + 1) else w)
def s2pop (w : Mm) (t v : Nat) : Mm :=
  if w (t, v, 0) 9 = 0 then w else cpy (st1 w (t, v, 0) 9 (w (t, v, 0) 9 - 1)) (t, v, 1) (t, v, 1) 1 0 (w (t, v, 0) 9 - 1).toNat
def s2top (w : Mm) (t v : Nat) : Int := if w (t, v, 0) 9 = 0 then -1 else w (t, v, 1) 0
def s2dr (w : Mm) (t v : Nat) (b : Int) : Mm :=
  if awk w t v b ∧ w (t, v, 0) 6 = -1 ∧ s1last w t v b (w (t, v, 3) 4).toNat < 2 then w else s1drown w t v b (w (t, v, 3) 4).toNat
def s2edb (w : Mm) (t v : Nat) : Mm :=
  if w (t, v, 0) 6 = -1 then w else
  if w (t, v, 0) 7 - 1 = 0 then st1 (st1 w (t, v, 0) 7 (w (t, v, 0) 7 - 1)) (t, v, 0) 6 (-1) else st1 w (t, v, 0) 7 (w (t, v, 0) 7 - 1)
def s2fig (w : Mm) (t v : Nat) (b : Int) : Nat → Int
  | 0 => w (t, v, 0) 0
  | 1 => w (t, v, 0) 1
  | 2 => w (t, v, 0) 2
  | 3 => w (t, v, 0) 3
  | 4 => bI (awk w t v b)
  | 5 => w (t, v, 0) 6
  | 6 => w (t, v, 0) 7
  | 7 => w (t, v, 0) 9
  | 8 => ((s2kn w t v 12 : Nat) : Int)
  | _ => w (t, v, 0) 12
def s2endL (w : Mm) (t v : Nat) (b : Int) : Nat → Mm × Nat × Nat
  | 0 => (w, 0, 0)
  | n + 1 =>
    if (s2endL w t v b n).1 (t, v, 6) n = b then
      (if (s2endL w t v b n).1 (t, v, 7) n = 0 then
        (if kno (s2endL w t v b n).1 t v ((s2endL w t v b n).1 (t, v, 4) n) then s2endL w t v b n
         else (s2take (s2endL w t v b n).1 t v ((s2endL w t v b n).1 (t, v, 4) n) b, (s2endL w t v b n).2.1 + 1, (s2endL w t v b n).2.2))
       else (st1 (s2endL w t v b n).1 (t, v, 0) 12 ((s2endL w t v b n).1 (t, v, 0) 12 + 1), (s2endL w t v b n).2.1, (s2endL w t v b n).2.2))
    else (s1move (s2endL w t v b n).1 t v ((n : Nat) : Int) (((s2endL w t v b n).2.2 : Nat) : Int), (s2endL w t v b n).2.1, (s2endL w t v b n).2.2 + 1)
def s2end (w : Mm) (t v : Nat) (b : Int) : Mm := st1 (s2endL w t v b (w (t, v, 3) 4).toNat).1 (t, v, 3) 4 (((s2endL w t v b (w (t, v, 3) 4).toNat).2.2 : Nat) : Int)
theorem s2take_9 {w : Mm} {t v : Nat} {p b : Int} (h : 0 ≤ w (t, v, 0) 9 ∧ w (t, v, 0) 9 ≤ 5) : 0 ≤ s2take w t v p b (t, v, 0) 9 ∧ s2take w t v p b (t, v, 0) 9 ≤ 5 := by
  obtain ⟨h1, h2⟩ := h
  unfold s2take
  (repeat' split) <;> first | omega | (simp [st1]; omega)
theorem s2take_off {w : Mm} {t v : Nat} {p b : Int} {k : Ky} {j : Nat} (h : ¬ (k = (t, v, 0) ∧ j = 9)) (h1 : k ≠ (t, v, 1)) (h2 : k ≠ (t, v, 2)) : s2take w t v p b k j = w k j := by
  unfold s2take
  (repeat' split) <;> simp [st1, h, h1, h2]
theorem s1move_off {w : Mm} {t v : Nat} {a b : Int} {k : Ky} {j : Nat} (h4 : k ≠ (t, v, 4)) (h5 : k ≠ (t, v, 5)) (h6 : k ≠ (t, v, 6)) (h7 : k ≠ (t, v, 7)) : s1move w t v a b k j = w k j := by
  unfold s1move
  split
  · rfl
  · simp [s1mv, st1, h4, h5, h6, h7]
/-- what stands at every place of the loop -/
theorem s2endL_facts (w : Mm) (t v : Nat) (b : Int) (h9 : 0 ≤ w (t, v, 0) 9 ∧ w (t, v, 0) 9 ≤ 5) : ∀ n, (s2endL w t v b n).1 (t, v, 3) 4 = w (t, v, 3) 4 ∧ (s2endL w t v b n).2.1 ≤ n ∧ (s2endL w t v b n).2.2 ≤ n ∧ (0 ≤ (s2endL w t v b n).1 (t, v, 0) 9 ∧ (s2endL w t v b n).1 (t, v, 0) 9 ≤ 5) ∧ w (t, v, 0) 12 ≤ (s2endL w t v b n).1 (t, v, 0) 12 ∧ (s2endL w t v b n).1 (t, v, 0) 12 ≤ w (t, v, 0) 12 + n
  | 0 => ⟨rfl, Nat.le_refl 0, Nat.le_refl 0, h9, Int.le_refl _, by show w (t, v, 0) 12 ≤ _; simp⟩
  | n + 1 => by
    obtain ⟨i1, i2, i3, i4, i5, i6⟩ := s2endL_facts w t v b h9 n
    unfold s2endL
    split
    · split
      · split
        · exact ⟨i1, by omega, by omega, i4, i5, by omega⟩
        · refine ⟨?_, by show _ + 1 ≤ _; omega, by show (s2endL w t v b n).2.2 ≤ _; omega, s2take_9 i4, ?_, ?_⟩
          · show s2take _ _ _ _ _ _ _ = _
            rw [s2take_off (by simp) (by simp) (by simp)]
            exact i1
          · show _ ≤ s2take _ _ _ _ _ _ _
            rw [s2take_off (by simp) (by simp) (by simp)]
            exact i5
          · show s2take _ _ _ _ _ _ _ ≤ _
            rw [s2take_off (by simp) (by simp) (by simp)]
            omega
      · refine ⟨?_, by show (s2endL w t v b n).2.1 ≤ _; omega, by show (s2endL w t v b n).2.2 ≤ _; omega, ?_, ?_, ?_⟩
        · show st1 _ _ _ _ _ _ = _
          rw [st1_k (by simp)]
          exact i1
        · show 0 ≤ st1 _ _ _ _ _ _ ∧ st1 _ _ _ _ _ _ ≤ 5
          rw [st1_j (by decide)]
          exact i4
        · show _ ≤ st1 _ _ _ _ _ _
          rw [st1_eq]
          omega
        · show st1 _ _ _ _ _ _ ≤ _
          rw [st1_eq]
          omega
    · refine ⟨?_, by show (s2endL w t v b n).2.1 ≤ _; omega, by show (s2endL w t v b n).2.2 + 1 ≤ _; omega, ?_, ?_, ?_⟩
      · show s1move _ _ _ _ _ _ _ = _
        rw [s1move_off (by simp) (by simp) (by simp) (by simp)]
        exact i1
      · show 0 ≤ s1move _ _ _ _ _ _ _ ∧ s1move _ _ _ _ _ _ _ ≤ 5
        rw [s1move_off (by simp) (by simp) (by simp) (by simp)]
        exact i4
      · show _ ≤ s1move _ _ _ _ _ _ _
        rw [s1move_off (by simp) (by simp) (by simp) (by simp)]
        exact i5
      · show s1move _ _ _ _ _ _ _ ≤ _
        rw [s1move_off (by simp) (by simp) (by simp) (by simp)]
        omega
theorem tmod24 (a : Int) : (a < 0 → ¬ a.tmod 24 = 0 → a.tmod 24 + 24 = a % 24) ∧ (a < 0 → a.tmod 24 = 0 → a.tmod 24 = a % 24) ∧ (0 ≤ a → a.tmod 24 = a % 24) ∧ -24 < a.tmod 24 ∧ a.tmod 24 < 24 := by
  rcases Int.lt_or_le a 0 with h | h
  · have e : a.tmod 24 = -((-a) % 24) := by
      have h1 : (-(-a)).tmod 24 = -((-a).tmod 24) := Int.neg_tmod (-a) 24
      rw [Int.neg_neg] at h1
      rw [h1, Int.tmod_eq_emod_of_nonneg (by omega)]
    rw [e]
    refine ⟨fun _ _ => by omega, fun _ _ => by omega, fun q => by omega, by omega, by omega⟩
  · rw [Int.tmod_eq_emod_of_nonneg h]
    refine ⟨fun q => by omega, fun q => by omega, fun _ => rfl, by omega, by omega⟩
def s2cp (w : Mm) (t v t2 v2 : Nat) : Mm :=
  st1 (s1cp (cpy (st1 (cpy (st1 (st1 (st1 (st1 (st1 (st1 (st1 (st1 w (t, v, 0) 0 (w (t2, v2, 0) 0)) (t, v, 0) 1 (w (t2, v2, 0) 1)) (t, v, 0) 2 (w (t2, v2, 0) 2)) (t, v, 0) 3 (w (t2, v2, 0) 3)) (t, v, 0) 4 (w (t2, v2, 0) 4)) (t, v, 0) 5 (w (t2, v2, 0) 5)) (t, v, 0) 6 (w (t2, v2, 0) 6)) (t, v, 0) 7 (w (t2, v2, 0) 7)) (t2, v2, 1) (t, v, 1) 0 0 5) (t, v, 0) 9 (w (t2, v2, 0) 9)) (t2, v2, 2) (t, v, 2) 0 0 12) t v t2 v2) (t, v, 0) 12 (w (t2, v2, 0) 12)

set_option maxRecDepth 100000 in
set_option maxHeartbeats 8000000 in
theorem c_J9_floorMod_7cf53 {l : Launch} {G : Gt} (hG : Gok G)  {w : Mm} {a : Int} {b : Int} (ha : inR a) (hb : b = 24) : Con l G yJ9_floorMod_7cf53 wsJ9_floorMod_7cf53 ({ frames := 0, cells := 0, slots := 0, locals := 0 } : Room) w [vI a, vI b] (some (vI ((a) % (b)))) w 0 0 := by
  refine Con.headF (cc := cJ9_floorMod_7cf53) (nL := 3) (ret := (some .int)) hG (by decide +kernel) rfl (Nat.le_of_ble_eq_true rfl) ?_
  intro B A hBl C hr
  have hr0 := hr
  have hb1 : 0 < b := by omega
  have hb2 : b < 2147483648 := by omega
  have hxr := xr_neg ha hb1 hb2
  have tt := tmod24 a
  rw [← hb] at tt
  obtain ⟨t1, t2, t3, t4, t5⟩ := tt
  refine r_iload_n C (k := 0) dJ9_floorMod_7cf53_0 rfl ?_
  refine r_iload_n C (k := 1) dJ9_floorMod_7cf53_1 rfl ?_
  refine r_iremT C dJ9_floorMod_7cf53_2 ha hb1 hb2 ?_
  refine r_istore_n C (i := 2) (lv' := [(2, vI ((a.tmod b))), (0, vI (a)), (1, vI (b))]) dJ9_floorMod_7cf53_3 rfl (by decide) rfl ?_
  refine r_iload_n C (k := 1) dJ9_floorMod_7cf53_4 rfl ?_
  refine r_iload_n C (k := 2) dJ9_floorMod_7cf53_5 rfl ?_
  refine r_ixor C dJ9_floorMod_7cf53_6 ?_
  refine r_if_ge C (tgt := 18) dJ9_floorMod_7cf53_7 (by decide) (by first | exact inR_of _ | exact ⟨by omega, by omega⟩) (fun h_1 => ?_) (fun h_1 => ?_)
  · skip
    refine r_iload_n C (k := 0) dJ9_floorMod_7cf53_18 rfl ?_
    exact r_iret C dJ9_floorMod_7cf53_19 (by exact congrArg (fun z => some (vI z)) (by omega)) (by first | rfl | (simp [*]; done))
  · skip
    refine r_iload_n C (k := 0) dJ9_floorMod_7cf53_10 rfl ?_
    refine r_if_eq C (tgt := 18) dJ9_floorMod_7cf53_11 (by decide) (by first | exact inR_of _ | exact ⟨by omega, by omega⟩) (fun h_2 => ?_) (fun h_2 => ?_)
    · skip
      refine r_iload_n C (k := 0) dJ9_floorMod_7cf53_18 rfl ?_
      exact r_iret C dJ9_floorMod_7cf53_19 (by exact congrArg (fun z => some (vI z)) (by omega)) (by first | rfl | (simp [*]; done))
    · skip
      refine r_iload_n C (k := 0) dJ9_floorMod_7cf53_14 rfl ?_
      refine r_iload_n C (k := 2) dJ9_floorMod_7cf53_15 rfl ?_
      refine r_iadd C dJ9_floorMod_7cf53_16 ?_
      exact r_iret C dJ9_floorMod_7cf53_17 (by exact congrArg (fun z => some (vI z)) (by omega)) (by first | rfl | (simp [*]; done))

set_option maxRecDepth 100000 in
set_option maxHeartbeats 8000000 in
theorem c_X2_isAwake {l : Launch} {G : Gt} (hG : Gok G) {t : Nat} {v : Nat} (ht : t ≤ 1) (hv : v ≤ 7) {w : Mm} {b : Int} (hb : inR (b - w (t, v, 0) 4)) : Con l G yX2_isAwake wsX2_isAwake ({ frames := 1, cells := 0, slots := 0, locals := 22 } : Room) w [.ref (adr G (t, v, 0)), vI b] (some (vI (bI (awk w t v b)))) w 0 0 := by
  refine Con.head (cc := cX2_isAwake) (nL := 2) (ret := (some .boolean)) hG (by decide +kernel) rfl (Nat.le_of_ble_eq_true rfl) ?_
  intro B A hBl C hr
  have hr0 := hr
  have hinX2 : ∀ w ∈ u_ws RX2 TX2 13, w ∈ wsX2_isAwake := by decide +kernel
  refine r_iload_n C (k := 1) dX2_isAwake_0 rfl ?_
  refine r_aload_n C (k := 0) dX2_isAwake_1 rfl ?_
  refine r_getf C 4 (ok_of hG (kdv0 ht hv) (by decide) (Nat.le_trans ht (by decide))) (kdv0 ht hv) (by decide) rfl hinX2 (by decide) (by decide +kernel) rfl rfl dX2_isAwake_2 ?_
  refine r_isub C dX2_isAwake_5 ?_
  refine r_bipush C dX2_isAwake_6 (by decide) ?_
  refine r_callS C [vI ((b - w (t, v, 0) (4))), vI (24)] 2 (c_J9_floorMod_7cf53 hG (by first | assumption | omega | exact hr _ _ | exact hr0 _ _ | exact ⟨by omega, by omega⟩ | exact bI_inR _) (by first | assumption | omega | exact hr _ _ | exact hr0 _ _ | exact ⟨by omega, by omega⟩ | exact bI_inR _)) gX2_isAwake_J9_floorMod_7cf53 rfl rfl rfl (by decide +kernel) (Nat.le_of_ble_eq_true rfl) (Nat.le_of_ble_eq_true rfl) ⟨(Nat.zero_le _), (Nat.zero_le _)⟩ rfl rfl (by decide) (st' := [vI (((((b - w (t, v, 0) (4)))) % ((24))))]) rfl dX2_isAwake_8 (fun hr => ?_)
  refine r_aload_n C (k := 0) dX2_isAwake_11 rfl ?_
  refine r_getf C 5 (ok_of hG (kdv0 ht hv) (by decide) (Nat.le_trans ht (by decide))) (kdv0 ht hv) (by decide) rfl hinX2 (by decide) (by decide +kernel) rfl rfl dX2_isAwake_12 ?_
  refine r_icmp_ge C (tgt := 22) dX2_isAwake_15 (by decide) (by first | exact hr _ _ | exact hr0 _ _ | assumption | exact ⟨by omega, by omega⟩) (by first | exact hr _ _ | exact hr0 _ _ | assumption | exact ⟨by omega, by omega⟩) (fun h_1 => ?_) (fun h_1 => ?_)
  · skip
    refine r_iconst C dX2_isAwake_22 ?_
    exact r_zret C dX2_isAwake_23 (by first | exact Or.inr rfl | exact Or.inl rfl | exact bI_01 _) (by exact congrArg (fun z => some (vI z)) (bI_f (by first | omega | (simp_all; done) | (simp_all; omega))).symm) (by first | rfl | (simp [*]; done))
  · skip
    refine r_iconst C dX2_isAwake_18 ?_
    refine r_goto C (tgt := 23) dX2_isAwake_19 (by decide) ?_
    exact r_zret C dX2_isAwake_23 (by first | exact Or.inr rfl | exact Or.inl rfl | exact bI_01 _) (by exact congrArg (fun z => some (vI z)) (bI_t (by first | omega | (simp_all; done) | (simp_all; omega))).symm) (by first | rfl | (simp [*]; done))

set_option maxRecDepth 100000 in
set_option maxHeartbeats 8000000 in
theorem c_X2_isDrumming {l : Launch} {G : Gt} (hG : Gok G) {t : Nat} {v : Nat} (ht : t ≤ 1) (hv : v ≤ 7) {w : Mm} : Con l G yX2_isDrumming wsX2_isDrumming ({ frames := 0, cells := 0, slots := 0, locals := 0 } : Room) w [.ref (adr G (t, v, 0))] (some (vI (bI (¬ w (t, v, 0) 6 = -1)))) w 0 0 := by
  refine Con.head (cc := cX2_isDrumming) (nL := 1) (ret := (some .boolean)) hG (by decide +kernel) rfl (Nat.le_of_ble_eq_true rfl) ?_
  intro B A hBl C hr
  have hr0 := hr
  have hinX2 : ∀ w ∈ u_ws RX2 TX2 13, w ∈ wsX2_isDrumming := by decide +kernel
  refine r_aload_n C (k := 0) dX2_isDrumming_0 rfl ?_
  refine r_getf C 6 (ok_of hG (kdv0 ht hv) (by decide) (Nat.le_trans ht (by decide))) (kdv0 ht hv) (by decide) rfl hinX2 (by decide) (by decide +kernel) rfl rfl dX2_isDrumming_1 ?_
  refine r_iconst C dX2_isDrumming_4 ?_
  refine r_icmp_eq C (tgt := 12) dX2_isDrumming_5 (by decide) (by first | exact hr _ _ | exact hr0 _ _ | assumption | exact ⟨by omega, by omega⟩) ⟨by decide, by decide⟩ (fun h_1 => ?_) (fun h_1 => ?_)
  · skip
    refine r_iconst C dX2_isDrumming_12 ?_
    exact r_zret C dX2_isDrumming_13 (by first | exact Or.inr rfl | exact Or.inl rfl | exact bI_01 _) (by exact congrArg (fun z => some (vI z)) (bI_f (by first | omega | (simp_all; done) | (simp_all; omega))).symm) (by first | rfl | (simp [*]; done))
  · skip
    refine r_iconst C dX2_isDrumming_8 ?_
    refine r_goto C (tgt := 13) dX2_isDrumming_9 (by decide) ?_
    exact r_zret C dX2_isDrumming_13 (by first | exact Or.inr rfl | exact Or.inl rfl | exact bI_01 _) (by exact congrArg (fun z => some (vI z)) (bI_t (by first | omega | (simp_all; done) | (simp_all; omega))).symm) (by first | rfl | (simp [*]; done))

set_option maxRecDepth 100000 in
set_option maxHeartbeats 8000000 in
theorem c_X2_isReady {l : Launch} {G : Gt} (hG : Gok G) {t : Nat} {v : Nat} (ht : t ≤ 1) (hv : v ≤ 7) {w : Mm} {b : Int} (hb : inR (b - w (t, v, 0) 4)) : Con l G yX2_isReady wsX2_isReady ({ frames := 2, cells := 0, slots := 0, locals := 43 } : Room) w [.ref (adr G (t, v, 0)), vI b] (some (vI (bI (w (t, v, 0) 6 = -1 ∧ 0 < w (t, v, 0) 9 ∧ awk w t v b)))) w 0 0 := by
  refine Con.head (cc := cX2_isReady) (nL := 2) (ret := (some .boolean)) hG (by decide +kernel) rfl (Nat.le_of_ble_eq_true rfl) ?_
  intro B A hBl C hr
  have hr0 := hr
  have hinX2 : ∀ w ∈ u_ws RX2 TX2 13, w ∈ wsX2_isReady := by decide +kernel
  refine r_aload_n C (k := 0) dX2_isReady_0 rfl ?_
  refine r_callV C [] 0 (c_X2_isDrumming hG ht hv) gX2_isReady_X2_isDrumming rfl rfl rfl (by decide +kernel) (Nat.le_of_ble_eq_true rfl) (Nat.le_of_ble_eq_true rfl) ⟨(Nat.zero_le _), (Nat.zero_le _)⟩ (ok_of hG (kdv0 ht hv) (by decide) (Nat.le_trans ht (by decide))) (kdv0 ht hv) (by decide) rfl rfl rfl (by decide) (st' := [vI (bI (¬ w (t, v, 0) 6 = -1))]) rfl dX2_isReady_1 (fun hr => ?_)
  refine r_if_neP C (P := ¬ w (t, v, 0) 6 = -1) (tgt := 26) dX2_isReady_4 (by decide) (fun h_1 => ?_) (fun h_1 => ?_)
  · skip
    refine r_iconst C dX2_isReady_26 ?_
    exact r_zret C dX2_isReady_27 (by first | exact Or.inr rfl | exact Or.inl rfl | exact bI_01 _) (by exact congrArg (fun z => some (vI z)) (bI_f (by first | omega | (simp_all; done) | (simp_all; omega))).symm) (by first | rfl | (simp [*]; done))
  · skip
    refine r_aload_n C (k := 0) dX2_isReady_7 rfl ?_
    refine r_getf C 9 (ok_of hG (kdv0 ht hv) (by decide) (Nat.le_trans ht (by decide))) (kdv0 ht hv) (by decide) rfl hinX2 (by decide) (by decide +kernel) rfl rfl dX2_isReady_8 ?_
    refine r_if_le C (tgt := 26) dX2_isReady_11 (by decide) (by first | exact hr _ _ | exact hr0 _ _ | assumption | exact ⟨by omega, by omega⟩) (fun h_2 => ?_) (fun h_2 => ?_)
    · skip
      refine r_iconst C dX2_isReady_26 ?_
      exact r_zret C dX2_isReady_27 (by first | exact Or.inr rfl | exact Or.inl rfl | exact bI_01 _) (by exact congrArg (fun z => some (vI z)) (bI_f (by first | omega | (simp_all; done) | (simp_all; omega))).symm) (by first | rfl | (simp [*]; done))
    · skip
      refine r_aload_n C (k := 0) dX2_isReady_14 rfl ?_
      refine r_iload_n C (k := 1) dX2_isReady_15 rfl ?_
      refine r_callV C [vI (b)] 1 (c_X2_isAwake hG ht hv (by first | assumption | omega | exact hr _ _ | exact hr0 _ _ | exact ⟨by omega, by omega⟩ | exact bI_inR _)) gX2_isReady_X2_isAwake rfl rfl rfl (by decide +kernel) (Nat.le_of_ble_eq_true rfl) (Nat.le_of_ble_eq_true rfl) ⟨(Nat.zero_le _), (Nat.zero_le _)⟩ (ok_of hG (kdv0 ht hv) (by decide) (Nat.le_trans ht (by decide))) (kdv0 ht hv) (by decide) rfl rfl rfl (by decide) (st' := [vI (bI (awk w t v (b)))]) rfl dX2_isReady_16 (fun hr => ?_)
      refine r_if_eqP C (P := awk w t v (b)) (tgt := 26) dX2_isReady_19 (by decide) (fun h_3 => ?_) (fun h_3 => ?_)
      · skip
        refine r_iconst C dX2_isReady_26 ?_
        exact r_zret C dX2_isReady_27 (by first | exact Or.inr rfl | exact Or.inl rfl | exact bI_01 _) (by exact congrArg (fun z => some (vI z)) (bI_f (by first | omega | (simp_all; done) | (simp_all; omega))).symm) (by first | rfl | (simp [*]; done))
      · skip
        refine r_iconst C dX2_isReady_22 ?_
        refine r_goto C (tgt := 27) dX2_isReady_23 (by decide) ?_
        exact r_zret C dX2_isReady_27 (by first | exact Or.inr rfl | exact Or.inl rfl | exact bI_01 _) (by exact congrArg (fun z => some (vI z)) (bI_t (by first | omega | (simp_all; done) | (simp_all; omega))).symm) (by first | rfl | (simp [*]; done))

set_option maxRecDepth 100000 in
set_option maxHeartbeats 8000000 in
theorem c_X2_distanceTo {l : Launch} {G : Gt} (hG : Gok G) {t : Nat} {v : Nat} {t2 : Nat} {v2 : Nat} (ht : t ≤ 1) (hv : v ≤ 7) (ht2 : t2 ≤ 1) (hv2 : v2 ≤ 7) {w : Mm} (h1 : 0 ≤ w (t, v, 0) 0 ∧ w (t, v, 0) 0 ≤ 30 ∧ 0 ≤ w (t, v, 0) 1 ∧ w (t, v, 0) 1 ≤ 30) (h2 : 0 ≤ w (t2, v2, 0) 0 ∧ w (t2, v2, 0) 0 ≤ 30 ∧ 0 ≤ w (t2, v2, 0) 1 ∧ w (t2, v2, 0) 1 ≤ 30) : Con l G yX2_distanceTo wsX2_distanceTo ({ frames := 1, cells := 0, slots := 0, locals := 21 } : Room) w [.ref (adr G (t, v, 0)), .ref (adr G (t2, v2, 0))] (some (vI (s2dist w t v t2 v2))) w 0 0 := by
  refine Con.head (cc := cX2_distanceTo) (nL := 2) (ret := (some .int)) hG (by decide +kernel) rfl (Nat.le_of_ble_eq_true rfl) ?_
  intro B A hBl C hr
  have hr0 := hr
  have hinX2 : ∀ w ∈ u_ws RX2 TX2 13, w ∈ wsX2_distanceTo := by decide +kernel
  refine r_aload_n C (k := 0) dX2_distanceTo_0 rfl ?_
  refine r_getf C 0 (ok_of hG (kdv0 ht hv) (by decide) (Nat.le_trans ht (by decide))) (kdv0 ht hv) (by decide) rfl hinX2 (by decide) (by decide +kernel) rfl rfl dX2_distanceTo_1 ?_
  refine r_aload_n C (k := 1) dX2_distanceTo_4 rfl ?_
  refine r_getf C 0 (ok_of hG (kdv0 ht2 hv2) (by decide) (Nat.le_trans ht2 (by decide))) (kdv0 ht2 hv2) (by decide) rfl hinX2 (by decide) (by decide +kernel) rfl rfl dX2_distanceTo_5 ?_
  refine r_isub C dX2_distanceTo_8 ?_
  refine r_mabs C (by first | omega | assumption) (by first | omega | assumption) (by decide +kernel) (by decide +kernel) (by decide +kernel) (by decide +kernel) (Nat.le_of_ble_eq_true rfl) (Nat.le_of_ble_eq_true rfl) (Nat.zero_le _) (Nat.zero_le _) dX2_distanceTo_9 ?_
  refine r_aload_n C (k := 0) dX2_distanceTo_12 rfl ?_
  refine r_getf C 1 (ok_of hG (kdv0 ht hv) (by decide) (Nat.le_trans ht (by decide))) (kdv0 ht hv) (by decide) rfl hinX2 (by decide) (by decide +kernel) rfl rfl dX2_distanceTo_13 ?_
  refine r_aload_n C (k := 1) dX2_distanceTo_16 rfl ?_
  refine r_getf C 1 (ok_of hG (kdv0 ht2 hv2) (by decide) (Nat.le_trans ht2 (by decide))) (kdv0 ht2 hv2) (by decide) rfl hinX2 (by decide) (by decide +kernel) rfl rfl dX2_distanceTo_17 ?_
  refine r_isub C dX2_distanceTo_20 ?_
  refine r_mabs C (by first | omega | assumption) (by first | omega | assumption) (by decide +kernel) (by decide +kernel) (by decide +kernel) (by decide +kernel) (Nat.le_of_ble_eq_true rfl) (Nat.le_of_ble_eq_true rfl) (Nat.zero_le _) (Nat.zero_le _) dX2_distanceTo_21 ?_
  refine r_iadd C dX2_distanceTo_24 ?_
  exact r_iret C dX2_distanceTo_25 (by first | rfl | (simp [*]; done)) (by first | rfl | (simp [*]; done))

set_option maxRecDepth 100000 in
set_option maxHeartbeats 8000000 in
theorem c_X2_isHeardAt {l : Launch} {G : Gt} (hG : Gok G) {t : Nat} {v : Nat} (ht : t ≤ 1) (hv : v ≤ 7) {w : Mm} {d : Int} (h1 : 0 ≤ w (t, v, 0) 2 ∧ w (t, v, 0) 2 ≤ 9) (hd : inR d) : Con l G yX2_isHeardAt wsX2_isHeardAt ({ frames := 0, cells := 0, slots := 0, locals := 0 } : Room) w [.ref (adr G (t, v, 0)), vI d] (some (vI (bI (d ≤ 3 * w (t, v, 0) 2)))) w 0 0 := by
  refine Con.head (cc := cX2_isHeardAt) (nL := 2) (ret := (some .boolean)) hG (by decide +kernel) rfl (Nat.le_of_ble_eq_true rfl) ?_
  intro B A hBl C hr
  have hr0 := hr
  have hinX2 : ∀ w ∈ u_ws RX2 TX2 13, w ∈ wsX2_isHeardAt := by decide +kernel
  refine r_iload_n C (k := 1) dX2_isHeardAt_0 rfl ?_
  refine r_iconst C dX2_isHeardAt_1 ?_
  refine r_aload_n C (k := 0) dX2_isHeardAt_2 rfl ?_
  refine r_getf C 2 (ok_of hG (kdv0 ht hv) (by decide) (Nat.le_trans ht (by decide))) (kdv0 ht hv) (by decide) rfl hinX2 (by decide) (by decide +kernel) rfl rfl dX2_isHeardAt_3 ?_
  refine r_imul C dX2_isHeardAt_6 ?_
  refine r_icmp_gt C (tgt := 14) dX2_isHeardAt_7 (by decide) (by first | exact hr _ _ | exact hr0 _ _ | assumption | exact ⟨by omega, by omega⟩) (by first | exact hr _ _ | exact hr0 _ _ | assumption | exact ⟨by omega, by omega⟩) (fun h_1 => ?_) (fun h_1 => ?_)
  · skip
    refine r_iconst C dX2_isHeardAt_14 ?_
    exact r_zret C dX2_isHeardAt_15 (by first | exact Or.inr rfl | exact Or.inl rfl | exact bI_01 _) (by exact congrArg (fun z => some (vI z)) (bI_f (by first | omega | (simp_all; done) | (simp_all; omega))).symm) (by first | rfl | (simp [*]; done))
  · skip
    refine r_iconst C dX2_isHeardAt_10 ?_
    refine r_goto C (tgt := 15) dX2_isHeardAt_11 (by decide) ?_
    exact r_zret C dX2_isHeardAt_15 (by first | exact Or.inr rfl | exact Or.inl rfl | exact bI_01 _) (by exact congrArg (fun z => some (vI z)) (bI_t (by first | omega | (simp_all; done) | (simp_all; omega))).symm) (by first | rfl | (simp [*]; done))

set_option maxRecDepth 100000 in
set_option maxHeartbeats 8000000 in
theorem c_X2_isKnown {l : Launch} {G : Gt} (hG : Gok G) {t : Nat} {v : Nat} (ht : t ≤ 1) (hv : v ≤ 7) {w : Mm} {p : Int} (hp : inR p) : Con l G yX2_isKnown wsX2_isKnown ({ frames := 0, cells := 0, slots := 0, locals := 0 } : Room) w [.ref (adr G (t, v, 0)), vI p] (some (vI (bI (kno w t v p)))) w 0 0 := by
  refine Con.head (cc := cX2_isKnown) (nL := 2) (ret := (some .boolean)) hG (by decide +kernel) rfl (Nat.le_of_ble_eq_true rfl) ?_
  intro B A hBl C hr
  have hr0 := hr
  have hinX2 : ∀ w ∈ u_ws RX2 TX2 13, w ∈ wsX2_isKnown := by decide +kernel
  refine r_iload_n C (k := 1) dX2_isKnown_0 rfl ?_
  refine r_if_lt C (tgt := 24) dX2_isKnown_1 (by decide) (by first | exact hr _ _ | exact hr0 _ _ | assumption | exact ⟨by omega, by omega⟩) (fun h_1 => ?_) (fun h_1 => ?_)
  · skip
    refine r_iconst C dX2_isKnown_24 ?_
    exact r_zret C dX2_isKnown_25 (by first | exact Or.inr rfl | exact Or.inl rfl | exact bI_01 _) (by exact congrArg (fun z => some (vI z)) (bI_f (by first | omega | (simp_all; done) | (simp_all; omega))).symm) (by first | rfl | (simp [*]; done))
  · skip
    refine r_iload_n C (k := 1) dX2_isKnown_4 rfl ?_
    refine r_bipush C dX2_isKnown_5 (by decide) ?_
    refine r_icmp_ge C (tgt := 24) dX2_isKnown_7 (by decide) (by first | exact hr _ _ | exact hr0 _ _ | assumption | exact ⟨by omega, by omega⟩) ⟨by decide, by decide⟩ (fun h_2 => ?_) (fun h_2 => ?_)
    · skip
      refine r_iconst C dX2_isKnown_24 ?_
      exact r_zret C dX2_isKnown_25 (by first | exact Or.inr rfl | exact Or.inl rfl | exact bI_01 _) (by exact congrArg (fun z => some (vI z)) (bI_f (by first | omega | (simp_all; done) | (simp_all; omega))).symm) (by first | rfl | (simp [*]; done))
    · skip
      refine r_aload_n C (k := 0) dX2_isKnown_10 rfl ?_
      refine r_getf C 10 (v := .ref (adr G (t, v, 2))) (ok_of hG (kdv0 ht hv) (by decide) (Nat.le_trans ht (by decide))) (kdv0 ht hv) (by decide) rfl hinX2 (by decide) (by decide +kernel) rfl rfl dX2_isKnown_11 ?_
      refine r_iload_n C (k := 1) dX2_isKnown_14 rfl ?_
      refine r_iald C ((p).toNat) (ok_of hG (kdv2 ht hv) (by decide) (Nat.le_trans ht (by decide))) (kdv2 ht hv) (Int.toNat_of_nonneg (by first | omega | assumption)).symm (by first | omega | assumption) (by decide) dX2_isKnown_15 ?_
      refine r_iconst C dX2_isKnown_16 ?_
      refine r_icmp_eq C (tgt := 24) dX2_isKnown_17 (by decide) (by first | exact hr _ _ | exact hr0 _ _ | assumption | exact ⟨by omega, by omega⟩) ⟨by decide, by decide⟩ (fun h_3 => ?_) (fun h_3 => ?_)
      · skip
        refine r_iconst C dX2_isKnown_24 ?_
        exact r_zret C dX2_isKnown_25 (by first | exact Or.inr rfl | exact Or.inl rfl | exact bI_01 _) (by exact congrArg (fun z => some (vI z)) (bI_f (by first | omega | (simp_all; done) | (simp_all; omega))).symm) (by first | rfl | (simp [*]; done))
      · skip
        refine r_iconst C dX2_isKnown_20 ?_
        refine r_goto C (tgt := 25) dX2_isKnown_21 (by decide) ?_
        exact r_zret C dX2_isKnown_25 (by first | exact Or.inr rfl | exact Or.inl rfl | exact bI_01 _) (by exact congrArg (fun z => some (vI z)) (bI_t (by first | omega | (simp_all; done) | (simp_all; omega))).symm) (by first | rfl | (simp [*]; done))

set_option maxRecDepth 100000 in
set_option maxHeartbeats 8000000 in
theorem c_X2_phrasesKnown {l : Launch} {G : Gt} (hG : Gok G) {t : Nat} {v : Nat} (ht : t ≤ 1) (hv : v ≤ 7) {w : Mm} : Con l G yX2_phrasesKnown wsX2_phrasesKnown ({ frames := 1, cells := 0, slots := 0, locals := 21 } : Room) w [.ref (adr G (t, v, 0))] (some (vI (((s2kn w t v 12 : Nat) : Int)))) w 0 0 := by
  refine Con.head (cc := cX2_phrasesKnown) (nL := 3) (ret := (some .int)) hG (by decide +kernel) rfl (Nat.le_of_ble_eq_true rfl) ?_
  intro B A hBl C hr
  have hr0 := hr
  refine r_iconst C dX2_phrasesKnown_0 ?_
  refine r_istore_n C (i := 1) (lv' := [(1, vI (0)), (0, .ref (adr G (t, v, 0)))]) dX2_phrasesKnown_1 rfl (by decide) rfl ?_
  refine r_iconst C dX2_phrasesKnown_2 ?_
  refine r_istore_n C (i := 2) (lv' := [(2, vI (0)), (1, vI (0)), (0, .ref (adr G (t, v, 0)))]) dX2_phrasesKnown_3 rfl (by decide) rfl ?_
  have loop_4 : ∀ (n : Nat) (i : Nat), (i ≤ 12) → 12 - i < n → rng w → Wm B 3 G A (Qe B G A (some (vI (((s2kn w t v 12 : Nat) : Int)))) w 0 0) w 0 0 4 [(0, .ref (adr G (t, v, 0))), (1, vI (((s2kn w t v i : Nat) : Int))), (2, vI (((i : Nat) : Int)))] [] := by
    intro n
    induction n with
    | zero => intro i hi hm; exact absurd hm (Nat.not_lt_zero _)
    | succ n ih =>
      intro i hi hm hr
      have hsl := s2kn_le w t v i
      refine r_iload_n C (k := 2) dX2_phrasesKnown_4 rfl ?_
      refine r_bipush C dX2_phrasesKnown_5 (by decide) ?_
      refine r_icmp_ge C (tgt := 27) dX2_phrasesKnown_7 (by decide) (by first | exact hr _ _ | exact hr0 _ _ | assumption | exact ⟨by omega, by omega⟩) ⟨by decide, by decide⟩ (fun h_1 => ?_) (fun h_1 => ?_)
      · skip
        refine r_iload_n C (k := 1) dX2_phrasesKnown_27 rfl ?_
        exact r_iret C dX2_phrasesKnown_28 (by (obtain rfl : i = 12 := (by omega)); rfl) (by first | rfl | (simp [*]; done))
      · skip
        refine r_aload_n C (k := 0) dX2_phrasesKnown_10 rfl ?_
        refine r_iload_n C (k := 2) dX2_phrasesKnown_11 rfl ?_
        refine r_callV C [vI (((i : Nat) : Int))] 1 (c_X2_isKnown hG ht hv (by first | assumption | omega | exact hr _ _ | exact hr0 _ _ | exact ⟨by omega, by omega⟩ | exact bI_inR _)) gX2_phrasesKnown_X2_isKnown rfl rfl rfl (by decide +kernel) (Nat.le_of_ble_eq_true rfl) (Nat.le_of_ble_eq_true rfl) ⟨(Nat.zero_le _), (Nat.zero_le _)⟩ (ok_of hG (kdv0 ht hv) (by decide) (Nat.le_trans ht (by decide))) (kdv0 ht hv) (by decide) rfl rfl rfl (by decide) (st' := [vI (bI (kno w t v (((i : Nat) : Int))))]) rfl dX2_phrasesKnown_12 (fun hr => ?_)
        refine r_if_eqP C (P := kno w t v (((i : Nat) : Int))) (tgt := 21) dX2_phrasesKnown_15 (by decide) (fun h_2 => ?_) (fun h_2 => ?_)
        · skip
          refine r_iinc C (k := 2) (lv' := [(2, vI (((i + 1 : Nat) : Int))), (0, .ref (adr G (t, v, 0))), (1, vI (((s2kn w t v i : Nat) : Int)))]) dX2_phrasesKnown_21 rfl (by decide) rfl ?_
          refine r_goto C (tgt := 4) dX2_phrasesKnown_24 (by decide) ?_
          have e_3 : w = w := by rfl
          refine Wm.sub (lv' := [(0, .ref (adr G (t, v, 0))), (1, vI (((s2kn w t v i : Nat) : Int))), (2, vI (((i + 1 : Nat) : Int)))]) [1, 2, 0] rfl ?_
          refine Wm.mem (lv' := [(0, .ref (adr G (t, v, 0))), (1, vI (((s2kn w t v (i + 1) : Nat) : Int))), (2, vI ((((i + 1) : Nat) : Int)))]) e_3 (by (simp only [s2kn]; first | rw [if_pos (by assumption)] | rw [if_neg (by assumption)]); try rfl) ?_
          exact ih ((i + 1)) (by omega) (by omega) (e_3 ▸ hr)
        · skip
          refine r_iinc C (k := 1) (lv' := [(1, vI (((s2kn w t v i + 1 : Nat) : Int))), (0, .ref (adr G (t, v, 0))), (2, vI (((i : Nat) : Int)))]) dX2_phrasesKnown_18 rfl (by decide) rfl ?_
          refine r_iinc C (k := 2) (lv' := [(2, vI (((i + 1 : Nat) : Int))), (1, vI (((s2kn w t v i + 1 : Nat) : Int))), (0, .ref (adr G (t, v, 0)))]) dX2_phrasesKnown_21 rfl (by decide) rfl ?_
          refine r_goto C (tgt := 4) dX2_phrasesKnown_24 (by decide) ?_
          have e_4 : w = w := by rfl
          refine Wm.sub (lv' := [(0, .ref (adr G (t, v, 0))), (1, vI (((s2kn w t v i + 1 : Nat) : Int))), (2, vI (((i + 1 : Nat) : Int)))]) [2, 1, 0] rfl ?_
          refine Wm.mem (lv' := [(0, .ref (adr G (t, v, 0))), (1, vI (((s2kn w t v (i + 1) : Nat) : Int))), (2, vI ((((i + 1) : Nat) : Int)))]) e_4 (by (simp only [s2kn]; first | rw [if_pos (by assumption)] | rw [if_neg (by assumption)]); try rfl) ?_
          exact ih ((i + 1)) (by omega) (by omega) (e_4 ▸ hr)
  have e_5 : w = w := by rfl
  refine Wm.sub (lv' := [(0, .ref (adr G (t, v, 0))), (1, vI (0)), (2, vI (0))]) [2, 1, 0] rfl ?_
  refine Wm.mem (lv' := [(0, .ref (adr G (t, v, 0))), (1, vI (((s2kn w t v 0 : Nat) : Int))), (2, vI (((0 : Nat) : Int)))]) e_5 (by rfl) ?_
  exact loop_4 _ (0) (by omega) (Nat.lt_succ_self _) (e_5 ▸ hr)

set_option maxRecDepth 100000 in
set_option maxHeartbeats 8000000 in
theorem c_X2_takeIn {l : Launch} {G : Gt} (hG : Gok G) {t : Nat} {v : Nat} (ht : t ≤ 1) (hv : v ≤ 7) {w : Mm} {p : Int} {b : Int} (hq : 0 ≤ w (t, v, 0) 9 ∧ w (t, v, 0) 9 ≤ 5) (hp : inR p) (hb : inR b) : Con l G yX2_takeIn wsX2_takeIn ({ frames := 0, cells := 0, slots := 0, locals := 0 } : Room) w [.ref (adr G (t, v, 0)), vI p, vI b] none (s2take w t v p b) 0 0 := by
  refine Con.head (cc := cX2_takeIn) (nL := 3) (ret := none) hG (by decide +kernel) rfl (Nat.le_of_ble_eq_true rfl) ?_
  intro B A hBl C hr
  have hr0 := hr
  have hinX2 : ∀ w ∈ u_ws RX2 TX2 13, w ∈ wsX2_takeIn := by decide +kernel
  refine r_iload_n C (k := 1) dX2_takeIn_0 rfl ?_
  refine r_if_lt C (tgt := 10) dX2_takeIn_1 (by decide) (by first | exact hr _ _ | exact hr0 _ _ | assumption | exact ⟨by omega, by omega⟩) (fun h_1 => ?_) (fun h_1 => ?_)
  · skip
    exact r_vret C dX2_takeIn_10 (by (unfold s2take; first | rw [if_pos (by omega)] | (rw [if_neg (by omega)]; (repeat' split) <;> first | rfl | (exfalso; omega))))
  · skip
    refine r_iload_n C (k := 1) dX2_takeIn_4 rfl ?_
    refine r_bipush C dX2_takeIn_5 (by decide) ?_
    refine r_icmp_lt C (tgt := 11) dX2_takeIn_7 (by decide) (by first | exact hr _ _ | exact hr0 _ _ | assumption | exact ⟨by omega, by omega⟩) ⟨by decide, by decide⟩ (fun h_2 => ?_) (fun h_2 => ?_)
    · skip
      refine r_aload_n C (k := 0) dX2_takeIn_11 rfl ?_
      refine r_getf C 10 (v := .ref (adr G (t, v, 2))) (ok_of hG (kdv0 ht hv) (by decide) (Nat.le_trans ht (by decide))) (kdv0 ht hv) (by decide) rfl hinX2 (by decide) (by decide +kernel) rfl rfl dX2_takeIn_12 ?_
      refine r_iload_n C (k := 1) dX2_takeIn_15 rfl ?_
      refine r_iald C ((p).toNat) (ok_of hG (kdv2 ht hv) (by decide) (Nat.le_trans ht (by decide))) (kdv2 ht hv) (Int.toNat_of_nonneg (by first | omega | assumption)).symm (by first | omega | assumption) (by decide) dX2_takeIn_16 ?_
      refine r_iconst C dX2_takeIn_17 ?_
      refine r_icmp_ne C (tgt := 28) dX2_takeIn_18 (by decide) (by first | exact hr _ _ | exact hr0 _ _ | assumption | exact ⟨by omega, by omega⟩) ⟨by decide, by decide⟩ (fun h_3 => ?_) (fun h_3 => ?_)
      · skip
        refine r_aload_n C (k := 0) dX2_takeIn_28 rfl ?_
        refine r_getf C 9 (ok_of hG (kdv0 ht hv) (by decide) (Nat.le_trans ht (by decide))) (kdv0 ht hv) (by decide) rfl hinX2 (by decide) (by decide +kernel) rfl rfl dX2_takeIn_29 ?_
        refine r_iconst C dX2_takeIn_32 ?_
        refine r_icmp_ge C (tgt := 56) dX2_takeIn_33 (by decide) (by first | exact hr _ _ | exact hr0 _ _ | assumption | exact ⟨by omega, by omega⟩) ⟨by decide, by decide⟩ (fun h_4 => ?_) (fun h_4 => ?_)
        · skip
          exact r_vret C dX2_takeIn_56 (by (unfold s2take; first | rw [if_pos (by omega)] | (rw [if_neg (by omega)]; (repeat' split) <;> first | rfl | (exfalso; omega))))
        · skip
          refine r_aload_n C (k := 0) dX2_takeIn_36 rfl ?_
          refine r_getf C 8 (v := .ref (adr G (t, v, 1))) (ok_of hG (kdv0 ht hv) (by decide) (Nat.le_trans ht (by decide))) (kdv0 ht hv) (by decide) rfl hinX2 (by decide) (by decide +kernel) rfl rfl dX2_takeIn_37 ?_
          refine r_aload_n C (k := 0) dX2_takeIn_40 rfl ?_
          refine r_getf C 9 (ok_of hG (kdv0 ht hv) (by decide) (Nat.le_trans ht (by decide))) (kdv0 ht hv) (by decide) rfl hinX2 (by decide) (by decide +kernel) rfl rfl dX2_takeIn_41 ?_
          refine r_iload_n C (k := 1) dX2_takeIn_44 rfl ?_
          refine r_iast C ((w (t, v, 0) (9)).toNat) hr (by first | exact hr _ _ | exact hr0 _ _ | assumption | exact ⟨by omega, by omega⟩) (ok_of hG (kdv1 ht hv) (by decide) (Nat.le_trans ht (by decide))) (kdv1 ht hv) (Int.toNat_of_nonneg (by first | omega | assumption)).symm (by first | omega | assumption) (by decide) dX2_takeIn_45 (fun hr => ?_)
          refine r_aload_n C (k := 0) dX2_takeIn_46 rfl ?_
          refine r_dup C dX2_takeIn_47 rfl ?_
          refine r_getf C 9 (ok_of hG (kdv0 ht hv) (by decide) (Nat.le_trans ht (by decide))) (kdv0 ht hv) (by decide) rfl hinX2 (by decide) (by decide +kernel) rfl rfl dX2_takeIn_48 ?_
          refine Wm.top (z' := w (t, v, 0) (9)) (by simp [st1, cpy]) ?_
          refine r_iconst C dX2_takeIn_51 ?_
          refine r_iadd C dX2_takeIn_52 ?_
          refine r_putf C 9 hr (by first | exact hr _ _ | exact hr0 _ _ | assumption | exact ⟨by omega, by omega⟩) (ok_of hG (kdv0 ht hv) (by decide) (Nat.le_trans ht (by decide))) (kdv0 ht hv) (by decide) rfl hinX2 tyX2_ok nmX2 (by decide) (by decide +kernel) rfl rfl (ty := .int) (by decide +kernel) rfl rfl rfl (Nat.le_of_ble_eq_true rfl) dX2_takeIn_53 (fun hr => ?_)
          exact r_vret C dX2_takeIn_56 (by (unfold s2take; first | rw [if_pos (by omega)] | (rw [if_neg (by omega)]; (repeat' split) <;> first | rfl | (exfalso; omega))))
      · skip
        refine r_aload_n C (k := 0) dX2_takeIn_21 rfl ?_
        refine r_getf C 10 (v := .ref (adr G (t, v, 2))) (ok_of hG (kdv0 ht hv) (by decide) (Nat.le_trans ht (by decide))) (kdv0 ht hv) (by decide) rfl hinX2 (by decide) (by decide +kernel) rfl rfl dX2_takeIn_22 ?_
        refine r_iload_n C (k := 1) dX2_takeIn_25 rfl ?_
        refine r_iload_n C (k := 2) dX2_takeIn_26 rfl ?_
        refine r_iast C ((p).toNat) hr (by first | exact hr _ _ | exact hr0 _ _ | assumption | exact ⟨by omega, by omega⟩) (ok_of hG (kdv2 ht hv) (by decide) (Nat.le_trans ht (by decide))) (kdv2 ht hv) (Int.toNat_of_nonneg (by first | omega | assumption)).symm (by first | omega | assumption) (by decide) dX2_takeIn_27 (fun hr => ?_)
        refine r_aload_n C (k := 0) dX2_takeIn_28 rfl ?_
        refine r_getf C 9 (ok_of hG (kdv0 ht hv) (by decide) (Nat.le_trans ht (by decide))) (kdv0 ht hv) (by decide) rfl hinX2 (by decide) (by decide +kernel) rfl rfl dX2_takeIn_29 ?_
        refine Wm.top (z' := w (t, v, 0) (9)) (by simp [st1, cpy]) ?_
        refine r_iconst C dX2_takeIn_32 ?_
        refine r_icmp_ge C (tgt := 56) dX2_takeIn_33 (by decide) (by first | exact hr _ _ | exact hr0 _ _ | assumption | exact ⟨by omega, by omega⟩) ⟨by decide, by decide⟩ (fun h_5 => ?_) (fun h_5 => ?_)
        · skip
          exact r_vret C dX2_takeIn_56 (by (unfold s2take; first | rw [if_pos (by omega)] | (rw [if_neg (by omega)]; (repeat' split) <;> first | rfl | (exfalso; omega))))
        · skip
          refine r_aload_n C (k := 0) dX2_takeIn_36 rfl ?_
          refine r_getf C 8 (v := .ref (adr G (t, v, 1))) (ok_of hG (kdv0 ht hv) (by decide) (Nat.le_trans ht (by decide))) (kdv0 ht hv) (by decide) rfl hinX2 (by decide) (by decide +kernel) rfl rfl dX2_takeIn_37 ?_
          refine r_aload_n C (k := 0) dX2_takeIn_40 rfl ?_
          refine r_getf C 9 (ok_of hG (kdv0 ht hv) (by decide) (Nat.le_trans ht (by decide))) (kdv0 ht hv) (by decide) rfl hinX2 (by decide) (by decide +kernel) rfl rfl dX2_takeIn_41 ?_
          refine Wm.top (z' := w (t, v, 0) (9)) (by simp [st1, cpy]) ?_
          refine r_iload_n C (k := 1) dX2_takeIn_44 rfl ?_
          refine r_iast C ((w (t, v, 0) (9)).toNat) hr (by first | exact hr _ _ | exact hr0 _ _ | assumption | exact ⟨by omega, by omega⟩) (ok_of hG (kdv1 ht hv) (by decide) (Nat.le_trans ht (by decide))) (kdv1 ht hv) (Int.toNat_of_nonneg (by first | omega | assumption)).symm (by first | omega | assumption) (by decide) dX2_takeIn_45 (fun hr => ?_)
          refine r_aload_n C (k := 0) dX2_takeIn_46 rfl ?_
          refine r_dup C dX2_takeIn_47 rfl ?_
          refine r_getf C 9 (ok_of hG (kdv0 ht hv) (by decide) (Nat.le_trans ht (by decide))) (kdv0 ht hv) (by decide) rfl hinX2 (by decide) (by decide +kernel) rfl rfl dX2_takeIn_48 ?_
          refine Wm.top (z' := w (t, v, 0) (9)) (by simp [st1, cpy]) ?_
          refine r_iconst C dX2_takeIn_51 ?_
          refine r_iadd C dX2_takeIn_52 ?_
          refine r_putf C 9 hr (by first | exact hr _ _ | exact hr0 _ _ | assumption | exact ⟨by omega, by omega⟩) (ok_of hG (kdv0 ht hv) (by decide) (Nat.le_trans ht (by decide))) (kdv0 ht hv) (by decide) rfl hinX2 tyX2_ok nmX2 (by decide) (by decide +kernel) rfl rfl (ty := .int) (by decide +kernel) rfl rfl rfl (Nat.le_of_ble_eq_true rfl) dX2_takeIn_53 (fun hr => ?_)
          exact r_vret C dX2_takeIn_56 (by (unfold s2take; first | rw [if_pos (by omega)] | (rw [if_neg (by omega)]; (repeat' split) <;> first | rfl | (exfalso; omega))))
    · skip
      exact r_vret C dX2_takeIn_10 (by (unfold s2take; first | rw [if_pos (by omega)] | (rw [if_neg (by omega)]; (repeat' split) <;> first | rfl | (exfalso; omega))))

set_option maxRecDepth 100000 in
set_option maxHeartbeats 8000000 in
theorem c_X2_takeFromQueue {l : Launch} {G : Gt} (hG : Gok G) {t : Nat} {v : Nat} (ht : t ≤ 1) (hv : v ≤ 7) {w : Mm} (hq : 0 ≤ w (t, v, 0) 9 ∧ w (t, v, 0) 9 ≤ 5) : Con l G yX2_takeFromQueue wsX2_takeFromQueue ({ frames := 1, cells := 0, slots := 0, locals := 26 } : Room) w [.ref (adr G (t, v, 0))] (some (vI (s2top w t v))) (s2pop w t v) 0 0 := by
  refine Con.head (cc := cX2_takeFromQueue) (nL := 2) (ret := (some .int)) hG (by decide +kernel) rfl (Nat.le_of_ble_eq_true rfl) ?_
  intro B A hBl C hr
  have hr0 := hr
  have hinX2 : ∀ w ∈ u_ws RX2 TX2 13, w ∈ wsX2_takeFromQueue := by decide +kernel
  refine r_aload_n C (k := 0) dX2_takeFromQueue_0 rfl ?_
  refine r_getf C 9 (ok_of hG (kdv0 ht hv) (by decide) (Nat.le_trans ht (by decide))) (kdv0 ht hv) (by decide) rfl hinX2 (by decide) (by decide +kernel) rfl rfl dX2_takeFromQueue_1 ?_
  refine r_if_ne C (tgt := 9) dX2_takeFromQueue_4 (by decide) (by first | exact hr _ _ | exact hr0 _ _ | assumption | exact ⟨by omega, by omega⟩) (fun h_1 => ?_) (fun h_1 => ?_)
  · skip
    refine r_aload_n C (k := 0) dX2_takeFromQueue_9 rfl ?_
    refine r_getf C 8 (v := .ref (adr G (t, v, 1))) (ok_of hG (kdv0 ht hv) (by decide) (Nat.le_trans ht (by decide))) (kdv0 ht hv) (by decide) rfl hinX2 (by decide) (by decide +kernel) rfl rfl dX2_takeFromQueue_10 ?_
    refine r_iconst C dX2_takeFromQueue_13 ?_
    refine r_iald C (0) (ok_of hG (kdv1 ht hv) (by decide) (Nat.le_trans ht (by decide))) (kdv1 ht hv) rfl (by first | omega | assumption) (by decide) dX2_takeFromQueue_14 ?_
    refine r_istore_n C (i := 1) (lv' := [(1, vI (w (t, v, 1) (0))), (0, .ref (adr G (t, v, 0)))]) dX2_takeFromQueue_15 rfl (by decide) rfl ?_
    refine r_aload_n C (k := 1) dX2_takeFromQueue_16 rfl ?_
    refine r_dup C dX2_takeFromQueue_17 rfl ?_
    refine r_getf C 9 (ok_of hG (kdv0 ht hv) (by decide) (Nat.le_trans ht (by decide))) (kdv0 ht hv) (by decide) rfl hinX2 (by decide) (by decide +kernel) rfl rfl dX2_takeFromQueue_18 ?_
    refine r_iconst C dX2_takeFromQueue_21 ?_
    refine r_isub C dX2_takeFromQueue_22 ?_
    refine r_putf C 9 hr (by first | exact hr _ _ | exact hr0 _ _ | assumption | exact ⟨by omega, by omega⟩) (ok_of hG (kdv0 ht hv) (by decide) (Nat.le_trans ht (by decide))) (kdv0 ht hv) (by decide) rfl hinX2 tyX2_ok nmX2 (by decide) (by decide +kernel) rfl rfl (ty := .int) (by decide +kernel) rfl rfl rfl (Nat.le_of_ble_eq_true rfl) dX2_takeFromQueue_23 (fun hr => ?_)
    refine r_aload_n C (k := 1) dX2_takeFromQueue_26 rfl ?_
    refine r_getf C 8 (v := .ref (adr G (t, v, 1))) (ok_of hG (kdv0 ht hv) (by decide) (Nat.le_trans ht (by decide))) (kdv0 ht hv) (by decide) rfl hinX2 (by decide) (by decide +kernel) rfl rfl dX2_takeFromQueue_27 ?_
    refine r_iconst C dX2_takeFromQueue_30 ?_
    refine r_aload_n C (k := 1) dX2_takeFromQueue_31 rfl ?_
    refine r_getf C 8 (v := .ref (adr G (t, v, 1))) (ok_of hG (kdv0 ht hv) (by decide) (Nat.le_trans ht (by decide))) (kdv0 ht hv) (by decide) rfl hinX2 (by decide) (by decide +kernel) rfl rfl dX2_takeFromQueue_32 ?_
    refine r_iconst C dX2_takeFromQueue_35 ?_
    refine r_aload_n C (k := 1) dX2_takeFromQueue_36 rfl ?_
    refine r_getf C 9 (ok_of hG (kdv0 ht hv) (by decide) (Nat.le_trans ht (by decide))) (kdv0 ht hv) (by decide) rfl hinX2 (by decide) (by decide +kernel) rfl rfl dX2_takeFromQueue_37 ?_
    refine Wm.top (z' := (w (t, v, 0) (9) - 1)) (by simp [st1, cpy]) ?_
    refine r_copy C (1) (0) (((w (t, v, 0) (9) - 1)).toNat) hr (ok_of hG (kdv1 ht hv) (by decide) (Nat.le_trans ht (by decide))) (ok_of hG (kdv1 ht hv) (by decide) (Nat.le_trans ht (by decide))) (kdv1 ht hv) (kdv1 ht hv) rfl rfl (Int.toNat_of_nonneg (by first | omega | assumption)).symm (by first | omega | assumption) (by first | omega | assumption) (by decide) (by decide) (by decide +kernel) (by decide +kernel) (by decide +kernel) (by decide +kernel) (Nat.le_of_ble_eq_true rfl) (Nat.le_of_ble_eq_true rfl) dX2_takeFromQueue_40 (fun hr => ?_)
    refine r_iload_n C (k := 0) dX2_takeFromQueue_43 rfl ?_
    exact r_iret C dX2_takeFromQueue_44 (by (unfold s2top; first | rw [if_pos (by assumption)] | rw [if_neg (by assumption)])) (by (unfold s2pop; first | rw [if_pos (by assumption)] | rw [if_neg (by assumption)]))
  · skip
    refine r_iconst C dX2_takeFromQueue_7 ?_
    exact r_iret C dX2_takeFromQueue_8 (by (unfold s2top; first | rw [if_pos (by assumption)] | rw [if_neg (by assumption)])) (by (unfold s2pop; first | rw [if_pos (by assumption)] | rw [if_neg (by assumption)]))

set_option maxRecDepth 100000 in
set_option maxHeartbeats 8000000 in
theorem c_X2_drownIfDisturbed {l : Launch} {G : Gt} (hG : Gok G) {t : Nat} {v : Nat} (ht : t ≤ 1) (hv : v ≤ 7) {w : Mm} {b : Int} (hz : 0 ≤ w (t, v, 3) 4 ∧ w (t, v, 3) 4 ≤ 112) (hb : inR (b - w (t, v, 0) 4)) (hb2 : inR b) : Con l G yX2_drownIfDisturbed wsX2_drownIfDisturbed ({ frames := 2, cells := 0, slots := 0, locals := 43 } : Room) w [.ref (adr G (t, v, 0)), vI b] none (s2dr w t v b) 0 0 := by
  refine Con.head (cc := cX2_drownIfDisturbed) (nL := 2) (ret := none) hG (by decide +kernel) rfl (Nat.le_of_ble_eq_true rfl) ?_
  intro B A hBl C hr
  have hr0 := hr
  have hinX2 : ∀ w ∈ u_ws RX2 TX2 13, w ∈ wsX2_drownIfDisturbed := by decide +kernel
  obtain ⟨hz1, hz2⟩ := hz
  have hsl := s1last_le w t v b (w (t, v, 3) 4).toNat
  refine r_aload_n C (k := 0) dX2_drownIfDisturbed_0 rfl ?_
  refine r_iload_n C (k := 1) dX2_drownIfDisturbed_1 rfl ?_
  refine r_callV C [vI (b)] 1 (c_X2_isAwake hG ht hv (by first | assumption | omega | exact hr _ _ | exact hr0 _ _ | exact ⟨by omega, by omega⟩ | exact bI_inR _)) gX2_drownIfDisturbed_X2_isAwake rfl rfl rfl (by decide +kernel) (Nat.le_of_ble_eq_true rfl) (Nat.le_of_ble_eq_true rfl) ⟨(Nat.zero_le _), (Nat.zero_le _)⟩ (ok_of hG (kdv0 ht hv) (by decide) (Nat.le_trans ht (by decide))) (kdv0 ht hv) (by decide) rfl rfl rfl (by decide) (st' := [vI (bI (awk w t v (b)))]) rfl dX2_drownIfDisturbed_2 (fun hr => ?_)
  refine r_if_eqP C (P := awk w t v (b)) (tgt := 27) dX2_drownIfDisturbed_5 (by decide) (fun h_1 => ?_) (fun h_1 => ?_)
  · skip
    refine r_aload_n C (k := 0) dX2_drownIfDisturbed_27 rfl ?_
    refine r_getf C 11 (v := .ref (adr G (t, v, 3))) (ok_of hG (kdv0 ht hv) (by decide) (Nat.le_trans ht (by decide))) (kdv0 ht hv) (by decide) rfl hinX2 (by decide) (by decide +kernel) rfl rfl dX2_drownIfDisturbed_28 ?_
    refine r_iload_n C (k := 1) dX2_drownIfDisturbed_31 rfl ?_
    refine r_callV C [vI (b)] 1 (c_X1_drown hG ht hv (by first | assumption | omega | exact hr _ _ | exact hr0 _ _ | exact ⟨by omega, by omega⟩ | exact bI_inR _) (by first | assumption | omega | exact hr _ _ | exact hr0 _ _ | exact ⟨by omega, by omega⟩ | exact bI_inR _)) gX2_drownIfDisturbed_X1_drown rfl rfl rfl (by decide +kernel) (Nat.le_of_ble_eq_true rfl) (Nat.le_of_ble_eq_true rfl) ⟨(Nat.zero_le _), (Nat.zero_le _)⟩ (ok_of hG (kdv3 ht hv) (by decide) (Nat.le_trans ht (by decide))) (kdv3 ht hv) (by decide) rfl rfl rfl (by decide) (st' := []) rfl dX2_drownIfDisturbed_32 (fun hr => ?_)
    exact r_vret C dX2_drownIfDisturbed_35 (by (unfold s2dr; first | rw [if_pos (by omega)] | rw [if_neg (by omega)]))
  · skip
    refine r_aload_n C (k := 0) dX2_drownIfDisturbed_8 rfl ?_
    refine r_callV C [] 0 (c_X2_isDrumming hG ht hv) gX2_drownIfDisturbed_X2_isDrumming rfl rfl rfl (by decide +kernel) (Nat.le_of_ble_eq_true rfl) (Nat.le_of_ble_eq_true rfl) ⟨(Nat.zero_le _), (Nat.zero_le _)⟩ (ok_of hG (kdv0 ht hv) (by decide) (Nat.le_trans ht (by decide))) (kdv0 ht hv) (by decide) rfl rfl rfl (by decide) (st' := [vI (bI (¬ w (t, v, 0) 6 = -1))]) rfl dX2_drownIfDisturbed_9 (fun hr => ?_)
    refine r_if_neP C (P := ¬ w (t, v, 0) 6 = -1) (tgt := 27) dX2_drownIfDisturbed_12 (by decide) (fun h_2 => ?_) (fun h_2 => ?_)
    · skip
      refine r_aload_n C (k := 0) dX2_drownIfDisturbed_27 rfl ?_
      refine r_getf C 11 (v := .ref (adr G (t, v, 3))) (ok_of hG (kdv0 ht hv) (by decide) (Nat.le_trans ht (by decide))) (kdv0 ht hv) (by decide) rfl hinX2 (by decide) (by decide +kernel) rfl rfl dX2_drownIfDisturbed_28 ?_
      refine r_iload_n C (k := 1) dX2_drownIfDisturbed_31 rfl ?_
      refine r_callV C [vI (b)] 1 (c_X1_drown hG ht hv (by first | assumption | omega | exact hr _ _ | exact hr0 _ _ | exact ⟨by omega, by omega⟩ | exact bI_inR _) (by first | assumption | omega | exact hr _ _ | exact hr0 _ _ | exact ⟨by omega, by omega⟩ | exact bI_inR _)) gX2_drownIfDisturbed_X1_drown rfl rfl rfl (by decide +kernel) (Nat.le_of_ble_eq_true rfl) (Nat.le_of_ble_eq_true rfl) ⟨(Nat.zero_le _), (Nat.zero_le _)⟩ (ok_of hG (kdv3 ht hv) (by decide) (Nat.le_trans ht (by decide))) (kdv3 ht hv) (by decide) rfl rfl rfl (by decide) (st' := []) rfl dX2_drownIfDisturbed_32 (fun hr => ?_)
      exact r_vret C dX2_drownIfDisturbed_35 (by (unfold s2dr; first | rw [if_pos (by omega)] | rw [if_neg (by omega)]))
    · skip
      refine r_aload_n C (k := 0) dX2_drownIfDisturbed_15 rfl ?_
      refine r_getf C 11 (v := .ref (adr G (t, v, 3))) (ok_of hG (kdv0 ht hv) (by decide) (Nat.le_trans ht (by decide))) (kdv0 ht hv) (by decide) rfl hinX2 (by decide) (by decide +kernel) rfl rfl dX2_drownIfDisturbed_16 ?_
      refine r_iload_n C (k := 1) dX2_drownIfDisturbed_19 rfl ?_
      refine r_callV C [vI (b)] 1 (c_X1_lasting hG ht hv (by first | assumption | omega | exact hr _ _ | exact hr0 _ _ | exact ⟨by omega, by omega⟩ | exact bI_inR _) (by first | assumption | omega | exact hr _ _ | exact hr0 _ _ | exact ⟨by omega, by omega⟩ | exact bI_inR _)) gX2_drownIfDisturbed_X1_lasting rfl rfl rfl (by decide +kernel) (Nat.le_of_ble_eq_true rfl) (Nat.le_of_ble_eq_true rfl) ⟨(Nat.zero_le _), (Nat.zero_le _)⟩ (ok_of hG (kdv3 ht hv) (by decide) (Nat.le_trans ht (by decide))) (kdv3 ht hv) (by decide) rfl rfl rfl (by decide) (st' := [vI ((((s1last w t v (b) (w (t, v, 3) 4).toNat : Nat) : Int)))]) rfl dX2_drownIfDisturbed_20 (fun hr => ?_)
      refine r_iconst C dX2_drownIfDisturbed_23 ?_
      refine r_icmp_lt C (tgt := 35) dX2_drownIfDisturbed_24 (by decide) (by first | exact hr _ _ | exact hr0 _ _ | assumption | exact ⟨by omega, by omega⟩) ⟨by decide, by decide⟩ (fun h_3 => ?_) (fun h_3 => ?_)
      · skip
        exact r_vret C dX2_drownIfDisturbed_35 (by (unfold s2dr; first | rw [if_pos (by omega)] | rw [if_neg (by omega)]))
      · skip
        refine r_aload_n C (k := 0) dX2_drownIfDisturbed_27 rfl ?_
        refine r_getf C 11 (v := .ref (adr G (t, v, 3))) (ok_of hG (kdv0 ht hv) (by decide) (Nat.le_trans ht (by decide))) (kdv0 ht hv) (by decide) rfl hinX2 (by decide) (by decide +kernel) rfl rfl dX2_drownIfDisturbed_28 ?_
        refine r_iload_n C (k := 1) dX2_drownIfDisturbed_31 rfl ?_
        refine r_callV C [vI (b)] 1 (c_X1_drown hG ht hv (by first | assumption | omega | exact hr _ _ | exact hr0 _ _ | exact ⟨by omega, by omega⟩ | exact bI_inR _) (by first | assumption | omega | exact hr _ _ | exact hr0 _ _ | exact ⟨by omega, by omega⟩ | exact bI_inR _)) gX2_drownIfDisturbed_X1_drown rfl rfl rfl (by decide +kernel) (Nat.le_of_ble_eq_true rfl) (Nat.le_of_ble_eq_true rfl) ⟨(Nat.zero_le _), (Nat.zero_le _)⟩ (ok_of hG (kdv3 ht hv) (by decide) (Nat.le_trans ht (by decide))) (kdv3 ht hv) (by decide) rfl rfl rfl (by decide) (st' := []) rfl dX2_drownIfDisturbed_32 (fun hr => ?_)
        exact r_vret C dX2_drownIfDisturbed_35 (by (unfold s2dr; first | rw [if_pos (by omega)] | rw [if_neg (by omega)]))

set_option maxRecDepth 100000 in
set_option maxHeartbeats 8000000 in
theorem c_X2_endDrumBeat {l : Launch} {G : Gt} (hG : Gok G) {t : Nat} {v : Nat} (ht : t ≤ 1) (hv : v ≤ 7) {w : Mm} (hl : 0 ≤ w (t, v, 0) 7) : Con l G yX2_endDrumBeat wsX2_endDrumBeat ({ frames := 1, cells := 0, slots := 0, locals := 20 } : Room) w [.ref (adr G (t, v, 0))] none (s2edb w t v) 0 0 := by
  refine Con.head (cc := cX2_endDrumBeat) (nL := 1) (ret := none) hG (by decide +kernel) rfl (Nat.le_of_ble_eq_true rfl) ?_
  intro B A hBl C hr
  have hr0 := hr
  have hinX2 : ∀ w ∈ u_ws RX2 TX2 13, w ∈ wsX2_endDrumBeat := by decide +kernel
  have hr7 := hr (t, v, 0) 7
  unfold inR at hr7
  refine r_aload_n C (k := 0) dX2_endDrumBeat_0 rfl ?_
  refine r_callV C [] 0 (c_X2_isDrumming hG ht hv) gX2_endDrumBeat_X2_isDrumming rfl rfl rfl (by decide +kernel) (Nat.le_of_ble_eq_true rfl) (Nat.le_of_ble_eq_true rfl) ⟨(Nat.zero_le _), (Nat.zero_le _)⟩ (ok_of hG (kdv0 ht hv) (by decide) (Nat.le_trans ht (by decide))) (kdv0 ht hv) (by decide) rfl rfl rfl (by decide) (st' := [vI (bI (¬ w (t, v, 0) 6 = -1))]) rfl dX2_endDrumBeat_1 (fun hr => ?_)
  refine r_if_neP C (P := ¬ w (t, v, 0) 6 = -1) (tgt := 8) dX2_endDrumBeat_4 (by decide) (fun h_1 => ?_) (fun h_1 => ?_)
  · skip
    refine r_aload_n C (k := 0) dX2_endDrumBeat_8 rfl ?_
    refine r_dup C dX2_endDrumBeat_9 rfl ?_
    refine r_getf C 7 (ok_of hG (kdv0 ht hv) (by decide) (Nat.le_trans ht (by decide))) (kdv0 ht hv) (by decide) rfl hinX2 (by decide) (by decide +kernel) rfl rfl dX2_endDrumBeat_10 ?_
    refine r_iconst C dX2_endDrumBeat_13 ?_
    refine r_isub C dX2_endDrumBeat_14 ?_
    refine r_putf C 7 hr (by first | exact hr _ _ | exact hr0 _ _ | assumption | exact ⟨by omega, by omega⟩) (ok_of hG (kdv0 ht hv) (by decide) (Nat.le_trans ht (by decide))) (kdv0 ht hv) (by decide) rfl hinX2 tyX2_ok nmX2 (by decide) (by decide +kernel) rfl rfl (ty := .int) (by decide +kernel) rfl rfl rfl (Nat.le_of_ble_eq_true rfl) dX2_endDrumBeat_15 (fun hr => ?_)
    refine r_aload_n C (k := 0) dX2_endDrumBeat_18 rfl ?_
    refine r_getf C 7 (ok_of hG (kdv0 ht hv) (by decide) (Nat.le_trans ht (by decide))) (kdv0 ht hv) (by decide) rfl hinX2 (by decide) (by decide +kernel) rfl rfl dX2_endDrumBeat_19 ?_
    refine Wm.top (z' := (w (t, v, 0) (7) - 1)) (by simp [st1, cpy]) ?_
    refine r_if_ne C (tgt := 30) dX2_endDrumBeat_22 (by decide) (by first | exact hr _ _ | exact hr0 _ _ | assumption | exact ⟨by omega, by omega⟩) (fun h_2 => ?_) (fun h_2 => ?_)
    · skip
      exact r_vret C dX2_endDrumBeat_30 (by (unfold s2edb; (repeat' split) <;> first | rfl | (exfalso; omega)))
    · skip
      refine r_aload_n C (k := 0) dX2_endDrumBeat_25 rfl ?_
      refine r_iconst C dX2_endDrumBeat_26 ?_
      refine r_putf C 6 hr ⟨by decide, by decide⟩ (ok_of hG (kdv0 ht hv) (by decide) (Nat.le_trans ht (by decide))) (kdv0 ht hv) (by decide) rfl hinX2 tyX2_ok nmX2 (by decide) (by decide +kernel) rfl rfl (ty := .int) (by decide +kernel) rfl rfl rfl (Nat.le_of_ble_eq_true rfl) dX2_endDrumBeat_27 (fun hr => ?_)
      exact r_vret C dX2_endDrumBeat_30 (by (unfold s2edb; (repeat' split) <;> first | rfl | (exfalso; omega)))
  · skip
    exact r_vret C dX2_endDrumBeat_7 (by (unfold s2edb; (repeat' split) <;> first | rfl | (exfalso; omega)))

set_option maxRecDepth 100000 in
set_option maxHeartbeats 8000000 in
theorem c_X2_figure {l : Launch} {G : Gt} (hG : Gok G) {t : Nat} {v : Nat} (ht : t ≤ 1) (hv : v ≤ 7) {w : Mm} {a : Int} {b : Int} (ha : 0 ≤ a ∧ a ≤ 9) (hb : inR (b - w (t, v, 0) 4)) (hc : w (t, v, 0) 3 = 0 ∨ w (t, v, 0) 3 = 1) : Con l G yX2_figure wsX2_figure ({ frames := 2, cells := 0, slots := 0, locals := 43 } : Room) w [.ref (adr G (t, v, 0)), vI a, vI b] (some (vI (s2fig w t v b (a).toNat))) w 0 0 := by
  refine Con.head (cc := cX2_figure) (nL := 3) (ret := (some .int)) hG (by decide +kernel) rfl (Nat.le_of_ble_eq_true rfl) ?_
  intro B A hBl C hr
  have hr0 := hr
  have hinX2 : ∀ w ∈ u_ws RX2 TX2 13, w ∈ wsX2_figure := by decide +kernel
  refine r_iload_n C (k := 1) dX2_figure_0 rfl ?_
  rcases (show a = 0 ∨ a = 1 ∨ a = 2 ∨ a = 3 ∨ a = 4 ∨ a = 5 ∨ a = 6 ∨ a = 7 ∨ a = 8 ∨ a = 9 by omega) with rfl | rfl | rfl | rfl | rfl | rfl | rfl | rfl | rfl | rfl
  · refine r_tsIn C (tgt := 52) dX2_figure_1 ⟨by decide, by decide⟩ (by decide) (by decide) rfl (by decide) ?_
    refine r_aload_n C (k := 0) dX2_figure_52 rfl ?_
    refine r_getf C 0 (ok_of hG (kdv0 ht hv) (by decide) (Nat.le_trans ht (by decide))) (kdv0 ht hv) (by decide) rfl hinX2 (by decide) (by decide +kernel) rfl rfl dX2_figure_53 ?_
    exact r_iret C dX2_figure_56 (by first | rfl | exact congrArg (fun z => some (vI z)) (bI_t (by assumption)).symm | exact congrArg (fun z => some (vI z)) (bI_f (by assumption)).symm | exact congrArg (fun z => some (vI z)) (show _ = w (t, v, 0) 3 by omega)) (by first | rfl | (simp [*]; done))
  · refine r_tsIn C (tgt := 57) dX2_figure_1 ⟨by decide, by decide⟩ (by decide) (by decide) rfl (by decide) ?_
    refine r_aload_n C (k := 0) dX2_figure_57 rfl ?_
    refine r_getf C 1 (ok_of hG (kdv0 ht hv) (by decide) (Nat.le_trans ht (by decide))) (kdv0 ht hv) (by decide) rfl hinX2 (by decide) (by decide +kernel) rfl rfl dX2_figure_58 ?_
    exact r_iret C dX2_figure_61 (by first | rfl | exact congrArg (fun z => some (vI z)) (bI_t (by assumption)).symm | exact congrArg (fun z => some (vI z)) (bI_f (by assumption)).symm | exact congrArg (fun z => some (vI z)) (show _ = w (t, v, 0) 3 by omega)) (by first | rfl | (simp [*]; done))
  · refine r_tsIn C (tgt := 62) dX2_figure_1 ⟨by decide, by decide⟩ (by decide) (by decide) rfl (by decide) ?_
    refine r_aload_n C (k := 0) dX2_figure_62 rfl ?_
    refine r_getf C 2 (ok_of hG (kdv0 ht hv) (by decide) (Nat.le_trans ht (by decide))) (kdv0 ht hv) (by decide) rfl hinX2 (by decide) (by decide +kernel) rfl rfl dX2_figure_63 ?_
    exact r_iret C dX2_figure_66 (by first | rfl | exact congrArg (fun z => some (vI z)) (bI_t (by assumption)).symm | exact congrArg (fun z => some (vI z)) (bI_f (by assumption)).symm | exact congrArg (fun z => some (vI z)) (show _ = w (t, v, 0) 3 by omega)) (by first | rfl | (simp [*]; done))
  · refine r_tsIn C (tgt := 67) dX2_figure_1 ⟨by decide, by decide⟩ (by decide) (by decide) rfl (by decide) ?_
    refine r_aload_n C (k := 0) dX2_figure_67 rfl ?_
    refine r_getf C 3 (ok_of hG (kdv0 ht hv) (by decide) (Nat.le_trans ht (by decide))) (kdv0 ht hv) (by decide) rfl hinX2 (by decide) (by decide +kernel) rfl rfl dX2_figure_68 ?_
    refine r_if_eq C (tgt := 78) dX2_figure_71 (by decide) (by first | exact hr _ _ | exact hr0 _ _ | assumption | exact ⟨by omega, by omega⟩) (fun h_1 => ?_) (fun h_1 => ?_)
    · skip
      refine r_iconst C dX2_figure_78 ?_
      exact r_iret C dX2_figure_79 (by first | rfl | exact congrArg (fun z => some (vI z)) (bI_t (by assumption)).symm | exact congrArg (fun z => some (vI z)) (bI_f (by assumption)).symm | exact congrArg (fun z => some (vI z)) (show _ = w (t, v, 0) 3 by omega)) (by first | rfl | (simp [*]; done))
    · skip
      refine r_iconst C dX2_figure_74 ?_
      refine r_goto C (tgt := 79) dX2_figure_75 (by decide) ?_
      exact r_iret C dX2_figure_79 (by first | rfl | exact congrArg (fun z => some (vI z)) (bI_t (by assumption)).symm | exact congrArg (fun z => some (vI z)) (bI_f (by assumption)).symm | exact congrArg (fun z => some (vI z)) (show _ = w (t, v, 0) 3 by omega)) (by first | rfl | (simp [*]; done))
  · refine r_tsIn C (tgt := 80) dX2_figure_1 ⟨by decide, by decide⟩ (by decide) (by decide) rfl (by decide) ?_
    refine r_aload_n C (k := 0) dX2_figure_80 rfl ?_
    refine r_iload_n C (k := 2) dX2_figure_81 rfl ?_
    refine r_callV C [vI (b)] 1 (c_X2_isAwake hG ht hv (by first | assumption | omega | exact hr _ _ | exact hr0 _ _ | exact ⟨by omega, by omega⟩ | exact bI_inR _)) gX2_figure_X2_isAwake rfl rfl rfl (by decide +kernel) (Nat.le_of_ble_eq_true rfl) (Nat.le_of_ble_eq_true rfl) ⟨(Nat.zero_le _), (Nat.zero_le _)⟩ (ok_of hG (kdv0 ht hv) (by decide) (Nat.le_trans ht (by decide))) (kdv0 ht hv) (by decide) rfl rfl rfl (by decide) (st' := [vI (bI (awk w t v (b)))]) rfl dX2_figure_82 (fun hr => ?_)
    refine r_if_eqP C (P := awk w t v (b)) (tgt := 92) dX2_figure_85 (by decide) (fun h_2 => ?_) (fun h_2 => ?_)
    · skip
      refine r_iconst C dX2_figure_92 ?_
      exact r_iret C dX2_figure_93 (by first | rfl | exact congrArg (fun z => some (vI z)) (bI_t (by assumption)).symm | exact congrArg (fun z => some (vI z)) (bI_f (by assumption)).symm | exact congrArg (fun z => some (vI z)) (show _ = w (t, v, 0) 3 by omega)) (by first | rfl | (simp [*]; done))
    · skip
      refine r_iconst C dX2_figure_88 ?_
      refine r_goto C (tgt := 93) dX2_figure_89 (by decide) ?_
      exact r_iret C dX2_figure_93 (by first | rfl | exact congrArg (fun z => some (vI z)) (bI_t (by assumption)).symm | exact congrArg (fun z => some (vI z)) (bI_f (by assumption)).symm | exact congrArg (fun z => some (vI z)) (show _ = w (t, v, 0) 3 by omega)) (by first | rfl | (simp [*]; done))
  · refine r_tsIn C (tgt := 94) dX2_figure_1 ⟨by decide, by decide⟩ (by decide) (by decide) rfl (by decide) ?_
    refine r_aload_n C (k := 0) dX2_figure_94 rfl ?_
    refine r_getf C 6 (ok_of hG (kdv0 ht hv) (by decide) (Nat.le_trans ht (by decide))) (kdv0 ht hv) (by decide) rfl hinX2 (by decide) (by decide +kernel) rfl rfl dX2_figure_95 ?_
    exact r_iret C dX2_figure_98 (by first | rfl | exact congrArg (fun z => some (vI z)) (bI_t (by assumption)).symm | exact congrArg (fun z => some (vI z)) (bI_f (by assumption)).symm | exact congrArg (fun z => some (vI z)) (show _ = w (t, v, 0) 3 by omega)) (by first | rfl | (simp [*]; done))
  · refine r_tsIn C (tgt := 99) dX2_figure_1 ⟨by decide, by decide⟩ (by decide) (by decide) rfl (by decide) ?_
    refine r_aload_n C (k := 0) dX2_figure_99 rfl ?_
    refine r_getf C 7 (ok_of hG (kdv0 ht hv) (by decide) (Nat.le_trans ht (by decide))) (kdv0 ht hv) (by decide) rfl hinX2 (by decide) (by decide +kernel) rfl rfl dX2_figure_100 ?_
    exact r_iret C dX2_figure_103 (by first | rfl | exact congrArg (fun z => some (vI z)) (bI_t (by assumption)).symm | exact congrArg (fun z => some (vI z)) (bI_f (by assumption)).symm | exact congrArg (fun z => some (vI z)) (show _ = w (t, v, 0) 3 by omega)) (by first | rfl | (simp [*]; done))
  · refine r_tsIn C (tgt := 104) dX2_figure_1 ⟨by decide, by decide⟩ (by decide) (by decide) rfl (by decide) ?_
    refine r_aload_n C (k := 0) dX2_figure_104 rfl ?_
    refine r_getf C 9 (ok_of hG (kdv0 ht hv) (by decide) (Nat.le_trans ht (by decide))) (kdv0 ht hv) (by decide) rfl hinX2 (by decide) (by decide +kernel) rfl rfl dX2_figure_105 ?_
    exact r_iret C dX2_figure_108 (by first | rfl | exact congrArg (fun z => some (vI z)) (bI_t (by assumption)).symm | exact congrArg (fun z => some (vI z)) (bI_f (by assumption)).symm | exact congrArg (fun z => some (vI z)) (show _ = w (t, v, 0) 3 by omega)) (by first | rfl | (simp [*]; done))
  · refine r_tsIn C (tgt := 109) dX2_figure_1 ⟨by decide, by decide⟩ (by decide) (by decide) rfl (by decide) ?_
    refine r_aload_n C (k := 0) dX2_figure_109 rfl ?_
    refine r_callV C [] 0 (c_X2_phrasesKnown hG ht hv) gX2_figure_X2_phrasesKnown rfl rfl rfl (by decide +kernel) (Nat.le_of_ble_eq_true rfl) (Nat.le_of_ble_eq_true rfl) ⟨(Nat.zero_le _), (Nat.zero_le _)⟩ (ok_of hG (kdv0 ht hv) (by decide) (Nat.le_trans ht (by decide))) (kdv0 ht hv) (by decide) rfl rfl rfl (by decide) (st' := [vI ((((s2kn w t v 12 : Nat) : Int)))]) rfl dX2_figure_110 (fun hr => ?_)
    exact r_iret C dX2_figure_113 (by first | rfl | exact congrArg (fun z => some (vI z)) (bI_t (by assumption)).symm | exact congrArg (fun z => some (vI z)) (bI_f (by assumption)).symm | exact congrArg (fun z => some (vI z)) (show _ = w (t, v, 0) 3 by omega)) (by first | rfl | (simp [*]; done))
  · refine r_tsOut C (tgt := 114) dX2_figure_1 ⟨by decide, by decide⟩ (by decide) (by decide) ?_
    refine r_aload_n C (k := 0) dX2_figure_114 rfl ?_
    refine r_getf C 12 (ok_of hG (kdv0 ht hv) (by decide) (Nat.le_trans ht (by decide))) (kdv0 ht hv) (by decide) rfl hinX2 (by decide) (by decide +kernel) rfl rfl dX2_figure_115 ?_
    exact r_iret C dX2_figure_118 (by first | rfl | exact congrArg (fun z => some (vI z)) (bI_t (by assumption)).symm | exact congrArg (fun z => some (vI z)) (bI_f (by assumption)).symm | exact congrArg (fun z => some (vI z)) (show _ = w (t, v, 0) 3 by omega)) (by first | rfl | (simp [*]; done))

set_option maxRecDepth 100000 in
set_option maxHeartbeats 8000000 in
theorem c_X2_endSounds {l : Launch} {G : Gt} (hG : Gok G) {t : Nat} {v : Nat} (ht : t ≤ 1) (hv : v ≤ 7) {w : Mm} {b : Int} (hz : 0 ≤ w (t, v, 3) 4 ∧ w (t, v, 3) 4 ≤ 112) (hq : 0 ≤ w (t, v, 0) 9 ∧ w (t, v, 0) 9 ≤ 5) (hd : 0 ≤ w (t, v, 0) 12 ∧ w (t, v, 0) 12 ≤ 2000000000) (hb : inR b) : Con l G yX2_endSounds wsX2_endSounds ({ frames := 1, cells := 0, slots := 0, locals := 22 } : Room) w [.ref (adr G (t, v, 0)), vI b] (some (vI ((((s2endL w t v b (w (t, v, 3) 4).toNat).2.1 : Nat) : Int)))) (s2end w t v b) 0 0 := by
  refine Con.head (cc := cX2_endSounds) (nL := 5) (ret := (some .int)) hG (by decide +kernel) rfl (Nat.le_of_ble_eq_true rfl) ?_
  intro B A hBl C hr
  have hr0 := hr
  have hinX1 : ∀ w ∈ u_ws RX1 TX1 5, w ∈ wsX2_endSounds := by decide +kernel
  have hinX2 : ∀ w ∈ u_ws RX2 TX2 13, w ∈ wsX2_endSounds := by decide +kernel
  obtain ⟨hz1, hz2⟩ := hz
  obtain ⟨hd1, hd2⟩ := hd
  refine r_iconst C dX2_endSounds_0 ?_
  refine r_istore_n C (i := 2) (lv' := [(2, vI (0)), (0, .ref (adr G (t, v, 0))), (1, vI (b))]) dX2_endSounds_1 rfl (by decide) rfl ?_
  refine r_iconst C dX2_endSounds_2 ?_
  refine r_istore_n C (i := 3) (lv' := [(3, vI (0)), (2, vI (0)), (0, .ref (adr G (t, v, 0))), (1, vI (b))]) dX2_endSounds_3 rfl (by decide) rfl ?_
  refine r_iconst C dX2_endSounds_4 ?_
  refine r_istore C (i := 4) (lv' := [(4, vI (0)), (3, vI (0)), (2, vI (0)), (0, .ref (adr G (t, v, 0))), (1, vI (b))]) dX2_endSounds_5 (by decide) rfl ?_
  have loop_7 : ∀ (n : Nat) (i : Nat), (i ≤ (w (t, v, 3) 4).toNat) → (w (t, v, 3) 4).toNat - i < n → rng ((s2endL w t v b i).1) → Wm B 5 G A (Qe B G A (some (vI ((((s2endL w t v b (w (t, v, 3) 4).toNat).2.1 : Nat) : Int)))) (s2end w t v b) 0 0) ((s2endL w t v b i).1) 0 0 7 [(0, .ref (adr G (t, v, 0))), (1, vI (b)), (2, vI ((((s2endL w t v b i).2.1 : Nat) : Int))), (3, vI ((((s2endL w t v b i).2.2 : Nat) : Int))), (4, vI (((i : Nat) : Int)))] [] := by
    intro n
    induction n with
    | zero => intro i hi hm; exact absurd hm (Nat.not_lt_zero _)
    | succ n ih =>
      intro i hi hm hr
      obtain ⟨f1, f2, f3, f4, f5, f6⟩ := s2endL_facts w t v b hq i
      obtain ⟨f41, f42⟩ := f4
      refine r_iload C (k := 4) dX2_endSounds_7 rfl ?_
      refine r_aload_n C (k := 0) dX2_endSounds_9 rfl ?_
      refine r_getf C 11 (v := .ref (adr G (t, v, 3))) (ok_of hG (kdv0 ht hv) (by decide) (Nat.le_trans ht (by decide))) (kdv0 ht hv) (by decide) rfl hinX2 (by decide) (by decide +kernel) rfl rfl dX2_endSounds_10 ?_
      refine r_getf C 4 (ok_of hG (kdv3 ht hv) (by decide) (Nat.le_trans ht (by decide))) (kdv3 ht hv) (by decide) rfl hinX1 (by decide) (by decide +kernel) rfl rfl dX2_endSounds_13 ?_
      refine r_icmp_ge C (tgt := 116) dX2_endSounds_16 (by decide) (by first | exact hr _ _ | exact hr0 _ _ | assumption | exact ⟨by omega, by omega⟩) (by first | exact hr _ _ | exact hr0 _ _ | assumption | exact ⟨by omega, by omega⟩) (fun h_1 => ?_) (fun h_1 => ?_)
      · skip
        refine r_aload_n C (k := 0) dX2_endSounds_116 rfl ?_
        refine r_getf C 11 (v := .ref (adr G (t, v, 3))) (ok_of hG (kdv0 ht hv) (by decide) (Nat.le_trans ht (by decide))) (kdv0 ht hv) (by decide) rfl hinX2 (by decide) (by decide +kernel) rfl rfl dX2_endSounds_117 ?_
        refine r_iload_n C (k := 3) dX2_endSounds_120 rfl ?_
        refine r_putf C 4 hr (by first | exact hr _ _ | exact hr0 _ _ | assumption | exact ⟨by omega, by omega⟩) (ok_of hG (kdv3 ht hv) (by decide) (Nat.le_trans ht (by decide))) (kdv3 ht hv) (by decide) rfl hinX1 tyX1_ok nmX1 (by decide) (by decide +kernel) rfl rfl (ty := .int) (by decide +kernel) rfl rfl rfl (Nat.le_of_ble_eq_true rfl) dX2_endSounds_121 (fun hr => ?_)
        refine r_iload_n C (k := 2) dX2_endSounds_124 rfl ?_
        exact r_iret C dX2_endSounds_125 (by (obtain rfl : i = (w (t, v, 3) 4).toNat := (by omega)); rfl) (by (obtain rfl : i = (w (t, v, 3) 4).toNat := (by omega)); rfl)
      · skip
        refine r_aload_n C (k := 0) dX2_endSounds_19 rfl ?_
        refine r_getf C 11 (v := .ref (adr G (t, v, 3))) (ok_of hG (kdv0 ht hv) (by decide) (Nat.le_trans ht (by decide))) (kdv0 ht hv) (by decide) rfl hinX2 (by decide) (by decide +kernel) rfl rfl dX2_endSounds_20 ?_
        refine r_getf C 2 (v := .ref (adr G (t, v, 6))) (ok_of hG (kdv3 ht hv) (by decide) (Nat.le_trans ht (by decide))) (kdv3 ht hv) (by decide) rfl hinX1 (by decide) (by decide +kernel) rfl rfl dX2_endSounds_23 ?_
        refine r_iload C (k := 4) dX2_endSounds_26 rfl ?_
        refine r_iald C (i) (ok_of hG (kdv6 ht hv) (by decide) (Nat.le_trans ht (by decide))) (kdv6 ht hv) rfl (by first | omega | assumption) (by decide) dX2_endSounds_28 ?_
        refine r_iload_n C (k := 1) dX2_endSounds_29 rfl ?_
        refine r_icmp_eq C (tgt := 49) dX2_endSounds_30 (by decide) (by first | exact hr _ _ | exact hr0 _ _ | assumption | exact ⟨by omega, by omega⟩) (by first | exact hr _ _ | exact hr0 _ _ | assumption | exact ⟨by omega, by omega⟩) (fun h_2 => ?_) (fun h_2 => ?_)
        · skip
          refine r_aload_n C (k := 0) dX2_endSounds_49 rfl ?_
          refine r_getf C 11 (v := .ref (adr G (t, v, 3))) (ok_of hG (kdv0 ht hv) (by decide) (Nat.le_trans ht (by decide))) (kdv0 ht hv) (by decide) rfl hinX2 (by decide) (by decide +kernel) rfl rfl dX2_endSounds_50 ?_
          refine r_getf C 3 (v := .ref (adr G (t, v, 7))) (ok_of hG (kdv3 ht hv) (by decide) (Nat.le_trans ht (by decide))) (kdv3 ht hv) (by decide) rfl hinX1 (by decide) (by decide +kernel) rfl rfl dX2_endSounds_53 ?_
          refine r_iload C (k := 4) dX2_endSounds_56 rfl ?_
          refine r_iald C (i) (ok_of hG (kdv7 ht hv) (by decide) (Nat.le_trans ht (by decide))) (kdv7 ht hv) rfl (by first | omega | assumption) (by decide) dX2_endSounds_58 ?_
          refine r_if_eq C (tgt := 75) dX2_endSounds_59 (by decide) (by first | exact hr _ _ | exact hr0 _ _ | assumption | exact ⟨by omega, by omega⟩) (fun h_3 => ?_) (fun h_3 => ?_)
          · skip
            refine r_aload_n C (k := 0) dX2_endSounds_75 rfl ?_
            refine r_aload_n C (k := 0) dX2_endSounds_76 rfl ?_
            refine r_getf C 11 (v := .ref (adr G (t, v, 3))) (ok_of hG (kdv0 ht hv) (by decide) (Nat.le_trans ht (by decide))) (kdv0 ht hv) (by decide) rfl hinX2 (by decide) (by decide +kernel) rfl rfl dX2_endSounds_77 ?_
            refine r_getf C 0 (v := .ref (adr G (t, v, 4))) (ok_of hG (kdv3 ht hv) (by decide) (Nat.le_trans ht (by decide))) (kdv3 ht hv) (by decide) rfl hinX1 (by decide) (by decide +kernel) rfl rfl dX2_endSounds_80 ?_
            refine r_iload C (k := 4) dX2_endSounds_83 rfl ?_
            refine r_iald C (i) (ok_of hG (kdv4 ht hv) (by decide) (Nat.le_trans ht (by decide))) (kdv4 ht hv) rfl (by first | omega | assumption) (by decide) dX2_endSounds_85 ?_
            refine r_callV C [vI (((s2endL w t v b i).1) (t, v, 4) (i))] 1 (c_X2_isKnown hG ht hv (by first | assumption | omega | exact hr _ _ | exact hr0 _ _ | exact ⟨by omega, by omega⟩ | exact bI_inR _)) gX2_endSounds_X2_isKnown rfl rfl rfl (by decide +kernel) (Nat.le_of_ble_eq_true rfl) (Nat.le_of_ble_eq_true rfl) ⟨(Nat.zero_le _), (Nat.zero_le _)⟩ (ok_of hG (kdv0 ht hv) (by decide) (Nat.le_trans ht (by decide))) (kdv0 ht hv) (by decide) rfl rfl rfl (by decide) (st' := [vI (bI (kno ((s2endL w t v b i).1) t v (((s2endL w t v b i).1) (t, v, 4) (i))))]) rfl dX2_endSounds_86 (fun hr => ?_)
            refine r_if_neP C (P := kno ((s2endL w t v b i).1) t v (((s2endL w t v b i).1) (t, v, 4) (i))) (tgt := 110) dX2_endSounds_89 (by decide) (fun h_4 => ?_) (fun h_4 => ?_)
            · skip
              refine r_iinc C (k := 4) (lv' := [(4, vI (((i + 1 : Nat) : Int))), (0, .ref (adr G (t, v, 0))), (1, vI (b)), (2, vI ((((s2endL w t v b i).2.1 : Nat) : Int))), (3, vI ((((s2endL w t v b i).2.2 : Nat) : Int)))]) dX2_endSounds_110 rfl (by decide) rfl ?_
              refine r_goto C (tgt := 7) dX2_endSounds_113 (by decide) ?_
              have e_5 : ((s2endL w t v b i).1) = ((s2endL w t v b (i + 1)).1) := by (simp only [s2endL]; (repeat' split) <;> first | rfl | (exfalso; simp_all; done) | (exfalso; omega))
              refine Wm.sub (lv' := [(0, .ref (adr G (t, v, 0))), (1, vI (b)), (2, vI ((((s2endL w t v b i).2.1 : Nat) : Int))), (3, vI ((((s2endL w t v b i).2.2 : Nat) : Int))), (4, vI (((i + 1 : Nat) : Int)))]) [1, 2, 3, 4, 0] rfl ?_
              refine Wm.mem (lv' := [(0, .ref (adr G (t, v, 0))), (1, vI (b)), (2, vI ((((s2endL w t v b (i + 1)).2.1 : Nat) : Int))), (3, vI ((((s2endL w t v b (i + 1)).2.2 : Nat) : Int))), (4, vI ((((i + 1) : Nat) : Int)))]) e_5 (by (simp only [s2endL]; (repeat' split) <;> first | rfl | (exfalso; simp_all; done) | (exfalso; omega))) ?_
              exact ih ((i + 1)) (by omega) (by omega) (e_5 ▸ hr)
            · skip
              refine r_aload_n C (k := 0) dX2_endSounds_92 rfl ?_
              refine r_aload_n C (k := 0) dX2_endSounds_93 rfl ?_
              refine r_getf C 11 (v := .ref (adr G (t, v, 3))) (ok_of hG (kdv0 ht hv) (by decide) (Nat.le_trans ht (by decide))) (kdv0 ht hv) (by decide) rfl hinX2 (by decide) (by decide +kernel) rfl rfl dX2_endSounds_94 ?_
              refine r_getf C 0 (v := .ref (adr G (t, v, 4))) (ok_of hG (kdv3 ht hv) (by decide) (Nat.le_trans ht (by decide))) (kdv3 ht hv) (by decide) rfl hinX1 (by decide) (by decide +kernel) rfl rfl dX2_endSounds_97 ?_
              refine r_iload C (k := 4) dX2_endSounds_100 rfl ?_
              refine r_iald C (i) (ok_of hG (kdv4 ht hv) (by decide) (Nat.le_trans ht (by decide))) (kdv4 ht hv) rfl (by first | omega | assumption) (by decide) dX2_endSounds_102 ?_
              refine r_iload_n C (k := 1) dX2_endSounds_103 rfl ?_
              refine r_callV C [vI (((s2endL w t v b i).1) (t, v, 4) (i)), vI (b)] 2 (c_X2_takeIn hG ht hv (by first | assumption | omega | exact hr _ _ | exact hr0 _ _ | exact ⟨by omega, by omega⟩ | exact bI_inR _) (by first | assumption | omega | exact hr _ _ | exact hr0 _ _ | exact ⟨by omega, by omega⟩ | exact bI_inR _) (by first | assumption | omega | exact hr _ _ | exact hr0 _ _ | exact ⟨by omega, by omega⟩ | exact bI_inR _)) gX2_endSounds_X2_takeIn rfl rfl rfl (by decide +kernel) (Nat.le_of_ble_eq_true rfl) (Nat.le_of_ble_eq_true rfl) ⟨(Nat.zero_le _), (Nat.zero_le _)⟩ (ok_of hG (kdv0 ht hv) (by decide) (Nat.le_trans ht (by decide))) (kdv0 ht hv) (by decide) rfl rfl rfl (by decide) (st' := []) rfl dX2_endSounds_104 (fun hr => ?_)
              refine r_iinc C (k := 2) (lv' := [(2, vI ((((s2endL w t v b i).2.1 + 1 : Nat) : Int))), (0, .ref (adr G (t, v, 0))), (1, vI (b)), (3, vI ((((s2endL w t v b i).2.2 : Nat) : Int))), (4, vI (((i : Nat) : Int)))]) dX2_endSounds_107 rfl (by decide) rfl ?_
              refine r_iinc C (k := 4) (lv' := [(4, vI (((i + 1 : Nat) : Int))), (2, vI ((((s2endL w t v b i).2.1 + 1 : Nat) : Int))), (0, .ref (adr G (t, v, 0))), (1, vI (b)), (3, vI ((((s2endL w t v b i).2.2 : Nat) : Int)))]) dX2_endSounds_110 rfl (by decide) rfl ?_
              refine r_goto C (tgt := 7) dX2_endSounds_113 (by decide) ?_
              have e_6 : (s2take ((s2endL w t v b i).1) t v (((s2endL w t v b i).1) (t, v, 4) (i)) (b)) = ((s2endL w t v b (i + 1)).1) := by (simp only [s2endL]; (repeat' split) <;> first | rfl | (exfalso; simp_all; done) | (exfalso; omega))
              refine Wm.sub (lv' := [(0, .ref (adr G (t, v, 0))), (1, vI (b)), (2, vI ((((s2endL w t v b i).2.1 + 1 : Nat) : Int))), (3, vI ((((s2endL w t v b i).2.2 : Nat) : Int))), (4, vI (((i + 1 : Nat) : Int)))]) [2, 3, 1, 4, 0] rfl ?_
              refine Wm.mem (lv' := [(0, .ref (adr G (t, v, 0))), (1, vI (b)), (2, vI ((((s2endL w t v b (i + 1)).2.1 : Nat) : Int))), (3, vI ((((s2endL w t v b (i + 1)).2.2 : Nat) : Int))), (4, vI ((((i + 1) : Nat) : Int)))]) e_6 (by (simp only [s2endL]; (repeat' split) <;> first | rfl | (exfalso; simp_all; done) | (exfalso; omega))) ?_
              exact ih ((i + 1)) (by omega) (by omega) (e_6 ▸ hr)
          · skip
            refine r_aload_n C (k := 0) dX2_endSounds_62 rfl ?_
            refine r_dup C dX2_endSounds_63 rfl ?_
            refine r_getf C 12 (ok_of hG (kdv0 ht hv) (by decide) (Nat.le_trans ht (by decide))) (kdv0 ht hv) (by decide) rfl hinX2 (by decide) (by decide +kernel) rfl rfl dX2_endSounds_64 ?_
            refine r_iconst C dX2_endSounds_67 ?_
            refine r_iadd C dX2_endSounds_68 ?_
            refine r_putf C 12 hr (by first | exact hr _ _ | exact hr0 _ _ | assumption | exact ⟨by omega, by omega⟩) (ok_of hG (kdv0 ht hv) (by decide) (Nat.le_trans ht (by decide))) (kdv0 ht hv) (by decide) rfl hinX2 tyX2_ok nmX2 (by decide) (by decide +kernel) rfl rfl (ty := .int) (by decide +kernel) rfl rfl rfl (Nat.le_of_ble_eq_true rfl) dX2_endSounds_69 (fun hr => ?_)
            refine r_goto C (tgt := 110) dX2_endSounds_72 (by decide) ?_
            refine r_iinc C (k := 4) (lv' := [(4, vI (((i + 1 : Nat) : Int))), (0, .ref (adr G (t, v, 0))), (1, vI (b)), (2, vI ((((s2endL w t v b i).2.1 : Nat) : Int))), (3, vI ((((s2endL w t v b i).2.2 : Nat) : Int)))]) dX2_endSounds_110 rfl (by decide) rfl ?_
            refine r_goto C (tgt := 7) dX2_endSounds_113 (by decide) ?_
            have e_7 : (st1 ((s2endL w t v b i).1) (t, v, 0) (12) ((((s2endL w t v b i).1) (t, v, 0) (12) + 1))) = ((s2endL w t v b (i + 1)).1) := by (simp only [s2endL]; (repeat' split) <;> first | rfl | (exfalso; simp_all; done) | (exfalso; omega))
            refine Wm.sub (lv' := [(0, .ref (adr G (t, v, 0))), (1, vI (b)), (2, vI ((((s2endL w t v b i).2.1 : Nat) : Int))), (3, vI ((((s2endL w t v b i).2.2 : Nat) : Int))), (4, vI (((i + 1 : Nat) : Int)))]) [1, 2, 3, 4, 0] rfl ?_
            refine Wm.mem (lv' := [(0, .ref (adr G (t, v, 0))), (1, vI (b)), (2, vI ((((s2endL w t v b (i + 1)).2.1 : Nat) : Int))), (3, vI ((((s2endL w t v b (i + 1)).2.2 : Nat) : Int))), (4, vI ((((i + 1) : Nat) : Int)))]) e_7 (by (simp only [s2endL]; (repeat' split) <;> first | rfl | (exfalso; simp_all; done) | (exfalso; omega))) ?_
            exact ih ((i + 1)) (by omega) (by omega) (e_7 ▸ hr)
        · skip
          refine r_aload_n C (k := 0) dX2_endSounds_33 rfl ?_
          refine r_getf C 11 (v := .ref (adr G (t, v, 3))) (ok_of hG (kdv0 ht hv) (by decide) (Nat.le_trans ht (by decide))) (kdv0 ht hv) (by decide) rfl hinX2 (by decide) (by decide +kernel) rfl rfl dX2_endSounds_34 ?_
          refine r_iload C (k := 4) dX2_endSounds_37 rfl ?_
          refine r_iload_n C (k := 3) dX2_endSounds_39 rfl ?_
          refine r_callV C [vI (((i : Nat) : Int)), vI ((((s2endL w t v b i).2.2 : Nat) : Int))] 2 (c_X1_move hG ht hv (by first | assumption | omega | exact hr _ _ | exact hr0 _ _ | exact ⟨by omega, by omega⟩ | exact bI_inR _) (by first | assumption | omega | exact hr _ _ | exact hr0 _ _ | exact ⟨by omega, by omega⟩ | exact bI_inR _) (by first | assumption | omega | exact hr _ _ | exact hr0 _ _ | exact ⟨by omega, by omega⟩ | exact bI_inR _)) gX2_endSounds_X1_move rfl rfl rfl (by decide +kernel) (Nat.le_of_ble_eq_true rfl) (Nat.le_of_ble_eq_true rfl) ⟨(Nat.zero_le _), (Nat.zero_le _)⟩ (ok_of hG (kdv3 ht hv) (by decide) (Nat.le_trans ht (by decide))) (kdv3 ht hv) (by decide) rfl rfl rfl (by decide) (st' := []) rfl dX2_endSounds_40 (fun hr => ?_)
          refine r_iinc C (k := 3) (lv' := [(3, vI ((((s2endL w t v b i).2.2 + 1 : Nat) : Int))), (0, .ref (adr G (t, v, 0))), (1, vI (b)), (2, vI ((((s2endL w t v b i).2.1 : Nat) : Int))), (4, vI (((i : Nat) : Int)))]) dX2_endSounds_43 rfl (by decide) rfl ?_
          refine r_goto C (tgt := 110) dX2_endSounds_46 (by decide) ?_
          refine r_iinc C (k := 4) (lv' := [(4, vI (((i + 1 : Nat) : Int))), (3, vI ((((s2endL w t v b i).2.2 + 1 : Nat) : Int))), (0, .ref (adr G (t, v, 0))), (1, vI (b)), (2, vI ((((s2endL w t v b i).2.1 : Nat) : Int)))]) dX2_endSounds_110 rfl (by decide) rfl ?_
          refine r_goto C (tgt := 7) dX2_endSounds_113 (by decide) ?_
          have e_8 : (s1move ((s2endL w t v b i).1) t v (((i : Nat) : Int)) ((((s2endL w t v b i).2.2 : Nat) : Int))) = ((s2endL w t v b (i + 1)).1) := by (simp only [s2endL]; (repeat' split) <;> first | rfl | (exfalso; simp_all; done) | (exfalso; omega))
          refine Wm.sub (lv' := [(0, .ref (adr G (t, v, 0))), (1, vI (b)), (2, vI ((((s2endL w t v b i).2.1 : Nat) : Int))), (3, vI ((((s2endL w t v b i).2.2 + 1 : Nat) : Int))), (4, vI (((i + 1 : Nat) : Int)))]) [2, 3, 4, 1, 0] rfl ?_
          refine Wm.mem (lv' := [(0, .ref (adr G (t, v, 0))), (1, vI (b)), (2, vI ((((s2endL w t v b (i + 1)).2.1 : Nat) : Int))), (3, vI ((((s2endL w t v b (i + 1)).2.2 : Nat) : Int))), (4, vI ((((i + 1) : Nat) : Int)))]) e_8 (by (simp only [s2endL]; (repeat' split) <;> first | rfl | (exfalso; simp_all; done) | (exfalso; omega))) ?_
          exact ih ((i + 1)) (by omega) (by omega) (e_8 ▸ hr)
  have e_9 : w = ((s2endL w t v b 0).1) := by rfl
  refine Wm.sub (lv' := [(0, .ref (adr G (t, v, 0))), (1, vI (b)), (2, vI (0)), (3, vI (0)), (4, vI (0))]) [3, 4, 2, 1, 0] rfl ?_
  refine Wm.mem (lv' := [(0, .ref (adr G (t, v, 0))), (1, vI (b)), (2, vI ((((s2endL w t v b 0).2.1 : Nat) : Int))), (3, vI ((((s2endL w t v b 0).2.2 : Nat) : Int))), (4, vI (((0 : Nat) : Int)))]) e_9 (by rfl) ?_
  exact loop_7 _ (0) (by omega) (Nat.lt_succ_self _) (e_9 ▸ hr)

set_option maxRecDepth 100000 in
set_option maxHeartbeats 8000000 in
theorem c_X2_copy {l : Launch} {G : Gt} (hG : Gok G) {t : Nat} {v : Nat} {t2 : Nat} {v2 : Nat} (ht : t ≤ 1) (hv : v ≤ 7) (ht2 : t2 ≤ 1) (hv2 : v2 ≤ 7) {w : Mm} (hz : 0 ≤ w (t2, v2, 3) 4 ∧ w (t2, v2, 3) 4 ≤ 112) (hne : t ≠ t2) (hc : w (t2, v2, 0) 3 = 0 ∨ w (t2, v2, 0) 3 = 1) : Con l G yX2_copy wsX2_copy ({ frames := 2, cells := 0, slots := 0, locals := 47 } : Room) w [.ref (adr G (t, v, 0)), .ref (adr G (t2, v2, 0))] none (s2cp w t v t2 v2) 0 0 := by
  refine Con.head (cc := cX2_copy) (nL := 2) (ret := none) hG (by decide +kernel) rfl (Nat.le_of_ble_eq_true rfl) ?_
  intro B A hBl C hr
  have hr0 := hr
  have hinX2 : ∀ w ∈ u_ws RX2 TX2 13, w ∈ wsX2_copy := by decide +kernel
  obtain ⟨hz1, hz2⟩ := hz
  have hne2 : t2 ≠ t := fun q => hne q.symm
  refine r_aload_n C (k := 0) dX2_copy_0 rfl ?_
  refine r_aload_n C (k := 1) dX2_copy_1 rfl ?_
  refine r_getf C 0 (ok_of hG (kdv0 ht2 hv2) (by decide) (Nat.le_trans ht2 (by decide))) (kdv0 ht2 hv2) (by decide) rfl hinX2 (by decide) (by decide +kernel) rfl rfl dX2_copy_2 ?_
  refine r_putf C 0 hr (by first | exact hr _ _ | exact hr0 _ _ | assumption | exact ⟨by omega, by omega⟩) (ok_of hG (kdv0 ht hv) (by decide) (Nat.le_trans ht (by decide))) (kdv0 ht hv) (by decide) rfl hinX2 tyX2_ok nmX2 (by decide) (by decide +kernel) rfl rfl (ty := .int) (by decide +kernel) rfl rfl rfl (Nat.le_of_ble_eq_true rfl) dX2_copy_5 (fun hr => ?_)
  refine r_aload_n C (k := 0) dX2_copy_8 rfl ?_
  refine r_aload_n C (k := 1) dX2_copy_9 rfl ?_
  refine r_getf C 1 (ok_of hG (kdv0 ht2 hv2) (by decide) (Nat.le_trans ht2 (by decide))) (kdv0 ht2 hv2) (by decide) rfl hinX2 (by decide) (by decide +kernel) rfl rfl dX2_copy_10 ?_
  refine Wm.top (z' := w (t2, v2, 0) (1)) (by simp [st1, cpy, hne, hne2]) ?_
  refine r_putf C 1 hr (by first | exact hr _ _ | exact hr0 _ _ | assumption | exact ⟨by omega, by omega⟩) (ok_of hG (kdv0 ht hv) (by decide) (Nat.le_trans ht (by decide))) (kdv0 ht hv) (by decide) rfl hinX2 tyX2_ok nmX2 (by decide) (by decide +kernel) rfl rfl (ty := .int) (by decide +kernel) rfl rfl rfl (Nat.le_of_ble_eq_true rfl) dX2_copy_13 (fun hr => ?_)
  refine r_aload_n C (k := 0) dX2_copy_16 rfl ?_
  refine r_aload_n C (k := 1) dX2_copy_17 rfl ?_
  refine r_getf C 2 (ok_of hG (kdv0 ht2 hv2) (by decide) (Nat.le_trans ht2 (by decide))) (kdv0 ht2 hv2) (by decide) rfl hinX2 (by decide) (by decide +kernel) rfl rfl dX2_copy_18 ?_
  refine Wm.top (z' := w (t2, v2, 0) (2)) (by simp [st1, cpy, hne, hne2]) ?_
  refine r_putf C 2 hr (by first | exact hr _ _ | exact hr0 _ _ | assumption | exact ⟨by omega, by omega⟩) (ok_of hG (kdv0 ht hv) (by decide) (Nat.le_trans ht (by decide))) (kdv0 ht hv) (by decide) rfl hinX2 tyX2_ok nmX2 (by decide) (by decide +kernel) rfl rfl (ty := .int) (by decide +kernel) rfl rfl rfl (Nat.le_of_ble_eq_true rfl) dX2_copy_21 (fun hr => ?_)
  refine r_aload_n C (k := 0) dX2_copy_24 rfl ?_
  refine r_aload_n C (k := 1) dX2_copy_25 rfl ?_
  refine r_getf C 3 (ok_of hG (kdv0 ht2 hv2) (by decide) (Nat.le_trans ht2 (by decide))) (kdv0 ht2 hv2) (by decide) rfl hinX2 (by decide) (by decide +kernel) rfl rfl dX2_copy_26 ?_
  refine Wm.top (z' := w (t2, v2, 0) (3)) (by simp [st1, cpy, hne, hne2]) ?_
  refine r_putf C 3 hr (by first | exact hr _ _ | exact hr0 _ _ | assumption | exact ⟨by omega, by omega⟩) (ok_of hG (kdv0 ht hv) (by decide) (Nat.le_trans ht (by decide))) (kdv0 ht hv) (by decide) rfl hinX2 tyX2_ok nmX2 (by decide) (by decide +kernel) rfl rfl (ty := .boolean) (by decide +kernel) (by rcases hc with h | h <;> rw [h] <;> decide) (by rcases hc with h | h <;> rw [h] <;> decide) rfl (Nat.le_of_ble_eq_true rfl) dX2_copy_29 (fun hr => ?_)
  refine r_aload_n C (k := 0) dX2_copy_32 rfl ?_
  refine r_aload_n C (k := 1) dX2_copy_33 rfl ?_
  refine r_getf C 4 (ok_of hG (kdv0 ht2 hv2) (by decide) (Nat.le_trans ht2 (by decide))) (kdv0 ht2 hv2) (by decide) rfl hinX2 (by decide) (by decide +kernel) rfl rfl dX2_copy_34 ?_
  refine Wm.top (z' := w (t2, v2, 0) (4)) (by simp [st1, cpy, hne, hne2]) ?_
  refine r_putf C 4 hr (by first | exact hr _ _ | exact hr0 _ _ | assumption | exact ⟨by omega, by omega⟩) (ok_of hG (kdv0 ht hv) (by decide) (Nat.le_trans ht (by decide))) (kdv0 ht hv) (by decide) rfl hinX2 tyX2_ok nmX2 (by decide) (by decide +kernel) rfl rfl (ty := .int) (by decide +kernel) rfl rfl rfl (Nat.le_of_ble_eq_true rfl) dX2_copy_37 (fun hr => ?_)
  refine r_aload_n C (k := 0) dX2_copy_40 rfl ?_
  refine r_aload_n C (k := 1) dX2_copy_41 rfl ?_
  refine r_getf C 5 (ok_of hG (kdv0 ht2 hv2) (by decide) (Nat.le_trans ht2 (by decide))) (kdv0 ht2 hv2) (by decide) rfl hinX2 (by decide) (by decide +kernel) rfl rfl dX2_copy_42 ?_
  refine Wm.top (z' := w (t2, v2, 0) (5)) (by simp [st1, cpy, hne, hne2]) ?_
  refine r_putf C 5 hr (by first | exact hr _ _ | exact hr0 _ _ | assumption | exact ⟨by omega, by omega⟩) (ok_of hG (kdv0 ht hv) (by decide) (Nat.le_trans ht (by decide))) (kdv0 ht hv) (by decide) rfl hinX2 tyX2_ok nmX2 (by decide) (by decide +kernel) rfl rfl (ty := .int) (by decide +kernel) rfl rfl rfl (Nat.le_of_ble_eq_true rfl) dX2_copy_45 (fun hr => ?_)
  refine r_aload_n C (k := 0) dX2_copy_48 rfl ?_
  refine r_aload_n C (k := 1) dX2_copy_49 rfl ?_
  refine r_getf C 6 (ok_of hG (kdv0 ht2 hv2) (by decide) (Nat.le_trans ht2 (by decide))) (kdv0 ht2 hv2) (by decide) rfl hinX2 (by decide) (by decide +kernel) rfl rfl dX2_copy_50 ?_
  refine Wm.top (z' := w (t2, v2, 0) (6)) (by simp [st1, cpy, hne, hne2]) ?_
  refine r_putf C 6 hr (by first | exact hr _ _ | exact hr0 _ _ | assumption | exact ⟨by omega, by omega⟩) (ok_of hG (kdv0 ht hv) (by decide) (Nat.le_trans ht (by decide))) (kdv0 ht hv) (by decide) rfl hinX2 tyX2_ok nmX2 (by decide) (by decide +kernel) rfl rfl (ty := .int) (by decide +kernel) rfl rfl rfl (Nat.le_of_ble_eq_true rfl) dX2_copy_53 (fun hr => ?_)
  refine r_aload_n C (k := 0) dX2_copy_56 rfl ?_
  refine r_aload_n C (k := 1) dX2_copy_57 rfl ?_
  refine r_getf C 7 (ok_of hG (kdv0 ht2 hv2) (by decide) (Nat.le_trans ht2 (by decide))) (kdv0 ht2 hv2) (by decide) rfl hinX2 (by decide) (by decide +kernel) rfl rfl dX2_copy_58 ?_
  refine Wm.top (z' := w (t2, v2, 0) (7)) (by simp [st1, cpy, hne, hne2]) ?_
  refine r_putf C 7 hr (by first | exact hr _ _ | exact hr0 _ _ | assumption | exact ⟨by omega, by omega⟩) (ok_of hG (kdv0 ht hv) (by decide) (Nat.le_trans ht (by decide))) (kdv0 ht hv) (by decide) rfl hinX2 tyX2_ok nmX2 (by decide) (by decide +kernel) rfl rfl (ty := .int) (by decide +kernel) rfl rfl rfl (Nat.le_of_ble_eq_true rfl) dX2_copy_61 (fun hr => ?_)
  refine r_aload_n C (k := 1) dX2_copy_64 rfl ?_
  refine r_getf C 8 (v := .ref (adr G (t2, v2, 1))) (ok_of hG (kdv0 ht2 hv2) (by decide) (Nat.le_trans ht2 (by decide))) (kdv0 ht2 hv2) (by decide) rfl hinX2 (by decide) (by decide +kernel) rfl rfl dX2_copy_65 ?_
  refine r_iconst C dX2_copy_68 ?_
  refine r_aload_n C (k := 0) dX2_copy_69 rfl ?_
  refine r_getf C 8 (v := .ref (adr G (t, v, 1))) (ok_of hG (kdv0 ht hv) (by decide) (Nat.le_trans ht (by decide))) (kdv0 ht hv) (by decide) rfl hinX2 (by decide) (by decide +kernel) rfl rfl dX2_copy_70 ?_
  refine r_iconst C dX2_copy_73 ?_
  refine r_iconst C dX2_copy_74 ?_
  refine r_copy C (0) (0) (5) hr (ok_of hG (kdv1 ht2 hv2) (by decide) (Nat.le_trans ht2 (by decide))) (ok_of hG (kdv1 ht hv) (by decide) (Nat.le_trans ht (by decide))) (kdv1 ht2 hv2) (kdv1 ht hv) rfl rfl rfl (by first | omega | assumption) (by first | omega | assumption) (by decide) (by decide) (by decide +kernel) (by decide +kernel) (by decide +kernel) (by decide +kernel) (Nat.le_of_ble_eq_true rfl) (Nat.le_of_ble_eq_true rfl) dX2_copy_75 (fun hr => ?_)
  refine r_aload_n C (k := 0) dX2_copy_78 rfl ?_
  refine r_aload_n C (k := 1) dX2_copy_79 rfl ?_
  refine r_getf C 9 (ok_of hG (kdv0 ht2 hv2) (by decide) (Nat.le_trans ht2 (by decide))) (kdv0 ht2 hv2) (by decide) rfl hinX2 (by decide) (by decide +kernel) rfl rfl dX2_copy_80 ?_
  refine Wm.top (z' := w (t2, v2, 0) (9)) (by simp [st1, cpy, hne, hne2]) ?_
  refine r_putf C 9 hr (by first | exact hr _ _ | exact hr0 _ _ | assumption | exact ⟨by omega, by omega⟩) (ok_of hG (kdv0 ht hv) (by decide) (Nat.le_trans ht (by decide))) (kdv0 ht hv) (by decide) rfl hinX2 tyX2_ok nmX2 (by decide) (by decide +kernel) rfl rfl (ty := .int) (by decide +kernel) rfl rfl rfl (Nat.le_of_ble_eq_true rfl) dX2_copy_83 (fun hr => ?_)
  refine r_aload_n C (k := 1) dX2_copy_86 rfl ?_
  refine r_getf C 10 (v := .ref (adr G (t2, v2, 2))) (ok_of hG (kdv0 ht2 hv2) (by decide) (Nat.le_trans ht2 (by decide))) (kdv0 ht2 hv2) (by decide) rfl hinX2 (by decide) (by decide +kernel) rfl rfl dX2_copy_87 ?_
  refine r_iconst C dX2_copy_90 ?_
  refine r_aload_n C (k := 0) dX2_copy_91 rfl ?_
  refine r_getf C 10 (v := .ref (adr G (t, v, 2))) (ok_of hG (kdv0 ht hv) (by decide) (Nat.le_trans ht (by decide))) (kdv0 ht hv) (by decide) rfl hinX2 (by decide) (by decide +kernel) rfl rfl dX2_copy_92 ?_
  refine r_iconst C dX2_copy_95 ?_
  refine r_bipush C dX2_copy_96 (by decide) ?_
  refine r_copy C (0) (0) (12) hr (ok_of hG (kdv2 ht2 hv2) (by decide) (Nat.le_trans ht2 (by decide))) (ok_of hG (kdv2 ht hv) (by decide) (Nat.le_trans ht (by decide))) (kdv2 ht2 hv2) (kdv2 ht hv) rfl rfl rfl (by first | omega | assumption) (by first | omega | assumption) (by decide) (by decide) (by decide +kernel) (by decide +kernel) (by decide +kernel) (by decide +kernel) (Nat.le_of_ble_eq_true rfl) (Nat.le_of_ble_eq_true rfl) dX2_copy_98 (fun hr => ?_)
  refine r_aload_n C (k := 0) dX2_copy_101 rfl ?_
  refine r_getf C 11 (v := .ref (adr G (t, v, 3))) (ok_of hG (kdv0 ht hv) (by decide) (Nat.le_trans ht (by decide))) (kdv0 ht hv) (by decide) rfl hinX2 (by decide) (by decide +kernel) rfl rfl dX2_copy_102 ?_
  refine r_aload_n C (k := 1) dX2_copy_105 rfl ?_
  refine r_getf C 11 (v := .ref (adr G (t2, v2, 3))) (ok_of hG (kdv0 ht2 hv2) (by decide) (Nat.le_trans ht2 (by decide))) (kdv0 ht2 hv2) (by decide) rfl hinX2 (by decide) (by decide +kernel) rfl rfl dX2_copy_106 ?_
  refine r_callV C [.ref (adr G (t2, v2, 3))] 1 (c_X1_copy hG ht hv ht2 hv2 (by (simp [st1, cpy, hne, hne2]; omega)) (by first | assumption | omega | exact hr _ _ | exact hr0 _ _ | exact ⟨by omega, by omega⟩ | exact bI_inR _)) gX2_copy_X1_copy rfl rfl rfl (by decide +kernel) (Nat.le_of_ble_eq_true rfl) (Nat.le_of_ble_eq_true rfl) ⟨(Nat.zero_le _), (Nat.zero_le _)⟩ (ok_of hG (kdv3 ht hv) (by decide) (Nat.le_trans ht (by decide))) (kdv3 ht hv) (by decide) rfl rfl rfl (by decide) (st' := []) rfl dX2_copy_109 (fun hr => ?_)
  refine r_aload_n C (k := 0) dX2_copy_112 rfl ?_
  refine r_aload_n C (k := 1) dX2_copy_113 rfl ?_
  refine r_getf C 12 (ok_of hG (kdv0 ht2 hv2) (by decide) (Nat.le_trans ht2 (by decide))) (kdv0 ht2 hv2) (by decide) rfl hinX2 (by decide) (by decide +kernel) rfl rfl dX2_copy_114 ?_
  refine Wm.top (z' := w (t2, v2, 0) (12)) (by simp [st1, cpy, s1cp_off, hne, hne2]) ?_
  refine r_putf C 12 hr (by first | exact hr _ _ | exact hr0 _ _ | assumption | exact ⟨by omega, by omega⟩) (ok_of hG (kdv0 ht hv) (by decide) (Nat.le_trans ht (by decide))) (kdv0 ht hv) (by decide) rfl hinX2 tyX2_ok nmX2 (by decide) (by decide +kernel) rfl rfl (ty := .int) (by decide +kernel) rfl rfl rfl (Nat.le_of_ble_eq_true rfl) dX2_copy_117 (fun hr => ?_)
  exact r_vret C dX2_copy_120 (by first | rfl | (simp [*]; done))
end
