/-! calls that catch what is thrown -/
abbrev xS : String := "java/lang/IllegalStateException"
def exN : List (String × String) := [(xI, xA), (xI, xS), (xA, xI), (xA, xS), (xS, xI), (xS, xA)]
def Ex (U : State) : Prop := (∀ E ∈ [xI, xA, xS], va_Nw (.castable E E) U) ∧ ∀ q ∈ exN, va_Nc q.1 q.2 U
theorem Ex.same {u U : State} (hv : U.vm = u.vm) (h : Ex u) : Ex U := ⟨fun E hE => va_Nw.same rfl hv.symm (h.1 E hE), fun q hq => va_Nc.moved (by rw [hv]; exact Vm.Alike.refl _) (h.2 q hq)⟩
theorem Ex.warm {s U : State} (hW : s.WarmedH U.vm) (h : Ex s) : Ex U := ⟨fun E hE => va_Nw.warmC hW (h.1 E hE), fun q hq => va_Nc.moved hW.alike (h.2 q hq)⟩
def PwW (G : Gt) (w : Mm) (sz : Nat) (av : List Value) : Array Value → State → Prop := fun v U => Pw G w sz av v U ∧ Ex U
theorem PwW.blind {G : Gt} {w : Mm} {sz : Nat} {av : List Value} : FrameBlind (PwW G w sz av) := fun a U g mk q => ⟨Pw.blind a U g mk q.1, Ex.same (by rfl) q.2⟩
def ConW (l : Launch) (G : Gt) (y : MethodName) (ws : List Cond) (rm : Room) (w : Mm) (av : List Value) (v : Option Value) (w' : Mm) (mc ms : Nat) : Prop :=
  ∀ sz : Nat, Met l y ws rm (PwW G w sz av) (Qw G v w' (Ag G sz)) mc ms (Ag G sz)
theorem ConW.head {l : Launch} {G : Gt} {y : MethodName} {ws ws' : List Cond} {rm : Room} {w : Mm} {av : List Value} {v : Option Value} {w' : Mm} {mc ms : Nat} {cc : ByteArray} {nL : Nat} {ret : Option FieldType} {hh : List (Nat × Nat × Nat × Nat)}
    (hG : Gok G) (hy : plainName y.cls = true) (hw : ws = Cond.codeWith y cc nL ret hh :: ws') (hn : (lg_sl av).length ≤ nL)
    (body : ∀ (B : Bx) (A : Nat → Prop), B.2.1 = l → B.2.2.2.2.2.2.2.2.2.exceptionTable.toList = tableOf hh → Ex B.2.2.2.2.1 → Cx B nL G A cc y.cls ws ret rm → rng w → Wm B nL G A (Qe B G A v w' mc ms) w 0 0 0 (lv_args 0 av) []) : ConW l G y ws rm w av v w' mc ms := by
  intro sz
  refine va_MetW (cc := cc) (maxL := nL) (ret := ret) (hh := hh) hy hw ?_
  intro p e s m args below meth c s₁ B hml hv
  obtain ⟨⟨rfl, hsz, hP, hK, hZ⟩, hE⟩ := hv
  have hts := atoms_spec (ws := ws) B.pre
  have hown : s.vm.findClass y.cls = some m.cls := findClass_of_methodNamed B.named
  have htb := vx_table (x := y) B (hts _ (by rw [hw]; exact List.mem_cons_self))
  subst hsz
  have hl := lv_entry av hn
  rw [lg_entry_eq]
  refine body (p, l, e, (headSpec ws rm).room, s, m, av.toArray, below, meth, c) (Ag G s.heap.size) rfl htb hE ⟨B.exec, B.bytes, hml, hown, hts, hK, hG, fun k hk => Or.inl ⟨k, hk, rfl⟩, fun q h => Or.inr h, B.notSynchronized, B.returns, rfl, hZ⟩ hP.1 s.heap [] _ hP va_S.rf hl
section ROWSW
variable {B : Bx} {nL : Nat} {G : Gt} {A : Nat → Prop} {cc : ByteArray} {own : String} {Ts : List Cond} {ret : Option FieldType} {Rm : Room} {Q : State → Prop} {w : Mm} {cells slots pc : Nat} {lv : List (Nat × Value)} {st : List Value}
/-- the row of an exception table that takes E at pc -/
def Cat (B : Bx) (own : String) (Ts : List Cond) (pc : Nat) (E : String) (h : Nat) : Prop :=
  ∃ (pre : List ExceptionTableEntry) (x : ExceptionTableEntry) (suf : List ExceptionTableEntry), B.2.2.2.2.2.2.2.2.2.exceptionTable.toList = pre ++ x :: suf ∧ (∀ z ∈ pre, covers z pc = false ∨ (z.catchType ≠ 0 ∧ ∃ nm : String, Cond.classLink own z.catchType nm ∈ Ts ∧ va_Nc E nm B.2.2.2.2.1)) ∧ covers x pc = true ∧ x.catchType ≠ 0 ∧ Cond.classLink own x.catchType E ∈ Ts ∧ va_Nw (.castable E E) B.2.2.2.2.1 ∧ x.handlerPc = h
theorem r_callVC (C : Cx B nL G A cc own Ts ret Rm) {y : MethodName} {ws ws' : List Cond} {rm : Room} {o' : Option String} {v : Option Value} {w' : Mm} {mc ms index maxL : Nat} {bytes : ByteArray} {retY : Option FieldType} {k0 : Ky} {ci nk N : Nat} {Cn : String} {T : u_T} {rest st' : List Value} (As : List Value) (n : Nat)
    (hM : ConX B.2.1 G y ws rm w (.ref (adr G k0) :: As) o' v w' mc ms) (hg : GoodIn Ts (wsV own index Cn y ws)) (hw : ws = Cond.code y bytes maxL retY :: ws') (hrc : rm.cells = mc) (hrs : rm.slots = ms)
    (hdc : y.cls = Cn ∧ y.cls ≠ "java/lang/invoke/MethodHandle" ∧ y.cls ≠ "java/lang/invoke/VarHandle" ∧ (parseMethodDescriptor y.desc).map (fun d => d.parameters.length) = some n) (h1 : rm.frames + 1 ≤ Rm.frames) (h2 : 8 + (maxL + 11) + rm.locals ≤ Rm.locals) (hf : cells + mc ≤ Rm.cells ∧ slots + ms ≤ Rm.slots)
    (hok : okk G k0) (hkd : kd k0 = (ci, nk)) (hlt : ci < 6) (hc : vwCl[ci]? = some (Cn, T, N)) (hn : As.length = n) (hst : st = As.reverse ++ .ref (adr G k0) :: rest) (hcat : (rest.map fun v => v.category).sum ≤ 8) (hst' : v.toList ++ rest = st') (hd : decode cc pc = .ok (.invokevirtual index, 3))
    (kk : o' = none → rng w' → Wm B nL G A Q w' (cells + mc) (slots + ms) (pc + 3) lv st') (kx : ∀ E, o' = some E → ∃ h, Cat B own Ts pc E h ∧ ∀ q : Nat, Wm B nL G A Q w (cells + mc) (slots + ms) h lv [.ref q]) : Wm B nL G A Q w cells slots pc lv st := by
  have hAg := @Ag_in _ _ _ _ _ _ _ _ _ C
  obtain ⟨p, l, e, R, s, m, args, below, meth, c⟩ := B
  obtain ⟨hx, hb, hml, hown, hts, ⟨hK, hNF, hNM, hNS⟩, hG, hA1, hA2, hlk, hret, hR, hZ⟩ := C
  intro H locs ls hP hS hl
  dsimp only at hR
  subst hR; subst hst; subst hst'
  have hat := hP.2 k0 hok
  rw [ent_obj hkd hlt] at hat
  have hP1 : va_P G.1 vwCl [(adr G k0, .inr (ci, flds (adr G) w k0 ci))] H := fun i q hq => by
    cases i with
    | zero => cases hq; exact hat
    | succ i => simp at hq
  have hr := vx_runV (As := As) (rest := rest) (g := F0 m pc ls (As.reverse ++ .ref (adr G k0) :: rest)) (cells := cells) (slots := slots) (locs := locs) (H := H) (below := below) (meth := meth) (p := p) (e := e) ⟨hx, hb, hml, hown, hts⟩ (hM H.size) (cwV n hts hg hw hrc hrs hdc ⟨h1, h2⟩) ⟨Pw.blind, va_recv hK hP1 (q0 := 0) hc rfl, fun U hU hW => ⟨rfl, by rw [hU], by rw [hU]; exact hP, Kn.warm hW ⟨hK, hNF, hNM, hNS⟩, by rw [hU]; exact (hZ.kept hS.2.1 (hAg hS)).moved hW.alike⟩⟩ rfl hn hl.1 rfl (lv_room hcat) hd hf
  intro T9 hT X
  rcases hr T9 hT X with ⟨v2, st₀, t, T', L, h0, X', hL, e1, e2, ⟨ho9, hv, hp, hF⟩, st⟩ | ⟨q, st₀, t, T', L, E, ce, h0, X', hL, e1, e2, ⟨hoE, hp, hF⟩, hce, hcv, hcl, st⟩
  · cases hv
    obtain ⟨k1, k2, k3⟩ := vx_keep h0 e1 hS (fun q _ h => hAg hS q h) (hAg hS) hL hF
    obtain ⟨t2, a1, b1⟩ := kk ho9 hp.1 T'.heap (locs ++ L) ls (by rw [e1]; exact hp) k3 hl T' rfl X'
    exact ⟨t2, st t2 a1, b1⟩
  · obtain ⟨k1, k2, k3⟩ := vx_keep h0 e1 hS (fun q _ h => hAg hS q h) (hAg hS) hL hF
    obtain ⟨h, ⟨pre, x, suf, c1, c2, c3, c4, c5, c6, rfl⟩, hk⟩ := kx E hoE
    obtain ⟨t2, a1, b1⟩ := vx_catch (pc := pc) (ls := ls) (rest := rest) (E := E) (name := E) (ce := ce) (q := q) (H := T'.heap) (locs := locs ++ L) (cells := cells + mc) (slots := slots + ms) hown pre x suf c1
      (fun z hz => (c2 z hz).imp id (fun ⟨g1, nm, g2, g3⟩ => ⟨g1, nm, hts _ g2, g3⟩)) c3 c4 (hts _ c5) (va_Nw.use rfl c6) (by rw [e1]; exact hce) hcv hcl (hk q T'.heap (locs ++ L) ls (by rw [e1]; exact hp) k3 hl) T' rfl X'
    exact ⟨t2, st.trans a1, b1⟩
end ROWSW
theorem Cat.one {B : Bx} {own : String} {Ts : List Cond} {pc h ix f t : Nat} {E : String} {hh : List (Nat × Nat × Nat × Nat)} (htb : B.2.2.2.2.2.2.2.2.2.exceptionTable.toList = tableOf ((f, t, h, ix) :: hh)) (hE : Ex B.2.2.2.2.1) (hm : E ∈ [xI, xA, xS]) (h1 : f ≤ pc ∧ pc < t) (h2 : ix ≠ 0) (h3 : Cond.classLink own ix E ∈ Ts) : Cat B own Ts pc E h := by
  refine ⟨[], ⟨f, t, h, ix⟩, tableOf hh, htb, fun z hz => absurd hz List.not_mem_nil, ?_, h2, h3, hE.1 E hm, rfl⟩
  simp [covers, h1]
theorem Cat.two {B : Bx} {own : String} {Ts : List Cond} {pc h h0 ix ix0 f t : Nat} {E E0 : String} (htb : B.2.2.2.2.2.2.2.2.2.exceptionTable.toList = tableOf [(f, t, h0, ix0), (f, t, h, ix)]) (hE : Ex B.2.2.2.2.1) (hm : E ∈ [xI, xA, xS]) (hm2 : (E, E0) ∈ exN) (h1 : f ≤ pc ∧ pc < t) (h0n : ix0 ≠ 0) (h2 : ix ≠ 0) (h3 : Cond.classLink own ix0 E0 ∈ Ts) (h4 : Cond.classLink own ix E ∈ Ts) : Cat B own Ts pc E h := by
  refine ⟨[⟨f, t, h0, ix0⟩], ⟨f, t, h, ix⟩, [], htb, fun z hz => ?_, ?_, h2, h4, hE.1 E hm, rfl⟩
  · rw [List.mem_singleton.mp hz]
    exact Or.inr ⟨h0n, E0, h3, hE.2 _ hm2⟩
  · simp [covers, h1]
