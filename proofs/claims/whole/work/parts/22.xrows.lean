/-! methods that may throw: contracts and rows -/
def Qx (G : Gt) (o : Option String) (v : Option Value) (w' : Mm) (A : Nat → Prop) : Array Value → State → Outcome → State → Prop := fun a st oc t => o = none ∧ Qw G v w' A a st oc t
def Xx (G : Gt) (o : Option String) (w : Mm) (A : Nat → Prop) : String → State → State → Prop := fun E st t => o = some E ∧ Pic G w t.heap ∧ va_F A st t
def ConX (l : Launch) (G : Gt) (y : MethodName) (ws : List Cond) (rm : Room) (w : Mm) (av : List Value) (o : Option String) (v : Option Value) (w' : Mm) (mc ms : Nat) : Prop :=
  ∀ sz : Nat, vx_Met l y ws rm (Pw G w sz av) (Qx G o v w' (Ag G sz)) (Xx G o w (Ag G sz)) mc ms (Ag G sz)
abbrev Qex (B : Bx) (G : Gt) (A : Nat → Prop) (o : Option String) (v : Option Value) (w0 w' : Mm) (mc ms : Nat) : State → Prop := vx_MQ B.2.2.2.2.2.2.2.1 (Qx G o v w' A) (Xx G o w0 A) B.2.2.2.2.2.2.1 B.2.2.2.2.1 mc ms A
theorem ConX.head {l : Launch} {G : Gt} {y : MethodName} {ws ws' : List Cond} {rm : Room} {w : Mm} {av : List Value} {o : Option String} {v : Option Value} {w' : Mm} {mc ms : Nat} {cc : ByteArray} {nL : Nat} {ret : Option FieldType}
    (hG : Gok G) (hy : plainName y.cls = true) (hw : ws = Cond.code y cc nL ret :: ws') (hn : (lg_sl av).length ≤ nL)
    (body : ∀ (B : Bx) (A : Nat → Prop), B.2.1 = l → (∀ x ∈ B.2.2.2.2.2.2.2.2.2.exceptionTable.toList, False) → Cx B nL G A cc y.cls ws ret rm → rng w → Wm B nL G A (Qex B G A o v w w' mc ms) w 0 0 0 (lv_args 0 av) []) : ConX l G y ws rm w av o v w' mc ms := by
  intro sz
  refine vx_ofW (cc := cc) (maxL := nL) (ret := ret) hy hw ?_
  intro p e s m args below meth c s₁ B hml hxt hv
  obtain ⟨rfl, hsz, hP, hK, hZ⟩ := hv
  have hts := atoms_spec (ws := ws) B.pre
  have hown : s.vm.findClass y.cls = some m.cls := findClass_of_methodNamed B.named
  subst hsz
  have hl := lv_entry av hn
  rw [lg_entry_eq]
  refine body (p, l, e, (headSpec ws rm).room, s, m, av.toArray, below, meth, c) (Ag G s.heap.size) rfl hxt ⟨B.exec, B.bytes, hml, hown, hts, hK, hG, fun k hk => Or.inl ⟨k, hk, rfl⟩, fun q h => Or.inr h, B.notSynchronized, B.returns, rfl, hZ⟩ hP.1 s.heap [] _ hP va_S.rf hl
section ROWSX
variable {B : Bx} {nL : Nat} {G : Gt} {A : Nat → Prop} {cc : ByteArray} {own : String} {Ts : List Cond} {ret : Option FieldType} {Rm : Room} {Q : State → Prop} {w : Mm} {cells slots pc : Nat} {lv : List (Nat × Value)} {st : List Value}
theorem Wm.x {o : Option String} {v : Option Value} {w0 w' : Mm} {mc ms : Nat} (ho : o = none) (h1 : cells ≤ mc) (h2 : slots ≤ ms) (k : Wm B nL G A (Qe B G A v w' mc ms) w mc ms pc lv st) : Wm B nL G A (Qex B G A o v w0 w' mc ms) w cells slots pc lv st := by
  obtain ⟨p, l, e, R, s, m, args, below, meth, c⟩ := B
  intro H locs ls hP hS hl
  refine W.widen h1 h2 ?_
  intro T hT X
  obtain ⟨t, a1, oc, b1, b2, b3, b4⟩ := k H locs ls hP hS hl T hT X
  exact ⟨t, a1, oc, b1, b2, Or.inl ⟨⟨ho, b3⟩, b4⟩⟩
theorem Pic.kept {G : Gt} {w : Mm} {H H1 : Heap} (hP : Pic G w H) (h : ∀ q : Nat, q < H.size → H1[q]? = H[q]?) : Pic G w H1 := ⟨hP.1, fun k hk => (hP.2 k hk).kept (h _ (hP.2 k hk).lt)⟩
theorem r_throw (C : Cx B nL G A cc RX3 Ts ret Rm) (hxt : ∀ x ∈ B.2.2.2.2.2.2.2.2.2.exceptionTable.toList, False) (hl9 : B.2.1.stackTraces = false) {o : Option String} {v : Option Value} {w0 w' : Mm} {mc ms ik is ic : Nat} {E text : String} (ho : o = some E) (hw0 : w = w0) (hs9 : (is, text) ∈ nwS)
    (hcls : Bundle.fit E = true) (hk : Cond.classLink RX3 ik E ∈ Ts) (hini : Cond.initialized E ∈ Ts) (hat1 : ∀ w ∈ (vx_atS RX3 ic E ["java/lang/RuntimeException", "java/lang/Exception"]).filter goodWord, w ∈ Ts) (hat2 : ∀ w ∈ (vx_atS RX3 ic E ["java/lang/RuntimeException", "java/lang/Exception"]).filter (fun w => !goodWord w), w ∈ nwB)
    (hgood : ∀ w ∈ Cond.classLink RX3 ik E :: Cond.initialized E :: vx_atS RX3 ic E ["java/lang/RuntimeException", "java/lang/Exception"], vx_ot w = true)
    (d0 : decode cc pc = .ok (.new ik, 3)) (d3 : decode cc (pc + 3) = .ok (.dup, 1)) (d4 : decode cc (pc + 4) = .ok (.ldc is, 2)) (d6 : decode cc (pc + 6) = .ok (.invokespecial ic, 3)) (d9 : decode cc (pc + 9) = .ok (.athrow, 1))
    (hRf : 5 < Rm.frames) (hRl : (st.map fun v => v.category).sum + 82 ≤ Rm.locals) (hc : cells + 1 ≤ Rm.cells) (hs : slots + 6 ≤ Rm.slots) (hc2 : cells + 1 ≤ mc) (hs2 : slots + 6 ≤ ms) : Wm B nL G A (Qex B G A o v w0 w' mc ms) w cells slots pc lv st := by
  obtain ⟨p, l, e, R, s, m, args, below, meth, c⟩ := B
  obtain ⟨hx, hb, hml, hown, hts, ⟨hK, hNF, hNM, hNS, hNB⟩, hG, hA1, hA2, hlk, hret, hR, hZ⟩ := C
  intro H locs ls hP hS hl
  dsimp only at hR
  subst hR
  subst hw0
  obtain ⟨sa, hsa⟩ := hNS _ hs9
  refine vx_throwS hx hb hl9 (own := RX3) (cls := E) (text := text) (names := ["java/lang/RuntimeException", "java/lang/Exception"]) (sa := sa) (A := A) hown hcls (by decide +kernel) (hts _ hk) (hts _ hini) hsa
    (vx_hat (fun w hw => hts _ (hat1 w hw)) hat2 (fun w hw => ?_)) hgood hZ.1 hZ.2 hS (by rw [hl.1]; exact hml.symm) d0 d3 d4 d6 d9 (fun x hx9 => absurd (hxt x hx9) id) hRf hRl hc hs hlk (fun t hvm hz hq => ⟨ho, hP.kept hq, Nat.le_trans hS.1 hz, fun q h1 h2 => (hq q (Nat.lt_of_lt_of_le h1 hS.1)).trans (hS.2.1 q h1 h2)⟩) hS.2.2 hc2 hs2
  have hk9 := nwB_kind w hw
  have h1 := hNB w hw
  cases w <;> first | exact va_Nw.use rfl h1 | (exfalso; simp at hk9; done)
theorem r_callVX (C : Cx B nL G A cc own Ts ret Rm) (hxt : ∀ x ∈ B.2.2.2.2.2.2.2.2.2.exceptionTable.toList, False) {y : MethodName} {ws ws' : List Cond} {rm : Room} {o o' : Option String} {v v9 : Option Value} {w' w0 w9 : Mm} {mc ms mc9 ms9 index maxL : Nat} {bytes : ByteArray} {retY : Option FieldType} {k0 : Ky} {ci nk N : Nat} {Cn : String} {T : u_T} {rest st' : List Value} (As : List Value) (n : Nat)
    (hM : ConX B.2.1 G y ws rm w (.ref (adr G k0) :: As) o' v w' mc ms) (ho : ∀ E, o' = some E → o = some E) (hw0 : w = w0) (hc9 : cells + mc ≤ mc9) (hs9 : slots + ms ≤ ms9) (hg : GoodIn Ts (wsV own index Cn y ws)) (hw : ws = Cond.code y bytes maxL retY :: ws') (hrc : rm.cells = mc) (hrs : rm.slots = ms)
    (hdc : y.cls = Cn ∧ y.cls ≠ "java/lang/invoke/MethodHandle" ∧ y.cls ≠ "java/lang/invoke/VarHandle" ∧ (parseMethodDescriptor y.desc).map (fun d => d.parameters.length) = some n) (h1 : rm.frames + 1 ≤ Rm.frames) (h2 : 8 + (maxL + 11) + rm.locals ≤ Rm.locals) (hf : cells + mc ≤ Rm.cells ∧ slots + ms ≤ Rm.slots)
    (hok : okk G k0) (hkd : kd k0 = (ci, nk)) (hlt : ci < 6) (hc : vwCl[ci]? = some (Cn, T, N)) (hn : As.length = n) (hst : st = As.reverse ++ .ref (adr G k0) :: rest) (hcat : (rest.map fun v => v.category).sum ≤ 8) (hst' : v.toList ++ rest = st') (hd : decode cc pc = .ok (.invokevirtual index, 3))
    (kk : o' = none → rng w' → Wm B nL G A (Qex B G A o v9 w0 w9 mc9 ms9) w' (cells + mc) (slots + ms) (pc + 3) lv st') : Wm B nL G A (Qex B G A o v9 w0 w9 mc9 ms9) w cells slots pc lv st := by
  have hAg := @Ag_in _ _ _ _ _ _ _ _ _ C
  obtain ⟨p, l, e, R, s, m, args, below, meth, c⟩ := B
  obtain ⟨hx, hb, hml, hown, hts, ⟨hK, hNF, hNM, hNS⟩, hG, hA1, hA2, hlk, hret, hR, hZ⟩ := C
  intro H locs ls hP hS hl
  dsimp only at hR
  subst hR; subst hst; subst hst'; subst hw0
  have hat := hP.2 k0 hok
  rw [ent_obj hkd hlt] at hat
  have hP1 : va_P G.1 vwCl [(adr G k0, .inr (ci, flds (adr G) w k0 ci))] H := fun i q hq => by
    cases i with
    | zero => cases hq; exact hat
    | succ i => simp at hq
  have hr := vx_runV (As := As) (rest := rest) (g := F0 m pc ls (As.reverse ++ .ref (adr G k0) :: rest)) (cells := cells) (slots := slots) (locs := locs) (H := H) (below := below) (meth := meth) (p := p) (e := e) ⟨hx, hb, hml, hown, hts⟩ (hM H.size) (cwV n hts hg hw hrc hrs hdc ⟨h1, h2⟩) ⟨Pw.blind, va_recv hK hP1 (q0 := 0) hc rfl, fun U hU hW => ⟨rfl, by rw [hU], by rw [hU]; exact hP, Kn.warm hW ⟨hK, hNF, hNM, hNS⟩, by rw [hU]; exact (hZ.kept hS.2.1 (hAg hS)).moved hW.alike⟩⟩ rfl hn hl.1 rfl (lv_room hcat) hd hf
  intro T9 hT X
  rcases hr T9 hT X with ⟨v2, st₀, t, T', L, h0, X', hL, e1, e2, ⟨ho9, hv, hp, hF⟩, st⟩ | ⟨q, st₀, t, T', L, E, ce, h0, X', hL, e1, e2, ⟨hoE, hp, hF⟩, hce, hcv, hcl, st⟩
  · cases hv
    obtain ⟨k1, k2, k3⟩ := vx_keep h0 e1 hS (fun q _ h => hAg hS q h) (hAg hS) hL hF
    obtain ⟨t2, a1, b1⟩ := kk ho9 hp.1 T'.heap (locs ++ L) ls (by rw [e1]; exact hp) k3 hl T' rfl X'
    exact ⟨t2, st t2 a1, b1⟩
  · obtain ⟨k1, k2, k3⟩ := vx_keep h0 e1 hS (fun q _ h => hAg hS q h) (hAg hS) hL hF
    obtain ⟨t2, a1, b1⟩ := vx_out (pc := pc) (ls := ls) (rest := rest) (E := E) (ce := ce) (q := q) (mc := mc9) (ms := ms9) (XC := Xx G o w A) (Qc := Qx G o v9 w9 A) (free := A) (H := T'.heap) (locs := locs ++ L) (cells := cells + mc) (slots := slots + ms) (fun x hx9 => absurd (hxt x hx9) id) hlk (by rw [e1]; exact hce) hcv hcl
      (fun t9 ht9 hvm9 => ⟨ho E hoE, by rw [ht9, e1]; exact hp, k3.F ht9⟩) k3.2.2 hc9 hs9 T' rfl X'
    exact ⟨t2, st.trans a1, b1⟩
end ROWSX
