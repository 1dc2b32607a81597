/-! walks over a list of cells: the constructors -/
def Fl (q0 sz : Nat) : Nat → Prop := fun q => q = q0 ∨ sz ≤ q
def Pl (G : Gt) (q0 : Nat) (E0 : va_E) (sz : Nat) (av : List Value) : Array Value → State → Prop := fun v U => v = av.toArray ∧ U.heap.size = sz ∧ va_at G.1 vwCl (q0, E0) U.heap ∧ Kn G U ∧ va_AO RX2 U
def Ql (G : Gt) (post : va_W → Prop) (A : Nat → Prop) : Array Value → State → Outcome → State → Prop := fun _ st oc t => oc = .returned none ∧ (∃ X, post X ∧ va_P G.1 vwCl X t.heap ∧ va_D A X) ∧ va_F A st t
theorem Pl.blind {G : Gt} {q0 : Nat} {E0 : va_E} {sz : Nat} {av : List Value} : FrameBlind (Pl G q0 E0 sz av) := fun a U g mk q => by
  obtain ⟨h0, h1, h2, h3, h4⟩ := q
  exact ⟨h0, h1, h2, Kn.same (by rfl) h3, va_AO.moved (Vm.Alike.refl U.vm) h4⟩
/-- a constructor's contract: its object becomes a list of cells, itself and new ones -/
def ConL (l : Launch) (G : Gt) (y : MethodName) (ws : List Cond) (rm : Room) (q0 : Nat) (E0 : va_E) (av : List Value) (post : va_W → Prop) (mc ms : Nat) : Prop :=
  ∀ sz : Nat, Met l y ws rm (Pl G q0 E0 sz av) (Ql G post (Fl q0 sz)) mc ms (Fl q0 sz)
def CL (B : Bx) (nL : Nat) (G : Gt) (A : Nat → Prop) (cc : ByteArray) (own nm : String) (Ts : List Cond) (Rm : Room) : Prop :=
  B.1.tables.exec = Jvm.exec ∧ B.2.2.2.2.2.2.2.2.2.code = cc ∧ B.2.2.2.2.2.2.2.2.2.maxLocals = nL ∧ B.2.2.2.2.1.vm.findClass own = some B.2.2.2.2.2.1.cls ∧ (∀ w ∈ Ts, w.before B.2.2.2.2.2.2.1 B.2.2.2.2.1 = true) ∧ Kn G B.2.2.2.2.1 ∧ va_AO RX2 B.2.2.2.2.1 ∧ (∀ q : Nat, B.2.2.2.2.1.heap.size ≤ q → A q) ∧ B.2.2.2.2.2.2.2.2.1.locks = false ∧ B.2.2.2.2.2.2.2.2.1.sig.returnType = none ∧ B.2.2.2.1 = Rm ∧ B.2.2.2.2.2.2.2.2.1.name = nm
def WL (B : Bx) (nL : Nat) (G : Gt) (A : Nat → Prop) (Q : State → Prop) (X : va_W) (cells slots pc : Nat) (lv : List (Nat × Value)) (st : List Value) : Prop :=
  ∀ (H : Heap) (locs : List Loc) (ls : Array Slot), va_P G.1 vwCl X H → va_D A X → va_S A B.2.2.2.2.1.heap H locs → lv_has ls nL lv → W B.1 B.2.1 B.2.2.1 B.2.2.2.1 B.2.2.2.2.1 B.2.2.2.2.2.1 B.2.2.2.2.2.2.1 B.2.2.2.2.2.2.2.1 B.2.2.2.2.2.2.2.2.1 B.2.2.2.2.2.2.2.2.2 H locs cells slots Q (F0 B.2.2.2.2.2.1 pc ls st)
abbrev Ze (B : Bx) (G : Gt) (A : Nat → Prop) (post : va_W → Prop) (mc ms : Nat) : State → Prop := MQ B.2.2.2.2.2.2.2.1 (Ql G post A) B.2.2.2.2.2.2.1 B.2.2.2.2.1 mc ms A
theorem ConL.head {l : Launch} {G : Gt} {y : MethodName} {ws ws' : List Cond} {rm : Room} {q0 : Nat} {E0 : va_E} {av : List Value} {post : va_W → Prop} {mc ms : Nat} {cc : ByteArray} {nL : Nat}
    (hy : plainName y.cls = true) (hw : ws = Cond.code y cc nL none :: ws') (hn : (lg_sl av).length ≤ nL)
    (body : ∀ (B : Bx) (A : Nat → Prop), B.2.1 = l → CL B nL G A cc y.cls y.name ws rm → (∃ sz, A = Fl q0 sz) → WL B nL G A (Ze B G A post mc ms) [(q0, E0)] 0 0 0 (lv_args 0 av) []) : ConL l G y ws rm q0 E0 av post mc ms := by
  intro sz
  refine Met.ofW (cc := cc) (maxL := nL) (ret := none) hy hw ?_
  intro p e s m args below meth c s₁ B hml hv
  obtain ⟨rfl, hsz, hP, hK, hO⟩ := hv
  have hts := atoms_spec (ws := ws) B.pre
  have hown : s.vm.findClass y.cls = some m.cls := findClass_of_methodNamed B.named
  have hin : meth.name = y.name := (name_of_methodNamed B.named B.method).1
  subst hsz
  have hl := lv_entry av hn
  rw [lg_entry_eq]
  refine body (p, l, e, (headSpec ws rm).room, s, m, av.toArray, below, meth, c) (Fl q0 s.heap.size) rfl ⟨B.exec, B.bytes, hml, hown, hts, hK, hO, fun q h => Or.inr h, B.notSynchronized, B.returns, rfl, hin⟩ ⟨_, rfl⟩ s.heap [] _ (fun i q hq => ?_) ⟨fun i j p q hi hj _ => ?_, fun i q hq => ?_⟩ va_S.rf hl
  · cases i with
    | zero => cases hq; exact hP
    | succ i => simp at hq
  · cases i with
    | zero => cases j with
      | zero => rfl
      | succ j => simp at hj
    | succ i => simp at hi
  · cases i with
    | zero => cases hq; exact Or.inl rfl
    | succ i => simp at hq
theorem vP_mem {D : va_G} {cl : List vw_C} {X : va_W} {H : Heap} : va_P D cl X H ↔ ∀ q ∈ X, va_at D cl q H := by
  constructor
  · intro h q hq
    obtain ⟨i, hi⟩ := List.getElem?_of_mem hq
    exact h i q hi
  · intro h i q hq
    exact h q (List.mem_of_getElem? hq)
theorem vP_rot {D : va_G} {cl : List vw_C} {X : va_W} {x : Nat × va_E} {H : Heap} (h : va_P D cl (X ++ [x]) H) : va_P D cl (x :: X) H := by
  rw [vP_mem] at h ⊢
  intro q hq
  refine h q ?_
  rcases List.mem_cons.mp hq with rfl | hq
  · exact List.mem_append_right _ (List.mem_singleton.mpr rfl)
  · exact List.mem_append_left _ hq
theorem vD_rot {A : Nat → Prop} {X : va_W} {x : Nat × va_E} (h : va_D A (X ++ [x])) : va_D A (x :: X) := by
  have key : ∀ (i : Nat) (p : Nat × va_E), (x :: X)[i]? = some p → (X ++ [x])[if i = 0 then X.length else i - 1]? = some p := by
    intro i p hp
    cases i with
    | zero =>
      simp at hp
      subst hp
      simp
    | succ i =>
      simp at hp
      rw [if_neg (by omega), show i + 1 - 1 = i by omega, List.getElem?_append_left (List.getElem?_eq_some_iff.mp hp).1]
      exact hp
  have lt : ∀ (i : Nat) (p : Nat × va_E), (x :: X)[i]? = some p → i < X.length + 1 := fun i p hp => by
    have := (List.getElem?_eq_some_iff.mp hp).1
    simpa using this
  refine ⟨fun i j p q hi hj he => ?_, fun i q hq => h.2 _ q (key i q hq)⟩
  have h1 := h.1 _ _ p q (key i p hi) (key j q hj) he
  have h2 := lt i p hi
  have h3 := lt j q hj
  split at h1 <;> split at h1 <;> omega
section ROWSL
variable {B : Bx} {nL : Nat} {G : Gt} {A : Nat → Prop} {cc : ByteArray} {own nm : String} {Ts : List Cond} {Rm : Room} {Q : State → Prop} {X : va_W} {cells slots pc : Nat} {lv : List (Nat × Value)} {st : List Value}
theorem l_iconst (C : CL B nL G A cc own nm Ts Rm) {n : Int} (hd : decode cc pc = .ok (.iconst n, 1)) (kk : WL B nL G A Q X cells slots (pc + 1) lv (vI n :: st)) : WL B nL G A Q X cells slots pc lv st := by
  obtain ⟨p, l, e, R, s, m, args, below, meth, c⟩ := B
  intro H locs ls hP hD hS hl
  exact lv_iconst C.1 C.2.1 hd rfl (kk H locs ls hP hD hS hl)
theorem l_bipush (C : CL B nL G A cc own nm Ts Rm) {n : Int} (hd : decode cc pc = .ok (.bipush n, 2)) (hn : (Int8.ofInt n).toInt32 = Int32.ofInt n) (kk : WL B nL G A Q X cells slots (pc + 2) lv (vI n :: st)) : WL B nL G A Q X cells slots pc lv st := by
  obtain ⟨p, l, e, R, s, m, args, below, meth, c⟩ := B
  intro H locs ls hP hD hS hl
  exact lv_bipush C.1 C.2.1 hd hn (kk H locs ls hP hD hS hl)
theorem l_sipush (C : CL B nL G A cc own nm Ts Rm) {n : Int} (hd : decode cc pc = .ok (.sipush n, 3)) (hn : (Int16.ofInt n).toInt32 = Int32.ofInt n) (kk : WL B nL G A Q X cells slots (pc + 3) lv (vI n :: st)) : WL B nL G A Q X cells slots pc lv st := by
  obtain ⟨p, l, e, R, s, m, args, below, meth, c⟩ := B
  intro H locs ls hP hD hS hl
  exact lv_sipush C.1 C.2.1 hd hn (kk H locs ls hP hD hS hl)
theorem l_iload (C : CL B nL G A cc own nm Ts Rm) {i : Fin 4} {k : Nat} {z : Int} (hd : decode cc pc = .ok (.iload_n i, 1)) (hk : lv[k]? = some ((i : Nat), vI z)) (kk : WL B nL G A Q X cells slots (pc + 1) lv (vI z :: st)) : WL B nL G A Q X cells slots pc lv st := by
  obtain ⟨p, l, e, R, s, m, args, below, meth, c⟩ := B
  intro H locs ls hP hD hS hl
  exact lv_iload_n C.1 C.2.1 hd rfl (lv_at hl k hk) (kk H locs ls hP hD hS hl)
theorem l_aload (C : CL B nL G A cc own nm Ts Rm) {i : Fin 4} {k : Nat} {a : Nat} (hd : decode cc pc = .ok (.aload_n i, 1)) (hk : lv[k]? = some ((i : Nat), .ref a)) (kk : WL B nL G A Q X cells slots (pc + 1) lv (.ref a :: st)) : WL B nL G A Q X cells slots pc lv st := by
  obtain ⟨p, l, e, R, s, m, args, below, meth, c⟩ := B
  intro H locs ls hP hD hS hl
  exact lv_aload_n C.1 C.2.1 hd rfl (lv_at hl k hk) (kk H locs ls hP hD hS hl)
theorem l_istore (C : CL B nL G A cc own nm Ts Rm) {j : Fin 4} {i : Nat} {z : Int} {lv' : List (Nat × Value)} (hd : decode cc pc = .ok (.istore_n j, 1)) (hi : (j : Nat) = i) (hn : i < nL) (hl : (i, vI z) :: lv.filter (fun q => !(q.1 == i) && !(q.1 + 1 == i && q.2.category == 2)) = lv') (kk : WL B nL G A Q X cells slots (pc + 1) lv' st) : WL B nL G A Q X cells slots pc lv (vI z :: st) := by
  obtain ⟨p, l, e, R, s, m, args, below, meth, c⟩ := B
  intro H locs ls hP hD hS h
  exact lv_istore_n C.1 C.2.1 hd hi h hn hl (fun ls' h' => kk H locs ls' hP hD hS h')
theorem l_iinc (C : CL B nL G A cc own nm Ts Rm) {i k : Nat} {n z : Int} {lv' : List (Nat × Value)} (hd : decode cc pc = .ok (.iinc i n, 3)) (hk : lv[k]? = some (i, vI z)) (hn : i < nL) (hl : (i, vI (z + n)) :: lv.filter (fun q => !(q.1 == i) && !(q.1 + 1 == i && q.2.category == 2)) = lv') (kk : WL B nL G A Q X cells slots (pc + 3) lv' st) : WL B nL G A Q X cells slots pc lv st := by
  obtain ⟨p, l, e, R, s, m, args, below, meth, c⟩ := B
  intro H locs ls hP hD hS h
  exact lv_iinc C.1 C.2.1 hd h hk (Int32.ofInt_add z n).symm hn hl (fun ls' h' => kk H locs ls' hP hD hS h')
theorem l_goto (C : CL B nL G A cc own nm Ts Rm) {off : Int} {tgt : Nat} (hd : decode cc pc = .ok (.goto off, 3)) (ht : (pc : Int) + off = (tgt : Int)) (kk : WL B nL G A Q X cells slots tgt lv st) : WL B nL G A Q X cells slots pc lv st := by
  obtain ⟨p, l, e, R, s, m, args, below, meth, c⟩ := B
  intro H locs ls hP hD hS hl
  exact lv_goto C.1 C.2.1 hd ht (kk H locs ls hP hD hS hl)
theorem l_dup (C : CL B nL G A cc own nm Ts Rm) {v : Value} (hd : decode cc pc = .ok (.dup, 1)) (hv : v.category = 1) (kk : WL B nL G A Q X cells slots (pc + 1) lv (v :: v :: st)) : WL B nL G A Q X cells slots pc lv (v :: st) := by
  obtain ⟨p, l, e, R, s, m, args, below, meth, c⟩ := B
  intro H locs ls hP hD hS hl
  exact lv_dup C.1 C.2.1 hd hv (kk H locs ls hP hD hS hl)
theorem l_icmp_ge (C : CL B nL G A cc own nm Ts Rm) {a b off : Int} {tgt : Nat} (hd : decode cc pc = .ok (.if_icmp .ge off, 3)) (ht : (pc : Int) + off = (tgt : Int)) (ha : inR a) (hb : inR b) (k1 : b ≤ a → WL B nL G A Q X cells slots tgt lv st) (k2 : a < b → WL B nL G A Q X cells slots (pc + 3) lv st) : WL B nL G A Q X cells slots pc lv (vI b :: vI a :: st) := by
  obtain ⟨p, l, e, R, s, m, args, below, meth, c⟩ := B
  intro H locs ls hP hD hS hl
  exact lv_icmp_ge C.1 C.2.1 hd ht (fun h => k1 (ci_ge1 ha hb h) H locs ls hP hD hS hl) (fun h => k2 (ci_ge2 ha hb h) H locs ls hP hD hS hl)
theorem l_objInit (C : CL B nL G A cc own nm Ts Rm) {a idx : Nat} (hlink : Cond.methodLink own idx objectInit ∈ Ts) (hinst : Cond.instanceMethod objectInit ∈ Ts) (hcode : Cond.code objectInit ⟨#[0xb1]⟩ 1 none ∈ Ts) (hd : decode cc pc = .ok (.invokespecial idx, 3)) (hfr : 1 ≤ Rm.frames) (hlo : 30 ≤ Rm.locals) (hst : st = []) (kk : WL B nL G A Q X cells slots (pc + 3) lv st) : WL B nL G A Q X cells slots pc lv (.ref a :: st) := by
  obtain ⟨p, l, e, R, s, m, args, below, meth, c⟩ := B
  obtain ⟨hx, hb, hml, hown, hts, hK, hO, hA2, hlk, hret, hR, hnm⟩ := C
  intro H locs ls hP hD hS hl
  dsimp only at hR
  subst hR
  subst hst
  refine W.objInit hx hb hown (hts _ hlink) (hts _ hinst) (hts _ hcode) rfl (by rw [hml]; exact hl.1) rfl hd hfr ?_ ?_
  · have h9 : 2 * (F0 m pc ls [Value.ref a]).monitorRoom + (List.map (fun v : Value => v.category) []).sum ≤ 8 := lv_room (by simp)
    have hlo : 30 ≤ R.locals := hlo
    show 2 * (F0 m pc ls [Value.ref a]).monitorRoom + (List.map (fun v : Value => v.category) []).sum + 12 ≤ R.locals
    omega
  · exact kk H locs ls hP hD hS hl
theorem l_new (C : CL B nL G A cc own nm Ts Rm) {Cn : String} {T : u_T} {N ci index : Nat} (hin : ∀ w ∈ u_ws Cn T N, w ∈ Ts) {ty : Nat → FieldType} (hty : ∀ k, k < N → parseFieldDescriptor (T k).2.2.1 = some (ty k)) (hcl : Cond.classLink own index Cn ∈ Ts) (hinst : Cond.instantiable Cn N ∈ Ts) (hini : Cond.initialized Cn ∈ Ts) (hc : vwCl[ci]? = some (Cn, T, N)) (fs : List Value) (hfs : ∀ j, j < N → defaultValue (ty j) = vp_V fs j) (hce : cells + 1 ≤ Rm.cells) (hsl : slots + N ≤ Rm.slots) (hd : decode cc pc = .ok (.new index, 3))
    (kk : ∀ q : Nat, WL B nL G A Q ((q, .inr (ci, fs)) :: X) (cells + 1) (slots + N) (pc + 3) lv (.ref q :: st)) : WL B nL G A Q X cells slots pc lv st := by
  obtain ⟨p, l, e, R, s, m, args, below, meth, c⟩ := B
  obtain ⟨hx, hb, hml, hown, hts, hK, hO, hA2, hlk, hret, hR, hnm⟩ := C
  intro H locs ls hP hD hS hl
  dsimp only at hR
  subst hR
  exact va_new (fs := fs) hx hb hts hin ty hty hown (hts _ hcl) (hts _ hinst) (hts _ hini) hK.1 hP hD hS hA2 hc hfs hce hsl hd fun q H1 hP1 hD1 hS1 => kk q H1 locs ls (vP_rot hP1) (vD_rot hD1) hS1 hl
theorem l_newa (C : CL B nL G A cc own nm Ts Rm) {z : Int} (n : Nat) (hz : z = (n : Int)) (hn0 : n < 5000) (harr : Cond.arrayClass .int ∈ Ts) (hce : cells + 1 ≤ Rm.cells) (hsl : slots + n ≤ Rm.slots) (hd : decode cc pc = .ok (.newarray .int, 2))
    (kk : ∀ q : Nat, WL B nL G A Q ((q, .inl (G.2.1.1, n, .inl (fun _ => 0))) :: X) (cells + 1) (slots + n) (pc + 2) lv (.ref q :: st)) : WL B nL G A Q X cells slots pc lv (vI z :: st) := by
  obtain ⟨p, l, e, R, s, m, args, below, meth, c⟩ := B
  obtain ⟨hx, hb, hml, hown, hts, hK, hO, hA2, hlk, hret, hR, hnm⟩ := C
  intro H locs ls hP hD hS hl
  dsimp only at hR
  subst hR
  subst hz
  have hcl : (Int32.ofInt (n : Int)).toNatClampNeg = n := by rw [oi_nat, nI_clamp (by omega)]
  refine va_newaK (atype := .int) hx hb (hts _ harr) rfl hd rfl (by rw [oi_nat]; exact nI_pos (by omega)) hcl (by show n * 4 ≤ _; omega) hce hsl rfl fun H1 cA e1 z1 o1 hAr hNm => ?_
  have hcA : cA = G.2.1.1 := by
    have h2 : s.vm.findClass ("[" ++ FieldType.int.toString) = some G.2.1.1 := (hK.1.2 0 _ rfl).2
    have h3 : s.vm.findClass ("[" ++ FieldType.int.toString) = some cA := hNm
    rw [h2] at h3
    exact (Option.some.inj h3).symm
  subst hcA
  have hk : ∀ (k : Nat) (x : Nat × va_E), X[k]? = some x → H1[x.1]? = H[x.1]? := fun k x hx => o1 x.1 ((hP k x hx).lt)
  refine kk H.size H1 locs ls (vP_rot ((hP.kept hk).app (fun k x hx => ?_))) (vD_rot (hD.push hP rfl (hA2 _ hS.1))) ⟨Nat.le_trans hS.1 (by omega), fun x h1 h2 => (o1 x (Nat.lt_of_lt_of_le h1 hS.1)).trans (hS.2.1 x h1 h2), hS.2.2⟩ hl
  have hz : k < 1 := (List.getElem?_eq_some_iff.mp hx).1
  rw [show k = 0 by omega] at hx
  cases hx
  show H1[H.size]? = some (vp_cell _ _)
  rw [e1]
  rfl
theorem l_put (C : CL B nL G A cc own nm Ts Rm) {Cn : String} {T : u_T} {N ci index a : Nat} {X' : va_W} (hin : ∀ w ∈ u_ws Cn T N, w ∈ Ts) {ty0 : Nat → FieldType} (hty : ∀ k, k < N → parseFieldDescriptor (T k).2.2.1 = some (ty0 k)) (hnm0 : ∀ a, a < N → ∀ b, b < N → a ≠ b → (T a).2.1 ≠ (T b).2.1) (q0 : Nat) {fs : List Value} (he : X[q0]? = some (a, .inr (ci, fs))) (hc : vwCl[ci]? = some (Cn, T, N)) (k : Nat) (hk : k < N) (hlink : Cond.fieldLink own index Cn (T k).2.1 (T k).2.2.1 ∈ Ts) (hcn : (T k).1 = Cn) (hfin : (T k).2.2.2 = false ∨ nm = "<init>" ∧ (T k).1 = own) {ty : FieldType} {v : Value} (hdt : parseFieldDescriptor (T k).2.2.1 = some ty) (hn : narrow ty v = v) (hfit : fits ty v = true) (hl9 : k < fs.length) (hd : decode cc pc = .ok (.putfield index, 3)) (hX : X.set q0 (a, .inr (ci, fs.set k v)) = X')
    (kk : WL B nL G A Q X' cells slots (pc + 3) lv st) : WL B nL G A Q X cells slots pc lv (v :: .ref a :: st) := by
  obtain ⟨p, l, e, R, s, m, args, below, meth, c⟩ := B
  obtain ⟨hx, hb, hml, hown, hts, hK, hO, hA2, hlk, hret, hR, hnm⟩ := C
  intro H locs ls hP hD hS hl
  dsimp only at hR
  subst hR
  subst hX
  have hsame : ∀ x, s.fieldFound? (T k).1 (T k).2.1 (T k).2.2.1 = some x → s.fieldFound? Cn (T k).2.1 (T k).2.2.1 = some x := fun x h => by rw [hcn] at h; exact h
  by_cases hf : (T k).2.2.2 = false
  · exact va_put hx hb hts hin ty0 hty hnm0 hown hK.1 hP hD hS q0 he hc k hk (hts _ hlink) hsame hf hdt hn hfit hl9 hd fun H1 locs1 hP1 hD1 hS1 => kk H1 locs1 ls hP1 hD1 hS1 hl
  · have hf2 : nm = "<init>" ∧ (T k).1 = own := hfin.resolve_left hf
    exact va_putF hx hb hts hin ty0 hty hnm0 hown hK.1 hP hD hS q0 he hc k hk (hts _ hlink) hsame (by simpa using hf) (hnm.trans hf2.1) hf2.2 hdt hn hfit hl9 hd fun H1 locs1 hP1 hD1 hS1 => kk H1 locs1 ls hP1 hD1 hS1 hl
theorem l_get (C : CL B nL G A cc own nm Ts Rm) {Cn : String} {T : u_T} {N ci index a : Nat} (hin : ∀ w ∈ u_ws Cn T N, w ∈ Ts) (q0 : Nat) {fs : List Value} (he : X[q0]? = some (a, .inr (ci, fs))) (hc : vwCl[ci]? = some (Cn, T, N)) (k : Nat) (hk : k < N) (hlink : Cond.fieldLink own index Cn (T k).2.1 (T k).2.2.1 ∈ Ts) (hcn : (T k).1 = Cn) {v : Value} (hv : fs[k]? = some v) (hd : decode cc pc = .ok (.getfield index, 3))
    (kk : WL B nL G A Q X cells slots (pc + 3) lv (v :: st)) : WL B nL G A Q X cells slots pc lv (.ref a :: st) := by
  obtain ⟨p, l, e, R, s, m, args, below, meth, c⟩ := B
  obtain ⟨hx, hb, hml, hown, hts, hK, hO, hA2, hlk, hret, hR, hnm⟩ := C
  intro H locs ls hP hD hS hl
  exact va_get hx hb hts hin hown hK.1 hP q0 he hc k hk (hts _ hlink) (fun x h => by rw [hcn] at h; exact h) hv hd (kk H locs ls hP hD hS hl)
theorem l_ret (C : CL B nL G A cc own nm Ts Rm) {post : va_W → Prop} {mc ms : Nat} (hd : decode cc pc = .ok (.return_, 1)) (hp : post X) (hm : cells = mc) (hs : slots = ms) : WL B nL G A (Ze B G A post mc ms) X cells slots pc lv [] := by
  obtain ⟨p, l, e, R, s, m, args, below, meth, c⟩ := B
  obtain ⟨hx, hb, hml, hown, hts, hK, hO, hA2, hlk, hret, hR, hnm⟩ := C
  intro H locs ls hP hD hS hl
  subst hm
  subst hs
  exact W.vret hx hb hret (fun t ht hW => ⟨rfl, ⟨X, hp, by rw [ht]; exact hP, hD⟩, hS.F ht⟩) hS.2.2 hd hlk
theorem l_perm (is : List Nat) {X' : va_W} (hn : va_nd is = true) (hs : is.filterMap (fun i => X[i]?) = X') (hs2 : is.map (fun i => X[i]?) = X'.map some) (kk : WL B nL G A Q X' cells slots pc lv st) : WL B nL G A Q X cells slots pc lv st :=
  fun H locs ls hP hD hS hl => kk H locs ls (hP.sub is hs) (hD.sub is hn hs2) hS hl
/-- behind a call: the callee's cells before the others -/
theorem vl_join {A0 : Nat → Prop} {D : va_G} {cl : List vw_C} {X Y : va_W} {x : Nat × va_E} {H H1 : Heap} (hP : va_P D cl (x :: X) H) (hD : va_D A0 (x :: X)) (hA : ∀ q, H.size ≤ q → A0 q) (hk : ∀ q : Nat, q < H.size → ¬ Fl x.1 H.size q → H1[q]? = H[q]?) (hP1 : va_P D cl Y H1) (hD1 : va_D (Fl x.1 H.size) Y) : va_P D cl (Y ++ X) H1 ∧ va_D A0 (Y ++ X) := by
  have hX : ∀ (i : Nat) (q : Nat × va_E), X[i]? = some q → q.1 < H.size ∧ ¬ Fl x.1 H.size q.1 := by
    intro i q hq
    have h1 := (hP (i + 1) q hq).lt
    refine ⟨h1, fun h => ?_⟩
    rcases h with h | h
    · have := hD.1 (i + 1) 0 q x hq rfl h
      omega
    · omega
  refine ⟨fun i q hq => ?_, fun i j p q hi hj he => ?_, fun i q hq => ?_⟩
  · by_cases hi : i < Y.length
    · rw [List.getElem?_append_left hi] at hq
      exact hP1 i q hq
    · rw [List.getElem?_append_right (by omega)] at hq
      have h2 := hX _ q hq
      exact (hP (i - Y.length + 1) q hq).kept (hk _ h2.1 h2.2)
  · by_cases h1 : i < Y.length <;> by_cases h2 : j < Y.length
    · rw [List.getElem?_append_left h1] at hi
      rw [List.getElem?_append_left h2] at hj
      exact hD1.1 i j p q hi hj he
    · rw [List.getElem?_append_left h1] at hi
      rw [List.getElem?_append_right (by omega)] at hj
      have h3 := hD1.2 i p hi
      have h4 := hX _ q hj
      rw [he] at h3
      exact absurd h3 h4.2
    · rw [List.getElem?_append_right (by omega)] at hi
      rw [List.getElem?_append_left h2] at hj
      have h3 := hD1.2 j q hj
      have h4 := hX _ p hi
      rw [← he] at h3
      exact absurd h3 h4.2
    · rw [List.getElem?_append_right (by omega)] at hi hj
      have := hD.1 (i - Y.length + 1) (j - Y.length + 1) p q hi hj he
      omega
  · by_cases hi : i < Y.length
    · rw [List.getElem?_append_left hi] at hq
      rcases hD1.2 i q hq with h | h
      · rw [h]
        exact hD.2 0 x rfl
      · exact hA _ h
    · rw [List.getElem?_append_right (by omega)] at hq
      exact hD.2 (i - Y.length + 1) q hq
theorem vl_back {A0 : Nat → Prop} {p : Program} {l : Launch} {e : Env} {R : Room} {s : State} {m : MethodId} {args : Array Value} {below : List Frame} {meth : Method} {c : Code} {H : Heap} {locs : List Loc} {cells slots pc mc ms : Nat} {Q : State → Prop} {ls : Array Slot} {rest st0 : List Value} {a : Array Value} {x : Nat × va_E} {X : va_W} {post : va_W → Prop}
    (hr : va_Run p l e R s m args below meth c H locs cells slots mc ms (F0 m pc ls st0) rest (Ql G post (Fl x.1 H.size) a) (Fl x.1 H.size)) (hP : va_P G.1 vwCl (x :: X) H) (hD : va_D A0 (x :: X)) (hS : va_S A0 s.heap H locs) (hA : ∀ q, s.heap.size ≤ q → A0 q)
    (kk : ∀ (Y : va_W) (H1 : Heap) (locs1 : List Loc), post Y → va_P G.1 vwCl (Y ++ X) H1 → va_D A0 (Y ++ X) → va_S A0 s.heap H1 locs1 → W p l e R s m args below meth c H1 locs1 (cells + mc) (slots + ms) Q (F0 m (pc + 3) ls rest)) : W p l e R s m args below meth c H locs cells slots Q (F0 m pc ls st0) := by
  have hA1 : ∀ q, H.size ≤ q → A0 q := fun q h => hA q (Nat.le_trans hS.1 h)
  have hF : ∀ q, Fl x.1 H.size q → A0 q := fun q h => by
    rcases h with rfl | h
    · exact hD.2 0 x rfl
    · exact hA1 q h
  intro T hT X9
  obtain ⟨v, st₀, t, T', L, h0, X', hL, e1, e2, ⟨hv, ⟨Y, hp, hP1, hD1⟩, hz, hk⟩, st⟩ := hr T hT X9
  cases hv
  rw [h0] at hz hk
  obtain ⟨hP2, hD2⟩ := vl_join hP hD hA1 hk hP1 hD1
  obtain ⟨t2, a1, b1⟩ := kk Y T'.heap (locs ++ L) hp (by rw [e1]; exact hP2) hD2
    ⟨Nat.le_trans hS.1 (by rw [e1]; exact hz), fun q h1 h2 => by rw [e1, hk q (Nat.lt_of_lt_of_le h1 hS.1) (fun z => h2 (hF q z))]; exact hS.2.1 q h1 h2, fun q hq => by
      rcases List.mem_append.mp hq with h | h
      · exact hS.2.2 q h
      · exact hF _ (hL q h)⟩ T' rfl X'
  exact ⟨t2, st t2 a1, b1⟩
theorem l_call (C : CL B nL G A cc own nm Ts Rm) {y : MethodName} {ws ws' : List Cond} {rm : Room} {mc ms index maxL q1 : Nat} {E1 : va_E} {bytes : ByteArray} {rest : List Value} {post : va_W → Prop} (As : List Value) (n : Nat)
    (hM : ConL B.2.1 G y ws rm q1 E1 (.ref q1 :: As) post mc ms) (hg : GoodIn Ts ws) (hw : ws = Cond.code y bytes maxL none :: ws') (hrc : rm.cells = mc) (hrs : rm.slots = ms) (hini : Cond.initialized y.cls ∈ Ts) (hlk0 : Cond.methodLink own index y ∈ Ts) (hinm : Cond.instanceMethod y ∈ Ts) (hy1 : y.name = "<init>")
    (hdc : y.cls ≠ "java/lang/invoke/MethodHandle" ∧ y.cls ≠ "java/lang/invoke/VarHandle" ∧ (parseMethodDescriptor y.desc).map (fun d => d.parameters.length) = some n) (h1 : rm.frames + 1 ≤ Rm.frames) (h2 : 8 + (maxL + 11) + rm.locals ≤ Rm.locals) (hf : cells + mc ≤ Rm.cells ∧ slots + ms ≤ Rm.slots)
    (hn : As.length = n) (hst : st = As.reverse ++ .ref q1 :: rest) (hcat : (rest.map fun v => v.category).sum ≤ 8) (hd : decode cc pc = .ok (.invokespecial index, 3))
    (kk : ∀ Y, post Y → WL B nL G A Q (Y ++ X) (cells + mc) (slots + ms) (pc + 3) lv rest) : WL B nL G A Q ((q1, E1) :: X) cells slots pc lv st := by
  obtain ⟨p, l, e, R, s, m, args, below, meth, c⟩ := B
  obtain ⟨hx, hb, hml, hown, hts, hK, hO, hA2, hlk, hret, hR, hnm⟩ := C
  intro H locs ls hP hD hS hl
  dsimp only at hR
  subst hR
  subst hst
  exact vl_back (x := (q1, E1)) (va_runI (As := As) (rest := rest) ⟨hx, hb, hml, hown, hts⟩ (hM H.size) (cwI n hts hg hw hrc hrs (hts _ hini) (hts _ hlk0) (hts _ hinm) hy1 hdc ⟨h1, h2⟩) ⟨Pl.blind, fun U hU hW => ⟨rfl, by rw [hU], by rw [hU]; exact hP 0 _ rfl, Kn.warm hW hK, va_AO.moved hW.alike hO⟩⟩ rfl hn hl.1 rfl (lv_room hcat) hd hf) hP hD hS hA2 (fun Y H1 locs1 hp hP1 hD1 hS1 => kk Y hp H1 locs1 ls hP1 hD1 hS1 hl)
end ROWSL
