/-! Our own words over the kit's rows: one memory of numbers for the whole world, keys for its cells. -/
abbrev Ky : Type := Nat × Nat × Nat
abbrev Mm : Type := Ky → Nat → Int
abbrev vI (z : Int) : Value := .int (Int32.ofInt z)
def inR (z : Int) : Prop := -2147483648 ≤ z ∧ z < 2147483648
def rng (w : Mm) : Prop := ∀ k j, inR (w k j)
def st1 (w : Mm) (k : Ky) (j : Nat) (x : Int) : Mm := fun k' j' => if k' = k ∧ j' = j then x else w k' j'
theorem st1_eq (w : Mm) (k : Ky) (j : Nat) (x : Int) : st1 w k j x k j = x := by simp [st1]
theorem st1_j {w : Mm} {k : Ky} {j j' : Nat} {x : Int} (h : j' ≠ j) : st1 w k j x k j' = w k j' := by simp [st1, h]
theorem st1_k {w : Mm} {k k' : Ky} {j j' : Nat} {x : Int} (h : k' ≠ k) : st1 w k j x k' j' = w k' j' := by simp [st1, h]
theorem rng_st {w : Mm} {k : Ky} {j : Nat} {x : Int} (h : rng w) (hx : inR x) : rng (st1 w k j x) := by
  intro k' j'
  unfold st1
  split
  · exact hx
  · exact h k' j'
theorem tI {z : Int} (h : inR z) : (Int32.ofInt z).toInt = z := by
  refine Int32.toInt_ofInt_of_le ?_ ?_
  · have := h.1; omega
  · have := h.2; omega
theorem inR_of (x : Int32) : inR x.toInt := by
  have h1 := Int32.le_toInt x
  have h2 := Int32.toInt_lt x
  exact ⟨by omega, by omega⟩
/-- what kind of cell a key is: 0 Land, 1 Sounds, 2 Village, 3 DrumTalk, 4 State, 5 Model, 6 a row of numbers, 7 the villages, 8 a row of longs, 9 none -/
def kd (k : Ky) : Nat × Nat :=
  if k.1 ≤ 1 then
    if k.2.1 ≤ 7 then
      (match k.2.2 with | 0 => (2, 0) | 1 => (6, 5) | 2 => (6, 12) | 3 => (1, 0) | 4 => (6, 112) | 5 => (6, 112) | 6 => (6, 112) | 7 => (6, 112) | _ => (9, 0))
    else if k.2.1 = 8 then
      (match k.2.2 with | 0 => (0, 0) | 1 => (6, 12) | 2 => (6, 12) | 3 => (7, 8) | _ => (9, 0))
    else (9, 0)
  else if k.2.1 = 0 then
    (match k.1 with
    | 2 => (match k.2.2 with | 0 => (3, 0) | _ => (9, 0))
    | 3 => (match k.2.2 with | 0 => (5, 0) | 1 => (6, 8) | 2 => (6, 8) | 3 => (6, 8) | 4 => (6, 8) | 5 => (6, 8) | 6 => (6, 12) | 7 => (6, 12) | _ => (9, 0))
    | 4 | 5 => (match k.2.2 with | 0 => (4, 0) | 1 => (6, 8) | 2 => (6, 8) | 3 => (6, 8) | 4 => (6, 8) | 5 => (6, 40) | 6 => (6, 96) | 7 => (6, 8) | 8 => (6, 1024) | 9 => (6, 1024) | 10 => (6, 1024) | 11 => (6, 1024) | 12 => (6, 1024) | _ => (9, 0))
    | 6 => (match k.2.2 with | 0 => (8, 1) | _ => (9, 0))
    | 7 => (match k.2.2 with | 0 => (6, 10) | 1 => (6, 8) | _ => (9, 0))
    | _ => (9, 0))
  else (9, 0)
/-- the world's fixed things: the classes' numbers; which keys stand; where -/
abbrev Gt : Type := va_G × (ClassId × ClassId × ClassId) × (Ky → Prop) × (Ky → Nat)
def adr (G : Gt) (k : Ky) : Nat := G.2.2.2 k
def okk (G : Gt) (k : Ky) : Prop := G.2.2.1 k
def flds (ad : Ky → Nat) (w : Mm) (k : Ky) (ci : Nat) : List Value := match ci with
  | 0 => [.ref (ad (k.1, 8, 3)), vI (w k 1), .ref (ad (k.1, 8, 1)), .ref (ad (k.1, 8, 2)), vI (w k 4), vI (w k 5), vI (w k 6)]
  | 1 => [.ref (ad (k.1, k.2.1, 4)), .ref (ad (k.1, k.2.1, 5)), .ref (ad (k.1, k.2.1, 6)), .ref (ad (k.1, k.2.1, 7)), vI (w k 4)]
  | 2 => [vI (w k 0), vI (w k 1), vI (w k 2), vI (w k 3), vI (w k 4), vI (w k 5), vI (w k 6), vI (w k 7), .ref (ad (k.1, k.2.1, 1)), vI (w k 9), .ref (ad (k.1, k.2.1, 2)), .ref (ad (k.1, k.2.1, 3)), vI (w k 12)]
  | 3 => [.ref (ad (0, 8, 0)), .ref (ad (1, 8, 0))]
  | 4 => [vI (w k 0), vI (w k 1), vI (w k 2), .ref (ad (k.1, 0, 1)), .ref (ad (k.1, 0, 2)), .ref (ad (k.1, 0, 3)), .ref (ad (k.1, 0, 4)), .ref (ad (k.1, 0, 5)), .ref (ad (k.1, 0, 6)), .ref (ad (k.1, 0, 7)), .ref (ad (k.1, 0, 8)), .ref (ad (k.1, 0, 9)), .ref (ad (k.1, 0, 10)), .ref (ad (k.1, 0, 11)), .ref (ad (k.1, 0, 12)), .ref (ad (3, 0, 0))]
  | 5 => [vI (w k 0), vI (w k 1), vI (w k 2), .ref (ad (3, 0, 1)), .ref (ad (3, 0, 2)), .ref (ad (3, 0, 3)), .ref (ad (3, 0, 4)), .ref (ad (3, 0, 5)), .ref (ad (3, 0, 6)), .ref (ad (3, 0, 7)), .ref (ad (4, 0, 0)), .ref (ad (5, 0, 0))]
  | _ => []
def ent (c3 : ClassId × ClassId × ClassId) (ad : Ky → Nat) (w : Mm) (k : Ky) : va_E := match kd k with
  | (6, n) => .inl (c3.1, n, .inl (fun j => Int32.ofInt (w k j)))
  | (7, n) => .inl (c3.2.1, n, .inr (.inr (.inr (.inr (fun j => some (ad (k.1, j, 0)))))))
  | (8, n) => .inl (c3.2.2, n, .inr (.inl (fun j => Int64.ofInt (w k j))))
  | (ci, _) => .inr (ci, flds ad w k ci)
def Pic (G : Gt) (w : Mm) (H : Heap) : Prop := rng w ∧ ∀ k, okk G k → va_at G.1 vwCl (adr G k, ent G.2.1 (adr G) w k) H
abbrev tysG (G : Gt) : List (ClassId × FieldType) := [(G.2.1.1, .int), (G.2.1.2.1, .object RX2), (G.2.1.2.2, .long)]
/-! what the tables say besides: links within a nest, texts, two statics of Throwable -/
def nwF : List (String × Nat × String × String × String × String) := [("DrumTalkModel", 106, "DrumTalkModel$State", "queue", "[I", "DrumTalkModel"), ("DrumTalkModel", 112, "DrumTalkModel$State", "beat", "I", "DrumTalkModel"), ("DrumTalkModel", 115, "DrumTalkModel$State", "sounds", "I", "DrumTalkModel"), ("DrumTalkModel", 118, "DrumTalkModel$State", "begun", "I", "DrumTalkModel"), ("DrumTalkModel", 43, "DrumTalkModel$State", "known", "[I", "DrumTalkModel"), ("DrumTalkModel", 69, "DrumTalkModel$State", "drum", "[I", "DrumTalkModel"), ("DrumTalkModel", 72, "DrumTalkModel$State", "drums", "[I", "DrumTalkModel"), ("DrumTalkModel", 82, "DrumTalkModel$State", "queued", "[I", "DrumTalkModel"), ("DrumTalkModel", 96, "DrumTalkModel$State", "left", "[I", "DrumTalkModel"), ("DrumTalkModel", 99, "DrumTalkModel$State", "drowned", "[I", "DrumTalkModel"), ("DrumTalkModel$State", 100, "DrumTalkModel", "cliff", "[I", "DrumTalkModel"), ("DrumTalkModel$State", 123, "DrumTalkModel", "phrases", "I", "DrumTalkModel"), ("DrumTalkModel$State", 72, "DrumTalkModel", "from", "[I", "DrumTalkModel"), ("DrumTalkModel$State", 75, "DrumTalkModel", "beats", "[I", "DrumTalkModel"), ("DrumTalkModel$State", 82, "DrumTalkModel", "length", "[I", "DrumTalkModel"), ("DrumTalkModel$State", 89, "DrumTalkModel", "villages", "I", "DrumTalkModel")]
def nwM : List (String × Nat × MethodName × String) := [("DrumTalk$Village", 30, yX1_init, "DrumTalk"), ("DrumTalkModel", 33, yX4_init, "DrumTalkModel"), ("DrumTalkModel$State", 78, yX5_far, "DrumTalkModel")]
def nwS : List (Nat × String) := [(109, "what is 0 to 9"), (115, "no such place in the queue"), (133, "what is 0 to 7"), (143, "beats are 1 to 200"), (165, "beats are 1 to 100"), (185, "no such village"), (187, "no such phrase"), (28, "a place is 0 to 30, a drum 1 to 9"), (43, "there are 8 villages, or one is at this place"), (54, "a drum is 1 to 9"), (65, "a village is awake from 0 to 23 on, for 1 to 24 beats"), (77, "a phrase has 2 to 8 tones, 1 or 2 each"), (85, "there are 12 phrases, or this is one already"), (98, "5 phrases are in the queue")]
def nwB : List Cond := ((vx_atS RX3 30 "java/lang/IllegalArgumentException" ["java/lang/RuntimeException", "java/lang/Exception"]) ++ (vx_atS RX3 45 "java/lang/IllegalStateException" ["java/lang/RuntimeException", "java/lang/Exception"]) ++ (vx_atS RX3 111 "java/lang/IndexOutOfBoundsException" ["java/lang/RuntimeException", "java/lang/Exception"])).filter (fun w => !goodWord w)
theorem nwB_kind : ∀ w ∈ nwB, (match w with | .castable _ _ => true | .declares _ => true | _ => false) = true := List.all_eq_true.mp (by decide +kernel)
theorem nwB_same {u U : State} (hv : U.vm = u.vm) (h : ∀ w ∈ nwB, va_Nw w u) : ∀ w ∈ nwB, va_Nw w U := by
  intro w hw
  have hk := nwB_kind w hw
  have h1 := h w hw
  cases w <;> first | exact va_Nw.same rfl hv.symm h1 | (exfalso; simp at hk; done)
theorem nwB_warm {s U : State} (hW : s.WarmedH U.vm) (h : ∀ w ∈ nwB, va_Nw w s) : ∀ w ∈ nwB, va_Nw w U := by
  intro w hw
  have hk := nwB_kind w hw
  have h1 := h w hw
  cases w <;> first | exact va_Nw.warmC hW h1 | exact va_Nw.warmD hW h1 | (exfalso; simp at hk; done)
def Kn (G : Gt) (U : State) : Prop := va_K G.1 vwCl (tysG G) U ∧ (∀ q ∈ nwF, va_Nw (.fieldLinkNest q.1 q.2.1 q.2.2.1 q.2.2.2.1 q.2.2.2.2.1 q.2.2.2.2.2) U) ∧ (∀ q ∈ nwM, va_Nw (.methodLinkNest q.1 q.2.1 q.2.2.1 q.2.2.2) U) ∧ (∀ q ∈ nwS, ∃ a : Nat, vk_R RX3 q.1 q.2 a U) ∧ ∀ w ∈ nwB, va_Nw w U
theorem Kn.same {G : Gt} {u U : State} (hv : U.vm = u.vm) (h : Kn G u) : Kn G U := by
  obtain ⟨h1, h2, h3, h4, h5⟩ := h
  refine ⟨va_K.moved (by rw [hv]; exact Vm.Alike.refl _) h1, fun q hq => va_Nw.same rfl hv.symm (h2 q hq), fun q hq => va_Nw.same rfl hv.symm (h3 q hq), fun q hq => ?_, nwB_same hv h5⟩
  obtain ⟨a, ha⟩ := h4 q hq
  exact ⟨a, vk_R.same hv ha⟩
theorem Kn.warm {G : Gt} {s U : State} (hW : s.WarmedH U.vm) (h : Kn G s) : Kn G U := by
  obtain ⟨h1, h2, h3, h4, h5⟩ := h
  refine ⟨va_K.moved hW.alike h1, fun q hq => va_Nw.warmF hW (h2 q hq), fun q hq => va_Nw.warmM hW (h3 q hq), fun q hq => ?_, nwB_warm hW h5⟩
  obtain ⟨a, ha⟩ := h4 q hq
  exact ⟨a, vk_R.warm hW ha⟩
def Zn (A : Nat → Prop) (U : State) (H : Heap) : Prop := vx_Zq Bundle.tN "UNASSIGNED_STACK" Bundle.steD A U H ∧ vx_Zq Bundle.tN "SUPPRESSED_SENTINEL" Bundle.listD A U H
theorem Zn.moved {A : Nat → Prop} {u U : State} {H : Heap} (hvm : u.vm.Alike U.vm) (h : Zn A u H) : Zn A U H := ⟨vx_Zq.moved hvm h.1, vx_Zq.moved hvm h.2⟩
theorem Zn.kept {A B : Nat → Prop} {U : State} {H H1 : Heap} (h : Zn A U H) (hq : ∀ a : Nat, a < H.size → ¬ A a → H1[a]? = H[a]?) (hAB : ∀ q, B q → A q) : Zn B U H1 := ⟨vx_Zq.narrow (vx_Zq.kept h.1 hq) hAB, vx_Zq.narrow (vx_Zq.kept h.2 hq) hAB⟩
def Gok (G : Gt) : Prop := (∀ k k', okk G k → okk G k' → adr G k = adr G k' → k = k') ∧ ∀ k, (kd k).1 < 9 → k.1 ≤ 6 → okk G k
abbrev Bx : Type := Program × Launch × Env × Room × State × MethodId × Array Value × List Frame × Method × Code
/-- a walk over any heap that holds the memory w -/
def Wm (B : Bx) (nL : Nat) (G : Gt) (A : Nat → Prop) (Q : State → Prop) (w : Mm) (cells slots pc : Nat) (lv : List (Nat × Value)) (st : List Value) : Prop :=
  ∀ (H : Heap) (locs : List Loc) (ls : Array Slot), Pic G w H → va_S A B.2.2.2.2.1.heap H locs → lv_has ls nL lv → W B.1 B.2.1 B.2.2.1 B.2.2.2.1 B.2.2.2.2.1 B.2.2.2.2.2.1 B.2.2.2.2.2.2.1 B.2.2.2.2.2.2.2.1 B.2.2.2.2.2.2.2.2.1 B.2.2.2.2.2.2.2.2.2 H locs cells slots Q (F0 B.2.2.2.2.2.1 pc ls st)
def Ag (G : Gt) (sz : Nat) : Nat → Prop := fun q => (∃ k, okk G k ∧ adr G k = q) ∨ sz ≤ q
/-- what stands while a method is walked -/
def Cx (B : Bx) (nL : Nat) (G : Gt) (A : Nat → Prop) (cc : ByteArray) (own : String) (Ts : List Cond) (ret : Option FieldType) (Rm : Room) : Prop :=
  B.1.tables.exec = Jvm.exec ∧ B.2.2.2.2.2.2.2.2.2.code = cc ∧ B.2.2.2.2.2.2.2.2.2.maxLocals = nL ∧ B.2.2.2.2.1.vm.findClass own = some B.2.2.2.2.2.1.cls ∧ (∀ w ∈ Ts, w.before B.2.2.2.2.2.2.1 B.2.2.2.2.1 = true) ∧ Kn G B.2.2.2.2.1 ∧ Gok G ∧ (∀ k, okk G k → A (adr G k)) ∧ (∀ q : Nat, B.2.2.2.2.1.heap.size ≤ q → A q) ∧ B.2.2.2.2.2.2.2.2.1.locks = false ∧ B.2.2.2.2.2.2.2.2.1.sig.returnType = ret ∧ B.2.2.2.1 = Rm ∧ Zn A B.2.2.2.2.1 B.2.2.2.2.1.heap
def Qw (G : Gt) (v : Option Value) (w' : Mm) (A : Nat → Prop) : Array Value → State → Outcome → State → Prop := fun _ st oc t => oc = .returned v ∧ Pic G w' t.heap ∧ va_F A st t
def Pw (G : Gt) (w : Mm) (sz : Nat) (av : List Value) : Array Value → State → Prop := fun v U => v = av.toArray ∧ U.heap.size = sz ∧ Pic G w U.heap ∧ Kn G U ∧ Zn (Ag G sz) U U.heap
theorem Pw.blind {G : Gt} {w : Mm} {sz : Nat} {av : List Value} : FrameBlind (Pw G w sz av) := fun a U g mk q => by
  obtain ⟨q0, q1, qP, qK, qZ⟩ := q
  exact ⟨q0, q1, qP, Kn.same (by rfl) qK, qZ.moved (Vm.Alike.refl U.vm)⟩
/-- a contract over the whole world: it answers v, and the memory is w' -/
def Con (l : Launch) (G : Gt) (y : MethodName) (ws : List Cond) (rm : Room) (w : Mm) (av : List Value) (v : Option Value) (w' : Mm) (mc ms : Nat) : Prop :=
  ∀ sz : Nat, Met l y ws rm (Pw G w sz av) (Qw G v w' (Ag G sz)) mc ms (Ag G sz)
abbrev Qe (B : Bx) (G : Gt) (A : Nat → Prop) (v : Option Value) (w' : Mm) (mc ms : Nat) : State → Prop := MQ B.2.2.2.2.2.2.2.1 (Qw G v w' A) B.2.2.2.2.2.2.1 B.2.2.2.2.1 mc ms A
theorem Con.head {l : Launch} {G : Gt} {y : MethodName} {ws ws' : List Cond} {rm : Room} {w : Mm} {av : List Value} {v : Option Value} {w' : Mm} {mc ms : Nat} {cc : ByteArray} {nL : Nat} {ret : Option FieldType}
    (hG : Gok G) (hy : plainName y.cls = true) (hw : ws = Cond.code y cc nL ret :: ws') (hn : (lg_sl av).length ≤ nL)
    (body : ∀ (B : Bx) (A : Nat → Prop), B.2.1 = l → Cx B nL G A cc y.cls ws ret rm → rng w → Wm B nL G A (Qe B G A v w' mc ms) w 0 0 0 (lv_args 0 av) []) : Con l G y ws rm w av v w' mc ms := by
  intro sz
  refine Met.ofW (cc := cc) (maxL := nL) (ret := ret) hy hw ?_
  intro p e s m args below meth c s₁ B hml hv
  obtain ⟨rfl, hsz, hP, hK, hZ⟩ := hv
  have hts := atoms_spec (ws := ws) B.pre
  have hown : s.vm.findClass y.cls = some m.cls := findClass_of_methodNamed B.named
  subst hsz
  have hl := lv_entry av hn
  rw [lg_entry_eq]
  refine body (p, l, e, (headSpec ws rm).room, s, m, av.toArray, below, meth, c) (Ag G s.heap.size) rfl ⟨B.exec, B.bytes, hml, hown, hts, hK, hG, fun k hk => Or.inl ⟨k, hk, rfl⟩, fun q h => Or.inr h, B.notSynchronized, B.returns, rfl, hZ⟩ hP.1 s.heap [] _ hP va_S.rf hl

/-! numbers -/
theorem ci_eq1 {a b : Int} (ha : inR a) (hb : inR b) (h : Int32.ofInt a = Int32.ofInt b) : a = b := by rw [← tI ha, ← tI hb, h]
theorem ci_eq2 {a b : Int} (_ : inR a) (_ : inR b) (h : ¬ Int32.ofInt a = Int32.ofInt b) : ¬ a = b := fun q => h (by rw [q])
theorem ci_ne1 {a b : Int} (_ : inR a) (_ : inR b) (h : ¬ Int32.ofInt a = Int32.ofInt b) : ¬ a = b := fun q => h (by rw [q])
theorem ci_ne2 {a b : Int} (ha : inR a) (hb : inR b) (h : Int32.ofInt a = Int32.ofInt b) : a = b := by rw [← tI ha, ← tI hb, h]
theorem ci_lt {a b : Int} (ha : inR a) (hb : inR b) : Int32.ofInt a < Int32.ofInt b ↔ a < b := by rw [Int32.lt_iff_toInt_lt, tI ha, tI hb]
theorem ci_le {a b : Int} (ha : inR a) (hb : inR b) : Int32.ofInt a ≤ Int32.ofInt b ↔ a ≤ b := by rw [Int32.le_iff_toInt_le, tI ha, tI hb]
theorem ci_lt1 {a b : Int} (ha : inR a) (hb : inR b) (h : Int32.ofInt a < Int32.ofInt b) : a < b := (ci_lt ha hb).mp h
theorem ci_lt2 {a b : Int} (ha : inR a) (hb : inR b) (h : ¬ Int32.ofInt a < Int32.ofInt b) : b ≤ a := Int.not_lt.mp (fun q => h ((ci_lt ha hb).mpr q))
theorem ci_ge1 {a b : Int} (ha : inR a) (hb : inR b) (h : Int32.ofInt b ≤ Int32.ofInt a) : b ≤ a := (ci_le hb ha).mp h
theorem ci_ge2 {a b : Int} (ha : inR a) (hb : inR b) (h : ¬ Int32.ofInt b ≤ Int32.ofInt a) : a < b := Int.not_le.mp (fun q => h ((ci_le hb ha).mpr q))
theorem ci_gt1 {a b : Int} (ha : inR a) (hb : inR b) (h : Int32.ofInt b < Int32.ofInt a) : b < a := (ci_lt hb ha).mp h
theorem ci_gt2 {a b : Int} (ha : inR a) (hb : inR b) (h : ¬ Int32.ofInt b < Int32.ofInt a) : a ≤ b := Int.not_lt.mp (fun q => h ((ci_lt hb ha).mpr q))
theorem ci_le1 {a b : Int} (ha : inR a) (hb : inR b) (h : Int32.ofInt a ≤ Int32.ofInt b) : a ≤ b := (ci_le ha hb).mp h
theorem ci_le2 {a b : Int} (ha : inR a) (hb : inR b) (h : ¬ Int32.ofInt a ≤ Int32.ofInt b) : b < a := Int.not_le.mp (fun q => h ((ci_le ha hb).mpr q))
theorem inR_0 : inR 0 := ⟨by decide, by decide⟩
theorem oi0 : Int32.ofInt 0 = 0 := rfl
theorem c0_eq1 {a : Int} (ha : inR a) (h : Int32.ofInt a = 0) : a = 0 := ci_eq1 ha inR_0 h
theorem c0_eq2 {a : Int} (ha : inR a) (h : ¬ Int32.ofInt a = 0) : ¬ a = 0 := ci_eq2 ha inR_0 h
theorem c0_ne1 {a : Int} (ha : inR a) (h : ¬ Int32.ofInt a = 0) : ¬ a = 0 := ci_eq2 ha inR_0 h
theorem c0_ne2 {a : Int} (ha : inR a) (h : Int32.ofInt a = 0) : a = 0 := ci_eq1 ha inR_0 h
theorem c0_lt1 {a : Int} (ha : inR a) (h : Int32.ofInt a < 0) : a < 0 := ci_lt1 ha inR_0 h
theorem c0_lt2 {a : Int} (ha : inR a) (h : ¬ Int32.ofInt a < 0) : 0 ≤ a := ci_lt2 ha inR_0 h
theorem c0_ge1 {a : Int} (ha : inR a) (h : 0 ≤ Int32.ofInt a) : 0 ≤ a := ci_ge1 ha inR_0 h
theorem c0_ge2 {a : Int} (ha : inR a) (h : ¬ 0 ≤ Int32.ofInt a) : a < 0 := ci_ge2 ha inR_0 h
theorem c0_gt1 {a : Int} (ha : inR a) (h : 0 < Int32.ofInt a) : 0 < a := ci_gt1 ha inR_0 h
theorem c0_gt2 {a : Int} (ha : inR a) (h : ¬ 0 < Int32.ofInt a) : a ≤ 0 := ci_gt2 ha inR_0 h
theorem c0_le1 {a : Int} (ha : inR a) (h : Int32.ofInt a ≤ 0) : a ≤ 0 := ci_le1 ha inR_0 h
theorem c0_le2 {a : Int} (ha : inR a) (h : ¬ Int32.ofInt a ≤ 0) : 0 < a := ci_le2 ha inR_0 h
theorem div_ne {b : Int} (h : 0 < b) (h2 : b < 2147483648) : ¬ Int32.ofInt b = 0 := fun q => by
  have := c0_eq1 ⟨by omega, h2⟩ q
  omega
theorem div_eq {a b : Int} (ha : 0 ≤ a) (ha2 : a < 2147483648) (hb : 0 < b) (hb2 : b < 2147483648) : Int32.ofInt a / Int32.ofInt b = Int32.ofInt (a / b) := by
  have h1 : (Int32.ofInt a).toInt = a := tI ⟨by omega, ha2⟩
  have h2 : (Int32.ofInt b).toInt = b := tI ⟨by omega, hb2⟩
  have h3 : 0 ≤ a / b := Int.ediv_nonneg ha (by omega)
  have h4 : a / b ≤ a := Int.ediv_le_self b ha
  apply Int32.toInt_inj.mp
  rw [Int32.toInt_div_of_ne_right _ _ (fun q => by rw [q] at h2; simp at h2; omega), h1, h2, tI ⟨by omega, by omega⟩]
  exact Int.tdiv_eq_ediv_of_nonneg ha
theorem rem_eq {a b : Int} (ha : 0 ≤ a) (ha2 : a < 2147483648) (hb : 0 < b) (hb2 : b < 2147483648) : Int32.ofInt a - Int32.ofInt a / Int32.ofInt b * Int32.ofInt b = Int32.ofInt (a % b) := by
  rw [div_eq ha ha2 hb hb2, ← Int32.ofInt_mul, ← Int32.ofInt_sub]
  congr 1
  have := Int.emod_add_mul_ediv a b
  rw [Int.mul_comm (a / b) b]
  omega
theorem i2l_eq {a : Int} (ha : inR a) : (Int32.ofInt a).toInt64 = Int64.ofInt a := by
  rw [← Int64.ofInt_int32ToInt, tI ha]

section ROWS
variable {B : Bx} {nL : Nat} {G : Gt} {A : Nat → Prop} {cc : ByteArray} {own : String} {Ts : List Cond} {ret : Option FieldType} {Rm : Room} {Q : State → Prop} {w : Mm} {cells slots pc : Nat} {lv : List (Nat × Value)} {st : List Value}

theorem r_iconst (C : Cx B nL G A cc own Ts ret Rm) {n : Int} (hd : decode cc pc = .ok (.iconst n, 1))  (kk : Wm B nL G A Q w cells slots (pc + 1) lv (vI n :: st)) : Wm B nL G A Q w cells slots pc lv (st) := by
  obtain ⟨p, l, e, R, s, m, args, below, meth, c⟩ := B
  intro H locs ls hP hS hl
  have kk := kk H locs ls hP hS hl
  
  exact lv_iconst C.1 C.2.1 hd rfl kk

theorem r_bipush (C : Cx B nL G A cc own Ts ret Rm) {n : Int} (hd : decode cc pc = .ok (.bipush n, 2)) (hn : (Int8.ofInt n).toInt32 = Int32.ofInt n) (kk : Wm B nL G A Q w cells slots (pc + 2) lv (vI n :: st)) : Wm B nL G A Q w cells slots pc lv (st) := by
  obtain ⟨p, l, e, R, s, m, args, below, meth, c⟩ := B
  intro H locs ls hP hS hl
  have kk := kk H locs ls hP hS hl
  
  exact lv_bipush C.1 C.2.1 hd hn kk

theorem r_sipush (C : Cx B nL G A cc own Ts ret Rm) {n : Int} (hd : decode cc pc = .ok (.sipush n, 3)) (hn : (Int16.ofInt n).toInt32 = Int32.ofInt n) (kk : Wm B nL G A Q w cells slots (pc + 3) lv (vI n :: st)) : Wm B nL G A Q w cells slots pc lv (st) := by
  obtain ⟨p, l, e, R, s, m, args, below, meth, c⟩ := B
  intro H locs ls hP hS hl
  have kk := kk H locs ls hP hS hl
  
  exact lv_sipush C.1 C.2.1 hd hn kk

theorem r_iload_n (C : Cx B nL G A cc own Ts ret Rm) {i : Fin 4} {k : Nat} {z : Int} (hd : decode cc pc = .ok (.iload_n i, 1)) (hk : lv[k]? = some ((i : Nat), vI z)) (kk : Wm B nL G A Q w cells slots (pc + 1) lv (vI z :: st)) : Wm B nL G A Q w cells slots pc lv (st) := by
  obtain ⟨p, l, e, R, s, m, args, below, meth, c⟩ := B
  intro H locs ls hP hS hl
  have kk := kk H locs ls hP hS hl
  
  exact lv_iload_n C.1 C.2.1 hd rfl (lv_at hl k hk) kk

theorem r_iload (C : Cx B nL G A cc own Ts ret Rm) {i : Nat} {k : Nat} {z : Int} (hd : decode cc pc = .ok (.iload i, 2)) (hk : lv[k]? = some (i, vI z)) (kk : Wm B nL G A Q w cells slots (pc + 2) lv (vI z :: st)) : Wm B nL G A Q w cells slots pc lv (st) := by
  obtain ⟨p, l, e, R, s, m, args, below, meth, c⟩ := B
  intro H locs ls hP hS hl
  have kk := kk H locs ls hP hS hl
  
  exact lv_iload C.1 C.2.1 hd (lv_at hl k hk) kk

theorem r_aload_n (C : Cx B nL G A cc own Ts ret Rm) {i : Fin 4} {k : Nat} {a : Nat} (hd : decode cc pc = .ok (.aload_n i, 1)) (hk : lv[k]? = some ((i : Nat), .ref a)) (kk : Wm B nL G A Q w cells slots (pc + 1) lv (.ref a :: st)) : Wm B nL G A Q w cells slots pc lv (st) := by
  obtain ⟨p, l, e, R, s, m, args, below, meth, c⟩ := B
  intro H locs ls hP hS hl
  have kk := kk H locs ls hP hS hl
  
  exact lv_aload_n C.1 C.2.1 hd rfl (lv_at hl k hk) kk

theorem r_aload (C : Cx B nL G A cc own Ts ret Rm) {i : Nat} {k : Nat} {a : Nat} (hd : decode cc pc = .ok (.aload i, 2)) (hk : lv[k]? = some (i, .ref a)) (kk : Wm B nL G A Q w cells slots (pc + 2) lv (.ref a :: st)) : Wm B nL G A Q w cells slots pc lv (st) := by
  obtain ⟨p, l, e, R, s, m, args, below, meth, c⟩ := B
  intro H locs ls hP hS hl
  have kk := kk H locs ls hP hS hl
  
  exact lv_aload C.1 C.2.1 hd (lv_at hl k hk) kk

theorem r_lload_n (C : Cx B nL G A cc own Ts ret Rm) {i : Fin 4} {k : Nat} {z : Int64} (hd : decode cc pc = .ok (.lload_n i, 1)) (hk : lv[k]? = some ((i : Nat), .long z)) (kk : Wm B nL G A Q w cells slots (pc + 1) lv (.long z :: st)) : Wm B nL G A Q w cells slots pc lv (st) := by
  obtain ⟨p, l, e, R, s, m, args, below, meth, c⟩ := B
  intro H locs ls hP hS hl
  have kk := kk H locs ls hP hS hl
  
  exact lv_lload_n C.1 C.2.1 hd rfl (lv_at hl k hk) kk

theorem r_lload (C : Cx B nL G A cc own Ts ret Rm) {i : Nat} {k : Nat} {z : Int64} (hd : decode cc pc = .ok (.lload i, 2)) (hk : lv[k]? = some (i, .long z)) (kk : Wm B nL G A Q w cells slots (pc + 2) lv (.long z :: st)) : Wm B nL G A Q w cells slots pc lv (st) := by
  obtain ⟨p, l, e, R, s, m, args, below, meth, c⟩ := B
  intro H locs ls hP hS hl
  have kk := kk H locs ls hP hS hl
  
  exact lv_lload C.1 C.2.1 hd (lv_at hl k hk) kk

theorem r_dload (C : Cx B nL G A cc own Ts ret Rm) {i : Nat} {k : Nat} {z : UInt64} (hd : decode cc pc = .ok (.dload i, 2)) (hk : lv[k]? = some (i, .double z)) (kk : Wm B nL G A Q w cells slots (pc + 2) lv (.double z :: st)) : Wm B nL G A Q w cells slots pc lv (st) := by
  obtain ⟨p, l, e, R, s, m, args, below, meth, c⟩ := B
  intro H locs ls hP hS hl
  have kk := kk H locs ls hP hS hl
  
  exact lv_dload C.1 C.2.1 hd (lv_at hl k hk) kk

theorem r_istore_n (C : Cx B nL G A cc own Ts ret Rm) {j : Fin 4} {i : Nat} {z : Int} {lv' : List (Nat × Value)} (hd : decode cc pc = .ok (.istore_n j, 1)) (hi : (j : Nat) = i) (hn : i < nL) (hl : (i, vI z) :: lv.filter (fun q => !(q.1 == i) && !(q.1 + 1 == i && q.2.category == 2)) = lv') (kk : Wm B nL G A Q w cells slots (pc + 1) lv' st) : Wm B nL G A Q w cells slots pc lv (vI z :: st) := by
  obtain ⟨p, l, e, R, s, m, args, below, meth, c⟩ := B
  intro H locs ls hP hS h
  exact lv_istore_n C.1 C.2.1 hd hi h hn hl (fun ls' h' => kk H locs ls' hP hS h')

theorem r_istore (C : Cx B nL G A cc own Ts ret Rm) {i : Nat} {z : Int} {lv' : List (Nat × Value)} (hd : decode cc pc = .ok (.istore i, 2))  (hn : i < nL) (hl : (i, vI z) :: lv.filter (fun q => !(q.1 == i) && !(q.1 + 1 == i && q.2.category == 2)) = lv') (kk : Wm B nL G A Q w cells slots (pc + 2) lv' st) : Wm B nL G A Q w cells slots pc lv (vI z :: st) := by
  obtain ⟨p, l, e, R, s, m, args, below, meth, c⟩ := B
  intro H locs ls hP hS h
  exact lv_istore C.1 C.2.1 hd  h hn hl (fun ls' h' => kk H locs ls' hP hS h')

theorem r_astore_n (C : Cx B nL G A cc own Ts ret Rm) {j : Fin 4} {i : Nat} {z : Nat} {lv' : List (Nat × Value)} (hd : decode cc pc = .ok (.astore_n j, 1)) (hi : (j : Nat) = i) (hn : i < nL) (hl : (i, .ref z) :: lv.filter (fun q => !(q.1 == i) && !(q.1 + 1 == i && q.2.category == 2)) = lv') (kk : Wm B nL G A Q w cells slots (pc + 1) lv' st) : Wm B nL G A Q w cells slots pc lv (.ref z :: st) := by
  obtain ⟨p, l, e, R, s, m, args, below, meth, c⟩ := B
  intro H locs ls hP hS h
  exact lv_astore_n C.1 C.2.1 hd hi h hn hl (fun ls' h' => kk H locs ls' hP hS h')

theorem r_astore (C : Cx B nL G A cc own Ts ret Rm) {i : Nat} {z : Nat} {lv' : List (Nat × Value)} (hd : decode cc pc = .ok (.astore i, 2))  (hn : i < nL) (hl : (i, .ref z) :: lv.filter (fun q => !(q.1 == i) && !(q.1 + 1 == i && q.2.category == 2)) = lv') (kk : Wm B nL G A Q w cells slots (pc + 2) lv' st) : Wm B nL G A Q w cells slots pc lv (.ref z :: st) := by
  obtain ⟨p, l, e, R, s, m, args, below, meth, c⟩ := B
  intro H locs ls hP hS h
  exact lv_astore C.1 C.2.1 hd  h hn hl (fun ls' h' => kk H locs ls' hP hS h')

theorem r_lstore_n (C : Cx B nL G A cc own Ts ret Rm) {j : Fin 4} {i : Nat} {z : Int64} {lv' : List (Nat × Value)} (hd : decode cc pc = .ok (.lstore_n j, 1)) (hi : (j : Nat) = i) (hn : i + 1 < nL) (hl : (i, .long z) :: lv.filter (fun q => !(q.1 == i) && (!(q.1 == i + 1) && !(q.1 + 1 == i && q.2.category == 2))) = lv') (kk : Wm B nL G A Q w cells slots (pc + 1) lv' st) : Wm B nL G A Q w cells slots pc lv (.long z :: st) := by
  obtain ⟨p, l, e, R, s, m, args, below, meth, c⟩ := B
  intro H locs ls hP hS h
  exact lv_lstore_n C.1 C.2.1 hd hi h hn hl (fun ls' h' => kk H locs ls' hP hS h')

theorem r_lstore (C : Cx B nL G A cc own Ts ret Rm) {i : Nat} {z : Int64} {lv' : List (Nat × Value)} (hd : decode cc pc = .ok (.lstore i, 2))  (hn : i + 1 < nL) (hl : (i, .long z) :: lv.filter (fun q => !(q.1 == i) && (!(q.1 == i + 1) && !(q.1 + 1 == i && q.2.category == 2))) = lv') (kk : Wm B nL G A Q w cells slots (pc + 2) lv' st) : Wm B nL G A Q w cells slots pc lv (.long z :: st) := by
  obtain ⟨p, l, e, R, s, m, args, below, meth, c⟩ := B
  intro H locs ls hP hS h
  exact lv_lstore C.1 C.2.1 hd  h hn hl (fun ls' h' => kk H locs ls' hP hS h')

theorem r_dstore (C : Cx B nL G A cc own Ts ret Rm) {i : Nat} {z : UInt64} {lv' : List (Nat × Value)} (hd : decode cc pc = .ok (.dstore i, 2))  (hn : i + 1 < nL) (hl : (i, .double z) :: lv.filter (fun q => !(q.1 == i) && (!(q.1 == i + 1) && !(q.1 + 1 == i && q.2.category == 2))) = lv') (kk : Wm B nL G A Q w cells slots (pc + 2) lv' st) : Wm B nL G A Q w cells slots pc lv (.double z :: st) := by
  obtain ⟨p, l, e, R, s, m, args, below, meth, c⟩ := B
  intro H locs ls hP hS h
  exact lv_dstore C.1 C.2.1 hd  h hn hl (fun ls' h' => kk H locs ls' hP hS h')

theorem r_iinc (C : Cx B nL G A cc own Ts ret Rm) {i k : Nat} {n z : Int} {lv' : List (Nat × Value)} (hd : decode cc pc = .ok (.iinc i n, 3)) (hk : lv[k]? = some (i, vI z)) (hn : i < nL) (hl : (i, vI (z + n)) :: lv.filter (fun q => !(q.1 == i) && !(q.1 + 1 == i && q.2.category == 2)) = lv') (kk : Wm B nL G A Q w cells slots (pc + 3) lv' st) : Wm B nL G A Q w cells slots pc lv st := by
  obtain ⟨p, l, e, R, s, m, args, below, meth, c⟩ := B
  intro H locs ls hP hS h
  exact lv_iinc C.1 C.2.1 hd h hk (Int32.ofInt_add z n).symm hn hl (fun ls' h' => kk H locs ls' hP hS h')

theorem r_iadd (C : Cx B nL G A cc own Ts ret Rm) {a b : Int} (hd : decode cc pc = .ok (.iadd, 1))  (kk : Wm B nL G A Q w cells slots (pc + 1) lv (vI (a + b) :: st)) : Wm B nL G A Q w cells slots pc lv (vI b :: vI a :: st) := by
  obtain ⟨p, l, e, R, s, m, args, below, meth, c⟩ := B
  intro H locs ls hP hS hl
  have kk := kk H locs ls hP hS hl
  rw [show vI (a + b) = .int (Int32.ofInt a + Int32.ofInt b) from congrArg Value.int (Int32.ofInt_add a b)] at kk
  exact lv_iadd C.1 C.2.1 hd  kk

theorem r_isub (C : Cx B nL G A cc own Ts ret Rm) {a b : Int} (hd : decode cc pc = .ok (.isub, 1))  (kk : Wm B nL G A Q w cells slots (pc + 1) lv (vI (a - b) :: st)) : Wm B nL G A Q w cells slots pc lv (vI b :: vI a :: st) := by
  obtain ⟨p, l, e, R, s, m, args, below, meth, c⟩ := B
  intro H locs ls hP hS hl
  have kk := kk H locs ls hP hS hl
  rw [show vI (a - b) = .int (Int32.ofInt a - Int32.ofInt b) from congrArg Value.int (Int32.ofInt_sub a b)] at kk
  exact lv_isub C.1 C.2.1 hd  kk

theorem r_imul (C : Cx B nL G A cc own Ts ret Rm) {a b : Int} (hd : decode cc pc = .ok (.imul, 1))  (kk : Wm B nL G A Q w cells slots (pc + 1) lv (vI (a * b) :: st)) : Wm B nL G A Q w cells slots pc lv (vI b :: vI a :: st) := by
  obtain ⟨p, l, e, R, s, m, args, below, meth, c⟩ := B
  intro H locs ls hP hS hl
  have kk := kk H locs ls hP hS hl
  rw [show vI (a * b) = .int (Int32.ofInt a * Int32.ofInt b) from congrArg Value.int (Int32.ofInt_mul a b)] at kk
  exact lv_imul C.1 C.2.1 hd  kk

theorem r_goto (C : Cx B nL G A cc own Ts ret Rm) {off : Int} {tgt : Nat} (hd : decode cc pc = .ok (.goto off, 3)) (ht : (pc : Int) + off = (tgt : Int)) (kk : Wm B nL G A Q w cells slots tgt lv (st)) : Wm B nL G A Q w cells slots pc lv (st) := by
  obtain ⟨p, l, e, R, s, m, args, below, meth, c⟩ := B
  intro H locs ls hP hS hl
  have kk := kk H locs ls hP hS hl
  
  exact lv_goto C.1 C.2.1 hd ht kk

theorem r_dup (C : Cx B nL G A cc own Ts ret Rm) {v : Value} (hd : decode cc pc = .ok (.dup, 1)) (hv : v.category = 1) (kk : Wm B nL G A Q w cells slots (pc + 1) lv (v :: v :: st)) : Wm B nL G A Q w cells slots pc lv (v :: st) := by
  obtain ⟨p, l, e, R, s, m, args, below, meth, c⟩ := B
  intro H locs ls hP hS hl
  have kk := kk H locs ls hP hS hl
  
  exact lv_dup C.1 C.2.1 hd hv kk

theorem r_dup2 (C : Cx B nL G A cc own Ts ret Rm) {v u : Value} (hd : decode cc pc = .ok (.dup2, 1)) (hv : v.category = 1) (hu : u.category = 1) (kk : Wm B nL G A Q w cells slots (pc + 1) lv (v :: u :: v :: u :: st)) : Wm B nL G A Q w cells slots pc lv (v :: u :: st) := by
  obtain ⟨p, l, e, R, s, m, args, below, meth, c⟩ := B
  intro H locs ls hP hS hl
  have kk := kk H locs ls hP hS hl
  
  exact lv_dup2_11 C.1 C.2.1 hd hv hu kk

theorem r_pop (C : Cx B nL G A cc own Ts ret Rm) {v : Value} (hd : decode cc pc = .ok (.pop, 1)) (hv : v.category = 1) (kk : Wm B nL G A Q w cells slots (pc + 1) lv (st)) : Wm B nL G A Q w cells slots pc lv (v :: st) := by
  obtain ⟨p, l, e, R, s, m, args, below, meth, c⟩ := B
  intro H locs ls hP hS hl
  have kk := kk H locs ls hP hS hl
  
  exact lv_pop C.1 C.2.1 hd hv kk

theorem r_ladd (C : Cx B nL G A cc own Ts ret Rm) {a b : Int64} (hd : decode cc pc = .ok (.ladd, 1))  (kk : Wm B nL G A Q w cells slots (pc + 1) lv (.long (a + b) :: st)) : Wm B nL G A Q w cells slots pc lv (.long b :: .long a :: st) := by
  obtain ⟨p, l, e, R, s, m, args, below, meth, c⟩ := B
  intro H locs ls hP hS hl
  have kk := kk H locs ls hP hS hl
  
  exact lv_ladd C.1 C.2.1 hd  kk

theorem r_lmul (C : Cx B nL G A cc own Ts ret Rm) {a b : Int64} (hd : decode cc pc = .ok (.lmul, 1))  (kk : Wm B nL G A Q w cells slots (pc + 1) lv (.long (a * b) :: st)) : Wm B nL G A Q w cells slots pc lv (.long b :: .long a :: st) := by
  obtain ⟨p, l, e, R, s, m, args, below, meth, c⟩ := B
  intro H locs ls hP hS hl
  have kk := kk H locs ls hP hS hl
  
  exact lv_lmul C.1 C.2.1 hd  kk

theorem r_i2l (C : Cx B nL G A cc own Ts ret Rm) {a : Int} (hd : decode cc pc = .ok (.i2l, 1)) (ha : inR a) (kk : Wm B nL G A Q w cells slots (pc + 1) lv (.long (Int64.ofInt a) :: st)) : Wm B nL G A Q w cells slots pc lv (vI a :: st) := by
  obtain ⟨p, l, e, R, s, m, args, below, meth, c⟩ := B
  intro H locs ls hP hS hl
  have kk := kk H locs ls hP hS hl
  
  exact lv_i2l C.1 C.2.1 hd (i2l_eq ha) kk

theorem r_ior (C : Cx B nL G A cc own Ts ret Rm) {a b c9 : Int} (hd : decode cc pc = .ok (.ior, 1)) (hc : Int32.ofInt a ||| Int32.ofInt b = Int32.ofInt c9) (kk : Wm B nL G A Q w cells slots (pc + 1) lv (vI c9 :: st)) : Wm B nL G A Q w cells slots pc lv (vI b :: vI a :: st) := by
  obtain ⟨p, l, e, R, s, m, args, below, meth, c⟩ := B
  intro H locs ls hP hS hl
  have kk := kk H locs ls hP hS hl
  rw [show vI c9 = .int (Int32.ofInt a ||| Int32.ofInt b) from congrArg Value.int hc.symm] at kk
  exact lv_ior C.1 C.2.1 hd  kk

theorem r_iand (C : Cx B nL G A cc own Ts ret Rm) {a b c9 : Int} (hd : decode cc pc = .ok (.iand, 1)) (hc : Int32.ofInt a &&& Int32.ofInt b = Int32.ofInt c9) (kk : Wm B nL G A Q w cells slots (pc + 1) lv (vI c9 :: st)) : Wm B nL G A Q w cells slots pc lv (vI b :: vI a :: st) := by
  obtain ⟨p, l, e, R, s, m, args, below, meth, c⟩ := B
  intro H locs ls hP hS hl
  have kk := kk H locs ls hP hS hl
  rw [show vI c9 = .int (Int32.ofInt a &&& Int32.ofInt b) from congrArg Value.int hc.symm] at kk
  exact lv_iand C.1 C.2.1 hd  kk

theorem r_idiv (C : Cx B nL G A cc own Ts ret Rm) {a b : Int} (hd : decode cc pc = .ok (.idiv, 1)) (ha : 0 ≤ a) (ha2 : a < 2147483648) (hb : 0 < b) (hb2 : b < 2147483648) (kk : Wm B nL G A Q w cells slots (pc + 1) lv (vI (a / b) :: st)) : Wm B nL G A Q w cells slots pc lv (vI b :: vI a :: st) := by
  obtain ⟨p, l, e, R, s, m, args, below, meth, c⟩ := B
  intro H locs ls hP hS hl
  have kk := kk H locs ls hP hS hl
  rw [show vI (a / b) = .int (Int32.ofInt a / Int32.ofInt b) from congrArg Value.int (div_eq ha ha2 hb hb2).symm] at kk
  exact lv_idiv C.1 C.2.1 hd (div_ne hb hb2) kk

theorem r_irem (C : Cx B nL G A cc own Ts ret Rm) {a b : Int} (hd : decode cc pc = .ok (.irem, 1)) (ha : 0 ≤ a) (ha2 : a < 2147483648) (hb : 0 < b) (hb2 : b < 2147483648) (kk : Wm B nL G A Q w cells slots (pc + 1) lv (vI (a % b) :: st)) : Wm B nL G A Q w cells slots pc lv (vI b :: vI a :: st) := by
  obtain ⟨p, l, e, R, s, m, args, below, meth, c⟩ := B
  intro H locs ls hP hS hl
  have kk := kk H locs ls hP hS hl
  rw [show vI (a % b) = .int (Int32.ofInt a - Int32.ofInt a / Int32.ofInt b * Int32.ofInt b) from congrArg Value.int (rem_eq ha ha2 hb hb2).symm] at kk
  exact lv_irem C.1 C.2.1 hd (div_ne hb hb2) kk

theorem r_icmp_eq (C : Cx B nL G A cc own Ts ret Rm) {a b off : Int} {tgt : Nat} (hd : decode cc pc = .ok (.if_icmp .eq off, 3)) (ht : (pc : Int) + off = (tgt : Int)) (ha : inR a) (hb : inR b) (k1 : a = b → Wm B nL G A Q w cells slots tgt lv st) (k2 : ¬ a = b → Wm B nL G A Q w cells slots (pc + 3) lv st) : Wm B nL G A Q w cells slots pc lv (vI b :: vI a :: st) := by
  obtain ⟨p, l, e, R, s, m, args, below, meth, c⟩ := B
  intro H locs ls hP hS hl
  exact lv_icmp_eq C.1 C.2.1 hd ht (fun h => k1 (ci_eq1 ha hb h) H locs ls hP hS hl) (fun h => k2 (ci_eq2 ha hb h) H locs ls hP hS hl)

theorem r_if_eq (C : Cx B nL G A cc own Ts ret Rm) {a off : Int} {tgt : Nat} (hd : decode cc pc = .ok (.ifCond .eq off, 3)) (ht : (pc : Int) + off = (tgt : Int)) (ha : inR a) (k1 : a = 0 → Wm B nL G A Q w cells slots tgt lv st) (k2 : ¬ a = 0 → Wm B nL G A Q w cells slots (pc + 3) lv st) : Wm B nL G A Q w cells slots pc lv (vI a :: st) := by
  obtain ⟨p, l, e, R, s, m, args, below, meth, c⟩ := B
  intro H locs ls hP hS hl
  exact lv_if_eq C.1 C.2.1 hd ht (fun h => k1 (c0_eq1 ha h) H locs ls hP hS hl) (fun h => k2 (c0_eq2 ha h) H locs ls hP hS hl)

theorem r_icmp_ne (C : Cx B nL G A cc own Ts ret Rm) {a b off : Int} {tgt : Nat} (hd : decode cc pc = .ok (.if_icmp .ne off, 3)) (ht : (pc : Int) + off = (tgt : Int)) (ha : inR a) (hb : inR b) (k1 : ¬ a = b → Wm B nL G A Q w cells slots tgt lv st) (k2 : a = b → Wm B nL G A Q w cells slots (pc + 3) lv st) : Wm B nL G A Q w cells slots pc lv (vI b :: vI a :: st) := by
  obtain ⟨p, l, e, R, s, m, args, below, meth, c⟩ := B
  intro H locs ls hP hS hl
  exact lv_icmp_ne C.1 C.2.1 hd ht (fun h => k1 (ci_ne1 ha hb h) H locs ls hP hS hl) (fun h => k2 (ci_ne2 ha hb h) H locs ls hP hS hl)

theorem r_if_ne (C : Cx B nL G A cc own Ts ret Rm) {a off : Int} {tgt : Nat} (hd : decode cc pc = .ok (.ifCond .ne off, 3)) (ht : (pc : Int) + off = (tgt : Int)) (ha : inR a) (k1 : ¬ a = 0 → Wm B nL G A Q w cells slots tgt lv st) (k2 : a = 0 → Wm B nL G A Q w cells slots (pc + 3) lv st) : Wm B nL G A Q w cells slots pc lv (vI a :: st) := by
  obtain ⟨p, l, e, R, s, m, args, below, meth, c⟩ := B
  intro H locs ls hP hS hl
  exact lv_if_ne C.1 C.2.1 hd ht (fun h => k1 (c0_ne1 ha h) H locs ls hP hS hl) (fun h => k2 (c0_ne2 ha h) H locs ls hP hS hl)

theorem r_icmp_lt (C : Cx B nL G A cc own Ts ret Rm) {a b off : Int} {tgt : Nat} (hd : decode cc pc = .ok (.if_icmp .lt off, 3)) (ht : (pc : Int) + off = (tgt : Int)) (ha : inR a) (hb : inR b) (k1 : a < b → Wm B nL G A Q w cells slots tgt lv st) (k2 : b ≤ a → Wm B nL G A Q w cells slots (pc + 3) lv st) : Wm B nL G A Q w cells slots pc lv (vI b :: vI a :: st) := by
  obtain ⟨p, l, e, R, s, m, args, below, meth, c⟩ := B
  intro H locs ls hP hS hl
  exact lv_icmp_lt C.1 C.2.1 hd ht (fun h => k1 (ci_lt1 ha hb h) H locs ls hP hS hl) (fun h => k2 (ci_lt2 ha hb h) H locs ls hP hS hl)

theorem r_if_lt (C : Cx B nL G A cc own Ts ret Rm) {a off : Int} {tgt : Nat} (hd : decode cc pc = .ok (.ifCond .lt off, 3)) (ht : (pc : Int) + off = (tgt : Int)) (ha : inR a) (k1 : a < 0 → Wm B nL G A Q w cells slots tgt lv st) (k2 : 0 ≤ a → Wm B nL G A Q w cells slots (pc + 3) lv st) : Wm B nL G A Q w cells slots pc lv (vI a :: st) := by
  obtain ⟨p, l, e, R, s, m, args, below, meth, c⟩ := B
  intro H locs ls hP hS hl
  exact lv_if_lt C.1 C.2.1 hd ht (fun h => k1 (c0_lt1 ha h) H locs ls hP hS hl) (fun h => k2 (c0_lt2 ha h) H locs ls hP hS hl)

theorem r_icmp_ge (C : Cx B nL G A cc own Ts ret Rm) {a b off : Int} {tgt : Nat} (hd : decode cc pc = .ok (.if_icmp .ge off, 3)) (ht : (pc : Int) + off = (tgt : Int)) (ha : inR a) (hb : inR b) (k1 : b ≤ a → Wm B nL G A Q w cells slots tgt lv st) (k2 : a < b → Wm B nL G A Q w cells slots (pc + 3) lv st) : Wm B nL G A Q w cells slots pc lv (vI b :: vI a :: st) := by
  obtain ⟨p, l, e, R, s, m, args, below, meth, c⟩ := B
  intro H locs ls hP hS hl
  exact lv_icmp_ge C.1 C.2.1 hd ht (fun h => k1 (ci_ge1 ha hb h) H locs ls hP hS hl) (fun h => k2 (ci_ge2 ha hb h) H locs ls hP hS hl)

theorem r_if_ge (C : Cx B nL G A cc own Ts ret Rm) {a off : Int} {tgt : Nat} (hd : decode cc pc = .ok (.ifCond .ge off, 3)) (ht : (pc : Int) + off = (tgt : Int)) (ha : inR a) (k1 : 0 ≤ a → Wm B nL G A Q w cells slots tgt lv st) (k2 : a < 0 → Wm B nL G A Q w cells slots (pc + 3) lv st) : Wm B nL G A Q w cells slots pc lv (vI a :: st) := by
  obtain ⟨p, l, e, R, s, m, args, below, meth, c⟩ := B
  intro H locs ls hP hS hl
  exact lv_if_ge C.1 C.2.1 hd ht (fun h => k1 (c0_ge1 ha h) H locs ls hP hS hl) (fun h => k2 (c0_ge2 ha h) H locs ls hP hS hl)

theorem r_icmp_gt (C : Cx B nL G A cc own Ts ret Rm) {a b off : Int} {tgt : Nat} (hd : decode cc pc = .ok (.if_icmp .gt off, 3)) (ht : (pc : Int) + off = (tgt : Int)) (ha : inR a) (hb : inR b) (k1 : b < a → Wm B nL G A Q w cells slots tgt lv st) (k2 : a ≤ b → Wm B nL G A Q w cells slots (pc + 3) lv st) : Wm B nL G A Q w cells slots pc lv (vI b :: vI a :: st) := by
  obtain ⟨p, l, e, R, s, m, args, below, meth, c⟩ := B
  intro H locs ls hP hS hl
  exact lv_icmp_gt C.1 C.2.1 hd ht (fun h => k1 (ci_gt1 ha hb h) H locs ls hP hS hl) (fun h => k2 (ci_gt2 ha hb h) H locs ls hP hS hl)

theorem r_if_gt (C : Cx B nL G A cc own Ts ret Rm) {a off : Int} {tgt : Nat} (hd : decode cc pc = .ok (.ifCond .gt off, 3)) (ht : (pc : Int) + off = (tgt : Int)) (ha : inR a) (k1 : 0 < a → Wm B nL G A Q w cells slots tgt lv st) (k2 : a ≤ 0 → Wm B nL G A Q w cells slots (pc + 3) lv st) : Wm B nL G A Q w cells slots pc lv (vI a :: st) := by
  obtain ⟨p, l, e, R, s, m, args, below, meth, c⟩ := B
  intro H locs ls hP hS hl
  exact lv_if_gt C.1 C.2.1 hd ht (fun h => k1 (c0_gt1 ha h) H locs ls hP hS hl) (fun h => k2 (c0_gt2 ha h) H locs ls hP hS hl)

theorem r_icmp_le (C : Cx B nL G A cc own Ts ret Rm) {a b off : Int} {tgt : Nat} (hd : decode cc pc = .ok (.if_icmp .le off, 3)) (ht : (pc : Int) + off = (tgt : Int)) (ha : inR a) (hb : inR b) (k1 : a ≤ b → Wm B nL G A Q w cells slots tgt lv st) (k2 : b < a → Wm B nL G A Q w cells slots (pc + 3) lv st) : Wm B nL G A Q w cells slots pc lv (vI b :: vI a :: st) := by
  obtain ⟨p, l, e, R, s, m, args, below, meth, c⟩ := B
  intro H locs ls hP hS hl
  exact lv_icmp_le C.1 C.2.1 hd ht (fun h => k1 (ci_le1 ha hb h) H locs ls hP hS hl) (fun h => k2 (ci_le2 ha hb h) H locs ls hP hS hl)

theorem r_if_le (C : Cx B nL G A cc own Ts ret Rm) {a off : Int} {tgt : Nat} (hd : decode cc pc = .ok (.ifCond .le off, 3)) (ht : (pc : Int) + off = (tgt : Int)) (ha : inR a) (k1 : a ≤ 0 → Wm B nL G A Q w cells slots tgt lv st) (k2 : 0 < a → Wm B nL G A Q w cells slots (pc + 3) lv st) : Wm B nL G A Q w cells slots pc lv (vI a :: st) := by
  obtain ⟨p, l, e, R, s, m, args, below, meth, c⟩ := B
  intro H locs ls hP hS hl
  exact lv_if_le C.1 C.2.1 hd ht (fun h => k1 (c0_le1 ha h) H locs ls hP hS hl) (fun h => k2 (c0_le2 ha h) H locs ls hP hS hl)

/-! cells -/
def isI (ci j : Nat) : Bool := match ci with
  | 0 => j == 1 || j == 4 || j == 5 || j == 6
  | 1 => j == 4
  | 2 => j == 0 || j == 1 || j == 2 || j == 3 || j == 4 || j == 5 || j == 6 || j == 7 || j == 9 || j == 12
  | 4 => j == 0 || j == 1 || j == 2
  | 5 => j == 0 || j == 1 || j == 2
  | _ => false
theorem flds_eq {ad : Ky → Nat} {w w' : Mm} {k : Ky} (ci : Nat) (h : w' k = w k) : flds ad w' k ci = flds ad w k ci := by
  unfold flds
  rw [h]
theorem ent_eq {c3 : ClassId × ClassId × ClassId} {ad : Ky → Nat} {w w' : Mm} {k : Ky} (h : w' k = w k) : ent c3 ad w' k = ent c3 ad w k := by
  unfold ent
  rw [h]
  split <;> first | rfl | rw [flds_eq _ h]
theorem ent_obj {c3 : ClassId × ClassId × ClassId} {ad : Ky → Nat} {w : Mm} {k : Ky} {ci n : Nat} (h : kd k = (ci, n)) (hlt : ci < 6) : ent c3 ad w k = .inr (ci, flds ad w k ci) := by
  unfold ent
  rw [h]
  rcases (show ci = 0 ∨ ci = 1 ∨ ci = 2 ∨ ci = 3 ∨ ci = 4 ∨ ci = 5 by omega) with rfl | rfl | rfl | rfl | rfl | rfl <;> rfl
theorem ent_row {c3 : ClassId × ClassId × ClassId} {ad : Ky → Nat} {w : Mm} {k : Ky} {n : Nat} (h : kd k = (6, n)) : ent c3 ad w k = .inl (c3.1, n, .inl (fun j => Int32.ofInt (w k j))) := by
  unfold ent
  rw [h]
  rfl
theorem ent_vil {c3 : ClassId × ClassId × ClassId} {ad : Ky → Nat} {w : Mm} {k : Ky} {n : Nat} (h : kd k = (7, n)) : ent c3 ad w k = .inl (c3.2.1, n, .inr (.inr (.inr (.inr (fun j => some (ad (k.1, j, 0))))))) := by
  unfold ent
  rw [h]
  rfl
theorem ent_lng {c3 : ClassId × ClassId × ClassId} {ad : Ky → Nat} {w : Mm} {k : Ky} {n : Nat} (h : kd k = (8, n)) : ent c3 ad w k = .inl (c3.2.2, n, .inr (.inl (fun j => Int64.ofInt (w k j)))) := by
  unfold ent
  rw [h]
  rfl
theorem flds_st {ad : Ky → Nat} {w : Mm} {k : Ky} {ci j : Nat} {x : Int} (h : isI ci j = true) : flds ad (st1 w k j x) k ci = (flds ad w k ci).set j (vI x) := by
  unfold isI at h
  split at h
  · simp only [Bool.or_eq_true, beq_iff_eq] at h
    rcases h with ((rfl | rfl) | rfl) | rfl <;> simp [flds, st1]
  · simp only [beq_iff_eq] at h
    subst h
    simp [flds, st1]
  · simp only [Bool.or_eq_true, beq_iff_eq] at h
    rcases h with ((((((((rfl | rfl) | rfl) | rfl) | rfl) | rfl) | rfl) | rfl) | rfl) | rfl <;> simp [flds, st1]
  · simp only [Bool.or_eq_true, beq_iff_eq] at h
    rcases h with (rfl | rfl) | rfl <;> simp [flds, st1]
  · simp only [Bool.or_eq_true, beq_iff_eq] at h
    rcases h with (rfl | rfl) | rfl <;> simp [flds, st1]
  · cases h
theorem Pic.upd {G : Gt} {w w' : Mm} {H H1 : Heap} {k : Ky} (hP : Pic G w H) (hG : Gok G) (hok : okk G k) (hr : rng w') (hw : ∀ k', k' ≠ k → w' k' = w k') (he : va_at G.1 vwCl (adr G k, ent G.2.1 (adr G) w' k) H1) (oq : ∀ q : Nat, q ≠ adr G k → H1[q]? = H[q]?) : Pic G w' H1 := by
  refine ⟨hr, fun k' hk' => ?_⟩
  by_cases hkk : k' = k
  · subst hkk
    exact he
  · rw [ent_eq (hw k' hkk)]
    exact (hP.2 k' hk').kept (oq _ (fun q => hkk (hG.1 k' k hk' hok q)))
theorem st1_off {w : Mm} {k : Ky} {j : Nat} {x : Int} (k' : Ky) (h : k' ≠ k) : st1 w k j x k' = w k' := by
  funext j'
  exact st1_k h
theorem r_getf (C : Cx B nL G A cc own Ts ret Rm) {k : Ky} {ci n N index : Nat} (j : Nat) {T : u_T} {Cn : String} {v : Value} (hok : okk G k) (hkd : kd k = (ci, n)) (hlt : ci < 6) (hc : vwCl[ci]? = some (Cn, T, N)) (hin : ∀ w ∈ u_ws Cn T N, w ∈ Ts) (hj : j < N) (hlink : Cond.fieldLink own index Cn (T j).2.1 (T j).2.2.1 ∈ Ts) (hcn : (T j).1 = Cn) (hv : (flds (adr G) w k ci)[j]? = some v) (hd : decode cc pc = .ok (.getfield index, 3)) (kk : Wm B nL G A Q w cells slots (pc + 3) lv (v :: st)) : Wm B nL G A Q w cells slots pc lv (.ref (adr G k) :: st) := by
  obtain ⟨p, l, e, R, s, m, args, below, meth, c⟩ := B
  obtain ⟨hx, hb, hml, hown, hts, ⟨hK, hNF, hNM, hNS⟩, hG, hA1, hA2, hlk, hret, hR, hZ⟩ := C
  intro H locs ls hP hS hl
  have hat := hP.2 k hok
  rw [ent_obj hkd hlt] at hat
  have hP1 : va_P G.1 vwCl [(adr G k, .inr (ci, flds (adr G) w k ci))] H := fun i q hq => by
    cases i with
    | zero => cases hq; exact hat
    | succ i => simp at hq
  exact va_get hx hb hts hin hown hK hP1 0 rfl hc j hj (hts _ hlink) (fun x h => by rw [hcn] at h; exact h) hv hd (kk H locs ls hP hS hl)
theorem r_putf (C : Cx B nL G A cc own Ts ret Rm) {k : Ky} {ci n N index : Nat} (j : Nat) {T : u_T} {Cn : String} {x : Int} (hr : rng w) (hx0 : inR x) (hok : okk G k) (hkd : kd k = (ci, n)) (hlt : ci < 6) (hc : vwCl[ci]? = some (Cn, T, N)) (hin : ∀ w ∈ u_ws Cn T N, w ∈ Ts) {ty0 : Nat → FieldType} (hty : ∀ k, k < N → parseFieldDescriptor (T k).2.2.1 = some (ty0 k)) (hnm : ∀ a, a < N → ∀ b, b < N → a ≠ b → (T a).2.1 ≠ (T b).2.1) (hj : j < N) (hlink : Cond.fieldLink own index Cn (T j).2.1 (T j).2.2.1 ∈ Ts) (hcn : (T j).1 = Cn) (hfin : (T j).2.2.2 = false) {ty : FieldType} (hdty : parseFieldDescriptor (T j).2.2.1 = some ty) (hn : narrow ty (vI x) = vI x) (hfit : fits ty (vI x) = true) (hI : isI ci j = true) (hlen : j < (flds (adr G) w k ci).length) (hd : decode cc pc = .ok (.putfield index, 3)) (kk : rng (st1 w k j x) → Wm B nL G A Q (st1 w k j x) cells slots (pc + 3) lv st) : Wm B nL G A Q w cells slots pc lv (vI x :: .ref (adr G k) :: st) := by
  obtain ⟨p, l, e, R, s, m, args, below, meth, c⟩ := B
  obtain ⟨hx, hb, hml, hown, hts, ⟨hK, hNF, hNM, hNS⟩, hG, hA1, hA2, hlk, hret, hR, hZ⟩ := C
  intro H locs ls hP hS hl
  have hat := hP.2 k hok
  rw [ent_obj hkd hlt] at hat
  have hap := va_apart (own := own) hts hin ty0 hty hnm hK hc
  obtain ⟨r, h1, cell, q1, q2, q3, q4⟩ := hat
  have hrr : r = (Cn, T, N) := Option.some.inj (h1.symm.trans hc)
  subst hrr
  obtain ⟨hSl, hfc, kC, hkC, hkind⟩ := hK.1 ci _ hc
  obtain ⟨cf, kf, fi, f, hi, hsl⟩ := hSl j hj
  have hlay := hts _ (hin _ (u_in_lay hj))
  unfold u_lay at hlay
  rw [if_neg (by rw [hfin]; decide)] at hlay
  have hst := (u_facts hfc hkC (u_lays hts hin hj) hi).1
  have h6 := u_store hfc hkC hkind hlay hi hdty hn hfit
  refine W.putK hx hb (f := f) ⟨hown, hts _ hlink, ⟨_, _, _, by rw [hcn] at hi; exact hi⟩, hst⟩ (by rw [q2]; exact h6) q1 q3 (by rw [hsl]; exact k2_hasslot (q4 j hj)) rfl rfl hd fun H' e1 e2 e3 => ?_
  rw [hsl] at e1 ⊢
  refine kk (rng_st hr hx0) H' _ ls (hP.upd hG hok (rng_st hr hx0) st1_off ?_ e3) (hS.put e2 e3 (hA1 k hok)) hl
  rw [ent_obj hkd hlt, flds_st hI]
  exact ⟨_, hc, t_OB.to (V := updV (vp_V (flds (adr G) w k ci)) j (vI x)) ⟨_, e1, q2, q3, t_set q4 hap hj (vI x)⟩ (fun i _ => vp_updV_set hlen (vI x) i)⟩
theorem oi_nat (n : Nat) : Int32.ofInt (n : Int) = nI n := Int32.ofInt_eq_ofNat
theorem r_iald (C : Cx B nL G A cc own Ts ret Rm) {k : Ky} {len : Nat} {z : Int} (n : Nat) (hok : okk G k) (hkd : kd k = (6, len)) (hz : z = (n : Int)) (hn : n < len) (hlen : len < 2 ^ 31) (hd : decode cc pc = .ok (.iaload, 1)) (kk : Wm B nL G A Q w cells slots (pc + 1) lv (vI (w k n) :: st)) : Wm B nL G A Q w cells slots pc lv (vI z :: .ref (adr G k) :: st) := by
  obtain ⟨p, l, e, R, s, m, args, below, meth, c⟩ := B
  obtain ⟨hx, hb, hml, hown, hts, ⟨hK, hNF, hNM, hNS⟩, hG, hA1, hA2, hlk, hret, hR, hZ⟩ := C
  intro H locs ls hP hS hl
  subst hz
  have hat := hP.2 k hok
  rw [ent_row hkd] at hat
  have hP1 : va_P G.1 vwCl [(adr G k, .inl (G.2.1.1, len, .inl (fun j => Int32.ofInt (w k j))))] H := fun i q hq => by
    cases i with
    | zero => cases hq; exact hat
    | succ i => simp at hq
  have kk := kk H locs ls hP hS hl
  refine va_iald hx hb hK hP1 0 0 rfl rfl (i := Int32.ofInt (n : Int)) (by rw [oi_nat]; exact vp_in_nI hn (by omega)) hd ?_
  rw [oi_nat, nI_clamp (by omega)]
  exact kk
theorem r_aald (C : Cx B nL G A cc own Ts ret Rm) {t : Nat} {z : Int} (n : Nat) (hok : okk G (t, 8, 3)) (ht : t ≤ 1) (hz : z = (n : Int)) (hn : n < 8) (hd : decode cc pc = .ok (.aaload, 1)) (kk : Wm B nL G A Q w cells slots (pc + 1) lv (.ref (adr G (t, n, 0)) :: st)) : Wm B nL G A Q w cells slots pc lv (vI z :: .ref (adr G (t, 8, 3)) :: st) := by
  obtain ⟨p, l, e, R, s, m, args, below, meth, c⟩ := B
  obtain ⟨hx, hb, hml, hown, hts, ⟨hK, hNF, hNM, hNS⟩, hG, hA1, hA2, hlk, hret, hR, hZ⟩ := C
  intro H locs ls hP hS hl
  subst hz
  have hat := hP.2 (t, 8, 3) hok
  rw [ent_vil (n := 8) (by simp [kd, ht])] at hat
  have hP1 : va_P G.1 vwCl [(adr G (t, 8, 3), .inl (G.2.1.2.1, 8, .inr (.inr (.inr (.inr (fun j => some (adr G (t, j, 0))))))))] H := fun i q hq => by
    cases i with
    | zero => cases hq; exact hat
    | succ i => simp at hq
  have kk := kk H locs ls hP hS hl
  refine va_aldq hx hb hK hP1 0 1 rfl rfl (i := Int32.ofInt (n : Int)) (by rw [oi_nat]; exact vp_in_nI hn (by omega)) hd ?_
  rw [oi_nat, nI_clamp (by omega)]
  exact kk
theorem r_lald (C : Cx B nL G A cc own Ts ret Rm) {k : Ky} {len : Nat} {z : Int} (n : Nat) (hok : okk G k) (hkd : kd k = (8, len)) (hz : z = (n : Int)) (hn : n < len) (hlen : len < 2 ^ 31) (hd : decode cc pc = .ok (.laload, 1)) (kk : Wm B nL G A Q w cells slots (pc + 1) lv (.long (Int64.ofInt (w k n)) :: st)) : Wm B nL G A Q w cells slots pc lv (vI z :: .ref (adr G k) :: st) := by
  obtain ⟨p, l, e, R, s, m, args, below, meth, c⟩ := B
  obtain ⟨hx, hb, hml, hown, hts, ⟨hK, hNF, hNM, hNS⟩, hG, hA1, hA2, hlk, hret, hR, hZ⟩ := C
  intro H locs ls hP hS hl
  subst hz
  have hat := hP.2 k hok
  rw [ent_lng hkd] at hat
  have hP1 : va_P G.1 vwCl [(adr G k, .inl (G.2.1.2.2, len, .inr (.inl (fun j => Int64.ofInt (w k j)))))] H := fun i q hq => by
    cases i with
    | zero => cases hq; exact hat
    | succ i => simp at hq
  have kk := kk H locs ls hP hS hl
  refine va_lald hx hb hK hP1 0 2 rfl rfl (i := Int32.ofInt (n : Int)) (by rw [oi_nat]; exact vp_in_nI hn (by omega)) hd ?_
  rw [oi_nat, nI_clamp (by omega)]
  exact kk
theorem r_iast (C : Cx B nL G A cc own Ts ret Rm) {k : Ky} {len : Nat} {z x : Int} (n : Nat) (hr : rng w) (hx0 : inR x) (hok : okk G k) (hkd : kd k = (6, len)) (hz : z = (n : Int)) (hn : n < len) (hlen : len < 2 ^ 31) (hd : decode cc pc = .ok (.iastore, 1)) (kk : rng (st1 w k n x) → Wm B nL G A Q (st1 w k n x) cells slots (pc + 1) lv st) : Wm B nL G A Q w cells slots pc lv (vI x :: vI z :: .ref (adr G k) :: st) := by
  obtain ⟨p, l, e, R, s, m, args, below, meth, c⟩ := B
  obtain ⟨hx, hb, hml, hown, hts, ⟨hK, hNF, hNM, hNS⟩, hG, hA1, hA2, hlk, hret, hR, hZ⟩ := C
  intro H locs ls hP hS hl
  subst hz
  have hat := hP.2 k hok
  rw [ent_row hkd] at hat
  have hcl : (Int32.ofInt (n : Int)).toNatClampNeg = n := by rw [oi_nat, nI_clamp (by omega)]
  have hvin : vp_in (Int32.ofInt (n : Int)) len := by rw [oi_nat]; exact vp_in_nI hn (by omega)
  refine W.iast hx hb hat ((hK.2 0 _ rfl).1 len (fun j => .int (Int32.ofInt (w k j)))) (fun q => by cases q) (by show ¬ (_ ∨ (arrV _ _ _).slots.size ≤ _); rw [arrV_size]; exact hvin) rfl rfl hd fun H1 e z oq => ?_
  refine kk (rng_st hr hx0) H1 _ ls (hP.upd hG hok (rng_st hr hx0) st1_off ?_ oq) (hS.put z oq (hA1 k hok)) hl
  rw [ent_row hkd]
  show H1[adr G k]? = some (vp_cell _ _)
  rw [e, vp_cell_i, vp_cell_i, arrV_store, hcl]
  congr 2
  funext q
  by_cases hq : q = n
  · subst hq
    simp [updV, st1]
  · simp [updV, st1, hq]
theorem r_last (C : Cx B nL G A cc own Ts ret Rm) {k : Ky} {len : Nat} {z x : Int} (n : Nat) (hr : rng w) (hx0 : inR x) (hok : okk G k) (hkd : kd k = (8, len)) (hz : z = (n : Int)) (hn : n < len) (hlen : len < 2 ^ 31) (hd : decode cc pc = .ok (.lastore, 1)) (kk : rng (st1 w k n x) → Wm B nL G A Q (st1 w k n x) cells slots (pc + 1) lv st) : Wm B nL G A Q w cells slots pc lv (.long (Int64.ofInt x) :: vI z :: .ref (adr G k) :: st) := by
  obtain ⟨p, l, e, R, s, m, args, below, meth, c⟩ := B
  obtain ⟨hx, hb, hml, hown, hts, ⟨hK, hNF, hNM, hNS⟩, hG, hA1, hA2, hlk, hret, hR, hZ⟩ := C
  intro H locs ls hP hS hl
  subst hz
  have hat := hP.2 k hok
  rw [ent_lng hkd] at hat
  have hcl : (Int32.ofInt (n : Int)).toNatClampNeg = n := by rw [oi_nat, nI_clamp (by omega)]
  have hvin : vp_in (Int32.ofInt (n : Int)) len := by rw [oi_nat]; exact vp_in_nI hn (by omega)
  refine W.last hx hb hat ((hK.2 2 _ rfl).1 len (fun j => .long (Int64.ofInt (w k j)))) (fun q => by cases q) (by show ¬ (_ ∨ (arrV _ _ _).slots.size ≤ _); rw [arrV_size]; exact hvin) rfl rfl hd fun H1 e z oq => ?_
  refine kk (rng_st hr hx0) H1 _ ls (hP.upd hG hok (rng_st hr hx0) st1_off ?_ oq) (hS.put z oq (hA1 k hok)) hl
  rw [ent_lng hkd]
  show H1[adr G k]? = some (vp_cell _ _)
  rw [e, vp_cell_l, vp_cell_l, arrV_store, hcl]
  congr 2
  funext q
  by_cases hq : q = n
  · subst hq
    simp [updV, st1]
  · simp [updV, st1, hq]
def cpy (w : Mm) (k0 k1 : Ky) (sp dp n : Nat) : Mm := fun k j => if k = k1 ∧ dp ≤ j ∧ j < dp + n then w k0 (sp + (j - dp)) else w k j
theorem cpy_off {w : Mm} {k0 k1 : Ky} {sp dp n : Nat} (k' : Ky) (h : k' ≠ k1) : cpy w k0 k1 sp dp n k' = w k' := by
  funext j
  simp [cpy, h]
theorem cpy_rng {w : Mm} {k0 k1 : Ky} {sp dp n : Nat} (h : rng w) : rng (cpy w k0 k1 sp dp n) := by
  intro k j
  unfold cpy
  split
  · exact h _ _
  · exact h _ _
theorem r_copy (C : Cx B nL G A cc own Ts ret Rm) {k0 k1 : Ky} {len0 len1 index : Nat} {sp dp n : Int} (sp' dp' n' : Nat) (hr : rng w) (hok0 : okk G k0) (hok1 : okk G k1) (hkd0 : kd k0 = (6, len0)) (hkd1 : kd k1 = (6, len1)) (hsp : sp = (sp' : Int)) (hdp : dp = (dp' : Int)) (hn : n = (n' : Int)) (h4 : sp' + n' ≤ len0) (h5 : dp' + n' ≤ len1) (hl0 : len0 < 2 ^ 31) (hl1 : len1 < 2 ^ 31)
    (hlink : Cond.methodLink own index arraycopyName ∈ Ts) (hnat : Cond.native arraycopyName ∈ Ts) (hstat : Cond.static arraycopyName ∈ Ts) (hini : Cond.initialized "java/lang/System" ∈ Ts)
    (hfr : 1 ≤ Rm.frames) (hlo : (st.map fun v => v.category).sum + (nativeFrameWords "java/lang/System" "arraycopy" 5 + 11) ≤ Rm.locals) (hd : decode cc pc = .ok (.invokestatic index, 3))
    (kk : rng (cpy w k0 k1 sp' dp' n') → Wm B nL G A Q (cpy w k0 k1 sp' dp' n') cells slots (pc + 3) lv st) : Wm B nL G A Q w cells slots pc lv (vI n :: vI dp :: .ref (adr G k1) :: vI sp :: .ref (adr G k0) :: st) := by
  obtain ⟨p, l, e, R, s, m, args, below, meth, c⟩ := B
  obtain ⟨hx, hb, hml, hown, hts, ⟨hK, hNF, hNM, hNS⟩, hG, hA1, hA2, hlk, hret, hR, hZ⟩ := C
  dsimp only at hR
  subst hR
  intro H locs ls hP hS hl T hT X
  subst hsp; subst hdp; subst hn
  have hc0 := hP.2 k0 hok0
  rw [ent_row hkd0] at hc0
  have hc1 := hP.2 k1 hok1
  rw [ent_row hkd1] at hc1
  replace hc0 : H[adr G k0]? = some (vp_cell G.2.1.1 (len0, .inl (fun j => Int32.ofInt (w k0 j)))) := hc0
  replace hc1 : H[adr G k1]? = some (vp_cell G.2.1.1 (len1, .inl (fun j => Int32.ofInt (w k1 j)))) := hc1
  have e1 : (Int32.ofInt (sp' : Int)).toNatClampNeg = sp' := by rw [oi_nat, nI_clamp (by omega)]
  have e2 : (Int32.ofInt (dp' : Int)).toNatClampNeg = dp' := by rw [oi_nat, nI_clamp (by omega)]
  have e3 : (Int32.ofInt (n' : Int)).toNatClampNeg = n' := by rw [oi_nat, nI_clamp (by omega)]
  have g1 : (Int32.ofInt (sp' : Int)).toInt = (sp' : Int) := by rw [oi_nat, nI_toInt (by omega)]
  have g2 : (Int32.ofInt (dp' : Int)).toInt = (dp' : Int) := by rw [oi_nat, nI_toInt (by omega)]
  have g3 : (Int32.ofInt (n' : Int)).toInt = (n' : Int) := by rw [oi_nat, nI_toInt (by omega)]
  have n1 : ¬ Int32.ofInt (sp' : Int) < 0 := by rw [oi_nat]; exact nI_pos (by omega)
  have n2 : ¬ Int32.ofInt (dp' : Int) < 0 := by rw [oi_nat]; exact nI_pos (by omega)
  have n3 : ¬ Int32.ofInt (n' : Int) < 0 := by rw [oi_nat]; exact nI_pos (by omega)
  obtain ⟨-, a0, hk0, cm0, hkk0⟩ := (hK.2 0 _ rfl).1 len0 (fun j => .int (Int32.ofInt (w k0 j)))
  obtain ⟨-, a1, hk1, cm1, hkk1⟩ := (hK.2 0 _ rfl).1 len1 (fun j => .int (Int32.ofInt (w k1 j)))
  obtain ⟨vm', X', step⟩ := X.arraycopy hx hown (hts _ hlink) (hts _ hnat) (hts _ hstat) (hts _ hini) (src := adr G k0) (dst := adr G k1) (cs := vp_cell G.2.1.1 (len0, .inl (fun j => Int32.ofInt (w k0 j)))) (cd := vp_cell G.2.1.1 (len1, .inl (fun j => Int32.ofInt (w k1 j)))) (srcPos := Int32.ofInt (sp' : Int)) (destPos := Int32.ofInt (dp' : Int)) (n := Int32.ofInt (n' : Int)) (by rw [hT]; exact hc0) (by rw [hT]; exact hc1)
    (fun _ h => by cases h) (fun _ h => by cases h) (fun h => by cases h) (fun h => by cases h) hk0 hk1 hkk0 hkk1 (by simp [refKind]) n1 n2 n3
    (by rw [g1, g3]; show ¬ _ > ((arrV G.2.1.1 len0 (fun j => .int (Int32.ofInt (w k0 j)))).slots.size : Int); rw [arrV_size]; omega)
    (by rw [g2, g3]; show ¬ _ > ((arrV G.2.1.1 len1 (fun j => .int (Int32.ofInt (w k1 j)))).slots.size : Int); rw [arrV_size]; omega)
    (fun vm₁ _ i hi => by
      rw [e3] at hi
      rw [e1]
      have e : (vp_cell G.2.1.1 (len0, .inl (fun j => Int32.ofInt (w k0 j)))).slots.getD (sp' + i) .null = .int (Int32.ofInt (w k0 (sp' + i))) := by
        show (arrV G.2.1.1 len0 (fun j => .int (Int32.ofInt (w k0 j)))).slots.getD _ _ = _
        rw [Array.getD_eq_getD_getElem?, arrV_read _ _ (by omega)]
        rfl
      refine ⟨?_, ?_⟩
      · rw [e]
        rfl
      · rw [e]
        exact trivial)
    (g := F0 m pc ls (vI (n' : Int) :: vI (dp' : Int) :: .ref (adr G k1) :: vI (sp' : Int) :: .ref (adr G k0) :: st)) rfl (by show ls.size = c.maxLocals; rw [hl.1]; exact hml.symm) (rest := st) rfl (by rw [show c.code = cc from hb]; exact hd) hfr (by show 2 * 0 + _ + _ ≤ R.locals; omega)
  have ecp : copied (vp_cell G.2.1.1 (len0, .inl (fun j => Int32.ofInt (w k0 j)))) (vp_cell G.2.1.1 (len1, .inl (fun j => Int32.ofInt (w k1 j)))) (Int32.ofInt (sp' : Int)) (Int32.ofInt (dp' : Int)) (Int32.ofInt (n' : Int)) = vp_cell G.2.1.1 (len1, .inl (fun j => Int32.ofInt (cpy w k0 k1 sp' dp' n' k1 j))) := by
    have h := va_copied (fun z : Int32 => Value.int z) G.2.1.1 G.2.1.1 (n1 := len1) (dp := dp') (fun j => Int32.ofInt (w k0 j)) (fun j => Int32.ofInt (w k1 j)) h4
    unfold copied
    rw [e1, e2, e3]
    refine h.trans ?_
    rw [vp_cell_i]
    congr 1
    funext j
    simp only [va_cpy, cpy, true_and]
    split <;> rfl
  rw [ecp] at X' step
  have hl9 : adr G k1 < H.size := (Array.getElem?_eq_some_iff.mp hc1).1
  have hheap : ((T.setVm vm').setCell (adr G k1) (vp_cell G.2.1.1 (len1, .inl (fun j => Int32.ofInt (cpy w k0 k1 sp' dp' n' k1 j))))).heap = H.setIfInBounds (adr G k1) (vp_cell G.2.1.1 (len1, .inl (fun j => Int32.ofInt (cpy w k0 k1 sp' dp' n' k1 j)))) := by rw [← hT]; rfl
  have oq : ∀ q : Nat, q ≠ adr G k1 → (H.setIfInBounds (adr G k1) (vp_cell G.2.1.1 (len1, .inl (fun j => Int32.ofInt (cpy w k0 k1 sp' dp' n' k1 j)))))[q]? = H[q]? := fun q hq => by simp [Array.getElem?_setIfInBounds, Ne.symm hq]
  obtain ⟨t, b1, b2⟩ := kk (cpy_rng hr) _ _ ls (hP.upd hG hok1 (cpy_rng hr) cpy_off (by rw [ent_row hkd1]; show (H.setIfInBounds (adr G k1) _)[adr G k1]? = some _; simp [Array.getElem?_setIfInBounds, hl9]) oq) ⟨by simp; exact hS.1, fun q g1 g2 => by
      rw [oq q (fun e => g2 (by rw [e]; exact hA1 k1 hok1))]
      exact hS.2.1 q g1 g2, fun q hq => by
      rcases List.mem_append.mp hq with h | h
      · exact hS.2.2 q h
      · obtain ⟨z, -, hz⟩ := List.mem_map.mp h
        rw [← hz]
        exact hA1 k1 hok1⟩ hl _ hheap X'
  exact ⟨t, step t b1, b2⟩
theorem abs_eq {a : Int} (ha : -2147483648 < a) (ha2 : a < 2147483648) : (if 0 ≤ Int32.ofInt a then Int32.ofInt a else 0 - Int32.ofInt a) = Int32.ofInt (a.natAbs : Int) := by
  by_cases h : 0 ≤ a
  · rw [if_pos (show (0 : Int32) ≤ Int32.ofInt a from (ci_le inR_0 ⟨by omega, ha2⟩).mpr h), Int.natAbs_of_nonneg h]
  · rw [if_neg (fun q => h (c0_ge1 ⟨by omega, ha2⟩ q))]
    rw [show (a.natAbs : Int) = 0 - a by omega, Int32.ofInt_sub]
    rfl
theorem r_mabs (C : Cx B nL G A cc own Ts ret Rm) {a : Int} {index : Nat} (ha : -2147483648 < a) (ha2 : a < 2147483648) (hlink : Cond.methodLink own index Lib.Math.abs.name ∈ Ts) (hstat : Cond.static Lib.Math.abs.name ∈ Ts) (hini : Cond.initialized "java/lang/Math" ∈ Ts) (hcode : Cond.code Lib.Math.abs.name Lib.Math.abs.code 1 (some .int) ∈ Ts) (hfr : 1 ≤ Rm.frames) (hlo : (st.map fun v => v.category).sum + 13 ≤ Rm.locals) (hc : cells ≤ Rm.cells) (hs : slots ≤ Rm.slots) (hd : decode cc pc = .ok (.invokestatic index, 3))
    (kk : Wm B nL G A Q w cells slots (pc + 3) lv (vI (a.natAbs : Int) :: st)) : Wm B nL G A Q w cells slots pc lv (vI a :: st) := by
  obtain ⟨p, l, e, R, s, m, args, below, meth, c⟩ := B
  obtain ⟨hx, hb, hml, hown, hts, ⟨hK, hNF, hNM, hNS⟩, hG, hA1, hA2, hlk, hret, hR, hZ⟩ := C
  intro H locs ls hP hS hl
  have kk := kk H locs ls hP hS hl
  rw [show vI (a.natAbs : Int) = .int (if 0 ≤ Int32.ofInt a then Int32.ofInt a else 0 - Int32.ofInt a) from congrArg Value.int (abs_eq ha ha2).symm] at kk
  dsimp only at hR
  subst hR
  exact va_mabs hx hb (by rw [hl.1]; exact hml) hown (hts _ hlink) (hts _ hstat) (hts _ hini) (hts _ hcode) hfr hlo hc hs hd kk
theorem max_eq {a b : Int} (ha : inR a) (hb : inR b) : (if Int32.ofInt a < Int32.ofInt b then Int32.ofInt b else Int32.ofInt a) = Int32.ofInt (max a b) := by
  by_cases h : a < b
  · rw [if_pos ((ci_lt ha hb).mpr h), show max a b = b by omega]
  · rw [if_neg (fun q => h (ci_lt1 ha hb q)), show max a b = a by omega]
theorem r_mmax (C : Cx B nL G A cc own Ts ret Rm) {a b : Int} {index : Nat} (ha : inR a) (hb0 : inR b) (hlink : Cond.methodLink own index Lib.Math.max.name ∈ Ts) (hstat : Cond.static Lib.Math.max.name ∈ Ts) (hini : Cond.initialized "java/lang/Math" ∈ Ts) (hcode : Cond.code Lib.Math.max.name Lib.Math.max.code 2 (some .int) ∈ Ts) (hfr : 1 ≤ Rm.frames) (hlo : (st.map fun v => v.category).sum + 13 ≤ Rm.locals) (hc : cells ≤ Rm.cells) (hs : slots ≤ Rm.slots) (hd : decode cc pc = .ok (.invokestatic index, 3))
    (kk : Wm B nL G A Q w cells slots (pc + 3) lv (vI (max a b) :: st)) : Wm B nL G A Q w cells slots pc lv (vI b :: vI a :: st) := by
  obtain ⟨p, l, e, R, s, m, args, below, meth, c⟩ := B
  obtain ⟨hx, hb, hml, hown, hts, ⟨hK, hNF, hNM, hNS⟩, hG, hA1, hA2, hlk, hret, hR, hZ⟩ := C
  intro H locs ls hP hS hl
  have kk := kk H locs ls hP hS hl
  rw [show vI (max a b) = .int (if Int32.ofInt a < Int32.ofInt b then Int32.ofInt b else Int32.ofInt a) from congrArg Value.int (max_eq ha hb0).symm] at kk
  dsimp only at hR
  subst hR
  exact va_mmax hx hb (by rw [hl.1]; exact hml) hown (hts _ hlink) (hts _ hstat) (hts _ hini) (hts _ hcode) hfr hlo hc hs hd kk
theorem r_tsIn (C : Cx B nL G A cc own Ts ret Rm) {a dflt lo hi off : Int} {offs : Array Int} {len tgt : Nat} (hd : decode cc pc = .ok (.tableswitch dflt lo hi offs, len)) (ha : inR a) (h1 : lo ≤ a) (h2 : a ≤ hi) (ho : offs[(a - lo).toNat]? = some off) (ht : (pc : Int) + off = (tgt : Int)) (kk : Wm B nL G A Q w cells slots tgt lv st) : Wm B nL G A Q w cells slots pc lv (vI a :: st) := by
  obtain ⟨p, l, e, R, s, m, args, below, meth, c⟩ := B
  intro H locs ls hP hS hl
  exact lv_tableIn C.1 C.2.1 hd (by rw [tI ha]; omega) (by rw [tI ha]; omega) (by rw [tI ha]; exact ho) ht (kk H locs ls hP hS hl)
theorem r_tsOut (C : Cx B nL G A cc own Ts ret Rm) {a dflt lo hi : Int} {offs : Array Int} {len tgt : Nat} (hd : decode cc pc = .ok (.tableswitch dflt lo hi offs, len)) (ha : inR a) (h : a < lo ∨ hi < a) (ht : (pc : Int) + dflt = (tgt : Int)) (kk : Wm B nL G A Q w cells slots tgt lv st) : Wm B nL G A Q w cells slots pc lv (vI a :: st) := by
  obtain ⟨p, l, e, R, s, m, args, below, meth, c⟩ := B
  intro H locs ls hP hS hl
  exact lv_tableOut C.1 C.2.1 hd (by rw [tI ha]; exact h) ht (kk H locs ls hP hS hl)
theorem Wm.widen {B : Bx} {nL : Nat} {G : Gt} {A : Nat → Prop} {Q : State → Prop} {w : Mm} {cells slots c2 s2 pc : Nat} {lv : List (Nat × Value)} {st : List Value} (h1 : cells ≤ c2) (h2 : slots ≤ s2) (kk : Wm B nL G A Q w c2 s2 pc lv st) : Wm B nL G A Q w cells slots pc lv st := fun H locs ls hP hS hl => W.widen h1 h2 (kk H locs ls hP hS hl)
theorem Wm.sub {B : Bx} {nL : Nat} {G : Gt} {A : Nat → Prop} {Q : State → Prop} {w : Mm} {cells slots pc : Nat} {lv lv' : List (Nat × Value)} {st : List Value} (ks : List Nat) (h : lv_pick lv ks = lv') (kk : Wm B nL G A Q w cells slots pc lv' st) : Wm B nL G A Q w cells slots pc lv st := fun H locs ls hP hS hl => kk H locs ls hP hS (lv_sub hl ks h)
theorem r_back {A0 A1 : Nat → Prop} {p : Program} {l : Launch} {e : Env} {R : Room} {s : State} {m : MethodId} {args : Array Value} {below : List Frame} {meth : Method} {c : Code} {H : Heap} {locs : List Loc} {cells slots pc mc ms : Nat} {Q : State → Prop} {ls : Array Slot} {rest st0 : List Value} {a : Array Value} {free : Addr → Prop} {H0 : Heap} {G : Gt} {v : Option Value} {w' : Mm}
    (hr : va_Run p l e R s m args below meth c H locs cells slots mc ms (F0 m pc ls st0) rest (Qw G v w' A1 a) free) (hS : va_S A0 H0 H locs) (hA : ∀ q, q < H.size → A1 q → A0 q) (hf : ∀ q, free q → A0 q)
    (kk : ∀ (H1 : Heap) (locs1 : List Loc), Pic G w' H1 → va_S A0 H0 H1 locs1 → W p l e R s m args below meth c H1 locs1 (cells + mc) (slots + ms) Q (F0 m (pc + 3) ls (v.toList ++ rest))) : W p l e R s m args below meth c H locs cells slots Q (F0 m pc ls st0) := by
  intro T hT X
  obtain ⟨v2, st₀, t, T', L, h0, X', hL, e1, e2, ⟨hv, hp, hz, hk⟩, st⟩ := hr T hT X
  cases hv
  rw [h0] at hz hk
  obtain ⟨t2, a1, b1⟩ := kk T'.heap (locs ++ L) (by rw [e1]; exact hp)
    ⟨Nat.le_trans hS.1 (by rw [e1]; exact hz), fun q h1 h2 => by rw [e1, hk q (Nat.lt_of_lt_of_le h1 hS.1) (fun z => h2 (hA q (Nat.lt_of_lt_of_le h1 hS.1) z))]; exact hS.2.1 q h1 h2, fun q hq => by
      rcases List.mem_append.mp hq with h | h
      · exact hS.2.2 q h
      · exact hf _ (hL q h)⟩ T' rfl X'
  exact ⟨t2, st t2 a1, b1⟩
theorem Ag_in {B : Bx} {nL : Nat} {G : Gt} {A : Nat → Prop} {cc : ByteArray} {own : String} {Ts : List Cond} {ret : Option FieldType} {Rm : Room} (C : Cx B nL G A cc own Ts ret Rm) {H : Heap} {locs : List Loc} (hS : va_S A B.2.2.2.2.1.heap H locs) : ∀ q, Ag G H.size q → A q := by
  intro q h
  rcases h with ⟨k, hk, rfl⟩ | h
  · exact C.2.2.2.2.2.2.2.1 k hk
  · exact C.2.2.2.2.2.2.2.2.1 q (Nat.le_trans hS.1 h)
theorem r_callV (C : Cx B nL G A cc own Ts ret Rm) {y : MethodName} {ws ws' : List Cond} {rm : Room} {v : Option Value} {w' : Mm} {mc ms index maxL : Nat} {bytes : ByteArray} {retY : Option FieldType} {k0 : Ky} {ci nk N : Nat} {Cn : String} {T : u_T} {rest st' : List Value} (As : List Value) (n : Nat)
    (hM : Con B.2.1 G y ws rm w (.ref (adr G k0) :: As) v w' mc ms) (hg : GoodIn Ts (wsV own index Cn y ws)) (hw : ws = Cond.code y bytes maxL retY :: ws') (hrc : rm.cells = mc) (hrs : rm.slots = ms)
    (hdc : y.cls = Cn ∧ y.cls ≠ "java/lang/invoke/MethodHandle" ∧ y.cls ≠ "java/lang/invoke/VarHandle" ∧ (parseMethodDescriptor y.desc).map (fun d => d.parameters.length) = some n) (h1 : rm.frames + 1 ≤ Rm.frames) (h2 : 8 + (maxL + 11) + rm.locals ≤ Rm.locals) (hf : cells + mc ≤ Rm.cells ∧ slots + ms ≤ Rm.slots)
    (hok : okk G k0) (hkd : kd k0 = (ci, nk)) (hlt : ci < 6) (hc : vwCl[ci]? = some (Cn, T, N)) (hn : As.length = n) (hst : st = As.reverse ++ .ref (adr G k0) :: rest) (hcat : (rest.map fun v => v.category).sum ≤ 8) (hst' : v.toList ++ rest = st') (hd : decode cc pc = .ok (.invokevirtual index, 3))
    (kk : rng w' → Wm B nL G A Q w' (cells + mc) (slots + ms) (pc + 3) lv st') : Wm B nL G A Q w cells slots pc lv st := by
  have hAg := @Ag_in _ _ _ _ _ _ _ _ _ C
  obtain ⟨p, l, e, R, s, m, args, below, meth, c⟩ := B
  obtain ⟨hx, hb, hml, hown, hts, ⟨hK, hNF, hNM, hNS⟩, hG, hA1, hA2, hlk, hret, hR, hZ⟩ := C
  intro H locs ls hP hS hl
  dsimp only at hR
  subst hR; subst hst; subst hst'
  have hat := hP.2 k0 hok
  rw [ent_obj hkd hlt] at hat
  have hP1 : va_P G.1 vwCl [(adr G k0, .inr (ci, flds (adr G) w k0 ci))] H := fun i q hq => by
    cases i with
    | zero => cases hq; exact hat
    | succ i => simp at hq
  exact r_back (va_runV (As := As) (rest := rest) ⟨hx, hb, hml, hown, hts⟩ (hM H.size) (cwV n hts hg hw hrc hrs hdc ⟨h1, h2⟩) ⟨Pw.blind, va_recv hK hP1 (q0 := 0) hc rfl, fun U hU hW => ⟨rfl, by rw [hU], by rw [hU]; exact hP, Kn.warm hW ⟨hK, hNF, hNM, hNS⟩, by rw [hU]; exact (hZ.kept hS.2.1 (hAg hS)).moved hW.alike⟩⟩ rfl hn hl.1 rfl (lv_room hcat) hd hf) hS (fun q _ h => hAg hS q h) (hAg hS) (fun H1 locs1 hP1 hS1 => kk hP1.1 H1 locs1 ls hP1 hS1 hl)
theorem r_callS (C : Cx B nL G A cc own Ts ret Rm) {y : MethodName} {ws ws' : List Cond} {rm : Room} {v : Option Value} {w' : Mm} {mc ms index maxL : Nat} {bytes : ByteArray} {retY : Option FieldType} {rest st' : List Value} (As : List Value) (n : Nat)
    (hM : Con B.2.1 G y ws rm w As v w' mc ms) (hg : GoodIn Ts (va_wsS own index y ws)) (hw : ws = Cond.code y bytes maxL retY :: ws') (hrc : rm.cells = mc) (hrs : rm.slots = ms)
    (hdc : y.cls ≠ "java/lang/invoke/MethodHandle" ∧ y.cls ≠ "java/lang/invoke/VarHandle" ∧ (parseMethodDescriptor y.desc).map (fun d => d.parameters.length) = some n) (h1 : rm.frames + 1 ≤ Rm.frames) (h2 : 8 + (maxL + 11) + rm.locals ≤ Rm.locals) (hf : cells + mc ≤ Rm.cells ∧ slots + ms ≤ Rm.slots)
    (hn : As.length = n) (hst : st = As.reverse ++ rest) (hcat : (rest.map fun v => v.category).sum ≤ 8) (hst' : v.toList ++ rest = st') (hd : decode cc pc = .ok (.invokestatic index, 3))
    (kk : rng w' → Wm B nL G A Q w' (cells + mc) (slots + ms) (pc + 3) lv st') : Wm B nL G A Q w cells slots pc lv st := by
  have hAg := @Ag_in _ _ _ _ _ _ _ _ _ C
  obtain ⟨p, l, e, R, s, m, args, below, meth, c⟩ := B
  obtain ⟨hx, hb, hml, hown, hts, ⟨hK, hNF, hNM, hNS⟩, hG, hA1, hA2, hlk, hret, hR, hZ⟩ := C
  intro H locs ls hP hS hl
  dsimp only at hR
  subst hR; subst hst; subst hst'
  exact r_back (va_runS (As := As) (rest := rest) ⟨hx, hb, hml, hown, hts⟩ (hM H.size) (va_cwS n hts hg hw hrc hrs hdc ⟨h1, h2⟩) ⟨Pw.blind, fun U hU hW => ⟨rfl, by rw [hU], by rw [hU]; exact hP, Kn.warm hW ⟨hK, hNF, hNM, hNS⟩, by rw [hU]; exact (hZ.kept hS.2.1 (hAg hS)).moved hW.alike⟩⟩ rfl hn hl.1 rfl (lv_room hcat) hd hf) hS (fun q _ h => hAg hS q h) (hAg hS) (fun H1 locs1 hP1 hS1 => kk hP1.1 H1 locs1 ls hP1 hS1 hl)
theorem r_iret (C : Cx B nL G A cc own Ts (some .int) Rm) {z : Int} {v : Option Value} {w' : Mm} (hd : decode cc pc = .ok (.ireturn, 1)) (hv : some (vI z) = v) (hw : w = w') : Wm B nL G A (Qe B G A v w' cells slots) w cells slots pc lv [vI z] := by
  obtain ⟨p, l, e, R, s, m, args, below, meth, c⟩ := B
  obtain ⟨hx, hb, hml, hown, hts, ⟨hK, hNF, hNM, hNS⟩, hG, hA1, hA2, hlk, hret, hR, hZ⟩ := C
  intro H locs ls hP hS hl
  subst hv; subst hw
  exact W.iret hx hb hret (fun t ht hW => ⟨rfl, by rw [ht]; exact hP, hS.F ht⟩) hS.2.2 hd hlk
theorem r_zret (C : Cx B nL G A cc own Ts (some .boolean) Rm) {z : Int} {v : Option Value} {w' : Mm} (hd : decode cc pc = .ok (.ireturn, 1)) (hz : z = 0 ∨ z = 1) (hv : some (vI z) = v) (hw : w = w') : Wm B nL G A (Qe B G A v w' cells slots) w cells slots pc lv [vI z] := by
  obtain ⟨p, l, e, R, s, m, args, below, meth, c⟩ := B
  obtain ⟨hx, hb, hml, hown, hts, ⟨hK, hNF, hNM, hNS⟩, hG, hA1, hA2, hlk, hret, hR, hZ⟩ := C
  intro H locs ls hP hS hl
  subst hv; subst hw
  exact W.zret hx hb hret (by rcases hz with rfl | rfl <;> decide) (fun t ht hW => ⟨rfl, by rw [ht]; exact hP, hS.F ht⟩) hS.2.2 hd hlk
theorem r_vret (C : Cx B nL G A cc own Ts none Rm) {w' : Mm} (hd : decode cc pc = .ok (.return_, 1)) (hw : w = w') : Wm B nL G A (Qe B G A none w' cells slots) w cells slots pc lv [] := by
  obtain ⟨p, l, e, R, s, m, args, below, meth, c⟩ := B
  obtain ⟨hx, hb, hml, hown, hts, ⟨hK, hNF, hNM, hNS⟩, hG, hA1, hA2, hlk, hret, hR, hZ⟩ := C
  intro H locs ls hP hS hl
  subst hw
  exact W.vret hx hb hret (fun t ht hW => ⟨rfl, by rw [ht]; exact hP, hS.F ht⟩) hS.2.2 hd hlk
theorem r_lret (C : Cx B nL G A cc own Ts (some .long) Rm) {z : Int64} {v : Option Value} {w' : Mm} (hd : decode cc pc = .ok (.lreturn, 1)) (hv : some (Value.long z) = v) (hw : w = w') : Wm B nL G A (Qe B G A v w' cells slots) w cells slots pc lv [.long z] := by
  obtain ⟨p, l, e, R, s, m, args, below, meth, c⟩ := B
  obtain ⟨hx, hb, hml, hown, hts, ⟨hK, hNF, hNM, hNS⟩, hG, hA1, hA2, hlk, hret, hR, hZ⟩ := C
  intro H locs ls hP hS hl
  subst hv; subst hw
  exact W.lret hx hb hret (fun t ht hW => ⟨rfl, by rw [ht]; exact hP, hS.F ht⟩) hS.2.2 hd hlk

theorem Wm.mem {B : Bx} {nL : Nat} {G : Gt} {A : Nat → Prop} {Q : State → Prop} {w w' : Mm} {cells slots pc : Nat} {lv lv' : List (Nat × Value)} {st : List Value} (h : w = w') (hl : lv = lv') (kk : Wm B nL G A Q w' cells slots pc lv' st) : Wm B nL G A Q w cells slots pc lv st := by
  subst h
  subst hl
  exact kk
theorem Wm.top {B : Bx} {nL : Nat} {G : Gt} {A : Nat → Prop} {Q : State → Prop} {w : Mm} {cells slots pc : Nat} {lv : List (Nat × Value)} {st : List Value} {z z' : Int} (h : z = z') (kk : Wm B nL G A Q w cells slots pc lv (vI z' :: st)) : Wm B nL G A Q w cells slots pc lv (vI z :: st) := by
  subst h
  exact kk
/-! truth values -/
def bI (P : Prop) [Decidable P] : Int := if P then 1 else 0
theorem bI_01 (P : Prop) [Decidable P] : bI P = 0 ∨ bI P = 1 := by
  unfold bI
  split
  · exact Or.inr rfl
  · exact Or.inl rfl
theorem bI_t {P : Prop} [Decidable P] (h : P) : bI P = 1 := if_pos h
theorem bI_f {P : Prop} [Decidable P] (h : ¬ P) : bI P = 0 := if_neg h
theorem bI_inR (P : Prop) [Decidable P] : inR (bI P) := by
  rcases bI_01 P with h | h <;> rw [h] <;> exact ⟨by decide, by decide⟩
theorem bI_0 {P : Prop} [Decidable P] (h : bI P = 0) : ¬ P := fun q => by rw [bI_t q] at h; omega
theorem bI_1 {P : Prop} [Decidable P] (h : ¬ bI P = 0) : P := Decidable.byContradiction fun q => h (bI_f q)
theorem r_if_eqP (C : Cx B nL G A cc own Ts ret Rm) {P : Prop} [Decidable P] {off : Int} {tgt : Nat} (hd : decode cc pc = .ok (.ifCond .eq off, 3)) (ht : (pc : Int) + off = (tgt : Int)) (k1 : ¬ P → Wm B nL G A Q w cells slots tgt lv st) (k2 : P → Wm B nL G A Q w cells slots (pc + 3) lv st) : Wm B nL G A Q w cells slots pc lv (vI (bI P) :: st) :=
  r_if_eq C hd ht (bI_inR P) (fun h => k1 (bI_0 h)) (fun h => k2 (bI_1 h))
theorem r_if_neP (C : Cx B nL G A cc own Ts ret Rm) {P : Prop} [Decidable P] {off : Int} {tgt : Nat} (hd : decode cc pc = .ok (.ifCond .ne off, 3)) (ht : (pc : Int) + off = (tgt : Int)) (k1 : P → Wm B nL G A Q w cells slots tgt lv st) (k2 : ¬ P → Wm B nL G A Q w cells slots (pc + 3) lv st) : Wm B nL G A Q w cells slots pc lv (vI (bI P) :: st) :=
  r_if_ne C hd ht (bI_inR P) (fun h => k1 (bI_1 h)) (fun h => k2 (bI_0 h))
/-! keys -/
theorem ok_of {G : Gt} (hG : Gok G) {k : Ky} {ci n : Nat} (h : kd k = (ci, n)) (h9 : ci < 9) (h6 : k.1 ≤ 6) : okk G k := hG.2 k (by rw [h]; exact h9) h6
theorem kdv0 {t v : Nat} (ht : t ≤ 1) (hv : v ≤ 7) : kd (t, v, 0) = (2, 0) := by simp [kd, ht, hv]
theorem kdv1 {t v : Nat} (ht : t ≤ 1) (hv : v ≤ 7) : kd (t, v, 1) = (6, 5) := by simp [kd, ht, hv]
theorem kdv2 {t v : Nat} (ht : t ≤ 1) (hv : v ≤ 7) : kd (t, v, 2) = (6, 12) := by simp [kd, ht, hv]
theorem kdv3 {t v : Nat} (ht : t ≤ 1) (hv : v ≤ 7) : kd (t, v, 3) = (1, 0) := by simp [kd, ht, hv]
theorem kdv4 {t v : Nat} (ht : t ≤ 1) (hv : v ≤ 7) : kd (t, v, 4) = (6, 112) := by simp [kd, ht, hv]
theorem kdv5 {t v : Nat} (ht : t ≤ 1) (hv : v ≤ 7) : kd (t, v, 5) = (6, 112) := by simp [kd, ht, hv]
theorem kdv6 {t v : Nat} (ht : t ≤ 1) (hv : v ≤ 7) : kd (t, v, 6) = (6, 112) := by simp [kd, ht, hv]
theorem kdv7 {t v : Nat} (ht : t ≤ 1) (hv : v ≤ 7) : kd (t, v, 7) = (6, 112) := by simp [kd, ht, hv]
theorem kdl0 {t : Nat} (ht : t ≤ 1) : kd (t, 8, 0) = (0, 0) := by simp [kd, ht]
theorem kdl1 {t : Nat} (ht : t ≤ 1) : kd (t, 8, 1) = (6, 12) := by simp [kd, ht]
theorem kdl2 {t : Nat} (ht : t ≤ 1) : kd (t, 8, 2) = (6, 12) := by simp [kd, ht]
theorem kdl3 {t : Nat} (ht : t ≤ 1) : kd (t, 8, 3) = (7, 8) := by simp [kd, ht]
theorem kds0 {u : Nat} (hu : u = 4 ∨ u = 5) : kd (u, 0, 0) = (4, 0) := by rcases hu with rfl | rfl <;> rfl
theorem kds1 {u : Nat} (hu : u = 4 ∨ u = 5) : kd (u, 0, 1) = (6, 8) := by rcases hu with rfl | rfl <;> rfl
theorem kds2 {u : Nat} (hu : u = 4 ∨ u = 5) : kd (u, 0, 2) = (6, 8) := by rcases hu with rfl | rfl <;> rfl
theorem kds3 {u : Nat} (hu : u = 4 ∨ u = 5) : kd (u, 0, 3) = (6, 8) := by rcases hu with rfl | rfl <;> rfl
theorem kds4 {u : Nat} (hu : u = 4 ∨ u = 5) : kd (u, 0, 4) = (6, 8) := by rcases hu with rfl | rfl <;> rfl
theorem kds5 {u : Nat} (hu : u = 4 ∨ u = 5) : kd (u, 0, 5) = (6, 40) := by rcases hu with rfl | rfl <;> rfl
theorem kds6 {u : Nat} (hu : u = 4 ∨ u = 5) : kd (u, 0, 6) = (6, 96) := by rcases hu with rfl | rfl <;> rfl
theorem kds7 {u : Nat} (hu : u = 4 ∨ u = 5) : kd (u, 0, 7) = (6, 8) := by rcases hu with rfl | rfl <;> rfl
theorem kds8 {u : Nat} (hu : u = 4 ∨ u = 5) : kd (u, 0, 8) = (6, 1024) := by rcases hu with rfl | rfl <;> rfl
theorem kds9 {u : Nat} (hu : u = 4 ∨ u = 5) : kd (u, 0, 9) = (6, 1024) := by rcases hu with rfl | rfl <;> rfl
theorem kds10 {u : Nat} (hu : u = 4 ∨ u = 5) : kd (u, 0, 10) = (6, 1024) := by rcases hu with rfl | rfl <;> rfl
theorem kds11 {u : Nat} (hu : u = 4 ∨ u = 5) : kd (u, 0, 11) = (6, 1024) := by rcases hu with rfl | rfl <;> rfl
theorem kds12 {u : Nat} (hu : u = 4 ∨ u = 5) : kd (u, 0, 12) = (6, 1024) := by rcases hu with rfl | rfl <;> rfl
theorem rem_t {a b : Int} (ha : inR a) (hb : 0 < b) (hb2 : b < 2147483648) : Int32.ofInt a - Int32.ofInt a / Int32.ofInt b * Int32.ofInt b = Int32.ofInt (a.tmod b) := by
  have h2 : (Int32.ofInt b).toInt = b := tI ⟨by omega, hb2⟩
  have h3 : Int32.ofInt a / Int32.ofInt b = Int32.ofInt (a.tdiv b) := by
    rw [← Int32.ofInt_toInt (Int32.ofInt a / Int32.ofInt b), Int32.toInt_div_of_ne_right _ _ (fun q => by rw [q] at h2; simp at h2; omega), tI ha, h2]
  rw [h3, ← Int32.ofInt_mul, ← Int32.ofInt_sub, Int.tmod_def, Int.mul_comm]
theorem r_iremT (C : Cx B nL G A cc own Ts ret Rm) {a b : Int} (hd : decode cc pc = .ok (.irem, 1)) (ha : inR a) (hb : 0 < b) (hb2 : b < 2147483648) (kk : Wm B nL G A Q w cells slots (pc + 1) lv (vI (a.tmod b) :: st)) : Wm B nL G A Q w cells slots pc lv (vI b :: vI a :: st) := by
  obtain ⟨p, l, e, R, s, m, args, below, meth, c⟩ := B
  intro H locs ls hP hS hl
  have kk := kk H locs ls hP hS hl
  rw [show vI (a.tmod b) = .int (Int32.ofInt a - Int32.ofInt a / Int32.ofInt b * Int32.ofInt b) from congrArg Value.int (rem_t ha hb hb2).symm] at kk
  exact lv_irem C.1 C.2.1 hd (div_ne hb hb2) kk
def xr (a b : Int) : Int := (Int32.ofInt a ^^^ Int32.ofInt b).toInt
theorem xr_neg {a b : Int} (ha : inR a) (hb : 0 < b) (hb2 : b < 2147483648) : xr a b < 0 ↔ a < 0 := by
  have h1 : (Int32.ofInt a).toBitVec.toInt = a := tI ha
  have h2 : (Int32.ofInt b).toBitVec.toInt = b := tI ⟨by omega, hb2⟩
  have h3 : ((Int32.ofInt a ^^^ Int32.ofInt b).toBitVec).msb = ((Int32.ofInt a).toBitVec.msb ^^ (Int32.ofInt b).toBitVec.msb) := by
    rw [Int32.toBitVec_xor, BitVec.msb_xor]
  rw [BitVec.msb_eq_toInt, BitVec.msb_eq_toInt, BitVec.msb_eq_toInt, h1, h2] at h3
  have h4 : decide (b < 0) = false := decide_eq_false (by omega)
  rw [h4, Bool.xor_false] at h3
  exact decide_eq_decide.mp h3
theorem r_ixor (C : Cx B nL G A cc own Ts ret Rm) {a b : Int} (hd : decode cc pc = .ok (.ixor, 1)) (kk : Wm B nL G A Q w cells slots (pc + 1) lv (vI (xr a b) :: st)) : Wm B nL G A Q w cells slots pc lv (vI b :: vI a :: st) := by
  obtain ⟨p, l, e, R, s, m, args, below, meth, c⟩ := B
  intro H locs ls hP hS hl
  have kk := kk H locs ls hP hS hl
  rw [show vI (xr a b) = .int (Int32.ofInt a ^^^ Int32.ofInt b) from congrArg Value.int (Int32.ofInt_toInt _)] at kk
  exact lv_ixor C.1 C.2.1 hd kk
theorem r_aret (C : Cx B nL G A cc own Ts ret Rm) {z : Nat} {v : Option Value} {w' : Mm} (hrt : ∃ n, ret = some (.object n)) (hd : decode cc pc = .ok (.areturn, 1)) (hv : some (Value.ref z) = v) (hw : w = w') : Wm B nL G A (Qe B G A v w' cells slots) w cells slots pc lv [.ref z] := by
  obtain ⟨p, l, e, R, s, m, args, below, meth, c⟩ := B
  obtain ⟨hx, hb, hml, hown, hts, ⟨hK, hNF, hNM, hNS⟩, hG, hA1, hA2, hlk, hret, hR, hZ⟩ := C
  obtain ⟨n, rfl⟩ := hrt
  intro H locs ls hP hS hl
  subst hv; subst hw
  exact W.aret hx hb hret (Or.inl ⟨_, rfl⟩) (Or.inr ⟨_, rfl⟩) (fun t ht hW => ⟨rfl, by rw [ht]; exact hP, hS.F ht⟩) hS.2.2 hd hlk

theorem Met.ofWF {l : Launch} {y : MethodName} {ws ws' : List Cond} {rm : Room} {Pc : Array Value → State → Prop} {Qc : Array Value → State → Outcome → State → Prop} {mc ms : Nat} {free : Addr → Prop} {cc : ByteArray} {maxL : Nat} {ret : Option FieldType}
    (hy : plainFor y = true) (hw : ws = Cond.code y cc maxL ret :: ws')
    (body : ∀ p e s m args below meth c s₁, BodyLoose p l y (headSpec ws rm) cc maxL ret e s m args below meth c s₁ → c.maxLocals = maxL → Pc args s →
      W p l e (headSpec ws rm).room s m args below meth c s.heap [] 0 0 (MQ below Qc args s mc ms free) (entryFrame m args maxL)) : Met l y ws rm Pc Qc mc ms free := by
  refine MetFree.of_bodySF (code := cc) (maxLocals := maxL) (ret := ret) hy ?_ ?_
  · intro args s m h hn
    obtain ⟨meth, c, h1, h2, h3, h4, h5, h6, -, -⟩ := Cond.code_spec hn (atoms_spec (ws := ws) h _ (by rw [hw]; exact List.mem_cons_self))
    exact ⟨meth, c, h1, h2, h3, h4, h5, h6⟩
  · intro p e s m args below meth c s₁ B hml hP _
    have hh0 : s₁.heap = s.heap := by rw [B.state]; rfl
    obtain ⟨t, a1, o, b1, b2, b3⟩ := body p e s m args below meth c s₁ B hml hP s₁ hh0 (Stand.of_body B)
    exact ⟨t, o, a1, b1, b2, ⟨b3.1, b3.2⟩⟩
theorem Con.headF {l : Launch} {G : Gt} {y : MethodName} {ws ws' : List Cond} {rm : Room} {w : Mm} {av : List Value} {v : Option Value} {w' : Mm} {mc ms : Nat} {cc : ByteArray} {nL : Nat} {ret : Option FieldType}
    (hG : Gok G) (hy : plainFor y = true) (hw : ws = Cond.code y cc nL ret :: ws') (hn : (lg_sl av).length ≤ nL)
    (body : ∀ (B : Bx) (A : Nat → Prop), B.2.1 = l → Cx B nL G A cc y.cls ws ret rm → rng w → Wm B nL G A (Qe B G A v w' mc ms) w 0 0 0 (lv_args 0 av) []) : Con l G y ws rm w av v w' mc ms := by
  intro sz
  refine Met.ofWF (cc := cc) (maxL := nL) (ret := ret) hy hw ?_
  intro p e s m args below meth c s₁ B hml hv
  obtain ⟨rfl, hsz, hP, hK, hZ⟩ := hv
  have hts := atoms_spec (ws := ws) B.pre
  have hown : s.vm.findClass y.cls = some m.cls := findClass_of_methodNamed B.named
  subst hsz
  have hl := lv_entry av hn
  rw [lg_entry_eq]
  refine body (p, l, e, (headSpec ws rm).room, s, m, av.toArray, below, meth, c) (Ag G s.heap.size) rfl ⟨B.exec, B.bytes, hml, hown, hts, hK, hG, fun k hk => Or.inl ⟨k, hk, rfl⟩, fun q h => Or.inr h, B.notSynchronized, B.returns, rfl, hZ⟩ hP.1 s.heap [] _ hP va_S.rf hl

theorem r_getfN (C : Cx B nL G A cc own Ts ret Rm) {k : Ky} {ci n N index : Nat} {host : String} (j : Nat) {T : u_T} {Cn : String} {v : Value} (hok : okk G k) (hkd : kd k = (ci, n)) (hlt : ci < 6) (hc : vwCl[ci]? = some (Cn, T, N)) (hin : ∀ w ∈ u_ws Cn T N, w ∈ Ts) (hj : j < N) (hlink : (own, index, Cn, (T j).2.1, (T j).2.2.1, host) ∈ nwF) (hcn : (T j).1 = Cn) (hv : (flds (adr G) w k ci)[j]? = some v) (hd : decode cc pc = .ok (.getfield index, 3)) (kk : Wm B nL G A Q w cells slots (pc + 3) lv (v :: st)) : Wm B nL G A Q w cells slots pc lv (.ref (adr G k) :: st) := by
  obtain ⟨p, l, e, R, s, m, args, below, meth, c⟩ := B
  obtain ⟨hx, hb, hml, hown, hts, ⟨hK, hNF, hNM, hNS⟩, hG, hA1, hA2, hlk, hret, hR, hZ⟩ := C
  intro H locs ls hP hS hl
  have hat := hP.2 k hok
  rw [ent_obj hkd hlt] at hat
  have hP1 : va_P G.1 vwCl [(adr G k, .inr (ci, flds (adr G) w k ci))] H := fun i q hq => by
    cases i with
    | zero => cases hq; exact hat
    | succ i => simp at hq
  exact va_getN hx hb hts hin hown hK hP1 0 rfl hc j hj (va_Nw.use rfl (hNF _ hlink)) (fun x h => by rw [hcn] at h; exact h) hv hd (kk H locs ls hP hS hl)
theorem r_callVN (C : Cx B nL G A cc own Ts ret Rm) {y : MethodName} {ws ws' : List Cond} {rm : Room} {v : Option Value} {w' : Mm} {mc ms index maxL : Nat} {bytes : ByteArray} {retY : Option FieldType} {k0 : Ky} {ci nk N : Nat} {Cn host : String} {T : u_T} {rest st' : List Value} (As : List Value) (n : Nat)
    (hM : Con B.2.1 G y ws rm w (.ref (adr G k0) :: As) v w' mc ms) (hg : GoodIn Ts ws) (hlk9 : (own, index, y, host) ∈ nwM) (hini : Cond.initialized y.cls ∈ Ts) (hin9 : Cond.instanceMethod y ∈ Ts) (hsel : Cond.selects Cn y y ∈ Ts) (hw : ws = Cond.code y bytes maxL retY :: ws') (hrc : rm.cells = mc) (hrs : rm.slots = ms)
    (hdc : y.cls ≠ "java/lang/invoke/MethodHandle" ∧ y.cls ≠ "java/lang/invoke/VarHandle" ∧ (parseMethodDescriptor y.desc).map (fun d => d.parameters.length) = some n) (h1 : rm.frames + 1 ≤ Rm.frames) (h2 : 8 + (maxL + 11) + rm.locals ≤ Rm.locals) (hf : cells + mc ≤ Rm.cells ∧ slots + ms ≤ Rm.slots)
    (hok : okk G k0) (hkd : kd k0 = (ci, nk)) (hlt : ci < 6) (hc : vwCl[ci]? = some (Cn, T, N)) (hn : As.length = n) (hst : st = As.reverse ++ .ref (adr G k0) :: rest) (hcat : (rest.map fun v => v.category).sum ≤ 8) (hst' : v.toList ++ rest = st') (hd : decode cc pc = .ok (.invokevirtual index, 3))
    (kk : rng w' → Wm B nL G A Q w' (cells + mc) (slots + ms) (pc + 3) lv st') : Wm B nL G A Q w cells slots pc lv st := by
  have hAg := @Ag_in _ _ _ _ _ _ _ _ _ C
  obtain ⟨p, l, e, R, s, m, args, below, meth, c⟩ := B
  obtain ⟨hx, hb, hml, hown, hts, ⟨hK, hNF, hNM, hNS⟩, hG, hA1, hA2, hlk, hret, hR, hZ⟩ := C
  intro H locs ls hP hS hl
  dsimp only at hR
  subst hR; subst hst; subst hst'
  have hat := hP.2 k0 hok
  rw [ent_obj hkd hlt] at hat
  have hP1 : va_P G.1 vwCl [(adr G k0, .inr (ci, flds (adr G) w k0 ci))] H := fun i q hq => by
    cases i with
    | zero => cases hq; exact hat
    | succ i => simp at hq
  exact r_back (va_runVN (C := Cn) (As := As) (rest := rest) ⟨hx, hb, hml, hown, hts⟩ (hM H.size) ⟨va_cnB n hts hg hw hrc hrs (hNM _ hlk9) (hts _ hini) hdc ⟨h1, h2⟩, hts _ hin9, hts _ hsel⟩ ⟨Pw.blind, va_recv hK hP1 (q0 := 0) hc rfl, fun U hU hW => ⟨rfl, by rw [hU], by rw [hU]; exact hP, Kn.warm hW ⟨hK, hNF, hNM, hNS⟩, by rw [hU]; exact (hZ.kept hS.2.1 (hAg hS)).moved hW.alike⟩⟩ rfl hn hl.1 rfl (lv_room hcat) hd hf) hS (fun q _ h => hAg hS q h) (hAg hS) (fun H1 locs1 hP1 hS1 => kk hP1.1 H1 locs1 ls hP1 hS1 hl)

end ROWS
