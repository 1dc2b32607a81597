section ROWSL2
variable {B : Bx} {nL : Nat} {G : Gt} {A : Nat → Prop} {cc : ByteArray} {own nm : String} {Ts : List Cond} {Rm : Room} {Q : State → Prop} {X : va_W} {cells slots pc : Nat} {lv : List (Nat × Value)} {st : List Value}
theorem l_callN (C : CL B nL G A cc own nm Ts Rm) {y : MethodName} {host : String} {ws ws' : List Cond} {rm : Room} {mc ms index maxL q1 : Nat} {E1 : va_E} {bytes : ByteArray} {rest : List Value} {post : va_W → Prop} (As : List Value) (n : Nat)
    (hM : ConL B.2.1 G y ws rm q1 E1 (.ref q1 :: As) post mc ms) (hg : GoodIn Ts ws) (hlk9 : (own, index, y, host) ∈ nwM) (hw : ws = Cond.code y bytes maxL none :: ws') (hrc : rm.cells = mc) (hrs : rm.slots = ms) (hini : Cond.initialized y.cls ∈ Ts) (hinm : Cond.instanceMethod y ∈ Ts) (hy1 : y.name = "<init>")
    (hdc : y.cls ≠ "java/lang/invoke/MethodHandle" ∧ y.cls ≠ "java/lang/invoke/VarHandle" ∧ (parseMethodDescriptor y.desc).map (fun d => d.parameters.length) = some n) (h1 : rm.frames + 1 ≤ Rm.frames) (h2 : 8 + (maxL + 11) + rm.locals ≤ Rm.locals) (hf : cells + mc ≤ Rm.cells ∧ slots + ms ≤ Rm.slots)
    (hn : As.length = n) (hst : st = As.reverse ++ .ref q1 :: rest) (hcat : (rest.map fun v => v.category).sum ≤ 8) (hd : decode cc pc = .ok (.invokespecial index, 3))
    (kk : ∀ Y, post Y → WL B nL G A Q (Y ++ X) (cells + mc) (slots + ms) (pc + 3) lv rest) : WL B nL G A Q ((q1, E1) :: X) cells slots pc lv st := by
  obtain ⟨p, l, e, R, s, m, args, below, meth, c⟩ := B
  obtain ⟨hx, hb, hml, hown, hts, hK, hO, hA2, hlk, hret, hR, hnm⟩ := C
  intro H locs ls hP hD hS hl
  dsimp only at hR
  subst hR
  subst hst
  exact vl_back (x := (q1, E1)) (va_runIN (As := As) (rest := rest) ⟨hx, hb, hml, hown, hts⟩ (hM H.size) ⟨va_cnB n hts hg hw hrc hrs (hK.2.2.1 _ hlk9) (hts _ hini) hdc ⟨h1, h2⟩, hy1, hts _ hinm⟩ ⟨Pl.blind, fun U hU hW => ⟨rfl, by rw [hU], by rw [hU]; exact hP 0 _ rfl, Kn.warm hW hK, va_AO.moved hW.alike hO⟩⟩ rfl hn hl.1 rfl (lv_room hcat) hd hf) hP hD hS hA2 (fun Y H1 locs1 hp hP1 hD1 hS1 => kk Y hp H1 locs1 ls hP1 hD1 hS1 hl)
theorem l_callS (C : CL B nL G A cc own nm Ts Rm) {y : MethodName} {ws ws' : List Cond} {rm : Room} {mc ms index maxL q1 : Nat} {E1 : va_E} {bytes : ByteArray} {rest : List Value} {post : va_W → Prop} (As : List Value) (n : Nat)
    (hM : ConL B.2.1 G y ws rm q1 E1 As post mc ms) (hg : GoodIn Ts (va_wsS own index y ws)) (hw : ws = Cond.code y bytes maxL none :: ws') (hrc : rm.cells = mc) (hrs : rm.slots = ms)
    (hdc : y.cls ≠ "java/lang/invoke/MethodHandle" ∧ y.cls ≠ "java/lang/invoke/VarHandle" ∧ (parseMethodDescriptor y.desc).map (fun d => d.parameters.length) = some n) (h1 : rm.frames + 1 ≤ Rm.frames) (h2 : 8 + (maxL + 11) + rm.locals ≤ Rm.locals) (hf : cells + mc ≤ Rm.cells ∧ slots + ms ≤ Rm.slots)
    (hn : As.length = n) (hst : st = As.reverse ++ rest) (hcat : (rest.map fun v => v.category).sum ≤ 8) (hd : decode cc pc = .ok (.invokestatic index, 3))
    (kk : ∀ Y, post Y → WL B nL G A Q (Y ++ X) (cells + mc) (slots + ms) (pc + 3) lv rest) : WL B nL G A Q ((q1, E1) :: X) cells slots pc lv st := by
  obtain ⟨p, l, e, R, s, m, args, below, meth, c⟩ := B
  obtain ⟨hx, hb, hml, hown, hts, hK, hO, hA2, hlk, hret, hR, hnm⟩ := C
  intro H locs ls hP hD hS hl
  dsimp only at hR
  subst hR
  subst hst
  exact vl_back (x := (q1, E1)) (va_runS (As := As) (rest := rest) ⟨hx, hb, hml, hown, hts⟩ (hM H.size) (va_cwS n hts hg hw hrc hrs hdc ⟨h1, h2⟩) ⟨Pl.blind, fun U hU hW => ⟨rfl, by rw [hU], by rw [hU]; exact hP 0 _ rfl, Kn.warm hW hK, va_AO.moved hW.alike hO⟩⟩ rfl hn hl.1 rfl (lv_room hcat) hd hf) hP hD hS hA2 (fun Y H1 locs1 hp hP1 hD1 hS1 => kk Y hp H1 locs1 ls hP1 hD1 hS1 hl)
theorem l_iast (C : CL B nL G A cc own nm Ts Rm) {a q0 len : Nat} {f : Nat → Int32} {z x : Int} (n : Nat) {X' : va_W} (he : X[q0]? = some (a, .inl (G.2.1.1, len, .inl f))) (hz : z = (n : Int)) (hn : n < len) (hlen : len < 2 ^ 31) (hd : decode cc pc = .ok (.iastore, 1)) (hX : X.set q0 (a, .inl (G.2.1.1, len, .inl (fun j => if j = n then Int32.ofInt x else f j))) = X')
    (kk : WL B nL G A Q X' cells slots (pc + 1) lv st) : WL B nL G A Q X cells slots pc lv (vI x :: vI z :: .ref a :: st) := by
  obtain ⟨p, l, e, R, s, m, args, below, meth, c⟩ := B
  obtain ⟨hx, hb, hml, hown, hts, hK, hO, hA2, hlk, hret, hR, hnm⟩ := C
  intro H locs ls hP hD hS hl
  subst hz
  subst hX
  have hcl : (Int32.ofInt (n : Int)).toNatClampNeg = n := by rw [oi_nat, nI_clamp (by omega)]
  have hvin : vp_in (Int32.ofInt (n : Int)) len := by rw [oi_nat]; exact vp_in_nI hn (by omega)
  refine va_iast hx hb hK.1 hP hD hS q0 0 he rfl hvin hd fun H1 locs1 hP1 hD1 hS1 => ?_
  have e : upd f (Int32.ofInt (n : Int)).toNatClampNeg (Int32.ofInt x) = fun j => if j = n then Int32.ofInt x else f j := by
    rw [hcl]
    funext j
    simp [upd]
  rw [e] at hP1 hD1
  exact kk H1 locs1 ls hP1 hD1 hS1 hl
theorem l_alen (C : CL B nL G A cc own nm Ts Rm) {a q0 len : Nat} {f : Nat → Int32} (he : X[q0]? = some (a, .inl (G.2.1.1, len, .inl f))) (hd : decode cc pc = .ok (.arraylength, 1)) (kk : WL B nL G A Q X cells slots (pc + 1) lv (vI (len : Int) :: st)) : WL B nL G A Q X cells slots pc lv (.ref a :: st) := by
  obtain ⟨p, l, e, R, s, m, args, below, meth, c⟩ := B
  obtain ⟨hx, hb, hml, hown, hts, hK, hO, hA2, hlk, hret, hR, hnm⟩ := C
  intro H locs ls hP hD hS hl
  exact va_alen hx hb hK.1 hP q0 0 he rfl (v := Int32.ofInt (len : Int)) (by rw [oi_nat]; rfl) hd (kk H locs ls hP hD hS hl)
theorem l_newq (C : CL B nL G A cc own nm Ts Rm) {z : Int} {index : Nat} (n : Nat) (hz : z = (n : Int)) (hn0 : n < 5000) (hcl0 : Cond.classLink own index RX2 ∈ Ts) (hce : cells + 1 ≤ Rm.cells) (hsl : slots + n ≤ Rm.slots) (hd : decode cc pc = .ok (.anewarray index, 3))
    (kk : ∀ q : Nat, WL B nL G A Q ((q, .inl (G.2.1.2.1, n, .inr (.inr (.inr (.inr (fun _ => none)))))) :: X) (cells + 1) (slots + n) (pc + 3) lv (.ref q :: st)) : WL B nL G A Q X cells slots pc lv (vI z :: st) := by
  obtain ⟨p, l, e, R, s, m, args, below, meth, c⟩ := B
  obtain ⟨hx, hb, hml, hown, hts, hK, hO, hA2, hlk, hret, hR, hnm⟩ := C
  intro H locs ls hP hD hS hl
  dsimp only at hR
  subst hR
  subst hz
  have hcl : (Int32.ofInt (n : Int)).toNatClampNeg = n := by rw [oi_nat, nI_clamp (by omega)]
  refine va_newq hx hb hown (hts _ hcl0) hO hK.1 hP hD hS hA2 (by rw [oi_nat]; exact nI_pos (by omega)) hcl (by omega) hce hsl hd fun q cA H1 hK1 hP1 hD1 hS1 => ?_
  have hcA : cA = G.2.1.2.1 := by
    obtain ⟨kA, comp, -, -, -, h2⟩ := (hK.1.2 1 _ rfl).2
    obtain ⟨kA', comp', -, -, -, h3⟩ := (hK1.2 3 _ rfl).2
    rw [h2] at h3
    exact (Option.some.inj h3).symm
  subst hcA
  exact kk q H1 locs ls (vP_rot hP1) (vD_rot hD1) hS1 hl
theorem l_astq (C : CL B nL G A cc own nm Ts Rm) {a q0 qk len v : Nat} {vs : List Value} {f : Nat → Option Nat} {z : Int} (n : Nat) {X' : va_W} (he : X[q0]? = some (a, .inl (G.2.1.2.1, len, .inr (.inr (.inr (.inr f)))))) (hv : X[qk]? = some (v, .inr (2, vs))) (hz : z = (n : Int)) (hn : n < len) (hlen : len < 2 ^ 31) (hd : decode cc pc = .ok (.aastore, 1)) (hX : X.set q0 (a, .inl (G.2.1.2.1, len, .inr (.inr (.inr (.inr (fun j => if j = n then some v else f j)))))) = X')
    (kk : WL B nL G A Q X' cells slots (pc + 1) lv st) : WL B nL G A Q X cells slots pc lv (.ref v :: vI z :: .ref a :: st) := by
  obtain ⟨p, l, e, R, s, m, args, below, meth, c⟩ := B
  obtain ⟨hx, hb, hml, hown, hts, hK, hO, hA2, hlk, hret, hR, hnm⟩ := C
  intro H locs ls hP hD hS hl
  subst hz
  subst hX
  have hcl : (Int32.ofInt (n : Int)).toNatClampNeg = n := by rw [oi_nat, nI_clamp (by omega)]
  have hvin : vp_in (Int32.ofInt (n : Int)) len := by rw [oi_nat]; exact vp_in_nI hn (by omega)
  refine va_astq (r := (RX2, TX2, 13)) hx hb hK.1 hP hD hS q0 1 qk 2 he rfl hv rfl hvin hd fun H1 locs1 hP1 hD1 hS1 => ?_
  have e : va_up f (Int32.ofInt (n : Int)).toNatClampNeg (some v) = fun j => if j = n then some v else f j := by
    rw [hcl]
    rfl
  rw [e] at hP1 hD1
  exact kk H1 locs1 ls hP1 hD1 hS1 hl
end ROWSL2
