theorem r_lconst {B : Bx} {nL : Nat} {G : Gt} {A : Nat → Prop} {cc : ByteArray} {own : String} {Ts : List Cond} {ret : Option FieldType} {Rm : Room} {Q : State → Prop} {w : Mm} {cells slots pc : Nat} {lv : List (Nat × Value)} {st : List Value} (C : Cx B nL G A cc own Ts ret Rm) {n : Fin 2} {x : Int} (hd : decode cc pc = .ok (.lconst n, 1)) (hx : Int64.ofNat (n : Nat) = Int64.ofInt x) (kk : Wm B nL G A Q w cells slots (pc + 1) lv (.long (Int64.ofInt x) :: st)) : Wm B nL G A Q w cells slots pc lv st := by
  obtain ⟨p, l, e, R, s, m, args, below, meth, c⟩ := B
  intro H locs ls hP hS hl
  exact lv_lconst C.1 C.2.1 hd hx (kk H locs ls hP hS hl)
theorem r_iretQ {B : Bx} {nL : Nat} {G : Gt} {A : Nat → Prop} {cc : ByteArray} {own : String} {Ts : List Cond} {Rm : Room} {w : Mm} {cells slots pc : Nat} {lv : List (Nat × Value)} (C : Cx B nL G A cc own Ts (some .int) Rm) {z : Int} {v : Option Value} {w' : Mm} {mc ms : Nat} (hd : decode cc pc = .ok (.ireturn, 1)) (hv : some (vI z) = v) (hw : w = w') (h1 : cells = mc) (h2 : slots = ms) : Wm B nL G A (Qe B G A v w' mc ms) w cells slots pc lv [vI z] := by
  subst h1
  subst h2
  exact r_iret C hd hv hw
theorem c_L_found {l : Launch} {G : Gt} (hG : Gok G) {w w' : Mm} {p1 p2 p3 v : Int} {o : Option String} {rm : Room} {mc ms : Nat} (hM : ConX l G yX3_found wsX3_found rm w [.ref (adr G (2, 0, 0)), vI p1, vI p2, vI p3] o (some (vI v)) w' mc ms) (hrc : rm.cells = mc) (hrs : rm.slots = ms) (hv : o = none → rng w' → inR v) (ho : o = none ∨ o = some xA ∨ o = some xS) : ConW l G yL_found wsL_found { frames := rm.frames + 1, cells := mc, slots := ms, locals := 8 + (4 + 11) + rm.locals } w [.ref (adr G (2, 0, 0)), vI p1, vI p2, vI p3, .ref (adr G (6, 0, 0))] (some (vI (cd xA o))) (wr6 o w w' v) mc ms := by
  refine ConW.head (cc := cL_found) (nL := 6) (ret := some .int) (hh := [(0, 12, 15, 13), (0, 12, 19, 15)]) hG (by decide) rfl (Nat.le_of_ble_eq_true rfl) ?_
  intro B A hBl htb hE C hr
  subst hBl
  have ok2 : okk G (2, 0, 0) := hG.2 _ (by decide) (by decide)
  have ok6 : okk G (6, 0, 0) := hG.2 _ (by decide) (by decide)
  refine r_aload (k := 4) C dL_found_0 rfl ?_
  refine r_iconst C dL_found_2 ?_
  refine r_aload_n (k := 0) C dL_found_3 rfl ?_
  refine r_iload_n (k := 1) C dL_found_4 rfl ?_
  refine r_iload_n (k := 2) C dL_found_5 rfl ?_
  refine r_iload_n (k := 3) C dL_found_6 rfl ?_
  refine r_callVC (rest := [vI 0, .ref (adr G (6, 0, 0))]) (k0 := (2, 0, 0)) (ci := 3) (nk := 0) C [vI p1, vI p2, vI p3] 3 hM gL_found_X3_found rfl hrc hrs ⟨rfl, by decide, by decide, by decide +kernel⟩ (Nat.le_refl _) (Nat.le_refl _) ⟨Nat.le_of_eq (Nat.zero_add _), Nat.le_of_eq (Nat.zero_add _)⟩ ok2 rfl (by decide) rfl rfl rfl (Nat.le_of_ble_eq_true rfl) rfl dL_found_7 (fun ho0 hr1 => ?_) (fun E hoE => ?_)
  · subst ho0
    refine r_i2l C dL_found_10 (hv rfl hr1) ?_
    refine r_last (k := (6, 0, 0)) (len := 1) (x := v) C 0 hr1 (hv rfl hr1) ok6 rfl rfl (by decide) (by decide) dL_found_11 (fun hr2 => ?_)
    refine r_goto (tgt := 23) C dL_found_12 rfl ?_
    refine r_iconst C dL_found_23 ?_
    exact r_iretQ C dL_found_24 rfl rfl (Nat.zero_add _) (Nat.zero_add _)
  · subst hoE
    have hE12 : E = xA ∨ E = xS := by rcases ho with h | h | h <;> simp at h <;> simp [h]
    rcases hE12 with rfl | rfl
    · skip
      refine ⟨15, Cat.one htb hE (by simp) (by decide) (by decide) (by decide +kernel), fun q => ?_⟩
      refine r_astore C dL_found_15 (by decide) rfl ?_
      refine r_iconst C dL_found_17 ?_
      exact r_iretQ C dL_found_18 rfl rfl (Nat.zero_add _) (Nat.zero_add _)
    · skip
      refine ⟨19, Cat.two (E0 := xA) htb hE (by simp) (by decide) (by decide) (by decide) (by decide) (by decide +kernel) (by decide +kernel), fun q => ?_⟩
      refine r_astore C dL_found_19 (by decide) rfl ?_
      refine r_iconst C dL_found_21 ?_
      exact r_iretQ C dL_found_22 rfl rfl (Nat.zero_add _) (Nat.zero_add _)
theorem c_L_setDrum {l : Launch} {G : Gt} (hG : Gok G) {w w' : Mm} {p1 p2 v : Int} {o : Option String} {rm : Room} {mc ms : Nat} (hM : ConX l G yX3_setDrum wsX3_setDrum rm w [.ref (adr G (2, 0, 0)), vI p1, vI p2] o (some (vI v)) w' mc ms) (hrc : rm.cells = mc) (hrs : rm.slots = ms) (hv : o = none → rng w' → inR v) (ho : o = none ∨ o = some xI ∨ o = some xA) : ConW l G yL_setDrum wsL_setDrum { frames := rm.frames + 1, cells := mc, slots := ms, locals := 8 + (5 + 11) + rm.locals } w [.ref (adr G (2, 0, 0)), vI p1, vI p2, .ref (adr G (6, 0, 0))] (some (vI (cd xI o))) (wr6 o w w' v) mc ms := by
  refine ConW.head (cc := cL_setDrum) (nL := 5) (ret := some .int) (hh := [(0, 10, 13, 21), (0, 10, 17, 13)]) hG (by decide) rfl (Nat.le_of_ble_eq_true rfl) ?_
  intro B A hBl htb hE C hr
  subst hBl
  have ok2 : okk G (2, 0, 0) := hG.2 _ (by decide) (by decide)
  have ok6 : okk G (6, 0, 0) := hG.2 _ (by decide) (by decide)
  refine r_aload_n (k := 3) C dL_setDrum_0 rfl ?_
  refine r_iconst C dL_setDrum_1 ?_
  refine r_aload_n (k := 0) C dL_setDrum_2 rfl ?_
  refine r_iload_n (k := 1) C dL_setDrum_3 rfl ?_
  refine r_iload_n (k := 2) C dL_setDrum_4 rfl ?_
  refine r_callVC (rest := [vI 0, .ref (adr G (6, 0, 0))]) (k0 := (2, 0, 0)) (ci := 3) (nk := 0) C [vI p1, vI p2] 2 hM gL_setDrum_X3_setDrum rfl hrc hrs ⟨rfl, by decide, by decide, by decide +kernel⟩ (Nat.le_refl _) (Nat.le_refl _) ⟨Nat.le_of_eq (Nat.zero_add _), Nat.le_of_eq (Nat.zero_add _)⟩ ok2 rfl (by decide) rfl rfl rfl (Nat.le_of_ble_eq_true rfl) rfl dL_setDrum_5 (fun ho0 hr1 => ?_) (fun E hoE => ?_)
  · subst ho0
    refine r_i2l C dL_setDrum_8 (hv rfl hr1) ?_
    refine r_last (k := (6, 0, 0)) (len := 1) (x := v) C 0 hr1 (hv rfl hr1) ok6 rfl rfl (by decide) (by decide) dL_setDrum_9 (fun hr2 => ?_)
    refine r_goto (tgt := 21) C dL_setDrum_10 rfl ?_
    refine r_iconst C dL_setDrum_21 ?_
    exact r_iretQ C dL_setDrum_22 rfl rfl (Nat.zero_add _) (Nat.zero_add _)
  · subst hoE
    have hE12 : E = xI ∨ E = xA := by rcases ho with h | h | h <;> simp at h <;> simp [h]
    rcases hE12 with rfl | rfl
    · skip
      refine ⟨13, Cat.one htb hE (by simp) (by decide) (by decide) (by decide +kernel), fun q => ?_⟩
      refine r_astore C dL_setDrum_13 (by decide) rfl ?_
      refine r_iconst C dL_setDrum_15 ?_
      exact r_iretQ C dL_setDrum_16 rfl rfl (Nat.zero_add _) (Nat.zero_add _)
    · skip
      refine ⟨17, Cat.two (E0 := xI) htb hE (by simp) (by decide) (by decide) (by decide) (by decide) (by decide +kernel) (by decide +kernel), fun q => ?_⟩
      refine r_astore C dL_setDrum_17 (by decide) rfl ?_
      refine r_iconst C dL_setDrum_19 ?_
      exact r_iretQ C dL_setDrum_20 rfl rfl (Nat.zero_add _) (Nat.zero_add _)
theorem c_L_setCliff {l : Launch} {G : Gt} (hG : Gok G) {w w' : Mm} {p1 p2 v : Int} {o : Option String} {rm : Room} {mc ms : Nat} (hM : ConX l G yX3_setCliff wsX3_setCliff rm w [.ref (adr G (2, 0, 0)), vI p1, vI p2] o (some (vI v)) w' mc ms) (hrc : rm.cells = mc) (hrs : rm.slots = ms) (hv : o = none → rng w' → inR v) (hv01 : v = 0 ∨ v = 1) (ho : o = none ∨ o = some xI) : ConW l G yL_setCliff wsL_setCliff { frames := rm.frames + 1, cells := mc, slots := ms, locals := 8 + (5 + 11) + rm.locals } w [.ref (adr G (2, 0, 0)), vI p1, vI p2, .ref (adr G (6, 0, 0))] (some (vI (cd xI o))) (wr6 o w w' v) mc ms := by
  refine ConW.head (cc := cL_setCliff) (nL := 5) (ret := some .int) (hh := [(0, 17, 20, 21)]) hG (by decide) rfl (Nat.le_of_ble_eq_true rfl) ?_
  intro B A hBl htb hE C hr
  subst hBl
  have ok2 : okk G (2, 0, 0) := hG.2 _ (by decide) (by decide)
  have ok6 : okk G (6, 0, 0) := hG.2 _ (by decide) (by decide)
  refine r_aload_n (k := 3) C dL_setCliff_0 rfl ?_
  refine r_iconst C dL_setCliff_1 ?_
  refine r_aload_n (k := 0) C dL_setCliff_2 rfl ?_
  refine r_iload_n (k := 1) C dL_setCliff_3 rfl ?_
  refine r_iload_n (k := 2) C dL_setCliff_4 rfl ?_
  refine r_callVC (rest := [vI 0, .ref (adr G (6, 0, 0))]) (k0 := (2, 0, 0)) (ci := 3) (nk := 0) C [vI p1, vI p2] 2 hM gL_setCliff_X3_setCliff rfl hrc hrs ⟨rfl, by decide, by decide, by decide +kernel⟩ (Nat.le_refl _) (Nat.le_refl _) ⟨Nat.le_of_eq (Nat.zero_add _), Nat.le_of_eq (Nat.zero_add _)⟩ ok2 rfl (by decide) rfl rfl rfl (Nat.le_of_ble_eq_true rfl) rfl dL_setCliff_5 (fun ho0 hr1 => ?_) (fun E hoE => ?_)
  · subst ho0
    refine r_if_eq (tgt := 15) C dL_setCliff_8 rfl (hv rfl hr1) (fun h0 => ?_) (fun h0 => ?_)
    · subst h0
      refine r_lconst (x := 0) C dL_setCliff_15 rfl ?_
      refine r_last (k := (6, 0, 0)) (len := 1) (x := 0) C 0 hr1 ⟨by decide, by decide⟩ ok6 rfl rfl (by decide) (by decide) dL_setCliff_16 (fun hr2 => ?_)
      refine r_goto (tgt := 24) C dL_setCliff_17 rfl ?_
      refine r_iconst C dL_setCliff_24 ?_
      exact r_iretQ C dL_setCliff_25 rfl rfl (Nat.zero_add _) (Nat.zero_add _)
    · have h1 : v = 1 := hv01.resolve_left h0
      subst h1
      refine r_lconst (x := 1) C dL_setCliff_11 rfl ?_
      refine r_goto (tgt := 16) C dL_setCliff_12 rfl ?_
      refine r_last (k := (6, 0, 0)) (len := 1) (x := 1) C 0 hr1 ⟨by decide, by decide⟩ ok6 rfl rfl (by decide) (by decide) dL_setCliff_16 (fun hr2 => ?_)
      refine r_goto (tgt := 24) C dL_setCliff_17 rfl ?_
      refine r_iconst C dL_setCliff_24 ?_
      exact r_iretQ C dL_setCliff_25 rfl rfl (Nat.zero_add _) (Nat.zero_add _)
  · subst hoE
    have hE1 : E = xI := by rcases ho with h | h <;> simp at h <;> simp [h]
    subst hE1
    refine ⟨20, Cat.one htb hE (by simp) (by decide) (by decide) (by decide +kernel), fun q => ?_⟩
    refine r_astore C dL_setCliff_20 (by decide) rfl ?_
    refine r_iconst C dL_setCliff_22 ?_
    exact r_iretQ C dL_setCliff_23 rfl rfl (Nat.zero_add _) (Nat.zero_add _)
theorem c_L_setAwake {l : Launch} {G : Gt} (hG : Gok G) {w w' : Mm} {p1 p2 p3 v : Int} {o : Option String} {rm : Room} {mc ms : Nat} (hM : ConX l G yX3_setAwake wsX3_setAwake rm w [.ref (adr G (2, 0, 0)), vI p1, vI p2, vI p3] o (some (vI v)) w' mc ms) (hrc : rm.cells = mc) (hrs : rm.slots = ms) (hv : o = none → rng w' → inR v) (ho : o = none ∨ o = some xI ∨ o = some xA) : ConW l G yL_setAwake wsL_setAwake { frames := rm.frames + 1, cells := mc, slots := ms, locals := 8 + (6 + 11) + rm.locals } w [.ref (adr G (2, 0, 0)), vI p1, vI p2, vI p3, .ref (adr G (6, 0, 0))] (some (vI (cd xI o))) (wr6 o w w' v) mc ms := by
  refine ConW.head (cc := cL_setAwake) (nL := 6) (ret := some .int) (hh := [(0, 12, 15, 21), (0, 12, 19, 13)]) hG (by decide) rfl (Nat.le_of_ble_eq_true rfl) ?_
  intro B A hBl htb hE C hr
  subst hBl
  have ok2 : okk G (2, 0, 0) := hG.2 _ (by decide) (by decide)
  have ok6 : okk G (6, 0, 0) := hG.2 _ (by decide) (by decide)
  refine r_aload (k := 4) C dL_setAwake_0 rfl ?_
  refine r_iconst C dL_setAwake_2 ?_
  refine r_aload_n (k := 0) C dL_setAwake_3 rfl ?_
  refine r_iload_n (k := 1) C dL_setAwake_4 rfl ?_
  refine r_iload_n (k := 2) C dL_setAwake_5 rfl ?_
  refine r_iload_n (k := 3) C dL_setAwake_6 rfl ?_
  refine r_callVC (rest := [vI 0, .ref (adr G (6, 0, 0))]) (k0 := (2, 0, 0)) (ci := 3) (nk := 0) C [vI p1, vI p2, vI p3] 3 hM gL_setAwake_X3_setAwake rfl hrc hrs ⟨rfl, by decide, by decide, by decide +kernel⟩ (Nat.le_refl _) (Nat.le_refl _) ⟨Nat.le_of_eq (Nat.zero_add _), Nat.le_of_eq (Nat.zero_add _)⟩ ok2 rfl (by decide) rfl rfl rfl (Nat.le_of_ble_eq_true rfl) rfl dL_setAwake_7 (fun ho0 hr1 => ?_) (fun E hoE => ?_)
  · subst ho0
    refine r_i2l C dL_setAwake_10 (hv rfl hr1) ?_
    refine r_last (k := (6, 0, 0)) (len := 1) (x := v) C 0 hr1 (hv rfl hr1) ok6 rfl rfl (by decide) (by decide) dL_setAwake_11 (fun hr2 => ?_)
    refine r_goto (tgt := 23) C dL_setAwake_12 rfl ?_
    refine r_iconst C dL_setAwake_23 ?_
    exact r_iretQ C dL_setAwake_24 rfl rfl (Nat.zero_add _) (Nat.zero_add _)
  · subst hoE
    have hE12 : E = xI ∨ E = xA := by rcases ho with h | h | h <;> simp at h <;> simp [h]
    rcases hE12 with rfl | rfl
    · skip
      refine ⟨15, Cat.one htb hE (by simp) (by decide) (by decide) (by decide +kernel), fun q => ?_⟩
      refine r_astore C dL_setAwake_15 (by decide) rfl ?_
      refine r_iconst C dL_setAwake_17 ?_
      exact r_iretQ C dL_setAwake_18 rfl rfl (Nat.zero_add _) (Nat.zero_add _)
    · skip
      refine ⟨19, Cat.two (E0 := xI) htb hE (by simp) (by decide) (by decide) (by decide) (by decide) (by decide +kernel) (by decide +kernel), fun q => ?_⟩
      refine r_astore C dL_setAwake_19 (by decide) rfl ?_
      refine r_iconst C dL_setAwake_21 ?_
      exact r_iretQ C dL_setAwake_22 rfl rfl (Nat.zero_add _) (Nat.zero_add _)
theorem c_L_phrase {l : Launch} {G : Gt} (hG : Gok G) {w w' : Mm} {p1 v : Int} {o : Option String} {rm : Room} {mc ms : Nat} (hM : ConX l G yX3_phrase wsX3_phrase rm w [.ref (adr G (2, 0, 0)), vI p1] o (some (vI v)) w' mc ms) (hrc : rm.cells = mc) (hrs : rm.slots = ms) (hv : o = none → rng w' → inR v) (ho : o = none ∨ o = some xA ∨ o = some xS) : ConW l G yL_phrase wsL_phrase { frames := rm.frames + 1, cells := mc, slots := ms, locals := 8 + (3 + 11) + rm.locals } w [.ref (adr G (2, 0, 0)), vI p1, .ref (adr G (6, 0, 0))] (some (vI (cd xA o))) (wr6 o w w' v) mc ms := by
  refine ConW.head (cc := cL_phrase) (nL := 4) (ret := some .int) (hh := [(0, 9, 12, 13), (0, 9, 15, 15)]) hG (by decide) rfl (Nat.le_of_ble_eq_true rfl) ?_
  intro B A hBl htb hE C hr
  subst hBl
  have ok2 : okk G (2, 0, 0) := hG.2 _ (by decide) (by decide)
  have ok6 : okk G (6, 0, 0) := hG.2 _ (by decide) (by decide)
  refine r_aload_n (k := 2) C dL_phrase_0 rfl ?_
  refine r_iconst C dL_phrase_1 ?_
  refine r_aload_n (k := 0) C dL_phrase_2 rfl ?_
  refine r_iload_n (k := 1) C dL_phrase_3 rfl ?_
  refine r_callVC (rest := [vI 0, .ref (adr G (6, 0, 0))]) (k0 := (2, 0, 0)) (ci := 3) (nk := 0) C [vI p1] 1 hM gL_phrase_X3_phrase rfl hrc hrs ⟨rfl, by decide, by decide, by decide +kernel⟩ (Nat.le_refl _) (Nat.le_refl _) ⟨Nat.le_of_eq (Nat.zero_add _), Nat.le_of_eq (Nat.zero_add _)⟩ ok2 rfl (by decide) rfl rfl rfl (Nat.le_of_ble_eq_true rfl) rfl dL_phrase_4 (fun ho0 hr1 => ?_) (fun E hoE => ?_)
  · subst ho0
    refine r_i2l C dL_phrase_7 (hv rfl hr1) ?_
    refine r_last (k := (6, 0, 0)) (len := 1) (x := v) C 0 hr1 (hv rfl hr1) ok6 rfl rfl (by decide) (by decide) dL_phrase_8 (fun hr2 => ?_)
    refine r_goto (tgt := 18) C dL_phrase_9 rfl ?_
    refine r_iconst C dL_phrase_18 ?_
    exact r_iretQ C dL_phrase_19 rfl rfl (Nat.zero_add _) (Nat.zero_add _)
  · subst hoE
    have hE12 : E = xA ∨ E = xS := by rcases ho with h | h | h <;> simp at h <;> simp [h]
    rcases hE12 with rfl | rfl
    · skip
      refine ⟨12, Cat.one htb hE (by simp) (by decide) (by decide) (by decide +kernel), fun q => ?_⟩
      refine r_astore_n C dL_phrase_12 rfl (by decide) rfl ?_
      refine r_iconst C dL_phrase_13 ?_
      exact r_iretQ C dL_phrase_14 rfl rfl (Nat.zero_add _) (Nat.zero_add _)
    · skip
      refine ⟨15, Cat.two (E0 := xA) htb hE (by simp) (by decide) (by decide) (by decide) (by decide) (by decide +kernel) (by decide +kernel), fun q => ?_⟩
      refine r_astore_n C dL_phrase_15 rfl (by decide) rfl ?_
      refine r_iconst C dL_phrase_16 ?_
      exact r_iretQ C dL_phrase_17 rfl rfl (Nat.zero_add _) (Nat.zero_add _)
theorem c_L_tell {l : Launch} {G : Gt} (hG : Gok G) {w w' : Mm} {p1 p2 v : Int} {o : Option String} {rm : Room} {mc ms : Nat} (hM : ConX l G yX3_tell wsX3_tell rm w [.ref (adr G (2, 0, 0)), vI p1, vI p2] o (some (vI v)) w' mc ms) (hrc : rm.cells = mc) (hrs : rm.slots = ms) (hv : o = none → rng w' → inR v) (ho : o = none ∨ o = some xI ∨ o = some xS) : ConW l G yL_tell wsL_tell { frames := rm.frames + 1, cells := mc, slots := ms, locals := 8 + (4 + 11) + rm.locals } w [.ref (adr G (2, 0, 0)), vI p1, vI p2, .ref (adr G (6, 0, 0))] (some (vI (cd xI o))) (wr6 o w w' v) mc ms := by
  refine ConW.head (cc := cL_tell) (nL := 5) (ret := some .int) (hh := [(0, 10, 13, 21), (0, 10, 17, 15)]) hG (by decide) rfl (Nat.le_of_ble_eq_true rfl) ?_
  intro B A hBl htb hE C hr
  subst hBl
  have ok2 : okk G (2, 0, 0) := hG.2 _ (by decide) (by decide)
  have ok6 : okk G (6, 0, 0) := hG.2 _ (by decide) (by decide)
  refine r_aload_n (k := 3) C dL_tell_0 rfl ?_
  refine r_iconst C dL_tell_1 ?_
  refine r_aload_n (k := 0) C dL_tell_2 rfl ?_
  refine r_iload_n (k := 1) C dL_tell_3 rfl ?_
  refine r_iload_n (k := 2) C dL_tell_4 rfl ?_
  refine r_callVC (rest := [vI 0, .ref (adr G (6, 0, 0))]) (k0 := (2, 0, 0)) (ci := 3) (nk := 0) C [vI p1, vI p2] 2 hM gL_tell_X3_tell rfl hrc hrs ⟨rfl, by decide, by decide, by decide +kernel⟩ (Nat.le_refl _) (Nat.le_refl _) ⟨Nat.le_of_eq (Nat.zero_add _), Nat.le_of_eq (Nat.zero_add _)⟩ ok2 rfl (by decide) rfl rfl rfl (Nat.le_of_ble_eq_true rfl) rfl dL_tell_5 (fun ho0 hr1 => ?_) (fun E hoE => ?_)
  · subst ho0
    refine r_i2l C dL_tell_8 (hv rfl hr1) ?_
    refine r_last (k := (6, 0, 0)) (len := 1) (x := v) C 0 hr1 (hv rfl hr1) ok6 rfl rfl (by decide) (by decide) dL_tell_9 (fun hr2 => ?_)
    refine r_goto (tgt := 21) C dL_tell_10 rfl ?_
    refine r_iconst C dL_tell_21 ?_
    exact r_iretQ C dL_tell_22 rfl rfl (Nat.zero_add _) (Nat.zero_add _)
  · subst hoE
    have hE12 : E = xI ∨ E = xS := by rcases ho with h | h | h <;> simp at h <;> simp [h]
    rcases hE12 with rfl | rfl
    · skip
      refine ⟨13, Cat.one htb hE (by simp) (by decide) (by decide) (by decide +kernel), fun q => ?_⟩
      refine r_astore C dL_tell_13 (by decide) rfl ?_
      refine r_iconst C dL_tell_15 ?_
      exact r_iretQ C dL_tell_16 rfl rfl (Nat.zero_add _) (Nat.zero_add _)
    · skip
      refine ⟨17, Cat.two (E0 := xI) htb hE (by simp) (by decide) (by decide) (by decide) (by decide) (by decide +kernel) (by decide +kernel), fun q => ?_⟩
      refine r_astore C dL_tell_17 (by decide) rfl ?_
      refine r_iconst C dL_tell_19 ?_
      exact r_iretQ C dL_tell_20 rfl rfl (Nat.zero_add _) (Nat.zero_add _)
theorem c_L_village {l : Launch} {G : Gt} (hG : Gok G) {w w' : Mm} {p1 p2 v : Int} {o : Option String} {rm : Room} {mc ms : Nat} (hM : ConX l G yX3_village wsX3_village rm w [.ref (adr G (2, 0, 0)), vI p1, vI p2] o (some (vI v)) w' mc ms) (hrc : rm.cells = mc) (hrs : rm.slots = ms) (hv : o = none → rng w' → inR v) (ho : o = none ∨ o = some xI) : ConW l G yL_village wsL_village { frames := rm.frames + 1, cells := mc, slots := ms, locals := 8 + (4 + 11) + rm.locals } w [.ref (adr G (2, 0, 0)), vI p1, vI p2, .ref (adr G (6, 0, 0))] (some (vI (cd xI o))) (wr6 o w w' v) mc ms := by
  refine ConW.head (cc := cL_village) (nL := 5) (ret := some .int) (hh := [(0, 10, 13, 21)]) hG (by decide) rfl (Nat.le_of_ble_eq_true rfl) ?_
  intro B A hBl htb hE C hr
  subst hBl
  have ok2 : okk G (2, 0, 0) := hG.2 _ (by decide) (by decide)
  have ok6 : okk G (6, 0, 0) := hG.2 _ (by decide) (by decide)
  refine r_aload_n (k := 3) C dL_village_0 rfl ?_
  refine r_iconst C dL_village_1 ?_
  refine r_aload_n (k := 0) C dL_village_2 rfl ?_
  refine r_iload_n (k := 1) C dL_village_3 rfl ?_
  refine r_iload_n (k := 2) C dL_village_4 rfl ?_
  refine r_callVC (rest := [vI 0, .ref (adr G (6, 0, 0))]) (k0 := (2, 0, 0)) (ci := 3) (nk := 0) C [vI p1, vI p2] 2 hM gL_village_X3_village rfl hrc hrs ⟨rfl, by decide, by decide, by decide +kernel⟩ (Nat.le_refl _) (Nat.le_refl _) ⟨Nat.le_of_eq (Nat.zero_add _), Nat.le_of_eq (Nat.zero_add _)⟩ ok2 rfl (by decide) rfl rfl rfl (Nat.le_of_ble_eq_true rfl) rfl dL_village_5 (fun ho0 hr1 => ?_) (fun E hoE => ?_)
  · subst ho0
    refine r_i2l C dL_village_8 (hv rfl hr1) ?_
    refine r_last (k := (6, 0, 0)) (len := 1) (x := v) C 0 hr1 (hv rfl hr1) ok6 rfl rfl (by decide) (by decide) dL_village_9 (fun hr2 => ?_)
    refine r_goto (tgt := 17) C dL_village_10 rfl ?_
    refine r_iconst C dL_village_17 ?_
    exact r_iretQ C dL_village_18 rfl rfl (Nat.zero_add _) (Nat.zero_add _)
  · subst hoE
    have hE1 : E = xI := by rcases ho with h | h <;> simp at h <;> simp [h]
    subst hE1
    refine ⟨13, Cat.one htb hE (by simp) (by decide) (by decide) (by decide +kernel), fun q => ?_⟩
    refine r_astore C dL_village_13 (by decide) rfl ?_
    refine r_iconst C dL_village_15 ?_
    exact r_iretQ C dL_village_16 rfl rfl (Nat.zero_add _) (Nat.zero_add _)
theorem c_L_queue {l : Launch} {G : Gt} (hG : Gok G) {w w' : Mm} {p1 p2 v : Int} {o : Option String} {rm : Room} {mc ms : Nat} (hM : ConX l G yX3_queue wsX3_queue rm w [.ref (adr G (2, 0, 0)), vI p1, vI p2] o (some (vI v)) w' mc ms) (hrc : rm.cells = mc) (hrs : rm.slots = ms) (hv : o = none → rng w' → inR v) (ho : o = none ∨ o = some xI) : ConW l G yL_queue wsL_queue { frames := rm.frames + 1, cells := mc, slots := ms, locals := 8 + (4 + 11) + rm.locals } w [.ref (adr G (2, 0, 0)), vI p1, vI p2, .ref (adr G (6, 0, 0))] (some (vI (cd xI o))) (wr6 o w w' v) mc ms := by
  refine ConW.head (cc := cL_queue) (nL := 5) (ret := some .int) (hh := [(0, 10, 13, 21)]) hG (by decide) rfl (Nat.le_of_ble_eq_true rfl) ?_
  intro B A hBl htb hE C hr
  subst hBl
  have ok2 : okk G (2, 0, 0) := hG.2 _ (by decide) (by decide)
  have ok6 : okk G (6, 0, 0) := hG.2 _ (by decide) (by decide)
  refine r_aload_n (k := 3) C dL_queue_0 rfl ?_
  refine r_iconst C dL_queue_1 ?_
  refine r_aload_n (k := 0) C dL_queue_2 rfl ?_
  refine r_iload_n (k := 1) C dL_queue_3 rfl ?_
  refine r_iload_n (k := 2) C dL_queue_4 rfl ?_
  refine r_callVC (rest := [vI 0, .ref (adr G (6, 0, 0))]) (k0 := (2, 0, 0)) (ci := 3) (nk := 0) C [vI p1, vI p2] 2 hM gL_queue_X3_queue rfl hrc hrs ⟨rfl, by decide, by decide, by decide +kernel⟩ (Nat.le_refl _) (Nat.le_refl _) ⟨Nat.le_of_eq (Nat.zero_add _), Nat.le_of_eq (Nat.zero_add _)⟩ ok2 rfl (by decide) rfl rfl rfl (Nat.le_of_ble_eq_true rfl) rfl dL_queue_5 (fun ho0 hr1 => ?_) (fun E hoE => ?_)
  · subst ho0
    refine r_i2l C dL_queue_8 (hv rfl hr1) ?_
    refine r_last (k := (6, 0, 0)) (len := 1) (x := v) C 0 hr1 (hv rfl hr1) ok6 rfl rfl (by decide) (by decide) dL_queue_9 (fun hr2 => ?_)
    refine r_goto (tgt := 17) C dL_queue_10 rfl ?_
    refine r_iconst C dL_queue_17 ?_
    exact r_iretQ C dL_queue_18 rfl rfl (Nat.zero_add _) (Nat.zero_add _)
  · subst hoE
    have hE1 : E = xI := by rcases ho with h | h <;> simp at h <;> simp [h]
    subst hE1
    refine ⟨13, Cat.one htb hE (by simp) (by decide) (by decide) (by decide +kernel), fun q => ?_⟩
    refine r_astore C dL_queue_13 (by decide) rfl ?_
    refine r_iconst C dL_queue_15 ?_
    exact r_iretQ C dL_queue_16 rfl rfl (Nat.zero_add _) (Nat.zero_add _)
theorem c_L_knows {l : Launch} {G : Gt} (hG : Gok G) {w w' : Mm} {p1 p2 v : Int} {o : Option String} {rm : Room} {mc ms : Nat} (hM : ConX l G yX3_knows wsX3_knows rm w [.ref (adr G (2, 0, 0)), vI p1, vI p2] o (some (vI v)) w' mc ms) (hrc : rm.cells = mc) (hrs : rm.slots = ms) (hv : o = none → rng w' → inR v) (ho : o = none ∨ o = some xI) : ConW l G yL_knows wsL_knows { frames := rm.frames + 1, cells := mc, slots := ms, locals := 8 + (4 + 11) + rm.locals } w [.ref (adr G (2, 0, 0)), vI p1, vI p2, .ref (adr G (6, 0, 0))] (some (vI (cd xI o))) (wr6 o w w' v) mc ms := by
  refine ConW.head (cc := cL_knows) (nL := 5) (ret := some .int) (hh := [(0, 10, 13, 21)]) hG (by decide) rfl (Nat.le_of_ble_eq_true rfl) ?_
  intro B A hBl htb hE C hr
  subst hBl
  have ok2 : okk G (2, 0, 0) := hG.2 _ (by decide) (by decide)
  have ok6 : okk G (6, 0, 0) := hG.2 _ (by decide) (by decide)
  refine r_aload_n (k := 3) C dL_knows_0 rfl ?_
  refine r_iconst C dL_knows_1 ?_
  refine r_aload_n (k := 0) C dL_knows_2 rfl ?_
  refine r_iload_n (k := 1) C dL_knows_3 rfl ?_
  refine r_iload_n (k := 2) C dL_knows_4 rfl ?_
  refine r_callVC (rest := [vI 0, .ref (adr G (6, 0, 0))]) (k0 := (2, 0, 0)) (ci := 3) (nk := 0) C [vI p1, vI p2] 2 hM gL_knows_X3_knows rfl hrc hrs ⟨rfl, by decide, by decide, by decide +kernel⟩ (Nat.le_refl _) (Nat.le_refl _) ⟨Nat.le_of_eq (Nat.zero_add _), Nat.le_of_eq (Nat.zero_add _)⟩ ok2 rfl (by decide) rfl rfl rfl (Nat.le_of_ble_eq_true rfl) rfl dL_knows_5 (fun ho0 hr1 => ?_) (fun E hoE => ?_)
  · subst ho0
    refine r_i2l C dL_knows_8 (hv rfl hr1) ?_
    refine r_last (k := (6, 0, 0)) (len := 1) (x := v) C 0 hr1 (hv rfl hr1) ok6 rfl rfl (by decide) (by decide) dL_knows_9 (fun hr2 => ?_)
    refine r_goto (tgt := 17) C dL_knows_10 rfl ?_
    refine r_iconst C dL_knows_17 ?_
    exact r_iretQ C dL_knows_18 rfl rfl (Nat.zero_add _) (Nat.zero_add _)
  · subst hoE
    have hE1 : E = xI := by rcases ho with h | h <;> simp at h <;> simp [h]
    subst hE1
    refine ⟨13, Cat.one htb hE (by simp) (by decide) (by decide) (by decide +kernel), fun q => ?_⟩
    refine r_astore C dL_knows_13 (by decide) rfl ?_
    refine r_iconst C dL_knows_15 ?_
    exact r_iretQ C dL_knows_16 rfl rfl (Nat.zero_add _) (Nat.zero_add _)
theorem c_L_sounds {l : Launch} {G : Gt} (hG : Gok G) {w w' : Mm} {p1 v : Int} {o : Option String} {rm : Room} {mc ms : Nat} (hM : ConX l G yX3_sounds wsX3_sounds rm w [.ref (adr G (2, 0, 0)), vI p1] o (some (vI v)) w' mc ms) (hrc : rm.cells = mc) (hrs : rm.slots = ms) (hv : o = none → rng w' → inR v) (ho : o = none ∨ o = some xI) : ConW l G yL_sounds wsL_sounds { frames := rm.frames + 1, cells := mc, slots := ms, locals := 8 + (2 + 11) + rm.locals } w [.ref (adr G (2, 0, 0)), vI p1, .ref (adr G (6, 0, 0))] (some (vI (cd xI o))) (wr6 o w w' v) mc ms := by
  refine ConW.head (cc := cL_sounds) (nL := 4) (ret := some .int) (hh := [(0, 9, 12, 21)]) hG (by decide) rfl (Nat.le_of_ble_eq_true rfl) ?_
  intro B A hBl htb hE C hr
  subst hBl
  have ok2 : okk G (2, 0, 0) := hG.2 _ (by decide) (by decide)
  have ok6 : okk G (6, 0, 0) := hG.2 _ (by decide) (by decide)
  refine r_aload_n (k := 2) C dL_sounds_0 rfl ?_
  refine r_iconst C dL_sounds_1 ?_
  refine r_aload_n (k := 0) C dL_sounds_2 rfl ?_
  refine r_iload_n (k := 1) C dL_sounds_3 rfl ?_
  refine r_callVC (rest := [vI 0, .ref (adr G (6, 0, 0))]) (k0 := (2, 0, 0)) (ci := 3) (nk := 0) C [vI p1] 1 hM gL_sounds_X3_sounds rfl hrc hrs ⟨rfl, by decide, by decide, by decide +kernel⟩ (Nat.le_refl _) (Nat.le_refl _) ⟨Nat.le_of_eq (Nat.zero_add _), Nat.le_of_eq (Nat.zero_add _)⟩ ok2 rfl (by decide) rfl rfl rfl (Nat.le_of_ble_eq_true rfl) rfl dL_sounds_4 (fun ho0 hr1 => ?_) (fun E hoE => ?_)
  · subst ho0
    refine r_i2l C dL_sounds_7 (hv rfl hr1) ?_
    refine r_last (k := (6, 0, 0)) (len := 1) (x := v) C 0 hr1 (hv rfl hr1) ok6 rfl rfl (by decide) (by decide) dL_sounds_8 (fun hr2 => ?_)
    refine r_goto (tgt := 15) C dL_sounds_9 rfl ?_
    refine r_iconst C dL_sounds_15 ?_
    exact r_iretQ C dL_sounds_16 rfl rfl (Nat.zero_add _) (Nat.zero_add _)
  · subst hoE
    have hE1 : E = xI := by rcases ho with h | h <;> simp at h <;> simp [h]
    subst hE1
    refine ⟨12, Cat.one htb hE (by simp) (by decide) (by decide) (by decide +kernel), fun q => ?_⟩
    refine r_astore_n C dL_sounds_12 rfl (by decide) rfl ?_
    refine r_iconst C dL_sounds_13 ?_
    exact r_iretQ C dL_sounds_14 rfl rfl (Nat.zero_add _) (Nat.zero_add _)
theorem c_L_count {l : Launch} {G : Gt} (hG : Gok G) {w w' : Mm} {p1 v : Int} {o : Option String} {rm : Room} {mc ms : Nat} (hM : ConX l G yX3_count wsX3_count rm w [.ref (adr G (2, 0, 0)), vI p1] o (some (vI v)) w' mc ms) (hrc : rm.cells = mc) (hrs : rm.slots = ms) (hv : o = none → rng w' → inR v) (ho : o = none ∨ o = some xI) : ConW l G yL_count wsL_count { frames := rm.frames + 1, cells := mc, slots := ms, locals := 8 + (2 + 11) + rm.locals } w [.ref (adr G (2, 0, 0)), vI p1, .ref (adr G (6, 0, 0))] (some (vI (cd xI o))) (wr6 o w w' v) mc ms := by
  refine ConW.head (cc := cL_count) (nL := 4) (ret := some .int) (hh := [(0, 9, 12, 21)]) hG (by decide) rfl (Nat.le_of_ble_eq_true rfl) ?_
  intro B A hBl htb hE C hr
  subst hBl
  have ok2 : okk G (2, 0, 0) := hG.2 _ (by decide) (by decide)
  have ok6 : okk G (6, 0, 0) := hG.2 _ (by decide) (by decide)
  refine r_aload_n (k := 2) C dL_count_0 rfl ?_
  refine r_iconst C dL_count_1 ?_
  refine r_aload_n (k := 0) C dL_count_2 rfl ?_
  refine r_iload_n (k := 1) C dL_count_3 rfl ?_
  refine r_callVC (rest := [vI 0, .ref (adr G (6, 0, 0))]) (k0 := (2, 0, 0)) (ci := 3) (nk := 0) C [vI p1] 1 hM gL_count_X3_count rfl hrc hrs ⟨rfl, by decide, by decide, by decide +kernel⟩ (Nat.le_refl _) (Nat.le_refl _) ⟨Nat.le_of_eq (Nat.zero_add _), Nat.le_of_eq (Nat.zero_add _)⟩ ok2 rfl (by decide) rfl rfl rfl (Nat.le_of_ble_eq_true rfl) rfl dL_count_4 (fun ho0 hr1 => ?_) (fun E hoE => ?_)
  · subst ho0
    refine r_i2l C dL_count_7 (hv rfl hr1) ?_
    refine r_last (k := (6, 0, 0)) (len := 1) (x := v) C 0 hr1 (hv rfl hr1) ok6 rfl rfl (by decide) (by decide) dL_count_8 (fun hr2 => ?_)
    refine r_goto (tgt := 15) C dL_count_9 rfl ?_
    refine r_iconst C dL_count_15 ?_
    exact r_iretQ C dL_count_16 rfl rfl (Nat.zero_add _) (Nat.zero_add _)
  · subst hoE
    have hE1 : E = xI := by rcases ho with h | h <;> simp at h <;> simp [h]
    subst hE1
    refine ⟨12, Cat.one htb hE (by simp) (by decide) (by decide) (by decide +kernel), fun q => ?_⟩
    refine r_astore_n C dL_count_12 rfl (by decide) rfl ?_
    refine r_iconst C dL_count_13 ?_
    exact r_iretQ C dL_count_14 rfl rfl (Nat.zero_add _) (Nat.zero_add _)
theorem c_L_way {l : Launch} {G : Gt} (hG : Gok G) {w w' : Mm} {p1 p2 v : Int} {o : Option String} {rm : Room} {mc ms : Nat} (hM : ConX l G yX3_way wsX3_way rm w [.ref (adr G (2, 0, 0)), vI p1, vI p2] o (some (vI v)) w' mc ms) (hrc : rm.cells = mc) (hrs : rm.slots = ms) (hv : o = none → rng w' → inR v) (ho : o = none ∨ o = some xI) : ConW l G yL_way wsL_way { frames := rm.frames + 1, cells := mc, slots := ms, locals := 8 + (5 + 11) + rm.locals } w [.ref (adr G (2, 0, 0)), vI p1, vI p2, .ref (adr G (6, 0, 0))] (some (vI (cd xI o))) (wr6 o w w' v) mc ms := by
  refine ConW.head (cc := cL_way) (nL := 5) (ret := some .int) (hh := [(0, 10, 13, 21)]) hG (by decide) rfl (Nat.le_of_ble_eq_true rfl) ?_
  intro B A hBl htb hE C hr
  subst hBl
  have ok2 : okk G (2, 0, 0) := hG.2 _ (by decide) (by decide)
  have ok6 : okk G (6, 0, 0) := hG.2 _ (by decide) (by decide)
  refine r_aload_n (k := 3) C dL_way_0 rfl ?_
  refine r_iconst C dL_way_1 ?_
  refine r_aload_n (k := 0) C dL_way_2 rfl ?_
  refine r_iload_n (k := 1) C dL_way_3 rfl ?_
  refine r_iload_n (k := 2) C dL_way_4 rfl ?_
  refine r_callVC (rest := [vI 0, .ref (adr G (6, 0, 0))]) (k0 := (2, 0, 0)) (ci := 3) (nk := 0) C [vI p1, vI p2] 2 hM gL_way_X3_way rfl hrc hrs ⟨rfl, by decide, by decide, by decide +kernel⟩ (Nat.le_refl _) (Nat.le_refl _) ⟨Nat.le_of_eq (Nat.zero_add _), Nat.le_of_eq (Nat.zero_add _)⟩ ok2 rfl (by decide) rfl rfl rfl (Nat.le_of_ble_eq_true rfl) rfl dL_way_5 (fun ho0 hr1 => ?_) (fun E hoE => ?_)
  · subst ho0
    refine r_i2l C dL_way_8 (hv rfl hr1) ?_
    refine r_last (k := (6, 0, 0)) (len := 1) (x := v) C 0 hr1 (hv rfl hr1) ok6 rfl rfl (by decide) (by decide) dL_way_9 (fun hr2 => ?_)
    refine r_goto (tgt := 17) C dL_way_10 rfl ?_
    refine r_iconst C dL_way_17 ?_
    exact r_iretQ C dL_way_18 rfl rfl (Nat.zero_add _) (Nat.zero_add _)
  · subst hoE
    have hE1 : E = xI := by rcases ho with h | h <;> simp at h <;> simp [h]
    subst hE1
    refine ⟨13, Cat.one htb hE (by simp) (by decide) (by decide) (by decide +kernel), fun q => ?_⟩
    refine r_astore C dL_way_13 (by decide) rfl ?_
    refine r_iconst C dL_way_15 ?_
    exact r_iretQ C dL_way_16 rfl rfl (Nat.zero_add _) (Nat.zero_add _)
theorem c_L_pass {l : Launch} {G : Gt} (hG : Gok G) {w w' : Mm} {p1 v : Int} {o : Option String} {rm : Room} {mc ms : Nat} (hM : ConX l G yX3_pass wsX3_pass rm w [.ref (adr G (2, 0, 0)), vI p1] o (some (vI v)) w' mc ms) (hrc : rm.cells = mc) (hrs : rm.slots = ms) (hv : o = none → rng w' → inR v) (ho : o = none ∨ o = some xA) : ConW l G yL_pass wsL_pass { frames := rm.frames + 1, cells := mc, slots := ms, locals := 8 + (2 + 11) + rm.locals } w [.ref (adr G (2, 0, 0)), vI p1, .ref (adr G (6, 0, 0))] (some (vI (cd xA o))) (wr6 o w w' v) mc ms := by
  refine ConW.head (cc := cL_pass) (nL := 4) (ret := some .int) (hh := [(0, 9, 12, 13)]) hG (by decide) rfl (Nat.le_of_ble_eq_true rfl) ?_
  intro B A hBl htb hE C hr
  subst hBl
  have ok2 : okk G (2, 0, 0) := hG.2 _ (by decide) (by decide)
  have ok6 : okk G (6, 0, 0) := hG.2 _ (by decide) (by decide)
  refine r_aload_n (k := 2) C dL_pass_0 rfl ?_
  refine r_iconst C dL_pass_1 ?_
  refine r_aload_n (k := 0) C dL_pass_2 rfl ?_
  refine r_iload_n (k := 1) C dL_pass_3 rfl ?_
  refine r_callVC (rest := [vI 0, .ref (adr G (6, 0, 0))]) (k0 := (2, 0, 0)) (ci := 3) (nk := 0) C [vI p1] 1 hM gL_pass_X3_pass rfl hrc hrs ⟨rfl, by decide, by decide, by decide +kernel⟩ (Nat.le_refl _) (Nat.le_refl _) ⟨Nat.le_of_eq (Nat.zero_add _), Nat.le_of_eq (Nat.zero_add _)⟩ ok2 rfl (by decide) rfl rfl rfl (Nat.le_of_ble_eq_true rfl) rfl dL_pass_4 (fun ho0 hr1 => ?_) (fun E hoE => ?_)
  · subst ho0
    refine r_i2l C dL_pass_7 (hv rfl hr1) ?_
    refine r_last (k := (6, 0, 0)) (len := 1) (x := v) C 0 hr1 (hv rfl hr1) ok6 rfl rfl (by decide) (by decide) dL_pass_8 (fun hr2 => ?_)
    refine r_goto (tgt := 15) C dL_pass_9 rfl ?_
    refine r_iconst C dL_pass_15 ?_
    exact r_iretQ C dL_pass_16 rfl rfl (Nat.zero_add _) (Nat.zero_add _)
  · subst hoE
    have hE1 : E = xA := by rcases ho with h | h <;> simp at h <;> simp [h]
    subst hE1
    refine ⟨12, Cat.one htb hE (by simp) (by decide) (by decide) (by decide +kernel), fun q => ?_⟩
    refine r_astore_n C dL_pass_12 rfl (by decide) rfl ?_
    refine r_iconst C dL_pass_13 ?_
    exact r_iretQ C dL_pass_14 rfl rfl (Nat.zero_add _) (Nat.zero_add _)
theorem c_L_reaches {l : Launch} {G : Gt} (hG : Gok G) {w w' : Mm} {p1 p2 v : Int} {o : Option String} {rm : Room} {mc ms : Nat} (hM : ConX l G yX3_reaches wsX3_reaches rm w [.ref (adr G (2, 0, 0)), vI p1, vI p2] o (some (vI v)) w' mc ms) (hrc : rm.cells = mc) (hrs : rm.slots = ms) (hv : o = none → rng w' → inR v) (ho : o = none ∨ o = some xI) : ConW l G yL_reaches wsL_reaches { frames := rm.frames + 1, cells := mc, slots := ms, locals := 8 + (5 + 11) + rm.locals } w [.ref (adr G (2, 0, 0)), vI p1, vI p2, .ref (adr G (6, 0, 0))] (some (vI (cd xI o))) (wr6 o w w' v) mc ms := by
  refine ConW.head (cc := cL_reaches) (nL := 5) (ret := some .int) (hh := [(0, 10, 13, 21)]) hG (by decide) rfl (Nat.le_of_ble_eq_true rfl) ?_
  intro B A hBl htb hE C hr
  subst hBl
  have ok2 : okk G (2, 0, 0) := hG.2 _ (by decide) (by decide)
  have ok6 : okk G (6, 0, 0) := hG.2 _ (by decide) (by decide)
  refine r_aload_n (k := 3) C dL_reaches_0 rfl ?_
  refine r_iconst C dL_reaches_1 ?_
  refine r_aload_n (k := 0) C dL_reaches_2 rfl ?_
  refine r_iload_n (k := 1) C dL_reaches_3 rfl ?_
  refine r_iload_n (k := 2) C dL_reaches_4 rfl ?_
  refine r_callVC (rest := [vI 0, .ref (adr G (6, 0, 0))]) (k0 := (2, 0, 0)) (ci := 3) (nk := 0) C [vI p1, vI p2] 2 hM gL_reaches_X3_reaches rfl hrc hrs ⟨rfl, by decide, by decide, by decide +kernel⟩ (Nat.le_refl _) (Nat.le_refl _) ⟨Nat.le_of_eq (Nat.zero_add _), Nat.le_of_eq (Nat.zero_add _)⟩ ok2 rfl (by decide) rfl rfl rfl (Nat.le_of_ble_eq_true rfl) rfl dL_reaches_5 (fun ho0 hr1 => ?_) (fun E hoE => ?_)
  · subst ho0
    refine r_i2l C dL_reaches_8 (hv rfl hr1) ?_
    refine r_last (k := (6, 0, 0)) (len := 1) (x := v) C 0 hr1 (hv rfl hr1) ok6 rfl rfl (by decide) (by decide) dL_reaches_9 (fun hr2 => ?_)
    refine r_goto (tgt := 17) C dL_reaches_10 rfl ?_
    refine r_iconst C dL_reaches_17 ?_
    exact r_iretQ C dL_reaches_18 rfl rfl (Nat.zero_add _) (Nat.zero_add _)
  · subst hoE
    have hE1 : E = xI := by rcases ho with h | h <;> simp at h <;> simp [h]
    subst hE1
    refine ⟨13, Cat.one htb hE (by simp) (by decide) (by decide) (by decide +kernel), fun q => ?_⟩
    refine r_astore C dL_reaches_13 (by decide) rfl ?_
    refine r_iconst C dL_reaches_15 ?_
    exact r_iretQ C dL_reaches_16 rfl rfl (Nat.zero_add _) (Nat.zero_add _)
theorem c_L_best {l : Launch} {G : Gt} (hG : Gok G) {w w' : Mm} {p1 p2 v : Int} {o : Option String} {rm : Room} {mc ms : Nat} (hM : ConX l G yX3_best wsX3_best rm w [.ref (adr G (2, 0, 0)), vI p1, vI p2] o (some (vI v)) w' mc ms) (hrc : rm.cells = mc) (hrs : rm.slots = ms) (hv : o = none → rng w' → inR v) (ho : o = none ∨ o = some xI) : ConW l G yL_best wsL_best { frames := rm.frames + 1, cells := mc, slots := ms, locals := 8 + (7 + 11) + rm.locals } w [.ref (adr G (2, 0, 0)), vI p1, vI p2, .ref (adr G (6, 0, 0))] (some (vI (cd xI o))) (wr6 o w w' v) mc ms := by
  refine ConW.head (cc := cL_best) (nL := 5) (ret := some .int) (hh := [(0, 10, 13, 21)]) hG (by decide) rfl (Nat.le_of_ble_eq_true rfl) ?_
  intro B A hBl htb hE C hr
  subst hBl
  have ok2 : okk G (2, 0, 0) := hG.2 _ (by decide) (by decide)
  have ok6 : okk G (6, 0, 0) := hG.2 _ (by decide) (by decide)
  refine r_aload_n (k := 3) C dL_best_0 rfl ?_
  refine r_iconst C dL_best_1 ?_
  refine r_aload_n (k := 0) C dL_best_2 rfl ?_
  refine r_iload_n (k := 1) C dL_best_3 rfl ?_
  refine r_iload_n (k := 2) C dL_best_4 rfl ?_
  refine r_callVC (rest := [vI 0, .ref (adr G (6, 0, 0))]) (k0 := (2, 0, 0)) (ci := 3) (nk := 0) C [vI p1, vI p2] 2 hM gL_best_X3_best rfl hrc hrs ⟨rfl, by decide, by decide, by decide +kernel⟩ (Nat.le_refl _) (Nat.le_refl _) ⟨Nat.le_of_eq (Nat.zero_add _), Nat.le_of_eq (Nat.zero_add _)⟩ ok2 rfl (by decide) rfl rfl rfl (Nat.le_of_ble_eq_true rfl) rfl dL_best_5 (fun ho0 hr1 => ?_) (fun E hoE => ?_)
  · subst ho0
    refine r_i2l C dL_best_8 (hv rfl hr1) ?_
    refine r_last (k := (6, 0, 0)) (len := 1) (x := v) C 0 hr1 (hv rfl hr1) ok6 rfl rfl (by decide) (by decide) dL_best_9 (fun hr2 => ?_)
    refine r_goto (tgt := 17) C dL_best_10 rfl ?_
    refine r_iconst C dL_best_17 ?_
    exact r_iretQ C dL_best_18 rfl rfl (Nat.zero_add _) (Nat.zero_add _)
  · subst hoE
    have hE1 : E = xI := by rcases ho with h | h <;> simp at h <;> simp [h]
    subst hE1
    refine ⟨13, Cat.one htb hE (by simp) (by decide) (by decide) (by decide +kernel), fun q => ?_⟩
    refine r_astore C dL_best_13 (by decide) rfl ?_
    refine r_iconst C dL_best_15 ?_
    exact r_iretQ C dL_best_16 rfl rfl (Nat.zero_add _) (Nat.zero_add _)
theorem c_L_larger {l : Launch} {G : Gt} (hG : Gok G) {w w' : Mm} {p1 v : Int} {o : Option String} {rm : Room} {mc ms : Nat} (hM : ConX l G yX3_larger wsX3_larger rm w [.ref (adr G (2, 0, 0)), vI p1] o (some (vI v)) w' mc ms) (hrc : rm.cells = mc) (hrs : rm.slots = ms) (hv : o = none → rng w' → inR v) (ho : o = none ∨ o = some xA) : ConW l G yL_larger wsL_larger { frames := rm.frames + 1, cells := mc, slots := ms, locals := 8 + (6 + 11) + rm.locals } w [.ref (adr G (2, 0, 0)), vI p1, .ref (adr G (6, 0, 0))] (some (vI (cd xA o))) (wr6 o w w' v) mc ms := by
  refine ConW.head (cc := cL_larger) (nL := 4) (ret := some .int) (hh := [(0, 9, 12, 13)]) hG (by decide) rfl (Nat.le_of_ble_eq_true rfl) ?_
  intro B A hBl htb hE C hr
  subst hBl
  have ok2 : okk G (2, 0, 0) := hG.2 _ (by decide) (by decide)
  have ok6 : okk G (6, 0, 0) := hG.2 _ (by decide) (by decide)
  refine r_aload_n (k := 2) C dL_larger_0 rfl ?_
  refine r_iconst C dL_larger_1 ?_
  refine r_aload_n (k := 0) C dL_larger_2 rfl ?_
  refine r_iload_n (k := 1) C dL_larger_3 rfl ?_
  refine r_callVC (rest := [vI 0, .ref (adr G (6, 0, 0))]) (k0 := (2, 0, 0)) (ci := 3) (nk := 0) C [vI p1] 1 hM gL_larger_X3_larger rfl hrc hrs ⟨rfl, by decide, by decide, by decide +kernel⟩ (Nat.le_refl _) (Nat.le_refl _) ⟨Nat.le_of_eq (Nat.zero_add _), Nat.le_of_eq (Nat.zero_add _)⟩ ok2 rfl (by decide) rfl rfl rfl (Nat.le_of_ble_eq_true rfl) rfl dL_larger_4 (fun ho0 hr1 => ?_) (fun E hoE => ?_)
  · subst ho0
    refine r_i2l C dL_larger_7 (hv rfl hr1) ?_
    refine r_last (k := (6, 0, 0)) (len := 1) (x := v) C 0 hr1 (hv rfl hr1) ok6 rfl rfl (by decide) (by decide) dL_larger_8 (fun hr2 => ?_)
    refine r_goto (tgt := 15) C dL_larger_9 rfl ?_
    refine r_iconst C dL_larger_15 ?_
    exact r_iretQ C dL_larger_16 rfl rfl (Nat.zero_add _) (Nat.zero_add _)
  · subst hoE
    have hE1 : E = xA := by rcases ho with h | h <;> simp at h <;> simp [h]
    subst hE1
    refine ⟨12, Cat.one htb hE (by simp) (by decide) (by decide) (by decide +kernel), fun q => ?_⟩
    refine r_astore_n C dL_larger_12 rfl (by decide) rfl ?_
    refine r_iconst C dL_larger_13 ?_
    exact r_iretQ C dL_larger_14 rfl rfl (Nat.zero_add _) (Nat.zero_add _)
