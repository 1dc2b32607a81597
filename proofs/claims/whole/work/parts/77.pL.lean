/-! what the law's calls answer fits an int -/
theorem wfd_b {M : Nat → Nat} {to : Nat} : ∀ f k, -1 ≤ wfd M to f k ∧ wfd M to f k ≤ ((f + k : Nat) : Int)
  | 0, k => by
    unfold wfd
    omega
  | f + 1, k => by
    obtain ⟨h1, h2⟩ := wfd_b (M := M) (to := to) f (k + 1)
    rw [wfd_s]
    split
    · omega
    · omega
theorem lbs_b {W : Mm} {m0 p : Int} {v : Nat} : ∀ i, -1 ≤ (lbs W m0 v p i).2.1 ∧ (lbs W m0 v p i).2.1 ≤ ((i : Nat) : Int)
  | 0 => by
    show -1 ≤ (-1 : Int) ∧ (-1 : Int) ≤ _
    omega
  | i + 1 => by
    obtain ⟨h1, h2⟩ := lbs_b (W := W) (m0 := m0) (p := p) (v := v) i
    show -1 ≤ (if (lbs W m0 v p i).2.2 < s0kno (lki (lbs W m0 v p i).1 v p i) 1 p then (i : Int) else (lbs W m0 v p i).2.1) ∧ (if (lbs W m0 v p i).2.2 < s0kno (lki (lbs W m0 v p i).1 v p i) 1 p then (i : Int) else (lbs W m0 v p i).2.1) ≤ _
    split <;> omega
theorem llg_b {W : Mm} {m0 : Int} {n : Nat} : ∀ i, -1 ≤ (llg W m0 n i).2.1 ∧ (llg W m0 n i).2.1 ≤ ((i : Nat) : Int)
  | 0 => by
    show -1 ≤ (-1 : Int) ∧ (-1 : Int) ≤ _
    omega
  | i + 1 => by
    obtain ⟨h1, h2⟩ := llg_b (W := W) (m0 := m0) (n := n) i
    unfold llg
    split
    · dsimp only
      split <;> omega
    · omega
theorem rgl_b {w : Mm} {u : Nat} {N D X : Int} (hu : 3 ≠ u) (h : SI w u N D X) (hM : MI w) : ∀ n : Nat, (∀ i, i < n → rgo w u i (u, 0, 0) 2 ≤ 896) → rgl w u n ≤ 1024 * n
  | 0, _ => Nat.le_refl _
  | n + 1, hs => by
    have i := rgl_b hu h hM n (fun i hi => hs i (by omega))
    obtain ⟨i1, i2⟩ := SI_go hu h hM n (fun i hi => hs i (by omega))
    have g2 := (SI_beat hu i1 (hM.sl i2 hu) (hs n (by omega))).2.1
    have hz := g2.2.2.1
    have h3 := (rb3_facts g2 (rv2 (rgo w u n) u (u, 0, 0) 2).toNat (by omega)).2.2.2.1
    have h4 : (rv3 (rgo w u n) u).2.1 ≤ 1024 := Nat.le_trans h3 (by omega)
    show rgl w u n + (rv3 (rgo w u n) u).2.1 ≤ _
    omega
theorem inR_sm {z : Int} (h : -1000000 ≤ z ∧ z ≤ 1000000) : inR z := ⟨by omega, by omega⟩
theorem inR_bI {P : Prop} [Decidable P] : inR (bI P) := by
  unfold bI
  split
  · exact ⟨by decide, by decide⟩
  · exact ⟨by decide, by decide⟩
theorem GC_LI {c : Int} {w : Mm} (h : GI c w) : LI w 0 (200 * c) (1600 * c) (fun _ => 22400 * c) := h.1.1
theorem pass_b {c : Int} {w : Mm} {n : Int} (h : GI c w) (hn : 1 ≤ n ∧ n ≤ 200) : inR (s0go 0 n.toNat w).2 := by
  generalize hW : wr6 (if 1 ≤ n ∧ n ≤ 200 then none else eA) w (s0go 0 n.toNat w).1 (s0go 0 n.toNat w).2 = W
  have h1 := st_pass (W := W) (k := cd xA (if 1 ≤ n ∧ n ≤ 200 then none else eA)) h hW.symm rfl
  rw [if_pos hn] at hW h1
  have hWt : ∀ t v p j, 2 ≤ t → t ≠ 6 → W (t, v, p) j = w (t, v, p) j := by
    intro t v p j ht h6
    rw [← hW]
    show st1 (s0go 0 n.toNat w).1 (6, 0, 0) 0 _ (t, v, p) j = _
    rw [k_6 h6]
    exact s0go_sl _ _ j (by omega)
  have hG := GR_w h.2.1 hWt
  have hT := GR_t hG
  have hs := hs_pass h hWt
  have h2 := h1.2.1 rfl
  have e : (rgo (th0 W) 4 n.toNat) (6, 0, 0) 0 = (s0go 0 n.toNat w).2 := by
    have hsl := (SI_go (by decide) hT.1 hT.2.2 n.toNat (fun i _ => hs i)).2
    rw [hsl _ 0 (by decide), th0_6, ← hW]
    exact st1_eq _ _ _ _
  rw [if_pos hn, if_pos hn, e] at h2
  rw [h2]
  have := rgl_b (by decide) hT.1 hT.2.2 n.toNat (fun i _ => hs i)
  exact inR_sm (by omega)
/-! rows of the law -/
section ROWSLAW
variable {B : Bx} {nL : Nat} {G : Gt} {A : Nat → Prop} {cc : ByteArray} {own : String} {Ts : List Cond} {ret : Option FieldType} {Rm : Room} {Q : State → Prop} {w : Mm} {cells slots pc : Nat} {lv : List (Nat × Value)} {st : List Value}
theorem r_sld (C : Cx B nL G A cc own Ts ret Rm) {b L : Nat} {xs : Nat → Int32} (hX : va_X b L xs B.2.2.2.2.1 B.2.2.2.2.1.heap) (hbl : b < B.2.2.2.2.1.heap.size) (hbA : ¬ A b) {z y : Int} (n : Nat) (hy : (xs n).toInt = y) (hz : z = (n : Int)) (hn : n < L) (hL : L ≤ 2048) (hd : decode cc pc = .ok (.iaload, 1)) (kk : Wm B nL G A Q w cells slots (pc + 1) lv (vI y :: st)) : Wm B nL G A Q w cells slots pc lv (vI z :: .ref b :: st) := by
  obtain ⟨p, l, e, R, s, m, args, below, meth, c⟩ := B
  intro H locs ls hP hS hl
  subst hz
  subst hy
  refine va_sld C.1 C.2.1 hX hbl hbA hS (i := Int32.ofInt (n : Int)) (by rw [oi_nat]; exact vp_in_nI hn (by omega)) hd ?_
  rw [oi_nat, nI_clamp (by omega)]
  have e1 : (Value.int (xs n)) = vI (xs n).toInt := by
    show Value.int (xs n) = Value.int (Int32.ofInt (xs n).toInt)
    rw [Int32.ofInt_toInt]
  rw [e1]
  exact kk H locs ls hP hS hl
theorem r_slen (C : Cx B nL G A cc own Ts ret Rm) {b L : Nat} {xs : Nat → Int32} (hX : va_X b L xs B.2.2.2.2.1 B.2.2.2.2.1.heap) (hbl : b < B.2.2.2.2.1.heap.size) (hbA : ¬ A b) (hd : decode cc pc = .ok (.arraylength, 1)) (kk : Wm B nL G A Q w cells slots (pc + 1) lv (vI (L : Int) :: st)) : Wm B nL G A Q w cells slots pc lv (.ref b :: st) := by
  obtain ⟨p, l, e, R, s, m, args, below, meth, c⟩ := B
  intro H locs ls hP hS hl
  refine va_slen C.1 C.2.1 hX hbl hbA hS hd ?_
  have e1 : (Value.int (Int32.ofNat L)) = vI (L : Int) := by
    show Value.int (Int32.ofNat L) = Value.int (Int32.ofInt (L : Int))
    rw [oi_nat]
    rfl
  rw [e1]
  exact kk H locs ls hP hS hl
theorem r_lcmpE (C : Cx B nL G A cc own Ts ret Rm) {x y : Int64} (hxy : x = y) (hd : decode cc pc = .ok (.lcmp, 1)) (kk : Wm B nL G A Q w cells slots (pc + 1) lv (vI 0 :: st)) : Wm B nL G A Q w cells slots pc lv (.long y :: .long x :: st) := by
  obtain ⟨p, l, e, R, s, m, args, below, meth, c⟩ := B
  intro H locs ls hP hS hl
  subst hxy
  refine W.lcmp C.1 C.2.1 hd ?_
  have e1 : lg_cmp x x = (0 : Int32) := by
    unfold lg_cmp
    rw [if_neg (by simp), if_pos rfl]
  rw [e1]
  exact kk H locs ls hP hS hl
theorem r_callSW (C : Cx B nL G A cc own Ts ret Rm) (hE : Ex B.2.2.2.2.1) {y : MethodName} {ws ws' : List Cond} {rm : Room} {v : Option Value} {w' : Mm} {mc ms index maxL : Nat} {bytes : ByteArray} {retY : Option FieldType} {hh : List (Nat × Nat × Nat × Nat)} {rest st' : List Value} (As : List Value) (n : Nat)
    (hM : ConW B.2.1 G y ws rm w As v w' mc ms) (hg : GoodIn Ts (va_wsS own index y ws)) (hw : ws = Cond.codeWith y bytes maxL retY hh :: ws') (hrc : rm.cells = mc) (hrs : rm.slots = ms)
    (hdc : y.cls ≠ "java/lang/invoke/MethodHandle" ∧ y.cls ≠ "java/lang/invoke/VarHandle" ∧ (parseMethodDescriptor y.desc).map (fun d => d.parameters.length) = some n) (h1 : rm.frames + 1 ≤ Rm.frames) (h2 : 8 + (maxL + 11) + rm.locals ≤ Rm.locals) (hf : cells + mc ≤ Rm.cells ∧ slots + ms ≤ Rm.slots)
    (hn : As.length = n) (hst : st = As.reverse ++ rest) (hcat : (rest.map fun v => v.category).sum ≤ 8) (hst' : v.toList ++ rest = st') (hd : decode cc pc = .ok (.invokestatic index, 3))
    (kk : rng w' → Wm B nL G A Q w' (cells + mc) (slots + ms) (pc + 3) lv st') : Wm B nL G A Q w cells slots pc lv st := by
  have hAg := @Ag_in _ _ _ _ _ _ _ _ _ C
  obtain ⟨p, l, e, R, s, m, args, below, meth, c⟩ := B
  obtain ⟨hx, hb, hml, hown, hts, hKn, hG, hA1, hA2, hlk, hret, hR, hZ⟩ := C
  intro H locs ls hP hS hl
  dsimp only at hR
  subst hR; subst hst; subst hst'
  exact r_back (vx_runSW (hh := hh) (As := As) (rest := rest) ⟨hx, hb, hml, hown, hts⟩ (hM H.size) (vx_cwSW n hts hg hw hrc hrs hdc ⟨h1, h2⟩) ⟨PwW.blind, fun U hU hW => ⟨⟨rfl, by rw [hU], by rw [hU]; exact hP, Kn.warm hW hKn, by rw [hU]; exact (hZ.kept hS.2.1 (hAg hS)).moved hW.alike⟩, Ex.warm hW hE⟩⟩ rfl hn hl.1 rfl (lv_room hcat) hd hf) hS (fun q _ h => hAg hS q h) (hAg hS) (fun H1 locs1 hP1 hS1 => kk hP1.1 H1 locs1 ls hP1 hS1 hl)
theorem Wm.ge {k n : Nat} (h1 : cells ≤ k) (h2 : slots ≤ n) (kk : Wm B nL G A Q w k n pc lv st) : Wm B nL G A Q w cells slots pc lv st := fun H locs ls hP hS hl => W.widen h1 h2 (kk H locs ls hP hS hl)
end ROWSLAW
