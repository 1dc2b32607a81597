/-! rows for bits -/
section ROWSB
variable {B : Bx} {nL : Nat} {G : Gt} {A : Nat → Prop} {cc : ByteArray} {own : String} {Ts : List Cond} {ret : Option FieldType} {Rm : Room} {Q : State → Prop} {w : Mm} {cells slots pc : Nat} {lv : List (Nat × Value)} {st : List Value}
theorem sh_l : ∀ k, k < 32 → ((nI k &&& 31).toBitVec.smod 32).toNat = k := by decide +kernel
theorem r_ishrN (C : Cx B nL G A cc own Ts ret Rm) {M k : Nat} (hd : decode cc pc = .ok (.ishr, 1)) (hM : M < 2 ^ 31) (hk : k < 32) (kk : Wm B nL G A Q w cells slots (pc + 1) lv (vI ((M / 2 ^ k : Nat) : Int) :: st)) : Wm B nL G A Q w cells slots pc lv (vI ((k : Nat) : Int) :: vI ((M : Nat) : Int) :: st) := by
  obtain ⟨p, l, e, R, s, m, args, below, meth, c⟩ := B
  intro H locs ls hP hS hl
  have kk := kk H locs ls hP hS hl
  rw [show vI ((M / 2 ^ k : Nat) : Int) = .int (Int32.ofInt (M : Int) >>> (Int32.ofInt (k : Int) &&& 31)) from congrArg Value.int (by rw [oi_nat, oi_nat, oi_nat, pk_shrN hM _ k (sh_l k hk)])] at kk
  exact lv_ishr C.1 C.2.1 hd kk
theorem r_iandN (C : Cx B nL G A cc own Ts ret Rm) {M : Nat} (hd : decode cc pc = .ok (.iand, 1)) (hM : M < 2 ^ 31) (kk : Wm B nL G A Q w cells slots (pc + 1) lv (vI ((M % 2 : Nat) : Int) :: st)) : Wm B nL G A Q w cells slots pc lv (vI 1 :: vI ((M : Nat) : Int) :: st) := by
  refine r_iand C (c9 := ((M % 2 : Nat) : Int)) hd ?_ kk
  rw [oi_nat, oi_nat]
  exact pk_andN (by omega) 1 (by decide)
theorem r_ishl1 (C : Cx B nL G A cc own Ts ret Rm) {k : Nat} (hd : decode cc pc = .ok (.ishl, 1)) (hk : k < 31) (kk : Wm B nL G A Q w cells slots (pc + 1) lv (vI ((2 ^ k : Nat) : Int) :: st)) : Wm B nL G A Q w cells slots pc lv (vI ((k : Nat) : Int) :: vI 1 :: st) := by
  obtain ⟨p, l, e, R, s, m, args, below, meth, c⟩ := B
  intro H locs ls hP hS hl
  have kk := kk H locs ls hP hS hl
  have h2 : (2 : Nat) ^ k < 2 ^ 31 := Nat.pow_lt_pow_right (by decide) hk
  rw [show vI ((2 ^ k : Nat) : Int) = .int (Int32.ofInt 1 <<< (Int32.ofInt (k : Int) &&& 31)) from congrArg Value.int (by rw [oi_nat, oi_nat, show Int32.ofInt 1 = nI 1 from rfl, pk_shlN _ k (sh_l k (by omega)) (by omega), Nat.one_mul])] at kk
  exact lv_ishl C.1 C.2.1 hd kk
theorem or_eq (a b : Nat) : nI a ||| nI b = nI (a ||| b) := by
  apply Int32.toBitVec.inj
  show (Int32.ofNat a ||| Int32.ofNat b).toBitVec = (Int32.ofNat (a ||| b)).toBitVec
  rw [Int32.toBitVec_or]
  simp
theorem r_iorN (C : Cx B nL G A cc own Ts ret Rm) {a b : Nat} (hd : decode cc pc = .ok (.ior, 1)) (kk : Wm B nL G A Q w cells slots (pc + 1) lv (vI ((a ||| b : Nat) : Int) :: st)) : Wm B nL G A Q w cells slots pc lv (vI ((b : Nat) : Int) :: vI ((a : Nat) : Int) :: st) := by
  refine r_ior C (c9 := ((a ||| b : Nat) : Int)) hd ?_ kk
  rw [oi_nat, oi_nat, oi_nat]
  exact or_eq a b
end ROWSB
/-! what always stands of a land -/
def vOK (w : Mm) (t v : Nat) (X : Int) : Prop :=
  (0 ≤ w (t, v, 0) 0 ∧ w (t, v, 0) 0 ≤ 30 ∧ 0 ≤ w (t, v, 0) 1 ∧ w (t, v, 0) 1 ≤ 30) ∧ (0 ≤ w (t, v, 0) 2 ∧ w (t, v, 0) 2 ≤ 9) ∧ (w (t, v, 0) 3 = 0 ∨ w (t, v, 0) 3 = 1) ∧ (0 ≤ w (t, v, 0) 4 ∧ w (t, v, 0) 4 ≤ 23) ∧ (0 ≤ w (t, v, 0) 5 ∧ w (t, v, 0) 5 ≤ 24) ∧ (0 ≤ w (t, v, 0) 7 ∧ w (t, v, 0) 7 ≤ 8) ∧ (¬ w (t, v, 0) 6 = -1 → 1 ≤ w (t, v, 0) 7) ∧ (0 ≤ w (t, v, 0) 9 ∧ w (t, v, 0) 9 ≤ 5) ∧ (0 ≤ w (t, v, 0) 12 ∧ w (t, v, 0) 12 ≤ X) ∧ (0 ≤ w (t, v, 3) 4 ∧ w (t, v, 3) 4 ≤ 112)
def LI (w : Mm) (t : Nat) (N D : Int) (X : Nat → Int) : Prop :=
  (0 ≤ w (t, 8, 0) 1 ∧ w (t, 8, 0) 1 ≤ 8) ∧ (0 ≤ w (t, 8, 0) 4 ∧ w (t, 8, 0) 4 ≤ 12) ∧ (0 ≤ w (t, 8, 0) 5 ∧ w (t, 8, 0) 5 ≤ N) ∧ (0 ≤ w (t, 8, 0) 6 ∧ w (t, 8, 0) 6 ≤ D) ∧ (∀ j : Nat, (j : Int) < w (t, 8, 0) 4 → 2 ≤ w (t, 8, 2) j ∧ w (t, 8, 2) j ≤ 8) ∧ ∀ v, v ≤ 7 → vOK w t v (X v)
theorem LI.v {w : Mm} {t : Nat} {N D : Int} {X : Nat → Int} (h : LI w t N D X) {v : Nat} (hv : v ≤ 7) : vOK w t v (X v) := h.2.2.2.2.2 v hv
theorem vOK.cg {w w' : Mm} {t v : Nat} {X : Int} (h : vOK w t v X) (h0 : ∀ j, w' (t, v, 0) j = w (t, v, 0) j) (h3 : w' (t, v, 3) 4 = w (t, v, 3) 4) : vOK w' t v X := by
  unfold vOK at h ⊢
  simp only [h0, h3]
  exact h
theorem LI.cg {w w' : Mm} {t : Nat} {N D : Int} {X : Nat → Int} (h : LI w t N D X) (h0 : ∀ j, w' (t, 8, 0) j = w (t, 8, 0) j) (h2 : ∀ j, w' (t, 8, 2) j = w (t, 8, 2) j) (hv : ∀ v, v ≤ 7 → vOK w' t v (X v)) : LI w' t N D X := by
  obtain ⟨a1, a2, a3, a4, a5, -⟩ := h
  refine ⟨?_, ?_, ?_, ?_, ?_, hv⟩
  · rw [h0]; exact a1
  · rw [h0]; exact a2
  · rw [h0]; exact a3
  · rw [h0]; exact a4
  · intro j
    rw [h0, h2]
    exact a5 j
theorem LI.mono {w : Mm} {t : Nat} {N D N' D' : Int} {X X' : Nat → Int} (h : LI w t N D X) (hN : N ≤ N') (hD : D ≤ D') (hX : ∀ v, v ≤ 7 → X v ≤ X' v) : LI w t N' D' X' := by
  obtain ⟨a1, a2, a3, a4, a5, a6⟩ := h
  refine ⟨a1, a2, ⟨a3.1, by omega⟩, ⟨a4.1, by omega⟩, a5, fun v hv => ?_⟩
  obtain ⟨b1, b2, b3, b4, b5, b6, b7, b8, ⟨b9, b10⟩, b11⟩ := a6 v hv
  exact ⟨b1, b2, b3, b4, b5, b6, b7, b8, ⟨b9, Int.le_trans b10 (hX v hv)⟩, b11⟩
/-- a function that changes village v alone -/
def loc (t v : Nat) (w w' : Mm) : Prop := ∀ k j, ¬ (k.1 = t ∧ k.2.1 = v) → w' k j = w k j
theorem loc.rf {t v : Nat} {w : Mm} : loc t v w w := fun _ _ _ => rfl
theorem loc.tr {t v : Nat} {w w' w'' : Mm} (h : loc t v w w') (h2 : loc t v w' w'') : loc t v w w'' := fun k j hk => (h2 k j hk).trans (h k j hk)
theorem loc.st {t v p : Nat} {w w' : Mm} {j : Nat} {x : Int} (h : loc t v w w') : loc t v w (st1 w' (t, v, p) j x) := fun k j' hk => by
  rw [st1_k (fun e => hk (by rw [e]; exact ⟨rfl, rfl⟩))]
  exact h k j' hk
theorem loc.cp {t v p sp dp n : Nat} {k0 : Ky} {w w' : Mm} (h : loc t v w w') : loc t v w (cpy w' k0 (t, v, p) sp dp n) := fun k j' hk => by
  rw [congrFun (cpy_off k (fun e => hk (by rw [e]; exact ⟨rfl, rfl⟩))) j']
  exact h k j' hk
theorem LI.loc {w w' : Mm} {t v : Nat} {N D : Int} {X X' : Nat → Int} (h : LI w t N D X) (hv : v ≤ 7) (hl : loc t v w w') (hX : ∀ u, u ≠ v → X' u = X u) (hok : vOK w' t v (X' v)) : LI w' t N D X' := by
  obtain ⟨a1, a2, a3, a4, a5, a6⟩ := h
  have e0 : ∀ j, w' (t, 8, 0) j = w (t, 8, 0) j := fun j => hl _ j (fun q => absurd (show 8 = v from q.2) (by omega))
  have e2 : ∀ j, w' (t, 8, 2) j = w (t, 8, 2) j := fun j => hl _ j (fun q => absurd (show 8 = v from q.2) (by omega))
  refine ⟨by rw [e0]; exact a1, by rw [e0]; exact a2, by rw [e0]; exact a3, by rw [e0]; exact a4, fun j => by rw [e0, e2]; exact a5 j, fun u hu => ?_⟩
  by_cases hu2 : u = v
  · subst hu2
    exact hok
  · rw [hX u hu2]
    exact (a6 u hu).cg (fun j => hl _ j (fun q => hu2 q.2)) (hl _ 4 (fun q => hu2 q.2))
theorem vOK.sz {w w' : Mm} {t v : Nat} {X : Int} (h : vOK w t v X) (h0 : ∀ j, w' (t, v, 0) j = w (t, v, 0) j) (h3 : 0 ≤ w' (t, v, 3) 4 ∧ w' (t, v, 3) 4 ≤ 112) : vOK w' t v X := by
  obtain ⟨b1, b2, b3, b4, b5, b6, b7, b8, b9, b10⟩ := h
  unfold vOK
  simp only [h0]
  exact ⟨b1, b2, b3, b4, b5, b6, b7, b8, b9, h3⟩
theorem s1add_off {w : Mm} {t v : Nat} {p f b : Int} {k : Ky} {j : Nat} (h3 : k ≠ (t, v, 3)) (h4 : k ≠ (t, v, 4)) (h5 : k ≠ (t, v, 5)) (h6 : k ≠ (t, v, 6)) (h7 : k ≠ (t, v, 7)) : s1add w t v p f b k j = w k j := by
  unfold s1add
  split
  · simp [st1, h3, h4, h5, h6, h7]
  · rfl
theorem s1add_sz {w : Mm} {t v : Nat} {p f b : Int} (h : 0 ≤ w (t, v, 3) 4 ∧ w (t, v, 3) 4 ≤ 112) : 0 ≤ s1add w t v p f b (t, v, 3) 4 ∧ s1add w t v p f b (t, v, 3) 4 ≤ 112 := by
  unfold s1add
  split
  · rw [st1_eq]; omega
  · exact h
theorem s1add_loc {w : Mm} {t v : Nat} {p f b : Int} : loc t v w (s1add w t v p f b) := by
  unfold s1add
  split
  · exact loc.rf.st.st.st.st.st
  · exact loc.rf
theorem LI_add {w : Mm} {t v : Nat} {p f b : Int} {N D : Int} {X : Nat → Int} (h : LI w t N D X) (hv : v ≤ 7) : LI (s1add w t v p f b) t N D X :=
  h.loc hv s1add_loc (fun _ _ => rfl) ((h.v hv).sz (fun j => s1add_off (by simp) (by simp) (by simp) (by simp) (by simp)) (s1add_sz (h.v hv).2.2.2.2.2.2.2.2.2))
theorem s2pop_off {w : Mm} {t v : Nat} {k : Ky} {j : Nat} (h0 : k ≠ (t, v, 0)) (h1 : k ≠ (t, v, 1)) : s2pop w t v k j = w k j := by
  unfold s2pop
  split
  · rfl
  · rw [congrFun (cpy_off k h1) j, st1_k h0]
theorem s2pop_0 {w : Mm} {t v j : Nat} (h : j ≠ 9) : s2pop w t v (t, v, 0) j = w (t, v, 0) j := by
  unfold s2pop
  split
  · rfl
  · rw [congrFun (cpy_off (t, v, 0) (by simp)) j, st1_j h]
theorem s2pop_9 {w : Mm} {t v : Nat} (h : 0 ≤ w (t, v, 0) 9 ∧ w (t, v, 0) 9 ≤ 5) : 0 ≤ s2pop w t v (t, v, 0) 9 ∧ s2pop w t v (t, v, 0) 9 ≤ 5 := by
  unfold s2pop
  split
  · exact h
  · rw [congrFun (cpy_off (t, v, 0) (by simp)) 9, st1_eq]
    omega
theorem s2pop_loc {w : Mm} {t v : Nat} : loc t v w (s2pop w t v) := by
  unfold s2pop
  split
  · exact loc.rf
  · exact loc.rf.st.cp
theorem s2top_inR {w : Mm} {t v : Nat} (h : rng w) : inR (s2top w t v) := by
  unfold s2top
  split
  · exact ⟨by decide, by decide⟩
  · exact h _ _
theorem LI_pop {w : Mm} {t v : Nat} {N D : Int} {X : Nat → Int} (h : LI w t N D X) (hv : v ≤ 7) : LI (s2pop w t v) t N D X := by
  refine h.loc hv s2pop_loc (fun _ _ => rfl) ?_
  obtain ⟨b1, b2, b3, b4, b5, b6, b7, b8, b9, b10⟩ := h.v hv
  unfold vOK
  rw [s2pop_0 (j := 0) (by decide), s2pop_0 (j := 1) (by decide), s2pop_0 (j := 2) (by decide), s2pop_0 (j := 3) (by decide), s2pop_0 (j := 4) (by decide), s2pop_0 (j := 5) (by decide), s2pop_0 (j := 6) (by decide), s2pop_0 (j := 7) (by decide), s2pop_0 (j := 12) (by decide), s2pop_off (k := (t, v, 3)) (by simp) (by simp)]
  exact ⟨b1, b2, b3, b4, b5, b6, b7, s2pop_9 b8, b9, b10⟩
/-! a drumming begins -/
def s0sf (u : Mm) (t v n : Nat) : Int := u (t, 8, 0) 5 + s2dist u t v t n / 3 + 1
def s0snd (w : Mm) (t v : Nat) (p b : Int) : Nat → Mm
  | 0 => w
  | n + 1 =>
    if ¬ n = v ∧ hears (s0snd w t v p b n) t v n then
      (if s0snd w t v p b n (t, v, 0) 3 = 0 then s1add (s0snd w t v p b n) t n p (s0sf (s0snd w t v p b n) t v n) b
       else s1add (s1add (s0snd w t v p b n) t n p (s0sf (s0snd w t v p b n) t v n) b) t n p (s0sf (s0snd w t v p b n) t v n + 4) b)
    else s0snd w t v p b n
def s0set (w : Mm) (t v : Nat) : Mm :=
  st1 (st1 (st1 (s2pop w t v) (t, v, 0) 6 (s2top w t v)) (t, v, 0) 7 (w (t, 8, 2) (s2top w t v).toNat)) (t, 8, 0) 6 (w (t, 8, 0) 6 + 1)
def s0beg (w : Mm) (t v : Nat) : Mm :=
  if s2top w t v < 0 ∨ w (t, 8, 0) 4 ≤ s2top w t v then s2pop w t v
  else s0snd (s0set w t v) t v (s2top w t v) (w (t, 8, 2) (s2top w t v).toNat) (w (t, 8, 0) 1).toNat
theorem s0snd_off {w : Mm} {t v : Nat} {p b : Int} {k : Ky} {j : Nat} (h3 : k.2.2 ≠ 3) (h4 : k.2.2 ≠ 4) (h5 : k.2.2 ≠ 5) (h6 : k.2.2 ≠ 6) (h7 : k.2.2 ≠ 7) : ∀ n, s0snd w t v p b n k j = w k j
  | 0 => rfl
  | n + 1 => by
    have ih := s0snd_off (w := w) (t := t) (v := v) (p := p) (b := b) (k := k) (j := j) h3 h4 h5 h6 h7 n
    have aux : ∀ (u : Mm) (f : Int), s1add u t n p f b k j = u k j := fun u f => s1add_off (fun e => h3 (by rw [e])) (fun e => h4 (by rw [e])) (fun e => h5 (by rw [e])) (fun e => h6 (by rw [e])) (fun e => h7 (by rw [e]))
    unfold s0snd
    split
    · split
      · rw [aux]; exact ih
      · rw [aux, aux]; exact ih
    · exact ih
theorem LI_snd {w : Mm} {t v : Nat} {p b : Int} {N D : Int} {X : Nat → Int} (h : LI w t N D X) : ∀ n, n ≤ 8 → LI (s0snd w t v p b n) t N D X
  | 0, _ => h
  | n + 1, hn => by
    have ih := LI_snd (v := v) (p := p) (b := b) h n (by omega)
    unfold s0snd
    split
    · split
      · exact LI_add ih (by omega)
      · exact LI_add (LI_add ih (by omega)) (by omega)
    · exact ih
theorem LI_set {w : Mm} {t v : Nat} {N D : Int} {X : Nat → Int} (h : LI w t N D X) (hv : v ≤ 7) (h1 : ¬ (s2top w t v < 0 ∨ w (t, 8, 0) 4 ≤ s2top w t v)) : LI (s0set w t v) t N (D + 1) X := by
  have hp := LI_pop h hv
  obtain ⟨a1, a2, a3, a4, a5, a6⟩ := h
  have htc := a5 (s2top w t v).toNat (by omega)
  have hv2 : LI (st1 (st1 (s2pop w t v) (t, v, 0) 6 (s2top w t v)) (t, v, 0) 7 (w (t, 8, 2) (s2top w t v).toNat)) t N D X := by
    refine hp.loc hv loc.rf.st.st (fun _ _ => rfl) ?_
    obtain ⟨b1, b2, b3, b4, b5, b6, b7, b8, b9, b10⟩ := hp.v hv
    unfold vOK
    simp [st1]
    exact ⟨b1, b2, b3, b4, b5, ⟨by omega, by omega⟩, fun _ => by omega, b8, b9, b10⟩
  obtain ⟨c1, c2, c3, c4, c5, c6⟩ := hv2
  have e6 : ∀ j, j ≠ 6 → s0set w t v (t, 8, 0) j = st1 (st1 (s2pop w t v) (t, v, 0) 6 (s2top w t v)) (t, v, 0) 7 (w (t, 8, 2) (s2top w t v).toNat) (t, 8, 0) j := fun j hj => st1_j hj
  have e2 : ∀ j, s0set w t v (t, 8, 2) j = st1 (st1 (s2pop w t v) (t, v, 0) 6 (s2top w t v)) (t, v, 0) 7 (w (t, 8, 2) (s2top w t v).toNat) (t, 8, 2) j := fun j => st1_k (by simp)
  refine ⟨by rw [e6 1 (by decide)]; exact c1, by rw [e6 4 (by decide)]; exact c2, by rw [e6 5 (by decide)]; exact c3, ?_, fun j => by rw [e6 4 (by decide), e2]; exact c5 j, fun u hu => (c6 u hu).cg (fun j => st1_k (by simp; omega)) (st1_k (by simp))⟩
  show 0 ≤ st1 _ _ _ _ _ _ ∧ st1 _ _ _ _ _ _ ≤ _
  rw [st1_eq]
  omega
theorem LI_beg {w : Mm} {t v : Nat} {N D : Int} {X : Nat → Int} (h : LI w t N D X) (hv : v ≤ 7) : LI (s0beg w t v) t N (D + 1) X := by
  unfold s0beg
  split
  · exact (LI_pop h hv).mono (Int.le_refl _) (by omega) (fun _ _ => Int.le_refl _)
  · refine LI_snd (LI_set h hv (by assumption)) _ ?_
    have := h.1
    omega
theorem s2pop_8 {w : Mm} {t v p j : Nat} (hv : v ≤ 7) : s2pop w t v (t, 8, p) j = w (t, 8, p) j := s2pop_off (by simp; omega) (by simp; omega)
theorem s0beg_8 {w : Mm} {t v j : Nat} (hv : v ≤ 7) (hj : j ≠ 6) : s0beg w t v (t, 8, 0) j = w (t, 8, 0) j := by
  unfold s0beg
  split
  · exact s2pop_8 hv
  · rw [s0snd_off (by simp) (by simp) (by simp) (by simp) (by simp)]
    unfold s0set
    rw [st1_j hj, st1_k (by simp; omega), st1_k (by simp; omega)]
    exact s2pop_8 hv
/-! a beat -/
abbrev s2rdy (w : Mm) (t v : Nat) (b : Int) : Prop := w (t, v, 0) 6 = -1 ∧ 0 < w (t, v, 0) 9 ∧ awk w t v b
def s0b1 (w : Mm) (t : Nat) : Nat → Mm
  | 0 => w
  | n + 1 => if s2rdy (s0b1 w t n) t n (s0b1 w t n (t, 8, 0) 5) then s0beg (s0b1 w t n) t n else s0b1 w t n
def s0b2 (w : Mm) (t : Nat) : Nat → Mm
  | 0 => w
  | n + 1 => s2dr (s0b2 w t n) t n (s0b2 w t n (t, 8, 0) 5)
def s0b3 (w : Mm) (t : Nat) : Nat → Mm × Int
  | 0 => (w, 0)
  | n + 1 => (s2end (s0b3 w t n).1 t n ((s0b3 w t n).1 (t, 8, 0) 5), (s0b3 w t n).2 + (((s2endL (s0b3 w t n).1 t n ((s0b3 w t n).1 (t, 8, 0) 5) ((s0b3 w t n).1 (t, n, 3) 4).toNat).2.1 : Nat) : Int))
def s0b4 (w : Mm) (t : Nat) : Nat → Mm
  | 0 => w
  | n + 1 => s2edb (s0b4 w t n) t n
def s0w1 (w : Mm) (t : Nat) : Mm := s0b1 w t (w (t, 8, 0) 1).toNat
def s0w2 (w : Mm) (t : Nat) : Mm := s0b2 (s0w1 w t) t (w (t, 8, 0) 1).toNat
def s0w3 (w : Mm) (t : Nat) : Mm × Int := s0b3 (s0w2 w t) t (w (t, 8, 0) 1).toNat
def s0w4 (w : Mm) (t : Nat) : Mm := s0b4 (s0w3 w t).1 t (w (t, 8, 0) 1).toNat
def s0beat (w : Mm) (t : Nat) : Mm := st1 (s0w4 w t) (t, 8, 0) 5 (s0w4 w t (t, 8, 0) 5 + 1)
theorem LI_b1 {w : Mm} {t : Nat} {N D : Int} {X : Nat → Int} (h : LI w t N D X) : ∀ n, n ≤ 8 → LI (s0b1 w t n) t N (D + n) X ∧ ∀ j, j ≠ 6 → s0b1 w t n (t, 8, 0) j = w (t, 8, 0) j
  | 0, _ => ⟨h.mono (Int.le_refl _) (by simp) (fun _ _ => Int.le_refl _), fun _ _ => rfl⟩
  | n + 1, hn => by
    obtain ⟨ih, ih2⟩ := LI_b1 h n (by omega)
    unfold s0b1
    split
    · refine ⟨(LI_beg ih (by omega)).mono (Int.le_refl _) (by omega) (fun _ _ => Int.le_refl _), fun j hj => ?_⟩
      rw [s0beg_8 (by omega) hj]
      exact ih2 j hj
    · exact ⟨ih.mono (Int.le_refl _) (by omega) (fun _ _ => Int.le_refl _), ih2⟩
theorem s2dr_off {w : Mm} {t v : Nat} {b : Int} {k : Ky} {j : Nat} (h : k ≠ (t, v, 7)) : s2dr w t v b k j = w k j := by
  unfold s2dr
  split
  · rfl
  · exact s1drown_off h _
theorem s2dr_loc {w : Mm} {t v : Nat} {b : Int} : loc t v w (s2dr w t v b) := fun k j hk => s2dr_off (fun e => hk (by rw [e]; exact ⟨rfl, rfl⟩))
theorem LI_dr {w : Mm} {t v : Nat} {b : Int} {N D : Int} {X : Nat → Int} (h : LI w t N D X) (hv : v ≤ 7) : LI (s2dr w t v b) t N D X :=
  h.loc hv s2dr_loc (fun _ _ => rfl) ((h.v hv).cg (fun j => s2dr_off (by simp)) (s2dr_off (by simp)))
theorem LI_b2 {w : Mm} {t : Nat} {N D : Int} {X : Nat → Int} (h : LI w t N D X) : ∀ n, n ≤ 8 → LI (s0b2 w t n) t N D X ∧ ∀ j, s0b2 w t n (t, 8, 0) j = w (t, 8, 0) j
  | 0, _ => ⟨h, fun _ => rfl⟩
  | n + 1, hn => by
    obtain ⟨ih, ih2⟩ := LI_b2 h n (by omega)
    exact ⟨LI_dr ih (by omega), fun j => (s2dr_off (by simp)).trans (ih2 j)⟩
theorem s2take_loc {w : Mm} {t v : Nat} {p b : Int} : loc t v w (s2take w t v p b) := by
  unfold s2take
  (repeat' split) <;> first | exact loc.rf | exact loc.rf.st | exact loc.rf.st.st | exact loc.rf.st.st.st
theorem s1move_loc {w : Mm} {t v : Nat} {a b : Int} : loc t v w (s1move w t v a b) := by
  unfold s1move
  split
  · exact loc.rf
  · unfold s1mv
    exact loc.rf.st.st.st.st
theorem s2endL_loc {w : Mm} {t v : Nat} {b : Int} : ∀ n, loc t v w (s2endL w t v b n).1
  | 0 => loc.rf
  | n + 1 => by
    have ih := s2endL_loc (w := w) (t := t) (v := v) (b := b) n
    unfold s2endL
    split
    · split
      · split
        · exact ih
        · exact ih.tr s2take_loc
      · exact ih.st
    · exact ih.tr s1move_loc
theorem s2endL_0 {w : Mm} {t v : Nat} {b : Int} {j : Nat} (h9 : j ≠ 9) (h12 : j ≠ 12) : ∀ n, (s2endL w t v b n).1 (t, v, 0) j = w (t, v, 0) j
  | 0 => rfl
  | n + 1 => by
    have ih := s2endL_0 (w := w) (t := t) (v := v) (b := b) h9 h12 n
    unfold s2endL
    split
    · split
      · split
        · exact ih
        · exact (s2take_off (by simp [h9]) (by simp) (by simp)).trans ih
      · exact (st1_j h12).trans ih
    · exact (s1move_off (by simp) (by simp) (by simp) (by simp)).trans ih
theorem s2end_loc {w : Mm} {t v : Nat} {b : Int} : loc t v w (s2end w t v b) := (s2endL_loc _).st
theorem LI_end {w : Mm} {t v : Nat} {b : Int} {N D : Int} {X : Nat → Int} (h : LI w t N D X) (hv : v ≤ 7) : LI (s2end w t v b) t N D (fun u => if u = v then X u + 112 else X u) := by
  refine h.loc hv s2end_loc (fun u hu => if_neg hu) ?_
  obtain ⟨b1, b2, b3, b4, b5, b6, b7, b8, b9, b10⟩ := h.v hv
  have e : ∀ j, s2end w t v b (t, v, 0) j = (s2endL w t v b (w (t, v, 3) 4).toNat).1 (t, v, 0) j := fun j => st1_k (by simp)
  obtain ⟨f1, f2, f3, f4, f5, f6⟩ := s2endL_facts w t v b b8 (w (t, v, 3) 4).toNat
  unfold vOK
  simp only [e]
  rw [s2endL_0 (j := 0) (by decide) (by decide), s2endL_0 (j := 1) (by decide) (by decide), s2endL_0 (j := 2) (by decide) (by decide), s2endL_0 (j := 3) (by decide) (by decide), s2endL_0 (j := 4) (by decide) (by decide), s2endL_0 (j := 5) (by decide) (by decide), s2endL_0 (j := 6) (by decide) (by decide), s2endL_0 (j := 7) (by decide) (by decide), if_pos trivial]
  refine ⟨b1, b2, b3, b4, b5, b6, b7, f4, ⟨by omega, by omega⟩, ?_⟩
  unfold s2end
  rw [st1_eq]
  omega
theorem LI_b3 {w : Mm} {t : Nat} {N D : Int} {X : Nat → Int} (h : LI w t N D X) : ∀ n, n ≤ 8 → LI (s0b3 w t n).1 t N D (fun u => if u < n then X u + 112 else X u) ∧ ∀ j, (s0b3 w t n).1 (t, 8, 0) j = w (t, 8, 0) j
  | 0, _ => ⟨h.mono (Int.le_refl _) (Int.le_refl _) (fun v _ => by simp), fun _ => rfl⟩
  | n + 1, hn => by
    obtain ⟨ih, ih2⟩ := LI_b3 h n (by omega)
    refine ⟨(LI_end ih (by omega)).mono (Int.le_refl _) (Int.le_refl _) (fun v _ => ?_), fun j => (s2end_loc _ j (fun q => absurd (show 8 = n from q.2) (by omega))).trans (ih2 j)⟩
    by_cases h1 : v = n
    · subst h1
      simp
    · rw [if_neg h1]
      by_cases h2 : v < n
      · rw [if_pos h2, if_pos (by omega)]
        exact Int.le_refl _
      · rw [if_neg h2, if_neg (by omega)]
        exact Int.le_refl _
theorem s2edb_loc {w : Mm} {t v : Nat} : loc t v w (s2edb w t v) := by
  unfold s2edb
  (repeat' split) <;> first | exact loc.rf | exact loc.rf.st | exact loc.rf.st.st
theorem LI_edb {w : Mm} {t v : Nat} {N D : Int} {X : Nat → Int} (h : LI w t N D X) (hv : v ≤ 7) : LI (s2edb w t v) t N D X := by
  refine h.loc hv s2edb_loc (fun _ _ => rfl) ?_
  obtain ⟨b1, b2, b3, b4, b5, b6, b7, b8, b9, b10⟩ := h.v hv
  unfold s2edb
  split
  · exact ⟨b1, b2, b3, b4, b5, b6, b7, b8, b9, b10⟩
  · split
    · unfold vOK
      simp [st1]
      exact ⟨b1, b2, b3, b4, b5, ⟨by omega, by omega⟩, b8, b9, b10⟩
    · unfold vOK
      simp [st1]
      exact ⟨b1, b2, b3, b4, b5, ⟨by omega, by omega⟩, fun _ => by omega, b8, b9, b10⟩
theorem LI_b4 {w : Mm} {t : Nat} {N D : Int} {X : Nat → Int} (h : LI w t N D X) : ∀ n, n ≤ 8 → LI (s0b4 w t n) t N D X ∧ ∀ j, s0b4 w t n (t, 8, 0) j = w (t, 8, 0) j
  | 0, _ => ⟨h, fun _ => rfl⟩
  | n + 1, hn => by
    obtain ⟨ih, ih2⟩ := LI_b4 h n (by omega)
    exact ⟨LI_edb ih (by omega), fun j => (s2edb_loc _ j (fun q => absurd (show 8 = n from q.2) (by omega))).trans (ih2 j)⟩
theorem LI_bt {w : Mm} {t : Nat} {N D : Int} {X : Nat → Int} (h : LI w t N D X) (x : Int) (hx : 0 ≤ x ∧ x ≤ N + 1) : LI (st1 w (t, 8, 0) 5 x) t (N + 1) D X := by
  obtain ⟨c1, c2, c3, c4, c5, c6⟩ := h
  refine ⟨by rw [st1_j (by decide)]; exact c1, by rw [st1_j (by decide)]; exact c2, by rw [st1_eq]; exact hx, by rw [st1_j (by decide)]; exact c4, fun j => by rw [st1_j (by decide), st1_k (by simp)]; exact c5 j, fun u hu => (c6 u hu).cg (fun j => st1_k (by simp; omega)) (st1_k (by simp))⟩
theorem LI_beat {w : Mm} {t : Nat} {N D : Int} {X : Nat → Int} (h : LI w t N D X) : LI (s0beat w t) t (N + 1) (D + 8) (fun u => X u + 112) ∧ s0beat w t (t, 8, 0) 5 = w (t, 8, 0) 5 + 1 := by
  have hvc := h.1
  have hn : (w (t, 8, 0) 1).toNat ≤ 8 := by omega
  obtain ⟨h1, e1⟩ := LI_b1 h _ hn
  obtain ⟨h2, e2⟩ := LI_b2 h1 _ hn
  obtain ⟨h3, e3⟩ := LI_b3 h2 _ hn
  obtain ⟨h4, e4⟩ := LI_b4 h3 _ hn
  have e5 : s0w4 w t (t, 8, 0) 5 = w (t, 8, 0) 5 := (e4 5).trans ((e3 5).trans ((e2 5).trans (e1 5 (by decide))))
  have h5 := h.2.2.1
  refine ⟨LI_bt (h4.mono (Int.le_refl N) (show D + ((w (t, 8, 0) 1).toNat : Int) ≤ D + 8 by omega) (fun v _ => ?_)) _ ?_, ?_⟩
  · show (if v < _ then X v + 112 else X v) ≤ X v + 112
    split <;> omega
  · rw [e5]
    omega
  · unfold s0beat
    rw [st1_eq, e5]
theorem s2dist_le {w : Mm} {t v u : Nat} {X Y : Int} (h : vOK w t v X) (h2 : vOK w t u Y) : 0 ≤ s2dist w t v t u ∧ s2dist w t v t u ≤ 60 := by
  obtain ⟨⟨b1, b2, b3, b4⟩, -⟩ := h
  obtain ⟨⟨c1, c2, c3, c4⟩, -⟩ := h2
  unfold s2dist
  omega
def s0go (t : Nat) : Nat → Mm → Mm × Int
  | 0, w => (w, 0)
  | n + 1, w => if s0quiet w t then (st1 w (t, 8, 0) 5 (w (t, 8, 0) 5 + ((n + 1 : Nat) : Int)), 0) else ((s0go t n (s0beat w t)).1, (s0w3 w t).2 + (s0go t n (s0beat w t)).2)
theorem LI_go {t : Nat} : ∀ (n : Nat) {w : Mm} {N D : Int} {X : Nat → Int}, LI w t N D X → LI (s0go t n w).1 t (N + n) (D + 8 * n) (fun u => X u + 112 * n)
  | 0, w, N, D, X, h => h.mono (by simp) (by simp) (fun v _ => by simp)
  | n + 1, w, N, D, X, h => by
    unfold s0go
    split
    · have h5 := h.2.2.1
      exact (LI_bt (h.mono (N' := N + n) (D' := D) (X' := X) (by omega) (Int.le_refl _) (fun _ _ => Int.le_refl _)) _ ⟨by omega, by omega⟩).mono (by omega) (by omega) (fun v _ => by show X v ≤ _; omega)
    · exact (LI_go n (LI_beat h).1).mono (by omega) (by omega) (fun v _ => by show X v + 112 + 112 * n ≤ _; omega)
def s0cpV (w : Mm) (t t2 : Nat) : Nat → Mm
  | 0 => w
  | n + 1 => s2cp (s0cpV w t t2 n) t n t2 n
def s0cp (w : Mm) (t t2 : Nat) : Mm :=
  st1 (st1 (st1 (cpy (cpy (st1 (s0cpV w t t2 (w (t2, 8, 0) 1).toNat) (t, 8, 0) 1 (w (t2, 8, 0) 1)) (t2, 8, 1) (t, 8, 1) 0 0 12) (t2, 8, 2) (t, 8, 2) 0 0 12) (t, 8, 0) 4 (w (t2, 8, 0) 4)) (t, 8, 0) 5 (w (t2, 8, 0) 5)) (t, 8, 0) 6 (w (t2, 8, 0) 6)
theorem s1cp_loc {w : Mm} {t v t2 v2 : Nat} : loc t v w (s1cp w t v t2 v2) := by
  unfold s1cp
  exact loc.rf.cp.cp.cp.cp.st
theorem s2cp_loc {w : Mm} {t v t2 v2 : Nat} : loc t v w (s2cp w t v t2 v2) := by
  unfold s2cp
  exact ((loc.rf.st.st.st.st.st.st.st.st.cp.st.cp).tr s1cp_loc).st
theorem s0cpV_off {w : Mm} {t t2 : Nat} {k : Ky} {j : Nat} (hk : k.1 ≠ t) : ∀ n, s0cpV w t t2 n k j = w k j
  | 0 => rfl
  | n + 1 => (s2cp_loc k j (fun q => hk q.1)).trans (s0cpV_off hk n)
theorem s0cpV_8 {w : Mm} {t t2 p j : Nat} : ∀ n, n ≤ 8 → s0cpV w t t2 n (t, 8, p) j = w (t, 8, p) j
  | 0, _ => rfl
  | n + 1, hn => (s2cp_loc _ j (fun q => absurd (show 8 = n from q.2) (by omega))).trans (s0cpV_8 n (by omega))
