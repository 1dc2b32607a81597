/-! the reference's State: what its methods do to the memory -/
def rowR (w : Mm) (k : Ky) (n : Nat) (a b : Int) : Prop := ∀ j, j < n → a ≤ w k j ∧ w k j ≤ b
theorem rowR.st {w : Mm} {k k' : Ky} {n j : Nat} {a b x : Int} (h : rowR w k n a b) (hx : k = k' → a ≤ x ∧ x ≤ b) : rowR (st1 w k' j x) k n a b := by
  intro i hi
  unfold st1
  split
  · rename_i q
    exact hx q.1
  · exact h i hi
theorem rowR.so {w : Mm} {k k' : Ky} {n j : Nat} {a b x : Int} (h : rowR w k n a b) (hk : k ≠ k') : rowR (st1 w k' j x) k n a b := h.st (fun q => absurd q hk)
theorem rowR.cg {w w' : Mm} {k : Ky} {n : Nat} {a b : Int} (h : rowR w k n a b) (hw : ∀ j, w' k j = w k j) : rowR w' k n a b := by
  intro i hi
  rw [hw i]
  exact h i hi
theorem rowR.mono {w : Mm} {k : Ky} {n : Nat} {a b a' b' : Int} (h : rowR w k n a b) (h1 : a' ≤ a) (h2 : b ≤ b') : rowR w k n a' b' := by
  intro i hi
  have := h i hi
  omega
theorem rowR.cpy {w : Mm} {k0 k1 k : Ky} {sp dp m n n0 : Nat} {a b : Int} (h : rowR w k n a b) (h0 : k = k1 → rowR w k0 n0 a b) (hm : sp + m ≤ n0) : rowR (cpy w k0 k1 sp dp m) k n a b := by
  intro i hi
  show a ≤ (if _ then _ else _) ∧ (if _ then _ else _) ≤ b
  split
  · rename_i q
    exact h0 q.1 _ (by omega)
  · exact h i hi
def MI (w : Mm) : Prop := (0 ≤ w (3, 0, 0) 1 ∧ w (3, 0, 0) 1 ≤ 8) ∧ (0 ≤ w (3, 0, 0) 2 ∧ w (3, 0, 0) 2 ≤ 12) ∧ rowR w (3, 0, 1) 8 0 30 ∧ rowR w (3, 0, 2) 8 0 30 ∧ rowR w (3, 0, 4) 8 0 23 ∧ rowR w (3, 0, 7) 12 0 8
def SI (w : Mm) (u : Nat) (N D X : Int) : Prop := (0 ≤ w (u, 0, 0) 0 ∧ w (u, 0, 0) 0 ≤ N) ∧ (0 ≤ w (u, 0, 0) 1 ∧ w (u, 0, 0) 1 ≤ D) ∧ (0 ≤ w (u, 0, 0) 2 ∧ w (u, 0, 0) 2 ≤ 1024) ∧ rowR w (u, 0, 1) 8 0 9 ∧ rowR w (u, 0, 3) 8 0 8 ∧ rowR w (u, 0, 4) 8 0 5 ∧ rowR w (u, 0, 5) 40 0 11 ∧ rowR w (u, 0, 7) 8 0 X ∧ rowR w (u, 0, 8) 1024 0 7 ∧ rowR w (u, 0, 9) 1024 0 11
abbrev rawk (w : Mm) (u v : Nat) : Prop := (w (u, 0, 0) 0 % 24 + 24 - w (3, 0, 4) v) % 24 < w (3, 0, 5) v
def rfar (w : Mm) (a b : Nat) : Int := ((w (3, 0, 1) a - w (3, 0, 1) b).natAbs : Int) + ((w (3, 0, 2) a - w (3, 0, 2) b).natAbs : Int)
abbrev rhears (w : Mm) (u a b : Nat) : Prop := rfar w a b ≤ 3 * w (u, 0, 1) a
def rsd (w : Mm) (u : Nat) (v p a : Int) : Mm :=
  st1 (st1 (st1 (st1 (st1 (st1 w (u, 0, 8) (w (u, 0, 0) 2).toNat v) (u, 0, 9) (w (u, 0, 0) 2).toNat p) (u, 0, 10) (w (u, 0, 0) 2).toNat a) (u, 0, 11) (w (u, 0, 0) 2).toNat (a + w (3, 0, 7) p.toNat - 1)) (u, 0, 12) (w (u, 0, 0) 2).toNat 0) (u, 0, 0) 2 (w (u, 0, 0) 2 + 1)
def rlast (w : Mm) (u : Nat) (v : Int) : Nat → Nat
  | 0 => 0
  | n + 1 => if w (u, 0, 8) n = v ∧ w (u, 0, 10) n ≤ w (u, 0, 0) 0 ∧ w (u, 0, 0) 0 ≤ w (u, 0, 11) n then rlast w u v n + 1 else rlast w u v n
theorem rlast_le (w : Mm) (u : Nat) (v : Int) : ∀ n, rlast w u v n ≤ n
  | 0 => Nat.le_refl 0
  | n + 1 => by
    have := rlast_le w u v n
    unfold rlast
    split <;> omega
def rlrn (w : Mm) (u : Nat) (v p : Int) : Mm := if w (u, 0, 6) (12 * v + p).toNat = -1 then st1 w (u, 0, 6) (12 * v + p).toNat (w (u, 0, 0) 0) else w
def rput (w : Mm) (u : Nat) (v p : Int) : Mm := st1 (st1 w (u, 0, 5) (5 * v + w (u, 0, 4) v.toNat).toNat p) (u, 0, 4) v.toNat (w (u, 0, 4) v.toNat + 1)
def rset (w : Mm) (u v : Nat) : Mm :=
  st1 (st1 (st1 (cpy (st1 w (u, 0, 4) v (w (u, 0, 4) v - 1)) (u, 0, 5) (u, 0, 5) (5 * v + 1) (5 * v) (w (u, 0, 4) v - 1).toNat) (u, 0, 2) v (w (u, 0, 5) (5 * v))) (u, 0, 3) v (w (3, 0, 7) (w (u, 0, 5) (5 * v)).toNat)) (u, 0, 0) 1 (w (u, 0, 0) 1 + 1)
def rsf (w : Mm) (u v n : Nat) : Int := w (u, 0, 0) 0 + rfar w v n / 3 + 1
def rsnd (w : Mm) (u v : Nat) (p : Int) : Nat → Mm
  | 0 => w
  | n + 1 =>
    if ¬ n = v ∧ rhears (rsnd w u v p n) u v n then
      (if rsnd w u v p n (3, 0, 3) v = 1 then rsd (rsd (rsnd w u v p n) u n p (rsf (rsnd w u v p n) u v n)) u n p (rsf (rsnd w u v p n) u v n + 4)
       else rsd (rsnd w u v p n) u n p (rsf (rsnd w u v p n) u v n))
    else rsnd w u v p n
def rbeg (w : Mm) (u v : Nat) : Mm :=
  if w (u, 0, 2) v = -1 ∧ rawk w u v ∧ ¬ w (u, 0, 4) v = 0 then rsnd (rset w u v) u v (w (u, 0, 5) (5 * v)) (w (3, 0, 0) 1).toNat else w
def rmark (w : Mm) (u : Nat) (v : Int) : Nat → Mm
  | 0 => w
  | n + 1 => if w (u, 0, 8) n = v ∧ w (u, 0, 10) n ≤ w (u, 0, 0) 0 then st1 (rmark w u v n) (u, 0, 12) n 1 else rmark w u v n
def rb1 (w : Mm) (u : Nat) : Nat → Mm
  | 0 => w
  | n + 1 => rbeg (rb1 w u n) u n
def rb2 (w : Mm) (u : Nat) : Nat → Mm
  | 0 => w
  | n + 1 => if rawk (rb2 w u n) u n ∧ rb2 w u n (u, 0, 2) n = -1 ∧ rlast (rb2 w u n) u n (rb2 w u n (u, 0, 0) 2).toNat < 2 then rb2 w u n else rmark (rb2 w u n) u n (rb2 w u n (u, 0, 0) 2).toNat
def rmv (w : Mm) (u : Nat) (a b : Nat) : Mm :=
  st1 (st1 (st1 (st1 (st1 w (u, 0, 8) b (w (u, 0, 8) a)) (u, 0, 9) b (w (u, 0, 9) a)) (u, 0, 10) b (w (u, 0, 10) a)) (u, 0, 11) b (w (u, 0, 11) a)) (u, 0, 12) b (w (u, 0, 12) a)
/-- the sounds that end: memory, how many were learnt, how many are kept -/
def rb3 (w : Mm) (u : Nat) : Nat → Mm × Nat × Nat
  | 0 => (w, 0, 0)
  | n + 1 =>
    if (rb3 w u n).1 (u, 0, 11) n ≤ (rb3 w u n).1 (u, 0, 0) 0 then
      (if (rb3 w u n).1 (u, 0, 12) n = 1 then
        (st1 (rb3 w u n).1 (u, 0, 7) ((rb3 w u n).1 (u, 0, 8) n).toNat ((rb3 w u n).1 (u, 0, 7) ((rb3 w u n).1 (u, 0, 8) n).toNat + 1), (rb3 w u n).2.1, (rb3 w u n).2.2)
       else
        (if (rb3 w u n).1 (u, 0, 6) (12 * (rb3 w u n).1 (u, 0, 8) n + (rb3 w u n).1 (u, 0, 9) n).toNat = -1 then
          (if (rb3 w u n).1 (u, 0, 4) ((rb3 w u n).1 (u, 0, 8) n).toNat < 5 then
            (rput (rlrn (rb3 w u n).1 u ((rb3 w u n).1 (u, 0, 8) n) ((rb3 w u n).1 (u, 0, 9) n)) u ((rb3 w u n).1 (u, 0, 8) n) ((rb3 w u n).1 (u, 0, 9) n), (rb3 w u n).2.1 + 1, (rb3 w u n).2.2)
           else (rlrn (rb3 w u n).1 u ((rb3 w u n).1 (u, 0, 8) n) ((rb3 w u n).1 (u, 0, 9) n), (rb3 w u n).2.1 + 1, (rb3 w u n).2.2))
         else (rlrn (rb3 w u n).1 u ((rb3 w u n).1 (u, 0, 8) n) ((rb3 w u n).1 (u, 0, 9) n), (rb3 w u n).2.1, (rb3 w u n).2.2)))
    else (rmv (rb3 w u n).1 u n (rb3 w u n).2.2, (rb3 w u n).2.1, (rb3 w u n).2.2 + 1)
def rb4 (w : Mm) (u : Nat) : Nat → Mm
  | 0 => w
  | n + 1 =>
    if max 0 (rb4 w u n (u, 0, 3) n - 1) = 0 then st1 (st1 (rb4 w u n) (u, 0, 3) n (max 0 (rb4 w u n (u, 0, 3) n - 1))) (u, 0, 2) n (-1)
    else st1 (rb4 w u n) (u, 0, 3) n (max 0 (rb4 w u n (u, 0, 3) n - 1))
def rv1 (w : Mm) (u : Nat) : Mm := rb1 w u (w (3, 0, 0) 1).toNat
def rv2 (w : Mm) (u : Nat) : Mm := rb2 (rv1 w u) u (w (3, 0, 0) 1).toNat
def rv3 (w : Mm) (u : Nat) : Mm × Nat × Nat := rb3 (rv2 w u) u (rv2 w u (u, 0, 0) 2).toNat
def rv3b (w : Mm) (u : Nat) : Mm := st1 (rv3 w u).1 (u, 0, 0) 2 (((rv3 w u).2.2 : Nat) : Int)
def rv4 (w : Mm) (u : Nat) : Mm := rb4 (rv3b w u) u (w (3, 0, 0) 1).toNat
def rbeat (w : Mm) (u : Nat) : Mm := st1 (rv4 w u) (u, 0, 0) 0 (rv4 w u (u, 0, 0) 0 + 1)
def rkn (w : Mm) (u : Nat) (p : Int) : Nat → Int := sumI (fun v => bI (¬ w (u, 0, 6) (12 * (v : Int) + p).toNat = -1))
def rprs (w : Mm) (u : Nat) : Int := sumI (fun p => rkn w u p (w (3, 0, 0) 1).toNat) (w (3, 0, 0) 2).toNat
def rbec (w : Mm) (u u2 : Nat) : Mm :=
  cpy (cpy (cpy (cpy (cpy (cpy (cpy (cpy (cpy (cpy (cpy (cpy (st1 (st1 (st1 w (u, 0, 0) 0 (w (u2, 0, 0) 0)) (u, 0, 0) 1 (w (u2, 0, 0) 1)) (u, 0, 0) 2 (w (u2, 0, 0) 2)) (u2, 0, 1) (u, 0, 1) 0 0 8) (u2, 0, 2) (u, 0, 2) 0 0 8) (u2, 0, 3) (u, 0, 3) 0 0 8) (u2, 0, 4) (u, 0, 4) 0 0 8) (u2, 0, 5) (u, 0, 5) 0 0 40) (u2, 0, 6) (u, 0, 6) 0 0 96) (u2, 0, 7) (u, 0, 7) 0 0 8) (u2, 0, 8) (u, 0, 8) 0 0 (w (u2, 0, 0) 2).toNat) (u2, 0, 9) (u, 0, 9) 0 0 (w (u2, 0, 0) 2).toNat) (u2, 0, 10) (u, 0, 10) 0 0 (w (u2, 0, 0) 2).toNat) (u2, 0, 11) (u, 0, 11) 0 0 (w (u2, 0, 0) 2).toNat) (u2, 0, 12) (u, 0, 12) 0 0 (w (u2, 0, 0) 2).toNat
theorem rsd_off {w : Mm} {u : Nat} {v p a : Int} {k : Ky} {j : Nat} (h0 : k ≠ (u, 0, 0)) (h8 : k ≠ (u, 0, 8)) (h9 : k ≠ (u, 0, 9)) (h10 : k ≠ (u, 0, 10)) (h11 : k ≠ (u, 0, 11)) (h12 : k ≠ (u, 0, 12)) : rsd w u v p a k j = w k j := by
  simp [rsd, st1, h0, h8, h9, h10, h11, h12]
theorem rlrn_off {w : Mm} {u : Nat} {v p : Int} {k : Ky} {j : Nat} (h : k ≠ (u, 0, 6)) : rlrn w u v p k j = w k j := by
  unfold rlrn
  split
  · exact st1_k h
  · rfl
theorem rput_off {w : Mm} {u : Nat} {v p : Int} {k : Ky} {j : Nat} (h4 : k ≠ (u, 0, 4)) (h5 : k ≠ (u, 0, 5)) : rput w u v p k j = w k j := by
  simp [rput, st1, h4, h5]
theorem rmark_off {w : Mm} {u : Nat} {v : Int} {k : Ky} {j : Nat} (h : k ≠ (u, 0, 12)) : ∀ n, rmark w u v n k j = w k j
  | 0 => rfl
  | n + 1 => by
    have ih := rmark_off (w := w) (v := v) (j := j) h n
    unfold rmark
    split
    · rw [st1_k h]
      exact ih
    · exact ih
