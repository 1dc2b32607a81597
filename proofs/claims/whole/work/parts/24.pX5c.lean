/-! the reference: beats that go by, and what is built -/
theorem SI_th0 {w : Mm} {N D X : Int} (h : SI w 4 N D X) : SI (th0 w) 4 N D X := by simpa [SI, rowR, th0, st1] using h
theorem MI_th0 {w : Mm} (h : MI w) : MI (th0 w) := by simpa [MI, rowR, th0, st1] using h
theorem rbeat_sl {w : Mm} {u : Nat} {N D X : Int} (hu : 3 ≠ u) (h : SI w u N D X) (hM : MI w) (hs : w (u, 0, 0) 2 ≤ 896) : sloc u w (rbeat w u) := by
  obtain ⟨k1, k2, k3, k3b, k4, k5⟩ := SI_beat hu h hM hs
  have l1 : sloc u w (rv1 w u) := rb1_sl _
  have l2 : sloc u w (rv2 w u) := l1.tr (fun k j hk => rb2_off (fun e => hk (by rw [e])) _)
  have z2 := k2.2.2.1
  have f3 := rb3_facts k2 (rv2 w u (u, 0, 0) 2).toNat (by omega)
  have l3 : sloc u w (rv3b w u) := (l2.tr f3.2.1).st
  have hv := hM.1
  have f4 := rb4_facts k3b (w (3, 0, 0) 1).toNat (by omega)
  exact (l3.tr f4.2.1).st
def rgo (w : Mm) (u : Nat) : Nat → Mm
  | 0 => w
  | n + 1 => rbeat (rgo w u n) u
def rgl (w : Mm) (u : Nat) : Nat → Nat
  | 0 => 0
  | n + 1 => rgl w u n + (rv3 (rgo w u n) u).2.1
theorem SI_go {w : Mm} {u : Nat} {N D X : Int} (hu : 3 ≠ u) (h : SI w u N D X) (hM : MI w) : ∀ n : Nat, (∀ i, i < n → rgo w u i (u, 0, 0) 2 ≤ 896) → SI (rgo w u n) u (N + n) (D + 8 * n) (X + 1024 * n) ∧ sloc u w (rgo w u n)
  | 0, _ => ⟨by simpa [rgo] using h, sloc.rf⟩
  | n + 1, hs => by
    obtain ⟨i1, i2⟩ := SI_go hu h hM n (fun i hi => hs i (by omega))
    have hn := hs n (by omega)
    have g := (SI_beat hu i1 (hM.sl i2 hu) hn).2.2.2.2.2
    refine ⟨?_, i2.tr (rbeat_sl hu i1 (hM.sl i2 hu) hn)⟩
    have e1 : N + ((n + 1 : Nat) : Int) = N + n + 1 := by omega
    have e2 : D + 8 * ((n + 1 : Nat) : Int) = D + 8 * n + 8 := by omega
    have e3 : X + 1024 * ((n + 1 : Nat) : Int) = X + 1024 * n + 1024 := by omega
    rw [e1, e2, e3]
    exact g
def rfd (w : Mm) (x y : Int) : Nat → Bool
  | 0 => decide (w (3, 0, 0) 1 = 8)
  | n + 1 => rfd w x y n || decide (w (3, 0, 1) n = x ∧ w (3, 0, 2) n = y)
theorem bI_iff {P R : Prop} [Decidable P] [Decidable R] (h : P ↔ R) : bI P = bI R := by
  by_cases hP : P
  · rw [bI_t hP, bI_t (h.1 hP)]
  · rw [bI_f hP, bI_f (fun q => hP (h.2 q))]
theorem rfd_8 {w : Mm} {x y : Int} : ∀ {n}, ¬ rfd w x y n = true → ¬ w (3, 0, 0) 1 = 8
  | 0, h => fun q => h (by simp [rfd, q])
  | n + 1, h => rfd_8 (x := x) (y := y) (n := n) (fun q => h (by simp [rfd, q]))
theorem rfd_s {w : Mm} {x y : Int} (n : Nat) : bI (rfd w x y (n + 1) = true) = bI (rfd w x y n = true ∨ (w (3, 0, 1) n = x ∧ w (3, 0, 2) n = y)) := bI_iff (by simp [rfd])
theorem rfd_z {w : Mm} {x y : Int} : bI (rfd w x y 0 = true) = bI (w (3, 0, 0) 1 = 8) := bI_iff (by simp [rfd])
def rfnd (w : Mm) (x y d : Int) : Mm :=
  st1 (st1 (st1 (st1 (st1 (st1 (th0 w) (3, 0, 1) (w (3, 0, 0) 1).toNat x) (3, 0, 2) (w (3, 0, 0) 1).toNat y) (3, 0, 5) (w (3, 0, 0) 1).toNat 24) (4, 0, 1) (w (3, 0, 0) 1).toNat d) (4, 0, 2) (w (3, 0, 0) 1).toNat (-1)) (3, 0, 0) 1 (w (3, 0, 0) 1 + 1)
section ROWSB
variable {B : Bx} {nL : Nat} {G : Gt} {A : Nat → Prop} {cc : ByteArray} {own : String} {Ts : List Cond} {ret : Option FieldType} {Rm : Room} {Q : State → Prop} {w : Mm} {cells slots pc : Nat} {lv : List (Nat × Value)} {st : List Value}
theorem r_ior1 (C : Cx B nL G A cc own Ts ret Rm) {a : Prop} [Decidable a] (c : Prop) [Decidable c] (hq : c) (hd : decode cc pc = .ok (.ior, 1)) (kk : Wm B nL G A Q w cells slots (pc + 1) lv (vI (bI (a ∨ c)) :: st)) : Wm B nL G A Q w cells slots pc lv (vI 1 :: vI (bI a) :: st) := by
  refine r_ior C (c9 := bI (a ∨ c)) hd ?_ kk
  rw [bI_t (Or.inr hq)]
  rcases Classical.em a with h | h
  · rw [bI_t h]; decide
  · rw [bI_f h]; decide
theorem r_ior0 (C : Cx B nL G A cc own Ts ret Rm) {a : Prop} [Decidable a] (c : Prop) [Decidable c] (hq : ¬ c) (hd : decode cc pc = .ok (.ior, 1)) (kk : Wm B nL G A Q w cells slots (pc + 1) lv (vI (bI (a ∨ c)) :: st)) : Wm B nL G A Q w cells slots pc lv (vI 0 :: vI (bI a) :: st) := by
  refine r_ior C (c9 := bI (a ∨ c)) hd ?_ kk
  rcases Classical.em a with h | h
  · rw [bI_t h, bI_t (Or.inl h)]; decide
  · rw [bI_f h, bI_f (fun q => q.elim h hq)]; decide
theorem r_iandP (C : Cx B nL G A cc own Ts ret Rm) {a c : Prop} [Decidable a] [Decidable c] (hd : decode cc pc = .ok (.iand, 1)) (kk : Wm B nL G A Q w cells slots (pc + 1) lv (vI (bI (a ∧ c)) :: st)) : Wm B nL G A Q w cells slots pc lv (vI (bI c) :: vI (bI a) :: st) := by
  refine r_iand C (c9 := bI (a ∧ c)) hd ?_ kk
  rcases Classical.em a with h | h <;> rcases Classical.em c with g | g
  · rw [bI_t h, bI_t g, bI_t ⟨h, g⟩]; decide
  · rw [bI_t h, bI_f g, bI_f (fun q => g q.2)]; decide
  · rw [bI_f h, bI_t g, bI_f (fun q => h q.1)]; decide
  · rw [bI_f h, bI_f g, bI_f (fun q => h q.1)]; decide
end ROWSB
