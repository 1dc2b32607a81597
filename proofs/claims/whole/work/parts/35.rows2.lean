/-! rows for constants of two words, doubles -/
section ROWSD
variable {B : Bx} {nL : Nat} {G : Gt} {A : Nat → Prop} {cc : ByteArray} {own : String} {Ts : List Cond} {ret : Option FieldType} {Rm : Room} {Q : State → Prop} {w : Mm} {cells slots pc : Nat} {lv : List (Nat × Value)} {st : List Value}
theorem r_ldc2 (C : Cx B nL G A cc own Ts ret Rm) {index : Nat} {v : Int64} (hw : Cond.constantLong own index v ∈ Ts) (hd : decode cc pc = .ok (.ldc2_w index, 3)) (kk : Wm B nL G A Q w cells slots (pc + 3) lv (.long v :: st)) : Wm B nL G A Q w cells slots pc lv st := by
  obtain ⟨p, l, e, R, s, m, args, below, meth, c⟩ := B
  obtain ⟨hx, hb, hml, hown, hts, hKn, hG, hA1, hA2, hlk, hret, hR, hZ⟩ := C
  intro H locs ls hP hS hl
  exact lv_ldc2 hx hb hown (hts _ hw) hd (kk H locs ls hP hS hl)
theorem r_dconst0 (C : Cx B nL G A cc own Ts ret Rm) (hd : decode cc pc = .ok (.dconst 0, 1)) (kk : Wm B nL G A Q w cells slots (pc + 1) lv (.double FP.dconst0 :: st)) : Wm B nL G A Q w cells slots pc lv st := by
  obtain ⟨p, l, e, R, s, m, args, below, meth, c⟩ := B
  intro H locs ls hP hS hl
  exact lv_dconst0 C.1 C.2.1 hd (kk H locs ls hP hS hl)
theorem r_i2d (C : Cx B nL G A cc own Ts ret Rm) {z : Int} (hd : decode cc pc = .ok (.i2d, 1)) (kk : Wm B nL G A Q w cells slots (pc + 1) lv (.double (FP.i2d (Int32.ofInt z)) :: st)) : Wm B nL G A Q w cells slots pc lv (vI z :: st) := by
  obtain ⟨p, l, e, R, s, m, args, below, meth, c⟩ := B
  intro H locs ls hP hS hl
  exact lv_i2d C.1 C.2.1 hd (kk H locs ls hP hS hl)
theorem r_ddiv (C : Cx B nL G A cc own Ts ret Rm) {x y : UInt64} (hd : decode cc pc = .ok (.ddiv, 1)) (hn : vf_n64 (FP.ddiv x y)) (kk : Wm B nL G A Q w cells slots (pc + 1) lv (.double (FP.ddiv x y) :: st)) : Wm B nL G A Q w cells slots pc lv (.double y :: .double x :: st) := by
  obtain ⟨p, l, e, R, s, m, args, below, meth, c⟩ := B
  intro H locs ls hP hS hl
  exact lv_ddiv C.1 C.2.1 hd hn (kk H locs ls hP hS hl)
theorem r_dret (C : Cx B nL G A cc own Ts (some .double) Rm) {z : UInt64} {v : Option Value} {w' : Mm} (hd : decode cc pc = .ok (.dreturn, 1)) (hv : some (Value.double z) = v) (hw : w = w') : Wm B nL G A (Qe B G A v w' cells slots) w cells slots pc lv [.double z] := by
  obtain ⟨p, l, e, R, s, m, args, below, meth, c⟩ := B
  obtain ⟨hx, hb, hml, hown, hts, ⟨hK, hNF, hNM, hNS⟩, hG, hA1, hA2, hlk, hret, hR, hZ⟩ := C
  intro H locs ls hP hS hl
  subst hv; subst hw
  exact W.dret hx hb hret (fun t ht hW => ⟨rfl, by rw [ht]; exact hP, hS.F ht⟩) hS.2.2 hd hlk
end ROWSD
/-! quotients of small numbers are no NaN -/
theorem dq_all : ∀ b : Nat, b < 96 → ∀ a : Nat, a < 97 → FP.ddiv (FP.i2d (Int32.ofInt (a : Int))) (FP.i2d (Int32.ofInt ((b + 1 : Nat) : Int))) &&& 0x7fffffffffffffff ≤ 0x7ff0000000000000 := by decide +kernel
theorem dq {a b : Int} (ha : 0 ≤ a ∧ a ≤ 96) (hb : 1 ≤ b ∧ b ≤ 96) : vf_n64 (FP.ddiv (FP.i2d (Int32.ofInt a)) (FP.i2d (Int32.ofInt b))) := by
  have h := dq_all (b.toNat - 1) (by omega) a.toNat (by omega)
  rw [show ((a.toNat : Nat) : Int) = a from by omega, show ((b.toNat - 1 + 1 : Nat) : Int) = b from by omega] at h
  exact h
/-! sums for the digests; a search of a bit -/
def dg (d : Int64) (f : Nat → Int) : Nat → Int64
  | 0 => d
  | n + 1 => dg d f n * 31 + Int64.ofInt (f n)
theorem dg_cg {d d' : Int64} {f f' : Nat → Int} (hd : d = d') : ∀ n : Nat, (∀ i, i < n → f i = f' i) → dg d f n = dg d' f' n
  | 0, _ => hd
  | n + 1, h => by
    simp only [dg]
    rw [dg_cg hd n (fun i hi => h i (by omega)), h n (by omega)]
def wfd (M : Nat → Nat) (to : Nat) : Nat → Nat → Int
  | 0, _ => -1
  | f + 1, k => if M k / 2 ^ to % 2 = 1 then (k : Int) else wfd M to f (k + 1)
theorem wfd_n {M : Nat → Nat} {to V k : Nat} (hk : k < V) (h : ¬ ((M k / 2 ^ to % 2 : Nat) : Int) = 1) : wfd M to (V - k) k = wfd M to (V - (k + 1)) (k + 1) := by
  obtain ⟨f, hf⟩ : ∃ f, V - k = f + 1 := ⟨V - k - 1, by omega⟩
  rw [show V - (k + 1) = f from by omega, hf]
  simp only [wfd]
  rw [if_neg (by omega)]
theorem wfd_e {M : Nat → Nat} {to V k : Nat} (hk : k < V) (h : ((M k / 2 ^ to % 2 : Nat) : Int) = 1) : wfd M to (V - k) k = (k : Int) := by
  obtain ⟨f, hf⟩ : ∃ f, V - k = f + 1 := ⟨V - k - 1, by omega⟩
  rw [hf]
  simp only [wfd]
  rw [if_pos (by omega)]
theorem wfd_0 {M : Nat → Nat} {to V k : Nat} (hk : ¬ k < V) : wfd M to (V - k) k = -1 := by
  rw [show V - k = 0 from by omega]
  rfl
