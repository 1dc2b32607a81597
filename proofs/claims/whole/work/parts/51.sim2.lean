/-! the tie: the end of a beat, village by village -/
abbrev Dt : Type := Int × (Nat → Int) × (Nat → Int) × Int
def tr (n : Nat) (f : Nat → Int) : Nat → Int := fun j => if j < n then f j else 0
def up (f : Nat → Int) (k : Nat) (x : Int) : Nat → Int := fun j => if j = k then x else f j
theorem tr_up {n k : Nat} {f f' : Nat → Int} {x : Int} (hk : k < n) (hf : ∀ j, j < n → f' j = if j = k then x else f j) : tr n f' = up (tr n f) k x := by
  funext j
  show (if j < n then f' j else 0) = if j = k then x else (if j < n then f j else 0)
  by_cases hj : j < n
  · rw [if_pos hj, hf j hj, if_pos hj]
  · rw [if_neg hj, if_neg (fun e => hj (by omega)), if_neg hj]
theorem tr_cg {n : Nat} {f f' : Nat → Int} (hf : ∀ j, j < n → f' j = f j) : tr n f' = tr n f := by
  funext j
  unfold tr
  by_cases hj : j < n
  · rw [if_pos hj, if_pos hj, hf j hj]
  · rw [if_neg hj, if_neg hj]
theorem tr_at {n : Nat} {f f' : Nat → Int} (h : tr n f = tr n f') {j : Nat} (hj : j < n) : f j = f' j := by
  have := congrFun h j
  unfold tr at this
  rw [if_pos hj, if_pos hj] at this
  exact this
def DC (w : Mm) (t v : Nat) : Dt := (w (t, v, 0) 9, tr 5 (fun j => w (t, v, 1) j), tr 12 (fun p => w (t, v, 2) p), w (t, v, 0) 12)
def DR (w : Mm) (u v : Nat) : Dt := (w (u, 0, 4) v, tr 5 (fun j => w (u, 0, 5) (5 * v + j)), tr 12 (fun p => w (u, 0, 6) (12 * v + p)), w (u, 0, 7) v)
theorem Dt_ext {a a' : Int} {f f' g g' : Nat → Int} {c c' : Int} (h1 : a = a') (h2 : f = f') (h3 : g = g') (h4 : c = c') : ((a, f, g, c) : Dt) = (a', f', g', c') := by
  subst h1; subst h2; subst h3; subst h4; rfl
def efE (b : Int) (e : Dt × Nat) (s : Sd) : Dt × Nat :=
  if s.2.2.1 = b then
    (if s.2.2.2 = 0 then
      (if e.1.2.2.1 s.1.toNat = -1 then
        (if e.1.1 < 5 then ((e.1.1 + 1, up e.1.2.1 e.1.1.toNat s.1, up e.1.2.2.1 s.1.toNat b, e.1.2.2.2), e.2 + 1)
         else ((e.1.1, e.1.2.1, up e.1.2.2.1 s.1.toNat b, e.1.2.2.2), e.2 + 1))
       else e)
     else ((e.1.1, e.1.2.1, e.1.2.2.1, e.1.2.2.2 + 1), e.2))
  else e
theorem efE_n {b : Int} {e : Dt × Nat} {s : Sd} (h : ¬ s.2.2.1 = b) : efE b e s = e := if_neg h
theorem efE_d {b : Int} {e : Dt × Nat} {s : Sd} (h : s.2.2.1 = b) (h2 : ¬ s.2.2.2 = 0) : efE b e s = ((e.1.1, e.1.2.1, e.1.2.2.1, e.1.2.2.2 + 1), e.2) := by
  unfold efE
  rw [if_pos h, if_neg h2]
theorem efE_k {b : Int} {e : Dt × Nat} {s : Sd} (h : s.2.2.1 = b) (h2 : s.2.2.2 = 0) (h3 : ¬ e.1.2.2.1 s.1.toNat = -1) : efE b e s = e := by
  unfold efE
  rw [if_pos h, if_pos h2, if_neg h3]
theorem efE_q {b : Int} {e : Dt × Nat} {s : Sd} (h : s.2.2.1 = b) (h2 : s.2.2.2 = 0) (h3 : e.1.2.2.1 s.1.toNat = -1) (h4 : e.1.1 < 5) : efE b e s = ((e.1.1 + 1, up e.1.2.1 e.1.1.toNat s.1, up e.1.2.2.1 s.1.toNat b, e.1.2.2.2), e.2 + 1) := by
  unfold efE
  rw [if_pos h, if_pos h2, if_pos h3, if_pos h4]
theorem efE_f {b : Int} {e : Dt × Nat} {s : Sd} (h : s.2.2.1 = b) (h2 : s.2.2.2 = 0) (h3 : e.1.2.2.1 s.1.toNat = -1) (h4 : ¬ e.1.1 < 5) : efE b e s = ((e.1.1, e.1.2.1, up e.1.2.2.1 s.1.toNat b, e.1.2.2.2), e.2 + 1) := by
  unfold efE
  rw [if_pos h, if_pos h2, if_pos h3, if_neg h4]
def kp (b : Int) (s : Sd) : Bool := decide (¬ s.2.2.1 = b)
theorem kp_t {b : Int} {s : Sd} (h : ¬ s.2.2.1 = b) : [s].filter (kp b) = [s] := by simp [List.filter, kp, h]
theorem kp_f {b : Int} {s : Sd} (h : s.2.2.1 = b) : [s].filter (kp b) = [] := by simp [List.filter, kp, h]
theorem tr12 {f : Nat → Int} {p : Int} (hp : 0 ≤ p ∧ p < 12) : tr 12 f p.toNat = f p.toNat := if_pos (by omega)
/-- a step of the class' loop -/
theorem s2end_step {x : Mm} {t v n k kept : Nat} {b : Int} (h9 : 0 ≤ x (t, v, 0) 9 ∧ x (t, v, 0) 9 ≤ 5) (hp : 0 ≤ x (t, v, 4) n ∧ x (t, v, 4) n < 12) (hn : (n : Int) < x (t, v, 3) 4) (hk : kept ≤ n) (y : Mm × Nat × Nat)
    (hy : y = if x (t, v, 6) n = b then (if x (t, v, 7) n = 0 then (if kno x t v (x (t, v, 4) n) then (x, k, kept) else (s2take x t v (x (t, v, 4) n) b, k + 1, kept)) else (st1 x (t, v, 0) 12 (x (t, v, 0) 12 + 1), k, kept)) else (s1move x t v ((n : Nat) : Int) ((kept : Nat) : Int), k, kept + 1)) :
    DC y.1 t v = (efE b (DC x t v, k) (sdC x t v n)).1 ∧ y.2.1 = (efE b (DC x t v, k) (sdC x t v n)).2 ∧ slC y.1 t v y.2.2 = slC x t v kept ++ [sdC x t v n].filter (kp b) ∧ (∀ j, n + 1 ≤ j → sdC y.1 t v j = sdC x t v j) ∧ y.2.2 ≤ n + 1 := by
  have hK : (DC x t v).2.2.1 (x (t, v, 4) n).toNat = x (t, v, 2) (x (t, v, 4) n).toNat := tr12 hp
  by_cases c1 : x (t, v, 6) n = b
  · rw [if_pos c1] at hy
    rw [kp_f (s := sdC x t v n) c1, List.append_nil]
    by_cases c2 : x (t, v, 7) n = 0
    · rw [if_pos c2] at hy
      by_cases c3 : kno x t v (x (t, v, 4) n)
      · rw [if_pos c3] at hy
        subst hy
        rw [efE_k (e := (DC x t v, k)) (s := sdC x t v n) c1 c2 (by show ¬ (DC x t v).2.2.1 (x (t, v, 4) n).toNat = -1; rw [hK]; exact c3.2.2)]
        exact ⟨rfl, rfl, rfl, fun _ _ => rfl, by show kept ≤ n + 1; omega⟩
      · rw [if_neg c3] at hy
        subst hy
        have c4 : x (t, v, 2) (x (t, v, 4) n).toNat = -1 := Classical.byContradiction fun q => c3 ⟨hp.1, hp.2, q⟩
        have hsd : ∀ j, sdC (s2take x t v (x (t, v, 4) n) b) t v j = sdC x t v j := fun j => by
          unfold sdC
          rw [s2take_off (by simp) (by simp) (by simp), s2take_off (by simp) (by simp) (by simp), s2take_off (by simp) (by simp) (by simp), s2take_off (by simp) (by simp) (by simp)]
        by_cases c5 : x (t, v, 0) 9 < 5
        · rw [efE_q (e := (DC x t v, k)) (s := sdC x t v n) c1 c2 (hK.trans c4) c5]
          refine ⟨?_, rfl, slC_cg _ (fun j _ => hsd j), fun j _ => hsd j, by show kept ≤ n + 1; omega⟩
          show DC (s2take x t v (x (t, v, 4) n) b) t v = _
          unfold s2take
          rw [if_neg (by omega), if_pos c4, if_pos c5]
          unfold DC
          refine Dt_ext (by simp [st1]) (tr_up (by show (x (t, v, 0) 9).toNat < 5; omega) (fun j hj => ?_)) (tr_up (by show (x (t, v, 4) n).toNat < 12; omega) (fun j hj => ?_)) (by simp [st1])
          · simp [st1, sdC]
          · by_cases e : j = (x (t, v, 4) n).toNat <;> simp [st1, sdC, e]
        · rw [efE_f (e := (DC x t v, k)) (s := sdC x t v n) c1 c2 (hK.trans c4) c5]
          refine ⟨?_, rfl, slC_cg _ (fun j _ => hsd j), fun j _ => hsd j, by show kept ≤ n + 1; omega⟩
          show DC (s2take x t v (x (t, v, 4) n) b) t v = _
          unfold s2take
          rw [if_neg (by omega), if_pos c4, if_neg c5]
          unfold DC
          refine Dt_ext (by simp [st1]) (tr_cg (fun j hj => ?_)) (tr_up (by show (x (t, v, 4) n).toNat < 12; omega) (fun j hj => ?_)) (by simp [st1])
          · simp [st1]
          · by_cases e : j = (x (t, v, 4) n).toNat <;> simp [st1, sdC, e]
    · rw [if_neg c2] at hy
      subst hy
      rw [efE_d (e := (DC x t v, k)) (s := sdC x t v n) c1 c2]
      refine ⟨?_, rfl, slC_cg _ (fun j _ => by simp [sdC, st1]), fun j _ => by simp [sdC, st1], by show kept ≤ n + 1; omega⟩
      unfold DC
      refine Dt_ext (by simp [st1]) (tr_cg (fun j hj => by simp [st1])) (tr_cg (fun j hj => by simp [st1])) (by simp [st1])
  · rw [if_neg c1] at hy
    subst hy
    rw [efE_n (e := (DC x t v, k)) (s := sdC x t v n) c1, kp_t (s := sdC x t v n) c1]
    by_cases c2 : kept = n
    · have e : s1move x t v ((n : Nat) : Int) ((kept : Nat) : Int) = x := by
        unfold s1move
        rw [if_pos (by omega)]
      rw [e]
      refine ⟨rfl, rfl, ?_, fun _ _ => rfl, by show kept + 1 ≤ n + 1; omega⟩
      show slC x t v (kept + 1) = _
      rw [c2]
      rfl
    · have e : s1move x t v ((n : Nat) : Int) ((kept : Nat) : Int) = s1mv x t v n kept := by
        unfold s1move
        rw [if_neg (by omega)]
        rfl
      rw [e]
      refine ⟨?_, rfl, ?_, fun j hj => ?_, by show kept + 1 ≤ n + 1; omega⟩
      · unfold DC
        refine Dt_ext (by simp [s1mv, st1]) (tr_cg (fun j hj => by simp [s1mv, st1])) (tr_cg (fun j hj => by simp [s1mv, st1])) (by simp [s1mv, st1])
      · show slC (s1mv x t v n kept) t v kept ++ [sdC (s1mv x t v n kept) t v kept] = _
        rw [slC_cg (w := x) (t := t) kept (fun j hj => by simp [sdC, s1mv, st1, show j ≠ kept by omega]), show sdC (s1mv x t v n kept) t v kept = sdC x t v n by simp [sdC, s1mv, st1]]
      · have h1 : j ≠ kept := by omega
        simp [sdC, s1mv, st1, h1]
theorem s2end_sim {w : Mm} {t v : Nat} {b : Int} (h9 : 0 ≤ w (t, v, 0) 9 ∧ w (t, v, 0) 9 ≤ 5) (hp : ∀ j : Nat, (j : Int) < w (t, v, 3) 4 → 0 ≤ w (t, v, 4) j ∧ w (t, v, 4) j < 12) : ∀ n : Nat, (n : Int) ≤ w (t, v, 3) 4 →
    DC (s2endL w t v b n).1 t v = ((slC w t v n).foldl (efE b) (DC w t v, 0)).1 ∧ (s2endL w t v b n).2.1 = ((slC w t v n).foldl (efE b) (DC w t v, 0)).2 ∧ slC (s2endL w t v b n).1 t v (s2endL w t v b n).2.2 = (slC w t v n).filter (kp b) ∧ (∀ j, n ≤ j → sdC (s2endL w t v b n).1 t v j = sdC w t v j) ∧ (s2endL w t v b n).2.2 ≤ n
  | 0, _ => ⟨rfl, rfl, rfl, fun _ _ => rfl, Nat.le_refl 0⟩
  | n + 1, hn => by
    obtain ⟨i1, i2, i3, i4, i5⟩ := s2end_sim (b := b) h9 hp n (by omega)
    obtain ⟨f1, f2, f3, f4, f5, f6⟩ := s2endL_facts w t v b h9 n
    have hs := i4 n (Nat.le_refl n)
    have h4 : (s2endL w t v b n).1 (t, v, 4) n = w (t, v, 4) n := congrArg Prod.fst hs
    have hE : (slC w t v n).foldl (efE b) (DC w t v, 0) = (DC (s2endL w t v b n).1 t v, (s2endL w t v b n).2.1) := by rw [i1, i2]
    have st := s2end_step (x := (s2endL w t v b n).1) (t := t) (v := v) (n := n) (k := (s2endL w t v b n).2.1) (kept := (s2endL w t v b n).2.2) (b := b) f4 (by rw [h4]; exact hp n (by omega)) (by rw [f1]; omega) i5 (s2endL w t v b (n + 1)) rfl
    obtain ⟨g1, g2, g3, g4, g5⟩ := st
    simp only [slC, List.foldl_append, List.foldl_cons, List.foldl_nil, List.filter_append]
    rw [hE, ← hs]
    refine ⟨g1, g2, ?_, fun j hj => (g4 j hj).trans (i4 j (by omega)), g5⟩
    rw [g3, i3]
