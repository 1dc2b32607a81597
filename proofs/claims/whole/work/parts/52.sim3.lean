/-! the tie: the end of a beat in the reference -/
theorem efE_2 {b : Int} {D : Dt} {m : Nat} {s : Sd} : efE b (D, m) s = ((efE b (D, 0) s).1, m + (efE b (D, 0) s).2) := by
  unfold efE
  dsimp only
  (repeat' split) <;> first | rfl | simp
theorem sumI_up {f f' : Nat → Int} {v0 : Nat} {d : Int} (h0 : f' v0 = f v0 + d) (h : ∀ v, v ≠ v0 → f' v = f v) : ∀ V : Nat, sumI f' V = sumI f V + (if v0 < V then d else 0)
  | 0 => by rw [if_neg (Nat.not_lt_zero _)]; rfl
  | V + 1 => by
    have ih := sumI_up h0 h V
    simp only [sumI]
    rw [ih]
    by_cases e : V = v0
    · subst e
      rw [h0, if_neg (Nat.lt_irrefl _), if_pos (Nat.lt_succ_self _)]
      omega
    · rw [h V e]
      by_cases e2 : v0 < V
      · rw [if_pos e2, if_pos (by omega)]
        omega
      · rw [if_neg e2, if_neg (by omega)]
        omega
theorem sumI_cg {f f' : Nat → Int} : ∀ V : Nat, (∀ v, v < V → f' v = f v) → sumI f' V = sumI f V
  | 0, _ => rfl
  | V + 1, h => by
    simp only [sumI]
    rw [sumI_cg V (fun v hv => h v (by omega)), h V (by omega)]
theorem up_cg {f f' : Nat → Int} {k : Nat} {z z' : Int} (h1 : f = f') (h2 : z = z') : up f k z = up f' k z' := by
  subst h1; subst h2; rfl
theorem DR_learn {x : Mm} {u v v0 p : Nat} {b : Int} (hp : p < 12) : DR (st1 x (u, 0, 6) (12 * v0 + p) b) u v = if v = v0 then (x (u, 0, 4) v, tr 5 (fun j => x (u, 0, 5) (5 * v + j)), up (tr 12 (fun p => x (u, 0, 6) (12 * v + p))) p b, x (u, 0, 7) v) else DR x u v := by
  by_cases e : v = v0
  · subst e
    rw [if_pos rfl]
    unfold DR
    refine Dt_ext (by simp [st1]) (tr_cg (fun j hj => by simp [st1])) (tr_up hp (fun j hj => ?_)) (by simp [st1])
    by_cases e2 : j = p
    · simp [st1, e2]
    · have : ¬ 12 * v + j = 12 * v + p := by omega
      simp [st1, e2]
  · rw [if_neg e]
    unfold DR
    refine Dt_ext (by simp [st1]) (tr_cg (fun j hj => by simp [st1])) (tr_cg (fun j hj => ?_)) (by simp [st1])
    have : ¬ 12 * v + j = 12 * v0 + p := by omega
    simp [st1, this]
theorem DR_put {x : Mm} {u v v0 q : Nat} {p z : Int} (hq : q < 5) : DR (st1 (st1 x (u, 0, 5) (5 * v0 + q) p) (u, 0, 4) v0 z) u v = if v = v0 then (z, up (tr 5 (fun j => x (u, 0, 5) (5 * v + j))) q p, tr 12 (fun p => x (u, 0, 6) (12 * v + p)), x (u, 0, 7) v) else DR x u v := by
  by_cases e : v = v0
  · subst e
    rw [if_pos rfl]
    unfold DR
    refine Dt_ext (by simp [st1]) (tr_up hq (fun j hj => ?_)) (tr_cg (fun j hj => by simp [st1])) (by simp [st1])
    by_cases e2 : j = q
    · simp [st1, e2]
    · have : ¬ 5 * v + j = 5 * v + q := by omega
      simp [st1, e2]
  · rw [if_neg e]
    unfold DR
    refine Dt_ext (by simp [st1, e]) (tr_cg (fun j hj => ?_)) (tr_cg (fun j hj => by simp [st1])) (by simp [st1])
    have : ¬ 5 * v + j = 5 * v0 + q := by omega
    simp [st1, this]
theorem DR_dr {x : Mm} {u v v0 : Nat} {z : Int} : DR (st1 x (u, 0, 7) v0 z) u v = if v = v0 then (x (u, 0, 4) v, tr 5 (fun j => x (u, 0, 5) (5 * v + j)), tr 12 (fun p => x (u, 0, 6) (12 * v + p)), z) else DR x u v := by
  by_cases e : v = v0
  · subst e
    rw [if_pos rfl]
    unfold DR
    refine Dt_ext (by simp [st1]) (tr_cg (fun j hj => by simp [st1])) (tr_cg (fun j hj => by simp [st1])) (by simp [st1])
  · rw [if_neg e]
    unfold DR
    refine Dt_ext (by simp [st1]) (tr_cg (fun j hj => by simp [st1])) (tr_cg (fun j hj => by simp [st1])) (by simp [st1, e])
theorem DR_cg {x y : Mm} {u u' v : Nat} (h4 : y (u', 0, 4) v = x (u, 0, 4) v) (h5 : ∀ j, j < 5 → y (u', 0, 5) (5 * v + j) = x (u, 0, 5) (5 * v + j)) (h6 : ∀ p, p < 12 → y (u', 0, 6) (12 * v + p) = x (u, 0, 6) (12 * v + p)) (h7 : y (u', 0, 7) v = x (u, 0, 7) v) : DR y u' v = DR x u v := Dt_ext h4 (tr_cg h5) (tr_cg h6) h7
/-- a step of the reference's loop -/
theorem rb3_step {x : Mm} {u n k kept V : Nat} {b : Int} (hb : b = x (u, 0, 0) 0) (hV : V ≤ 8) (hw : 0 ≤ x (u, 0, 8) n ∧ x (u, 0, 8) n < (V : Int)) (hp : 0 ≤ x (u, 0, 9) n ∧ x (u, 0, 9) n < 12) (hq : ∀ v, v < 8 → 0 ≤ x (u, 0, 4) v ∧ x (u, 0, 4) v ≤ 5) (hl : b ≤ x (u, 0, 11) n) (hd : x (u, 0, 12) n = 0 ∨ x (u, 0, 12) n = 1) (hk : kept ≤ n) (hwk : ∀ j, j < kept → 0 ≤ x (u, 0, 8) j ∧ x (u, 0, 8) j < (V : Int)) (y : Mm × Nat × Nat)
    (hy : y = if x (u, 0, 11) n ≤ x (u, 0, 0) 0 then
      (if x (u, 0, 12) n = 1 then (st1 x (u, 0, 7) (x (u, 0, 8) n).toNat (x (u, 0, 7) (x (u, 0, 8) n).toNat + 1), k, kept)
       else
        (if x (u, 0, 6) (12 * x (u, 0, 8) n + x (u, 0, 9) n).toNat = -1 then
          (if x (u, 0, 4) (x (u, 0, 8) n).toNat < 5 then (rput (rlrn x u (x (u, 0, 8) n) (x (u, 0, 9) n)) u (x (u, 0, 8) n) (x (u, 0, 9) n), k + 1, kept)
           else (rlrn x u (x (u, 0, 8) n) (x (u, 0, 9) n), k + 1, kept))
         else (rlrn x u (x (u, 0, 8) n) (x (u, 0, 9) n), k, kept)))
     else (rmv x u n kept, k, kept + 1)) :
    (∀ v, v < 8 → DR y.1 u v = if x (u, 0, 8) n = (v : Int) then (efE b (DR x u v, 0) (sdR x u n)).1 else DR x u v) ∧ y.2.1 = k + (efE b (DR x u (x (u, 0, 8) n).toNat, 0) (sdR x u n)).2 ∧ (∀ v, slR y.1 u v y.2.2 = slR x u v kept ++ (if x (u, 0, 8) n = (v : Int) then [sdR x u n].filter (kp b) else [])) ∧ (∀ j, n + 1 ≤ j → y.1 (u, 0, 8) j = x (u, 0, 8) j ∧ sdR y.1 u j = sdR x u j) ∧ y.2.2 ≤ n + 1 ∧ (∀ j, j < y.2.2 → 0 ≤ y.1 (u, 0, 8) j ∧ y.1 (u, 0, 8) j < (V : Int)) := by
  obtain ⟨v0, hv0⟩ : ∃ v0 : Nat, x (u, 0, 8) n = (v0 : Int) := ⟨(x (u, 0, 8) n).toNat, by omega⟩
  obtain ⟨p, hp0⟩ : ∃ p : Nat, x (u, 0, 9) n = (p : Int) := ⟨(x (u, 0, 9) n).toNat, by omega⟩
  have hp12 : p < 12 := by omega
  have hv8 : v0 < 8 := by omega
  have e1 : (12 * x (u, 0, 8) n + x (u, 0, 9) n).toNat = 12 * v0 + p := by omega
  have e2 : (x (u, 0, 8) n).toNat = v0 := by omega
  have hs1 : (sdR x u n).1.toNat = p := by show (x (u, 0, 9) n).toNat = p; omega
  have hK : ∀ v, (DR x u v).2.2.1 (sdR x u n).1.toNat = x (u, 0, 6) (12 * v + p) := fun v => by
    rw [hs1]
    exact if_pos hp12
  have hif : ∀ (v : Nat) (A B : Dt), (if x (u, 0, 8) n = (v : Int) then A else B) = if v = v0 then A else B := fun v A B => by
    by_cases e : v = v0
    · rw [if_pos e, if_pos (by omega)]
    · rw [if_neg e, if_neg (by omega)]
  have q0 := hq v0 hv8
  simp only [hif]
  rw [e2]
  by_cases c1 : x (u, 0, 11) n = b
  · have c1' : x (u, 0, 11) n ≤ x (u, 0, 0) 0 := by omega
    rw [if_pos c1'] at hy
    have hkp : ∀ v : Nat, (if x (u, 0, 8) n = (v : Int) then [sdR x u n].filter (kp b) else []) = [] := fun v => by
      rw [kp_f (s := sdR x u n) c1]
      split <;> rfl
    by_cases c2 : x (u, 0, 12) n = 1
    · rw [if_pos c2, e2] at hy
      subst hy
      have c2' : ¬ x (u, 0, 12) n = 0 := by omega
      refine ⟨fun v hv => ?_, ?_, fun v => ?_, fun j _ => ⟨by simp [st1], by simp [sdR, st1]⟩, by show kept ≤ n + 1; omega, fun j hj => by simpa [st1] using hwk j hj⟩
      · rw [efE_d (e := (DR x u v, 0)) (s := sdR x u n) c1 c2']
        show DR (st1 x (u, 0, 7) v0 (x (u, 0, 7) v0 + 1)) u v = _
        rw [DR_dr]
        by_cases e : v = v0
        · subst e
          rw [if_pos rfl, if_pos rfl]
          rfl
        · rw [if_neg e, if_neg e]
      · rw [efE_d (e := (DR x u v0, 0)) (s := sdR x u n) c1 c2']
        rfl
      · rw [hkp v, List.append_nil]
        exact slR_cg _ (fun j _ => by simp [st1]) (fun j _ _ => by simp [sdR, st1])
    · rw [if_neg c2, e1, e2] at hy
      have c2' : x (u, 0, 12) n = 0 := by omega
      by_cases c3 : x (u, 0, 6) (12 * v0 + p) = -1
      · rw [if_pos c3] at hy
        have el : rlrn x u (x (u, 0, 8) n) (x (u, 0, 9) n) = st1 x (u, 0, 6) (12 * v0 + p) b := by
          unfold rlrn
          rw [e1, if_pos c3, hb]
        have ed : (DR x u v0).2.2.1 (sdR x u n).1.toNat = -1 := (hK v0).trans c3
        by_cases c4 : x (u, 0, 4) v0 < 5
        · rw [if_pos c4] at hy
          subst hy
          have q5 : (x (u, 0, 4) v0).toNat < 5 := by omega
          have ep : rput (rlrn x u (x (u, 0, 8) n) (x (u, 0, 9) n)) u (x (u, 0, 8) n) (x (u, 0, 9) n) = st1 (st1 (st1 x (u, 0, 6) (12 * v0 + p) b) (u, 0, 5) (5 * v0 + (x (u, 0, 4) v0).toNat) (p : Int)) (u, 0, 4) v0 (x (u, 0, 4) v0 + 1) := by
            rw [el]
            unfold rput
            rw [e2, st1_k (k' := (u, 0, 4)) (by simp), show (5 * x (u, 0, 8) n + x (u, 0, 4) v0).toNat = 5 * v0 + (x (u, 0, 4) v0).toNat by omega, hp0]
          have ee := efE_q (e := (DR x u v0, 0)) (s := sdR x u n) c1 c2' ed c4
          refine ⟨fun v hv => ?_, ?_, fun v => ?_, fun j _ => ⟨?_, ?_⟩, by show kept ≤ n + 1; omega, fun j hj => ?_⟩
          · show DR (rput _ _ _ _) u v = _
            rw [ep, DR_put q5, DR_learn hp12]
            by_cases e : v = v0
            · subst e
              rw [if_pos rfl, if_pos rfl, ee, hs1]
              unfold DR
              refine Dt_ext rfl (up_cg (tr_cg (fun j hj => by simp [st1])) hp0.symm) ?_ (by simp [st1])
              refine tr_up hp12 (fun j hj => ?_)
              by_cases e3 : j = p
              · simp [st1, e3]
              · have : ¬ 12 * v + j = 12 * v + p := by omega
                simp [st1, e3]
            · rw [if_neg e, if_neg e, if_neg e]
          · rw [ee]
          · rw [hkp v, List.append_nil]
            show slR (rput _ _ _ _) u v kept = _
            rw [ep]
            exact slR_cg _ (fun j _ => by simp [st1]) (fun j _ _ => by simp [sdR, st1])
          · show rput _ _ _ _ _ _ = _
            rw [ep]
            simp [st1]
          · show sdR (rput _ _ _ _) u j = _
            rw [ep]
            simp [sdR, st1]
          · show 0 ≤ rput _ _ _ _ _ _ ∧ rput _ _ _ _ _ _ < _
            rw [ep]
            simpa [st1] using hwk j hj
        · rw [if_neg c4] at hy
          subst hy
          have ee := efE_f (e := (DR x u v0, 0)) (s := sdR x u n) c1 c2' ed c4
          refine ⟨fun v hv => ?_, ?_, fun v => ?_, fun j _ => ⟨?_, ?_⟩, by show kept ≤ n + 1; omega, fun j hj => ?_⟩
          · show DR (rlrn _ _ _ _) u v = _
            rw [el, DR_learn hp12]
            by_cases e : v = v0
            · subst e
              rw [if_pos rfl, if_pos rfl, ee, hs1]
              rfl
            · rw [if_neg e, if_neg e]
          · rw [ee]
          · rw [hkp v, List.append_nil]
            show slR (rlrn _ _ _ _) u v kept = _
            rw [el]
            exact slR_cg _ (fun j _ => by simp [st1]) (fun j _ _ => by simp [sdR, st1])
          · show rlrn _ _ _ _ _ _ = _
            rw [el]
            simp [st1]
          · show sdR (rlrn _ _ _ _) u j = _
            rw [el]
            simp [sdR, st1]
          · show 0 ≤ rlrn _ _ _ _ _ _ ∧ rlrn _ _ _ _ _ _ < _
            rw [el]
            simpa [st1] using hwk j hj
      · rw [if_neg c3] at hy
        subst hy
        have el : rlrn x u (x (u, 0, 8) n) (x (u, 0, 9) n) = x := by
          unfold rlrn
          rw [e1, if_neg c3]
        have ee := efE_k (e := (DR x u v0, 0)) (s := sdR x u n) c1 c2' (by show ¬ (DR x u v0).2.2.1 (sdR x u n).1.toNat = -1; rw [hK]; exact c3)
        refine ⟨fun v hv => ?_, ?_, fun v => ?_, fun j _ => ?_, by show kept ≤ n + 1; omega, fun j hj => ?_⟩
        · show DR (rlrn _ _ _ _) u v = _
          rw [el]
          by_cases e : v = v0
          · subst e
            rw [if_pos rfl, ee]
          · rw [if_neg e]
        · rw [ee]
          rfl
        · rw [hkp v, List.append_nil]
          show slR (rlrn _ _ _ _) u v kept = _
          rw [el]
        · show rlrn _ _ _ _ _ _ = _ ∧ sdR (rlrn _ _ _ _) u j = _
          rw [el]
          exact ⟨rfl, rfl⟩
        · show 0 ≤ rlrn _ _ _ _ _ _ ∧ rlrn _ _ _ _ _ _ < _
          rw [el]
          exact hwk j hj
  · rw [if_neg (by omega)] at hy
    subst hy
    have ee : ∀ v, efE b (DR x u v, 0) (sdR x u n) = (DR x u v, 0) := fun v => efE_n (e := (DR x u v, 0)) (s := sdR x u n) c1
    refine ⟨fun v hv => ?_, ?_, fun v => ?_, fun j hj => ?_, by show kept + 1 ≤ n + 1; omega, fun j hj => ?_⟩
    · rw [ee v]
      have : DR (rmv x u n kept) u v = DR x u v := DR_cg (by simp [rmv, st1]) (fun j _ => by simp [rmv, st1]) (fun j _ => by simp [rmv, st1]) (by simp [rmv, st1])
      show DR (rmv x u n kept) u v = _
      rw [this]
      split <;> rfl
    · rw [ee v0]
      rfl
    · show slR (rmv x u n kept) u v (kept + 1) = _
      have h1 : slR (rmv x u n kept) u v kept = slR x u v kept := slR_cg _ (fun j hj => by simp [rmv, st1, show j ≠ kept by omega]) (fun j hj _ => by simp [sdR, rmv, st1, show j ≠ kept by omega])
      have h2 : rmv x u n kept (u, 0, 8) kept = x (u, 0, 8) n := by simp [rmv, st1]
      have h3 : sdR (rmv x u n kept) u kept = sdR x u n := by simp [sdR, rmv, st1]
      simp only [slR]
      rw [h1, h2, h3, kp_t (s := sdR x u n) c1]
      split
      · rfl
      · rw [List.append_nil]
    · have h1 : j ≠ kept := by omega
      exact ⟨by simp [rmv, st1, h1], by simp [sdR, rmv, st1, h1]⟩
    · show 0 ≤ rmv x u n kept (u, 0, 8) j ∧ rmv x u n kept (u, 0, 8) j < _
      by_cases h1 : j = kept
      · subst h1
        simpa [rmv, st1] using hw
      · have := hwk j (by have : j < kept + 1 := hj; omega)
        simpa [rmv, st1, h1] using this
theorem rb3_sim {w : Mm} {u V : Nat} {b N D X : Int} (hS : SI w u N D X) (hb : b = w (u, 0, 0) 0) (hV : V ≤ 8) (hw : ∀ j : Nat, (j : Int) < w (u, 0, 0) 2 → (0 ≤ w (u, 0, 8) j ∧ w (u, 0, 8) j < (V : Int)) ∧ b ≤ w (u, 0, 11) j ∧ (w (u, 0, 12) j = 0 ∨ w (u, 0, 12) j = 1)) : ∀ n : Nat, (n : Int) ≤ w (u, 0, 0) 2 →
    (∀ v, v < 8 → DR (rb3 w u n).1 u v = ((slR w u v n).foldl (efE b) (DR w u v, 0)).1) ∧ (((rb3 w u n).2.1 : Nat) : Int) = sumI (fun v => ((((slR w u v n).foldl (efE b) (DR w u v, 0)).2 : Nat) : Int)) V ∧ (∀ v, slR (rb3 w u n).1 u v (rb3 w u n).2.2 = (slR w u v n).filter (kp b)) ∧ (∀ j, n ≤ j → (rb3 w u n).1 (u, 0, 8) j = w (u, 0, 8) j ∧ sdR (rb3 w u n).1 u j = sdR w u j) ∧ (rb3 w u n).2.2 ≤ n ∧ (∀ j, j < (rb3 w u n).2.2 → 0 ≤ (rb3 w u n).1 (u, 0, 8) j ∧ (rb3 w u n).1 (u, 0, 8) j < (V : Int))
  | 0, _ => by
    refine ⟨fun _ _ => rfl, ?_, fun _ => rfl, fun _ _ => ⟨rfl, rfl⟩, Nat.le_refl 0, fun j hj => absurd hj (Nat.not_lt_zero j)⟩
    have : ∀ k : Nat, sumI (fun v => ((((slR w u v 0).foldl (efE b) (DR w u v, 0)).2 : Nat) : Int)) k = 0 := by
      intro k
      induction k with
      | zero => rfl
      | succ k ih => simp only [sumI]; rw [ih]; rfl
    rw [this]
    rfl
  | n + 1, hn => by
    obtain ⟨i1, i2, i3, i4, i5, i6⟩ := rb3_sim hS hb hV hw n (by omega)
    obtain ⟨fS, fl, f0, fk, fk2⟩ := rb3_facts hS n (by have := hS.2.2.1; omega)
    have hs := i4 n (Nat.le_refl n)
    have h9 : (rb3 w u n).1 (u, 0, 9) n = w (u, 0, 9) n := congrArg Prod.fst hs.2
    have h11 : (rb3 w u n).1 (u, 0, 11) n = w (u, 0, 11) n := congrArg (fun s : Sd => s.2.2.1) hs.2
    have h12 : (rb3 w u n).1 (u, 0, 12) n = w (u, 0, 12) n := congrArg (fun s : Sd => s.2.2.2) hs.2
    have hwn := hw n (by omega)
    have r9 := hS.2.2.2.2.2.2.2.2.2 n (by have := hS.2.2.1; omega)
    obtain ⟨g1, g2, g3, g4, g5, g6⟩ := rb3_step (x := (rb3 w u n).1) (u := u) (n := n) (k := (rb3 w u n).2.1) (kept := (rb3 w u n).2.2) (V := V) (b := b) (by rw [f0]; exact hb) hV (by rw [hs.1]; exact hwn.1) (by rw [h9]; exact ⟨r9.1, by omega⟩) (fun v hv => fS.2.2.2.2.2.1 v hv) (by rw [h11]; exact hwn.2.1) (by rw [h12]; exact hwn.2.2) i5 i6 (rb3 w u (n + 1)) rfl
    rw [hs.1, hs.2] at g1 g2 g3
    have ef : ∀ v, v < 8 → (slR w u v (n + 1)).foldl (efE b) (DR w u v, 0) = if w (u, 0, 8) n = (v : Int) then ((efE b (DR (rb3 w u n).1 u v, 0) (sdR w u n)).1, ((slR w u v n).foldl (efE b) (DR w u v, 0)).2 + (efE b (DR (rb3 w u n).1 u v, 0) (sdR w u n)).2) else (slR w u v n).foldl (efE b) (DR w u v, 0) := fun v hv => by
      simp only [slR]
      by_cases e : w (u, 0, 8) n = (v : Int)
      · rw [if_pos e, if_pos e, List.foldl_append, List.foldl_cons, List.foldl_nil]
        have hE : (slR w u v n).foldl (efE b) (DR w u v, 0) = (DR (rb3 w u n).1 u v, ((slR w u v n).foldl (efE b) (DR w u v, 0)).2) := by rw [i1 v hv]
        rw [hE, efE_2]
      · rw [if_neg e, if_neg e]
    refine ⟨fun v hv => ?_, ?_, fun v => ?_, fun j hj => ?_, g5, g6⟩
    · rw [g1 v hv, ef v hv]
      by_cases e : w (u, 0, 8) n = (v : Int)
      · rw [if_pos e, if_pos e]
      · rw [if_neg e, if_neg e]
        exact i1 v hv
    · rw [g2, Int.natCast_add, i2]
      have hup := sumI_up (f := fun v => ((((slR w u v n).foldl (efE b) (DR w u v, 0)).2 : Nat) : Int)) (f' := fun v => if v < 8 then ((((slR w u v (n + 1)).foldl (efE b) (DR w u v, 0)).2 : Nat) : Int) else ((((slR w u v n).foldl (efE b) (DR w u v, 0)).2 : Nat) : Int)) (v0 := (w (u, 0, 8) n).toNat) (d := (((efE b (DR (rb3 w u n).1 u (w (u, 0, 8) n).toNat, 0) (sdR w u n)).2 : Nat) : Int))
        (by
          rw [if_pos (by omega), ef _ (by omega), if_pos (by omega)]
          simp)
        (fun v hv => by
          by_cases e8 : v < 8
          · rw [if_pos e8, ef v e8, if_neg (by omega)]
          · rw [if_neg e8]) V
      rw [if_pos (by omega)] at hup
      rw [← hup]
      exact sumI_cg V (fun v hv => (if_pos (by omega)))
    · rw [g3 v, i3 v]
      simp only [slR]
      by_cases e : w (u, 0, 8) n = (v : Int)
      · rw [if_pos e, if_pos e, List.filter_append]
      · rw [if_neg e, if_neg e, List.append_nil]
    · obtain ⟨q1, q2⟩ := g4 j hj
      obtain ⟨q3, q4⟩ := i4 j (by omega)
      exact ⟨q1.trans q3, q2.trans q4⟩
