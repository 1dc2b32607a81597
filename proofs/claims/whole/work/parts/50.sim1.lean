/-! the tie: the sounds of a village as a list, on both sides -/
abbrev Sd : Type := Int × Int × Int × Int
def sdC (w : Mm) (t v j : Nat) : Sd := (w (t, v, 4) j, w (t, v, 5) j, w (t, v, 6) j, w (t, v, 7) j)
def slC (w : Mm) (t v : Nat) : Nat → List Sd
  | 0 => []
  | n + 1 => slC w t v n ++ [sdC w t v n]
def sdR (w : Mm) (u j : Nat) : Sd := (w (u, 0, 9) j, w (u, 0, 10) j, w (u, 0, 11) j, w (u, 0, 12) j)
def slR (w : Mm) (u : Nat) (v : Nat) : Nat → List Sd
  | 0 => []
  | n + 1 => if w (u, 0, 8) n = (v : Int) then slR w u v n ++ [sdR w u n] else slR w u v n
theorem slC_map {w w' : Mm} {t v : Nat} {g : Sd → Sd} : ∀ n, (∀ j, j < n → sdC w' t v j = g (sdC w t v j)) → slC w' t v n = (slC w t v n).map g
  | 0, _ => rfl
  | n + 1, h => by
    simp only [slC, List.map_append, List.map_cons, List.map_nil]
    rw [slC_map n (fun j hj => h j (by omega)), h n (by omega)]
theorem slC_cg {w w' : Mm} {t t' v : Nat} : ∀ n, (∀ j, j < n → sdC w' t' v j = sdC w t v j) → slC w' t' v n = slC w t v n
  | 0, _ => rfl
  | n + 1, h => by
    simp only [slC]
    rw [slC_cg n (fun j hj => h j (by omega)), h n (by omega)]
theorem slC_len {w : Mm} {t v : Nat} : ∀ n, (slC w t v n).length = n
  | 0 => rfl
  | n + 1 => by simp [slC, slC_len n]
theorem slC_mem {w : Mm} {t v : Nat} {s : Sd} : ∀ n, s ∈ slC w t v n → ∃ j, j < n ∧ s = sdC w t v j
  | 0, h => by simp [slC] at h
  | n + 1, h => by
    simp only [slC, List.mem_append, List.mem_singleton] at h
    rcases h with h | h
    · obtain ⟨j, h1, h2⟩ := slC_mem n h
      exact ⟨j, by omega, h2⟩
    · exact ⟨n, by omega, h⟩
theorem slR_map {w w' : Mm} {u v : Nat} {g : Sd → Sd} : ∀ n, (∀ j, j < n → w' (u, 0, 8) j = w (u, 0, 8) j) → (∀ j, j < n → w (u, 0, 8) j = (v : Int) → sdR w' u j = g (sdR w u j)) → slR w' u v n = (slR w u v n).map g
  | 0, _, _ => rfl
  | n + 1, h1, h2 => by
    have ih := slR_map (v := v) n (fun j hj => h1 j (by omega)) (fun j hj => h2 j (by omega))
    simp only [slR]
    rw [h1 n (by omega)]
    split
    · rename_i hv
      rw [ih, h2 n (by omega) hv]
      simp
    · exact ih
theorem slR_cg {w w' : Mm} {u u' v : Nat} : ∀ n, (∀ j, j < n → w' (u', 0, 8) j = w (u, 0, 8) j) → (∀ j, j < n → w (u, 0, 8) j = (v : Int) → sdR w' u' j = sdR w u j) → slR w' u' v n = slR w u v n
  | 0, _, _ => rfl
  | n + 1, h1, h2 => by
    have ih := slR_cg (v := v) n (fun j hj => h1 j (by omega)) (fun j hj => h2 j (by omega))
    simp only [slR]
    rw [h1 n (by omega)]
    split
    · rename_i hv
      rw [ih, h2 n (by omega) hv]
    · exact ih
theorem slR_len {w : Mm} {u v : Nat} : ∀ n, (slR w u v n).length ≤ n
  | 0 => Nat.le_refl 0
  | n + 1 => by
    have ih := slR_len (w := w) (u := u) (v := v) n
    simp only [slR]
    split
    · simp; exact ih
    · omega
theorem slR_nil {w : Mm} {u v : Nat} : ∀ n, (∀ j, j < n → ¬ w (u, 0, 8) j = (v : Int)) → slR w u v n = []
  | 0, _ => rfl
  | n + 1, h => by
    simp only [slR]
    rw [if_neg (h n (by omega))]
    exact slR_nil n (fun j hj => h j (by omega))
/-- the lists of all villages together hold every sound -/
theorem slR_sum {w : Mm} {u V : Nat} : ∀ n, (∀ j, j < n → 0 ≤ w (u, 0, 8) j ∧ w (u, 0, 8) j < (V : Int)) → sumI (fun v => ((slR w u v n).length : Int)) V = (n : Int)
  | 0, _ => by
    have : ∀ k, sumI (fun v => ((slR w u v 0).length : Int)) k = 0 := by
      intro k
      induction k with
      | zero => rfl
      | succ k ih => simp only [sumI]; rw [ih]; rfl
    exact this V
  | n + 1, h => by
    have ih := slR_sum (w := w) (u := u) (V := V) n (fun j hj => h j (by omega))
    have hn := h n (by omega)
    have key : ∀ k : Nat, sumI (fun v => ((slR w u v (n + 1)).length : Int)) k = sumI (fun v => ((slR w u v n).length : Int)) k + (if w (u, 0, 8) n < (k : Int) then 1 else 0) := by
      intro k
      induction k with
      | zero => simp only [sumI]; rw [if_neg (by omega)]; rfl
      | succ k ik =>
        simp only [sumI]
        rw [ik]
        by_cases hk : w (u, 0, 8) n = (k : Int)
        · have e : slR w u k (n + 1) = slR w u k n ++ [sdR w u n] := by simp only [slR]; rw [if_pos hk]
          rw [e, if_neg (by omega), if_pos (by omega)]
          simp
          omega
        · have e : slR w u k (n + 1) = slR w u k n := by simp only [slR]; rw [if_neg hk]
          rw [e]
          by_cases h2 : w (u, 0, 8) n < (k : Int)
          · rw [if_pos h2, if_pos (by omega)]
            omega
          · rw [if_neg h2, if_neg (by omega)]
            omega
    rw [key V, ih, if_pos hn.2]
    omega
/-! how many last -/
def cnt (p : Sd → Bool) (l : List Sd) : Nat := (l.filter p).length
theorem cnt_app {p : Sd → Bool} {l : List Sd} {s : Sd} : cnt p (l ++ [s]) = cnt p l + (if p s = true then 1 else 0) := by
  unfold cnt
  rw [List.filter_append, List.length_append]
  by_cases h : p s = true
  · rw [if_pos h]; simp [List.filter, h]
  · rw [if_neg h]; simp [List.filter, h]
theorem cnt_cg {p q : Sd → Bool} {l : List Sd} (h : ∀ s, s ∈ l → p s = q s) : cnt p l = cnt q l := by
  unfold cnt
  rw [List.filter_congr h]
theorem s1last_cnt {w : Mm} {t v : Nat} {b : Int} : ∀ n, s1last w t v b n = cnt (fun s => decide (s.2.1 ≤ b)) (slC w t v n)
  | 0 => rfl
  | n + 1 => by
    have ih := s1last_cnt (w := w) (t := t) (v := v) (b := b) n
    simp only [s1last, slC]
    rw [cnt_app]
    by_cases h : b < w (t, v, 5) n
    · rw [if_pos h, if_neg (fun q => absurd (show w (t, v, 5) n ≤ b from of_decide_eq_true (p := (sdC w t v n).2.1 ≤ b) q) (by omega))]
      exact ih
    · rw [if_neg h, if_pos (decide_eq_true (p := (sdC w t v n).2.1 ≤ b) (show w (t, v, 5) n ≤ b by omega)), ih]
theorem rlast_cnt {w : Mm} {u v : Nat} : ∀ n, rlast w u (v : Int) n = cnt (fun s => decide (s.2.1 ≤ w (u, 0, 0) 0 ∧ w (u, 0, 0) 0 ≤ s.2.2.1)) (slR w u v n)
  | 0 => rfl
  | n + 1 => by
    have ih := rlast_cnt (w := w) (u := u) (v := v) n
    simp only [rlast, slR]
    by_cases hv : w (u, 0, 8) n = (v : Int)
    · rw [if_pos (c := w (u, 0, 8) n = (v : Int)) hv, cnt_app]
      by_cases h : w (u, 0, 10) n ≤ w (u, 0, 0) 0 ∧ w (u, 0, 0) 0 ≤ w (u, 0, 11) n
      · rw [if_pos ⟨hv, h.1, h.2⟩, if_pos (decide_eq_true (p := (sdR w u n).2.1 ≤ w (u, 0, 0) 0 ∧ w (u, 0, 0) 0 ≤ (sdR w u n).2.2.1) h), ih]
      · rw [if_neg (fun q => h q.2), if_neg (fun q => h (of_decide_eq_true (p := (sdR w u n).2.1 ≤ w (u, 0, 0) 0 ∧ w (u, 0, 0) 0 ≤ (sdR w u n).2.2.1) q))]
        exact ih
    · rw [if_neg (fun q => hv q.1), if_neg hv]
      exact ih
/-! drowning -/
def dwn (b : Int) (s : Sd) : Sd := if s.2.1 ≤ b then (s.1, s.2.1, s.2.2.1, 1) else s
theorem s1drown_7 {w : Mm} {t v : Nat} {b : Int} {j : Nat} : ∀ n, s1drown w t v b n (t, v, 7) j = if j < n ∧ w (t, v, 5) j ≤ b then 1 else w (t, v, 7) j
  | 0 => by rw [if_neg (fun q => absurd q.1 (Nat.not_lt_zero j))]; rfl
  | n + 1 => by
    have ih := s1drown_7 (w := w) (t := t) (v := v) (b := b) (j := j) n
    simp only [s1drown]
    by_cases h : b < w (t, v, 5) n
    · rw [if_pos h, ih]
      by_cases hj : j = n
      · subst hj
        rw [if_neg (fun q => absurd q.1 (Nat.lt_irrefl j)), if_neg (fun q => by omega)]
      · by_cases h2 : j < n ∧ w (t, v, 5) j ≤ b
        · rw [if_pos h2, if_pos ⟨by omega, h2.2⟩]
        · rw [if_neg h2, if_neg (fun q => h2 ⟨by omega, q.2⟩)]
    · rw [if_neg h]
      by_cases hj : j = n
      · subst hj
        rw [st1_eq, if_pos ⟨by omega, by omega⟩]
      · rw [st1_j hj, ih]
        by_cases h2 : j < n ∧ w (t, v, 5) j ≤ b
        · rw [if_pos h2, if_pos ⟨by omega, h2.2⟩]
        · rw [if_neg h2, if_neg (fun q => h2 ⟨by omega, q.2⟩)]
theorem s1drown_sl {w : Mm} {t v : Nat} {b : Int} (n : Nat) : slC (s1drown w t v b n) t v n = (slC w t v n).map (dwn b) := by
  refine slC_map n (fun j hj => ?_)
  unfold sdC dwn
  rw [s1drown_off (by simp), s1drown_off (by simp), s1drown_off (by simp), s1drown_7]
  by_cases h : w (t, v, 5) j ≤ b
  · rw [if_pos ⟨hj, h⟩, if_pos h]
  · rw [if_neg (fun q => h q.2), if_neg h]
theorem rmark_12 {w : Mm} {u : Nat} {v : Int} {j : Nat} : ∀ n, rmark w u v n (u, 0, 12) j = if j < n ∧ w (u, 0, 8) j = v ∧ w (u, 0, 10) j ≤ w (u, 0, 0) 0 then 1 else w (u, 0, 12) j
  | 0 => by rw [if_neg (fun q => absurd q.1 (Nat.not_lt_zero j))]; rfl
  | n + 1 => by
    have ih := rmark_12 (w := w) (u := u) (v := v) (j := j) n
    simp only [rmark]
    by_cases h : w (u, 0, 8) n = v ∧ w (u, 0, 10) n ≤ w (u, 0, 0) 0
    · rw [if_pos h]
      by_cases hj : j = n
      · subst hj
        rw [st1_eq, if_pos ⟨by omega, h⟩]
      · rw [st1_j hj, ih]
        by_cases h2 : j < n ∧ w (u, 0, 8) j = v ∧ w (u, 0, 10) j ≤ w (u, 0, 0) 0
        · rw [if_pos h2, if_pos ⟨by omega, h2.2⟩]
        · rw [if_neg h2, if_neg (fun q => h2 ⟨by omega, q.2⟩)]
    · rw [if_neg h, ih]
      by_cases hj : j = n
      · subst hj
        rw [if_neg (fun q => absurd q.1 (Nat.lt_irrefl j)), if_neg (fun q => h q.2)]
      · by_cases h2 : j < n ∧ w (u, 0, 8) j = v ∧ w (u, 0, 10) j ≤ w (u, 0, 0) 0
        · rw [if_pos h2, if_pos ⟨by omega, h2.2⟩]
        · rw [if_neg h2, if_neg (fun q => h2 ⟨by omega, q.2⟩)]
theorem rmark_sl {w : Mm} {u v : Nat} (n : Nat) : slR (rmark w u (v : Int) n) u v n = (slR w u v n).map (dwn (w (u, 0, 0) 0)) := by
  refine slR_map n (fun j _ => rmark_off (by simp) n) (fun j hj hv => ?_)
  unfold sdR dwn
  rw [rmark_off (by simp), rmark_off (by simp), rmark_off (by simp), rmark_12]
  by_cases h : w (u, 0, 10) j ≤ w (u, 0, 0) 0
  · rw [if_pos ⟨hj, hv, h⟩, if_pos h]
  · rw [if_neg (fun q => h q.2.2), if_neg h]
theorem rmark_sl2 {w : Mm} {u v v' : Nat} (hne : v' ≠ v) (n : Nat) : slR (rmark w u (v : Int) n) u v' n = slR w u v' n := by
  refine slR_cg n (fun j _ => rmark_off (by simp) n) (fun j hj hv => ?_)
  unfold sdR
  rw [rmark_off (by simp), rmark_off (by simp), rmark_off (by simp), rmark_12, if_neg (fun q => by have := q.2.1; omega)]
