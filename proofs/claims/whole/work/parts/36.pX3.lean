/-! DrumTalk: what its calls answer -/
abbrev lV (w : Mm) (v : Int) : Prop := 0 ≤ v ∧ v < w (0, 8, 0) 1
abbrev lP (w : Mm) (p : Int) : Prop := 0 ≤ p ∧ p < w (0, 8, 0) 4
abbrev eI : Option String := some "java/lang/IndexOutOfBoundsException"
abbrev eA : Option String := some "java/lang/IllegalArgumentException"
abbrev eS : Option String := some "java/lang/IllegalStateException"
theorem iteN {c : Prop} [Decidable c] {E : String} (h : (if c then none else some E) = none) : c := by
  by_cases hc : c
  · exact hc
  · rw [if_neg hc] at h
    cases h
def ctf : Nat → Int → Nat → Nat
  | 0, _, _ => 0
  | f + 1, r, k => if r = 0 then k else if r.tmod 10 = 1 ∨ r.tmod 10 = 2 then ctf f (r / 10) (k + 1) else 0
theorem tm10 {r : Int} (h : r.tmod 10 = 1 ∨ r.tmod 10 = 2) : 0 ≤ r ∧ r.tmod 10 = r % 10 := by
  rcases Int.lt_or_le r 0 with h0 | h0
  · have e : r.tmod 10 = -((-r) % 10) := by
      have h1 : (-(-r)).tmod 10 = -((-r).tmod 10) := Int.neg_tmod (-r) 10
      rw [Int.neg_neg] at h1
      rw [h1, Int.tmod_eq_emod_of_nonneg (by omega)]
    omega
  · exact ⟨h0, Int.tmod_eq_emod_of_nonneg h0⟩
theorem ctf_b : ∀ (f : Nat) (r : Int) (k : Nat), ctf f r k ≤ f + k
  | 0, _, _ => Nat.zero_le _
  | f + 1, r, k => by
    have := ctf_b f (r / 10) (k + 1)
    simp only [ctf]
    (repeat' split) <;> omega
theorem ctf_n {r : Int} {k : Nat} (hk : k < 9) (h0 : ¬ r = 0) (h : r.tmod 10 = 1 ∨ r.tmod 10 = 2) : ctf (9 - k) r k = ctf (9 - (k + 1)) (r / 10) (k + 1) := by
  obtain ⟨f, hf⟩ : ∃ f, 9 - k = f + 1 := ⟨8 - k, by omega⟩
  rw [show 9 - (k + 1) = f from by omega, hf]
  simp only [ctf]
  rw [if_neg h0, if_pos h]
theorem ctf_e {r : Int} {k : Nat} (hk : k < 9) (h0 : r = 0) : ctf (9 - k) r k = k := by
  obtain ⟨f, hf⟩ : ∃ f, 9 - k = f + 1 := ⟨8 - k, by omega⟩
  rw [hf]
  simp only [ctf]
  rw [if_pos h0]
theorem ctf_x {r : Int} {k : Nat} (hk : k < 9) (h0 : ¬ r = 0) (h : ¬ (r.tmod 10 = 1 ∨ r.tmod 10 = 2)) : ctf (9 - k) r k = 0 := by
  obtain ⟨f, hf⟩ : ∃ f, 9 - k = f + 1 := ⟨8 - k, by omega⟩
  rw [hf]
  simp only [ctf]
  rw [if_neg h0, if_neg h]
/-! the way -/
def lwm (w : Mm) (v : Nat) : Nat → Nat
  | 0 => 2 ^ v
  | k + 1 => lwm w v k ||| hout w 0 (lwm w v k) (w (0, 8, 0) 1).toNat (w (0, 8, 0) 1).toNat
theorem lwm_lt {w : Mm} {v : Nat} (hv : v < 8) (hw : w (0, 8, 0) 1 ≤ 8) : ∀ k, lwm w v k < 2 ^ 8
  | 0 => Nat.pow_lt_pow_right (by decide) hv
  | k + 1 => by
    have ih := lwm_lt hv hw k
    exact Nat.or_lt_two_pow ih (hout_lt (by omega) _)
/-! a land alone -/
theorem loc.sl {t v : Nat} {w w' : Mm} (h : loc t v w w') : sloc t w w' := fun k j hk => h k j (fun q => hk q.1)
theorem s0snd_sl {w : Mm} {t v : Nat} {p b : Int} : ∀ n, sloc t w (s0snd w t v p b n)
  | 0 => sloc.rf
  | n + 1 => by
    have ih := s0snd_sl (w := w) (t := t) (v := v) (p := p) (b := b) n
    unfold s0snd
    split
    · split
      · exact ih.tr s1add_loc.sl
      · exact (ih.tr s1add_loc.sl).tr s1add_loc.sl
    · exact ih
theorem s0beg_sl {w : Mm} {t v : Nat} : sloc t w (s0beg w t v) := by
  unfold s0beg
  split
  · exact s2pop_loc.sl
  · refine sloc.tr ?_ (s0snd_sl _)
    unfold s0set
    exact ((s2pop_loc.sl).st.st).st
theorem s0b1_sl {w : Mm} {t : Nat} : ∀ n, sloc t w (s0b1 w t n)
  | 0 => sloc.rf
  | n + 1 => by
    have ih := s0b1_sl (w := w) (t := t) n
    unfold s0b1
    split
    · exact ih.tr s0beg_sl
    · exact ih
theorem s0b2_sl {w : Mm} {t : Nat} : ∀ n, sloc t w (s0b2 w t n)
  | 0 => sloc.rf
  | n + 1 => (s0b2_sl n).tr s2dr_loc.sl
theorem s0b3_sl {w : Mm} {t : Nat} : ∀ n, sloc t w (s0b3 w t n).1
  | 0 => sloc.rf
  | n + 1 => (s0b3_sl n).tr s2end_loc.sl
theorem s0b4_sl {w : Mm} {t : Nat} : ∀ n, sloc t w (s0b4 w t n)
  | 0 => sloc.rf
  | n + 1 => (s0b4_sl n).tr s2edb_loc.sl
theorem s0beat_sl {w : Mm} {t : Nat} : sloc t w (s0beat w t) := by
  unfold s0beat
  exact ((((s0b1_sl _).tr (s0b2_sl _)).tr (s0b3_sl _)).tr (s0b4_sl _)).st
theorem s0go_sl {t : Nat} : ∀ (n : Nat) {w : Mm}, sloc t w (s0go t n w).1
  | 0, w => sloc.rf
  | n + 1, w => by
    unfold s0go
    split
    · exact sloc.rf.st
    · exact s0beat_sl.tr (s0go_sl n)
theorem s0cp_sl {w : Mm} {t t2 : Nat} : sloc t w (s0cp w t t2) := by
  unfold s0cp
  have h : sloc t w (s0cpV w t t2 (w (t2, 8, 0) 1).toNat) := fun k j hk => s0cpV_off hk _
  exact (((((h.st).cp).cp).st).st).st
theorem LI.sl {w w' : Mm} {u t : Nat} {N D : Int} {X : Nat → Int} (h : LI w t N D X) (hl : sloc u w w') (hu : t ≠ u) : LI w' t N D X :=
  h.cg (fun j => hl _ j hu) (fun j => hl _ j hu) (fun v hv => (h.v hv).cg (fun j => hl _ j hu) (hl _ 4 hu))
theorem s2cp_0 {w : Mm} {t v t2 v2 j : Nat} (ht : t ≠ t2) (hj : j ≠ 8 ∧ j < 13 ∧ j ≠ 10 ∧ j ≠ 11) : s2cp w t v t2 v2 (t, v, 0) j = w (t2, v2, 0) j := by
  have ht2 : t2 ≠ t := fun q => ht q.symm
  have e : ∀ (m : Mm) (j : Nat), s1cp m t v t2 v2 (t, v, 0) j = m (t, v, 0) j := fun m j => s1cp_off (by simp) (by simp) (by simp) (by simp) (by simp)
  obtain ⟨h1, h2, h3, h4⟩ := hj
  have e2 : ∀ j, s1cp (cpy (st1 (cpy (st1 (st1 (st1 (st1 (st1 (st1 (st1 (st1 w (t, v, 0) 0 (w (t2, v2, 0) 0)) (t, v, 0) 1 (w (t2, v2, 0) 1)) (t, v, 0) 2 (w (t2, v2, 0) 2)) (t, v, 0) 3 (w (t2, v2, 0) 3)) (t, v, 0) 4 (w (t2, v2, 0) 4)) (t, v, 0) 5 (w (t2, v2, 0) 5)) (t, v, 0) 6 (w (t2, v2, 0) 6)) (t, v, 0) 7 (w (t2, v2, 0) 7)) (t2, v2, 1) (t, v, 1) 0 0 5) (t, v, 0) 9 (w (t2, v2, 0) 9)) (t2, v2, 2) (t, v, 2) 0 0 12) t v t2 v2 (t, v, 0) j = _ := fun j => e _ j
  unfold s2cp
  rcases (show j = 0 ∨ j = 1 ∨ j = 2 ∨ j = 3 ∨ j = 4 ∨ j = 5 ∨ j = 6 ∨ j = 7 ∨ j = 9 ∨ j = 12 by omega) with rfl | rfl | rfl | rfl | rfl | rfl | rfl | rfl | rfl | rfl
  all_goals first | (rw [st1_eq]; done) | (rw [st1_j (by decide), e2]; simp [st1, cpy])
theorem s2cp_3 {w : Mm} {t v t2 v2 : Nat} : s2cp w t v t2 v2 (t, v, 3) 4 = w (t2, v2, 3) 4 ∨ t = t2 := by
  by_cases ht : t = t2
  · exact Or.inr ht
  · refine Or.inl ?_
    have ht2 : t2 ≠ t := fun q => ht q.symm
    unfold s2cp
    rw [st1_k (by simp)]
    unfold s1cp
    rw [st1_eq]
    simp [st1, cpy, ht2]
theorem LI_cpV {w : Mm} {t t2 : Nat} {N D N' D' : Int} {X X' : Nat → Int} (ht : t ≠ t2) (h2 : LI w t2 N D X) (h1 : LI w t N' D' X') : ∀ n, n ≤ 8 → LI (s0cpV w t t2 n) t N' D' (fun u => max (X u) (X' u))
  | 0, _ => h1.mono (Int.le_refl _) (Int.le_refl _) (fun u _ => by show X' u ≤ max (X u) (X' u); omega)
  | n + 1, hn => by
    have ih := LI_cpV ht h2 h1 n (by omega)
    refine ih.loc (v := n) (by omega) s2cp_loc (fun _ _ => rfl) ?_
    have ht2 : t2 ≠ t := fun q => ht q.symm
    have e0 : ∀ j, s0cpV w t t2 n (t2, n, 0) j = w (t2, n, 0) j := fun j => s0cpV_off ht2 n
    have e3 : s0cpV w t t2 n (t2, n, 3) 4 = w (t2, n, 3) 4 := s0cpV_off ht2 n
    have e : ∀ j, (j ≠ 8 ∧ j < 13 ∧ j ≠ 10 ∧ j ≠ 11) → s0cpV w t t2 (n + 1) (t, n, 0) j = w (t2, n, 0) j := fun j hj => (s2cp_0 ht hj).trans (e0 j)
    have e4 : s0cpV w t t2 (n + 1) (t, n, 3) 4 = w (t2, n, 3) 4 := ((s2cp_3 (w := s0cpV w t t2 n) (t := t) (v := n) (t2 := t2) (v2 := n)).resolve_right ht).trans e3
    obtain ⟨b1, b2, b3, b4, b5, b6, b7, b8, b9, b10⟩ := h2.v (v := n) (by omega)
    show vOK (s0cpV w t t2 (n + 1)) t n _
    unfold vOK
    rw [e 0 (by decide), e 1 (by decide), e 2 (by decide), e 3 (by decide), e 4 (by decide), e 5 (by decide), e 6 (by decide), e 7 (by decide), e 9 (by decide), e 12 (by decide), e4]
    exact ⟨b1, b2, b3, b4, b5, b6, b7, b8, ⟨b9.1, by show _ ≤ max (X n) (X' n); omega⟩, b10⟩
theorem LI_cp {w : Mm} {t t2 : Nat} {N D N' D' : Int} {X X' : Nat → Int} (ht : t ≠ t2) (h2 : LI w t2 N D X) (h1 : LI w t N' D' X') : LI (s0cp w t t2) t N D (fun u => max (X u) (X' u)) := by
  have hv := h2.1
  have h := LI_cpV ht h2 h1 (w (t2, 8, 0) 1).toNat (by omega)
  have ht2 : t2 ≠ t := fun q => ht q.symm
  obtain ⟨a1, a2, a3, a4, a5, -⟩ := h2
  have e8 : ∀ p j, s0cpV w t t2 (w (t2, 8, 0) 1).toNat (t2, 8, p) j = w (t2, 8, p) j := fun p j => s0cpV_off ht2 _
  have e0 : ∀ j, (j = 1 ∨ j = 4 ∨ j = 5 ∨ j = 6) → s0cp w t t2 (t, 8, 0) j = w (t2, 8, 0) j := by
    intro j hj
    rcases hj with rfl | rfl | rfl | rfl <;> simp [s0cp, st1, cpy]
  have e2 : ∀ j, j < 12 → s0cp w t t2 (t, 8, 2) j = w (t2, 8, 2) j := by
    intro j hj
    simp [s0cp, st1, cpy, hj, ht2, e8]
  refine ⟨by rw [e0 1 (by decide)]; exact a1, by rw [e0 4 (by decide)]; exact a2, by rw [e0 5 (by decide)]; exact a3, by rw [e0 6 (by decide)]; exact a4, fun j hj => ?_, fun v hv9 => ?_⟩
  · rw [e0 4 (by decide)] at hj
    rw [e2 j (by omega)]
    exact a5 j hj
  · refine (h.v hv9).cg (fun j => ?_) ?_
    · unfold s0cp
      rw [st1_k (by simp; omega), st1_k (by simp; omega), st1_k (by simp; omega), congrFun (cpy_off _ (by simp)) j, congrFun (cpy_off _ (by simp)) j, st1_k (by simp; omega)]
    · unfold s0cp
      rw [st1_k (by simp), st1_k (by simp), st1_k (by simp), congrFun (cpy_off _ (by simp)) 4, congrFun (cpy_off _ (by simp)) 4, st1_k (by simp)]
theorem LI_take {w : Mm} {t v : Nat} {p b : Int} {N D : Int} {X : Nat → Int} (h : LI w t N D X) (hv : v ≤ 7) : LI (s2take w t v p b) t N D X := by
  refine h.loc hv s2take_loc (fun _ _ => rfl) ?_
  obtain ⟨b1, b2, b3, b4, b5, b6, b7, b8, b9, b10⟩ := h.v hv
  have e : ∀ j, j ≠ 9 → s2take w t v p b (t, v, 0) j = w (t, v, 0) j := fun j hj => s2take_off (by simp [hj]) (by simp) (by simp)
  unfold vOK
  rw [e 0 (by decide), e 1 (by decide), e 2 (by decide), e 3 (by decide), e 4 (by decide), e 5 (by decide), e 6 (by decide), e 7 (by decide), e 12 (by decide), s2take_off (k := (t, v, 3)) (by simp) (by simp) (by simp)]
  exact ⟨b1, b2, b3, b4, b5, b6, b7, s2take_9 b8, b9, b10⟩
/-! looking ahead -/
def lgo (W : Mm) : Nat → Mm
  | 0 => W
  | k + 1 => (s0go 1 1 (lgo W k)).1
def lst (W : Mm) (v : Nat) (p : Int) : Nat → Nat → Nat
  | 0, k => k
  | f + 1, k => if kno (lgo W k) 1 v p then k else lst W v p f (k + 1)
theorem lst_n {W : Mm} {v : Nat} {p : Int} {k : Nat} (hk : k < 201) (h : ¬ kno (lgo W k) 1 v p) : lst W v p (201 - k) k = lst W v p (201 - (k + 1)) (k + 1) := by
  obtain ⟨f, hf⟩ : ∃ f, 201 - k = f + 1 := ⟨200 - k, by omega⟩
  rw [show 201 - (k + 1) = f from by omega, hf]
  simp only [lst]
  rw [if_neg h]
theorem lst_e {W : Mm} {v : Nat} {p : Int} {k : Nat} (hk : k < 201) (h : kno (lgo W k) 1 v p) : lst W v p (201 - k) k = k := by
  obtain ⟨f, hf⟩ : ∃ f, 201 - k = f + 1 := ⟨200 - k, by omega⟩
  rw [hf]
  simp only [lst]
  rw [if_pos h]
theorem lst_0 {W : Mm} {v : Nat} {p : Int} {k : Nat} (hk : k = 201) : lst W v p (201 - k) k = k := by
  subst hk
  rfl
def lta (m : Mm) (v : Nat) (p : Int) : Mm := if m (1, v, 0) 9 < 5 then s2take m 1 v p (m (1, 8, 0) 5) else m
def lki (w : Mm) (v : Nat) (p : Int) (i : Nat) : Mm := (s0go 1 (80 - i) (lta (s0go 1 i (s0cp w 1 0)).1 v p)).1
def lbs (W : Mm) (m0 : Int) (v : Nat) (p : Int) : Nat → Mm × Int × Int
  | 0 => (W, -1, m0)
  | i + 1 => (lki (lbs W m0 v p i).1 v p i, if (lbs W m0 v p i).2.2 < s0kno (lki (lbs W m0 v p i).1 v p i) 1 p then (i : Int) else (lbs W m0 v p i).2.1, if (lbs W m0 v p i).2.2 < s0kno (lki (lbs W m0 v p i).1 v p i) 1 p then s0kno (lki (lbs W m0 v p i).1 v p i) 1 p else (lbs W m0 v p i).2.2)
def lpl (w : Mm) (v n : Nat) : Mm := (s0go 1 n (st1 (s0cp w 1 0) (1, v, 0) 2 (s0cp w 1 0 (1, v, 0) 2 + 1))).1
def llg (W : Mm) (m0 : Int) (n : Nat) : Nat → Mm × Int × Int
  | 0 => (W, -1, m0)
  | i + 1 =>
    if (llg W m0 n i).1 (0, i, 0) 2 < 9 then
      (lpl (llg W m0 n i).1 i n, if (llg W m0 n i).2.2 < s0prs (lpl (llg W m0 n i).1 i n) 1 then (i : Int) else (llg W m0 n i).2.1, if (llg W m0 n i).2.2 < s0prs (lpl (llg W m0 n i).1 i n) 1 then s0prs (lpl (llg W m0 n i).1 i n) 1 else (llg W m0 n i).2.2)
    else llg W m0 n i
theorem lta_sl {m : Mm} {v : Nat} {p : Int} : sloc 1 m (lta m v p) := by
  unfold lta
  split
  · exact s2take_loc.sl
  · exact sloc.rf
theorem LI_lta {m : Mm} {v : Nat} {p : Int} {N D : Int} {X : Nat → Int} (h : LI m 1 N D X) (hv : v ≤ 7) : LI (lta m v p) 1 N D X := by
  unfold lta
  split
  · exact LI_take h hv
  · exact h
theorem lki_sl {w : Mm} {v i : Nat} {p : Int} : sloc 1 w (lki w v p i) := by
  unfold lki
  exact ((s0cp_sl.tr (s0go_sl _)).tr lta_sl).tr (s0go_sl _)
theorem LI_lki {w : Mm} {v i : Nat} {p : Int} {N D N' D' : Int} {X X' : Nat → Int} (h0 : LI w 0 N D X) (h1 : LI w 1 N' D' X') (hv : v ≤ 7) (hi : i ≤ 80) : LI (lki w v p i) 1 (N + 80) (D + 640) (fun u => max (X u) (X' u) + 8960) := by
  have h := LI_go (80 - i) (LI_lta (p := p) (LI_go i (LI_cp (by decide) h0 h1)) hv)
  exact h.mono (by omega) (by omega) (fun u _ => by show max (X u) (X' u) + 112 * (i : Int) + 112 * ((80 - i : Nat) : Int) ≤ max (X u) (X' u) + 8960; omega)
theorem lpl_sl {w : Mm} {v n : Nat} : sloc 1 w (lpl w v n) := by
  unfold lpl
  exact (s0cp_sl.st).tr (s0go_sl _)
theorem LI_d {w : Mm} {t v : Nat} {x : Int} {N D : Int} {X : Nat → Int} (h : LI w t N D X) (hv : v ≤ 7) (hx : 0 ≤ x ∧ x ≤ 9) : LI (st1 w (t, v, 0) 2 x) t N D X := by
  refine h.loc hv loc.rf.st (fun _ _ => rfl) ?_
  obtain ⟨b1, b2, b3, b4, b5, b6, b7, b8, b9, b10⟩ := h.v hv
  unfold vOK
  simp [st1]
  exact ⟨b1, hx, b3, b4, b5, b6, b7, b8, b9, b10⟩
theorem s0cp_d {w : Mm} {v : Nat} (hw : w (0, 8, 0) 1 ≤ 8) (hv : (v : Int) < w (0, 8, 0) 1) : s0cp w 1 0 (1, v, 0) 2 = w (0, v, 0) 2 := by
  have key : ∀ n, n ≤ 8 → v < n → s0cpV w 1 0 n (1, v, 0) 2 = w (0, v, 0) 2 := by
    intro n
    induction n with
    | zero => intro _ h; omega
    | succ n ih =>
      intro hn h
      by_cases e : v = n
      · subst e
        exact (s2cp_0 (by decide) (by decide)).trans (s0cpV_off (show (0 : Nat) ≠ 1 by decide) _)
      · exact (s2cp_loc _ 2 (fun q => e q.2)).trans (ih (by omega) (by omega))
  have h := key (w (0, 8, 0) 1).toNat (by omega) (by omega)
  unfold s0cp
  rw [st1_k (by simp; omega), st1_k (by simp; omega), st1_k (by simp; omega), congrFun (cpy_off _ (by simp)) 2, congrFun (cpy_off _ (by simp)) 2, st1_k (by simp; omega)]
  exact h
theorem LI_lpl {w : Mm} {v n : Nat} {N D N' D' : Int} {X X' : Nat → Int} (h0 : LI w 0 N D X) (h1 : LI w 1 N' D' X') (hv : (v : Int) < w (0, 8, 0) 1) (hd : w (0, v, 0) 2 < 9) (hn : n ≤ 100) : LI (st1 (s0cp w 1 0) (1, v, 0) 2 (s0cp w 1 0 (1, v, 0) 2 + 1)) 1 N D (fun u => max (X u) (X' u)) ∧ LI (lpl w v n) 1 (N + n) (D + 8 * n) (fun u => max (X u) (X' u) + 11200) := by
  have hw := h0.1
  have hd2 := (h0.v (v := v) (by omega)).2.1
  have h : LI (st1 (s0cp w 1 0) (1, v, 0) 2 (s0cp w 1 0 (1, v, 0) 2 + 1)) 1 N D (fun u => max (X u) (X' u)) := LI_d (LI_cp (by decide) h0 h1) (by omega) (by rw [s0cp_d hw.2 hv]; omega)
  refine ⟨h, (LI_go n h).mono (Int.le_refl _) (Int.le_refl _) (fun u _ => ?_)⟩
  show max (X u) (X' u) + 112 * (n : Int) ≤ max (X u) (X' u) + 11200
  omega
theorem lbs_inv {W : Mm} {m0 : Int} {v : Nat} {p : Int} {N D B : Int} {X : Nat → Int} (h0 : LI W 0 N D X) (h1 : LI W 1 (N + 80) (D + 640) (fun _ => B)) (hX : ∀ u, u ≤ 7 → X u ≤ B) (hv : v ≤ 7) : ∀ i, i ≤ 24 → sloc 1 W (lbs W m0 v p i).1 ∧ LI (lbs W m0 v p i).1 1 (N + 80) (D + 640) (fun _ => B + 8960 * (i : Int))
  | 0, _ => ⟨sloc.rf, h1.mono (Int.le_refl _) (Int.le_refl _) (fun _ _ => by simp)⟩
  | i + 1, hi => by
    obtain ⟨i1, i2⟩ := lbs_inv (m0 := m0) (p := p) h0 h1 hX hv i (by omega)
    refine ⟨i1.tr lki_sl, (LI_lki (h0.sl i1 (by decide)) i2 hv (by omega)).mono (Int.le_refl _) (Int.le_refl _) (fun u hu => ?_)⟩
    have := hX u hu
    show max (X u) (B + 8960 * (i : Int)) + 8960 ≤ B + 8960 * ((i + 1 : Nat) : Int)
    omega
theorem llg_inv {W : Mm} {m0 : Int} {n : Nat} {N D B : Int} {X : Nat → Int} (h0 : LI W 0 N D X) (h1 : LI W 1 (N + n) (D + 8 * n) (fun _ => B)) (hX : ∀ u, u ≤ 7 → X u ≤ B) (hn : n ≤ 100) : ∀ i : Nat, (i : Int) ≤ W (0, 8, 0) 1 → sloc 1 W (llg W m0 n i).1 ∧ LI (llg W m0 n i).1 1 (N + n) (D + 8 * n) (fun _ => B + 11200 * (i : Int))
  | 0, _ => ⟨sloc.rf, h1.mono (Int.le_refl _) (Int.le_refl _) (fun _ _ => by simp)⟩
  | i + 1, hi => by
    obtain ⟨i1, i2⟩ := llg_inv (m0 := m0) h0 h1 hX hn i (by omega)
    unfold llg
    split
    · rename_i hd
      refine ⟨i1.tr lpl_sl, (LI_lpl (h0.sl i1 (by decide)) i2 (by rw [i1 _ _ (by decide)]; omega) hd hn).2.mono (Int.le_refl _) (Int.le_refl _) (fun u hu => ?_)⟩
      have := hX u hu
      show max (X u) (B + 11200 * (i : Int)) + 11200 ≤ B + 11200 * ((i + 1 : Nat) : Int)
      omega
    · exact ⟨i1, i2.mono (Int.le_refl _) (Int.le_refl _) (fun u hu => by show B + 11200 * (i : Int) ≤ B + 11200 * ((i + 1 : Nat) : Int); omega)⟩
theorem sumI_k {f : Nat → Int} {b : Int} (h : ∀ i, 0 ≤ f i ∧ f i ≤ b) : ∀ n : Nat, 0 ≤ sumI f n ∧ sumI f n ≤ n * b
  | 0 => ⟨Int.le_refl 0, by simp [sumI]⟩
  | n + 1 => by
    have h1 := sumI_k h n
    have h2 := h n
    have e : ((n + 1 : Nat) : Int) * b = n * b + b := by rw [Int.natCast_add, Int.add_mul]; simp
    simp only [sumI]
    omega
theorem s0kno_b {w : Mm} {t : Nat} {p : Int} (h : 0 ≤ w (t, 8, 0) 1 ∧ w (t, 8, 0) 1 ≤ 8) : 0 ≤ s0kno w t p ∧ s0kno w t p ≤ 8 := by
  have := sumI_k (f := fun i => bI (kno w t i p)) (b := 1) (fun i => by rcases bI_01 (kno w t i p) with q | q <;> simp only [q] <;> decide) (w (t, 8, 0) 1).toNat
  unfold s0kno
  omega
theorem s0prs_b {w : Mm} {t : Nat} (h : 0 ≤ w (t, 8, 0) 1 ∧ w (t, 8, 0) 1 ≤ 8) : 0 ≤ s0prs w t ∧ s0prs w t ≤ 96 := by
  have := sumI_k (f := fun i => ((s2kn w t i 12 : Nat) : Int)) (b := 12) (fun i => by have := s2kn_le w t i 12; omega) (w (t, 8, 0) 1).toNat
  unfold s0prs
  omega
theorem rprs_96 {w : Mm} {u : Nat} (h1 : 0 ≤ w (3, 0, 0) 1 ∧ w (3, 0, 0) 1 ≤ 8) (h2 : 0 ≤ w (3, 0, 0) 2 ∧ w (3, 0, 0) 2 ≤ 12) : 0 ≤ rprs w u ∧ rprs w u ≤ 96 := by
  have hk : ∀ p : Nat, 0 ≤ rkn w u (p : Int) (w (3, 0, 0) 1).toNat ∧ rkn w u (p : Int) (w (3, 0, 0) 1).toNat ≤ 8 := by
    intro p
    have := sumI_k (f := fun v : Nat => bI (¬ w (u, 0, 6) (12 * (v : Int) + (p : Int)).toNat = -1)) (b := 1) (fun i => by rcases bI_01 (¬ w (u, 0, 6) (12 * (i : Int) + (p : Int)).toNat = -1) with q | q <;> simp only [q] <;> decide) (w (3, 0, 0) 1).toNat
    unfold rkn
    omega
  have := sumI_k (f := fun p : Nat => rkn w u (p : Int) (w (3, 0, 0) 1).toNat) (b := 8) hk (w (3, 0, 0) 2).toNat
  unfold rprs
  omega
theorem s0drm_b {w : Mm} {t : Nat} (h : 0 ≤ w (t, 8, 0) 1 ∧ w (t, 8, 0) 1 ≤ 8) : 0 ≤ s0drm w t ∧ s0drm w t ≤ 8 := by
  have := sumI_k (f := fun i => bI (¬ w (t, i, 0) 6 = -1)) (b := 1) (fun i => by rcases bI_01 (¬ w (t, i, 0) 6 = -1) with q | q <;> simp only [q] <;> decide) (w (t, 8, 0) 1).toNat
  unfold s0drm
  omega
/-! digests -/
def dgV (w : Mm) (v : Nat) (d : Int64) : Int64 := dg (dg (dg (dg d (fun a => s2fig w 0 v (w (0, 8, 0) 5) a) 10) (fun _ => ((s1last w 0 v (w (0, 8, 0) 5) (w (0, v, 3) 4).toNat : Nat) : Int)) 1) (fun k => w (0, v, 1) k) (w (0, v, 0) 9).toNat) (fun p => w (0, v, 2) p) (w (0, 8, 0) 4).toNat
def dgL (w : Mm) (d : Int64) : Nat → Int64
  | 0 => d
  | v + 1 => dgV w v (dgL w d v)
def dgX (w : Mm) : Int64 := dgL w (dg (dg 769 (fun a => s0fig w 0 a) 8) (fun p => w (0, 8, 1) p) (w (0, 8, 0) 4).toNat) (w (0, 8, 0) 1).toNat
def dpk (b a : Int) : UInt64 := if b = 0 then FP.dconst0 else FP.ddiv (FP.i2d (Int32.ofInt a)) (FP.i2d (Int32.ofInt b))
theorem mul_b {a b : Int} (ha : 0 ≤ a ∧ a ≤ 8) (hb : 0 ≤ b ∧ b ≤ 12) : 0 ≤ a * b ∧ a * b ≤ 96 := by
  have h1 := Int.mul_nonneg ha.1 hb.1
  have h2 : a * b ≤ 8 * b := Int.mul_le_mul_of_nonneg_right ha.2 hb.1
  omega
theorem s2fig_R {w : Mm} {t v i : Nat} {b : Int} (hr : rng w) : inR (s2fig w t v b i) := by
  have h := s2kn_le w t v 12
  unfold s2fig
  split <;> first | exact hr _ _ | exact bI_inR _ | exact ⟨by omega, by omega⟩
theorem sumI_kn {f : Nat → Int} {b : Int} : ∀ n : Nat, (∀ i, i < n → 0 ≤ f i ∧ f i ≤ b) → 0 ≤ sumI f n ∧ sumI f n ≤ n * b
  | 0, _ => ⟨Int.le_refl 0, by simp [sumI]⟩
  | n + 1, h => by
    have h1 := sumI_kn n (fun i hi => h i (by omega))
    have h2 := h n (by omega)
    have e : ((n + 1 : Nat) : Int) * b = n * b + b := by rw [Int.natCast_add, Int.add_mul]; simp
    simp only [sumI]
    omega
theorem s0fig_R {w : Mm} {t i : Nat} {N D : Int} {X : Nat → Int} (hL : LI w t N D X) (h1 : N ≤ 1000000) (h2 : D ≤ 1000000000) (h3 : ∀ u, u ≤ 7 → X u ≤ 100000000) : inR (s0fig w t i) := by
  have hv := hL.1
  have hp := hL.2.1
  have hb := hL.2.2.1
  have hd := hL.2.2.2.1
  have a3 := s0drm_b (t := t) hv
  have a7 := s0prs_b (t := t) hv
  have a4 := sumI_kn (f := fun i => w (t, i, 3) 4) (b := 112) (w (t, 8, 0) 1).toNat (fun i hi => (hL.v (v := i) (by omega)).2.2.2.2.2.2.2.2.2)
  have a6 := sumI_kn (f := fun i => w (t, i, 0) 12) (b := 100000000) (w (t, 8, 0) 1).toNat (fun i hi => by have q := (hL.v (v := i) (by omega)).2.2.2.2.2.2.2.2.1; have q2 := h3 i (by omega); exact ⟨q.1, by omega⟩)
  unfold s0fig
  split
  · exact ⟨by omega, by omega⟩
  · exact ⟨by omega, by omega⟩
  · exact ⟨by omega, by omega⟩
  · exact ⟨by omega, by omega⟩
  · unfold s0air; exact ⟨by omega, by omega⟩
  · exact ⟨by omega, by omega⟩
  · unfold s0dwn; exact ⟨by omega, by omega⟩
  · exact ⟨by omega, by omega⟩
