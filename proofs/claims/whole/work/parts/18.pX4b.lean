/-! what always stands of the reference's State -/
def sloc (u : Nat) (w w' : Mm) : Prop := ∀ k j, k.1 ≠ u → w' k j = w k j
theorem sloc.rf {u : Nat} {w : Mm} : sloc u w w := fun _ _ _ => rfl
theorem sloc.tr {u : Nat} {w w' w'' : Mm} (h : sloc u w w') (h2 : sloc u w' w'') : sloc u w w'' := fun k j hk => (h2 k j hk).trans (h k j hk)
theorem sloc.st {u v p : Nat} {w w' : Mm} {j : Nat} {x : Int} (h : sloc u w w') : sloc u w (st1 w' (u, v, p) j x) := fun k j' hk => by
  rw [st1_k (fun e => hk (by rw [e]))]
  exact h k j' hk
theorem sloc.cp {u v p sp dp n : Nat} {k0 : Ky} {w w' : Mm} (h : sloc u w w') : sloc u w (cpy w' k0 (u, v, p) sp dp n) := fun k j' hk => by
  rw [congrFun (cpy_off k (fun e => hk (by rw [e]))) j']
  exact h k j' hk
theorem MI.sl {u : Nat} {w w' : Mm} (h : MI w) (hl : sloc u w w') (hu : 3 ≠ u) : MI w' := by
  obtain ⟨a1, a2, a3, a4, a5, a6⟩ := h
  have e : ∀ p j, w' (3, 0, p) j = w (3, 0, p) j := fun p j => hl _ j hu
  refine ⟨by rw [e]; exact a1, by rw [e]; exact a2, a3.cg (e _), a4.cg (e _), a5.cg (e _), a6.cg (e _)⟩
theorem rsd_sl {w : Mm} {u : Nat} {v p a : Int} : sloc u w (rsd w u v p a) := by
  unfold rsd
  exact sloc.rf.st.st.st.st.st.st
theorem rsd_2 {w : Mm} {u : Nat} {v p a : Int} : rsd w u v p a (u, 0, 0) 2 = w (u, 0, 0) 2 + 1 := by
  unfold rsd
  exact st1_eq _ _ _ _
theorem rsd_0 {w : Mm} {u : Nat} {v p a : Int} {j : Nat} (h : j ≠ 2) : rsd w u v p a (u, 0, 0) j = w (u, 0, 0) j := by
  simp [rsd, st1, h]
theorem SI_sd {w : Mm} {u : Nat} {v p a : Int} {N D X : Int} (h : SI w u N D X) (hv : 0 ≤ v ∧ v ≤ 7) (hp : 0 ≤ p ∧ p ≤ 11) (hs : w (u, 0, 0) 2 < 1024) : SI (rsd w u v p a) u N D X := by
  obtain ⟨a1, a2, a3, a4, a5, a6, a7, a8, a9, a10⟩ := h
  refine ⟨by rw [rsd_0 (by decide)]; exact a1, by rw [rsd_0 (by decide)]; exact a2, by rw [rsd_2]; omega, ?_, ?_, ?_, ?_, ?_, ?_, ?_⟩
  · exact a4.cg (fun j => rsd_off (by simp) (by simp) (by simp) (by simp) (by simp) (by simp))
  · exact a5.cg (fun j => rsd_off (by simp) (by simp) (by simp) (by simp) (by simp) (by simp))
  · exact a6.cg (fun j => rsd_off (by simp) (by simp) (by simp) (by simp) (by simp) (by simp))
  · exact a7.cg (fun j => rsd_off (by simp) (by simp) (by simp) (by simp) (by simp) (by simp))
  · exact a8.cg (fun j => rsd_off (by simp) (by simp) (by simp) (by simp) (by simp) (by simp))
  · unfold rsd
    exact (((((a9.st (fun _ => hv)).so (by simp)).so (by simp)).so (by simp)).so (by simp)).so (by simp)
  · unfold rsd
    exact (((((a10.so (by simp)).st (fun _ => hp)).so (by simp)).so (by simp)).so (by simp)).so (by simp)
theorem rsnd_sl {w : Mm} {u v : Nat} {p : Int} : ∀ n, sloc u w (rsnd w u v p n)
  | 0 => sloc.rf
  | n + 1 => by
    have ih := rsnd_sl (w := w) (u := u) (v := v) (p := p) n
    unfold rsnd
    split
    · split
      · exact (ih.tr rsd_sl).tr rsd_sl
      · exact ih.tr rsd_sl
    · exact ih
theorem SI_snd {w : Mm} {u v : Nat} {p : Int} {N D X : Int} (h : SI w u N D X) (hp : 0 ≤ p ∧ p ≤ 11) (hs : w (u, 0, 0) 2 ≤ 1008) : ∀ n, n ≤ 8 → SI (rsnd w u v p n) u N D X ∧ rsnd w u v p n (u, 0, 0) 2 ≤ w (u, 0, 0) 2 + 2 * n
  | 0, _ => ⟨h, by simp [rsnd]⟩
  | n + 1, hn => by
    obtain ⟨ih, ih2⟩ := SI_snd (v := v) h hp hs n (by omega)
    unfold rsnd
    split
    · split
      · have e1 := rsd_2 (w := rsnd w u v p n) (u := u) (v := (n : Int)) (p := p) (a := rsf (rsnd w u v p n) u v n)
        refine ⟨SI_sd (SI_sd ih ⟨by omega, by omega⟩ hp (by omega)) ⟨by omega, by omega⟩ hp (by rw [e1]; omega), ?_⟩
        rw [rsd_2, rsd_2]
        omega
      · refine ⟨SI_sd ih ⟨by omega, by omega⟩ hp (by omega), ?_⟩
        rw [rsd_2]
        omega
    · exact ⟨ih, by omega⟩
theorem rset_sl {w : Mm} {u v : Nat} : sloc u w (rset w u v) := by
  unfold rset
  exact sloc.rf.st.cp.st.st.st
theorem rset_0 {w : Mm} {u v j : Nat} (h : j ≠ 1) : rset w u v (u, 0, 0) j = w (u, 0, 0) j := by
  simp [rset, st1, cpy, h]
theorem SI_set {w : Mm} {u v : Nat} {N D X : Int} (h : SI w u N D X) (hM : MI w) (hv : v ≤ 7) (hq : ¬ w (u, 0, 4) v = 0) : SI (rset w u v) u N (D + 1) X := by
  obtain ⟨a1, a2, a3, a4, a5, a6, a7, a8, a9, a10⟩ := h
  have q4 := a6 v (by omega)
  have q5 := a7 (5 * v) (by omega)
  have q7 := hM.2.2.2.2.2 (w (u, 0, 5) (5 * v)).toNat (by omega)
  refine ⟨by rw [rset_0 (by decide)]; exact a1, ?_, by rw [rset_0 (by decide)]; exact a3, ?_, ?_, ?_, ?_, ?_, ?_, ?_⟩
  · unfold rset
    rw [st1_eq]
    omega
  · exact a4.cg (fun j => by simp [rset, st1, cpy])
  · unfold rset
    refine rowR.so (rowR.st (rowR.so (rowR.cg (rowR.so a5 (k' := (u, 0, 4)) (j := v) (x := w (u, 0, 4) v - 1) (by simp)) (fun j => congrFun (cpy_off (u, 0, 3) (by simp)) j)) (by simp)) (fun _ => q7)) (by simp)
  · unfold rset
    refine rowR.so (rowR.so (rowR.so (rowR.cg (rowR.st a6 (x := w (u, 0, 4) v - 1) (j := v) (k' := (u, 0, 4)) (fun _ => by omega)) (fun j => congrFun (cpy_off (u, 0, 4) (by simp)) j)) (by simp)) (by simp)) (by simp)
  · unfold rset
    refine rowR.so (rowR.so (rowR.so (rowR.cpy (n0 := 40) (rowR.so a7 (by simp)) (fun _ => rowR.so a7 (by simp)) (by omega)) (by simp)) (by simp)) (by simp)
  · exact a8.cg (fun j => by simp [rset, st1, cpy])
  · exact a9.cg (fun j => by simp [rset, st1, cpy])
  · exact a10.cg (fun j => by simp [rset, st1, cpy])
theorem rbeg_sl {w : Mm} {u v : Nat} : sloc u w (rbeg w u v) := by
  unfold rbeg
  split
  · exact rset_sl.tr (rsnd_sl _)
  · exact sloc.rf
theorem SI_beg {w : Mm} {u v : Nat} {N D X : Int} (h : SI w u N D X) (hM : MI w) (hv : v ≤ 7) (hs : w (u, 0, 0) 2 ≤ 1008) : SI (rbeg w u v) u N (D + 1) X ∧ rbeg w u v (u, 0, 0) 2 ≤ w (u, 0, 0) 2 + 16 := by
  unfold rbeg
  split
  · rename_i q
    have h1 := SI_set h hM hv q.2.2
    have q5 := h.2.2.2.2.2.2.1 (5 * v) (by omega)
    have e2 : rset w u v (u, 0, 0) 2 = w (u, 0, 0) 2 := rset_0 (by decide)
    have hm := hM.1
    obtain ⟨g1, g2⟩ := SI_snd (v := v) h1 q5 (by rw [e2]; exact hs) (w (3, 0, 0) 1).toNat (by omega)
    exact ⟨g1, by omega⟩
  · obtain ⟨a1, a2, a3⟩ := h
    exact ⟨⟨a1, ⟨a2.1, by omega⟩, a3⟩, by omega⟩
theorem rb1_sl {w : Mm} {u : Nat} : ∀ n, sloc u w (rb1 w u n)
  | 0 => sloc.rf
  | n + 1 => (rb1_sl n).tr rbeg_sl
theorem SI_b1 {w : Mm} {u : Nat} {N D X : Int} (hu : 3 ≠ u) (h : SI w u N D X) (hM : MI w) (hs : w (u, 0, 0) 2 ≤ 896) : ∀ n, n ≤ 8 → SI (rb1 w u n) u N (D + n) X ∧ rb1 w u n (u, 0, 0) 2 ≤ w (u, 0, 0) 2 + 16 * n
  | 0, _ => ⟨by simpa [rb1] using h, by simp [rb1]⟩
  | n + 1, hn => by
    obtain ⟨ih, ih2⟩ := SI_b1 hu h hM hs n (by omega)
    obtain ⟨g1, g2⟩ := SI_beg ih (hM.sl (rb1_sl n) hu) (v := n) (by omega) (by omega)
    refine ⟨?_, by show rbeg (rb1 w u n) u n (u, 0, 0) 2 ≤ _; omega⟩
    obtain ⟨a1, a2, a3⟩ := g1
    exact ⟨a1, ⟨a2.1, by show rbeg (rb1 w u n) u n (u, 0, 0) 1 ≤ _; omega⟩, a3⟩
theorem SI.cg {w w' : Mm} {u : Nat} {N D X : Int} (h : SI w u N D X) (hw : ∀ k j, k ≠ (u, 0, 12) → w' k j = w k j) : SI w' u N D X := by
  obtain ⟨a1, a2, a3, a4, a5, a6, a7, a8, a9, a10⟩ := h
  refine ⟨by rw [hw _ _ (by simp)]; exact a1, by rw [hw _ _ (by simp)]; exact a2, by rw [hw _ _ (by simp)]; exact a3, a4.cg (fun j => hw _ _ (by simp)), a5.cg (fun j => hw _ _ (by simp)), a6.cg (fun j => hw _ _ (by simp)), a7.cg (fun j => hw _ _ (by simp)), a8.cg (fun j => hw _ _ (by simp)), a9.cg (fun j => hw _ _ (by simp)), a10.cg (fun j => hw _ _ (by simp))⟩
theorem rb2_off {w : Mm} {u : Nat} {k : Ky} {j : Nat} (hk : k ≠ (u, 0, 12)) : ∀ n, rb2 w u n k j = w k j
  | 0 => rfl
  | n + 1 => by
    have ih := rb2_off (w := w) (j := j) hk n
    unfold rb2
    split
    · exact ih
    · exact (rmark_off hk _).trans ih
/-- the loop over the sounds -/
theorem rb3_facts {w : Mm} {u : Nat} {N D X : Int} (h : SI w u N D X) : ∀ n, n ≤ 1024 → SI (rb3 w u n).1 u N D (X + n) ∧ sloc u w (rb3 w u n).1 ∧ (∀ j, (rb3 w u n).1 (u, 0, 0) j = w (u, 0, 0) j) ∧ (rb3 w u n).2.1 ≤ n ∧ (rb3 w u n).2.2 ≤ n
  | 0, _ => ⟨by simpa [rb3] using h, sloc.rf, fun _ => rfl, Nat.le_refl 0, Nat.le_refl 0⟩
  | n + 1, hn => by
    obtain ⟨ih, i2, i3, i4, i5⟩ := rb3_facts h n (by omega)
    obtain ⟨a1, a2, a3, a4, a5, a6, a7, a8, a9, a10⟩ := ih
    have q8 := a9 n (by omega)
    have q9 := a10 n (by omega)
    have q7 := a8 ((rb3 w u n).1 (u, 0, 8) n).toNat (by omega)
    have q4 := a6 ((rb3 w u n).1 (u, 0, 8) n).toNat (by omega)
    have e4 : ∀ j, rlrn (rb3 w u n).1 u ((rb3 w u n).1 (u, 0, 8) n) ((rb3 w u n).1 (u, 0, 9) n) (u, 0, 4) j = (rb3 w u n).1 (u, 0, 4) j := fun j => rlrn_off (by simp)
    have l1 : sloc u (rb3 w u n).1 (rlrn (rb3 w u n).1 u ((rb3 w u n).1 (u, 0, 8) n) ((rb3 w u n).1 (u, 0, 9) n)) := by
      unfold rlrn
      split
      · exact sloc.rf.st
      · exact sloc.rf
    have s1 : SI (rlrn (rb3 w u n).1 u ((rb3 w u n).1 (u, 0, 8) n) ((rb3 w u n).1 (u, 0, 9) n)) u N D (X + (n + 1 : Nat)) := by
      refine ⟨by rw [rlrn_off (by simp)]; exact a1, by rw [rlrn_off (by simp)]; exact a2, by rw [rlrn_off (by simp)]; exact a3, a4.cg (fun j => rlrn_off (by simp)), a5.cg (fun j => rlrn_off (by simp)), a6.cg (fun j => rlrn_off (by simp)), a7.cg (fun j => rlrn_off (by simp)), (a8.cg (fun j => rlrn_off (by simp))).mono (Int.le_refl _) (by omega), a9.cg (fun j => rlrn_off (by simp)), a10.cg (fun j => rlrn_off (by simp))⟩
    unfold rb3
    split
    · split
      · dsimp only
        refine ⟨⟨by rw [st1_k (by simp)]; exact a1, by rw [st1_k (by simp)]; exact a2, by rw [st1_k (by simp)]; exact a3, a4.so (by simp), a5.so (by simp), a6.so (by simp), a7.so (by simp), (a8.mono (Int.le_refl _) (by omega)).st (fun _ => by omega), a9.so (by simp), a10.so (by simp)⟩, i2.st, fun j => (st1_k (by simp)).trans (i3 j), by omega, by omega⟩
      · split
        · split
          · rename_i q
            obtain ⟨b1, b2, b3, b4, b5, b6, b7, b8, b9, b10⟩ := s1
            dsimp only
            refine ⟨⟨by rw [rput_off (by simp) (by simp)]; exact b1, by rw [rput_off (by simp) (by simp)]; exact b2, by rw [rput_off (by simp) (by simp)]; exact b3, b4.cg (fun j => rput_off (by simp) (by simp)), b5.cg (fun j => rput_off (by simp) (by simp)), ?_, ?_, b8.cg (fun j => rput_off (by simp) (by simp)), b9.cg (fun j => rput_off (by simp) (by simp)), b10.cg (fun j => rput_off (by simp) (by simp))⟩, (i2.tr l1).tr ?_, fun j => (rput_off (by simp) (by simp)).trans ((rlrn_off (by simp)).trans (i3 j)), by show (rb3 w u n).2.1 + 1 ≤ _; omega, by show (rb3 w u n).2.2 ≤ _; omega⟩
            · unfold rput
              exact (b6.so (by simp)).st (fun _ => by rw [e4]; omega)
            · unfold rput
              exact (b7.st (fun _ => q9)).so (by simp)
            · unfold rput
              exact sloc.rf.st.st
          · exact ⟨s1, i2.tr l1, fun j => (rlrn_off (by simp)).trans (i3 j), by show (rb3 w u n).2.1 + 1 ≤ _; omega, by show (rb3 w u n).2.2 ≤ _; omega⟩
        · exact ⟨s1, i2.tr l1, fun j => (rlrn_off (by simp)).trans (i3 j), by show (rb3 w u n).2.1 ≤ _; omega, by show (rb3 w u n).2.2 ≤ _; omega⟩
    · dsimp only
      refine ⟨⟨?_, ?_, ?_, ?_, ?_, ?_, ?_, ?_, ?_, ?_⟩, ?_, ?_, by show (rb3 w u n).2.1 ≤ _; omega, by show (rb3 w u n).2.2 + 1 ≤ _; omega⟩ <;> unfold rmv
      · simpa [st1] using a1
      · simpa [st1] using a2
      · simpa [st1] using a3
      · exact ((((a4.so (by simp)).so (by simp)).so (by simp)).so (by simp)).so (by simp)
      · exact ((((a5.so (by simp)).so (by simp)).so (by simp)).so (by simp)).so (by simp)
      · exact ((((a6.so (by simp)).so (by simp)).so (by simp)).so (by simp)).so (by simp)
      · exact ((((a7.so (by simp)).so (by simp)).so (by simp)).so (by simp)).so (by simp)
      · exact (((((a8.mono (Int.le_refl _) (show X + (n : Int) ≤ X + ((n + 1 : Nat) : Int) by omega)).so (by simp)).so (by simp)).so (by simp)).so (by simp)).so (by simp)
      · exact ((((a9.st (fun _ => q8)).so (by simp)).so (by simp)).so (by simp)).so (by simp)
      · exact ((((a10.so (by simp)).st (fun _ => q9)).so (by simp)).so (by simp)).so (by simp)
      · exact i2.st.st.st.st.st
      · intro j
        simpa [st1] using i3 j
theorem rb4_facts {w : Mm} {u : Nat} {N D X : Int} (h : SI w u N D X) : ∀ n, n ≤ 8 → SI (rb4 w u n) u N D X ∧ sloc u w (rb4 w u n) ∧ ∀ j, rb4 w u n (u, 0, 0) j = w (u, 0, 0) j
  | 0, _ => ⟨h, sloc.rf, fun _ => rfl⟩
  | n + 1, hn => by
    obtain ⟨ih, i2, i3⟩ := rb4_facts h n (by omega)
    obtain ⟨a1, a2, a3, a4, a5, a6, a7, a8, a9, a10⟩ := ih
    have q3 := a5 n (by omega)
    unfold rb4
    split
    · refine ⟨⟨by simpa [st1] using a1, by simpa [st1] using a2, by simpa [st1] using a3, (a4.so (by simp)).so (by simp), (a5.st (fun _ => by omega)).so (by simp), (a6.so (by simp)).so (by simp), (a7.so (by simp)).so (by simp), (a8.so (by simp)).so (by simp), (a9.so (by simp)).so (by simp), (a10.so (by simp)).so (by simp)⟩, i2.st.st, fun j => by simpa [st1] using i3 j⟩
    · refine ⟨⟨by simpa [st1] using a1, by simpa [st1] using a2, by simpa [st1] using a3, a4.so (by simp), a5.st (fun _ => by omega), a6.so (by simp), a7.so (by simp), a8.so (by simp), a9.so (by simp), a10.so (by simp)⟩, i2.st, fun j => by simpa [st1] using i3 j⟩
theorem SI_0 {w : Mm} {u : Nat} {N D X : Int} (h : SI w u N D X) (j : Nat) (x : Int) (N' : Int) (h0 : j = 0 → 0 ≤ x ∧ x ≤ N') (h2 : j = 2 → 0 ≤ x ∧ x ≤ 1024) (hj : j = 0 ∨ j = 2) (hN : N ≤ N') : SI (st1 w (u, 0, 0) j x) u N' D X := by
  obtain ⟨a1, a2, a3, a4, a5, a6, a7, a8, a9, a10⟩ := h
  refine ⟨?_, ?_, ?_, a4.so (by simp), a5.so (by simp), a6.so (by simp), a7.so (by simp), a8.so (by simp), a9.so (by simp), a10.so (by simp)⟩
  · rcases hj with rfl | rfl
    · rw [st1_eq]; exact h0 rfl
    · rw [st1_j (by decide)]; omega
  · rcases hj with rfl | rfl <;> rw [st1_j (by decide)] <;> exact a2
  · rcases hj with rfl | rfl
    · rw [st1_j (by decide)]; exact a3
    · rw [st1_eq]; exact h2 rfl
theorem SI_beat {w : Mm} {u : Nat} {N D X : Int} (hu : 3 ≠ u) (h : SI w u N D X) (hM : MI w) (hs : w (u, 0, 0) 2 ≤ 896) : SI (rv1 w u) u N (D + 8) X ∧ SI (rv2 w u) u N (D + 8) X ∧ SI (rv3 w u).1 u N (D + 8) (X + 1024) ∧ SI (rv3b w u) u N (D + 8) (X + 1024) ∧ SI (rv4 w u) u N (D + 8) (X + 1024) ∧ SI (rbeat w u) u (N + 1) (D + 8) (X + 1024) := by
  have hm := hM.1
  obtain ⟨h1, h1b⟩ := SI_b1 hu h hM hs (w (3, 0, 0) 1).toNat (by omega)
  have g1 : SI (rv1 w u) u N (D + 8) X := by
    obtain ⟨a1, a2, a3⟩ := h1
    exact ⟨a1, ⟨a2.1, by show rb1 w u _ (u, 0, 0) 1 ≤ _; omega⟩, a3⟩
  have g2 : SI (rv2 w u) u N (D + 8) X := g1.cg (fun k j hk => rb2_off hk _)
  have hz := g2.2.2.1
  obtain ⟨h3, -, -, -, h3k⟩ := rb3_facts g2 (rv2 w u (u, 0, 0) 2).toNat (by omega)
  have g3 : SI (rv3 w u).1 u N (D + 8) (X + 1024) := by
    obtain ⟨a1, a2, a3, a4, a5, a6, a7, a8, a9, a10⟩ := h3
    exact ⟨a1, a2, a3, a4, a5, a6, a7, a8.mono (Int.le_refl _) (by omega), a9, a10⟩
  have h3k2 : (rv3 w u).2.2 ≤ 1024 := Nat.le_trans h3k (by omega)
  have g3b : SI (rv3b w u) u N (D + 8) (X + 1024) := SI_0 g3 2 _ N (fun q => absurd q (by decide)) (fun _ => ⟨by omega, by omega⟩) (Or.inr rfl) (Int.le_refl _)
  have g4 : SI (rv4 w u) u N (D + 8) (X + 1024) := (rb4_facts g3b _ (by omega)).1
  have hb := g4.1
  exact ⟨g1, g2, g3, g3b, g4, SI_0 g4 0 _ (N + 1) (fun _ => ⟨by omega, by omega⟩) (fun q => absurd q (by decide)) (Or.inl rfl) (by omega)⟩
