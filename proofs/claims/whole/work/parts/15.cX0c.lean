set_option maxRecDepth 100000 in
set_option maxHeartbeats 8000000 in
theorem c_X0_beginDrumming {l : Launch} {G : Gt} (hG : Gok G) {t : Nat} {v : Nat} (ht : t ≤ 1) (hv : v ≤ 7) {w : Mm} {N D : Int} {X : Nat → Int} (hL : LI w t N D X) (hN : N ≤ 1000000 ∧ D ≤ 1000000000 ∧ ∀ u, u ≤ 7 → X u ≤ 1000000000) (hv8 : ((v : Nat) : Int) < w (t, 8, 0) 1) : Con l G yX0_beginDrumming wsX0_beginDrumming ({ frames := 2, cells := 0, slots := 0, locals := 47 } : Room) w [.ref (adr G (t, 8, 0)), vI ((v : Nat) : Int)] none (s0beg w t v) 0 0 := by
  refine Con.head (cc := cX0_beginDrumming) (nL := 9) (ret := none) hG (by decide +kernel) rfl (Nat.le_of_ble_eq_true rfl) ?_
  intro B A hBl C hr
  have hr0 := hr
  have hrI := hr
  have hinX0 : ∀ w ∈ u_ws RX0 TX0 7, w ∈ wsX0_beginDrumming := by decide +kernel
  have hinX2 : ∀ w ∈ u_ws RX2 TX2 13, w ∈ wsX0_beginDrumming := by decide +kernel
  have hL0 := hL
  obtain ⟨⟨v1, v2⟩, ⟨p1, p2⟩, ⟨b1, b2⟩, ⟨d1, d2⟩, htc, hvs⟩ := hL
  obtain ⟨hN1, hN2, hN3⟩ := hN
  have n8 : ¬ 8 = v := by omega
  have n9 : ¬ v = 8 := by omega
  have hLp := LI_pop hL0 hv
  obtain ⟨k1, k2, k3, k4, k5, k6, k7, k8, k9, k10⟩ := hL0.v hv
  have ht0 := s2top_inR (t := t) (v := v) hr0
  refine r_aload_n C (k := 0) dX0_beginDrumming_0 rfl ?_
  refine r_getf C 0 (v := .ref (adr G (t, 8, 3))) (ok_of hG (kdl0 ht) (by decide) (Nat.le_trans ht (by decide))) (kdl0 ht) (by decide) rfl hinX0 (by decide) (by decide +kernel) rfl rfl dX0_beginDrumming_1 ?_
  refine r_iload_n C (k := 1) dX0_beginDrumming_4 rfl ?_
  refine r_aald C (v) (ok_of hG (kdl3 ht) (by decide) (Nat.le_trans ht (by decide))) ht rfl (by first | omega | (have := s2dist_le (hLu.v hv) (hLu.v (v := i) (by omega)); omega)) dX0_beginDrumming_5 ?_
  refine r_astore_n C (i := 2) (lv' := [(2, .ref (adr G (t, v, 0))), (0, .ref (adr G (t, 8, 0))), (1, vI (((v : Nat) : Int)))]) dX0_beginDrumming_6 rfl (by decide) rfl ?_
  refine r_aload_n C (k := 0) dX0_beginDrumming_7 rfl ?_
  refine r_callV C (w' := (s2pop w t v)) [] 0 (c_X2_takeFromQueue hG ht hv (by first | assumption | omega | exact hr _ _ | exact hr0 _ _ | exact hrI _ _ | exact ⟨by omega, by omega⟩ | exact bI_inR _ | (simp [st1] <;> omega) | exact rowR.so (by assumption) (by simp))) gX0_beginDrumming_X2_takeFromQueue rfl rfl rfl (by decide +kernel) (Nat.le_of_ble_eq_true rfl) (Nat.le_of_ble_eq_true rfl) ⟨(Nat.zero_le _), (Nat.zero_le _)⟩ (ok_of hG (kdv0 ht hv) (by decide) (Nat.le_trans ht (by decide))) (kdv0 ht hv) (by decide) rfl rfl rfl (Nat.le_of_ble_eq_true rfl) (st' := [vI ((s2top w t v))]) rfl dX0_beginDrumming_8 (fun hr => ?_)
  refine r_istore_n C (i := 3) (lv' := [(3, vI ((s2top w t v))), (2, .ref (adr G (t, v, 0))), (0, .ref (adr G (t, 8, 0))), (1, vI (((v : Nat) : Int)))]) dX0_beginDrumming_11 rfl (by decide) rfl ?_
  refine r_iload_n C (k := 0) dX0_beginDrumming_12 rfl ?_
  refine r_if_lt C (tgt := 24) dX0_beginDrumming_13 (by decide) (by first | exact ht0 | exact hr _ _ | exact hr0 _ _ | exact hrI _ _ | assumption | exact ⟨by omega, by omega⟩) (fun h_1 => ?_) (fun h_1 => ?_)
  · skip
    exact r_vret C dX0_beginDrumming_24 (by (unfold s0beg; rw [if_pos (by omega)]))
  · skip
    refine r_iload_n C (k := 0) dX0_beginDrumming_16 rfl ?_
    refine r_aload_n C (k := 2) dX0_beginDrumming_17 rfl ?_
    refine r_getf C 4 (ok_of hG (kdl0 ht) (by decide) (Nat.le_trans ht (by decide))) (kdl0 ht) (by decide) rfl hinX0 (by decide) (by decide +kernel) rfl rfl dX0_beginDrumming_18 ?_
    refine Wm.top (z' := w (t, 8, 0) (4)) (by simp [st1, cpy, s2pop_off, n8, n9]) ?_
    refine r_icmp_lt C (tgt := 25) dX0_beginDrumming_21 (by decide) (by first | exact ht0 | exact hr _ _ | exact hr0 _ _ | exact hrI _ _ | assumption | exact ⟨by omega, by omega⟩) (by first | exact ht0 | exact hr _ _ | exact hr0 _ _ | exact hrI _ _ | assumption | exact ⟨by omega, by omega⟩) (fun h_2 => ?_) (fun h_2 => ?_)
    · have hps : ¬ (s2top w t v < 0 ∨ w (t, 8, 0) 4 ≤ s2top w t v) := by omega
      have hLs := LI_set hL0 hv hps
      have htc0 := htc (s2top w t v).toNat (by omega)
      refine r_aload_n C (k := 2) dX0_beginDrumming_25 rfl ?_
      refine r_getf C 3 (v := .ref (adr G (t, 8, 2))) (ok_of hG (kdl0 ht) (by decide) (Nat.le_trans ht (by decide))) (kdl0 ht) (by decide) rfl hinX0 (by decide) (by decide +kernel) rfl rfl dX0_beginDrumming_26 ?_
      refine r_iload_n C (k := 0) dX0_beginDrumming_29 rfl ?_
      refine r_iald C ((s2top w t v).toNat) (ok_of hG (kdl2 ht) (by decide) (Nat.le_trans ht (by decide))) (kdl2 ht) (Int.toNat_of_nonneg (by omega)).symm (by first | omega | (have := s2dist_le (hLu.v hv) (hLu.v (v := i) (by omega)); omega)) (by decide) dX0_beginDrumming_30 ?_
      refine Wm.top (z' := w (t, 8, 2) ((s2top w t v).toNat)) (by simp [st1, cpy, s2pop_off, n8, n9]) ?_
      refine r_istore C (i := 4) (lv' := [(4, vI (w (t, 8, 2) ((s2top w t v).toNat))), (3, vI ((s2top w t v))), (2, .ref (adr G (t, v, 0))), (0, .ref (adr G (t, 8, 0))), (1, vI (((v : Nat) : Int)))]) dX0_beginDrumming_31 (by decide) rfl ?_
      refine r_aload_n C (k := 2) dX0_beginDrumming_33 rfl ?_
      refine r_iload_n C (k := 1) dX0_beginDrumming_34 rfl ?_
      refine r_putf C 6 hr (by first | exact ht0 | exact hr _ _ | exact hr0 _ _ | exact hrI _ _ | assumption | exact ⟨by omega, by omega⟩) (ok_of hG (kdv0 ht hv) (by decide) (Nat.le_trans ht (by decide))) (kdv0 ht hv) (by decide) rfl hinX2 tyX2_ok nmX2 (by decide) (by decide +kernel) rfl rfl (ty := .int) (by decide +kernel) rfl rfl rfl (Nat.le_of_ble_eq_true rfl) dX0_beginDrumming_35 (fun hr => ?_)
      refine r_aload_n C (k := 2) dX0_beginDrumming_38 rfl ?_
      refine r_iload C (k := 0) dX0_beginDrumming_39 rfl ?_
      refine r_putf C 7 hr (by first | exact ht0 | exact hr _ _ | exact hr0 _ _ | exact hrI _ _ | assumption | exact ⟨by omega, by omega⟩) (ok_of hG (kdv0 ht hv) (by decide) (Nat.le_trans ht (by decide))) (kdv0 ht hv) (by decide) rfl hinX2 tyX2_ok nmX2 (by decide) (by decide +kernel) rfl rfl (ty := .int) (by decide +kernel) rfl rfl rfl (Nat.le_of_ble_eq_true rfl) dX0_beginDrumming_41 (fun hr => ?_)
      refine r_aload_n C (k := 3) dX0_beginDrumming_44 rfl ?_
      refine r_dup C dX0_beginDrumming_45 rfl ?_
      refine r_getf C 6 (ok_of hG (kdl0 ht) (by decide) (Nat.le_trans ht (by decide))) (kdl0 ht) (by decide) rfl hinX0 (by decide) (by decide +kernel) rfl rfl dX0_beginDrumming_46 ?_
      refine Wm.top (z' := w (t, 8, 0) (6)) (by simp [st1, cpy, s2pop_off, n8, n9]) ?_
      refine r_iconst C dX0_beginDrumming_49 ?_
      refine r_iadd C dX0_beginDrumming_50 ?_
      refine r_putf C 6 hr (by first | exact ht0 | exact hr _ _ | exact hr0 _ _ | exact hrI _ _ | assumption | exact ⟨by omega, by omega⟩) (ok_of hG (kdl0 ht) (by decide) (Nat.le_trans ht (by decide))) (kdl0 ht) (by decide) rfl hinX0 tyX0_ok nmX0 (by decide) (by decide +kernel) rfl rfl (ty := .int) (by decide +kernel) rfl rfl rfl (Nat.le_of_ble_eq_true rfl) dX0_beginDrumming_51 (fun hr => ?_)
      refine r_iconst C dX0_beginDrumming_54 ?_
      refine r_istore C (i := 5) (lv' := [(5, vI (0)), (4, vI (w (t, 8, 2) ((s2top w t v).toNat))), (3, vI ((s2top w t v))), (2, .ref (adr G (t, v, 0))), (0, .ref (adr G (t, 8, 0))), (1, vI (((v : Nat) : Int)))]) dX0_beginDrumming_55 (by decide) rfl ?_
      have loop_57 : ∀ (n : Nat) (i : Nat), (i ≤ (w (t, 8, 0) 1).toNat) → (w (t, 8, 0) 1).toNat - i < n → rng (s0snd (s0set w t v) t v (s2top w t v) (w (t, 8, 2) (s2top w t v).toNat) i) → Wm B 9 G A (Qe B G A none (s0beg w t v) 0 0) (s0snd (s0set w t v) t v (s2top w t v) (w (t, 8, 2) (s2top w t v).toNat) i) 0 0 57 [(0, .ref (adr G (t, 8, 0))), (1, vI (((v : Nat) : Int))), (2, .ref (adr G (t, v, 0))), (3, vI (s2top w t v)), (4, vI (w (t, 8, 2) (s2top w t v).toNat)), (5, vI (((i : Nat) : Int)))] [] := by
        intro n57
        induction n57 with
        | zero => intro i hi hm; exact absurd hm (Nat.not_lt_zero _)
        | succ n57 ih57 =>
          intro i hi hm hr
          have hrI := hr
          have hLu : LI (s0snd (s0set w t v) t v (s2top w t v) (w (t, 8, 2) (s2top w t v).toNat) i) t N (D + 1) X := LI_snd hLs i (by omega)
          have e8 : ∀ p j, p < 3 → (s0snd (s0set w t v) t v (s2top w t v) (w (t, 8, 2) (s2top w t v).toNat) i) (t, 8, p) j = s0set w t v (t, 8, p) j := fun p j hp => s0snd_off (by simp; omega) (by simp; omega) (by simp; omega) (by simp; omega) (by simp; omega) i
          have e81 : (s0snd (s0set w t v) t v (s2top w t v) (w (t, 8, 2) (s2top w t v).toNat) i) (t, 8, 0) 1 = w (t, 8, 0) 1 := by rw [e8 0 1 (by decide)]; unfold s0set; rw [st1_j (by decide), st1_k (by simp [n8]), st1_k (by simp [n8])]; exact s2pop_8 hv
          have e85 := hLu.2.2.1
          have hsv := hLu.v hv
          have hsvd := hsv.2.1
          refine r_iload C (k := 5) dX0_beginDrumming_57 rfl ?_
          refine r_aload_n C (k := 0) dX0_beginDrumming_59 rfl ?_
          refine r_getf C 1 (ok_of hG (kdl0 ht) (by decide) (Nat.le_trans ht (by decide))) (kdl0 ht) (by decide) rfl hinX0 (by decide) (by decide +kernel) rfl rfl dX0_beginDrumming_60 ?_
          refine r_icmp_ge C (tgt := 152) dX0_beginDrumming_63 (by decide) (by first | exact ht0 | exact hr _ _ | exact hr0 _ _ | exact hrI _ _ | assumption | exact ⟨by omega, by omega⟩) (by first | exact ht0 | exact hr _ _ | exact hr0 _ _ | exact hrI _ _ | assumption | exact ⟨by omega, by omega⟩) (fun h_3 => ?_) (fun h_3 => ?_)
          · skip
            exact r_vret C dX0_beginDrumming_152 (by (obtain rfl : i = (w (t, 8, 0) 1).toNat := (by omega)); (unfold s0beg; rw [if_neg hps]))
          · skip
            refine r_aload_n C (k := 0) dX0_beginDrumming_66 rfl ?_
            refine r_getf C 0 (v := .ref (adr G (t, 8, 3))) (ok_of hG (kdl0 ht) (by decide) (Nat.le_trans ht (by decide))) (kdl0 ht) (by decide) rfl hinX0 (by decide) (by decide +kernel) rfl rfl dX0_beginDrumming_67 ?_
            refine r_iload C (k := 5) dX0_beginDrumming_70 rfl ?_
            refine r_aald C (i) (ok_of hG (kdl3 ht) (by decide) (Nat.le_trans ht (by decide))) ht rfl (by first | omega | (have := s2dist_le (hLu.v hv) (hLu.v (v := i) (by omega)); omega)) dX0_beginDrumming_72 ?_
            refine r_astore C (i := 6) (lv' := [(6, .ref (adr G (t, i, 0))), (0, .ref (adr G (t, 8, 0))), (1, vI (((v : Nat) : Int))), (2, .ref (adr G (t, v, 0))), (3, vI (s2top w t v)), (4, vI (w (t, 8, 2) (s2top w t v).toNat)), (5, vI (((i : Nat) : Int)))]) dX0_beginDrumming_73 (by decide) rfl ?_
            refine r_aload_n C (k := 3) dX0_beginDrumming_75 rfl ?_
            refine r_aload C (k := 0) dX0_beginDrumming_76 rfl ?_
            refine r_callV C (w' := (s0snd (s0set w t v) t v (s2top w t v) (w (t, 8, 2) (s2top w t v).toNat) i)) [.ref (adr G (t, i, 0))] 1 (c_X2_distanceTo hG ht hv ht (by omega) (by exact (hLu.v hv).1) (by exact (hLu.v (by omega)).1)) gX0_beginDrumming_X2_distanceTo rfl rfl rfl (by decide +kernel) (Nat.le_of_ble_eq_true rfl) (Nat.le_of_ble_eq_true rfl) ⟨(Nat.zero_le _), (Nat.zero_le _)⟩ (ok_of hG (kdv0 ht hv) (by decide) (Nat.le_trans ht (by decide))) (kdv0 ht hv) (by decide) rfl rfl rfl (Nat.le_of_ble_eq_true rfl) (st' := [vI ((s2dist (s0snd (s0set w t v) t v (s2top w t v) (w (t, 8, 2) (s2top w t v).toNat) i) t v t i))]) rfl dX0_beginDrumming_78 (fun hr => ?_)
            refine r_istore C (i := 7) (lv' := [(7, vI ((s2dist (s0snd (s0set w t v) t v (s2top w t v) (w (t, 8, 2) (s2top w t v).toNat) i) t v t i))), (6, .ref (adr G (t, i, 0))), (0, .ref (adr G (t, 8, 0))), (1, vI (((v : Nat) : Int))), (2, .ref (adr G (t, v, 0))), (3, vI (s2top w t v)), (4, vI (w (t, 8, 2) (s2top w t v).toNat)), (5, vI (((i : Nat) : Int)))]) dX0_beginDrumming_81 (by decide) rfl ?_
            refine r_iload C (k := 7) dX0_beginDrumming_83 rfl ?_
            refine r_iload_n C (k := 3) dX0_beginDrumming_85 rfl ?_
            refine r_icmp_eq C (tgt := 146) dX0_beginDrumming_86 (by decide) (by first | exact ht0 | exact hr _ _ | exact hr0 _ _ | exact hrI _ _ | assumption | exact ⟨by omega, by omega⟩) (by first | exact ht0 | exact hr _ _ | exact hr0 _ _ | exact hrI _ _ | assumption | exact ⟨by omega, by omega⟩) (fun h_4 => ?_) (fun h_4 => ?_)
            · skip
              refine r_iinc C (k := 7) (lv' := [(5, vI (((i + 1 : Nat) : Int))), (7, vI ((s2dist (s0snd (s0set w t v) t v (s2top w t v) (w (t, 8, 2) (s2top w t v).toNat) i) t v t i))), (6, .ref (adr G (t, i, 0))), (0, .ref (adr G (t, 8, 0))), (1, vI (((v : Nat) : Int))), (2, .ref (adr G (t, v, 0))), (3, vI (s2top w t v)), (4, vI (w (t, 8, 2) (s2top w t v).toNat))]) dX0_beginDrumming_146 rfl (by decide) rfl ?_
              refine r_goto C (tgt := 57) dX0_beginDrumming_149 (by decide) ?_
              have e_5 : (s0snd (s0set w t v) t v (s2top w t v) (w (t, 8, 2) (s2top w t v).toNat) i) = (s0snd (s0set w t v) t v (s2top w t v) (w (t, 8, 2) (s2top w t v).toNat) (i + 1)) := by (simp only [s0snd]; first | (rw [if_neg (fun q => by first | exact absurd q.1 (by omega) | exact absurd q.2 (by assumption))]) | (rw [if_pos ⟨by omega, by assumption⟩]; first | (rw [if_pos (by assumption)]; rfl) | (rw [if_neg (by assumption)]; rfl)))
              refine Wm.sub (lv' := [(0, .ref (adr G (t, 8, 0))), (1, vI (((v : Nat) : Int))), (2, .ref (adr G (t, v, 0))), (3, vI (s2top w t v)), (4, vI (w (t, 8, 2) (s2top w t v).toNat)), (5, vI (((i + 1 : Nat) : Int)))]) [3, 4, 5, 6, 7, 0] rfl ?_
              refine Wm.mem (lv' := [(0, .ref (adr G (t, 8, 0))), (1, vI (((v : Nat) : Int))), (2, .ref (adr G (t, v, 0))), (3, vI (s2top w t v)), (4, vI (w (t, 8, 2) (s2top w t v).toNat)), (5, vI ((((i + 1) : Nat) : Int)))]) e_5 (by rfl) ?_
              exact ih57 ((i + 1)) (by omega) (by omega) (e_5 ▸ hr)
            · skip
              refine r_aload_n C (k := 4) dX0_beginDrumming_89 rfl ?_
              refine r_iload C (k := 0) dX0_beginDrumming_90 rfl ?_
              refine r_callV C (w' := (s0snd (s0set w t v) t v (s2top w t v) (w (t, 8, 2) (s2top w t v).toNat) i)) [vI ((s2dist (s0snd (s0set w t v) t v (s2top w t v) (w (t, 8, 2) (s2top w t v).toNat) i) t v t i))] 1 (c_X2_isHeardAt hG ht hv (by exact hsvd) (by have := s2dist_le (hLu.v hv) (hLu.v (v := i) (by omega)); exact ⟨by omega, by omega⟩)) gX0_beginDrumming_X2_isHeardAt rfl rfl rfl (by decide +kernel) (Nat.le_of_ble_eq_true rfl) (Nat.le_of_ble_eq_true rfl) ⟨(Nat.zero_le _), (Nat.zero_le _)⟩ (ok_of hG (kdv0 ht hv) (by decide) (Nat.le_trans ht (by decide))) (kdv0 ht hv) (by decide) rfl rfl rfl (Nat.le_of_ble_eq_true rfl) (st' := [vI (bI (((s2dist (s0snd (s0set w t v) t v (s2top w t v) (w (t, 8, 2) (s2top w t v).toNat) i) t v t i)) ≤ 3 * (s0snd (s0set w t v) t v (s2top w t v) (w (t, 8, 2) (s2top w t v).toNat) i) (t, v, 0) 2))]) rfl dX0_beginDrumming_92 (fun hr => ?_)
              refine r_if_eqP C (P := ((s2dist (s0snd (s0set w t v) t v (s2top w t v) (w (t, 8, 2) (s2top w t v).toNat) i) t v t i)) ≤ 3 * (s0snd (s0set w t v) t v (s2top w t v) (w (t, 8, 2) (s2top w t v).toNat) i) (t, v, 0) 2) (tgt := 146) dX0_beginDrumming_95 (by decide) (fun h_6 => ?_) (fun h_6 => ?_)
              · skip
                refine r_iinc C (k := 7) (lv' := [(5, vI (((i + 1 : Nat) : Int))), (7, vI ((s2dist (s0snd (s0set w t v) t v (s2top w t v) (w (t, 8, 2) (s2top w t v).toNat) i) t v t i))), (6, .ref (adr G (t, i, 0))), (0, .ref (adr G (t, 8, 0))), (1, vI (((v : Nat) : Int))), (2, .ref (adr G (t, v, 0))), (3, vI (s2top w t v)), (4, vI (w (t, 8, 2) (s2top w t v).toNat))]) dX0_beginDrumming_146 rfl (by decide) rfl ?_
                refine r_goto C (tgt := 57) dX0_beginDrumming_149 (by decide) ?_
                have e_7 : (s0snd (s0set w t v) t v (s2top w t v) (w (t, 8, 2) (s2top w t v).toNat) i) = (s0snd (s0set w t v) t v (s2top w t v) (w (t, 8, 2) (s2top w t v).toNat) (i + 1)) := by (simp only [s0snd]; first | (rw [if_neg (fun q => by first | exact absurd q.1 (by omega) | exact absurd q.2 (by assumption))]) | (rw [if_pos ⟨by omega, by assumption⟩]; first | (rw [if_pos (by assumption)]; rfl) | (rw [if_neg (by assumption)]; rfl)))
                refine Wm.sub (lv' := [(0, .ref (adr G (t, 8, 0))), (1, vI (((v : Nat) : Int))), (2, .ref (adr G (t, v, 0))), (3, vI (s2top w t v)), (4, vI (w (t, 8, 2) (s2top w t v).toNat)), (5, vI (((i + 1 : Nat) : Int)))]) [3, 4, 5, 6, 7, 0] rfl ?_
                refine Wm.mem (lv' := [(0, .ref (adr G (t, 8, 0))), (1, vI (((v : Nat) : Int))), (2, .ref (adr G (t, v, 0))), (3, vI (s2top w t v)), (4, vI (w (t, 8, 2) (s2top w t v).toNat)), (5, vI ((((i + 1) : Nat) : Int)))]) e_7 (by rfl) ?_
                exact ih57 ((i + 1)) (by omega) (by omega) (e_7 ▸ hr)
              · skip
                refine r_aload_n C (k := 2) dX0_beginDrumming_98 rfl ?_
                refine r_getf C 5 (ok_of hG (kdl0 ht) (by decide) (Nat.le_trans ht (by decide))) (kdl0 ht) (by decide) rfl hinX0 (by decide) (by decide +kernel) rfl rfl dX0_beginDrumming_99 ?_
                refine r_iload C (k := 0) dX0_beginDrumming_102 rfl ?_
                refine r_iconst C dX0_beginDrumming_104 ?_
                refine r_idiv C dX0_beginDrumming_105 (by first | omega | (have := s2dist_le (hLu.v hv) (hLu.v (v := i) (by omega)); omega)) (by first | omega | (have := s2dist_le (hLu.v hv) (hLu.v (v := i) (by omega)); omega)) (by first | omega | (have := s2dist_le (hLu.v hv) (hLu.v (v := i) (by omega)); omega)) (by first | omega | (have := s2dist_le (hLu.v hv) (hLu.v (v := i) (by omega)); omega)) ?_
                refine r_iadd C dX0_beginDrumming_106 ?_
                refine r_iconst C dX0_beginDrumming_107 ?_
                refine r_iadd C dX0_beginDrumming_108 ?_
                refine r_istore C (i := 8) (lv' := [(8, vI ((((s0snd (s0set w t v) t v (s2top w t v) (w (t, 8, 2) (s2top w t v).toNat) i) (t, 8, 0) (5) + ((s2dist (s0snd (s0set w t v) t v (s2top w t v) (w (t, 8, 2) (s2top w t v).toNat) i) t v t i) / 3)) + 1))), (7, vI ((s2dist (s0snd (s0set w t v) t v (s2top w t v) (w (t, 8, 2) (s2top w t v).toNat) i) t v t i))), (6, .ref (adr G (t, i, 0))), (0, .ref (adr G (t, 8, 0))), (1, vI (((v : Nat) : Int))), (2, .ref (adr G (t, v, 0))), (3, vI (s2top w t v)), (4, vI (w (t, 8, 2) (s2top w t v).toNat)), (5, vI (((i : Nat) : Int)))]) dX0_beginDrumming_109 (by decide) rfl ?_
                refine r_aload C (k := 2) dX0_beginDrumming_111 rfl ?_
                refine r_getf C 11 (v := .ref (adr G (t, i, 3))) (ok_of hG (kdv0 ht (by omega)) (by decide) (Nat.le_trans ht (by decide))) (kdv0 ht (by omega)) (by decide) rfl hinX2 (by decide) (by decide +kernel) rfl rfl dX0_beginDrumming_113 ?_
                refine r_iload_n C (k := 6) dX0_beginDrumming_116 rfl ?_
                refine r_iload C (k := 0) dX0_beginDrumming_117 rfl ?_
                refine r_iload C (k := 7) dX0_beginDrumming_119 rfl ?_
                refine r_callV C (w' := (s1add (s0snd (s0set w t v) t v (s2top w t v) (w (t, 8, 2) (s2top w t v).toNat) i) t i (s2top w t v) ((((s0snd (s0set w t v) t v (s2top w t v) (w (t, 8, 2) (s2top w t v).toNat) i) (t, 8, 0) (5) + ((s2dist (s0snd (s0set w t v) t v (s2top w t v) (w (t, 8, 2) (s2top w t v).toNat) i) t v t i) / 3)) + 1)) (w (t, 8, 2) (s2top w t v).toNat))) [vI (s2top w t v), vI ((((s0snd (s0set w t v) t v (s2top w t v) (w (t, 8, 2) (s2top w t v).toNat) i) (t, 8, 0) (5) + ((s2dist (s0snd (s0set w t v) t v (s2top w t v) (w (t, 8, 2) (s2top w t v).toNat) i) t v t i) / 3)) + 1)), vI (w (t, 8, 2) (s2top w t v).toNat)] 3 (c_X1_add hG ht (by omega) (by first | exact (hLu.v (v := i) (by omega)).2.2.2.2.2.2.2.2.2 | exact s1add_sz (hLu.v (v := i) (by omega)).2.2.2.2.2.2.2.2.2) (by exact ht0) (by have := s2dist_le (hLu.v hv) (hLu.v (v := i) (by omega)); exact ⟨by omega, by omega⟩) (by have := s2dist_le (hLu.v hv) (hLu.v (v := i) (by omega)); exact ⟨by omega, by omega⟩)) gX0_beginDrumming_X1_add rfl rfl rfl (by decide +kernel) (Nat.le_of_ble_eq_true rfl) (Nat.le_of_ble_eq_true rfl) ⟨(Nat.zero_le _), (Nat.zero_le _)⟩ (ok_of hG (kdv3 ht (by omega)) (by decide) (Nat.le_trans ht (by decide))) (kdv3 ht (by omega)) (by decide) rfl rfl rfl (Nat.le_of_ble_eq_true rfl) (st' := []) rfl dX0_beginDrumming_121 (fun hr => ?_)
                refine r_aload_n C (k := 5) dX0_beginDrumming_124 rfl ?_
                refine r_getf C 3 (ok_of hG (kdv0 ht hv) (by decide) (Nat.le_trans ht (by decide))) (kdv0 ht hv) (by decide) rfl hinX2 (by decide) (by decide +kernel) rfl rfl dX0_beginDrumming_125 ?_
                refine Wm.top (z' := (s0snd (s0set w t v) t v (s2top w t v) (w (t, 8, 2) (s2top w t v).toNat) i) (t, v, 0) (3)) (by simp [st1, cpy, s1add_off, n8, n9]) ?_
                refine r_if_eq C (tgt := 146) dX0_beginDrumming_128 (by decide) (by first | exact ht0 | exact hr _ _ | exact hr0 _ _ | exact hrI _ _ | assumption | exact ⟨by omega, by omega⟩) (fun h_8 => ?_) (fun h_8 => ?_)
                · skip
                  refine r_iinc C (k := 8) (lv' := [(5, vI (((i + 1 : Nat) : Int))), (8, vI ((((s0snd (s0set w t v) t v (s2top w t v) (w (t, 8, 2) (s2top w t v).toNat) i) (t, 8, 0) (5) + ((s2dist (s0snd (s0set w t v) t v (s2top w t v) (w (t, 8, 2) (s2top w t v).toNat) i) t v t i) / 3)) + 1))), (7, vI ((s2dist (s0snd (s0set w t v) t v (s2top w t v) (w (t, 8, 2) (s2top w t v).toNat) i) t v t i))), (6, .ref (adr G (t, i, 0))), (0, .ref (adr G (t, 8, 0))), (1, vI (((v : Nat) : Int))), (2, .ref (adr G (t, v, 0))), (3, vI (s2top w t v)), (4, vI (w (t, 8, 2) (s2top w t v).toNat))]) dX0_beginDrumming_146 rfl (by decide) rfl ?_
                  refine r_goto C (tgt := 57) dX0_beginDrumming_149 (by decide) ?_
                  have e_9 : (s1add (s0snd (s0set w t v) t v (s2top w t v) (w (t, 8, 2) (s2top w t v).toNat) i) t i (s2top w t v) ((((s0snd (s0set w t v) t v (s2top w t v) (w (t, 8, 2) (s2top w t v).toNat) i) (t, 8, 0) (5) + ((s2dist (s0snd (s0set w t v) t v (s2top w t v) (w (t, 8, 2) (s2top w t v).toNat) i) t v t i) / 3)) + 1)) (w (t, 8, 2) (s2top w t v).toNat)) = (s0snd (s0set w t v) t v (s2top w t v) (w (t, 8, 2) (s2top w t v).toNat) (i + 1)) := by (simp only [s0snd]; first | (rw [if_neg (fun q => by first | exact absurd q.1 (by omega) | exact absurd q.2 (by assumption))]) | (rw [if_pos ⟨by omega, by assumption⟩]; first | (rw [if_pos (by assumption)]; rfl) | (rw [if_neg (by assumption)]; rfl)))
                  refine Wm.sub (lv' := [(0, .ref (adr G (t, 8, 0))), (1, vI (((v : Nat) : Int))), (2, .ref (adr G (t, v, 0))), (3, vI (s2top w t v)), (4, vI (w (t, 8, 2) (s2top w t v).toNat)), (5, vI (((i + 1 : Nat) : Int)))]) [4, 5, 6, 7, 8, 0] rfl ?_
                  refine Wm.mem (lv' := [(0, .ref (adr G (t, 8, 0))), (1, vI (((v : Nat) : Int))), (2, .ref (adr G (t, v, 0))), (3, vI (s2top w t v)), (4, vI (w (t, 8, 2) (s2top w t v).toNat)), (5, vI ((((i + 1) : Nat) : Int)))]) e_9 (by rfl) ?_
                  exact ih57 ((i + 1)) (by omega) (by omega) (e_9 ▸ hr)
                · skip
                  refine r_aload C (k := 2) dX0_beginDrumming_131 rfl ?_
                  refine r_getf C 11 (v := .ref (adr G (t, i, 3))) (ok_of hG (kdv0 ht (by omega)) (by decide) (Nat.le_trans ht (by decide))) (kdv0 ht (by omega)) (by decide) rfl hinX2 (by decide) (by decide +kernel) rfl rfl dX0_beginDrumming_133 ?_
                  refine r_iload_n C (k := 6) dX0_beginDrumming_136 rfl ?_
                  refine r_iload C (k := 0) dX0_beginDrumming_137 rfl ?_
                  refine r_iconst C dX0_beginDrumming_139 ?_
                  refine r_iadd C dX0_beginDrumming_140 ?_
                  refine r_iload C (k := 7) dX0_beginDrumming_141 rfl ?_
                  refine r_callV C (w' := (s1add (s1add (s0snd (s0set w t v) t v (s2top w t v) (w (t, 8, 2) (s2top w t v).toNat) i) t i (s2top w t v) ((((s0snd (s0set w t v) t v (s2top w t v) (w (t, 8, 2) (s2top w t v).toNat) i) (t, 8, 0) (5) + ((s2dist (s0snd (s0set w t v) t v (s2top w t v) (w (t, 8, 2) (s2top w t v).toNat) i) t v t i) / 3)) + 1)) (w (t, 8, 2) (s2top w t v).toNat)) t i (s2top w t v) (((((s0snd (s0set w t v) t v (s2top w t v) (w (t, 8, 2) (s2top w t v).toNat) i) (t, 8, 0) (5) + ((s2dist (s0snd (s0set w t v) t v (s2top w t v) (w (t, 8, 2) (s2top w t v).toNat) i) t v t i) / 3)) + 1) + 4)) (w (t, 8, 2) (s2top w t v).toNat))) [vI (s2top w t v), vI (((((s0snd (s0set w t v) t v (s2top w t v) (w (t, 8, 2) (s2top w t v).toNat) i) (t, 8, 0) (5) + ((s2dist (s0snd (s0set w t v) t v (s2top w t v) (w (t, 8, 2) (s2top w t v).toNat) i) t v t i) / 3)) + 1) + 4)), vI (w (t, 8, 2) (s2top w t v).toNat)] 3 (c_X1_add hG ht (by omega) (by first | exact (hLu.v (v := i) (by omega)).2.2.2.2.2.2.2.2.2 | exact s1add_sz (hLu.v (v := i) (by omega)).2.2.2.2.2.2.2.2.2) (by exact ht0) (by have := s2dist_le (hLu.v hv) (hLu.v (v := i) (by omega)); exact ⟨by omega, by omega⟩) (by have := s2dist_le (hLu.v hv) (hLu.v (v := i) (by omega)); exact ⟨by omega, by omega⟩)) gX0_beginDrumming_X1_add rfl rfl rfl (by decide +kernel) (Nat.le_of_ble_eq_true rfl) (Nat.le_of_ble_eq_true rfl) ⟨(Nat.zero_le _), (Nat.zero_le _)⟩ (ok_of hG (kdv3 ht (by omega)) (by decide) (Nat.le_trans ht (by decide))) (kdv3 ht (by omega)) (by decide) rfl rfl rfl (Nat.le_of_ble_eq_true rfl) (st' := []) rfl dX0_beginDrumming_143 (fun hr => ?_)
                  refine r_iinc C (k := 8) (lv' := [(5, vI (((i + 1 : Nat) : Int))), (8, vI ((((s0snd (s0set w t v) t v (s2top w t v) (w (t, 8, 2) (s2top w t v).toNat) i) (t, 8, 0) (5) + ((s2dist (s0snd (s0set w t v) t v (s2top w t v) (w (t, 8, 2) (s2top w t v).toNat) i) t v t i) / 3)) + 1))), (7, vI ((s2dist (s0snd (s0set w t v) t v (s2top w t v) (w (t, 8, 2) (s2top w t v).toNat) i) t v t i))), (6, .ref (adr G (t, i, 0))), (0, .ref (adr G (t, 8, 0))), (1, vI (((v : Nat) : Int))), (2, .ref (adr G (t, v, 0))), (3, vI (s2top w t v)), (4, vI (w (t, 8, 2) (s2top w t v).toNat))]) dX0_beginDrumming_146 rfl (by decide) rfl ?_
                  refine r_goto C (tgt := 57) dX0_beginDrumming_149 (by decide) ?_
                  have e_10 : (s1add (s1add (s0snd (s0set w t v) t v (s2top w t v) (w (t, 8, 2) (s2top w t v).toNat) i) t i (s2top w t v) ((((s0snd (s0set w t v) t v (s2top w t v) (w (t, 8, 2) (s2top w t v).toNat) i) (t, 8, 0) (5) + ((s2dist (s0snd (s0set w t v) t v (s2top w t v) (w (t, 8, 2) (s2top w t v).toNat) i) t v t i) / 3)) + 1)) (w (t, 8, 2) (s2top w t v).toNat)) t i (s2top w t v) (((((s0snd (s0set w t v) t v (s2top w t v) (w (t, 8, 2) (s2top w t v).toNat) i) (t, 8, 0) (5) + ((s2dist (s0snd (s0set w t v) t v (s2top w t v) (w (t, 8, 2) (s2top w t v).toNat) i) t v t i) / 3)) + 1) + 4)) (w (t, 8, 2) (s2top w t v).toNat)) = (s0snd (s0set w t v) t v (s2top w t v) (w (t, 8, 2) (s2top w t v).toNat) (i + 1)) := by (simp only [s0snd]; first | (rw [if_neg (fun q => by first | exact absurd q.1 (by omega) | exact absurd q.2 (by assumption))]) | (rw [if_pos ⟨by omega, by assumption⟩]; first | (rw [if_pos (by assumption)]; rfl) | (rw [if_neg (by assumption)]; rfl)))
                  refine Wm.sub (lv' := [(0, .ref (adr G (t, 8, 0))), (1, vI (((v : Nat) : Int))), (2, .ref (adr G (t, v, 0))), (3, vI (s2top w t v)), (4, vI (w (t, 8, 2) (s2top w t v).toNat)), (5, vI (((i + 1 : Nat) : Int)))]) [4, 5, 6, 7, 8, 0] rfl ?_
                  refine Wm.mem (lv' := [(0, .ref (adr G (t, 8, 0))), (1, vI (((v : Nat) : Int))), (2, .ref (adr G (t, v, 0))), (3, vI (s2top w t v)), (4, vI (w (t, 8, 2) (s2top w t v).toNat)), (5, vI ((((i + 1) : Nat) : Int)))]) e_10 (by rfl) ?_
                  exact ih57 ((i + 1)) (by omega) (by omega) (e_10 ▸ hr)
      have e_11 : (st1 (st1 (st1 (s2pop w t v) (t, v, 0) (6) ((s2top w t v))) (t, v, 0) (7) (w (t, 8, 2) ((s2top w t v).toNat))) (t, 8, 0) (6) ((w (t, 8, 0) (6) + 1))) = (s0snd (s0set w t v) t v (s2top w t v) (w (t, 8, 2) (s2top w t v).toNat) 0) := by rfl
      refine Wm.sub (lv' := [(0, .ref (adr G (t, 8, 0))), (1, vI (((v : Nat) : Int))), (2, .ref (adr G (t, v, 0))), (3, vI ((s2top w t v))), (4, vI (w (t, 8, 2) ((s2top w t v).toNat))), (5, vI (0))]) [4, 5, 3, 2, 1, 0] rfl ?_
      refine Wm.mem (lv' := [(0, .ref (adr G (t, 8, 0))), (1, vI (((v : Nat) : Int))), (2, .ref (adr G (t, v, 0))), (3, vI (s2top w t v)), (4, vI (w (t, 8, 2) (s2top w t v).toNat)), (5, vI (((0 : Nat) : Int)))]) e_11 (by rfl) ?_
      exact loop_57 _ (0) (by omega) (Nat.lt_succ_self _) (e_11 ▸ hr)
    · skip
      exact r_vret C dX0_beginDrumming_24 (by (unfold s0beg; rw [if_pos (by omega)]))

set_option maxRecDepth 100000 in
set_option maxHeartbeats 8000000 in
theorem c_X0_goBeat {l : Launch} {G : Gt} (hG : Gok G) {t : Nat} (ht : t ≤ 1) {w : Mm} {N D : Int} {X : Nat → Int} (hL : LI w t N D X) (hN : N ≤ 900000 ∧ D ≤ 900000000 ∧ ∀ u, u ≤ 7 → X u ≤ 900000000) : Con l G yX0_goBeat wsX0_goBeat ({ frames := 3, cells := 0, slots := 0, locals := 75 } : Room) w [.ref (adr G (t, 8, 0))] (some (vI ((s0w3 w t).2))) (s0beat w t) 0 0 := by
  refine Con.head (cc := cX0_goBeat) (nL := 3) (ret := (some .int)) hG (by decide +kernel) rfl (Nat.le_of_ble_eq_true rfl) ?_
  intro B A hBl C hr
  have hr0 := hr
  have hrI := hr
  have hinX0 : ∀ w ∈ u_ws RX0 TX0 7, w ∈ wsX0_goBeat := by decide +kernel
  have hL0 := hL
  obtain ⟨⟨v1, v2⟩, ⟨p1, p2⟩, ⟨b1, b2⟩, ⟨d1, d2⟩, htc, hvs⟩ := hL
  obtain ⟨hN1, hN2, hN3⟩ := hN
  have hn8 : (w (t, 8, 0) 1).toNat ≤ 8 := by omega
  have hW1 : LI (s0w1 w t) t N (D + 8) X := (LI_b1 hL0 _ hn8).1.mono (Int.le_refl _) (by omega) (fun _ _ => Int.le_refl _)
  have eW1 := (LI_b1 hL0 _ hn8).2
  have hW2 : LI (s0w2 w t) t N (D + 8) X := (LI_b2 hW1 _ hn8).1
  have eW2 : ∀ j, j ≠ 6 → s0w2 w t (t, 8, 0) j = w (t, 8, 0) j := fun j hj => ((LI_b2 hW1 _ hn8).2 j).trans (eW1 j hj)
  have hW3 : LI (s0w3 w t).1 t N (D + 8) (fun u => if u < (w (t, 8, 0) 1).toNat then X u + 112 else X u) := (LI_b3 hW2 _ hn8).1
  have eW3 : ∀ j, j ≠ 6 → (s0w3 w t).1 (t, 8, 0) j = w (t, 8, 0) j := fun j hj => ((LI_b3 hW2 _ hn8).2 j).trans (eW2 j hj)
  refine r_iconst C dX0_goBeat_0 ?_
  refine r_istore_n C (i := 1) (lv' := [(1, vI (0)), (0, .ref (adr G (t, 8, 0)))]) dX0_goBeat_1 rfl (by decide) rfl ?_
  have loop_2 : ∀ (n : Nat) (i : Nat), (i ≤ (w (t, 8, 0) 1).toNat) → (w (t, 8, 0) 1).toNat - i < n → rng (s0b1 w t i) → Wm B 3 G A (Qe B G A (some (vI ((s0w3 w t).2))) (s0beat w t) 0 0) (s0b1 w t i) 0 0 2 [(0, .ref (adr G (t, 8, 0))), (1, vI (((i : Nat) : Int)))] [] := by
    intro n2
    induction n2 with
    | zero => intro i hi hm; exact absurd hm (Nat.not_lt_zero _)
    | succ n2 ih2 =>
      intro i hi hm hr
      have hrI := hr
      obtain ⟨hLi, e8⟩ := LI_b1 hL0 i (by omega)
      have e81 : s0b1 w t i (t, 8, 0) 1 = w (t, 8, 0) 1 := e8 1 (by decide)
      have e85 : 0 ≤ s0b1 w t i (t, 8, 0) 5 ∧ s0b1 w t i (t, 8, 0) 5 ≤ N := hLi.2.2.1
      refine r_iload_n C (k := 1) dX0_goBeat_2 rfl ?_
      refine r_aload_n C (k := 0) dX0_goBeat_3 rfl ?_
      refine r_getf C 1 (ok_of hG (kdl0 ht) (by decide) (Nat.le_trans ht (by decide))) (kdl0 ht) (by decide) rfl hinX0 (by decide) (by decide +kernel) rfl rfl dX0_goBeat_4 ?_
      refine r_icmp_ge C (tgt := 37) dX0_goBeat_7 (by decide) (by first | exact hr _ _ | exact hr0 _ _ | exact hrI _ _ | assumption | exact ⟨by omega, by omega⟩) (by first | exact hr _ _ | exact hr0 _ _ | exact hrI _ _ | assumption | exact ⟨by omega, by omega⟩) (fun h_1 => ?_) (fun h_1 => ?_)
      · skip
        refine r_iconst C dX0_goBeat_37 ?_
        refine r_istore_n C (i := 1) (lv' := [(1, vI (0)), (0, .ref (adr G (t, 8, 0)))]) dX0_goBeat_38 rfl (by decide) rfl ?_
        have loop_39 : ∀ (n : Nat) (i2 : Nat), (i2 ≤ (w (t, 8, 0) 1).toNat) → (w (t, 8, 0) 1).toNat - i2 < n → rng (s0b2 (s0w1 w t) t i2) → Wm B 3 G A (Qe B G A (some (vI ((s0w3 w t).2))) (s0beat w t) 0 0) (s0b2 (s0w1 w t) t i2) 0 0 39 [(0, .ref (adr G (t, 8, 0))), (1, vI (((i2 : Nat) : Int)))] [] := by
          intro n39
          induction n39 with
          | zero => intro i2 hi2 hm; exact absurd hm (Nat.not_lt_zero _)
          | succ n39 ih39 =>
            intro i2 hi2 hm hr
            have hrI := hr
            obtain ⟨hLi, e8⟩ := LI_b2 hW1 i2 (by omega)
            have e81 : s0b2 (s0w1 w t) t i2 (t, 8, 0) 1 = w (t, 8, 0) 1 := (e8 1).trans (eW1 1 (by decide))
            have e85 : 0 ≤ s0b2 (s0w1 w t) t i2 (t, 8, 0) 5 ∧ s0b2 (s0w1 w t) t i2 (t, 8, 0) 5 ≤ N := hLi.2.2.1
            refine r_iload_n C (k := 1) dX0_goBeat_39 rfl ?_
            refine r_aload_n C (k := 0) dX0_goBeat_40 rfl ?_
            refine r_getf C 1 (ok_of hG (kdl0 ht) (by decide) (Nat.le_trans ht (by decide))) (kdl0 ht) (by decide) rfl hinX0 (by decide) (by decide +kernel) rfl rfl dX0_goBeat_41 ?_
            refine r_icmp_ge C (tgt := 66) dX0_goBeat_44 (by decide) (by first | exact hr _ _ | exact hr0 _ _ | exact hrI _ _ | assumption | exact ⟨by omega, by omega⟩) (by first | exact hr _ _ | exact hr0 _ _ | exact hrI _ _ | assumption | exact ⟨by omega, by omega⟩) (fun h_2 => ?_) (fun h_2 => ?_)
            · skip
              refine r_iconst C dX0_goBeat_66 ?_
              refine r_istore_n C (i := 1) (lv' := [(1, vI (0)), (0, .ref (adr G (t, 8, 0)))]) dX0_goBeat_67 rfl (by decide) rfl ?_
              refine r_iconst C dX0_goBeat_68 ?_
              refine r_istore_n C (i := 2) (lv' := [(2, vI (0)), (1, vI (0)), (0, .ref (adr G (t, 8, 0)))]) dX0_goBeat_69 rfl (by decide) rfl ?_
              have loop_70 : ∀ (n : Nat) (i3 : Nat), (i3 ≤ (w (t, 8, 0) 1).toNat) → (w (t, 8, 0) 1).toNat - i3 < n → rng ((s0b3 (s0w2 w t) t i3).1) → Wm B 3 G A (Qe B G A (some (vI ((s0w3 w t).2))) (s0beat w t) 0 0) ((s0b3 (s0w2 w t) t i3).1) 0 0 70 [(0, .ref (adr G (t, 8, 0))), (1, vI ((s0b3 (s0w2 w t) t i3).2)), (2, vI (((i3 : Nat) : Int)))] [] := by
                intro n70
                induction n70 with
                | zero => intro i3 hi3 hm; exact absurd hm (Nat.not_lt_zero _)
                | succ n70 ih70 =>
                  intro i3 hi3 hm hr
                  have hrI := hr
                  obtain ⟨hLi, e8⟩ := LI_b3 hW2 i3 (by omega)
                  have e81 : (s0b3 (s0w2 w t) t i3).1 (t, 8, 0) 1 = w (t, 8, 0) 1 := (e8 1).trans (eW2 1 (by decide))
                  have e85 : 0 ≤ (s0b3 (s0w2 w t) t i3).1 (t, 8, 0) 5 ∧ (s0b3 (s0w2 w t) t i3).1 (t, 8, 0) 5 ≤ N := hLi.2.2.1
                  refine r_iload_n C (k := 2) dX0_goBeat_70 rfl ?_
                  refine r_aload_n C (k := 0) dX0_goBeat_71 rfl ?_
                  refine r_getf C 1 (ok_of hG (kdl0 ht) (by decide) (Nat.le_trans ht (by decide))) (kdl0 ht) (by decide) rfl hinX0 (by decide) (by decide +kernel) rfl rfl dX0_goBeat_72 ?_
                  refine r_icmp_ge C (tgt := 100) dX0_goBeat_75 (by decide) (by first | exact hr _ _ | exact hr0 _ _ | exact hrI _ _ | assumption | exact ⟨by omega, by omega⟩) (by first | exact hr _ _ | exact hr0 _ _ | exact hrI _ _ | assumption | exact ⟨by omega, by omega⟩) (fun h_3 => ?_) (fun h_3 => ?_)
                  · skip
                    refine r_iconst C dX0_goBeat_100 ?_
                    refine r_istore_n C (i := 2) (lv' := [(2, vI (0)), (0, .ref (adr G (t, 8, 0))), (1, vI ((s0b3 (s0w2 w t) t i3).2))]) dX0_goBeat_101 rfl (by decide) rfl ?_
                    have loop_102 : ∀ (n : Nat) (i4 : Nat), (i4 ≤ (w (t, 8, 0) 1).toNat) → (w (t, 8, 0) 1).toNat - i4 < n → rng (s0b4 (s0w3 w t).1 t i4) → Wm B 3 G A (Qe B G A (some (vI ((s0w3 w t).2))) (s0beat w t) 0 0) (s0b4 (s0w3 w t).1 t i4) 0 0 102 [(0, .ref (adr G (t, 8, 0))), (1, vI ((s0w3 w t).2)), (2, vI (((i4 : Nat) : Int)))] [] := by
                      intro n102
                      induction n102 with
                      | zero => intro i4 hi4 hm; exact absurd hm (Nat.not_lt_zero _)
                      | succ n102 ih102 =>
                        intro i4 hi4 hm hr
                        have hrI := hr
                        obtain ⟨hLi, e8⟩ := LI_b4 hW3 i4 (by omega)
                        have e81 : s0b4 (s0w3 w t).1 t i4 (t, 8, 0) 1 = w (t, 8, 0) 1 := (e8 1).trans (eW3 1 (by decide))
                        have e85 : 0 ≤ s0b4 (s0w3 w t).1 t i4 (t, 8, 0) 5 ∧ s0b4 (s0w3 w t).1 t i4 (t, 8, 0) 5 ≤ N := hLi.2.2.1
                        refine r_iload_n C (k := 2) dX0_goBeat_102 rfl ?_
                        refine r_aload_n C (k := 0) dX0_goBeat_103 rfl ?_
                        refine r_getf C 1 (ok_of hG (kdl0 ht) (by decide) (Nat.le_trans ht (by decide))) (kdl0 ht) (by decide) rfl hinX0 (by decide) (by decide +kernel) rfl rfl dX0_goBeat_104 ?_
                        refine r_icmp_ge C (tgt := 125) dX0_goBeat_107 (by decide) (by first | exact hr _ _ | exact hr0 _ _ | exact hrI _ _ | assumption | exact ⟨by omega, by omega⟩) (by first | exact hr _ _ | exact hr0 _ _ | exact hrI _ _ | assumption | exact ⟨by omega, by omega⟩) (fun h_4 => ?_) (fun h_4 => ?_)
                        · skip
                          refine r_aload_n C (k := 0) dX0_goBeat_125 rfl ?_
                          refine r_dup C dX0_goBeat_126 rfl ?_
                          refine r_getf C 5 (ok_of hG (kdl0 ht) (by decide) (Nat.le_trans ht (by decide))) (kdl0 ht) (by decide) rfl hinX0 (by decide) (by decide +kernel) rfl rfl dX0_goBeat_127 ?_
                          refine r_iconst C dX0_goBeat_130 ?_
                          refine r_iadd C dX0_goBeat_131 ?_
                          refine r_putf C 5 hr (by first | exact hr _ _ | exact hr0 _ _ | exact hrI _ _ | assumption | exact ⟨by omega, by omega⟩) (ok_of hG (kdl0 ht) (by decide) (Nat.le_trans ht (by decide))) (kdl0 ht) (by decide) rfl hinX0 tyX0_ok nmX0 (by decide) (by decide +kernel) rfl rfl (ty := .int) (by decide +kernel) rfl rfl rfl (Nat.le_of_ble_eq_true rfl) dX0_goBeat_132 (fun hr => ?_)
                          refine r_iload_n C (k := 1) dX0_goBeat_135 rfl ?_
                          exact r_iret C dX0_goBeat_136 (by rfl) (by (obtain rfl : i4 = (w (t, 8, 0) 1).toNat := (by omega)); rfl)
                        · skip
                          refine r_aload_n C (k := 0) dX0_goBeat_110 rfl ?_
                          refine r_getf C 0 (v := .ref (adr G (t, 8, 3))) (ok_of hG (kdl0 ht) (by decide) (Nat.le_trans ht (by decide))) (kdl0 ht) (by decide) rfl hinX0 (by decide) (by decide +kernel) rfl rfl dX0_goBeat_111 ?_
                          refine r_iload_n C (k := 2) dX0_goBeat_114 rfl ?_
                          refine r_aald C (i4) (ok_of hG (kdl3 ht) (by decide) (Nat.le_trans ht (by decide))) ht rfl (by first | omega | assumption) dX0_goBeat_115 ?_
                          refine r_callV C (w' := (s2edb (s0b4 (s0w3 w t).1 t i4) t i4)) [] 0 (c_X2_endDrumBeat hG ht (by omega) (by exact (hLi.v (v := i4) (by omega)).2.2.2.2.2.1.1)) gX0_goBeat_X2_endDrumBeat rfl rfl rfl (by decide +kernel) (Nat.le_of_ble_eq_true rfl) (Nat.le_of_ble_eq_true rfl) ⟨(Nat.zero_le _), (Nat.zero_le _)⟩ (ok_of hG (kdv0 ht (by omega)) (by decide) (Nat.le_trans ht (by decide))) (kdv0 ht (by omega)) (by decide) rfl rfl rfl (Nat.le_of_ble_eq_true rfl) (st' := []) rfl dX0_goBeat_116 (fun hr => ?_)
                          refine r_iinc C (k := 2) (lv' := [(2, vI (((i4 + 1 : Nat) : Int))), (0, .ref (adr G (t, 8, 0))), (1, vI ((s0w3 w t).2))]) dX0_goBeat_119 rfl (by decide) rfl ?_
                          refine r_goto C (tgt := 102) dX0_goBeat_122 (by decide) ?_
                          have e_5 : (s2edb (s0b4 (s0w3 w t).1 t i4) t i4) = (s0b4 (s0w3 w t).1 t (i4 + 1)) := by rfl
                          refine Wm.sub (lv' := [(0, .ref (adr G (t, 8, 0))), (1, vI ((s0w3 w t).2)), (2, vI (((i4 + 1 : Nat) : Int)))]) [1, 2, 0] rfl ?_
                          refine Wm.mem (lv' := [(0, .ref (adr G (t, 8, 0))), (1, vI ((s0w3 w t).2)), (2, vI ((((i4 + 1) : Nat) : Int)))]) e_5 (by rfl) ?_
                          exact ih102 ((i4 + 1)) (by omega) (by omega) (e_5 ▸ hr)
                    have e_6 : ((s0b3 (s0w2 w t) t i3).1) = (s0b4 (s0w3 w t).1 t 0) := by (obtain rfl : i3 = (w (t, 8, 0) 1).toNat := (by omega)); rfl
                    refine Wm.sub (lv' := [(0, .ref (adr G (t, 8, 0))), (1, vI ((s0b3 (s0w2 w t) t i3).2)), (2, vI (0))]) [1, 2, 0] rfl ?_
                    refine Wm.mem (lv' := [(0, .ref (adr G (t, 8, 0))), (1, vI ((s0w3 w t).2)), (2, vI (((0 : Nat) : Int)))]) e_6 (by (obtain rfl : i3 = (w (t, 8, 0) 1).toNat := (by omega)); rfl) ?_
                    exact loop_102 _ (0) (by omega) (Nat.lt_succ_self _) (e_6 ▸ hr)
                  · skip
                    refine r_iload_n C (k := 1) dX0_goBeat_78 rfl ?_
                    refine r_aload_n C (k := 0) dX0_goBeat_79 rfl ?_
                    refine r_getf C 0 (v := .ref (adr G (t, 8, 3))) (ok_of hG (kdl0 ht) (by decide) (Nat.le_trans ht (by decide))) (kdl0 ht) (by decide) rfl hinX0 (by decide) (by decide +kernel) rfl rfl dX0_goBeat_80 ?_
                    refine r_iload_n C (k := 2) dX0_goBeat_83 rfl ?_
                    refine r_aald C (i3) (ok_of hG (kdl3 ht) (by decide) (Nat.le_trans ht (by decide))) ht rfl (by first | omega | assumption) dX0_goBeat_84 ?_
                    refine r_aload_n C (k := 0) dX0_goBeat_85 rfl ?_
                    refine r_getf C 5 (ok_of hG (kdl0 ht) (by decide) (Nat.le_trans ht (by decide))) (kdl0 ht) (by decide) rfl hinX0 (by decide) (by decide +kernel) rfl rfl dX0_goBeat_86 ?_
                    refine r_callV C (w' := (s2end ((s0b3 (s0w2 w t) t i3).1) t i3 (((s0b3 (s0w2 w t) t i3).1) (t, 8, 0) (5)))) [vI (((s0b3 (s0w2 w t) t i3).1) (t, 8, 0) (5))] 1 (c_X2_endSounds hG ht (by omega) (by exact (hLi.v (v := i3) (by omega)).2.2.2.2.2.2.2.2.2) (by exact (hLi.v (v := i3) (by omega)).2.2.2.2.2.2.2.1) (by have q := (hLi.v (v := i3) (by omega)).2.2.2.2.2.2.2.2.1; have q2 := hN3 i3 (by omega); simp only [Nat.lt_irrefl, if_false] at q; exact ⟨q.1, by omega⟩) (by exact hrI _ _)) gX0_goBeat_X2_endSounds rfl rfl rfl (by decide +kernel) (Nat.le_of_ble_eq_true rfl) (Nat.le_of_ble_eq_true rfl) ⟨(Nat.zero_le _), (Nat.zero_le _)⟩ (ok_of hG (kdv0 ht (by omega)) (by decide) (Nat.le_trans ht (by decide))) (kdv0 ht (by omega)) (by decide) rfl rfl rfl (Nat.le_of_ble_eq_true rfl) (st' := [vI (((((s2endL ((s0b3 (s0w2 w t) t i3).1) t i3 (((s0b3 (s0w2 w t) t i3).1) (t, 8, 0) (5)) (((s0b3 (s0w2 w t) t i3).1) (t, i3, 3) 4).toNat).2.1 : Nat) : Int))), vI ((s0b3 (s0w2 w t) t i3).2)]) rfl dX0_goBeat_89 (fun hr => ?_)
                    refine r_iadd C dX0_goBeat_92 ?_
                    refine r_istore_n C (i := 1) (lv' := [(1, vI (((s0b3 (s0w2 w t) t i3).2 + ((((s2endL ((s0b3 (s0w2 w t) t i3).1) t i3 (((s0b3 (s0w2 w t) t i3).1) (t, 8, 0) (5)) (((s0b3 (s0w2 w t) t i3).1) (t, i3, 3) 4).toNat).2.1 : Nat) : Int))))), (0, .ref (adr G (t, 8, 0))), (2, vI (((i3 : Nat) : Int)))]) dX0_goBeat_93 rfl (by decide) rfl ?_
                    refine r_iinc C (k := 2) (lv' := [(2, vI (((i3 + 1 : Nat) : Int))), (1, vI (((s0b3 (s0w2 w t) t i3).2 + ((((s2endL ((s0b3 (s0w2 w t) t i3).1) t i3 (((s0b3 (s0w2 w t) t i3).1) (t, 8, 0) (5)) (((s0b3 (s0w2 w t) t i3).1) (t, i3, 3) 4).toNat).2.1 : Nat) : Int))))), (0, .ref (adr G (t, 8, 0)))]) dX0_goBeat_94 rfl (by decide) rfl ?_
                    refine r_goto C (tgt := 70) dX0_goBeat_97 (by decide) ?_
                    have e_7 : (s2end ((s0b3 (s0w2 w t) t i3).1) t i3 (((s0b3 (s0w2 w t) t i3).1) (t, 8, 0) (5))) = ((s0b3 (s0w2 w t) t (i3 + 1)).1) := by rfl
                    refine Wm.sub (lv' := [(0, .ref (adr G (t, 8, 0))), (1, vI (((s0b3 (s0w2 w t) t i3).2 + ((((s2endL ((s0b3 (s0w2 w t) t i3).1) t i3 (((s0b3 (s0w2 w t) t i3).1) (t, 8, 0) (5)) (((s0b3 (s0w2 w t) t i3).1) (t, i3, 3) 4).toNat).2.1 : Nat) : Int))))), (2, vI (((i3 + 1 : Nat) : Int)))]) [2, 1, 0] rfl ?_
                    refine Wm.mem (lv' := [(0, .ref (adr G (t, 8, 0))), (1, vI ((s0b3 (s0w2 w t) t (i3 + 1)).2)), (2, vI ((((i3 + 1) : Nat) : Int)))]) e_7 (by rfl) ?_
                    exact ih70 ((i3 + 1)) (by omega) (by omega) (e_7 ▸ hr)
              have e_8 : (s0b2 (s0w1 w t) t i2) = ((s0b3 (s0w2 w t) t 0).1) := by (obtain rfl : i2 = (w (t, 8, 0) 1).toNat := (by omega)); rfl
              refine Wm.sub (lv' := [(0, .ref (adr G (t, 8, 0))), (1, vI (0)), (2, vI (0))]) [2, 1, 0] rfl ?_
              refine Wm.mem (lv' := [(0, .ref (adr G (t, 8, 0))), (1, vI ((s0b3 (s0w2 w t) t 0).2)), (2, vI (((0 : Nat) : Int)))]) e_8 (by rfl) ?_
              exact loop_70 _ (0) (by omega) (Nat.lt_succ_self _) (e_8 ▸ hr)
            · skip
              refine r_aload_n C (k := 0) dX0_goBeat_47 rfl ?_
              refine r_getf C 0 (v := .ref (adr G (t, 8, 3))) (ok_of hG (kdl0 ht) (by decide) (Nat.le_trans ht (by decide))) (kdl0 ht) (by decide) rfl hinX0 (by decide) (by decide +kernel) rfl rfl dX0_goBeat_48 ?_
              refine r_iload_n C (k := 1) dX0_goBeat_51 rfl ?_
              refine r_aald C (i2) (ok_of hG (kdl3 ht) (by decide) (Nat.le_trans ht (by decide))) ht rfl (by first | omega | assumption) dX0_goBeat_52 ?_
              refine r_aload_n C (k := 0) dX0_goBeat_53 rfl ?_
              refine r_getf C 5 (ok_of hG (kdl0 ht) (by decide) (Nat.le_trans ht (by decide))) (kdl0 ht) (by decide) rfl hinX0 (by decide) (by decide +kernel) rfl rfl dX0_goBeat_54 ?_
              refine r_callV C (w' := (s2dr (s0b2 (s0w1 w t) t i2) t i2 ((s0b2 (s0w1 w t) t i2) (t, 8, 0) (5)))) [vI ((s0b2 (s0w1 w t) t i2) (t, 8, 0) (5))] 1 (c_X2_drownIfDisturbed hG ht (by omega) (by exact (hLi.v (v := i2) (by omega)).2.2.2.2.2.2.2.2.2) (by have q := (hLi.v (v := i2) (by omega)).2.2.2.1; exact ⟨by omega, by omega⟩) (by exact hrI _ _)) gX0_goBeat_X2_drownIfDisturbed rfl rfl rfl (by decide +kernel) (Nat.le_of_ble_eq_true rfl) (Nat.le_of_ble_eq_true rfl) ⟨(Nat.zero_le _), (Nat.zero_le _)⟩ (ok_of hG (kdv0 ht (by omega)) (by decide) (Nat.le_trans ht (by decide))) (kdv0 ht (by omega)) (by decide) rfl rfl rfl (Nat.le_of_ble_eq_true rfl) (st' := []) rfl dX0_goBeat_57 (fun hr => ?_)
              refine r_iinc C (k := 1) (lv' := [(1, vI (((i2 + 1 : Nat) : Int))), (0, .ref (adr G (t, 8, 0)))]) dX0_goBeat_60 rfl (by decide) rfl ?_
              refine r_goto C (tgt := 39) dX0_goBeat_63 (by decide) ?_
              have e_9 : (s2dr (s0b2 (s0w1 w t) t i2) t i2 ((s0b2 (s0w1 w t) t i2) (t, 8, 0) (5))) = (s0b2 (s0w1 w t) t (i2 + 1)) := by rfl
              refine Wm.sub (lv' := [(0, .ref (adr G (t, 8, 0))), (1, vI (((i2 + 1 : Nat) : Int)))]) [1, 0] rfl ?_
              refine Wm.mem (lv' := [(0, .ref (adr G (t, 8, 0))), (1, vI ((((i2 + 1) : Nat) : Int)))]) e_9 (by rfl) ?_
              exact ih39 ((i2 + 1)) (by omega) (by omega) (e_9 ▸ hr)
        have e_10 : (s0b1 w t i) = (s0b2 (s0w1 w t) t 0) := by (obtain rfl : i = (w (t, 8, 0) 1).toNat := (by omega)); rfl
        refine Wm.sub (lv' := [(0, .ref (adr G (t, 8, 0))), (1, vI (0))]) [1, 0] rfl ?_
        refine Wm.mem (lv' := [(0, .ref (adr G (t, 8, 0))), (1, vI (((0 : Nat) : Int)))]) e_10 (by rfl) ?_
        exact loop_39 _ (0) (by omega) (Nat.lt_succ_self _) (e_10 ▸ hr)
      · skip
        refine r_aload_n C (k := 0) dX0_goBeat_10 rfl ?_
        refine r_getf C 0 (v := .ref (adr G (t, 8, 3))) (ok_of hG (kdl0 ht) (by decide) (Nat.le_trans ht (by decide))) (kdl0 ht) (by decide) rfl hinX0 (by decide) (by decide +kernel) rfl rfl dX0_goBeat_11 ?_
        refine r_iload_n C (k := 1) dX0_goBeat_14 rfl ?_
        refine r_aald C (i) (ok_of hG (kdl3 ht) (by decide) (Nat.le_trans ht (by decide))) ht rfl (by first | omega | assumption) dX0_goBeat_15 ?_
        refine r_aload_n C (k := 0) dX0_goBeat_16 rfl ?_
        refine r_getf C 5 (ok_of hG (kdl0 ht) (by decide) (Nat.le_trans ht (by decide))) (kdl0 ht) (by decide) rfl hinX0 (by decide) (by decide +kernel) rfl rfl dX0_goBeat_17 ?_
        refine r_callV C (w' := (s0b1 w t i)) [vI ((s0b1 w t i) (t, 8, 0) (5))] 1 (c_X2_isReady hG ht (by omega) (by have q := (hLi.v (v := i) (by omega)).2.2.2.1; exact ⟨by omega, by omega⟩)) gX0_goBeat_X2_isReady rfl rfl rfl (by decide +kernel) (Nat.le_of_ble_eq_true rfl) (Nat.le_of_ble_eq_true rfl) ⟨(Nat.zero_le _), (Nat.zero_le _)⟩ (ok_of hG (kdv0 ht (by omega)) (by decide) (Nat.le_trans ht (by decide))) (kdv0 ht (by omega)) (by decide) rfl rfl rfl (Nat.le_of_ble_eq_true rfl) (st' := [vI (bI ((s0b1 w t i) (t, i, 0) 6 = -1 ∧ 0 < (s0b1 w t i) (t, i, 0) 9 ∧ awk (s0b1 w t i) t i ((s0b1 w t i) (t, 8, 0) (5))))]) rfl dX0_goBeat_20 (fun hr => ?_)
        refine r_if_eqP C (P := (s0b1 w t i) (t, i, 0) 6 = -1 ∧ 0 < (s0b1 w t i) (t, i, 0) 9 ∧ awk (s0b1 w t i) t i ((s0b1 w t i) (t, 8, 0) (5))) (tgt := 31) dX0_goBeat_23 (by decide) (fun h_11 => ?_) (fun h_11 => ?_)
        · skip
          refine r_iinc C (k := 1) (lv' := [(1, vI (((i + 1 : Nat) : Int))), (0, .ref (adr G (t, 8, 0)))]) dX0_goBeat_31 rfl (by decide) rfl ?_
          refine r_goto C (tgt := 2) dX0_goBeat_34 (by decide) ?_
          have e_12 : (s0b1 w t i) = (s0b1 w t (i + 1)) := by (simp only [s0b1]; first | rw [if_pos (by assumption)] | rw [if_neg (by assumption)])
          refine Wm.sub (lv' := [(0, .ref (adr G (t, 8, 0))), (1, vI (((i + 1 : Nat) : Int)))]) [1, 0] rfl ?_
          refine Wm.mem (lv' := [(0, .ref (adr G (t, 8, 0))), (1, vI ((((i + 1) : Nat) : Int)))]) e_12 (by rfl) ?_
          exact ih2 ((i + 1)) (by omega) (by omega) (e_12 ▸ hr)
        · skip
          refine r_aload_n C (k := 0) dX0_goBeat_26 rfl ?_
          refine r_iload_n C (k := 1) dX0_goBeat_27 rfl ?_
          refine r_callV C (w' := (s0beg (s0b1 w t i) t i)) [vI (((i : Nat) : Int))] 1 (c_X0_beginDrumming hG ht (by omega) (by exact hLi) (by exact ⟨by omega, by omega, fun u hu => Int.le_trans (hN3 u hu) (by decide)⟩) (by omega)) gX0_goBeat_X0_beginDrumming rfl rfl rfl (by decide +kernel) (Nat.le_of_ble_eq_true rfl) (Nat.le_of_ble_eq_true rfl) ⟨(Nat.zero_le _), (Nat.zero_le _)⟩ (ok_of hG (kdl0 ht) (by decide) (Nat.le_trans ht (by decide))) (kdl0 ht) (by decide) rfl rfl rfl (Nat.le_of_ble_eq_true rfl) (st' := []) rfl dX0_goBeat_28 (fun hr => ?_)
          refine r_iinc C (k := 1) (lv' := [(1, vI (((i + 1 : Nat) : Int))), (0, .ref (adr G (t, 8, 0)))]) dX0_goBeat_31 rfl (by decide) rfl ?_
          refine r_goto C (tgt := 2) dX0_goBeat_34 (by decide) ?_
          have e_13 : (s0beg (s0b1 w t i) t i) = (s0b1 w t (i + 1)) := by (simp only [s0b1]; first | rw [if_pos (by assumption)] | rw [if_neg (by assumption)])
          refine Wm.sub (lv' := [(0, .ref (adr G (t, 8, 0))), (1, vI (((i + 1 : Nat) : Int)))]) [1, 0] rfl ?_
          refine Wm.mem (lv' := [(0, .ref (adr G (t, 8, 0))), (1, vI ((((i + 1) : Nat) : Int)))]) e_13 (by rfl) ?_
          exact ih2 ((i + 1)) (by omega) (by omega) (e_13 ▸ hr)
  have e_14 : w = (s0b1 w t 0) := by rfl
  refine Wm.sub (lv' := [(0, .ref (adr G (t, 8, 0))), (1, vI (0))]) [1, 0] rfl ?_
  refine Wm.mem (lv' := [(0, .ref (adr G (t, 8, 0))), (1, vI (((0 : Nat) : Int)))]) e_14 (by rfl) ?_
  exact loop_2 _ (0) (by omega) (Nat.lt_succ_self _) (e_14 ▸ hr)

set_option maxRecDepth 100000 in
set_option maxHeartbeats 8000000 in
theorem c_X0_letGo {l : Launch} {G : Gt} (hG : Gok G) {t : Nat} (ht : t ≤ 1) {w : Mm} {b : Nat} {N D : Int} {X : Nat → Int} (hL : LI w t N D X) (hN : N ≤ 800000 ∧ D ≤ 800000000 ∧ ∀ u, u ≤ 7 → X u ≤ 800000000) (hb : b ≤ 200) : Con l G yX0_letGo wsX0_letGo ({ frames := 4, cells := 0, slots := 0, locals := 97 } : Room) w [.ref (adr G (t, 8, 0)), vI ((b : Nat) : Int)] (some (vI ((s0go t b w).2))) ((s0go t b w).1) 0 0 := by
  refine Con.head (cc := cX0_letGo) (nL := 4) (ret := (some .int)) hG (by decide +kernel) rfl (Nat.le_of_ble_eq_true rfl) ?_
  intro B A hBl C hr
  have hr0 := hr
  have hrI := hr
  have hinX0 : ∀ w ∈ u_ws RX0 TX0 7, w ∈ wsX0_letGo := by decide +kernel
  obtain ⟨hN1, hN2, hN3⟩ := hN
  refine r_iconst C dX0_letGo_0 ?_
  refine r_istore_n C (i := 2) (lv' := [(2, vI (0)), (0, .ref (adr G (t, 8, 0))), (1, vI (((b : Nat) : Int)))]) dX0_letGo_1 rfl (by decide) rfl ?_
  refine r_iconst C dX0_letGo_2 ?_
  refine r_istore_n C (i := 3) (lv' := [(3, vI (0)), (2, vI (0)), (0, .ref (adr G (t, 8, 0))), (1, vI (((b : Nat) : Int)))]) dX0_letGo_3 rfl (by decide) rfl ?_
  have loop_4 : ∀ (n : Nat) (g : Nat) (acc : Int) (w2 : Mm), (g ≤ b) → (LI w2 t (N + g) (D + 8 * g) (fun u => X u + 112 * g)) → ((s0go t (b - g) w2).1 = (s0go t b w).1) → (acc + (s0go t (b - g) w2).2 = (s0go t b w).2) → b - g < n → rng w2 → Wm B 4 G A (Qe B G A (some (vI ((s0go t b w).2))) ((s0go t b w).1) 0 0) w2 0 0 4 [(0, .ref (adr G (t, 8, 0))), (1, vI (((b : Nat) : Int))), (2, vI (acc)), (3, vI (((g : Nat) : Int)))] [] := by
    intro n4
    induction n4 with
    | zero => intro g acc w2 hg hLg e1 e2 hm; exact absurd hm (Nat.not_lt_zero _)
    | succ n4 ih4 =>
      intro g acc w2 hg hLg e1 e2 hm hr
      have hrI := hr
      have q5 := hLg.2.2.1
      have q1 := hLg.1
      refine r_iload_n C (k := 3) dX0_letGo_4 rfl ?_
      refine r_iload_n C (k := 1) dX0_letGo_5 rfl ?_
      refine r_icmp_ge C (tgt := 43) dX0_letGo_6 (by decide) (by first | exact hr _ _ | exact hr0 _ _ | exact hrI _ _ | assumption | exact ⟨by omega, by omega⟩) (by first | exact hr _ _ | exact hr0 _ _ | exact hrI _ _ | assumption | exact ⟨by omega, by omega⟩) (fun h_1 => ?_) (fun h_1 => ?_)
      · skip
        refine r_iload_n C (k := 2) dX0_letGo_43 rfl ?_
        exact r_iret C dX0_letGo_44 (by rw [← e2, show b - g = 0 by omega]; simp only [s0go]; rw [Int.add_zero]) (by rw [← e1, show b - g = 0 by omega]; rfl)
      · skip
        refine r_aload_n C (k := 0) dX0_letGo_9 rfl ?_
        refine r_callV C (w' := w2) [] 0 (c_X0_isQuiet hG ht (by exact q1)) gX0_letGo_X0_isQuiet rfl rfl rfl (by decide +kernel) (Nat.le_of_ble_eq_true rfl) (Nat.le_of_ble_eq_true rfl) ⟨(Nat.zero_le _), (Nat.zero_le _)⟩ (ok_of hG (kdl0 ht) (by decide) (Nat.le_trans ht (by decide))) (kdl0 ht) (by decide) rfl rfl rfl (Nat.le_of_ble_eq_true rfl) (st' := [vI (bI (s0quiet w2 t))]) rfl dX0_letGo_10 (fun hr => ?_)
        refine r_if_eqP C (P := s0quiet w2 t) (tgt := 30) dX0_letGo_13 (by decide) (fun h_2 => ?_) (fun h_2 => ?_)
        · skip
          refine r_iload_n C (k := 2) dX0_letGo_30 rfl ?_
          refine r_aload_n C (k := 0) dX0_letGo_31 rfl ?_
          refine r_callV C (w' := (s0beat w2 t)) [] 0 (c_X0_goBeat hG ht (by exact hLg) (by exact ⟨by omega, by omega, fun u hu => by have q := hN3 u hu; show X u + 112 * (g : Int) ≤ 900000000; omega⟩)) gX0_letGo_X0_goBeat rfl rfl rfl (by decide +kernel) (Nat.le_of_ble_eq_true rfl) (Nat.le_of_ble_eq_true rfl) ⟨(Nat.zero_le _), (Nat.zero_le _)⟩ (ok_of hG (kdl0 ht) (by decide) (Nat.le_trans ht (by decide))) (kdl0 ht) (by decide) rfl rfl rfl (Nat.le_of_ble_eq_true rfl) (st' := [vI (((s0w3 w2 t).2)), vI (acc)]) rfl dX0_letGo_32 (fun hr => ?_)
          refine r_iadd C dX0_letGo_35 ?_
          refine r_istore_n C (i := 2) (lv' := [(2, vI ((acc + ((s0w3 w2 t).2)))), (0, .ref (adr G (t, 8, 0))), (1, vI (((b : Nat) : Int))), (3, vI (((g : Nat) : Int)))]) dX0_letGo_36 rfl (by decide) rfl ?_
          refine r_iinc C (k := 3) (lv' := [(3, vI (((g + 1 : Nat) : Int))), (2, vI ((acc + ((s0w3 w2 t).2)))), (0, .ref (adr G (t, 8, 0))), (1, vI (((b : Nat) : Int)))]) dX0_letGo_37 rfl (by decide) rfl ?_
          refine r_goto C (tgt := 4) dX0_letGo_40 (by decide) ?_
          have e_3 : (s0beat w2 t) = ((s0beat w2 t)) := by rfl
          refine Wm.sub (lv' := [(0, .ref (adr G (t, 8, 0))), (1, vI (((b : Nat) : Int))), (2, vI ((acc + ((s0w3 w2 t).2)))), (3, vI (((g + 1 : Nat) : Int)))]) [2, 3, 1, 0] rfl ?_
          refine Wm.mem (lv' := [(0, .ref (adr G (t, 8, 0))), (1, vI (((b : Nat) : Int))), (2, vI ((acc + (s0w3 w2 t).2))), (3, vI ((((g + 1) : Nat) : Int)))]) e_3 (by rfl) ?_
          exact ih4 ((g + 1)) ((acc + (s0w3 w2 t).2)) ((s0beat w2 t)) (by omega) (by exact (LI_beat hLg).1.mono (by omega) (by omega) (fun v _ => by show X v + 112 * (g : Int) + 112 ≤ X v + 112 * ((g + 1 : Nat) : Int); omega)) (by rw [← e1, show b - g = (b - (g + 1)) + 1 by omega]; simp only [s0go]; rw [if_neg (by assumption)]) (by rw [← e2, show b - g = (b - (g + 1)) + 1 by omega]; simp only [s0go]; rw [if_neg (by assumption), Int.add_assoc]) (by omega) (e_3 ▸ hr)
        · skip
          refine r_aload_n C (k := 0) dX0_letGo_16 rfl ?_
          refine r_dup C dX0_letGo_17 rfl ?_
          refine r_getf C 5 (ok_of hG (kdl0 ht) (by decide) (Nat.le_trans ht (by decide))) (kdl0 ht) (by decide) rfl hinX0 (by decide) (by decide +kernel) rfl rfl dX0_letGo_18 ?_
          refine r_iload_n C (k := 1) dX0_letGo_21 rfl ?_
          refine r_iload_n C (k := 3) dX0_letGo_22 rfl ?_
          refine r_isub C dX0_letGo_23 ?_
          refine r_iadd C dX0_letGo_24 ?_
          refine r_putf C 5 hr (by first | exact hr _ _ | exact hr0 _ _ | exact hrI _ _ | assumption | exact ⟨by omega, by omega⟩) (ok_of hG (kdl0 ht) (by decide) (Nat.le_trans ht (by decide))) (kdl0 ht) (by decide) rfl hinX0 tyX0_ok nmX0 (by decide) (by decide +kernel) rfl rfl (ty := .int) (by decide +kernel) rfl rfl rfl (Nat.le_of_ble_eq_true rfl) dX0_letGo_25 (fun hr => ?_)
          refine r_iload_n C (k := 2) dX0_letGo_28 rfl ?_
          exact r_iret C dX0_letGo_29 (by rw [← e2, show b - g = (b - (g + 1)) + 1 by omega]; simp only [s0go]; rw [if_pos (by assumption), Int.add_zero]) (by rw [← e1, show b - g = (b - (g + 1)) + 1 by omega]; simp only [s0go]; rw [if_pos (by assumption)]; exact congrArg (fun z => st1 w2 (t, 8, 0) 5 z) (by omega))
  have e_4 : w = w := by rfl
  refine Wm.sub (lv' := [(0, .ref (adr G (t, 8, 0))), (1, vI (((b : Nat) : Int))), (2, vI (0)), (3, vI (0))]) [2, 3, 1, 0] rfl ?_
  refine Wm.mem (lv' := [(0, .ref (adr G (t, 8, 0))), (1, vI (((b : Nat) : Int))), (2, vI (0)), (3, vI (((0 : Nat) : Int)))]) e_4 (by rfl) ?_
  exact loop_4 _ (0) (0) (w) (by omega) (by exact hL.mono (by simp) (by simp) (fun v _ => by simp)) (by rfl) (by simp) (Nat.lt_succ_self _) (e_4 ▸ hr)

set_option maxRecDepth 100000 in
set_option maxHeartbeats 8000000 in
theorem c_X0_copy {l : Launch} {G : Gt} (hG : Gok G) {t : Nat} {t2 : Nat} (ht : t ≤ 1) (ht2 : t2 ≤ 1) {w : Mm} (hv0 : 0 ≤ w (t2, 8, 0) 1 ∧ w (t2, 8, 0) 1 ≤ 8) (hs : ∀ v, v ≤ 7 → (w (t2, v, 0) 3 = 0 ∨ w (t2, v, 0) 3 = 1) ∧ (0 ≤ w (t2, v, 3) 4 ∧ w (t2, v, 3) 4 ≤ 112)) (hne : t ≠ t2) : Con l G yX0_copy wsX0_copy ({ frames := 3, cells := 0, slots := 0, locals := 68 } : Room) w [.ref (adr G (t, 8, 0)), .ref (adr G (t2, 8, 0))] none (s0cp w t t2) 0 0 := by
  refine Con.head (cc := cX0_copy) (nL := 3) (ret := none) hG (by decide +kernel) rfl (Nat.le_of_ble_eq_true rfl) ?_
  intro B A hBl C hr
  have hr0 := hr
  have hrI := hr
  have hinX0 : ∀ w ∈ u_ws RX0 TX0 7, w ∈ wsX0_copy := by decide +kernel
  obtain ⟨v1, v2⟩ := hv0
  have hne2 : t2 ≠ t := fun q => hne q.symm
  refine r_iconst C dX0_copy_0 ?_
  refine r_istore_n C (i := 2) (lv' := [(2, vI (0)), (0, .ref (adr G (t, 8, 0))), (1, .ref (adr G (t2, 8, 0)))]) dX0_copy_1 rfl (by decide) rfl ?_
  have loop_2 : ∀ (n : Nat) (i : Nat), (i ≤ (w (t2, 8, 0) 1).toNat) → (w (t2, 8, 0) 1).toNat - i < n → rng (s0cpV w t t2 i) → Wm B 3 G A (Qe B G A none (s0cp w t t2) 0 0) (s0cpV w t t2 i) 0 0 2 [(0, .ref (adr G (t, 8, 0))), (1, .ref (adr G (t2, 8, 0))), (2, vI (((i : Nat) : Int)))] [] := by
    intro n2
    induction n2 with
    | zero => intro i hi hm; exact absurd hm (Nat.not_lt_zero _)
    | succ n2 ih2 =>
      intro i hi hm hr
      have hrI := hr
      have eo : ∀ v p j, s0cpV w t t2 i (t2, v, p) j = w (t2, v, p) j := fun v p j => s0cpV_off hne2 i
      refine r_iload_n C (k := 2) dX0_copy_2 rfl ?_
      refine r_aload_n C (k := 1) dX0_copy_3 rfl ?_
      refine r_getf C 1 (ok_of hG (kdl0 ht2) (by decide) (Nat.le_trans ht2 (by decide))) (kdl0 ht2) (by decide) rfl hinX0 (by decide) (by decide +kernel) rfl rfl dX0_copy_4 ?_
      refine Wm.top (z' := w (t2, 8, 0) (1)) (by simp [st1, cpy, s0cpV_off, hne, hne2]) ?_
      refine r_icmp_ge C (tgt := 31) dX0_copy_7 (by decide) (by first | exact hr _ _ | exact hr0 _ _ | exact hrI _ _ | assumption | exact ⟨by omega, by omega⟩) (by first | exact hr _ _ | exact hr0 _ _ | exact hrI _ _ | assumption | exact ⟨by omega, by omega⟩) (fun h_1 => ?_) (fun h_1 => ?_)
      · skip
        refine r_aload_n C (k := 0) dX0_copy_31 rfl ?_
        refine r_aload_n C (k := 1) dX0_copy_32 rfl ?_
        refine r_getf C 1 (ok_of hG (kdl0 ht2) (by decide) (Nat.le_trans ht2 (by decide))) (kdl0 ht2) (by decide) rfl hinX0 (by decide) (by decide +kernel) rfl rfl dX0_copy_33 ?_
        refine Wm.top (z' := w (t2, 8, 0) (1)) (by simp [st1, cpy, s0cpV_off, hne, hne2]) ?_
        refine r_putf C 1 hr (by first | exact hr _ _ | exact hr0 _ _ | exact hrI _ _ | assumption | exact ⟨by omega, by omega⟩) (ok_of hG (kdl0 ht) (by decide) (Nat.le_trans ht (by decide))) (kdl0 ht) (by decide) rfl hinX0 tyX0_ok nmX0 (by decide) (by decide +kernel) rfl rfl (ty := .int) (by decide +kernel) rfl rfl rfl (Nat.le_of_ble_eq_true rfl) dX0_copy_36 (fun hr => ?_)
        refine r_aload_n C (k := 1) dX0_copy_39 rfl ?_
        refine r_getf C 2 (v := .ref (adr G (t2, 8, 1))) (ok_of hG (kdl0 ht2) (by decide) (Nat.le_trans ht2 (by decide))) (kdl0 ht2) (by decide) rfl hinX0 (by decide) (by decide +kernel) rfl rfl dX0_copy_40 ?_
        refine r_iconst C dX0_copy_43 ?_
        refine r_aload_n C (k := 0) dX0_copy_44 rfl ?_
        refine r_getf C 2 (v := .ref (adr G (t, 8, 1))) (ok_of hG (kdl0 ht) (by decide) (Nat.le_trans ht (by decide))) (kdl0 ht) (by decide) rfl hinX0 (by decide) (by decide +kernel) rfl rfl dX0_copy_45 ?_
        refine r_iconst C dX0_copy_48 ?_
        refine r_bipush C dX0_copy_49 (by decide) ?_
        refine r_copy C (0) (0) (12) hr (ok_of hG (kdl1 ht2) (by decide) (Nat.le_trans ht2 (by decide))) (ok_of hG (kdl1 ht) (by decide) (Nat.le_trans ht (by decide))) (kdl1 ht2) (kdl1 ht) rfl rfl rfl (by first | omega | assumption) (by first | omega | assumption) (by decide) (by decide) (by decide +kernel) (by decide +kernel) (by decide +kernel) (by decide +kernel) (Nat.le_of_ble_eq_true rfl) (Nat.le_of_ble_eq_true rfl) dX0_copy_51 (fun hr => ?_)
        refine r_aload_n C (k := 1) dX0_copy_54 rfl ?_
        refine r_getf C 3 (v := .ref (adr G (t2, 8, 2))) (ok_of hG (kdl0 ht2) (by decide) (Nat.le_trans ht2 (by decide))) (kdl0 ht2) (by decide) rfl hinX0 (by decide) (by decide +kernel) rfl rfl dX0_copy_55 ?_
        refine r_iconst C dX0_copy_58 ?_
        refine r_aload_n C (k := 0) dX0_copy_59 rfl ?_
        refine r_getf C 3 (v := .ref (adr G (t, 8, 2))) (ok_of hG (kdl0 ht) (by decide) (Nat.le_trans ht (by decide))) (kdl0 ht) (by decide) rfl hinX0 (by decide) (by decide +kernel) rfl rfl dX0_copy_60 ?_
        refine r_iconst C dX0_copy_63 ?_
        refine r_bipush C dX0_copy_64 (by decide) ?_
        refine r_copy C (0) (0) (12) hr (ok_of hG (kdl2 ht2) (by decide) (Nat.le_trans ht2 (by decide))) (ok_of hG (kdl2 ht) (by decide) (Nat.le_trans ht (by decide))) (kdl2 ht2) (kdl2 ht) rfl rfl rfl (by first | omega | assumption) (by first | omega | assumption) (by decide) (by decide) (by decide +kernel) (by decide +kernel) (by decide +kernel) (by decide +kernel) (Nat.le_of_ble_eq_true rfl) (Nat.le_of_ble_eq_true rfl) dX0_copy_66 (fun hr => ?_)
        refine r_aload_n C (k := 0) dX0_copy_69 rfl ?_
        refine r_aload_n C (k := 1) dX0_copy_70 rfl ?_
        refine r_getf C 4 (ok_of hG (kdl0 ht2) (by decide) (Nat.le_trans ht2 (by decide))) (kdl0 ht2) (by decide) rfl hinX0 (by decide) (by decide +kernel) rfl rfl dX0_copy_71 ?_
        refine Wm.top (z' := w (t2, 8, 0) (4)) (by simp [st1, cpy, s0cpV_off, hne, hne2]) ?_
        refine r_putf C 4 hr (by first | exact hr _ _ | exact hr0 _ _ | exact hrI _ _ | assumption | exact ⟨by omega, by omega⟩) (ok_of hG (kdl0 ht) (by decide) (Nat.le_trans ht (by decide))) (kdl0 ht) (by decide) rfl hinX0 tyX0_ok nmX0 (by decide) (by decide +kernel) rfl rfl (ty := .int) (by decide +kernel) rfl rfl rfl (Nat.le_of_ble_eq_true rfl) dX0_copy_74 (fun hr => ?_)
        refine r_aload_n C (k := 0) dX0_copy_77 rfl ?_
        refine r_aload_n C (k := 1) dX0_copy_78 rfl ?_
        refine r_getf C 5 (ok_of hG (kdl0 ht2) (by decide) (Nat.le_trans ht2 (by decide))) (kdl0 ht2) (by decide) rfl hinX0 (by decide) (by decide +kernel) rfl rfl dX0_copy_79 ?_
        refine Wm.top (z' := w (t2, 8, 0) (5)) (by simp [st1, cpy, s0cpV_off, hne, hne2]) ?_
        refine r_putf C 5 hr (by first | exact hr _ _ | exact hr0 _ _ | exact hrI _ _ | assumption | exact ⟨by omega, by omega⟩) (ok_of hG (kdl0 ht) (by decide) (Nat.le_trans ht (by decide))) (kdl0 ht) (by decide) rfl hinX0 tyX0_ok nmX0 (by decide) (by decide +kernel) rfl rfl (ty := .int) (by decide +kernel) rfl rfl rfl (Nat.le_of_ble_eq_true rfl) dX0_copy_82 (fun hr => ?_)
        refine r_aload_n C (k := 0) dX0_copy_85 rfl ?_
        refine r_aload_n C (k := 1) dX0_copy_86 rfl ?_
        refine r_getf C 6 (ok_of hG (kdl0 ht2) (by decide) (Nat.le_trans ht2 (by decide))) (kdl0 ht2) (by decide) rfl hinX0 (by decide) (by decide +kernel) rfl rfl dX0_copy_87 ?_
        refine Wm.top (z' := w (t2, 8, 0) (6)) (by simp [st1, cpy, s0cpV_off, hne, hne2]) ?_
        refine r_putf C 6 hr (by first | exact hr _ _ | exact hr0 _ _ | exact hrI _ _ | assumption | exact ⟨by omega, by omega⟩) (ok_of hG (kdl0 ht) (by decide) (Nat.le_trans ht (by decide))) (kdl0 ht) (by decide) rfl hinX0 tyX0_ok nmX0 (by decide) (by decide +kernel) rfl rfl (ty := .int) (by decide +kernel) rfl rfl rfl (Nat.le_of_ble_eq_true rfl) dX0_copy_90 (fun hr => ?_)
        exact r_vret C dX0_copy_93 (by (obtain rfl : i = (w (t2, 8, 0) 1).toNat := (by omega)); rfl)
      · skip
        refine r_aload_n C (k := 0) dX0_copy_10 rfl ?_
        refine r_getf C 0 (v := .ref (adr G (t, 8, 3))) (ok_of hG (kdl0 ht) (by decide) (Nat.le_trans ht (by decide))) (kdl0 ht) (by decide) rfl hinX0 (by decide) (by decide +kernel) rfl rfl dX0_copy_11 ?_
        refine r_iload_n C (k := 2) dX0_copy_14 rfl ?_
        refine r_aald C (i) (ok_of hG (kdl3 ht) (by decide) (Nat.le_trans ht (by decide))) ht rfl (by first | omega | assumption) dX0_copy_15 ?_
        refine r_aload_n C (k := 1) dX0_copy_16 rfl ?_
        refine r_getf C 0 (v := .ref (adr G (t2, 8, 3))) (ok_of hG (kdl0 ht2) (by decide) (Nat.le_trans ht2 (by decide))) (kdl0 ht2) (by decide) rfl hinX0 (by decide) (by decide +kernel) rfl rfl dX0_copy_17 ?_
        refine r_iload_n C (k := 2) dX0_copy_20 rfl ?_
        refine r_aald C (i) (ok_of hG (kdl3 ht2) (by decide) (Nat.le_trans ht2 (by decide))) ht2 rfl (by first | omega | assumption) dX0_copy_21 ?_
        refine r_callV C (w' := (s2cp (s0cpV w t t2 i) t i t2 i)) [.ref (adr G (t2, i, 0))] 1 (c_X2_copy hG ht (by omega) ht2 (by omega) (by rw [eo]; exact (hs i (by omega)).2) (by first | assumption | omega | exact hr _ _ | exact hr0 _ _ | exact hrI _ _ | exact ⟨by omega, by omega⟩ | exact bI_inR _ | (simp [st1] <;> omega) | exact rowR.so (by assumption) (by simp)) (by rw [eo]; exact (hs i (by omega)).1)) gX0_copy_X2_copy rfl rfl rfl (by decide +kernel) (Nat.le_of_ble_eq_true rfl) (Nat.le_of_ble_eq_true rfl) ⟨(Nat.zero_le _), (Nat.zero_le _)⟩ (ok_of hG (kdv0 ht (by omega)) (by decide) (Nat.le_trans ht (by decide))) (kdv0 ht (by omega)) (by decide) rfl rfl rfl (Nat.le_of_ble_eq_true rfl) (st' := []) rfl dX0_copy_22 (fun hr => ?_)
        refine r_iinc C (k := 2) (lv' := [(2, vI (((i + 1 : Nat) : Int))), (0, .ref (adr G (t, 8, 0))), (1, .ref (adr G (t2, 8, 0)))]) dX0_copy_25 rfl (by decide) rfl ?_
        refine r_goto C (tgt := 2) dX0_copy_28 (by decide) ?_
        have e_2 : (s2cp (s0cpV w t t2 i) t i t2 i) = (s0cpV w t t2 (i + 1)) := by rfl
        refine Wm.sub (lv' := [(0, .ref (adr G (t, 8, 0))), (1, .ref (adr G (t2, 8, 0))), (2, vI (((i + 1 : Nat) : Int)))]) [1, 2, 0] rfl ?_
        refine Wm.mem (lv' := [(0, .ref (adr G (t, 8, 0))), (1, .ref (adr G (t2, 8, 0))), (2, vI ((((i + 1) : Nat) : Int)))]) e_2 (by rfl) ?_
        exact ih2 ((i + 1)) (by omega) (by omega) (e_2 ▸ hr)
  have e_3 : w = (s0cpV w t t2 0) := by rfl
  refine Wm.sub (lv' := [(0, .ref (adr G (t, 8, 0))), (1, .ref (adr G (t2, 8, 0))), (2, vI (0))]) [1, 2, 0] rfl ?_
  refine Wm.mem (lv' := [(0, .ref (adr G (t, 8, 0))), (1, .ref (adr G (t2, 8, 0))), (2, vI (((0 : Nat) : Int)))]) e_3 (by rfl) ?_
  exact loop_2 _ (0) (by omega) (Nat.lt_succ_self _) (e_3 ▸ hr)

set_option maxRecDepth 100000 in
set_option maxHeartbeats 8000000 in
theorem c_X0_hearersOf {l : Launch} {G : Gt} (hG : Gok G) {t : Nat} (ht : t ≤ 1) {w : Mm} {M : Nat} {N D : Int} {X : Nat → Int} (hL : LI w t N D X) (hM : M < 2 ^ 8) : Con l G yX0_hearersOf wsX0_hearersOf ({ frames := 2, cells := 0, slots := 0, locals := 42 } : Room) w [.ref (adr G (t, 8, 0)), vI ((M : Nat) : Int)] (some (vI (((hout w t M (w (t, 8, 0) 1).toNat (w (t, 8, 0) 1).toNat : Nat) : Int)))) w 0 0 := by
  refine Con.head (cc := cX0_hearersOf) (nL := 5) (ret := (some .int)) hG (by decide +kernel) rfl (Nat.le_of_ble_eq_true rfl) ?_
  intro B A hBl C hr
  have hr0 := hr
  have hrI := hr
  have hinX0 : ∀ w ∈ u_ws RX0 TX0 7, w ∈ wsX0_hearersOf := by decide +kernel
  have hL0 := hL
  have hM2 : M < 256 := hM
  obtain ⟨⟨v1, v2⟩, -⟩ := hL
  have hn8 : (w (t, 8, 0) 1).toNat ≤ 8 := by omega
  refine r_iconst C dX0_hearersOf_0 ?_
  refine r_istore_n C (i := 2) (lv' := [(2, vI (0)), (0, .ref (adr G (t, 8, 0))), (1, vI (((M : Nat) : Int)))]) dX0_hearersOf_1 rfl (by decide) rfl ?_
  refine r_iconst C dX0_hearersOf_2 ?_
  refine r_istore_n C (i := 3) (lv' := [(3, vI (0)), (2, vI (0)), (0, .ref (adr G (t, 8, 0))), (1, vI (((M : Nat) : Int)))]) dX0_hearersOf_3 rfl (by decide) rfl ?_
  have loop_4 : ∀ (n : Nat) (i : Nat), (i ≤ (w (t, 8, 0) 1).toNat) → (w (t, 8, 0) 1).toNat - i < n → rng w → Wm B 5 G A (Qe B G A (some (vI (((hout w t M (w (t, 8, 0) 1).toNat (w (t, 8, 0) 1).toNat : Nat) : Int)))) w 0 0) w 0 0 4 [(0, .ref (adr G (t, 8, 0))), (1, vI (((M : Nat) : Int))), (2, vI (((hout w t M (w (t, 8, 0) 1).toNat i : Nat) : Int))), (3, vI (((i : Nat) : Int)))] [] := by
    intro n4
    induction n4 with
    | zero => intro i hi hm; exact absurd hm (Nat.not_lt_zero _)
    | succ n4 ih4 =>
      intro i hi hm hr
      have hrI := hr
      have hol := hout_lt (w := w) (t := t) (M := M) hn8 i
      refine r_iload_n C (k := 3) dX0_hearersOf_4 rfl ?_
      refine r_aload_n C (k := 0) dX0_hearersOf_5 rfl ?_
      refine r_getf C 1 (ok_of hG (kdl0 ht) (by decide) (Nat.le_trans ht (by decide))) (kdl0 ht) (by decide) rfl hinX0 (by decide) (by decide +kernel) rfl rfl dX0_hearersOf_6 ?_
      refine r_icmp_ge C (tgt := 80) dX0_hearersOf_9 (by decide) (by first | exact hr _ _ | exact hr0 _ _ | exact hrI _ _ | assumption | exact ⟨by omega, by omega⟩) (by first | exact hr _ _ | exact hr0 _ _ | exact hrI _ _ | assumption | exact ⟨by omega, by omega⟩) (fun h_1 => ?_) (fun h_1 => ?_)
      · skip
        refine r_iload_n C (k := 2) dX0_hearersOf_80 rfl ?_
        exact r_iret C dX0_hearersOf_81 (by (obtain rfl : i = (w (t, 8, 0) 1).toNat := (by omega)); rfl) (by first | rfl | (simp [*]; done))
      · skip
        refine r_iload_n C (k := 1) dX0_hearersOf_12 rfl ?_
        refine r_iload_n C (k := 3) dX0_hearersOf_13 rfl ?_
        refine r_ishrN C dX0_hearersOf_14 (by omega) (by omega) ?_
        refine r_iconst C dX0_hearersOf_15 ?_
        refine r_iandN C dX0_hearersOf_16 (Nat.lt_of_le_of_lt (Nat.div_le_self _ _) (by omega)) ?_
        refine r_iconst C dX0_hearersOf_17 ?_
        refine r_icmp_ne C (tgt := 74) dX0_hearersOf_18 (by decide) (by first | exact hr _ _ | exact hr0 _ _ | exact hrI _ _ | assumption | exact ⟨by omega, by omega⟩) ⟨by decide, by decide⟩ (fun h_2 => ?_) (fun h_2 => ?_)
        · skip
          refine r_iinc C (k := 3) (lv' := [(3, vI (((i + 1 : Nat) : Int))), (0, .ref (adr G (t, 8, 0))), (1, vI (((M : Nat) : Int))), (2, vI (((hout w t M (w (t, 8, 0) 1).toNat i : Nat) : Int)))]) dX0_hearersOf_74 rfl (by decide) rfl ?_
          refine r_goto C (tgt := 4) dX0_hearersOf_77 (by decide) ?_
          have e_3 : w = w := by rfl
          refine Wm.sub (lv' := [(0, .ref (adr G (t, 8, 0))), (1, vI (((M : Nat) : Int))), (2, vI (((hout w t M (w (t, 8, 0) 1).toNat i : Nat) : Int))), (3, vI (((i + 1 : Nat) : Int)))]) [1, 2, 3, 0] rfl ?_
          refine Wm.mem (lv' := [(0, .ref (adr G (t, 8, 0))), (1, vI (((M : Nat) : Int))), (2, vI (((hout w t M (w (t, 8, 0) 1).toNat (i + 1) : Nat) : Int))), (3, vI ((((i + 1) : Nat) : Int)))]) e_3 (by (simp only [hout]; first | (rw [if_pos (by assumption)]; done) | (rw [if_neg (by assumption)]; done) | (obtain rfl : j = (w (t, 8, 0) 1).toNat := (by omega); rw [if_pos (by assumption)]))) ?_
          exact ih4 ((i + 1)) (by omega) (by omega) (e_3 ▸ hr)
        · skip
          refine r_iconst C dX0_hearersOf_21 ?_
          refine r_istore C (i := 4) (lv' := [(4, vI (0)), (0, .ref (adr G (t, 8, 0))), (1, vI (((M : Nat) : Int))), (2, vI (((hout w t M (w (t, 8, 0) 1).toNat i : Nat) : Int))), (3, vI (((i : Nat) : Int)))]) dX0_hearersOf_22 (by decide) rfl ?_
          have loop_24 : ∀ (n : Nat) (j : Nat), (j ≤ (w (t, 8, 0) 1).toNat) → (w (t, 8, 0) 1).toNat - j < n → rng w → Wm B 5 G A (Qe B G A (some (vI (((hout w t M (w (t, 8, 0) 1).toNat (w (t, 8, 0) 1).toNat : Nat) : Int)))) w 0 0) w 0 0 24 [(0, .ref (adr G (t, 8, 0))), (1, vI (((M : Nat) : Int))), (2, vI (((hin w t i (hout w t M (w (t, 8, 0) 1).toNat i) j : Nat) : Int))), (3, vI (((i : Nat) : Int))), (4, vI (((j : Nat) : Int)))] [] := by
            intro n24
            induction n24 with
            | zero => intro j hj hm; exact absurd hm (Nat.not_lt_zero _)
            | succ n24 ih24 =>
              intro j hj hm hr
              have hrI := hr
              have hil := hin_lt (w := w) (t := t) (a := i) hol j (by omega)
              refine r_iload C (k := 4) dX0_hearersOf_24 rfl ?_
              refine r_aload_n C (k := 0) dX0_hearersOf_26 rfl ?_
              refine r_getf C 1 (ok_of hG (kdl0 ht) (by decide) (Nat.le_trans ht (by decide))) (kdl0 ht) (by decide) rfl hinX0 (by decide) (by decide +kernel) rfl rfl dX0_hearersOf_27 ?_
              refine r_icmp_ge C (tgt := 74) dX0_hearersOf_30 (by decide) (by first | exact hr _ _ | exact hr0 _ _ | exact hrI _ _ | assumption | exact ⟨by omega, by omega⟩) (by first | exact hr _ _ | exact hr0 _ _ | exact hrI _ _ | assumption | exact ⟨by omega, by omega⟩) (fun h_4 => ?_) (fun h_4 => ?_)
              · skip
                refine r_iinc C (k := 3) (lv' := [(3, vI (((i + 1 : Nat) : Int))), (0, .ref (adr G (t, 8, 0))), (1, vI (((M : Nat) : Int))), (2, vI (((hin w t i (hout w t M (w (t, 8, 0) 1).toNat i) j : Nat) : Int))), (4, vI (((j : Nat) : Int)))]) dX0_hearersOf_74 rfl (by decide) rfl ?_
                refine r_goto C (tgt := 4) dX0_hearersOf_77 (by decide) ?_
                have e_5 : w = w := by rfl
                refine Wm.sub (lv' := [(0, .ref (adr G (t, 8, 0))), (1, vI (((M : Nat) : Int))), (2, vI (((hin w t i (hout w t M (w (t, 8, 0) 1).toNat i) j : Nat) : Int))), (3, vI (((i + 1 : Nat) : Int)))]) [1, 2, 3, 0] rfl ?_
                refine Wm.mem (lv' := [(0, .ref (adr G (t, 8, 0))), (1, vI (((M : Nat) : Int))), (2, vI (((hout w t M (w (t, 8, 0) 1).toNat (i + 1) : Nat) : Int))), (3, vI ((((i + 1) : Nat) : Int)))]) e_5 (by (simp only [hout]; first | (rw [if_pos (by assumption)]; done) | (rw [if_neg (by assumption)]; done) | (obtain rfl : j = (w (t, 8, 0) 1).toNat := (by omega); rw [if_pos (by assumption)]))) ?_
                exact ih4 ((i + 1)) (by omega) (by omega) (e_5 ▸ hr)
              · skip
                refine r_aload_n C (k := 0) dX0_hearersOf_33 rfl ?_
                refine r_getf C 0 (v := .ref (adr G (t, 8, 3))) (ok_of hG (kdl0 ht) (by decide) (Nat.le_trans ht (by decide))) (kdl0 ht) (by decide) rfl hinX0 (by decide) (by decide +kernel) rfl rfl dX0_hearersOf_34 ?_
                refine r_iload_n C (k := 3) dX0_hearersOf_37 rfl ?_
                refine r_aald C (i) (ok_of hG (kdl3 ht) (by decide) (Nat.le_trans ht (by decide))) ht rfl (by first | omega | assumption) dX0_hearersOf_38 ?_
                refine r_aload_n C (k := 0) dX0_hearersOf_39 rfl ?_
                refine r_getf C 0 (v := .ref (adr G (t, 8, 3))) (ok_of hG (kdl0 ht) (by decide) (Nat.le_trans ht (by decide))) (kdl0 ht) (by decide) rfl hinX0 (by decide) (by decide +kernel) rfl rfl dX0_hearersOf_40 ?_
                refine r_iload_n C (k := 3) dX0_hearersOf_43 rfl ?_
                refine r_aald C (i) (ok_of hG (kdl3 ht) (by decide) (Nat.le_trans ht (by decide))) ht rfl (by first | omega | assumption) dX0_hearersOf_44 ?_
                refine r_aload_n C (k := 0) dX0_hearersOf_45 rfl ?_
                refine r_getf C 0 (v := .ref (adr G (t, 8, 3))) (ok_of hG (kdl0 ht) (by decide) (Nat.le_trans ht (by decide))) (kdl0 ht) (by decide) rfl hinX0 (by decide) (by decide +kernel) rfl rfl dX0_hearersOf_46 ?_
                refine r_iload C (k := 4) dX0_hearersOf_49 rfl ?_
                refine r_aald C (j) (ok_of hG (kdl3 ht) (by decide) (Nat.le_trans ht (by decide))) ht rfl (by first | omega | assumption) dX0_hearersOf_51 ?_
                refine r_callV C (w' := w) [.ref (adr G (t, j, 0))] 1 (c_X2_distanceTo hG ht (by omega) ht (by omega) (by exact (hL0.v (by omega)).1) (by exact (hL0.v (by omega)).1)) gX0_hearersOf_X2_distanceTo rfl rfl rfl (by decide +kernel) (Nat.le_of_ble_eq_true rfl) (Nat.le_of_ble_eq_true rfl) ⟨(Nat.zero_le _), (Nat.zero_le _)⟩ (ok_of hG (kdv0 ht (by omega)) (by decide) (Nat.le_trans ht (by decide))) (kdv0 ht (by omega)) (by decide) rfl rfl rfl (Nat.le_of_ble_eq_true rfl) (st' := [vI ((s2dist w t i t j)), .ref (adr G (t, i, 0))]) rfl dX0_hearersOf_52 (fun hr => ?_)
                refine r_callV C (w' := w) [vI ((s2dist w t i t j))] 1 (c_X2_isHeardAt hG ht (by omega) (by exact (hL0.v (by omega)).2.1) (by have := s2dist_le (hL0.v (v := i) (by omega)) (hL0.v (v := j) (by omega)); exact ⟨by omega, by omega⟩)) gX0_hearersOf_X2_isHeardAt rfl rfl rfl (by decide +kernel) (Nat.le_of_ble_eq_true rfl) (Nat.le_of_ble_eq_true rfl) ⟨(Nat.zero_le _), (Nat.zero_le _)⟩ (ok_of hG (kdv0 ht (by omega)) (by decide) (Nat.le_trans ht (by decide))) (kdv0 ht (by omega)) (by decide) rfl rfl rfl (Nat.le_of_ble_eq_true rfl) (st' := [vI (bI (((s2dist w t i t j)) ≤ 3 * w (t, i, 0) 2))]) rfl dX0_hearersOf_55 (fun hr => ?_)
                refine r_if_eqP C (P := ((s2dist w t i t j)) ≤ 3 * w (t, i, 0) 2) (tgt := 68) dX0_hearersOf_58 (by decide) (fun h_6 => ?_) (fun h_6 => ?_)
                · skip
                  refine r_iinc C (k := 4) (lv' := [(4, vI (((j + 1 : Nat) : Int))), (0, .ref (adr G (t, 8, 0))), (1, vI (((M : Nat) : Int))), (2, vI (((hin w t i (hout w t M (w (t, 8, 0) 1).toNat i) j : Nat) : Int))), (3, vI (((i : Nat) : Int)))]) dX0_hearersOf_68 rfl (by decide) rfl ?_
                  refine r_goto C (tgt := 24) dX0_hearersOf_71 (by decide) ?_
                  have e_7 : w = w := by rfl
                  refine Wm.sub (lv' := [(0, .ref (adr G (t, 8, 0))), (1, vI (((M : Nat) : Int))), (2, vI (((hin w t i (hout w t M (w (t, 8, 0) 1).toNat i) j : Nat) : Int))), (3, vI (((i : Nat) : Int))), (4, vI (((j + 1 : Nat) : Int)))]) [1, 2, 3, 4, 0] rfl ?_
                  refine Wm.mem (lv' := [(0, .ref (adr G (t, 8, 0))), (1, vI (((M : Nat) : Int))), (2, vI (((hin w t i (hout w t M (w (t, 8, 0) 1).toNat i) (j + 1) : Nat) : Int))), (3, vI (((i : Nat) : Int))), (4, vI ((((j + 1) : Nat) : Int)))]) e_7 (by (simp only [hin]; first | rw [if_pos (by assumption)] | rw [if_neg (by assumption)])) ?_
                  exact ih24 ((j + 1)) (by omega) (by omega) (e_7 ▸ hr)
                · skip
                  refine r_iload_n C (k := 2) dX0_hearersOf_61 rfl ?_
                  refine r_iconst C dX0_hearersOf_62 ?_
                  refine r_iload C (k := 4) dX0_hearersOf_63 rfl ?_
                  refine r_ishl1 C dX0_hearersOf_65 (by omega) ?_
                  refine r_iorN C dX0_hearersOf_66 ?_
                  refine r_istore_n C (i := 2) (lv' := [(2, vI (((hin w t i (hout w t M (w (t, 8, 0) 1).toNat i) j ||| 2 ^ j : Nat) : Int))), (0, .ref (adr G (t, 8, 0))), (1, vI (((M : Nat) : Int))), (3, vI (((i : Nat) : Int))), (4, vI (((j : Nat) : Int)))]) dX0_hearersOf_67 rfl (by decide) rfl ?_
                  refine r_iinc C (k := 4) (lv' := [(4, vI (((j + 1 : Nat) : Int))), (2, vI (((hin w t i (hout w t M (w (t, 8, 0) 1).toNat i) j ||| 2 ^ j : Nat) : Int))), (0, .ref (adr G (t, 8, 0))), (1, vI (((M : Nat) : Int))), (3, vI (((i : Nat) : Int)))]) dX0_hearersOf_68 rfl (by decide) rfl ?_
                  refine r_goto C (tgt := 24) dX0_hearersOf_71 (by decide) ?_
                  have e_8 : w = w := by rfl
                  refine Wm.sub (lv' := [(0, .ref (adr G (t, 8, 0))), (1, vI (((M : Nat) : Int))), (2, vI (((hin w t i (hout w t M (w (t, 8, 0) 1).toNat i) j ||| 2 ^ j : Nat) : Int))), (3, vI (((i : Nat) : Int))), (4, vI (((j + 1 : Nat) : Int)))]) [2, 3, 1, 4, 0] rfl ?_
                  refine Wm.mem (lv' := [(0, .ref (adr G (t, 8, 0))), (1, vI (((M : Nat) : Int))), (2, vI (((hin w t i (hout w t M (w (t, 8, 0) 1).toNat i) (j + 1) : Nat) : Int))), (3, vI (((i : Nat) : Int))), (4, vI ((((j + 1) : Nat) : Int)))]) e_8 (by (simp only [hin]; first | rw [if_pos (by assumption)] | rw [if_neg (by assumption)])) ?_
                  exact ih24 ((j + 1)) (by omega) (by omega) (e_8 ▸ hr)
          have e_9 : w = w := by rfl
          refine Wm.sub (lv' := [(0, .ref (adr G (t, 8, 0))), (1, vI (((M : Nat) : Int))), (2, vI (((hout w t M (w (t, 8, 0) 1).toNat i : Nat) : Int))), (3, vI (((i : Nat) : Int))), (4, vI (0))]) [1, 2, 3, 4, 0] rfl ?_
          refine Wm.mem (lv' := [(0, .ref (adr G (t, 8, 0))), (1, vI (((M : Nat) : Int))), (2, vI (((hin w t i (hout w t M (w (t, 8, 0) 1).toNat i) 0 : Nat) : Int))), (3, vI (((i : Nat) : Int))), (4, vI (((0 : Nat) : Int)))]) e_9 (by rfl) ?_
          exact loop_24 _ (0) (by omega) (Nat.lt_succ_self _) (e_9 ▸ hr)
  have e_10 : w = w := by rfl
  refine Wm.sub (lv' := [(0, .ref (adr G (t, 8, 0))), (1, vI (((M : Nat) : Int))), (2, vI (0)), (3, vI (0))]) [2, 3, 1, 0] rfl ?_
  refine Wm.mem (lv' := [(0, .ref (adr G (t, 8, 0))), (1, vI (((M : Nat) : Int))), (2, vI (((hout w t M (w (t, 8, 0) 1).toNat 0 : Nat) : Int))), (3, vI (((0 : Nat) : Int)))]) e_10 (by rfl) ?_
  exact loop_4 _ (0) (by omega) (Nat.lt_succ_self _) (e_10 ▸ hr)
