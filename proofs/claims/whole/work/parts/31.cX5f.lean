set_option maxRecDepth 100000 in
set_option maxHeartbeats 1500000 in
theorem c_X5_best {l : Launch} {G : Gt} (hG : Gok G)  {w : Mm} {v : Int} {p : Int} {N D X N5 D5 X5 : Int} (hv : inR v) (hp : inR p) (hvb : 0 ≤ w (3, 0, 0) 1 ∧ w (3, 0, 0) 1 ≤ 8) (hpb : 0 ≤ w (3, 0, 0) 2 ∧ w (3, 0, 0) 2 ≤ 12) (hS : SI w 4 N D X) (hS5 : SI w 5 N5 D5 X5) (hM : MI w) (hN : N ≤ 800000 ∧ D ≤ 800000000 ∧ X ≤ 800000000) (hs : isV w v → isP w p → ∀ i j : Nat, i < 25 → j < 80 → rbi (rbs (th0 w) v p i).1 v p i j (5, 0, 0) 2 ≤ 896) : Con l G yX5_best wsX5_best ({ frames := 5, cells := 0, slots := 0, locals := 112 } : Room) w [.ref (adr G (3, 0, 0)), vI v, vI p] (some (vI ((if isV w v ∧ isP w p then (rbs (th0 w) v p 25).2.1 else 0)))) ((if isV w v ∧ isP w p then (rbs (th0 w) v p 25).1 else thn w 1)) 0 0 := by
  refine Con.head (cc := cX5_best) (nL := 7) (ret := (some .int)) hG (by decide +kernel) rfl (Nat.le_of_ble_eq_true rfl) ?_
  intro B A hBl C hr
  have hr0 := hr
  have hrI := hr
  have hinX4 : ∀ w ∈ u_ws RX4 TX4 16, w ∈ wsX5_best := by decide +kernel
  have hinX5 : ∀ w ∈ u_ws RX5 TX5 12, w ∈ wsX5_best := by decide +kernel
  obtain ⟨y1, y2⟩ := hvb
  obtain ⟨z1, z2⟩ := hpb
  have hS1 := SI_th0 hS
  have hM1 := MI_th0 hM
  have hS6 := SI_th5 hS5
  obtain ⟨hN1, hN2, hN3⟩ := hN
  refine r_aload_n C (k := 0) dX5_best_0 rfl ?_
  refine r_iconst C dX5_best_1 ?_
  refine r_putf C 0 hr ⟨by decide, by decide⟩ (ok_of hG (show kd (3, 0, 0) = _ from rfl) (by decide) (by decide)) (show kd (3, 0, 0) = _ from rfl) (by decide) rfl hinX5 tyX5_ok nmX5 (by decide) (by decide +kernel) rfl rfl (ty := .int) (by decide +kernel) rfl rfl rfl (Nat.le_of_ble_eq_true rfl) dX5_best_2 (fun hr => ?_)
  refine r_aload_n C (k := 0) dX5_best_5 rfl ?_
  refine r_iload_n C (k := 1) dX5_best_6 rfl ?_
  refine r_callV C (w' := (st1 w (3, 0, 0) (0) (0))) [vI (v)] 1 (c_X5_isVillage hG (by first | assumption | omega | exact hr _ _ | exact hr0 _ _ | exact hrI _ _ | exact ⟨by omega, by omega⟩ | exact bI_inR _ | (simp [st1] <;> omega) | exact rowR.so (by assumption) (by simp)) (by first | assumption | omega | exact hr _ _ | exact hr0 _ _ | exact hrI _ _ | exact ⟨by omega, by omega⟩ | exact bI_inR _ | (simp [st1] <;> omega) | exact rowR.so (by assumption) (by simp))) gX5_best_X5_isVillage rfl rfl rfl (by decide +kernel) (Nat.le_of_ble_eq_true rfl) (Nat.le_of_ble_eq_true rfl) ⟨(Nat.zero_le _), (Nat.zero_le _)⟩ (ok_of hG (show kd (3, 0, 0) = _ from rfl) (by decide) (by decide)) (show kd (3, 0, 0) = _ from rfl) (by decide) rfl rfl rfl (Nat.le_of_ble_eq_true rfl) (st' := [vI (bI (0 ≤ (v) ∧ (v) ≤ (w (3, 0, 0) (1)) - 1))]) rfl dX5_best_7 (fun hr => ?_)
  refine r_if_eqP C (P := 0 ≤ (v) ∧ (v) ≤ (w (3, 0, 0) (1)) - 1) (tgt := 21) dX5_best_10 (by decide) (fun h_1 => ?_) (fun h_1 => ?_)
  · skip
    refine r_aload_n C (k := 0) dX5_best_21 rfl ?_
    refine r_iconst C dX5_best_22 ?_
    refine r_callV C (w' := (st1 (st1 w (3, 0, 0) (0) (0)) (3, 0, 0) 0 (1))) [vI (1)] 1 (c_X5_no hG (by first | assumption | omega | exact hr _ _ | exact hr0 _ _ | exact hrI _ _ | exact ⟨by omega, by omega⟩ | exact bI_inR _ | (simp [st1] <;> omega) | exact rowR.so (by assumption) (by simp))) gX5_best_X5_no rfl rfl rfl (by decide +kernel) (Nat.le_of_ble_eq_true rfl) (Nat.le_of_ble_eq_true rfl) ⟨(Nat.zero_le _), (Nat.zero_le _)⟩ (ok_of hG (show kd (3, 0, 0) = _ from rfl) (by decide) (by decide)) (show kd (3, 0, 0) = _ from rfl) (by decide) rfl rfl rfl (Nat.le_of_ble_eq_true rfl) (st' := [vI ((0))]) rfl dX5_best_23 (fun hr => ?_)
    exact r_iret C dX5_best_26 (by rw [if_neg (fun q => by have q1 := q.1; have q2 := q.2; first | contradiction | omega)]) (by rw [if_neg (fun q => by have q1 := q.1; have q2 := q.2; first | contradiction | omega)]; rfl)
  · skip
    refine r_aload_n C (k := 0) dX5_best_13 rfl ?_
    refine r_iload_n C (k := 2) dX5_best_14 rfl ?_
    refine r_callV C (w' := (st1 w (3, 0, 0) (0) (0))) [vI (p)] 1 (c_X5_isPhrase hG (by first | assumption | omega | exact hr _ _ | exact hr0 _ _ | exact hrI _ _ | exact ⟨by omega, by omega⟩ | exact bI_inR _ | (simp [st1] <;> omega) | exact rowR.so (by assumption) (by simp)) (by first | assumption | omega | exact hr _ _ | exact hr0 _ _ | exact hrI _ _ | exact ⟨by omega, by omega⟩ | exact bI_inR _ | (simp [st1] <;> omega) | exact rowR.so (by assumption) (by simp))) gX5_best_X5_isPhrase rfl rfl rfl (by decide +kernel) (Nat.le_of_ble_eq_true rfl) (Nat.le_of_ble_eq_true rfl) ⟨(Nat.zero_le _), (Nat.zero_le _)⟩ (ok_of hG (show kd (3, 0, 0) = _ from rfl) (by decide) (by decide)) (show kd (3, 0, 0) = _ from rfl) (by decide) rfl rfl rfl (Nat.le_of_ble_eq_true rfl) (st' := [vI (bI (0 ≤ (p) ∧ (p) ≤ (w (3, 0, 0) (2)) - 1))]) rfl dX5_best_15 (fun hr => ?_)
    refine r_if_neP C (P := 0 ≤ (p) ∧ (p) ≤ (w (3, 0, 0) (2)) - 1) (tgt := 27) dX5_best_18 (by decide) (fun h_2 => ?_) (fun h_2 => ?_)
    · have hVp : isV w v ∧ isP w p := ⟨by assumption, by assumption⟩
      have hs := hs (by assumption) (by assumption)
      have hv8 : 0 ≤ v ∧ v ≤ 7 := by omega
      have hp8 : 0 ≤ p ∧ p ≤ 11 := by omega
      refine r_iconst C dX5_best_27 ?_
      refine r_istore_n C (i := 3) (lv' := [(3, vI ((-1))), (0, .ref (adr G (3, 0, 0))), (1, vI (v)), (2, vI (p))]) dX5_best_28 rfl (by decide) rfl ?_
      refine r_iconst C dX5_best_29 ?_
      refine r_istore C (i := 4) (lv' := [(4, vI (0)), (3, vI ((-1))), (0, .ref (adr G (3, 0, 0))), (1, vI (v)), (2, vI (p))]) dX5_best_30 (by decide) rfl ?_
      refine r_iconst C dX5_best_32 ?_
      refine r_istore C (i := 5) (lv' := [(5, vI ((-1))), (4, vI (0)), (3, vI ((-1))), (0, .ref (adr G (3, 0, 0))), (1, vI (v)), (2, vI (p))]) dX5_best_33 (by decide) rfl ?_
      have loop_35 : ∀ (nf : Nat) (i : Nat), (i ≤ 25) → 25 - i < nf → rng ((rbs (th0 w) v p i).1) → Wm B 7 G A (Qe B G A (some (vI ((if isV w v ∧ isP w p then (rbs (th0 w) v p 25).2.1 else 0)))) ((if isV w v ∧ isP w p then (rbs (th0 w) v p 25).1 else thn w 1)) 0 0) ((rbs (th0 w) v p i).1) (0) (0) 35 [(0, .ref (adr G (3, 0, 0))), (1, vI (v)), (2, vI (p)), (3, vI ((rbs (th0 w) v p i).2.1)), (4, vI ((rbs (th0 w) v p i).2.2)), (5, vI ((((i : Nat) : Int) - 1)))] [] := by
        intro n35
        induction n35 with
        | zero => intro i hi hm; exact absurd hm (Nat.not_lt_zero _)
        | succ n35 ih35 =>
          intro i hi hm hr
          have hrI := hr
          obtain ⟨i1, ⟨a, b, c, i2⟩, i3, i4⟩ := rbs_inv hS1 hS6 hM1 hv8 hp8 hs i (by omega)
          have i5 := hS1.sl5 i1
          have i6 := hM1.sl i1 (by decide)
          have s2 := i5.2.2.1
          refine r_iload C (k := 5) dX5_best_35 rfl ?_
          refine r_bipush C dX5_best_37 (by decide) ?_
          refine r_icmp_ge C (tgt := 157) dX5_best_39 (by decide) (by first | exact hr _ _ | exact hr0 _ _ | exact hrI _ _ | assumption | exact ⟨by omega, by omega⟩) ⟨by decide, by decide⟩ (fun h_3 => ?_) (fun h_3 => ?_)
          · skip
            refine r_iload_n C (k := 3) dX5_best_157 rfl ?_
            exact r_iret C dX5_best_158 (by (obtain rfl : i = 25 := (by omega)); rw [if_pos hVp]) (by (obtain rfl : i = 25 := (by omega)); rw [if_pos hVp])
          · skip
            refine r_aload_n C (k := 0) dX5_best_42 rfl ?_
            refine r_getf C 11 (v := .ref (adr G (5, 0, 0))) (ok_of hG (show kd (3, 0, 0) = _ from rfl) (by decide) (by decide)) (show kd (3, 0, 0) = _ from rfl) (by decide) rfl hinX5 (by decide) (by decide +kernel) rfl rfl dX5_best_43 ?_
            refine r_aload_n C (k := 0) dX5_best_46 rfl ?_
            refine r_getf C 10 (v := .ref (adr G (4, 0, 0))) (ok_of hG (show kd (3, 0, 0) = _ from rfl) (by decide) (by decide)) (show kd (3, 0, 0) = _ from rfl) (by decide) rfl hinX5 (by decide) (by decide +kernel) rfl rfl dX5_best_47 ?_
            refine r_callV C (w' := (rbec ((rbs (th0 w) v p i).1) 5 4)) [.ref (adr G (4, 0, 0))] 1 (c_X4_become hG (Or.inr rfl) (Or.inl rfl) (by exact s2) (by decide)) gX5_best_X4_become rfl rfl rfl (by decide +kernel) (Nat.le_of_ble_eq_true rfl) (Nat.le_of_ble_eq_true rfl) ⟨(Nat.zero_le _), (Nat.zero_le _)⟩ (ok_of hG (show kd (5, 0, 0) = _ from rfl) (by decide) (by decide)) (show kd (5, 0, 0) = _ from rfl) (by decide) rfl rfl rfl (Nat.le_of_ble_eq_true rfl) (st' := []) rfl dX5_best_50 (fun hr => ?_)
            refine r_iconst C dX5_best_53 ?_
            refine r_istore C (i := 6) (lv' := [(6, vI (0)), (0, .ref (adr G (3, 0, 0))), (1, vI (v)), (2, vI (p)), (3, vI ((rbs (th0 w) v p i).2.1)), (4, vI ((rbs (th0 w) v p i).2.2)), (5, vI ((((i : Nat) : Int) - 1)))]) dX5_best_54 (by decide) rfl ?_
            have loop_56 : ∀ (nf : Nat) (t : Nat), (t ≤ 80) → 80 - t < nf → rng (rbi (rbs (th0 w) v p i).1 v p i t) → Wm B 7 G A (Qe B G A (some (vI ((if isV w v ∧ isP w p then (rbs (th0 w) v p 25).2.1 else 0)))) ((if isV w v ∧ isP w p then (rbs (th0 w) v p 25).1 else thn w 1)) 0 0) (rbi (rbs (th0 w) v p i).1 v p i t) (0) (0) 56 [(0, .ref (adr G (3, 0, 0))), (1, vI (v)), (2, vI (p)), (3, vI ((rbs (th0 w) v p i).2.1)), (4, vI ((rbs (th0 w) v p i).2.2)), (5, vI ((((i : Nat) : Int) - 1))), (6, vI (((t : Nat) : Int)))] [] := by
              intro n56
              induction n56 with
              | zero => intro t ht hm; exact absurd hm (Nat.not_lt_zero _)
              | succ n56 ih56 =>
                intro t ht hm hr
                have hrI := hr
                obtain ⟨g1, g2⟩ := rbi_inv (i := i) i5 i2 i6 hv8 hp8 t (fun k hk => hs i k (by omega) (by omega))
                have g3 := i6.sl g2 (by decide)
                have g4 := rkn_b (u := 5) (p := p) g3
                have g6 := g1.2.2.2.2.2.1 v.toNat (by omega)
                obtain ⟨f1, f2, f3⟩ := rbh_f (i := i) (t := t) g1 hv8 hp8
                have f4 := g3.sl f2 (by decide)
                refine r_iload C (k := 6) dX5_best_56 rfl ?_
                refine r_bipush C dX5_best_58 (by decide) ?_
                refine r_icmp_ge C (tgt := 116) dX5_best_60 (by decide) (by first | exact hr _ _ | exact hr0 _ _ | exact hrI _ _ | assumption | exact ⟨by omega, by omega⟩) ⟨by decide, by decide⟩ (fun h_4 => ?_) (fun h_4 => ?_)
                · have et : t = 80 := (by omega)
                  refine r_aload_n C (k := 0) dX5_best_116 rfl ?_
                  refine r_getf C 11 (v := .ref (adr G (5, 0, 0))) (ok_of hG (show kd (3, 0, 0) = _ from rfl) (by decide) (by decide)) (show kd (3, 0, 0) = _ from rfl) (by decide) rfl hinX5 (by decide) (by decide +kernel) rfl rfl dX5_best_117 ?_
                  refine r_iload_n C (k := 2) dX5_best_120 rfl ?_
                  refine r_callV C (w' := (rbi (rbs (th0 w) v p i).1 v p i t)) [vI (p)] 1 (c_X4_knowing hG (Or.inr rfl) (by exact g3.1) (by exact hp8)) gX5_best_X4_knowing rfl rfl rfl (by decide +kernel) (Nat.le_of_ble_eq_true rfl) (Nat.le_of_ble_eq_true rfl) ⟨(Nat.zero_le _), (Nat.zero_le _)⟩ (ok_of hG (show kd (5, 0, 0) = _ from rfl) (by decide) (by decide)) (show kd (5, 0, 0) = _ from rfl) (by decide) rfl rfl rfl (Nat.le_of_ble_eq_true rfl) (st' := [vI ((rkn (rbi (rbs (th0 w) v p i).1 v p i t) 5 (p) (((rbi (rbs (th0 w) v p i).1 v p i t) (3, 0, 0) (1))).toNat))]) rfl dX5_best_121 (fun hr => ?_)
                  refine r_istore C (i := 6) (lv' := [(6, vI ((rkn (rbi (rbs (th0 w) v p i).1 v p i t) 5 (p) (((rbi (rbs (th0 w) v p i).1 v p i t) (3, 0, 0) (1))).toNat))), (0, .ref (adr G (3, 0, 0))), (1, vI (v)), (2, vI (p)), (3, vI ((rbs (th0 w) v p i).2.1)), (4, vI ((rbs (th0 w) v p i).2.2)), (5, vI ((((i : Nat) : Int) - 1)))]) dX5_best_124 (by decide) rfl ?_
                  refine r_iload C (k := 6) dX5_best_126 rfl ?_
                  refine r_iconst C dX5_best_128 ?_
                  refine r_icmp_eq C (tgt := 142) dX5_best_129 (by decide) (by first | exact hr _ _ | exact hr0 _ _ | exact hrI _ _ | assumption | exact ⟨by omega, by omega⟩) ⟨by decide, by decide⟩ (fun h_5 => ?_) (fun h_5 => ?_)
                  · skip
                    refine r_iload C (k := 5) dX5_best_142 rfl ?_
                    refine r_iload C (k := 0) dX5_best_144 rfl ?_
                    refine r_mmax C (by first | exact hr _ _ | exact hr0 _ _ | exact hrI _ _ | assumption | exact ⟨by omega, by omega⟩) (by first | exact hr _ _ | exact hr0 _ _ | exact hrI _ _ | assumption | exact ⟨by omega, by omega⟩) (by decide +kernel) (by decide +kernel) (by decide +kernel) (by decide +kernel) (Nat.le_of_ble_eq_true rfl) (Nat.le_of_ble_eq_true rfl) (Nat.zero_le _) (Nat.zero_le _) dX5_best_146 ?_
                    refine r_istore C (i := 4) (lv' := [(4, vI ((max ((rbs (th0 w) v p i).2.2) ((rkn (rbi (rbs (th0 w) v p i).1 v p i t) 5 (p) (((rbi (rbs (th0 w) v p i).1 v p i t) (3, 0, 0) (1))).toNat))))), (6, vI ((rkn (rbi (rbs (th0 w) v p i).1 v p i t) 5 (p) (((rbi (rbs (th0 w) v p i).1 v p i t) (3, 0, 0) (1))).toNat))), (0, .ref (adr G (3, 0, 0))), (1, vI (v)), (2, vI (p)), (3, vI ((rbs (th0 w) v p i).2.1)), (5, vI ((((i : Nat) : Int) - 1)))]) dX5_best_149 (by decide) rfl ?_
                    refine r_iinc C (k := 6) (lv' := [(5, vI (((((i : Nat) : Int) - 1) + 1))), (4, vI ((max ((rbs (th0 w) v p i).2.2) ((rkn (rbi (rbs (th0 w) v p i).1 v p i t) 5 (p) (((rbi (rbs (th0 w) v p i).1 v p i t) (3, 0, 0) (1))).toNat))))), (6, vI ((rkn (rbi (rbs (th0 w) v p i).1 v p i t) 5 (p) (((rbi (rbs (th0 w) v p i).1 v p i t) (3, 0, 0) (1))).toNat))), (0, .ref (adr G (3, 0, 0))), (1, vI (v)), (2, vI (p)), (3, vI ((rbs (th0 w) v p i).2.1))]) dX5_best_151 rfl (by decide) rfl ?_
                    refine r_goto C (tgt := 35) dX5_best_154 (by decide) ?_
                    have e_6 : (rbi (rbs (th0 w) v p i).1 v p i t) = ((rbs (th0 w) v p (i + 1)).1) := by (subst et; simp only [rbs])
                    refine Wm.sub (lv' := [(0, .ref (adr G (3, 0, 0))), (1, vI (v)), (2, vI (p)), (3, vI ((rbs (th0 w) v p i).2.1)), (4, vI ((max ((rbs (th0 w) v p i).2.2) ((rkn (rbi (rbs (th0 w) v p i).1 v p i t) 5 (p) (((rbi (rbs (th0 w) v p i).1 v p i t) (3, 0, 0) (1))).toNat))))), (5, vI (((((i : Nat) : Int) - 1) + 1)))]) [3, 4, 5, 6, 1, 0] rfl ?_
                    refine Wm.mem (lv' := [(0, .ref (adr G (3, 0, 0))), (1, vI (v)), (2, vI (p)), (3, vI ((rbs (th0 w) v p (i + 1)).2.1)), (4, vI ((rbs (th0 w) v p (i + 1)).2.2)), (5, vI (((((i + 1) : Nat) : Int) - 1)))]) e_6 (by (subst et; simp only [rbs]; first | (exfalso; omega) | ((first | rw [if_neg (fun q => by omega)] | rw [if_pos ⟨by omega, by omega⟩]); rw [show ((i : Nat) : Int) - 1 + 1 = ((i + 1 : Nat) : Int) - 1 from by omega]))) ?_
                    exact ih35 ((i + 1)) (by omega) (by omega) (e_6 ▸ hr)
                  · skip
                    refine r_iload C (k := 0) dX5_best_132 rfl ?_
                    refine r_iload C (k := 5) dX5_best_134 rfl ?_
                    refine r_icmp_le C (tgt := 142) dX5_best_136 (by decide) (by first | exact hr _ _ | exact hr0 _ _ | exact hrI _ _ | assumption | exact ⟨by omega, by omega⟩) (by first | exact hr _ _ | exact hr0 _ _ | exact hrI _ _ | assumption | exact ⟨by omega, by omega⟩) (fun h_7 => ?_) (fun h_7 => ?_)
                    · skip
                      refine r_iload C (k := 5) dX5_best_142 rfl ?_
                      refine r_iload C (k := 0) dX5_best_144 rfl ?_
                      refine r_mmax C (by first | exact hr _ _ | exact hr0 _ _ | exact hrI _ _ | assumption | exact ⟨by omega, by omega⟩) (by first | exact hr _ _ | exact hr0 _ _ | exact hrI _ _ | assumption | exact ⟨by omega, by omega⟩) (by decide +kernel) (by decide +kernel) (by decide +kernel) (by decide +kernel) (Nat.le_of_ble_eq_true rfl) (Nat.le_of_ble_eq_true rfl) (Nat.zero_le _) (Nat.zero_le _) dX5_best_146 ?_
                      refine r_istore C (i := 4) (lv' := [(4, vI ((max ((rbs (th0 w) v p i).2.2) ((rkn (rbi (rbs (th0 w) v p i).1 v p i t) 5 (p) (((rbi (rbs (th0 w) v p i).1 v p i t) (3, 0, 0) (1))).toNat))))), (6, vI ((rkn (rbi (rbs (th0 w) v p i).1 v p i t) 5 (p) (((rbi (rbs (th0 w) v p i).1 v p i t) (3, 0, 0) (1))).toNat))), (0, .ref (adr G (3, 0, 0))), (1, vI (v)), (2, vI (p)), (3, vI ((rbs (th0 w) v p i).2.1)), (5, vI ((((i : Nat) : Int) - 1)))]) dX5_best_149 (by decide) rfl ?_
                      refine r_iinc C (k := 6) (lv' := [(5, vI (((((i : Nat) : Int) - 1) + 1))), (4, vI ((max ((rbs (th0 w) v p i).2.2) ((rkn (rbi (rbs (th0 w) v p i).1 v p i t) 5 (p) (((rbi (rbs (th0 w) v p i).1 v p i t) (3, 0, 0) (1))).toNat))))), (6, vI ((rkn (rbi (rbs (th0 w) v p i).1 v p i t) 5 (p) (((rbi (rbs (th0 w) v p i).1 v p i t) (3, 0, 0) (1))).toNat))), (0, .ref (adr G (3, 0, 0))), (1, vI (v)), (2, vI (p)), (3, vI ((rbs (th0 w) v p i).2.1))]) dX5_best_151 rfl (by decide) rfl ?_
                      refine r_goto C (tgt := 35) dX5_best_154 (by decide) ?_
                      have e_8 : (rbi (rbs (th0 w) v p i).1 v p i t) = ((rbs (th0 w) v p (i + 1)).1) := by (subst et; simp only [rbs])
                      refine Wm.sub (lv' := [(0, .ref (adr G (3, 0, 0))), (1, vI (v)), (2, vI (p)), (3, vI ((rbs (th0 w) v p i).2.1)), (4, vI ((max ((rbs (th0 w) v p i).2.2) ((rkn (rbi (rbs (th0 w) v p i).1 v p i t) 5 (p) (((rbi (rbs (th0 w) v p i).1 v p i t) (3, 0, 0) (1))).toNat))))), (5, vI (((((i : Nat) : Int) - 1) + 1)))]) [3, 4, 5, 6, 1, 0] rfl ?_
                      refine Wm.mem (lv' := [(0, .ref (adr G (3, 0, 0))), (1, vI (v)), (2, vI (p)), (3, vI ((rbs (th0 w) v p (i + 1)).2.1)), (4, vI ((rbs (th0 w) v p (i + 1)).2.2)), (5, vI (((((i + 1) : Nat) : Int) - 1)))]) e_8 (by (subst et; simp only [rbs]; first | (exfalso; omega) | ((first | rw [if_neg (fun q => by omega)] | rw [if_pos ⟨by omega, by omega⟩]); rw [show ((i : Nat) : Int) - 1 + 1 = ((i + 1 : Nat) : Int) - 1 from by omega]))) ?_
                      exact ih35 ((i + 1)) (by omega) (by omega) (e_8 ▸ hr)
                    · skip
                      refine r_iload C (k := 6) dX5_best_139 rfl ?_
                      refine r_istore_n C (i := 3) (lv' := [(3, vI ((((i : Nat) : Int) - 1))), (6, vI ((rkn (rbi (rbs (th0 w) v p i).1 v p i t) 5 (p) (((rbi (rbs (th0 w) v p i).1 v p i t) (3, 0, 0) (1))).toNat))), (0, .ref (adr G (3, 0, 0))), (1, vI (v)), (2, vI (p)), (4, vI ((rbs (th0 w) v p i).2.2)), (5, vI ((((i : Nat) : Int) - 1)))]) dX5_best_141 rfl (by decide) rfl ?_
                      refine r_iload C (k := 5) dX5_best_142 rfl ?_
                      refine r_iload C (k := 1) dX5_best_144 rfl ?_
                      refine r_mmax C (by first | exact hr _ _ | exact hr0 _ _ | exact hrI _ _ | assumption | exact ⟨by omega, by omega⟩) (by first | exact hr _ _ | exact hr0 _ _ | exact hrI _ _ | assumption | exact ⟨by omega, by omega⟩) (by decide +kernel) (by decide +kernel) (by decide +kernel) (by decide +kernel) (Nat.le_of_ble_eq_true rfl) (Nat.le_of_ble_eq_true rfl) (Nat.zero_le _) (Nat.zero_le _) dX5_best_146 ?_
                      refine r_istore C (i := 4) (lv' := [(4, vI ((max ((rbs (th0 w) v p i).2.2) ((rkn (rbi (rbs (th0 w) v p i).1 v p i t) 5 (p) (((rbi (rbs (th0 w) v p i).1 v p i t) (3, 0, 0) (1))).toNat))))), (3, vI ((((i : Nat) : Int) - 1))), (6, vI ((rkn (rbi (rbs (th0 w) v p i).1 v p i t) 5 (p) (((rbi (rbs (th0 w) v p i).1 v p i t) (3, 0, 0) (1))).toNat))), (0, .ref (adr G (3, 0, 0))), (1, vI (v)), (2, vI (p)), (5, vI ((((i : Nat) : Int) - 1)))]) dX5_best_149 (by decide) rfl ?_
                      refine r_iinc C (k := 6) (lv' := [(5, vI (((((i : Nat) : Int) - 1) + 1))), (4, vI ((max ((rbs (th0 w) v p i).2.2) ((rkn (rbi (rbs (th0 w) v p i).1 v p i t) 5 (p) (((rbi (rbs (th0 w) v p i).1 v p i t) (3, 0, 0) (1))).toNat))))), (3, vI ((((i : Nat) : Int) - 1))), (6, vI ((rkn (rbi (rbs (th0 w) v p i).1 v p i t) 5 (p) (((rbi (rbs (th0 w) v p i).1 v p i t) (3, 0, 0) (1))).toNat))), (0, .ref (adr G (3, 0, 0))), (1, vI (v)), (2, vI (p))]) dX5_best_151 rfl (by decide) rfl ?_
                      refine r_goto C (tgt := 35) dX5_best_154 (by decide) ?_
                      have e_9 : (rbi (rbs (th0 w) v p i).1 v p i t) = ((rbs (th0 w) v p (i + 1)).1) := by (subst et; simp only [rbs])
                      refine Wm.sub (lv' := [(0, .ref (adr G (3, 0, 0))), (1, vI (v)), (2, vI (p)), (3, vI ((((i : Nat) : Int) - 1))), (4, vI ((max ((rbs (th0 w) v p i).2.2) ((rkn (rbi (rbs (th0 w) v p i).1 v p i t) 5 (p) (((rbi (rbs (th0 w) v p i).1 v p i t) (3, 0, 0) (1))).toNat))))), (5, vI (((((i : Nat) : Int) - 1) + 1)))]) [4, 5, 6, 2, 1, 0] rfl ?_
                      refine Wm.mem (lv' := [(0, .ref (adr G (3, 0, 0))), (1, vI (v)), (2, vI (p)), (3, vI ((rbs (th0 w) v p (i + 1)).2.1)), (4, vI ((rbs (th0 w) v p (i + 1)).2.2)), (5, vI (((((i + 1) : Nat) : Int) - 1)))]) e_9 (by (subst et; simp only [rbs]; first | (exfalso; omega) | ((first | rw [if_neg (fun q => by omega)] | rw [if_pos ⟨by omega, by omega⟩]); rw [show ((i : Nat) : Int) - 1 + 1 = ((i + 1 : Nat) : Int) - 1 from by omega]))) ?_
                      exact ih35 ((i + 1)) (by omega) (by omega) (e_9 ▸ hr)
                · skip
                  refine r_iload C (k := 6) dX5_best_63 rfl ?_
                  refine r_iload C (k := 5) dX5_best_65 rfl ?_
                  refine r_icmp_ne C (tgt := 102) dX5_best_67 (by decide) (by first | exact hr _ _ | exact hr0 _ _ | exact hrI _ _ | assumption | exact ⟨by omega, by omega⟩) (by first | exact hr _ _ | exact hr0 _ _ | exact hrI _ _ | assumption | exact ⟨by omega, by omega⟩) (fun h_10 => ?_) (fun h_10 => ?_)
                  · have hb9 : rbh (rbi (rbs (th0 w) v p i).1 v p i t) v p i t = (rbi (rbs (th0 w) v p i).1 v p i t) := by unfold rbh; rw [if_neg (fun q => by omega)]
                    refine r_aload_n C (k := 0) dX5_best_102 rfl ?_
                    refine r_getf C 11 (v := .ref (adr G (5, 0, 0))) (ok_of hG (show kd (3, 0, 0) = _ from rfl) (by decide) (by decide)) (show kd (3, 0, 0) = _ from rfl) (by decide) rfl hinX5 (by decide) (by decide +kernel) rfl rfl dX5_best_103 ?_
                    refine r_callV C (w' := (rbeat (rbi (rbs (th0 w) v p i).1 v p i t) 5)) [] 0 (c_X4_pass hG (Or.inr rfl) (by rw [← hb9]; exact f1) (by rw [← hb9]; exact f4) (by exact ⟨by omega, by omega, by omega⟩) (by rw [← hb9, f3]; exact hs i t (by omega) (by omega))) gX5_best_X4_pass rfl rfl rfl (by decide +kernel) (Nat.le_of_ble_eq_true rfl) (Nat.le_of_ble_eq_true rfl) ⟨(Nat.zero_le _), (Nat.zero_le _)⟩ (ok_of hG (show kd (5, 0, 0) = _ from rfl) (by decide) (by decide)) (show kd (5, 0, 0) = _ from rfl) (by decide) rfl rfl rfl (Nat.le_of_ble_eq_true rfl) (st' := [vI (((((rv3 (rbi (rbs (th0 w) v p i).1 v p i t) 5).2.1 : Nat) : Int)))]) rfl dX5_best_106 (fun hr => ?_)
                    refine r_pop C dX5_best_109 rfl ?_
                    refine r_iinc C (k := 6) (lv' := [(6, vI (((t + 1 : Nat) : Int))), (0, .ref (adr G (3, 0, 0))), (1, vI (v)), (2, vI (p)), (3, vI ((rbs (th0 w) v p i).2.1)), (4, vI ((rbs (th0 w) v p i).2.2)), (5, vI ((((i : Nat) : Int) - 1)))]) dX5_best_110 rfl (by decide) rfl ?_
                    refine r_goto C (tgt := 56) dX5_best_113 (by decide) ?_
                    have e_11 : (rbeat (rbi (rbs (th0 w) v p i).1 v p i t) 5) = (rbi (rbs (th0 w) v p i).1 v p i (t + 1)) := by (simp only [rbi]; rw [hb9])
                    refine Wm.sub (lv' := [(0, .ref (adr G (3, 0, 0))), (1, vI (v)), (2, vI (p)), (3, vI ((rbs (th0 w) v p i).2.1)), (4, vI ((rbs (th0 w) v p i).2.2)), (5, vI ((((i : Nat) : Int) - 1))), (6, vI (((t + 1 : Nat) : Int)))]) [1, 2, 3, 4, 5, 6, 0] rfl ?_
                    refine Wm.mem (lv' := [(0, .ref (adr G (3, 0, 0))), (1, vI (v)), (2, vI (p)), (3, vI ((rbs (th0 w) v p i).2.1)), (4, vI ((rbs (th0 w) v p i).2.2)), (5, vI ((((i : Nat) : Int) - 1))), (6, vI ((((t + 1) : Nat) : Int)))]) e_11 (by rfl) ?_
                    exact ih56 ((t + 1)) (by omega) (by omega) (e_11 ▸ hr)
                  · skip
                    refine r_aload_n C (k := 0) dX5_best_70 rfl ?_
                    refine r_getf C 11 (v := .ref (adr G (5, 0, 0))) (ok_of hG (show kd (3, 0, 0) = _ from rfl) (by decide) (by decide)) (show kd (3, 0, 0) = _ from rfl) (by decide) rfl hinX5 (by decide) (by decide +kernel) rfl rfl dX5_best_71 ?_
                    refine r_getfN (host := "DrumTalkModel") C 6 (v := .ref (adr G (5, 0, 4))) (ok_of hG (show kd (5, 0, 0) = _ from rfl) (by decide) (by decide)) (show kd (5, 0, 0) = _ from rfl) (by decide) rfl hinX4 (by decide) (by decide +kernel) rfl rfl dX5_best_74 ?_
                    refine r_iload_n C (k := 1) dX5_best_77 rfl ?_
                    refine r_iald C ((v).toNat) (ok_of hG (show kd (5, 0, 4) = _ from rfl) (by decide) (by decide)) (show kd (5, 0, 4) = _ from rfl) (Int.toNat_of_nonneg (by first | omega | assumption)).symm (by first | omega | assumption) (by decide) dX5_best_78 ?_
                    refine r_iconst C dX5_best_79 ?_
                    refine r_icmp_ge C (tgt := 102) dX5_best_80 (by decide) (by first | exact hr _ _ | exact hr0 _ _ | exact hrI _ _ | assumption | exact ⟨by omega, by omega⟩) ⟨by decide, by decide⟩ (fun h_12 => ?_) (fun h_12 => ?_)
                    · have hb9 : rbh (rbi (rbs (th0 w) v p i).1 v p i t) v p i t = (rbi (rbs (th0 w) v p i).1 v p i t) := by unfold rbh; rw [if_neg (fun q => by omega)]
                      refine r_aload_n C (k := 0) dX5_best_102 rfl ?_
                      refine r_getf C 11 (v := .ref (adr G (5, 0, 0))) (ok_of hG (show kd (3, 0, 0) = _ from rfl) (by decide) (by decide)) (show kd (3, 0, 0) = _ from rfl) (by decide) rfl hinX5 (by decide) (by decide +kernel) rfl rfl dX5_best_103 ?_
                      refine r_callV C (w' := (rbeat (rbi (rbs (th0 w) v p i).1 v p i t) 5)) [] 0 (c_X4_pass hG (Or.inr rfl) (by rw [← hb9]; exact f1) (by rw [← hb9]; exact f4) (by exact ⟨by omega, by omega, by omega⟩) (by rw [← hb9, f3]; exact hs i t (by omega) (by omega))) gX5_best_X4_pass rfl rfl rfl (by decide +kernel) (Nat.le_of_ble_eq_true rfl) (Nat.le_of_ble_eq_true rfl) ⟨(Nat.zero_le _), (Nat.zero_le _)⟩ (ok_of hG (show kd (5, 0, 0) = _ from rfl) (by decide) (by decide)) (show kd (5, 0, 0) = _ from rfl) (by decide) rfl rfl rfl (Nat.le_of_ble_eq_true rfl) (st' := [vI (((((rv3 (rbi (rbs (th0 w) v p i).1 v p i t) 5).2.1 : Nat) : Int)))]) rfl dX5_best_106 (fun hr => ?_)
                      refine r_pop C dX5_best_109 rfl ?_
                      refine r_iinc C (k := 6) (lv' := [(6, vI (((t + 1 : Nat) : Int))), (0, .ref (adr G (3, 0, 0))), (1, vI (v)), (2, vI (p)), (3, vI ((rbs (th0 w) v p i).2.1)), (4, vI ((rbs (th0 w) v p i).2.2)), (5, vI ((((i : Nat) : Int) - 1)))]) dX5_best_110 rfl (by decide) rfl ?_
                      refine r_goto C (tgt := 56) dX5_best_113 (by decide) ?_
                      have e_13 : (rbeat (rbi (rbs (th0 w) v p i).1 v p i t) 5) = (rbi (rbs (th0 w) v p i).1 v p i (t + 1)) := by (simp only [rbi]; rw [hb9])
                      refine Wm.sub (lv' := [(0, .ref (adr G (3, 0, 0))), (1, vI (v)), (2, vI (p)), (3, vI ((rbs (th0 w) v p i).2.1)), (4, vI ((rbs (th0 w) v p i).2.2)), (5, vI ((((i : Nat) : Int) - 1))), (6, vI (((t + 1 : Nat) : Int)))]) [1, 2, 3, 4, 5, 6, 0] rfl ?_
                      refine Wm.mem (lv' := [(0, .ref (adr G (3, 0, 0))), (1, vI (v)), (2, vI (p)), (3, vI ((rbs (th0 w) v p i).2.1)), (4, vI ((rbs (th0 w) v p i).2.2)), (5, vI ((((i : Nat) : Int) - 1))), (6, vI ((((t + 1) : Nat) : Int)))]) e_13 (by rfl) ?_
                      exact ih56 ((t + 1)) (by omega) (by omega) (e_13 ▸ hr)
                    · have hb9 : rbh (rbi (rbs (th0 w) v p i).1 v p i t) v p i t = rput (rlrn (rbi (rbs (th0 w) v p i).1 v p i t) 5 v p) 5 v p := by unfold rbh; rw [if_pos ⟨by omega, by omega⟩]
                      refine r_aload_n C (k := 0) dX5_best_83 rfl ?_
                      refine r_getf C 11 (v := .ref (adr G (5, 0, 0))) (ok_of hG (show kd (3, 0, 0) = _ from rfl) (by decide) (by decide)) (show kd (3, 0, 0) = _ from rfl) (by decide) rfl hinX5 (by decide) (by decide +kernel) rfl rfl dX5_best_84 ?_
                      refine r_iload_n C (k := 1) dX5_best_87 rfl ?_
                      refine r_iload_n C (k := 2) dX5_best_88 rfl ?_
                      refine r_callV C (w' := (rlrn (rbi (rbs (th0 w) v p i).1 v p i t) 5 (v) (p))) [vI (v), vI (p)] 2 (c_X4_learns hG (Or.inr rfl) (by exact hv8) (by exact hp8)) gX5_best_X4_learns rfl rfl rfl (by decide +kernel) (Nat.le_of_ble_eq_true rfl) (Nat.le_of_ble_eq_true rfl) ⟨(Nat.zero_le _), (Nat.zero_le _)⟩ (ok_of hG (show kd (5, 0, 0) = _ from rfl) (by decide) (by decide)) (show kd (5, 0, 0) = _ from rfl) (by decide) rfl rfl rfl (Nat.le_of_ble_eq_true rfl) (st' := [vI (bI ((rbi (rbs (th0 w) v p i).1 v p i t) (5, 0, 6) (12 * (v) + (p)).toNat = -1))]) rfl dX5_best_89 (fun hr => ?_)
                      refine r_pop C dX5_best_92 rfl ?_
                      refine r_aload_n C (k := 0) dX5_best_93 rfl ?_
                      refine r_getf C 11 (v := .ref (adr G (5, 0, 0))) (ok_of hG (show kd (3, 0, 0) = _ from rfl) (by decide) (by decide)) (show kd (3, 0, 0) = _ from rfl) (by decide) rfl hinX5 (by decide) (by decide +kernel) rfl rfl dX5_best_94 ?_
                      refine r_iload_n C (k := 1) dX5_best_97 rfl ?_
                      refine r_iload_n C (k := 2) dX5_best_98 rfl ?_
                      refine r_callV C (w' := (rput (rlrn (rbi (rbs (th0 w) v p i).1 v p i t) 5 (v) (p)) 5 (v) (p))) [vI (v), vI (p)] 2 (c_X4_put hG (Or.inr rfl) (by exact hv8) (by exact ⟨by omega, by omega⟩) (by rw [rlrn_off (by simp)]; exact ⟨by omega, by omega⟩)) gX5_best_X4_put rfl rfl rfl (by decide +kernel) (Nat.le_of_ble_eq_true rfl) (Nat.le_of_ble_eq_true rfl) ⟨(Nat.zero_le _), (Nat.zero_le _)⟩ (ok_of hG (show kd (5, 0, 0) = _ from rfl) (by decide) (by decide)) (show kd (5, 0, 0) = _ from rfl) (by decide) rfl rfl rfl (Nat.le_of_ble_eq_true rfl) (st' := []) rfl dX5_best_99 (fun hr => ?_)
                      refine r_aload_n C (k := 0) dX5_best_102 rfl ?_
                      refine r_getf C 11 (v := .ref (adr G (5, 0, 0))) (ok_of hG (show kd (3, 0, 0) = _ from rfl) (by decide) (by decide)) (show kd (3, 0, 0) = _ from rfl) (by decide) rfl hinX5 (by decide) (by decide +kernel) rfl rfl dX5_best_103 ?_
                      refine r_callV C (w' := (rbeat (rput (rlrn (rbi (rbs (th0 w) v p i).1 v p i t) 5 (v) (p)) 5 (v) (p)) 5)) [] 0 (c_X4_pass hG (Or.inr rfl) (by rw [← hb9]; exact f1) (by rw [← hb9]; exact f4) (by exact ⟨by omega, by omega, by omega⟩) (by rw [← hb9, f3]; exact hs i t (by omega) (by omega))) gX5_best_X4_pass rfl rfl rfl (by decide +kernel) (Nat.le_of_ble_eq_true rfl) (Nat.le_of_ble_eq_true rfl) ⟨(Nat.zero_le _), (Nat.zero_le _)⟩ (ok_of hG (show kd (5, 0, 0) = _ from rfl) (by decide) (by decide)) (show kd (5, 0, 0) = _ from rfl) (by decide) rfl rfl rfl (Nat.le_of_ble_eq_true rfl) (st' := [vI (((((rv3 (rput (rlrn (rbi (rbs (th0 w) v p i).1 v p i t) 5 (v) (p)) 5 (v) (p)) 5).2.1 : Nat) : Int)))]) rfl dX5_best_106 (fun hr => ?_)
                      refine r_pop C dX5_best_109 rfl ?_
                      refine r_iinc C (k := 6) (lv' := [(6, vI (((t + 1 : Nat) : Int))), (0, .ref (adr G (3, 0, 0))), (1, vI (v)), (2, vI (p)), (3, vI ((rbs (th0 w) v p i).2.1)), (4, vI ((rbs (th0 w) v p i).2.2)), (5, vI ((((i : Nat) : Int) - 1)))]) dX5_best_110 rfl (by decide) rfl ?_
                      refine r_goto C (tgt := 56) dX5_best_113 (by decide) ?_
                      have e_14 : (rbeat (rput (rlrn (rbi (rbs (th0 w) v p i).1 v p i t) 5 (v) (p)) 5 (v) (p)) 5) = (rbi (rbs (th0 w) v p i).1 v p i (t + 1)) := by (simp only [rbi]; rw [hb9])
                      refine Wm.sub (lv' := [(0, .ref (adr G (3, 0, 0))), (1, vI (v)), (2, vI (p)), (3, vI ((rbs (th0 w) v p i).2.1)), (4, vI ((rbs (th0 w) v p i).2.2)), (5, vI ((((i : Nat) : Int) - 1))), (6, vI (((t + 1 : Nat) : Int)))]) [1, 2, 3, 4, 5, 6, 0] rfl ?_
                      refine Wm.mem (lv' := [(0, .ref (adr G (3, 0, 0))), (1, vI (v)), (2, vI (p)), (3, vI ((rbs (th0 w) v p i).2.1)), (4, vI ((rbs (th0 w) v p i).2.2)), (5, vI ((((i : Nat) : Int) - 1))), (6, vI ((((t + 1) : Nat) : Int)))]) e_14 (by rfl) ?_
                      exact ih56 ((t + 1)) (by omega) (by omega) (e_14 ▸ hr)
            have e_15 : (rbec ((rbs (th0 w) v p i).1) 5 4) = (rbi (rbs (th0 w) v p i).1 v p i 0) := by rfl
            refine Wm.sub (lv' := [(0, .ref (adr G (3, 0, 0))), (1, vI (v)), (2, vI (p)), (3, vI ((rbs (th0 w) v p i).2.1)), (4, vI ((rbs (th0 w) v p i).2.2)), (5, vI ((((i : Nat) : Int) - 1))), (6, vI (0))]) [1, 2, 3, 4, 5, 6, 0] rfl ?_
            refine Wm.mem (lv' := [(0, .ref (adr G (3, 0, 0))), (1, vI (v)), (2, vI (p)), (3, vI ((rbs (th0 w) v p i).2.1)), (4, vI ((rbs (th0 w) v p i).2.2)), (5, vI ((((i : Nat) : Int) - 1))), (6, vI (((0 : Nat) : Int)))]) e_15 (by rfl) ?_
            exact loop_56 _ (0) (by omega) (Nat.lt_succ_self _) (e_15 ▸ hr)
      have e_16 : (st1 w (3, 0, 0) (0) (0)) = ((rbs (th0 w) v p 0).1) := by rfl
      refine Wm.sub (lv' := [(0, .ref (adr G (3, 0, 0))), (1, vI (v)), (2, vI (p)), (3, vI ((-1))), (4, vI (0)), (5, vI ((-1)))]) [3, 4, 5, 2, 1, 0] rfl ?_
      refine Wm.mem (lv' := [(0, .ref (adr G (3, 0, 0))), (1, vI (v)), (2, vI (p)), (3, vI ((rbs (th0 w) v p 0).2.1)), (4, vI ((rbs (th0 w) v p 0).2.2)), (5, vI ((((0 : Nat) : Int) - 1)))]) e_16 (by rfl) ?_
      exact loop_35 _ (0) (by omega) (Nat.lt_succ_self _) (e_16 ▸ hr)
    · skip
      refine r_aload_n C (k := 0) dX5_best_21 rfl ?_
      refine r_iconst C dX5_best_22 ?_
      refine r_callV C (w' := (st1 (st1 w (3, 0, 0) (0) (0)) (3, 0, 0) 0 (1))) [vI (1)] 1 (c_X5_no hG (by first | assumption | omega | exact hr _ _ | exact hr0 _ _ | exact hrI _ _ | exact ⟨by omega, by omega⟩ | exact bI_inR _ | (simp [st1] <;> omega) | exact rowR.so (by assumption) (by simp))) gX5_best_X5_no rfl rfl rfl (by decide +kernel) (Nat.le_of_ble_eq_true rfl) (Nat.le_of_ble_eq_true rfl) ⟨(Nat.zero_le _), (Nat.zero_le _)⟩ (ok_of hG (show kd (3, 0, 0) = _ from rfl) (by decide) (by decide)) (show kd (3, 0, 0) = _ from rfl) (by decide) rfl rfl rfl (Nat.le_of_ble_eq_true rfl) (st' := [vI ((0))]) rfl dX5_best_23 (fun hr => ?_)
      exact r_iret C dX5_best_26 (by rw [if_neg (fun q => by have q1 := q.1; have q2 := q.2; first | contradiction | omega)]) (by rw [if_neg (fun q => by have q1 := q.1; have q2 := q.2; first | contradiction | omega)]; rfl)
