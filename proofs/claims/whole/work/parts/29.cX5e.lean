set_option maxRecDepth 100000 in
set_option maxHeartbeats 8000000 in
theorem c_X5_larger {l : Launch} {G : Gt} (hG : Gok G)  {w : Mm} {n : Int} {N D X N5 D5 X5 : Int} (hn : inR n) (hvb : 0 ≤ w (3, 0, 0) 1 ∧ w (3, 0, 0) 1 ≤ 8) (hS : SI w 4 N D X) (hS5 : SI w 5 N5 D5 X5) (hM : MI w) (hN : N ≤ 800000 ∧ D ≤ 800000000 ∧ X ≤ 800000000) (hs : ∀ i j : Nat, i ≤ 8 → (j : Int) < n → ¬ (¬ i = 0 ∧ w (4, 0, 1) (i - 1) = 9) → rgo (rl1 (rlg (th0 w) (n).toNat i).1 i) 5 j (5, 0, 0) 2 ≤ 896) : Con l G yX5_larger wsX5_larger ({ frames := 5, cells := 0, slots := 0, locals := 112 } : Room) w [.ref (adr G (3, 0, 0)), vI n] (some (vI ((if 1 ≤ n ∧ n ≤ 100 then (rlg (th0 w) (n).toNat (w (3, 0, 0) 1 + 1).toNat).2.1 else 0)))) ((if 1 ≤ n ∧ n ≤ 100 then (rlg (th0 w) (n).toNat (w (3, 0, 0) 1 + 1).toNat).1 else thn w 1)) 0 0 := by
  refine Con.head (cc := cX5_larger) (nL := 6) (ret := (some .int)) hG (by decide +kernel) rfl (Nat.le_of_ble_eq_true rfl) ?_
  intro B A hBl C hr
  have hr0 := hr
  have hrI := hr
  have hinX4 : ∀ w ∈ u_ws RX4 TX4 16, w ∈ wsX5_larger := by decide +kernel
  have hinX5 : ∀ w ∈ u_ws RX5 TX5 12, w ∈ wsX5_larger := by decide +kernel
  obtain ⟨y1, y2⟩ := hvb
  have hS1 := SI_th0 hS
  have hM1 := MI_th0 hM
  have hS6 := SI_th5 hS5
  obtain ⟨hN1, hN2, hN3⟩ := hN
  refine r_aload_n C (k := 0) dX5_larger_0 rfl ?_
  refine r_iconst C dX5_larger_1 ?_
  refine r_putf C 0 hr ⟨by decide, by decide⟩ (ok_of hG (show kd (3, 0, 0) = _ from rfl) (by decide) (by decide)) (show kd (3, 0, 0) = _ from rfl) (by decide) rfl hinX5 tyX5_ok nmX5 (by decide) (by decide +kernel) rfl rfl (ty := .int) (by decide +kernel) rfl rfl rfl (Nat.le_of_ble_eq_true rfl) dX5_larger_2 (fun hr => ?_)
  refine r_iload_n C (k := 1) dX5_larger_5 rfl ?_
  refine r_iconst C dX5_larger_6 ?_
  refine r_bipush C dX5_larger_7 (by decide) ?_
  refine r_callS C (w' := (st1 w (3, 0, 0) (0) (0))) [vI (n), vI (1), vI (100)] 3 (c_X5_isIn hG (by first | assumption | omega | exact hr _ _ | exact hr0 _ _ | exact hrI _ _ | exact ⟨by omega, by omega⟩ | exact bI_inR _ | (simp [st1] <;> omega) | exact rowR.so (by assumption) (by simp)) (by first | assumption | omega | exact hr _ _ | exact hr0 _ _ | exact hrI _ _ | exact ⟨by omega, by omega⟩ | exact bI_inR _ | (simp [st1] <;> omega) | exact rowR.so (by assumption) (by simp)) (by first | assumption | omega | exact hr _ _ | exact hr0 _ _ | exact hrI _ _ | exact ⟨by omega, by omega⟩ | exact bI_inR _ | (simp [st1] <;> omega) | exact rowR.so (by assumption) (by simp))) gX5_larger_X5_isIn rfl rfl rfl (by decide +kernel) (Nat.le_of_ble_eq_true rfl) (Nat.le_of_ble_eq_true rfl) ⟨(Nat.zero_le _), (Nat.zero_le _)⟩ rfl rfl (Nat.le_of_ble_eq_true rfl) (st' := [vI (bI ((1) ≤ (n) ∧ (n) ≤ (100)))]) rfl dX5_larger_9 (fun hr => ?_)
  refine r_if_neP C (P := (1) ≤ (n) ∧ (n) ≤ (100)) (tgt := 21) dX5_larger_12 (by decide) (fun h_1 => ?_) (fun h_1 => ?_)
  · skip
    refine r_iconst C dX5_larger_21 ?_
    refine r_istore_n C (i := 2) (lv' := [(2, vI ((-1))), (0, .ref (adr G (3, 0, 0))), (1, vI (n))]) dX5_larger_22 rfl (by decide) rfl ?_
    refine r_iconst C dX5_larger_23 ?_
    refine r_istore_n C (i := 3) (lv' := [(3, vI (0)), (2, vI ((-1))), (0, .ref (adr G (3, 0, 0))), (1, vI (n))]) dX5_larger_24 rfl (by decide) rfl ?_
    refine r_iconst C dX5_larger_25 ?_
    refine r_istore C (i := 4) (lv' := [(4, vI ((-1))), (3, vI (0)), (2, vI ((-1))), (0, .ref (adr G (3, 0, 0))), (1, vI (n))]) dX5_larger_26 (by decide) rfl ?_
    have loop_28 : ∀ (nf : Nat) (i : Nat), (i ≤ (w (3, 0, 0) 1 + 1).toNat) → (w (3, 0, 0) 1 + 1).toNat - i < nf → rng ((rlg (th0 w) (n).toNat i).1) → Wm B 6 G A (Qe B G A (some (vI ((if 1 ≤ n ∧ n ≤ 100 then (rlg (th0 w) (n).toNat (w (3, 0, 0) 1 + 1).toNat).2.1 else 0)))) ((if 1 ≤ n ∧ n ≤ 100 then (rlg (th0 w) (n).toNat (w (3, 0, 0) 1 + 1).toNat).1 else thn w 1)) 0 0) ((rlg (th0 w) (n).toNat i).1) 0 0 28 [(0, .ref (adr G (3, 0, 0))), (1, vI (n)), (2, vI ((rlg (th0 w) (n).toNat i).2.1)), (3, vI ((rlg (th0 w) (n).toNat i).2.2)), (4, vI ((((i : Nat) : Int) - 1)))] [] := by
      intro n28
      induction n28 with
      | zero => intro i hi hm; exact absurd hm (Nat.not_lt_zero _)
      | succ n28 ih28 =>
        intro i hi hm hr
        have hrI := hr
        obtain ⟨i1, ⟨a, b, c, i2⟩, i3, i4⟩ := rlg_inv hS1 hS6 hM1 (n := (n).toNat) (fun i j h1 h2 h3 => hs i j h1 (by omega) h3) i (by omega)
        have e1 : (rlg (th0 w) (n).toNat i).1 (3, 0, 0) 1 = w (3, 0, 0) 1 := i1 _ _ (by decide)
        have i5 := hS1.sl5 i1
        have i6 := hM1.sl i1 (by decide)
        have s2 := i5.2.2.1
        have e4 : (rlg (th0 w) (n).toNat i).1 (4, 0, 1) (i - 1) = w (4, 0, 1) (i - 1) := i1 _ _ (by decide)
        refine r_iload C (k := 4) dX5_larger_28 rfl ?_
        refine r_aload_n C (k := 0) dX5_larger_30 rfl ?_
        refine r_getf C 1 (ok_of hG (show kd (3, 0, 0) = _ from rfl) (by decide) (by decide)) (show kd (3, 0, 0) = _ from rfl) (by decide) rfl hinX5 (by decide) (by decide +kernel) rfl rfl dX5_larger_31 ?_
        refine r_icmp_ge C (tgt := 152) dX5_larger_34 (by decide) (by first | exact hr _ _ | exact hr0 _ _ | exact hrI _ _ | assumption | exact ⟨by omega, by omega⟩) (by first | exact hr _ _ | exact hr0 _ _ | exact hrI _ _ | assumption | exact ⟨by omega, by omega⟩) (fun h_2 => ?_) (fun h_2 => ?_)
        · skip
          refine r_iload_n C (k := 2) dX5_larger_152 rfl ?_
          exact r_iret C dX5_larger_153 (by (obtain rfl : i = (w (3, 0, 0) 1 + 1).toNat := (by omega)); rw [if_pos ⟨by omega, by omega⟩]) (by (obtain rfl : i = (w (3, 0, 0) 1 + 1).toNat := (by omega)); rw [if_pos ⟨by omega, by omega⟩])
        · have d4 := i5.2.2.2.1 (i - 1) (by omega)
          have d5 := (SI_bec i5 i2).2.2.2.1 (i - 1) (by omega)
          refine r_iload C (k := 4) dX5_larger_37 rfl ?_
          refine r_iconst C dX5_larger_39 ?_
          refine r_icmp_eq C (tgt := 61) dX5_larger_40 (by decide) (by first | exact hr _ _ | exact hr0 _ _ | exact hrI _ _ | assumption | exact ⟨by omega, by omega⟩) ⟨by decide, by decide⟩ (fun h_3 => ?_) (fun h_3 => ?_)
          · have h9 : ¬ (¬ i = 0 ∧ (rlg (th0 w) (n).toNat i).1 (4, 0, 1) (i - 1) = 9) := fun q => by omega
            refine r_aload_n C (k := 0) dX5_larger_61 rfl ?_
            refine r_getf C 11 (v := .ref (adr G (5, 0, 0))) (ok_of hG (show kd (3, 0, 0) = _ from rfl) (by decide) (by decide)) (show kd (3, 0, 0) = _ from rfl) (by decide) rfl hinX5 (by decide) (by decide +kernel) rfl rfl dX5_larger_62 ?_
            refine r_aload_n C (k := 0) dX5_larger_65 rfl ?_
            refine r_getf C 10 (v := .ref (adr G (4, 0, 0))) (ok_of hG (show kd (3, 0, 0) = _ from rfl) (by decide) (by decide)) (show kd (3, 0, 0) = _ from rfl) (by decide) rfl hinX5 (by decide) (by decide +kernel) rfl rfl dX5_larger_66 ?_
            refine r_callV C (w' := (rbec ((rlg (th0 w) (n).toNat i).1) 5 4)) [.ref (adr G (4, 0, 0))] 1 (c_X4_become hG (Or.inr rfl) (Or.inl rfl) (by exact s2) (by decide)) gX5_larger_X4_become rfl rfl rfl (by decide +kernel) (Nat.le_of_ble_eq_true rfl) (Nat.le_of_ble_eq_true rfl) ⟨(Nat.zero_le _), (Nat.zero_le _)⟩ (ok_of hG (show kd (5, 0, 0) = _ from rfl) (by decide) (by decide)) (show kd (5, 0, 0) = _ from rfl) (by decide) rfl rfl rfl (Nat.le_of_ble_eq_true rfl) (st' := []) rfl dX5_larger_69 (fun hr => ?_)
            refine r_iload C (k := 4) dX5_larger_72 rfl ?_
            refine r_iconst C dX5_larger_74 ?_
            refine r_icmp_eq C (tgt := 92) dX5_larger_75 (by decide) (by first | exact hr _ _ | exact hr0 _ _ | exact hrI _ _ | assumption | exact ⟨by omega, by omega⟩) ⟨by decide, by decide⟩ (fun h_4 => ?_) (fun h_4 => ?_)
            · skip
              refine r_iconst C dX5_larger_92 ?_
              refine r_istore C (i := 5) (lv' := [(5, vI (0)), (0, .ref (adr G (3, 0, 0))), (1, vI (n)), (2, vI ((rlg (th0 w) (n).toNat i).2.1)), (3, vI ((rlg (th0 w) (n).toNat i).2.2)), (4, vI ((((i : Nat) : Int) - 1)))]) dX5_larger_93 (by decide) rfl ?_
              have loop_95 : ∀ (nf : Nat) (j : Nat), (j ≤ (n).toNat) → (n).toNat - j < nf → rng (rgo (rl1 (rlg (th0 w) (n).toNat i).1 i) 5 j) → Wm B 6 G A (Qe B G A (some (vI ((if 1 ≤ n ∧ n ≤ 100 then (rlg (th0 w) (n).toNat (w (3, 0, 0) 1 + 1).toNat).2.1 else 0)))) ((if 1 ≤ n ∧ n ≤ 100 then (rlg (th0 w) (n).toNat (w (3, 0, 0) 1 + 1).toNat).1 else thn w 1)) 0 0) (rgo (rl1 (rlg (th0 w) (n).toNat i).1 i) 5 j) 0 0 95 [(0, .ref (adr G (3, 0, 0))), (1, vI (n)), (2, vI ((rlg (th0 w) (n).toNat i).2.1)), (3, vI ((rlg (th0 w) (n).toNat i).2.2)), (4, vI ((((i : Nat) : Int) - 1))), (5, vI (((j : Nat) : Int)))] [] := by
                intro n95
                induction n95 with
                | zero => intro j hj hm; exact absurd hm (Nat.not_lt_zero _)
                | succ n95 ih95 =>
                  intro j hj hm hr
                  have hrI := hr
                  obtain ⟨g1, g2⟩ := SI_go (by decide) (SI_l1 i5 i2 (by omega) h9) (i6.sl rl1_sl (by decide)) j (fun k hk => hs i k (by omega) (by omega) (by rw [← e4]; exact h9))
                  have g3 := (i6.sl rl1_sl (by decide)).sl g2 (by decide)
                  have g4 := rprs_b (u := 5) g3
                  refine r_iload C (k := 5) dX5_larger_95 rfl ?_
                  refine r_iload_n C (k := 1) dX5_larger_97 rfl ?_
                  refine r_icmp_ge C (tgt := 115) dX5_larger_98 (by decide) (by first | exact hr _ _ | exact hr0 _ _ | exact hrI _ _ | assumption | exact ⟨by omega, by omega⟩) (by first | exact hr _ _ | exact hr0 _ _ | exact hrI _ _ | assumption | exact ⟨by omega, by omega⟩) (fun h_5 => ?_) (fun h_5 => ?_)
                  · have ej : j = (n).toNat := (by omega)
                    refine r_aload_n C (k := 0) dX5_larger_115 rfl ?_
                    refine r_getf C 11 (v := .ref (adr G (5, 0, 0))) (ok_of hG (show kd (3, 0, 0) = _ from rfl) (by decide) (by decide)) (show kd (3, 0, 0) = _ from rfl) (by decide) rfl hinX5 (by decide) (by decide +kernel) rfl rfl dX5_larger_116 ?_
                    refine r_callV C (w' := (rgo (rl1 (rlg (th0 w) (n).toNat i).1 i) 5 j)) [] 0 (c_X4_pairs hG (Or.inr rfl) (by exact g3.1) (by exact g3.2.1)) gX5_larger_X4_pairs rfl rfl rfl (by decide +kernel) (Nat.le_of_ble_eq_true rfl) (Nat.le_of_ble_eq_true rfl) ⟨(Nat.zero_le _), (Nat.zero_le _)⟩ (ok_of hG (show kd (5, 0, 0) = _ from rfl) (by decide) (by decide)) (show kd (5, 0, 0) = _ from rfl) (by decide) rfl rfl rfl (Nat.le_of_ble_eq_true rfl) (st' := [vI ((rprs (rgo (rl1 (rlg (th0 w) (n).toNat i).1 i) 5 j) 5))]) rfl dX5_larger_119 (fun hr => ?_)
                    refine r_istore C (i := 5) (lv' := [(5, vI ((rprs (rgo (rl1 (rlg (th0 w) (n).toNat i).1 i) 5 j) 5))), (0, .ref (adr G (3, 0, 0))), (1, vI (n)), (2, vI ((rlg (th0 w) (n).toNat i).2.1)), (3, vI ((rlg (th0 w) (n).toNat i).2.2)), (4, vI ((((i : Nat) : Int) - 1)))]) dX5_larger_122 (by decide) rfl ?_
                    refine r_iload C (k := 5) dX5_larger_124 rfl ?_
                    refine r_iconst C dX5_larger_126 ?_
                    refine r_icmp_eq C (tgt := 139) dX5_larger_127 (by decide) (by first | exact hr _ _ | exact hr0 _ _ | exact hrI _ _ | assumption | exact ⟨by omega, by omega⟩) ⟨by decide, by decide⟩ (fun h_6 => ?_) (fun h_6 => ?_)
                    · skip
                      refine r_iload_n C (k := 4) dX5_larger_139 rfl ?_
                      refine r_iload C (k := 0) dX5_larger_140 rfl ?_
                      refine r_mmax C (by first | exact hr _ _ | exact hr0 _ _ | exact hrI _ _ | assumption | exact ⟨by omega, by omega⟩) (by first | exact hr _ _ | exact hr0 _ _ | exact hrI _ _ | assumption | exact ⟨by omega, by omega⟩) (by decide +kernel) (by decide +kernel) (by decide +kernel) (by decide +kernel) (Nat.le_of_ble_eq_true rfl) (Nat.le_of_ble_eq_true rfl) (Nat.zero_le _) (Nat.zero_le _) dX5_larger_142 ?_
                      refine r_istore_n C (i := 3) (lv' := [(3, vI ((max ((rlg (th0 w) (n).toNat i).2.2) ((rprs (rgo (rl1 (rlg (th0 w) (n).toNat i).1 i) 5 j) 5))))), (5, vI ((rprs (rgo (rl1 (rlg (th0 w) (n).toNat i).1 i) 5 j) 5))), (0, .ref (adr G (3, 0, 0))), (1, vI (n)), (2, vI ((rlg (th0 w) (n).toNat i).2.1)), (4, vI ((((i : Nat) : Int) - 1)))]) dX5_larger_145 rfl (by decide) rfl ?_
                      refine r_iinc C (k := 5) (lv' := [(4, vI (((((i : Nat) : Int) - 1) + 1))), (3, vI ((max ((rlg (th0 w) (n).toNat i).2.2) ((rprs (rgo (rl1 (rlg (th0 w) (n).toNat i).1 i) 5 j) 5))))), (5, vI ((rprs (rgo (rl1 (rlg (th0 w) (n).toNat i).1 i) 5 j) 5))), (0, .ref (adr G (3, 0, 0))), (1, vI (n)), (2, vI ((rlg (th0 w) (n).toNat i).2.1))]) dX5_larger_146 rfl (by decide) rfl ?_
                      refine r_goto C (tgt := 28) dX5_larger_149 (by decide) ?_
                      have e_7 : (rgo (rl1 (rlg (th0 w) (n).toNat i).1 i) 5 j) = ((rlg (th0 w) (n).toNat (i + 1)).1) := by (first | subst ej | skip); (simp only [rlg]; first | (rw [if_pos ⟨by omega, by assumption⟩]; done) | (rw [if_neg h9]))
                      refine Wm.sub (lv' := [(0, .ref (adr G (3, 0, 0))), (1, vI (n)), (2, vI ((rlg (th0 w) (n).toNat i).2.1)), (3, vI ((max ((rlg (th0 w) (n).toNat i).2.2) ((rprs (rgo (rl1 (rlg (th0 w) (n).toNat i).1 i) 5 j) 5))))), (4, vI (((((i : Nat) : Int) - 1) + 1)))]) [3, 4, 5, 1, 0] rfl ?_
                      refine Wm.mem (lv' := [(0, .ref (adr G (3, 0, 0))), (1, vI (n)), (2, vI ((rlg (th0 w) (n).toNat (i + 1)).2.1)), (3, vI ((rlg (th0 w) (n).toNat (i + 1)).2.2)), (4, vI (((((i + 1) : Nat) : Int) - 1)))]) e_7 (by (first | subst ej | skip); (simp only [rlg]; first | (exfalso; omega) | (rw [if_pos ⟨by omega, by assumption⟩]; rw [show ((i : Nat) : Int) - 1 + 1 = ((i + 1 : Nat) : Int) - 1 from by omega]; done) | (rw [if_neg h9]; (first | rw [if_neg (fun q => by omega)] | rw [if_pos ⟨by omega, by omega⟩]); rw [show ((i : Nat) : Int) - 1 + 1 = ((i + 1 : Nat) : Int) - 1 from by omega]))) ?_
                      exact ih28 ((i + 1)) (by omega) (by omega) (e_7 ▸ hr)
                    · skip
                      refine r_iload C (k := 0) dX5_larger_130 rfl ?_
                      refine r_iload_n C (k := 4) dX5_larger_132 rfl ?_
                      refine r_icmp_le C (tgt := 139) dX5_larger_133 (by decide) (by first | exact hr _ _ | exact hr0 _ _ | exact hrI _ _ | assumption | exact ⟨by omega, by omega⟩) (by first | exact hr _ _ | exact hr0 _ _ | exact hrI _ _ | assumption | exact ⟨by omega, by omega⟩) (fun h_8 => ?_) (fun h_8 => ?_)
                      · skip
                        refine r_iload_n C (k := 4) dX5_larger_139 rfl ?_
                        refine r_iload C (k := 0) dX5_larger_140 rfl ?_
                        refine r_mmax C (by first | exact hr _ _ | exact hr0 _ _ | exact hrI _ _ | assumption | exact ⟨by omega, by omega⟩) (by first | exact hr _ _ | exact hr0 _ _ | exact hrI _ _ | assumption | exact ⟨by omega, by omega⟩) (by decide +kernel) (by decide +kernel) (by decide +kernel) (by decide +kernel) (Nat.le_of_ble_eq_true rfl) (Nat.le_of_ble_eq_true rfl) (Nat.zero_le _) (Nat.zero_le _) dX5_larger_142 ?_
                        refine r_istore_n C (i := 3) (lv' := [(3, vI ((max ((rlg (th0 w) (n).toNat i).2.2) ((rprs (rgo (rl1 (rlg (th0 w) (n).toNat i).1 i) 5 j) 5))))), (5, vI ((rprs (rgo (rl1 (rlg (th0 w) (n).toNat i).1 i) 5 j) 5))), (0, .ref (adr G (3, 0, 0))), (1, vI (n)), (2, vI ((rlg (th0 w) (n).toNat i).2.1)), (4, vI ((((i : Nat) : Int) - 1)))]) dX5_larger_145 rfl (by decide) rfl ?_
                        refine r_iinc C (k := 5) (lv' := [(4, vI (((((i : Nat) : Int) - 1) + 1))), (3, vI ((max ((rlg (th0 w) (n).toNat i).2.2) ((rprs (rgo (rl1 (rlg (th0 w) (n).toNat i).1 i) 5 j) 5))))), (5, vI ((rprs (rgo (rl1 (rlg (th0 w) (n).toNat i).1 i) 5 j) 5))), (0, .ref (adr G (3, 0, 0))), (1, vI (n)), (2, vI ((rlg (th0 w) (n).toNat i).2.1))]) dX5_larger_146 rfl (by decide) rfl ?_
                        refine r_goto C (tgt := 28) dX5_larger_149 (by decide) ?_
                        have e_9 : (rgo (rl1 (rlg (th0 w) (n).toNat i).1 i) 5 j) = ((rlg (th0 w) (n).toNat (i + 1)).1) := by (first | subst ej | skip); (simp only [rlg]; first | (rw [if_pos ⟨by omega, by assumption⟩]; done) | (rw [if_neg h9]))
                        refine Wm.sub (lv' := [(0, .ref (adr G (3, 0, 0))), (1, vI (n)), (2, vI ((rlg (th0 w) (n).toNat i).2.1)), (3, vI ((max ((rlg (th0 w) (n).toNat i).2.2) ((rprs (rgo (rl1 (rlg (th0 w) (n).toNat i).1 i) 5 j) 5))))), (4, vI (((((i : Nat) : Int) - 1) + 1)))]) [3, 4, 5, 1, 0] rfl ?_
                        refine Wm.mem (lv' := [(0, .ref (adr G (3, 0, 0))), (1, vI (n)), (2, vI ((rlg (th0 w) (n).toNat (i + 1)).2.1)), (3, vI ((rlg (th0 w) (n).toNat (i + 1)).2.2)), (4, vI (((((i + 1) : Nat) : Int) - 1)))]) e_9 (by (first | subst ej | skip); (simp only [rlg]; first | (exfalso; omega) | (rw [if_pos ⟨by omega, by assumption⟩]; rw [show ((i : Nat) : Int) - 1 + 1 = ((i + 1 : Nat) : Int) - 1 from by omega]; done) | (rw [if_neg h9]; (first | rw [if_neg (fun q => by omega)] | rw [if_pos ⟨by omega, by omega⟩]); rw [show ((i : Nat) : Int) - 1 + 1 = ((i + 1 : Nat) : Int) - 1 from by omega]))) ?_
                        exact ih28 ((i + 1)) (by omega) (by omega) (e_9 ▸ hr)
                      · skip
                        refine r_iload C (k := 5) dX5_larger_136 rfl ?_
                        refine r_istore_n C (i := 2) (lv' := [(2, vI ((((i : Nat) : Int) - 1))), (5, vI ((rprs (rgo (rl1 (rlg (th0 w) (n).toNat i).1 i) 5 j) 5))), (0, .ref (adr G (3, 0, 0))), (1, vI (n)), (3, vI ((rlg (th0 w) (n).toNat i).2.2)), (4, vI ((((i : Nat) : Int) - 1)))]) dX5_larger_138 rfl (by decide) rfl ?_
                        refine r_iload_n C (k := 4) dX5_larger_139 rfl ?_
                        refine r_iload C (k := 1) dX5_larger_140 rfl ?_
                        refine r_mmax C (by first | exact hr _ _ | exact hr0 _ _ | exact hrI _ _ | assumption | exact ⟨by omega, by omega⟩) (by first | exact hr _ _ | exact hr0 _ _ | exact hrI _ _ | assumption | exact ⟨by omega, by omega⟩) (by decide +kernel) (by decide +kernel) (by decide +kernel) (by decide +kernel) (Nat.le_of_ble_eq_true rfl) (Nat.le_of_ble_eq_true rfl) (Nat.zero_le _) (Nat.zero_le _) dX5_larger_142 ?_
                        refine r_istore_n C (i := 3) (lv' := [(3, vI ((max ((rlg (th0 w) (n).toNat i).2.2) ((rprs (rgo (rl1 (rlg (th0 w) (n).toNat i).1 i) 5 j) 5))))), (2, vI ((((i : Nat) : Int) - 1))), (5, vI ((rprs (rgo (rl1 (rlg (th0 w) (n).toNat i).1 i) 5 j) 5))), (0, .ref (adr G (3, 0, 0))), (1, vI (n)), (4, vI ((((i : Nat) : Int) - 1)))]) dX5_larger_145 rfl (by decide) rfl ?_
                        refine r_iinc C (k := 5) (lv' := [(4, vI (((((i : Nat) : Int) - 1) + 1))), (3, vI ((max ((rlg (th0 w) (n).toNat i).2.2) ((rprs (rgo (rl1 (rlg (th0 w) (n).toNat i).1 i) 5 j) 5))))), (2, vI ((((i : Nat) : Int) - 1))), (5, vI ((rprs (rgo (rl1 (rlg (th0 w) (n).toNat i).1 i) 5 j) 5))), (0, .ref (adr G (3, 0, 0))), (1, vI (n))]) dX5_larger_146 rfl (by decide) rfl ?_
                        refine r_goto C (tgt := 28) dX5_larger_149 (by decide) ?_
                        have e_10 : (rgo (rl1 (rlg (th0 w) (n).toNat i).1 i) 5 j) = ((rlg (th0 w) (n).toNat (i + 1)).1) := by (first | subst ej | skip); (simp only [rlg]; first | (rw [if_pos ⟨by omega, by assumption⟩]; done) | (rw [if_neg h9]))
                        refine Wm.sub (lv' := [(0, .ref (adr G (3, 0, 0))), (1, vI (n)), (2, vI ((((i : Nat) : Int) - 1))), (3, vI ((max ((rlg (th0 w) (n).toNat i).2.2) ((rprs (rgo (rl1 (rlg (th0 w) (n).toNat i).1 i) 5 j) 5))))), (4, vI (((((i : Nat) : Int) - 1) + 1)))]) [4, 5, 2, 1, 0] rfl ?_
                        refine Wm.mem (lv' := [(0, .ref (adr G (3, 0, 0))), (1, vI (n)), (2, vI ((rlg (th0 w) (n).toNat (i + 1)).2.1)), (3, vI ((rlg (th0 w) (n).toNat (i + 1)).2.2)), (4, vI (((((i + 1) : Nat) : Int) - 1)))]) e_10 (by (first | subst ej | skip); (simp only [rlg]; first | (exfalso; omega) | (rw [if_pos ⟨by omega, by assumption⟩]; rw [show ((i : Nat) : Int) - 1 + 1 = ((i + 1 : Nat) : Int) - 1 from by omega]; done) | (rw [if_neg h9]; (first | rw [if_neg (fun q => by omega)] | rw [if_pos ⟨by omega, by omega⟩]); rw [show ((i : Nat) : Int) - 1 + 1 = ((i + 1 : Nat) : Int) - 1 from by omega]))) ?_
                        exact ih28 ((i + 1)) (by omega) (by omega) (e_10 ▸ hr)
                  · skip
                    refine r_aload_n C (k := 0) dX5_larger_101 rfl ?_
                    refine r_getf C 11 (v := .ref (adr G (5, 0, 0))) (ok_of hG (show kd (3, 0, 0) = _ from rfl) (by decide) (by decide)) (show kd (3, 0, 0) = _ from rfl) (by decide) rfl hinX5 (by decide) (by decide +kernel) rfl rfl dX5_larger_102 ?_
                    refine r_callV C (w' := (rbeat (rgo (rl1 (rlg (th0 w) (n).toNat i).1 i) 5 j) 5)) [] 0 (c_X4_pass hG (Or.inr rfl) (by exact g1) (by exact g3) (by exact ⟨by omega, by omega, by omega⟩) (by exact hs i j (by omega) (by omega) (by rw [← e4]; exact h9))) gX5_larger_X4_pass rfl rfl rfl (by decide +kernel) (Nat.le_of_ble_eq_true rfl) (Nat.le_of_ble_eq_true rfl) ⟨(Nat.zero_le _), (Nat.zero_le _)⟩ (ok_of hG (show kd (5, 0, 0) = _ from rfl) (by decide) (by decide)) (show kd (5, 0, 0) = _ from rfl) (by decide) rfl rfl rfl (Nat.le_of_ble_eq_true rfl) (st' := [vI (((((rv3 (rgo (rl1 (rlg (th0 w) (n).toNat i).1 i) 5 j) 5).2.1 : Nat) : Int)))]) rfl dX5_larger_105 (fun hr => ?_)
                    refine r_pop C dX5_larger_108 rfl ?_
                    refine r_iinc C (k := 5) (lv' := [(5, vI (((j + 1 : Nat) : Int))), (0, .ref (adr G (3, 0, 0))), (1, vI (n)), (2, vI ((rlg (th0 w) (n).toNat i).2.1)), (3, vI ((rlg (th0 w) (n).toNat i).2.2)), (4, vI ((((i : Nat) : Int) - 1)))]) dX5_larger_109 rfl (by decide) rfl ?_
                    refine r_goto C (tgt := 95) dX5_larger_112 (by decide) ?_
                    have e_11 : (rbeat (rgo (rl1 (rlg (th0 w) (n).toNat i).1 i) 5 j) 5) = (rgo (rl1 (rlg (th0 w) (n).toNat i).1 i) 5 (j + 1)) := by rfl
                    refine Wm.sub (lv' := [(0, .ref (adr G (3, 0, 0))), (1, vI (n)), (2, vI ((rlg (th0 w) (n).toNat i).2.1)), (3, vI ((rlg (th0 w) (n).toNat i).2.2)), (4, vI ((((i : Nat) : Int) - 1))), (5, vI (((j + 1 : Nat) : Int)))]) [1, 2, 3, 4, 5, 0] rfl ?_
                    refine Wm.mem (lv' := [(0, .ref (adr G (3, 0, 0))), (1, vI (n)), (2, vI ((rlg (th0 w) (n).toNat i).2.1)), (3, vI ((rlg (th0 w) (n).toNat i).2.2)), (4, vI ((((i : Nat) : Int) - 1))), (5, vI ((((j + 1) : Nat) : Int)))]) e_11 (by rfl) ?_
                    exact ih95 ((j + 1)) (by omega) (by omega) (e_11 ▸ hr)
              have e_12 : (rbec ((rlg (th0 w) (n).toNat i).1) 5 4) = (rgo (rl1 (rlg (th0 w) (n).toNat i).1 i) 5 0) := by (unfold rl1; first | (rw [if_pos (by omega)]; rfl) | (rw [if_neg (by omega)]; rfl))
              refine Wm.sub (lv' := [(0, .ref (adr G (3, 0, 0))), (1, vI (n)), (2, vI ((rlg (th0 w) (n).toNat i).2.1)), (3, vI ((rlg (th0 w) (n).toNat i).2.2)), (4, vI ((((i : Nat) : Int) - 1))), (5, vI (0))]) [1, 2, 3, 4, 5, 0] rfl ?_
              refine Wm.mem (lv' := [(0, .ref (adr G (3, 0, 0))), (1, vI (n)), (2, vI ((rlg (th0 w) (n).toNat i).2.1)), (3, vI ((rlg (th0 w) (n).toNat i).2.2)), (4, vI ((((i : Nat) : Int) - 1))), (5, vI (((0 : Nat) : Int)))]) e_12 (by rfl) ?_
              exact loop_95 _ (0) (by omega) (Nat.lt_succ_self _) (e_12 ▸ hr)
            · skip
              refine r_aload_n C (k := 0) dX5_larger_78 rfl ?_
              refine r_getf C 11 (v := .ref (adr G (5, 0, 0))) (ok_of hG (show kd (3, 0, 0) = _ from rfl) (by decide) (by decide)) (show kd (3, 0, 0) = _ from rfl) (by decide) rfl hinX5 (by decide) (by decide +kernel) rfl rfl dX5_larger_79 ?_
              refine r_getfN (host := "DrumTalkModel") C 3 (v := .ref (adr G (5, 0, 1))) (ok_of hG (show kd (5, 0, 0) = _ from rfl) (by decide) (by decide)) (show kd (5, 0, 0) = _ from rfl) (by decide) rfl hinX4 (by decide) (by decide +kernel) rfl rfl dX5_larger_82 ?_
              refine r_iload C (k := 4) dX5_larger_85 rfl ?_
              refine r_dup2 C dX5_larger_87 rfl rfl ?_
              refine r_iald C (i - 1) (ok_of hG (show kd (5, 0, 1) = _ from rfl) (by decide) (by decide)) (show kd (5, 0, 1) = _ from rfl) (by omega) (by first | omega | assumption) (by decide) dX5_larger_88 ?_
              refine r_iconst C dX5_larger_89 ?_
              refine r_iadd C dX5_larger_90 ?_
              refine r_iast C (i - 1) hr (by first | exact hr _ _ | exact hr0 _ _ | exact hrI _ _ | assumption | exact ⟨by omega, by omega⟩) (ok_of hG (show kd (5, 0, 1) = _ from rfl) (by decide) (by decide)) (show kd (5, 0, 1) = _ from rfl) (by omega) (by first | omega | assumption) (by decide) dX5_larger_91 (fun hr => ?_)
              refine r_iconst C dX5_larger_92 ?_
              refine r_istore C (i := 5) (lv' := [(5, vI (0)), (0, .ref (adr G (3, 0, 0))), (1, vI (n)), (2, vI ((rlg (th0 w) (n).toNat i).2.1)), (3, vI ((rlg (th0 w) (n).toNat i).2.2)), (4, vI ((((i : Nat) : Int) - 1)))]) dX5_larger_93 (by decide) rfl ?_
              have loop_95 : ∀ (nf : Nat) (j : Nat), (j ≤ (n).toNat) → (n).toNat - j < nf → rng (rgo (rl1 (rlg (th0 w) (n).toNat i).1 i) 5 j) → Wm B 6 G A (Qe B G A (some (vI ((if 1 ≤ n ∧ n ≤ 100 then (rlg (th0 w) (n).toNat (w (3, 0, 0) 1 + 1).toNat).2.1 else 0)))) ((if 1 ≤ n ∧ n ≤ 100 then (rlg (th0 w) (n).toNat (w (3, 0, 0) 1 + 1).toNat).1 else thn w 1)) 0 0) (rgo (rl1 (rlg (th0 w) (n).toNat i).1 i) 5 j) 0 0 95 [(0, .ref (adr G (3, 0, 0))), (1, vI (n)), (2, vI ((rlg (th0 w) (n).toNat i).2.1)), (3, vI ((rlg (th0 w) (n).toNat i).2.2)), (4, vI ((((i : Nat) : Int) - 1))), (5, vI (((j : Nat) : Int)))] [] := by
                intro n95
                induction n95 with
                | zero => intro j hj hm; exact absurd hm (Nat.not_lt_zero _)
                | succ n95 ih95 =>
                  intro j hj hm hr
                  have hrI := hr
                  obtain ⟨g1, g2⟩ := SI_go (by decide) (SI_l1 i5 i2 (by omega) h9) (i6.sl rl1_sl (by decide)) j (fun k hk => hs i k (by omega) (by omega) (by rw [← e4]; exact h9))
                  have g3 := (i6.sl rl1_sl (by decide)).sl g2 (by decide)
                  have g4 := rprs_b (u := 5) g3
                  refine r_iload C (k := 5) dX5_larger_95 rfl ?_
                  refine r_iload_n C (k := 1) dX5_larger_97 rfl ?_
                  refine r_icmp_ge C (tgt := 115) dX5_larger_98 (by decide) (by first | exact hr _ _ | exact hr0 _ _ | exact hrI _ _ | assumption | exact ⟨by omega, by omega⟩) (by first | exact hr _ _ | exact hr0 _ _ | exact hrI _ _ | assumption | exact ⟨by omega, by omega⟩) (fun h_13 => ?_) (fun h_13 => ?_)
                  · have ej : j = (n).toNat := (by omega)
                    refine r_aload_n C (k := 0) dX5_larger_115 rfl ?_
                    refine r_getf C 11 (v := .ref (adr G (5, 0, 0))) (ok_of hG (show kd (3, 0, 0) = _ from rfl) (by decide) (by decide)) (show kd (3, 0, 0) = _ from rfl) (by decide) rfl hinX5 (by decide) (by decide +kernel) rfl rfl dX5_larger_116 ?_
                    refine r_callV C (w' := (rgo (rl1 (rlg (th0 w) (n).toNat i).1 i) 5 j)) [] 0 (c_X4_pairs hG (Or.inr rfl) (by exact g3.1) (by exact g3.2.1)) gX5_larger_X4_pairs rfl rfl rfl (by decide +kernel) (Nat.le_of_ble_eq_true rfl) (Nat.le_of_ble_eq_true rfl) ⟨(Nat.zero_le _), (Nat.zero_le _)⟩ (ok_of hG (show kd (5, 0, 0) = _ from rfl) (by decide) (by decide)) (show kd (5, 0, 0) = _ from rfl) (by decide) rfl rfl rfl (Nat.le_of_ble_eq_true rfl) (st' := [vI ((rprs (rgo (rl1 (rlg (th0 w) (n).toNat i).1 i) 5 j) 5))]) rfl dX5_larger_119 (fun hr => ?_)
                    refine r_istore C (i := 5) (lv' := [(5, vI ((rprs (rgo (rl1 (rlg (th0 w) (n).toNat i).1 i) 5 j) 5))), (0, .ref (adr G (3, 0, 0))), (1, vI (n)), (2, vI ((rlg (th0 w) (n).toNat i).2.1)), (3, vI ((rlg (th0 w) (n).toNat i).2.2)), (4, vI ((((i : Nat) : Int) - 1)))]) dX5_larger_122 (by decide) rfl ?_
                    refine r_iload C (k := 5) dX5_larger_124 rfl ?_
                    refine r_iconst C dX5_larger_126 ?_
                    refine r_icmp_eq C (tgt := 139) dX5_larger_127 (by decide) (by first | exact hr _ _ | exact hr0 _ _ | exact hrI _ _ | assumption | exact ⟨by omega, by omega⟩) ⟨by decide, by decide⟩ (fun h_14 => ?_) (fun h_14 => ?_)
                    · skip
                      refine r_iload_n C (k := 4) dX5_larger_139 rfl ?_
                      refine r_iload C (k := 0) dX5_larger_140 rfl ?_
                      refine r_mmax C (by first | exact hr _ _ | exact hr0 _ _ | exact hrI _ _ | assumption | exact ⟨by omega, by omega⟩) (by first | exact hr _ _ | exact hr0 _ _ | exact hrI _ _ | assumption | exact ⟨by omega, by omega⟩) (by decide +kernel) (by decide +kernel) (by decide +kernel) (by decide +kernel) (Nat.le_of_ble_eq_true rfl) (Nat.le_of_ble_eq_true rfl) (Nat.zero_le _) (Nat.zero_le _) dX5_larger_142 ?_
                      refine r_istore_n C (i := 3) (lv' := [(3, vI ((max ((rlg (th0 w) (n).toNat i).2.2) ((rprs (rgo (rl1 (rlg (th0 w) (n).toNat i).1 i) 5 j) 5))))), (5, vI ((rprs (rgo (rl1 (rlg (th0 w) (n).toNat i).1 i) 5 j) 5))), (0, .ref (adr G (3, 0, 0))), (1, vI (n)), (2, vI ((rlg (th0 w) (n).toNat i).2.1)), (4, vI ((((i : Nat) : Int) - 1)))]) dX5_larger_145 rfl (by decide) rfl ?_
                      refine r_iinc C (k := 5) (lv' := [(4, vI (((((i : Nat) : Int) - 1) + 1))), (3, vI ((max ((rlg (th0 w) (n).toNat i).2.2) ((rprs (rgo (rl1 (rlg (th0 w) (n).toNat i).1 i) 5 j) 5))))), (5, vI ((rprs (rgo (rl1 (rlg (th0 w) (n).toNat i).1 i) 5 j) 5))), (0, .ref (adr G (3, 0, 0))), (1, vI (n)), (2, vI ((rlg (th0 w) (n).toNat i).2.1))]) dX5_larger_146 rfl (by decide) rfl ?_
                      refine r_goto C (tgt := 28) dX5_larger_149 (by decide) ?_
                      have e_15 : (rgo (rl1 (rlg (th0 w) (n).toNat i).1 i) 5 j) = ((rlg (th0 w) (n).toNat (i + 1)).1) := by (first | subst ej | skip); (simp only [rlg]; first | (rw [if_pos ⟨by omega, by assumption⟩]; done) | (rw [if_neg h9]))
                      refine Wm.sub (lv' := [(0, .ref (adr G (3, 0, 0))), (1, vI (n)), (2, vI ((rlg (th0 w) (n).toNat i).2.1)), (3, vI ((max ((rlg (th0 w) (n).toNat i).2.2) ((rprs (rgo (rl1 (rlg (th0 w) (n).toNat i).1 i) 5 j) 5))))), (4, vI (((((i : Nat) : Int) - 1) + 1)))]) [3, 4, 5, 1, 0] rfl ?_
                      refine Wm.mem (lv' := [(0, .ref (adr G (3, 0, 0))), (1, vI (n)), (2, vI ((rlg (th0 w) (n).toNat (i + 1)).2.1)), (3, vI ((rlg (th0 w) (n).toNat (i + 1)).2.2)), (4, vI (((((i + 1) : Nat) : Int) - 1)))]) e_15 (by (first | subst ej | skip); (simp only [rlg]; first | (exfalso; omega) | (rw [if_pos ⟨by omega, by assumption⟩]; rw [show ((i : Nat) : Int) - 1 + 1 = ((i + 1 : Nat) : Int) - 1 from by omega]; done) | (rw [if_neg h9]; (first | rw [if_neg (fun q => by omega)] | rw [if_pos ⟨by omega, by omega⟩]); rw [show ((i : Nat) : Int) - 1 + 1 = ((i + 1 : Nat) : Int) - 1 from by omega]))) ?_
                      exact ih28 ((i + 1)) (by omega) (by omega) (e_15 ▸ hr)
                    · skip
                      refine r_iload C (k := 0) dX5_larger_130 rfl ?_
                      refine r_iload_n C (k := 4) dX5_larger_132 rfl ?_
                      refine r_icmp_le C (tgt := 139) dX5_larger_133 (by decide) (by first | exact hr _ _ | exact hr0 _ _ | exact hrI _ _ | assumption | exact ⟨by omega, by omega⟩) (by first | exact hr _ _ | exact hr0 _ _ | exact hrI _ _ | assumption | exact ⟨by omega, by omega⟩) (fun h_16 => ?_) (fun h_16 => ?_)
                      · skip
                        refine r_iload_n C (k := 4) dX5_larger_139 rfl ?_
                        refine r_iload C (k := 0) dX5_larger_140 rfl ?_
                        refine r_mmax C (by first | exact hr _ _ | exact hr0 _ _ | exact hrI _ _ | assumption | exact ⟨by omega, by omega⟩) (by first | exact hr _ _ | exact hr0 _ _ | exact hrI _ _ | assumption | exact ⟨by omega, by omega⟩) (by decide +kernel) (by decide +kernel) (by decide +kernel) (by decide +kernel) (Nat.le_of_ble_eq_true rfl) (Nat.le_of_ble_eq_true rfl) (Nat.zero_le _) (Nat.zero_le _) dX5_larger_142 ?_
                        refine r_istore_n C (i := 3) (lv' := [(3, vI ((max ((rlg (th0 w) (n).toNat i).2.2) ((rprs (rgo (rl1 (rlg (th0 w) (n).toNat i).1 i) 5 j) 5))))), (5, vI ((rprs (rgo (rl1 (rlg (th0 w) (n).toNat i).1 i) 5 j) 5))), (0, .ref (adr G (3, 0, 0))), (1, vI (n)), (2, vI ((rlg (th0 w) (n).toNat i).2.1)), (4, vI ((((i : Nat) : Int) - 1)))]) dX5_larger_145 rfl (by decide) rfl ?_
                        refine r_iinc C (k := 5) (lv' := [(4, vI (((((i : Nat) : Int) - 1) + 1))), (3, vI ((max ((rlg (th0 w) (n).toNat i).2.2) ((rprs (rgo (rl1 (rlg (th0 w) (n).toNat i).1 i) 5 j) 5))))), (5, vI ((rprs (rgo (rl1 (rlg (th0 w) (n).toNat i).1 i) 5 j) 5))), (0, .ref (adr G (3, 0, 0))), (1, vI (n)), (2, vI ((rlg (th0 w) (n).toNat i).2.1))]) dX5_larger_146 rfl (by decide) rfl ?_
                        refine r_goto C (tgt := 28) dX5_larger_149 (by decide) ?_
                        have e_17 : (rgo (rl1 (rlg (th0 w) (n).toNat i).1 i) 5 j) = ((rlg (th0 w) (n).toNat (i + 1)).1) := by (first | subst ej | skip); (simp only [rlg]; first | (rw [if_pos ⟨by omega, by assumption⟩]; done) | (rw [if_neg h9]))
                        refine Wm.sub (lv' := [(0, .ref (adr G (3, 0, 0))), (1, vI (n)), (2, vI ((rlg (th0 w) (n).toNat i).2.1)), (3, vI ((max ((rlg (th0 w) (n).toNat i).2.2) ((rprs (rgo (rl1 (rlg (th0 w) (n).toNat i).1 i) 5 j) 5))))), (4, vI (((((i : Nat) : Int) - 1) + 1)))]) [3, 4, 5, 1, 0] rfl ?_
                        refine Wm.mem (lv' := [(0, .ref (adr G (3, 0, 0))), (1, vI (n)), (2, vI ((rlg (th0 w) (n).toNat (i + 1)).2.1)), (3, vI ((rlg (th0 w) (n).toNat (i + 1)).2.2)), (4, vI (((((i + 1) : Nat) : Int) - 1)))]) e_17 (by (first | subst ej | skip); (simp only [rlg]; first | (exfalso; omega) | (rw [if_pos ⟨by omega, by assumption⟩]; rw [show ((i : Nat) : Int) - 1 + 1 = ((i + 1 : Nat) : Int) - 1 from by omega]; done) | (rw [if_neg h9]; (first | rw [if_neg (fun q => by omega)] | rw [if_pos ⟨by omega, by omega⟩]); rw [show ((i : Nat) : Int) - 1 + 1 = ((i + 1 : Nat) : Int) - 1 from by omega]))) ?_
                        exact ih28 ((i + 1)) (by omega) (by omega) (e_17 ▸ hr)
                      · skip
                        refine r_iload C (k := 5) dX5_larger_136 rfl ?_
                        refine r_istore_n C (i := 2) (lv' := [(2, vI ((((i : Nat) : Int) - 1))), (5, vI ((rprs (rgo (rl1 (rlg (th0 w) (n).toNat i).1 i) 5 j) 5))), (0, .ref (adr G (3, 0, 0))), (1, vI (n)), (3, vI ((rlg (th0 w) (n).toNat i).2.2)), (4, vI ((((i : Nat) : Int) - 1)))]) dX5_larger_138 rfl (by decide) rfl ?_
                        refine r_iload_n C (k := 4) dX5_larger_139 rfl ?_
                        refine r_iload C (k := 1) dX5_larger_140 rfl ?_
                        refine r_mmax C (by first | exact hr _ _ | exact hr0 _ _ | exact hrI _ _ | assumption | exact ⟨by omega, by omega⟩) (by first | exact hr _ _ | exact hr0 _ _ | exact hrI _ _ | assumption | exact ⟨by omega, by omega⟩) (by decide +kernel) (by decide +kernel) (by decide +kernel) (by decide +kernel) (Nat.le_of_ble_eq_true rfl) (Nat.le_of_ble_eq_true rfl) (Nat.zero_le _) (Nat.zero_le _) dX5_larger_142 ?_
                        refine r_istore_n C (i := 3) (lv' := [(3, vI ((max ((rlg (th0 w) (n).toNat i).2.2) ((rprs (rgo (rl1 (rlg (th0 w) (n).toNat i).1 i) 5 j) 5))))), (2, vI ((((i : Nat) : Int) - 1))), (5, vI ((rprs (rgo (rl1 (rlg (th0 w) (n).toNat i).1 i) 5 j) 5))), (0, .ref (adr G (3, 0, 0))), (1, vI (n)), (4, vI ((((i : Nat) : Int) - 1)))]) dX5_larger_145 rfl (by decide) rfl ?_
                        refine r_iinc C (k := 5) (lv' := [(4, vI (((((i : Nat) : Int) - 1) + 1))), (3, vI ((max ((rlg (th0 w) (n).toNat i).2.2) ((rprs (rgo (rl1 (rlg (th0 w) (n).toNat i).1 i) 5 j) 5))))), (2, vI ((((i : Nat) : Int) - 1))), (5, vI ((rprs (rgo (rl1 (rlg (th0 w) (n).toNat i).1 i) 5 j) 5))), (0, .ref (adr G (3, 0, 0))), (1, vI (n))]) dX5_larger_146 rfl (by decide) rfl ?_
                        refine r_goto C (tgt := 28) dX5_larger_149 (by decide) ?_
                        have e_18 : (rgo (rl1 (rlg (th0 w) (n).toNat i).1 i) 5 j) = ((rlg (th0 w) (n).toNat (i + 1)).1) := by (first | subst ej | skip); (simp only [rlg]; first | (rw [if_pos ⟨by omega, by assumption⟩]; done) | (rw [if_neg h9]))
                        refine Wm.sub (lv' := [(0, .ref (adr G (3, 0, 0))), (1, vI (n)), (2, vI ((((i : Nat) : Int) - 1))), (3, vI ((max ((rlg (th0 w) (n).toNat i).2.2) ((rprs (rgo (rl1 (rlg (th0 w) (n).toNat i).1 i) 5 j) 5))))), (4, vI (((((i : Nat) : Int) - 1) + 1)))]) [4, 5, 2, 1, 0] rfl ?_
                        refine Wm.mem (lv' := [(0, .ref (adr G (3, 0, 0))), (1, vI (n)), (2, vI ((rlg (th0 w) (n).toNat (i + 1)).2.1)), (3, vI ((rlg (th0 w) (n).toNat (i + 1)).2.2)), (4, vI (((((i + 1) : Nat) : Int) - 1)))]) e_18 (by (first | subst ej | skip); (simp only [rlg]; first | (exfalso; omega) | (rw [if_pos ⟨by omega, by assumption⟩]; rw [show ((i : Nat) : Int) - 1 + 1 = ((i + 1 : Nat) : Int) - 1 from by omega]; done) | (rw [if_neg h9]; (first | rw [if_neg (fun q => by omega)] | rw [if_pos ⟨by omega, by omega⟩]); rw [show ((i : Nat) : Int) - 1 + 1 = ((i + 1 : Nat) : Int) - 1 from by omega]))) ?_
                        exact ih28 ((i + 1)) (by omega) (by omega) (e_18 ▸ hr)
                  · skip
                    refine r_aload_n C (k := 0) dX5_larger_101 rfl ?_
                    refine r_getf C 11 (v := .ref (adr G (5, 0, 0))) (ok_of hG (show kd (3, 0, 0) = _ from rfl) (by decide) (by decide)) (show kd (3, 0, 0) = _ from rfl) (by decide) rfl hinX5 (by decide) (by decide +kernel) rfl rfl dX5_larger_102 ?_
                    refine r_callV C (w' := (rbeat (rgo (rl1 (rlg (th0 w) (n).toNat i).1 i) 5 j) 5)) [] 0 (c_X4_pass hG (Or.inr rfl) (by exact g1) (by exact g3) (by exact ⟨by omega, by omega, by omega⟩) (by exact hs i j (by omega) (by omega) (by rw [← e4]; exact h9))) gX5_larger_X4_pass rfl rfl rfl (by decide +kernel) (Nat.le_of_ble_eq_true rfl) (Nat.le_of_ble_eq_true rfl) ⟨(Nat.zero_le _), (Nat.zero_le _)⟩ (ok_of hG (show kd (5, 0, 0) = _ from rfl) (by decide) (by decide)) (show kd (5, 0, 0) = _ from rfl) (by decide) rfl rfl rfl (Nat.le_of_ble_eq_true rfl) (st' := [vI (((((rv3 (rgo (rl1 (rlg (th0 w) (n).toNat i).1 i) 5 j) 5).2.1 : Nat) : Int)))]) rfl dX5_larger_105 (fun hr => ?_)
                    refine r_pop C dX5_larger_108 rfl ?_
                    refine r_iinc C (k := 5) (lv' := [(5, vI (((j + 1 : Nat) : Int))), (0, .ref (adr G (3, 0, 0))), (1, vI (n)), (2, vI ((rlg (th0 w) (n).toNat i).2.1)), (3, vI ((rlg (th0 w) (n).toNat i).2.2)), (4, vI ((((i : Nat) : Int) - 1)))]) dX5_larger_109 rfl (by decide) rfl ?_
                    refine r_goto C (tgt := 95) dX5_larger_112 (by decide) ?_
                    have e_19 : (rbeat (rgo (rl1 (rlg (th0 w) (n).toNat i).1 i) 5 j) 5) = (rgo (rl1 (rlg (th0 w) (n).toNat i).1 i) 5 (j + 1)) := by rfl
                    refine Wm.sub (lv' := [(0, .ref (adr G (3, 0, 0))), (1, vI (n)), (2, vI ((rlg (th0 w) (n).toNat i).2.1)), (3, vI ((rlg (th0 w) (n).toNat i).2.2)), (4, vI ((((i : Nat) : Int) - 1))), (5, vI (((j + 1 : Nat) : Int)))]) [1, 2, 3, 4, 5, 0] rfl ?_
                    refine Wm.mem (lv' := [(0, .ref (adr G (3, 0, 0))), (1, vI (n)), (2, vI ((rlg (th0 w) (n).toNat i).2.1)), (3, vI ((rlg (th0 w) (n).toNat i).2.2)), (4, vI ((((i : Nat) : Int) - 1))), (5, vI ((((j + 1) : Nat) : Int)))]) e_19 (by rfl) ?_
                    exact ih95 ((j + 1)) (by omega) (by omega) (e_19 ▸ hr)
              have e_20 : (st1 (rbec ((rlg (th0 w) (n).toNat i).1) 5 4) (5, 0, 1) (i - 1) (((rbec ((rlg (th0 w) (n).toNat i).1) 5 4) (5, 0, 1) (i - 1) + 1))) = (rgo (rl1 (rlg (th0 w) (n).toNat i).1 i) 5 0) := by (unfold rl1; first | (rw [if_pos (by omega)]; rfl) | (rw [if_neg (by omega)]; rfl))
              refine Wm.sub (lv' := [(0, .ref (adr G (3, 0, 0))), (1, vI (n)), (2, vI ((rlg (th0 w) (n).toNat i).2.1)), (3, vI ((rlg (th0 w) (n).toNat i).2.2)), (4, vI ((((i : Nat) : Int) - 1))), (5, vI (0))]) [1, 2, 3, 4, 5, 0] rfl ?_
              refine Wm.mem (lv' := [(0, .ref (adr G (3, 0, 0))), (1, vI (n)), (2, vI ((rlg (th0 w) (n).toNat i).2.1)), (3, vI ((rlg (th0 w) (n).toNat i).2.2)), (4, vI ((((i : Nat) : Int) - 1))), (5, vI (((0 : Nat) : Int)))]) e_20 (by rfl) ?_
              exact loop_95 _ (0) (by omega) (Nat.lt_succ_self _) (e_20 ▸ hr)
          · skip
            refine r_aload_n C (k := 0) dX5_larger_43 rfl ?_
            refine r_getf C 10 (v := .ref (adr G (4, 0, 0))) (ok_of hG (show kd (3, 0, 0) = _ from rfl) (by decide) (by decide)) (show kd (3, 0, 0) = _ from rfl) (by decide) rfl hinX5 (by decide) (by decide +kernel) rfl rfl dX5_larger_44 ?_
            refine r_getfN (host := "DrumTalkModel") C 3 (v := .ref (adr G (4, 0, 1))) (ok_of hG (show kd (4, 0, 0) = _ from rfl) (by decide) (by decide)) (show kd (4, 0, 0) = _ from rfl) (by decide) rfl hinX4 (by decide) (by decide +kernel) rfl rfl dX5_larger_47 ?_
            refine r_iload C (k := 4) dX5_larger_50 rfl ?_
            refine r_iald C (i - 1) (ok_of hG (show kd (4, 0, 1) = _ from rfl) (by decide) (by decide)) (show kd (4, 0, 1) = _ from rfl) (by omega) (by first | omega | assumption) (by decide) dX5_larger_52 ?_
            refine r_bipush C dX5_larger_53 (by decide) ?_
            refine r_icmp_ne C (tgt := 61) dX5_larger_55 (by decide) (by first | exact hr _ _ | exact hr0 _ _ | exact hrI _ _ | assumption | exact ⟨by omega, by omega⟩) ⟨by decide, by decide⟩ (fun h_21 => ?_) (fun h_21 => ?_)
            · have h9 : ¬ (¬ i = 0 ∧ (rlg (th0 w) (n).toNat i).1 (4, 0, 1) (i - 1) = 9) := fun q => by omega
              refine r_aload_n C (k := 0) dX5_larger_61 rfl ?_
              refine r_getf C 11 (v := .ref (adr G (5, 0, 0))) (ok_of hG (show kd (3, 0, 0) = _ from rfl) (by decide) (by decide)) (show kd (3, 0, 0) = _ from rfl) (by decide) rfl hinX5 (by decide) (by decide +kernel) rfl rfl dX5_larger_62 ?_
              refine r_aload_n C (k := 0) dX5_larger_65 rfl ?_
              refine r_getf C 10 (v := .ref (adr G (4, 0, 0))) (ok_of hG (show kd (3, 0, 0) = _ from rfl) (by decide) (by decide)) (show kd (3, 0, 0) = _ from rfl) (by decide) rfl hinX5 (by decide) (by decide +kernel) rfl rfl dX5_larger_66 ?_
              refine r_callV C (w' := (rbec ((rlg (th0 w) (n).toNat i).1) 5 4)) [.ref (adr G (4, 0, 0))] 1 (c_X4_become hG (Or.inr rfl) (Or.inl rfl) (by exact s2) (by decide)) gX5_larger_X4_become rfl rfl rfl (by decide +kernel) (Nat.le_of_ble_eq_true rfl) (Nat.le_of_ble_eq_true rfl) ⟨(Nat.zero_le _), (Nat.zero_le _)⟩ (ok_of hG (show kd (5, 0, 0) = _ from rfl) (by decide) (by decide)) (show kd (5, 0, 0) = _ from rfl) (by decide) rfl rfl rfl (Nat.le_of_ble_eq_true rfl) (st' := []) rfl dX5_larger_69 (fun hr => ?_)
              refine r_iload C (k := 4) dX5_larger_72 rfl ?_
              refine r_iconst C dX5_larger_74 ?_
              refine r_icmp_eq C (tgt := 92) dX5_larger_75 (by decide) (by first | exact hr _ _ | exact hr0 _ _ | exact hrI _ _ | assumption | exact ⟨by omega, by omega⟩) ⟨by decide, by decide⟩ (fun h_22 => ?_) (fun h_22 => ?_)
              · skip
                refine r_iconst C dX5_larger_92 ?_
                refine r_istore C (i := 5) (lv' := [(5, vI (0)), (0, .ref (adr G (3, 0, 0))), (1, vI (n)), (2, vI ((rlg (th0 w) (n).toNat i).2.1)), (3, vI ((rlg (th0 w) (n).toNat i).2.2)), (4, vI ((((i : Nat) : Int) - 1)))]) dX5_larger_93 (by decide) rfl ?_
                have loop_95 : ∀ (nf : Nat) (j : Nat), (j ≤ (n).toNat) → (n).toNat - j < nf → rng (rgo (rl1 (rlg (th0 w) (n).toNat i).1 i) 5 j) → Wm B 6 G A (Qe B G A (some (vI ((if 1 ≤ n ∧ n ≤ 100 then (rlg (th0 w) (n).toNat (w (3, 0, 0) 1 + 1).toNat).2.1 else 0)))) ((if 1 ≤ n ∧ n ≤ 100 then (rlg (th0 w) (n).toNat (w (3, 0, 0) 1 + 1).toNat).1 else thn w 1)) 0 0) (rgo (rl1 (rlg (th0 w) (n).toNat i).1 i) 5 j) 0 0 95 [(0, .ref (adr G (3, 0, 0))), (1, vI (n)), (2, vI ((rlg (th0 w) (n).toNat i).2.1)), (3, vI ((rlg (th0 w) (n).toNat i).2.2)), (4, vI ((((i : Nat) : Int) - 1))), (5, vI (((j : Nat) : Int)))] [] := by
                  intro n95
                  induction n95 with
                  | zero => intro j hj hm; exact absurd hm (Nat.not_lt_zero _)
                  | succ n95 ih95 =>
                    intro j hj hm hr
                    have hrI := hr
                    obtain ⟨g1, g2⟩ := SI_go (by decide) (SI_l1 i5 i2 (by omega) h9) (i6.sl rl1_sl (by decide)) j (fun k hk => hs i k (by omega) (by omega) (by rw [← e4]; exact h9))
                    have g3 := (i6.sl rl1_sl (by decide)).sl g2 (by decide)
                    have g4 := rprs_b (u := 5) g3
                    refine r_iload C (k := 5) dX5_larger_95 rfl ?_
                    refine r_iload_n C (k := 1) dX5_larger_97 rfl ?_
                    refine r_icmp_ge C (tgt := 115) dX5_larger_98 (by decide) (by first | exact hr _ _ | exact hr0 _ _ | exact hrI _ _ | assumption | exact ⟨by omega, by omega⟩) (by first | exact hr _ _ | exact hr0 _ _ | exact hrI _ _ | assumption | exact ⟨by omega, by omega⟩) (fun h_23 => ?_) (fun h_23 => ?_)
                    · have ej : j = (n).toNat := (by omega)
                      refine r_aload_n C (k := 0) dX5_larger_115 rfl ?_
                      refine r_getf C 11 (v := .ref (adr G (5, 0, 0))) (ok_of hG (show kd (3, 0, 0) = _ from rfl) (by decide) (by decide)) (show kd (3, 0, 0) = _ from rfl) (by decide) rfl hinX5 (by decide) (by decide +kernel) rfl rfl dX5_larger_116 ?_
                      refine r_callV C (w' := (rgo (rl1 (rlg (th0 w) (n).toNat i).1 i) 5 j)) [] 0 (c_X4_pairs hG (Or.inr rfl) (by exact g3.1) (by exact g3.2.1)) gX5_larger_X4_pairs rfl rfl rfl (by decide +kernel) (Nat.le_of_ble_eq_true rfl) (Nat.le_of_ble_eq_true rfl) ⟨(Nat.zero_le _), (Nat.zero_le _)⟩ (ok_of hG (show kd (5, 0, 0) = _ from rfl) (by decide) (by decide)) (show kd (5, 0, 0) = _ from rfl) (by decide) rfl rfl rfl (Nat.le_of_ble_eq_true rfl) (st' := [vI ((rprs (rgo (rl1 (rlg (th0 w) (n).toNat i).1 i) 5 j) 5))]) rfl dX5_larger_119 (fun hr => ?_)
                      refine r_istore C (i := 5) (lv' := [(5, vI ((rprs (rgo (rl1 (rlg (th0 w) (n).toNat i).1 i) 5 j) 5))), (0, .ref (adr G (3, 0, 0))), (1, vI (n)), (2, vI ((rlg (th0 w) (n).toNat i).2.1)), (3, vI ((rlg (th0 w) (n).toNat i).2.2)), (4, vI ((((i : Nat) : Int) - 1)))]) dX5_larger_122 (by decide) rfl ?_
                      refine r_iload C (k := 5) dX5_larger_124 rfl ?_
                      refine r_iconst C dX5_larger_126 ?_
                      refine r_icmp_eq C (tgt := 139) dX5_larger_127 (by decide) (by first | exact hr _ _ | exact hr0 _ _ | exact hrI _ _ | assumption | exact ⟨by omega, by omega⟩) ⟨by decide, by decide⟩ (fun h_24 => ?_) (fun h_24 => ?_)
                      · skip
                        refine r_iload_n C (k := 4) dX5_larger_139 rfl ?_
                        refine r_iload C (k := 0) dX5_larger_140 rfl ?_
                        refine r_mmax C (by first | exact hr _ _ | exact hr0 _ _ | exact hrI _ _ | assumption | exact ⟨by omega, by omega⟩) (by first | exact hr _ _ | exact hr0 _ _ | exact hrI _ _ | assumption | exact ⟨by omega, by omega⟩) (by decide +kernel) (by decide +kernel) (by decide +kernel) (by decide +kernel) (Nat.le_of_ble_eq_true rfl) (Nat.le_of_ble_eq_true rfl) (Nat.zero_le _) (Nat.zero_le _) dX5_larger_142 ?_
                        refine r_istore_n C (i := 3) (lv' := [(3, vI ((max ((rlg (th0 w) (n).toNat i).2.2) ((rprs (rgo (rl1 (rlg (th0 w) (n).toNat i).1 i) 5 j) 5))))), (5, vI ((rprs (rgo (rl1 (rlg (th0 w) (n).toNat i).1 i) 5 j) 5))), (0, .ref (adr G (3, 0, 0))), (1, vI (n)), (2, vI ((rlg (th0 w) (n).toNat i).2.1)), (4, vI ((((i : Nat) : Int) - 1)))]) dX5_larger_145 rfl (by decide) rfl ?_
                        refine r_iinc C (k := 5) (lv' := [(4, vI (((((i : Nat) : Int) - 1) + 1))), (3, vI ((max ((rlg (th0 w) (n).toNat i).2.2) ((rprs (rgo (rl1 (rlg (th0 w) (n).toNat i).1 i) 5 j) 5))))), (5, vI ((rprs (rgo (rl1 (rlg (th0 w) (n).toNat i).1 i) 5 j) 5))), (0, .ref (adr G (3, 0, 0))), (1, vI (n)), (2, vI ((rlg (th0 w) (n).toNat i).2.1))]) dX5_larger_146 rfl (by decide) rfl ?_
                        refine r_goto C (tgt := 28) dX5_larger_149 (by decide) ?_
                        have e_25 : (rgo (rl1 (rlg (th0 w) (n).toNat i).1 i) 5 j) = ((rlg (th0 w) (n).toNat (i + 1)).1) := by (first | subst ej | skip); (simp only [rlg]; first | (rw [if_pos ⟨by omega, by assumption⟩]; done) | (rw [if_neg h9]))
                        refine Wm.sub (lv' := [(0, .ref (adr G (3, 0, 0))), (1, vI (n)), (2, vI ((rlg (th0 w) (n).toNat i).2.1)), (3, vI ((max ((rlg (th0 w) (n).toNat i).2.2) ((rprs (rgo (rl1 (rlg (th0 w) (n).toNat i).1 i) 5 j) 5))))), (4, vI (((((i : Nat) : Int) - 1) + 1)))]) [3, 4, 5, 1, 0] rfl ?_
                        refine Wm.mem (lv' := [(0, .ref (adr G (3, 0, 0))), (1, vI (n)), (2, vI ((rlg (th0 w) (n).toNat (i + 1)).2.1)), (3, vI ((rlg (th0 w) (n).toNat (i + 1)).2.2)), (4, vI (((((i + 1) : Nat) : Int) - 1)))]) e_25 (by (first | subst ej | skip); (simp only [rlg]; first | (exfalso; omega) | (rw [if_pos ⟨by omega, by assumption⟩]; rw [show ((i : Nat) : Int) - 1 + 1 = ((i + 1 : Nat) : Int) - 1 from by omega]; done) | (rw [if_neg h9]; (first | rw [if_neg (fun q => by omega)] | rw [if_pos ⟨by omega, by omega⟩]); rw [show ((i : Nat) : Int) - 1 + 1 = ((i + 1 : Nat) : Int) - 1 from by omega]))) ?_
                        exact ih28 ((i + 1)) (by omega) (by omega) (e_25 ▸ hr)
                      · skip
                        refine r_iload C (k := 0) dX5_larger_130 rfl ?_
                        refine r_iload_n C (k := 4) dX5_larger_132 rfl ?_
                        refine r_icmp_le C (tgt := 139) dX5_larger_133 (by decide) (by first | exact hr _ _ | exact hr0 _ _ | exact hrI _ _ | assumption | exact ⟨by omega, by omega⟩) (by first | exact hr _ _ | exact hr0 _ _ | exact hrI _ _ | assumption | exact ⟨by omega, by omega⟩) (fun h_26 => ?_) (fun h_26 => ?_)
                        · skip
                          refine r_iload_n C (k := 4) dX5_larger_139 rfl ?_
                          refine r_iload C (k := 0) dX5_larger_140 rfl ?_
                          refine r_mmax C (by first | exact hr _ _ | exact hr0 _ _ | exact hrI _ _ | assumption | exact ⟨by omega, by omega⟩) (by first | exact hr _ _ | exact hr0 _ _ | exact hrI _ _ | assumption | exact ⟨by omega, by omega⟩) (by decide +kernel) (by decide +kernel) (by decide +kernel) (by decide +kernel) (Nat.le_of_ble_eq_true rfl) (Nat.le_of_ble_eq_true rfl) (Nat.zero_le _) (Nat.zero_le _) dX5_larger_142 ?_
                          refine r_istore_n C (i := 3) (lv' := [(3, vI ((max ((rlg (th0 w) (n).toNat i).2.2) ((rprs (rgo (rl1 (rlg (th0 w) (n).toNat i).1 i) 5 j) 5))))), (5, vI ((rprs (rgo (rl1 (rlg (th0 w) (n).toNat i).1 i) 5 j) 5))), (0, .ref (adr G (3, 0, 0))), (1, vI (n)), (2, vI ((rlg (th0 w) (n).toNat i).2.1)), (4, vI ((((i : Nat) : Int) - 1)))]) dX5_larger_145 rfl (by decide) rfl ?_
                          refine r_iinc C (k := 5) (lv' := [(4, vI (((((i : Nat) : Int) - 1) + 1))), (3, vI ((max ((rlg (th0 w) (n).toNat i).2.2) ((rprs (rgo (rl1 (rlg (th0 w) (n).toNat i).1 i) 5 j) 5))))), (5, vI ((rprs (rgo (rl1 (rlg (th0 w) (n).toNat i).1 i) 5 j) 5))), (0, .ref (adr G (3, 0, 0))), (1, vI (n)), (2, vI ((rlg (th0 w) (n).toNat i).2.1))]) dX5_larger_146 rfl (by decide) rfl ?_
                          refine r_goto C (tgt := 28) dX5_larger_149 (by decide) ?_
                          have e_27 : (rgo (rl1 (rlg (th0 w) (n).toNat i).1 i) 5 j) = ((rlg (th0 w) (n).toNat (i + 1)).1) := by (first | subst ej | skip); (simp only [rlg]; first | (rw [if_pos ⟨by omega, by assumption⟩]; done) | (rw [if_neg h9]))
                          refine Wm.sub (lv' := [(0, .ref (adr G (3, 0, 0))), (1, vI (n)), (2, vI ((rlg (th0 w) (n).toNat i).2.1)), (3, vI ((max ((rlg (th0 w) (n).toNat i).2.2) ((rprs (rgo (rl1 (rlg (th0 w) (n).toNat i).1 i) 5 j) 5))))), (4, vI (((((i : Nat) : Int) - 1) + 1)))]) [3, 4, 5, 1, 0] rfl ?_
                          refine Wm.mem (lv' := [(0, .ref (adr G (3, 0, 0))), (1, vI (n)), (2, vI ((rlg (th0 w) (n).toNat (i + 1)).2.1)), (3, vI ((rlg (th0 w) (n).toNat (i + 1)).2.2)), (4, vI (((((i + 1) : Nat) : Int) - 1)))]) e_27 (by (first | subst ej | skip); (simp only [rlg]; first | (exfalso; omega) | (rw [if_pos ⟨by omega, by assumption⟩]; rw [show ((i : Nat) : Int) - 1 + 1 = ((i + 1 : Nat) : Int) - 1 from by omega]; done) | (rw [if_neg h9]; (first | rw [if_neg (fun q => by omega)] | rw [if_pos ⟨by omega, by omega⟩]); rw [show ((i : Nat) : Int) - 1 + 1 = ((i + 1 : Nat) : Int) - 1 from by omega]))) ?_
                          exact ih28 ((i + 1)) (by omega) (by omega) (e_27 ▸ hr)
                        · skip
                          refine r_iload C (k := 5) dX5_larger_136 rfl ?_
                          refine r_istore_n C (i := 2) (lv' := [(2, vI ((((i : Nat) : Int) - 1))), (5, vI ((rprs (rgo (rl1 (rlg (th0 w) (n).toNat i).1 i) 5 j) 5))), (0, .ref (adr G (3, 0, 0))), (1, vI (n)), (3, vI ((rlg (th0 w) (n).toNat i).2.2)), (4, vI ((((i : Nat) : Int) - 1)))]) dX5_larger_138 rfl (by decide) rfl ?_
                          refine r_iload_n C (k := 4) dX5_larger_139 rfl ?_
                          refine r_iload C (k := 1) dX5_larger_140 rfl ?_
                          refine r_mmax C (by first | exact hr _ _ | exact hr0 _ _ | exact hrI _ _ | assumption | exact ⟨by omega, by omega⟩) (by first | exact hr _ _ | exact hr0 _ _ | exact hrI _ _ | assumption | exact ⟨by omega, by omega⟩) (by decide +kernel) (by decide +kernel) (by decide +kernel) (by decide +kernel) (Nat.le_of_ble_eq_true rfl) (Nat.le_of_ble_eq_true rfl) (Nat.zero_le _) (Nat.zero_le _) dX5_larger_142 ?_
                          refine r_istore_n C (i := 3) (lv' := [(3, vI ((max ((rlg (th0 w) (n).toNat i).2.2) ((rprs (rgo (rl1 (rlg (th0 w) (n).toNat i).1 i) 5 j) 5))))), (2, vI ((((i : Nat) : Int) - 1))), (5, vI ((rprs (rgo (rl1 (rlg (th0 w) (n).toNat i).1 i) 5 j) 5))), (0, .ref (adr G (3, 0, 0))), (1, vI (n)), (4, vI ((((i : Nat) : Int) - 1)))]) dX5_larger_145 rfl (by decide) rfl ?_
                          refine r_iinc C (k := 5) (lv' := [(4, vI (((((i : Nat) : Int) - 1) + 1))), (3, vI ((max ((rlg (th0 w) (n).toNat i).2.2) ((rprs (rgo (rl1 (rlg (th0 w) (n).toNat i).1 i) 5 j) 5))))), (2, vI ((((i : Nat) : Int) - 1))), (5, vI ((rprs (rgo (rl1 (rlg (th0 w) (n).toNat i).1 i) 5 j) 5))), (0, .ref (adr G (3, 0, 0))), (1, vI (n))]) dX5_larger_146 rfl (by decide) rfl ?_
                          refine r_goto C (tgt := 28) dX5_larger_149 (by decide) ?_
                          have e_28 : (rgo (rl1 (rlg (th0 w) (n).toNat i).1 i) 5 j) = ((rlg (th0 w) (n).toNat (i + 1)).1) := by (first | subst ej | skip); (simp only [rlg]; first | (rw [if_pos ⟨by omega, by assumption⟩]; done) | (rw [if_neg h9]))
                          refine Wm.sub (lv' := [(0, .ref (adr G (3, 0, 0))), (1, vI (n)), (2, vI ((((i : Nat) : Int) - 1))), (3, vI ((max ((rlg (th0 w) (n).toNat i).2.2) ((rprs (rgo (rl1 (rlg (th0 w) (n).toNat i).1 i) 5 j) 5))))), (4, vI (((((i : Nat) : Int) - 1) + 1)))]) [4, 5, 2, 1, 0] rfl ?_
                          refine Wm.mem (lv' := [(0, .ref (adr G (3, 0, 0))), (1, vI (n)), (2, vI ((rlg (th0 w) (n).toNat (i + 1)).2.1)), (3, vI ((rlg (th0 w) (n).toNat (i + 1)).2.2)), (4, vI (((((i + 1) : Nat) : Int) - 1)))]) e_28 (by (first | subst ej | skip); (simp only [rlg]; first | (exfalso; omega) | (rw [if_pos ⟨by omega, by assumption⟩]; rw [show ((i : Nat) : Int) - 1 + 1 = ((i + 1 : Nat) : Int) - 1 from by omega]; done) | (rw [if_neg h9]; (first | rw [if_neg (fun q => by omega)] | rw [if_pos ⟨by omega, by omega⟩]); rw [show ((i : Nat) : Int) - 1 + 1 = ((i + 1 : Nat) : Int) - 1 from by omega]))) ?_
                          exact ih28 ((i + 1)) (by omega) (by omega) (e_28 ▸ hr)
                    · skip
                      refine r_aload_n C (k := 0) dX5_larger_101 rfl ?_
                      refine r_getf C 11 (v := .ref (adr G (5, 0, 0))) (ok_of hG (show kd (3, 0, 0) = _ from rfl) (by decide) (by decide)) (show kd (3, 0, 0) = _ from rfl) (by decide) rfl hinX5 (by decide) (by decide +kernel) rfl rfl dX5_larger_102 ?_
                      refine r_callV C (w' := (rbeat (rgo (rl1 (rlg (th0 w) (n).toNat i).1 i) 5 j) 5)) [] 0 (c_X4_pass hG (Or.inr rfl) (by exact g1) (by exact g3) (by exact ⟨by omega, by omega, by omega⟩) (by exact hs i j (by omega) (by omega) (by rw [← e4]; exact h9))) gX5_larger_X4_pass rfl rfl rfl (by decide +kernel) (Nat.le_of_ble_eq_true rfl) (Nat.le_of_ble_eq_true rfl) ⟨(Nat.zero_le _), (Nat.zero_le _)⟩ (ok_of hG (show kd (5, 0, 0) = _ from rfl) (by decide) (by decide)) (show kd (5, 0, 0) = _ from rfl) (by decide) rfl rfl rfl (Nat.le_of_ble_eq_true rfl) (st' := [vI (((((rv3 (rgo (rl1 (rlg (th0 w) (n).toNat i).1 i) 5 j) 5).2.1 : Nat) : Int)))]) rfl dX5_larger_105 (fun hr => ?_)
                      refine r_pop C dX5_larger_108 rfl ?_
                      refine r_iinc C (k := 5) (lv' := [(5, vI (((j + 1 : Nat) : Int))), (0, .ref (adr G (3, 0, 0))), (1, vI (n)), (2, vI ((rlg (th0 w) (n).toNat i).2.1)), (3, vI ((rlg (th0 w) (n).toNat i).2.2)), (4, vI ((((i : Nat) : Int) - 1)))]) dX5_larger_109 rfl (by decide) rfl ?_
                      refine r_goto C (tgt := 95) dX5_larger_112 (by decide) ?_
                      have e_29 : (rbeat (rgo (rl1 (rlg (th0 w) (n).toNat i).1 i) 5 j) 5) = (rgo (rl1 (rlg (th0 w) (n).toNat i).1 i) 5 (j + 1)) := by rfl
                      refine Wm.sub (lv' := [(0, .ref (adr G (3, 0, 0))), (1, vI (n)), (2, vI ((rlg (th0 w) (n).toNat i).2.1)), (3, vI ((rlg (th0 w) (n).toNat i).2.2)), (4, vI ((((i : Nat) : Int) - 1))), (5, vI (((j + 1 : Nat) : Int)))]) [1, 2, 3, 4, 5, 0] rfl ?_
                      refine Wm.mem (lv' := [(0, .ref (adr G (3, 0, 0))), (1, vI (n)), (2, vI ((rlg (th0 w) (n).toNat i).2.1)), (3, vI ((rlg (th0 w) (n).toNat i).2.2)), (4, vI ((((i : Nat) : Int) - 1))), (5, vI ((((j + 1) : Nat) : Int)))]) e_29 (by rfl) ?_
                      exact ih95 ((j + 1)) (by omega) (by omega) (e_29 ▸ hr)
                have e_30 : (rbec ((rlg (th0 w) (n).toNat i).1) 5 4) = (rgo (rl1 (rlg (th0 w) (n).toNat i).1 i) 5 0) := by (unfold rl1; first | (rw [if_pos (by omega)]; rfl) | (rw [if_neg (by omega)]; rfl))
                refine Wm.sub (lv' := [(0, .ref (adr G (3, 0, 0))), (1, vI (n)), (2, vI ((rlg (th0 w) (n).toNat i).2.1)), (3, vI ((rlg (th0 w) (n).toNat i).2.2)), (4, vI ((((i : Nat) : Int) - 1))), (5, vI (0))]) [1, 2, 3, 4, 5, 0] rfl ?_
                refine Wm.mem (lv' := [(0, .ref (adr G (3, 0, 0))), (1, vI (n)), (2, vI ((rlg (th0 w) (n).toNat i).2.1)), (3, vI ((rlg (th0 w) (n).toNat i).2.2)), (4, vI ((((i : Nat) : Int) - 1))), (5, vI (((0 : Nat) : Int)))]) e_30 (by rfl) ?_
                exact loop_95 _ (0) (by omega) (Nat.lt_succ_self _) (e_30 ▸ hr)
              · skip
                refine r_aload_n C (k := 0) dX5_larger_78 rfl ?_
                refine r_getf C 11 (v := .ref (adr G (5, 0, 0))) (ok_of hG (show kd (3, 0, 0) = _ from rfl) (by decide) (by decide)) (show kd (3, 0, 0) = _ from rfl) (by decide) rfl hinX5 (by decide) (by decide +kernel) rfl rfl dX5_larger_79 ?_
                refine r_getfN (host := "DrumTalkModel") C 3 (v := .ref (adr G (5, 0, 1))) (ok_of hG (show kd (5, 0, 0) = _ from rfl) (by decide) (by decide)) (show kd (5, 0, 0) = _ from rfl) (by decide) rfl hinX4 (by decide) (by decide +kernel) rfl rfl dX5_larger_82 ?_
                refine r_iload C (k := 4) dX5_larger_85 rfl ?_
                refine r_dup2 C dX5_larger_87 rfl rfl ?_
                refine r_iald C (i - 1) (ok_of hG (show kd (5, 0, 1) = _ from rfl) (by decide) (by decide)) (show kd (5, 0, 1) = _ from rfl) (by omega) (by first | omega | assumption) (by decide) dX5_larger_88 ?_
                refine r_iconst C dX5_larger_89 ?_
                refine r_iadd C dX5_larger_90 ?_
                refine r_iast C (i - 1) hr (by first | exact hr _ _ | exact hr0 _ _ | exact hrI _ _ | assumption | exact ⟨by omega, by omega⟩) (ok_of hG (show kd (5, 0, 1) = _ from rfl) (by decide) (by decide)) (show kd (5, 0, 1) = _ from rfl) (by omega) (by first | omega | assumption) (by decide) dX5_larger_91 (fun hr => ?_)
                refine r_iconst C dX5_larger_92 ?_
                refine r_istore C (i := 5) (lv' := [(5, vI (0)), (0, .ref (adr G (3, 0, 0))), (1, vI (n)), (2, vI ((rlg (th0 w) (n).toNat i).2.1)), (3, vI ((rlg (th0 w) (n).toNat i).2.2)), (4, vI ((((i : Nat) : Int) - 1)))]) dX5_larger_93 (by decide) rfl ?_
                have loop_95 : ∀ (nf : Nat) (j : Nat), (j ≤ (n).toNat) → (n).toNat - j < nf → rng (rgo (rl1 (rlg (th0 w) (n).toNat i).1 i) 5 j) → Wm B 6 G A (Qe B G A (some (vI ((if 1 ≤ n ∧ n ≤ 100 then (rlg (th0 w) (n).toNat (w (3, 0, 0) 1 + 1).toNat).2.1 else 0)))) ((if 1 ≤ n ∧ n ≤ 100 then (rlg (th0 w) (n).toNat (w (3, 0, 0) 1 + 1).toNat).1 else thn w 1)) 0 0) (rgo (rl1 (rlg (th0 w) (n).toNat i).1 i) 5 j) 0 0 95 [(0, .ref (adr G (3, 0, 0))), (1, vI (n)), (2, vI ((rlg (th0 w) (n).toNat i).2.1)), (3, vI ((rlg (th0 w) (n).toNat i).2.2)), (4, vI ((((i : Nat) : Int) - 1))), (5, vI (((j : Nat) : Int)))] [] := by
                  intro n95
                  induction n95 with
                  | zero => intro j hj hm; exact absurd hm (Nat.not_lt_zero _)
                  | succ n95 ih95 =>
                    intro j hj hm hr
                    have hrI := hr
                    obtain ⟨g1, g2⟩ := SI_go (by decide) (SI_l1 i5 i2 (by omega) h9) (i6.sl rl1_sl (by decide)) j (fun k hk => hs i k (by omega) (by omega) (by rw [← e4]; exact h9))
                    have g3 := (i6.sl rl1_sl (by decide)).sl g2 (by decide)
                    have g4 := rprs_b (u := 5) g3
                    refine r_iload C (k := 5) dX5_larger_95 rfl ?_
                    refine r_iload_n C (k := 1) dX5_larger_97 rfl ?_
                    refine r_icmp_ge C (tgt := 115) dX5_larger_98 (by decide) (by first | exact hr _ _ | exact hr0 _ _ | exact hrI _ _ | assumption | exact ⟨by omega, by omega⟩) (by first | exact hr _ _ | exact hr0 _ _ | exact hrI _ _ | assumption | exact ⟨by omega, by omega⟩) (fun h_31 => ?_) (fun h_31 => ?_)
                    · have ej : j = (n).toNat := (by omega)
                      refine r_aload_n C (k := 0) dX5_larger_115 rfl ?_
                      refine r_getf C 11 (v := .ref (adr G (5, 0, 0))) (ok_of hG (show kd (3, 0, 0) = _ from rfl) (by decide) (by decide)) (show kd (3, 0, 0) = _ from rfl) (by decide) rfl hinX5 (by decide) (by decide +kernel) rfl rfl dX5_larger_116 ?_
                      refine r_callV C (w' := (rgo (rl1 (rlg (th0 w) (n).toNat i).1 i) 5 j)) [] 0 (c_X4_pairs hG (Or.inr rfl) (by exact g3.1) (by exact g3.2.1)) gX5_larger_X4_pairs rfl rfl rfl (by decide +kernel) (Nat.le_of_ble_eq_true rfl) (Nat.le_of_ble_eq_true rfl) ⟨(Nat.zero_le _), (Nat.zero_le _)⟩ (ok_of hG (show kd (5, 0, 0) = _ from rfl) (by decide) (by decide)) (show kd (5, 0, 0) = _ from rfl) (by decide) rfl rfl rfl (Nat.le_of_ble_eq_true rfl) (st' := [vI ((rprs (rgo (rl1 (rlg (th0 w) (n).toNat i).1 i) 5 j) 5))]) rfl dX5_larger_119 (fun hr => ?_)
                      refine r_istore C (i := 5) (lv' := [(5, vI ((rprs (rgo (rl1 (rlg (th0 w) (n).toNat i).1 i) 5 j) 5))), (0, .ref (adr G (3, 0, 0))), (1, vI (n)), (2, vI ((rlg (th0 w) (n).toNat i).2.1)), (3, vI ((rlg (th0 w) (n).toNat i).2.2)), (4, vI ((((i : Nat) : Int) - 1)))]) dX5_larger_122 (by decide) rfl ?_
                      refine r_iload C (k := 5) dX5_larger_124 rfl ?_
                      refine r_iconst C dX5_larger_126 ?_
                      refine r_icmp_eq C (tgt := 139) dX5_larger_127 (by decide) (by first | exact hr _ _ | exact hr0 _ _ | exact hrI _ _ | assumption | exact ⟨by omega, by omega⟩) ⟨by decide, by decide⟩ (fun h_32 => ?_) (fun h_32 => ?_)
                      · skip
                        refine r_iload_n C (k := 4) dX5_larger_139 rfl ?_
                        refine r_iload C (k := 0) dX5_larger_140 rfl ?_
                        refine r_mmax C (by first | exact hr _ _ | exact hr0 _ _ | exact hrI _ _ | assumption | exact ⟨by omega, by omega⟩) (by first | exact hr _ _ | exact hr0 _ _ | exact hrI _ _ | assumption | exact ⟨by omega, by omega⟩) (by decide +kernel) (by decide +kernel) (by decide +kernel) (by decide +kernel) (Nat.le_of_ble_eq_true rfl) (Nat.le_of_ble_eq_true rfl) (Nat.zero_le _) (Nat.zero_le _) dX5_larger_142 ?_
                        refine r_istore_n C (i := 3) (lv' := [(3, vI ((max ((rlg (th0 w) (n).toNat i).2.2) ((rprs (rgo (rl1 (rlg (th0 w) (n).toNat i).1 i) 5 j) 5))))), (5, vI ((rprs (rgo (rl1 (rlg (th0 w) (n).toNat i).1 i) 5 j) 5))), (0, .ref (adr G (3, 0, 0))), (1, vI (n)), (2, vI ((rlg (th0 w) (n).toNat i).2.1)), (4, vI ((((i : Nat) : Int) - 1)))]) dX5_larger_145 rfl (by decide) rfl ?_
                        refine r_iinc C (k := 5) (lv' := [(4, vI (((((i : Nat) : Int) - 1) + 1))), (3, vI ((max ((rlg (th0 w) (n).toNat i).2.2) ((rprs (rgo (rl1 (rlg (th0 w) (n).toNat i).1 i) 5 j) 5))))), (5, vI ((rprs (rgo (rl1 (rlg (th0 w) (n).toNat i).1 i) 5 j) 5))), (0, .ref (adr G (3, 0, 0))), (1, vI (n)), (2, vI ((rlg (th0 w) (n).toNat i).2.1))]) dX5_larger_146 rfl (by decide) rfl ?_
                        refine r_goto C (tgt := 28) dX5_larger_149 (by decide) ?_
                        have e_33 : (rgo (rl1 (rlg (th0 w) (n).toNat i).1 i) 5 j) = ((rlg (th0 w) (n).toNat (i + 1)).1) := by (first | subst ej | skip); (simp only [rlg]; first | (rw [if_pos ⟨by omega, by assumption⟩]; done) | (rw [if_neg h9]))
                        refine Wm.sub (lv' := [(0, .ref (adr G (3, 0, 0))), (1, vI (n)), (2, vI ((rlg (th0 w) (n).toNat i).2.1)), (3, vI ((max ((rlg (th0 w) (n).toNat i).2.2) ((rprs (rgo (rl1 (rlg (th0 w) (n).toNat i).1 i) 5 j) 5))))), (4, vI (((((i : Nat) : Int) - 1) + 1)))]) [3, 4, 5, 1, 0] rfl ?_
                        refine Wm.mem (lv' := [(0, .ref (adr G (3, 0, 0))), (1, vI (n)), (2, vI ((rlg (th0 w) (n).toNat (i + 1)).2.1)), (3, vI ((rlg (th0 w) (n).toNat (i + 1)).2.2)), (4, vI (((((i + 1) : Nat) : Int) - 1)))]) e_33 (by (first | subst ej | skip); (simp only [rlg]; first | (exfalso; omega) | (rw [if_pos ⟨by omega, by assumption⟩]; rw [show ((i : Nat) : Int) - 1 + 1 = ((i + 1 : Nat) : Int) - 1 from by omega]; done) | (rw [if_neg h9]; (first | rw [if_neg (fun q => by omega)] | rw [if_pos ⟨by omega, by omega⟩]); rw [show ((i : Nat) : Int) - 1 + 1 = ((i + 1 : Nat) : Int) - 1 from by omega]))) ?_
                        exact ih28 ((i + 1)) (by omega) (by omega) (e_33 ▸ hr)
                      · skip
                        refine r_iload C (k := 0) dX5_larger_130 rfl ?_
                        refine r_iload_n C (k := 4) dX5_larger_132 rfl ?_
                        refine r_icmp_le C (tgt := 139) dX5_larger_133 (by decide) (by first | exact hr _ _ | exact hr0 _ _ | exact hrI _ _ | assumption | exact ⟨by omega, by omega⟩) (by first | exact hr _ _ | exact hr0 _ _ | exact hrI _ _ | assumption | exact ⟨by omega, by omega⟩) (fun h_34 => ?_) (fun h_34 => ?_)
                        · skip
                          refine r_iload_n C (k := 4) dX5_larger_139 rfl ?_
                          refine r_iload C (k := 0) dX5_larger_140 rfl ?_
                          refine r_mmax C (by first | exact hr _ _ | exact hr0 _ _ | exact hrI _ _ | assumption | exact ⟨by omega, by omega⟩) (by first | exact hr _ _ | exact hr0 _ _ | exact hrI _ _ | assumption | exact ⟨by omega, by omega⟩) (by decide +kernel) (by decide +kernel) (by decide +kernel) (by decide +kernel) (Nat.le_of_ble_eq_true rfl) (Nat.le_of_ble_eq_true rfl) (Nat.zero_le _) (Nat.zero_le _) dX5_larger_142 ?_
                          refine r_istore_n C (i := 3) (lv' := [(3, vI ((max ((rlg (th0 w) (n).toNat i).2.2) ((rprs (rgo (rl1 (rlg (th0 w) (n).toNat i).1 i) 5 j) 5))))), (5, vI ((rprs (rgo (rl1 (rlg (th0 w) (n).toNat i).1 i) 5 j) 5))), (0, .ref (adr G (3, 0, 0))), (1, vI (n)), (2, vI ((rlg (th0 w) (n).toNat i).2.1)), (4, vI ((((i : Nat) : Int) - 1)))]) dX5_larger_145 rfl (by decide) rfl ?_
                          refine r_iinc C (k := 5) (lv' := [(4, vI (((((i : Nat) : Int) - 1) + 1))), (3, vI ((max ((rlg (th0 w) (n).toNat i).2.2) ((rprs (rgo (rl1 (rlg (th0 w) (n).toNat i).1 i) 5 j) 5))))), (5, vI ((rprs (rgo (rl1 (rlg (th0 w) (n).toNat i).1 i) 5 j) 5))), (0, .ref (adr G (3, 0, 0))), (1, vI (n)), (2, vI ((rlg (th0 w) (n).toNat i).2.1))]) dX5_larger_146 rfl (by decide) rfl ?_
                          refine r_goto C (tgt := 28) dX5_larger_149 (by decide) ?_
                          have e_35 : (rgo (rl1 (rlg (th0 w) (n).toNat i).1 i) 5 j) = ((rlg (th0 w) (n).toNat (i + 1)).1) := by (first | subst ej | skip); (simp only [rlg]; first | (rw [if_pos ⟨by omega, by assumption⟩]; done) | (rw [if_neg h9]))
                          refine Wm.sub (lv' := [(0, .ref (adr G (3, 0, 0))), (1, vI (n)), (2, vI ((rlg (th0 w) (n).toNat i).2.1)), (3, vI ((max ((rlg (th0 w) (n).toNat i).2.2) ((rprs (rgo (rl1 (rlg (th0 w) (n).toNat i).1 i) 5 j) 5))))), (4, vI (((((i : Nat) : Int) - 1) + 1)))]) [3, 4, 5, 1, 0] rfl ?_
                          refine Wm.mem (lv' := [(0, .ref (adr G (3, 0, 0))), (1, vI (n)), (2, vI ((rlg (th0 w) (n).toNat (i + 1)).2.1)), (3, vI ((rlg (th0 w) (n).toNat (i + 1)).2.2)), (4, vI (((((i + 1) : Nat) : Int) - 1)))]) e_35 (by (first | subst ej | skip); (simp only [rlg]; first | (exfalso; omega) | (rw [if_pos ⟨by omega, by assumption⟩]; rw [show ((i : Nat) : Int) - 1 + 1 = ((i + 1 : Nat) : Int) - 1 from by omega]; done) | (rw [if_neg h9]; (first | rw [if_neg (fun q => by omega)] | rw [if_pos ⟨by omega, by omega⟩]); rw [show ((i : Nat) : Int) - 1 + 1 = ((i + 1 : Nat) : Int) - 1 from by omega]))) ?_
                          exact ih28 ((i + 1)) (by omega) (by omega) (e_35 ▸ hr)
                        · skip
                          refine r_iload C (k := 5) dX5_larger_136 rfl ?_
                          refine r_istore_n C (i := 2) (lv' := [(2, vI ((((i : Nat) : Int) - 1))), (5, vI ((rprs (rgo (rl1 (rlg (th0 w) (n).toNat i).1 i) 5 j) 5))), (0, .ref (adr G (3, 0, 0))), (1, vI (n)), (3, vI ((rlg (th0 w) (n).toNat i).2.2)), (4, vI ((((i : Nat) : Int) - 1)))]) dX5_larger_138 rfl (by decide) rfl ?_
                          refine r_iload_n C (k := 4) dX5_larger_139 rfl ?_
                          refine r_iload C (k := 1) dX5_larger_140 rfl ?_
                          refine r_mmax C (by first | exact hr _ _ | exact hr0 _ _ | exact hrI _ _ | assumption | exact ⟨by omega, by omega⟩) (by first | exact hr _ _ | exact hr0 _ _ | exact hrI _ _ | assumption | exact ⟨by omega, by omega⟩) (by decide +kernel) (by decide +kernel) (by decide +kernel) (by decide +kernel) (Nat.le_of_ble_eq_true rfl) (Nat.le_of_ble_eq_true rfl) (Nat.zero_le _) (Nat.zero_le _) dX5_larger_142 ?_
                          refine r_istore_n C (i := 3) (lv' := [(3, vI ((max ((rlg (th0 w) (n).toNat i).2.2) ((rprs (rgo (rl1 (rlg (th0 w) (n).toNat i).1 i) 5 j) 5))))), (2, vI ((((i : Nat) : Int) - 1))), (5, vI ((rprs (rgo (rl1 (rlg (th0 w) (n).toNat i).1 i) 5 j) 5))), (0, .ref (adr G (3, 0, 0))), (1, vI (n)), (4, vI ((((i : Nat) : Int) - 1)))]) dX5_larger_145 rfl (by decide) rfl ?_
                          refine r_iinc C (k := 5) (lv' := [(4, vI (((((i : Nat) : Int) - 1) + 1))), (3, vI ((max ((rlg (th0 w) (n).toNat i).2.2) ((rprs (rgo (rl1 (rlg (th0 w) (n).toNat i).1 i) 5 j) 5))))), (2, vI ((((i : Nat) : Int) - 1))), (5, vI ((rprs (rgo (rl1 (rlg (th0 w) (n).toNat i).1 i) 5 j) 5))), (0, .ref (adr G (3, 0, 0))), (1, vI (n))]) dX5_larger_146 rfl (by decide) rfl ?_
                          refine r_goto C (tgt := 28) dX5_larger_149 (by decide) ?_
                          have e_36 : (rgo (rl1 (rlg (th0 w) (n).toNat i).1 i) 5 j) = ((rlg (th0 w) (n).toNat (i + 1)).1) := by (first | subst ej | skip); (simp only [rlg]; first | (rw [if_pos ⟨by omega, by assumption⟩]; done) | (rw [if_neg h9]))
                          refine Wm.sub (lv' := [(0, .ref (adr G (3, 0, 0))), (1, vI (n)), (2, vI ((((i : Nat) : Int) - 1))), (3, vI ((max ((rlg (th0 w) (n).toNat i).2.2) ((rprs (rgo (rl1 (rlg (th0 w) (n).toNat i).1 i) 5 j) 5))))), (4, vI (((((i : Nat) : Int) - 1) + 1)))]) [4, 5, 2, 1, 0] rfl ?_
                          refine Wm.mem (lv' := [(0, .ref (adr G (3, 0, 0))), (1, vI (n)), (2, vI ((rlg (th0 w) (n).toNat (i + 1)).2.1)), (3, vI ((rlg (th0 w) (n).toNat (i + 1)).2.2)), (4, vI (((((i + 1) : Nat) : Int) - 1)))]) e_36 (by (first | subst ej | skip); (simp only [rlg]; first | (exfalso; omega) | (rw [if_pos ⟨by omega, by assumption⟩]; rw [show ((i : Nat) : Int) - 1 + 1 = ((i + 1 : Nat) : Int) - 1 from by omega]; done) | (rw [if_neg h9]; (first | rw [if_neg (fun q => by omega)] | rw [if_pos ⟨by omega, by omega⟩]); rw [show ((i : Nat) : Int) - 1 + 1 = ((i + 1 : Nat) : Int) - 1 from by omega]))) ?_
                          exact ih28 ((i + 1)) (by omega) (by omega) (e_36 ▸ hr)
                    · skip
                      refine r_aload_n C (k := 0) dX5_larger_101 rfl ?_
                      refine r_getf C 11 (v := .ref (adr G (5, 0, 0))) (ok_of hG (show kd (3, 0, 0) = _ from rfl) (by decide) (by decide)) (show kd (3, 0, 0) = _ from rfl) (by decide) rfl hinX5 (by decide) (by decide +kernel) rfl rfl dX5_larger_102 ?_
                      refine r_callV C (w' := (rbeat (rgo (rl1 (rlg (th0 w) (n).toNat i).1 i) 5 j) 5)) [] 0 (c_X4_pass hG (Or.inr rfl) (by exact g1) (by exact g3) (by exact ⟨by omega, by omega, by omega⟩) (by exact hs i j (by omega) (by omega) (by rw [← e4]; exact h9))) gX5_larger_X4_pass rfl rfl rfl (by decide +kernel) (Nat.le_of_ble_eq_true rfl) (Nat.le_of_ble_eq_true rfl) ⟨(Nat.zero_le _), (Nat.zero_le _)⟩ (ok_of hG (show kd (5, 0, 0) = _ from rfl) (by decide) (by decide)) (show kd (5, 0, 0) = _ from rfl) (by decide) rfl rfl rfl (Nat.le_of_ble_eq_true rfl) (st' := [vI (((((rv3 (rgo (rl1 (rlg (th0 w) (n).toNat i).1 i) 5 j) 5).2.1 : Nat) : Int)))]) rfl dX5_larger_105 (fun hr => ?_)
                      refine r_pop C dX5_larger_108 rfl ?_
                      refine r_iinc C (k := 5) (lv' := [(5, vI (((j + 1 : Nat) : Int))), (0, .ref (adr G (3, 0, 0))), (1, vI (n)), (2, vI ((rlg (th0 w) (n).toNat i).2.1)), (3, vI ((rlg (th0 w) (n).toNat i).2.2)), (4, vI ((((i : Nat) : Int) - 1)))]) dX5_larger_109 rfl (by decide) rfl ?_
                      refine r_goto C (tgt := 95) dX5_larger_112 (by decide) ?_
                      have e_37 : (rbeat (rgo (rl1 (rlg (th0 w) (n).toNat i).1 i) 5 j) 5) = (rgo (rl1 (rlg (th0 w) (n).toNat i).1 i) 5 (j + 1)) := by rfl
                      refine Wm.sub (lv' := [(0, .ref (adr G (3, 0, 0))), (1, vI (n)), (2, vI ((rlg (th0 w) (n).toNat i).2.1)), (3, vI ((rlg (th0 w) (n).toNat i).2.2)), (4, vI ((((i : Nat) : Int) - 1))), (5, vI (((j + 1 : Nat) : Int)))]) [1, 2, 3, 4, 5, 0] rfl ?_
                      refine Wm.mem (lv' := [(0, .ref (adr G (3, 0, 0))), (1, vI (n)), (2, vI ((rlg (th0 w) (n).toNat i).2.1)), (3, vI ((rlg (th0 w) (n).toNat i).2.2)), (4, vI ((((i : Nat) : Int) - 1))), (5, vI ((((j + 1) : Nat) : Int)))]) e_37 (by rfl) ?_
                      exact ih95 ((j + 1)) (by omega) (by omega) (e_37 ▸ hr)
                have e_38 : (st1 (rbec ((rlg (th0 w) (n).toNat i).1) 5 4) (5, 0, 1) (i - 1) (((rbec ((rlg (th0 w) (n).toNat i).1) 5 4) (5, 0, 1) (i - 1) + 1))) = (rgo (rl1 (rlg (th0 w) (n).toNat i).1 i) 5 0) := by (unfold rl1; first | (rw [if_pos (by omega)]; rfl) | (rw [if_neg (by omega)]; rfl))
                refine Wm.sub (lv' := [(0, .ref (adr G (3, 0, 0))), (1, vI (n)), (2, vI ((rlg (th0 w) (n).toNat i).2.1)), (3, vI ((rlg (th0 w) (n).toNat i).2.2)), (4, vI ((((i : Nat) : Int) - 1))), (5, vI (0))]) [1, 2, 3, 4, 5, 0] rfl ?_
                refine Wm.mem (lv' := [(0, .ref (adr G (3, 0, 0))), (1, vI (n)), (2, vI ((rlg (th0 w) (n).toNat i).2.1)), (3, vI ((rlg (th0 w) (n).toNat i).2.2)), (4, vI ((((i : Nat) : Int) - 1))), (5, vI (((0 : Nat) : Int)))]) e_38 (by rfl) ?_
                exact loop_95 _ (0) (by omega) (Nat.lt_succ_self _) (e_38 ▸ hr)
            · skip
              refine r_goto C (tgt := 146) dX5_larger_58 (by decide) ?_
              refine r_iinc C (k := 4) (lv' := [(4, vI (((((i : Nat) : Int) - 1) + 1))), (0, .ref (adr G (3, 0, 0))), (1, vI (n)), (2, vI ((rlg (th0 w) (n).toNat i).2.1)), (3, vI ((rlg (th0 w) (n).toNat i).2.2))]) dX5_larger_146 rfl (by decide) rfl ?_
              refine r_goto C (tgt := 28) dX5_larger_149 (by decide) ?_
              have e_39 : ((rlg (th0 w) (n).toNat i).1) = ((rlg (th0 w) (n).toNat (i + 1)).1) := by (first | subst ej | skip); (simp only [rlg]; first | (rw [if_pos ⟨by omega, by assumption⟩]; done) | (rw [if_neg h9]))
              refine Wm.sub (lv' := [(0, .ref (adr G (3, 0, 0))), (1, vI (n)), (2, vI ((rlg (th0 w) (n).toNat i).2.1)), (3, vI ((rlg (th0 w) (n).toNat i).2.2)), (4, vI (((((i : Nat) : Int) - 1) + 1)))]) [1, 2, 3, 4, 0] rfl ?_
              refine Wm.mem (lv' := [(0, .ref (adr G (3, 0, 0))), (1, vI (n)), (2, vI ((rlg (th0 w) (n).toNat (i + 1)).2.1)), (3, vI ((rlg (th0 w) (n).toNat (i + 1)).2.2)), (4, vI (((((i + 1) : Nat) : Int) - 1)))]) e_39 (by (first | subst ej | skip); (simp only [rlg]; first | (exfalso; omega) | (rw [if_pos ⟨by omega, by assumption⟩]; rw [show ((i : Nat) : Int) - 1 + 1 = ((i + 1 : Nat) : Int) - 1 from by omega]; done) | (rw [if_neg h9]; (first | rw [if_neg (fun q => by omega)] | rw [if_pos ⟨by omega, by omega⟩]); rw [show ((i : Nat) : Int) - 1 + 1 = ((i + 1 : Nat) : Int) - 1 from by omega]))) ?_
              exact ih28 ((i + 1)) (by omega) (by omega) (e_39 ▸ hr)
    have e_40 : (st1 w (3, 0, 0) (0) (0)) = ((rlg (th0 w) (n).toNat 0).1) := by rfl
    refine Wm.sub (lv' := [(0, .ref (adr G (3, 0, 0))), (1, vI (n)), (2, vI ((-1))), (3, vI (0)), (4, vI ((-1)))]) [3, 4, 2, 1, 0] rfl ?_
    refine Wm.mem (lv' := [(0, .ref (adr G (3, 0, 0))), (1, vI (n)), (2, vI ((rlg (th0 w) (n).toNat 0).2.1)), (3, vI ((rlg (th0 w) (n).toNat 0).2.2)), (4, vI ((((0 : Nat) : Int) - 1)))]) e_40 (by rfl) ?_
    exact loop_28 _ (0) (by omega) (Nat.lt_succ_self _) (e_40 ▸ hr)
  · skip
    refine r_aload_n C (k := 0) dX5_larger_15 rfl ?_
    refine r_iconst C dX5_larger_16 ?_
    refine r_callV C (w' := (st1 (st1 w (3, 0, 0) (0) (0)) (3, 0, 0) 0 (1))) [vI (1)] 1 (c_X5_no hG (by first | assumption | omega | exact hr _ _ | exact hr0 _ _ | exact hrI _ _ | exact ⟨by omega, by omega⟩ | exact bI_inR _ | (simp [st1] <;> omega) | exact rowR.so (by assumption) (by simp))) gX5_larger_X5_no rfl rfl rfl (by decide +kernel) (Nat.le_of_ble_eq_true rfl) (Nat.le_of_ble_eq_true rfl) ⟨(Nat.zero_le _), (Nat.zero_le _)⟩ (ok_of hG (show kd (3, 0, 0) = _ from rfl) (by decide) (by decide)) (show kd (3, 0, 0) = _ from rfl) (by decide) rfl rfl rfl (Nat.le_of_ble_eq_true rfl) (st' := [vI ((0))]) rfl dX5_larger_17 (fun hr => ?_)
    exact r_iret C dX5_larger_20 (by (first | rfl | ((repeat' split) <;> first | rfl | contradiction | (exfalso; omega)))) (by (first | rfl | ((repeat' split) <;> first | rfl | contradiction | (exfalso; omega))))
