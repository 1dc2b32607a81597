set_option maxRecDepth 100000 in
set_option maxHeartbeats 8000000 in
theorem c_X4_begin {l : Launch} {G : Gt} (hG : Gok G) {u : Nat} {v : Nat} (hu : u = 4 ∨ u = 5) (hv : v ≤ 7) {w : Mm} {N D X : Int} (hS : SI w u N D X) (hM : MI w) (hN : N ≤ 1000000 ∧ D ≤ 1000000000 ∧ X ≤ 1000000000) (hs : w (u, 0, 0) 2 ≤ 1008) (hvv : ((v : Nat) : Int) < w (3, 0, 0) 1) : Con l G yX4_begin wsX4_begin ({ frames := 3, cells := 0, slots := 0, locals := 65 } : Room) w [.ref (adr G (u, 0, 0)), vI ((v : Nat) : Int)] none (rbeg w u v) 0 0 := by
  refine Con.head (cc := cX4_begin) (nL := 5) (ret := none) hG (by decide +kernel) rfl (Nat.le_of_ble_eq_true rfl) ?_
  intro B A hBl C hr
  have hr0 := hr
  have hrI := hr
  have hinX4 : ∀ w ∈ u_ws RX4 TX4 16, w ∈ wsX4_begin := by decide +kernel
  have hinX5 : ∀ w ∈ u_ws RX5 TX5 12, w ∈ wsX4_begin := by decide +kernel
  have hu3 : 3 ≠ u := by omega
  have hS0 := hS
  have hM0 := hM
  obtain ⟨⟨b1, b2⟩, ⟨d1, d2⟩, ⟨s1, s2⟩, r1, r3, r4, r5, r7, r8, r9⟩ := hS
  obtain ⟨⟨v1, v2⟩, ⟨p1, p2⟩, m1, m2, m4, m7⟩ := hM
  obtain ⟨hN1, hN2, hN3⟩ := hN
  have q4 := r4 v (by omega)
  have q5 := r5 (5 * v) (by omega)
  have q7 := m7 (w (u, 0, 5) (5 * v)).toNat (by omega)
  refine r_aload_n C (k := 0) dX4_begin_0 rfl ?_
  refine r_getf C 4 (v := .ref (adr G (u, 0, 2))) (ok_of hG (kds0 hu) (by decide) (by omega)) (kds0 hu) (by decide) rfl hinX4 (by decide) (by decide +kernel) rfl rfl dX4_begin_1 ?_
  refine r_iload_n C (k := 1) dX4_begin_4 rfl ?_
  refine r_iald C (v) (ok_of hG (kds2 hu) (by decide) (by omega)) (kds2 hu) rfl (by first | omega | assumption) (by decide) dX4_begin_5 ?_
  refine r_iconst C dX4_begin_6 ?_
  refine r_icmp_ne C (tgt := 27) dX4_begin_7 (by decide) (by first | exact hr _ _ | exact hr0 _ _ | exact hrI _ _ | assumption | exact ⟨by omega, by omega⟩) ⟨by decide, by decide⟩ (fun h_1 => ?_) (fun h_1 => ?_)
  · skip
    exact r_vret C dX4_begin_27 (by (unfold rbeg; rw [if_neg (fun q => by omega)]))
  · skip
    refine r_aload_n C (k := 0) dX4_begin_10 rfl ?_
    refine r_iload_n C (k := 1) dX4_begin_11 rfl ?_
    refine r_callV C (w' := w) [vI (((v : Nat) : Int))] 1 (c_X4_isAwake hG hu (by first | assumption | omega | exact hr _ _ | exact hr0 _ _ | exact hrI _ _ | exact ⟨by omega, by omega⟩ | exact bI_inR _ | (simp [st1] <;> omega) | exact rowR.so (by assumption) (by simp)) (by exact m4) (by first | assumption | omega | exact hr _ _ | exact hr0 _ _ | exact hrI _ _ | exact ⟨by omega, by omega⟩ | exact bI_inR _ | (simp [st1] <;> omega) | exact rowR.so (by assumption) (by simp))) gX4_begin_X4_isAwake rfl rfl rfl (by decide +kernel) (Nat.le_of_ble_eq_true rfl) (Nat.le_of_ble_eq_true rfl) ⟨(Nat.zero_le _), (Nat.zero_le _)⟩ (ok_of hG (kds0 hu) (by decide) (by omega)) (kds0 hu) (by decide) rfl rfl rfl (Nat.le_of_ble_eq_true rfl) (st' := [vI (bI (rawk w u v))]) rfl dX4_begin_12 (fun hr => ?_)
    refine r_if_eqP C (P := rawk w u v) (tgt := 27) dX4_begin_15 (by decide) (fun h_2 => ?_) (fun h_2 => ?_)
    · skip
      exact r_vret C dX4_begin_27 (by (unfold rbeg; rw [if_neg (fun q => by omega)]))
    · skip
      refine r_aload_n C (k := 0) dX4_begin_18 rfl ?_
      refine r_getf C 6 (v := .ref (adr G (u, 0, 4))) (ok_of hG (kds0 hu) (by decide) (by omega)) (kds0 hu) (by decide) rfl hinX4 (by decide) (by decide +kernel) rfl rfl dX4_begin_19 ?_
      refine r_iload_n C (k := 1) dX4_begin_22 rfl ?_
      refine r_iald C (v) (ok_of hG (kds4 hu) (by decide) (by omega)) (kds4 hu) rfl (by first | omega | assumption) (by decide) dX4_begin_23 ?_
      refine r_if_ne C (tgt := 28) dX4_begin_24 (by decide) (by first | exact hr _ _ | exact hr0 _ _ | exact hrI _ _ | assumption | exact ⟨by omega, by omega⟩) (fun h_3 => ?_) (fun h_3 => ?_)
      · have hLs := SI_set hS0 hM0 (v := v) (by omega) (by assumption)
        refine r_aload_n C (k := 0) dX4_begin_28 rfl ?_
        refine r_getf C 7 (v := .ref (adr G (u, 0, 5))) (ok_of hG (kds0 hu) (by decide) (by omega)) (kds0 hu) (by decide) rfl hinX4 (by decide) (by decide +kernel) rfl rfl dX4_begin_29 ?_
        refine r_iconst C dX4_begin_32 ?_
        refine r_iload_n C (k := 1) dX4_begin_33 rfl ?_
        refine r_imul C dX4_begin_34 ?_
        refine r_iald C (5 * v) (ok_of hG (kds5 hu) (by decide) (by omega)) (kds5 hu) (by omega) (by first | omega | assumption) (by decide) dX4_begin_35 ?_
        refine r_istore_n C (i := 2) (lv' := [(2, vI (w (u, 0, 5) (5 * v))), (0, .ref (adr G (u, 0, 0))), (1, vI (((v : Nat) : Int)))]) dX4_begin_36 rfl (by decide) rfl ?_
        refine r_aload_n C (k := 1) dX4_begin_37 rfl ?_
        refine r_getf C 6 (v := .ref (adr G (u, 0, 4))) (ok_of hG (kds0 hu) (by decide) (by omega)) (kds0 hu) (by decide) rfl hinX4 (by decide) (by decide +kernel) rfl rfl dX4_begin_38 ?_
        refine r_iload_n C (k := 2) dX4_begin_41 rfl ?_
        refine r_dup2 C dX4_begin_42 rfl rfl ?_
        refine r_iald C (v) (ok_of hG (kds4 hu) (by decide) (by omega)) (kds4 hu) rfl (by first | omega | assumption) (by decide) dX4_begin_43 ?_
        refine r_iconst C dX4_begin_44 ?_
        refine r_isub C dX4_begin_45 ?_
        refine r_iast C (v) hr (by first | exact hr _ _ | exact hr0 _ _ | exact hrI _ _ | assumption | exact ⟨by omega, by omega⟩) (ok_of hG (kds4 hu) (by decide) (by omega)) (kds4 hu) rfl (by first | omega | assumption) (by decide) dX4_begin_46 (fun hr => ?_)
        refine r_aload_n C (k := 1) dX4_begin_47 rfl ?_
        refine r_getf C 7 (v := .ref (adr G (u, 0, 5))) (ok_of hG (kds0 hu) (by decide) (by omega)) (kds0 hu) (by decide) rfl hinX4 (by decide) (by decide +kernel) rfl rfl dX4_begin_48 ?_
        refine r_iconst C dX4_begin_51 ?_
        refine r_iload_n C (k := 2) dX4_begin_52 rfl ?_
        refine r_imul C dX4_begin_53 ?_
        refine r_iconst C dX4_begin_54 ?_
        refine r_iadd C dX4_begin_55 ?_
        refine r_aload_n C (k := 1) dX4_begin_56 rfl ?_
        refine r_getf C 7 (v := .ref (adr G (u, 0, 5))) (ok_of hG (kds0 hu) (by decide) (by omega)) (kds0 hu) (by decide) rfl hinX4 (by decide) (by decide +kernel) rfl rfl dX4_begin_57 ?_
        refine r_iconst C dX4_begin_60 ?_
        refine r_iload_n C (k := 2) dX4_begin_61 rfl ?_
        refine r_imul C dX4_begin_62 ?_
        refine r_aload_n C (k := 1) dX4_begin_63 rfl ?_
        refine r_getf C 6 (v := .ref (adr G (u, 0, 4))) (ok_of hG (kds0 hu) (by decide) (by omega)) (kds0 hu) (by decide) rfl hinX4 (by decide) (by decide +kernel) rfl rfl dX4_begin_64 ?_
        refine r_iload_n C (k := 2) dX4_begin_67 rfl ?_
        refine r_iald C (v) (ok_of hG (kds4 hu) (by decide) (by omega)) (kds4 hu) rfl (by first | omega | assumption) (by decide) dX4_begin_68 ?_
        refine Wm.top (z' := (w (u, 0, 4) (v) - 1)) (by simp [st1, cpy, hu3, hu3.symm]) ?_
        refine r_copy C (5 * v + 1) (5 * v) (((w (u, 0, 4) (v) - 1)).toNat) hr (ok_of hG (kds5 hu) (by decide) (by omega)) (ok_of hG (kds5 hu) (by decide) (by omega)) (kds5 hu) (kds5 hu) (by omega) (by omega) (Int.toNat_of_nonneg (by first | omega | assumption)).symm (by first | omega | assumption) (by first | omega | assumption) (by decide) (by decide) (by decide +kernel) (by decide +kernel) (by decide +kernel) (by decide +kernel) (Nat.le_of_ble_eq_true rfl) (Nat.le_of_ble_eq_true rfl) dX4_begin_69 (fun hr => ?_)
        refine r_aload_n C (k := 1) dX4_begin_72 rfl ?_
        refine r_getf C 4 (v := .ref (adr G (u, 0, 2))) (ok_of hG (kds0 hu) (by decide) (by omega)) (kds0 hu) (by decide) rfl hinX4 (by decide) (by decide +kernel) rfl rfl dX4_begin_73 ?_
        refine r_iload_n C (k := 2) dX4_begin_76 rfl ?_
        refine r_iload_n C (k := 0) dX4_begin_77 rfl ?_
        refine r_iast C (v) hr (by first | exact hr _ _ | exact hr0 _ _ | exact hrI _ _ | assumption | exact ⟨by omega, by omega⟩) (ok_of hG (kds2 hu) (by decide) (by omega)) (kds2 hu) rfl (by first | omega | assumption) (by decide) dX4_begin_78 (fun hr => ?_)
        refine r_aload_n C (k := 1) dX4_begin_79 rfl ?_
        refine r_getf C 5 (v := .ref (adr G (u, 0, 3))) (ok_of hG (kds0 hu) (by decide) (by omega)) (kds0 hu) (by decide) rfl hinX4 (by decide) (by decide +kernel) rfl rfl dX4_begin_80 ?_
        refine r_iload_n C (k := 2) dX4_begin_83 rfl ?_
        refine r_aload_n C (k := 1) dX4_begin_84 rfl ?_
        refine r_getf C 15 (v := .ref (adr G (3, 0, 0))) (ok_of hG (kds0 hu) (by decide) (by omega)) (kds0 hu) (by decide) rfl hinX4 (by decide) (by decide +kernel) rfl rfl dX4_begin_85 ?_
        refine r_getfN (host := "DrumTalkModel") C 9 (v := .ref (adr G (3, 0, 7))) (ok_of hG (show kd (3, 0, 0) = _ from rfl) (by decide) (by decide)) (show kd (3, 0, 0) = _ from rfl) (by decide) rfl hinX5 (by decide) (by decide +kernel) rfl rfl dX4_begin_88 ?_
        refine r_iload_n C (k := 0) dX4_begin_91 rfl ?_
        refine r_iald C ((w (u, 0, 5) (5 * v)).toNat) (ok_of hG (show kd (3, 0, 7) = _ from rfl) (by decide) (by decide)) (show kd (3, 0, 7) = _ from rfl) (Int.toNat_of_nonneg (by first | omega | assumption)).symm (by first | omega | assumption) (by decide) dX4_begin_92 ?_
        refine Wm.top (z' := w (3, 0, 7) ((w (u, 0, 5) (5 * v)).toNat)) (by simp [st1, cpy, hu3, hu3.symm]) ?_
        refine r_iast C (v) hr (by first | exact hr _ _ | exact hr0 _ _ | exact hrI _ _ | assumption | exact ⟨by omega, by omega⟩) (ok_of hG (kds3 hu) (by decide) (by omega)) (kds3 hu) rfl (by first | omega | assumption) (by decide) dX4_begin_93 (fun hr => ?_)
        refine r_aload_n C (k := 1) dX4_begin_94 rfl ?_
        refine r_dup C dX4_begin_95 rfl ?_
        refine r_getf C 1 (ok_of hG (kds0 hu) (by decide) (by omega)) (kds0 hu) (by decide) rfl hinX4 (by decide) (by decide +kernel) rfl rfl dX4_begin_96 ?_
        refine Wm.top (z' := w (u, 0, 0) (1)) (by simp [st1, cpy, hu3, hu3.symm]) ?_
        refine r_iconst C dX4_begin_99 ?_
        refine r_iadd C dX4_begin_100 ?_
        refine r_putf C 1 hr (by first | exact hr _ _ | exact hr0 _ _ | exact hrI _ _ | assumption | exact ⟨by omega, by omega⟩) (ok_of hG (kds0 hu) (by decide) (by omega)) (kds0 hu) (by decide) rfl hinX4 tyX4_ok nmX4 (by decide) (by decide +kernel) rfl rfl (ty := .int) (by decide +kernel) rfl rfl rfl (Nat.le_of_ble_eq_true rfl) dX4_begin_101 (fun hr => ?_)
        refine r_iconst C dX4_begin_104 ?_
        refine r_istore_n C (i := 3) (lv' := [(3, vI (0)), (2, vI (w (u, 0, 5) (5 * v))), (0, .ref (adr G (u, 0, 0))), (1, vI (((v : Nat) : Int)))]) dX4_begin_105 rfl (by decide) rfl ?_
        have loop_106 : ∀ (n : Nat) (i : Nat), (i ≤ (w (3, 0, 0) 1).toNat) → (w (3, 0, 0) 1).toNat - i < n → rng (rsnd (rset w u v) u v (w (u, 0, 5) (5 * v)) i) → Wm B 5 G A (Qe B G A none (rbeg w u v) 0 0) (rsnd (rset w u v) u v (w (u, 0, 5) (5 * v)) i) 0 0 106 [(0, .ref (adr G (u, 0, 0))), (1, vI (((v : Nat) : Int))), (2, vI (w (u, 0, 5) (5 * v))), (3, vI (((i : Nat) : Int)))] [] := by
          intro n106
          induction n106 with
          | zero => intro i hi hm; exact absurd hm (Nat.not_lt_zero _)
          | succ n106 ih106 =>
            intro i hi hm hr
            have hrI := hr
            obtain ⟨hLi, hLs2⟩ := SI_snd (v := v) hLs q5 (by rw [rset_0 (by decide)]; exact hs) i (by omega)
            rw [rset_0 (j := 2) (by decide)] at hLs2
            have eM : ∀ p j, (rsnd (rset w u v) u v (w (u, 0, 5) (5 * v)) i) (3, 0, p) j = w (3, 0, p) j := fun p j => ((rset_sl (w := w) (u := u) (v := v)).tr (rsnd_sl i)) _ j hu3
            have e1 : (rsnd (rset w u v) u v (w (u, 0, 5) (5 * v)) i) (3, 0, 0) 1 = w (3, 0, 0) 1 := eM 0 1
            have g0 := hLi.1
            have g1 := hLi.2.2.1
            have hMi : MI (rsnd (rset w u v) u v (w (u, 0, 5) (5 * v)) i) := hM0.sl ((rset_sl (w := w) (u := u) (v := v)).tr (rsnd_sl i)) hu3
            refine r_iload_n C (k := 3) dX4_begin_106 rfl ?_
            refine r_aload_n C (k := 0) dX4_begin_107 rfl ?_
            refine r_getf C 15 (v := .ref (adr G (3, 0, 0))) (ok_of hG (kds0 hu) (by decide) (by omega)) (kds0 hu) (by decide) rfl hinX4 (by decide) (by decide +kernel) rfl rfl dX4_begin_108 ?_
            refine r_getfN (host := "DrumTalkModel") C 1 (ok_of hG (show kd (3, 0, 0) = _ from rfl) (by decide) (by decide)) (show kd (3, 0, 0) = _ from rfl) (by decide) rfl hinX5 (by decide) (by decide +kernel) rfl rfl dX4_begin_111 ?_
            refine r_icmp_ge C (tgt := 191) dX4_begin_114 (by decide) (by first | exact hr _ _ | exact hr0 _ _ | exact hrI _ _ | assumption | exact ⟨by omega, by omega⟩) (by first | exact hr _ _ | exact hr0 _ _ | exact hrI _ _ | assumption | exact ⟨by omega, by omega⟩) (fun h_4 => ?_) (fun h_4 => ?_)
            · skip
              exact r_vret C dX4_begin_191 (by (obtain rfl : i = (w (3, 0, 0) 1).toNat := (by omega)); (unfold rbeg; rw [if_pos (by refine ⟨by assumption, by assumption, by assumption⟩)]))
            · have gf : 0 ≤ rfar (rsnd (rset w u v) u v (w (u, 0, 5) (5 * v)) i) v i ∧ rfar (rsnd (rset w u v) u v (w (u, 0, 5) (5 * v)) i) v i ≤ 60 := by have x1 := hMi.2.2.1 v (by omega); have x2 := hMi.2.2.1 i (by omega); have x3 := hMi.2.2.2.1 v (by omega); have x4 := hMi.2.2.2.1 i (by omega); unfold rfar; omega
              refine r_iload_n C (k := 3) dX4_begin_117 rfl ?_
              refine r_iload_n C (k := 1) dX4_begin_118 rfl ?_
              refine r_icmp_eq C (tgt := 185) dX4_begin_119 (by decide) (by first | exact hr _ _ | exact hr0 _ _ | exact hrI _ _ | assumption | exact ⟨by omega, by omega⟩) (by first | exact hr _ _ | exact hr0 _ _ | exact hrI _ _ | assumption | exact ⟨by omega, by omega⟩) (fun h_5 => ?_) (fun h_5 => ?_)
              · skip
                refine r_iinc C (k := 3) (lv' := [(3, vI (((i + 1 : Nat) : Int))), (0, .ref (adr G (u, 0, 0))), (1, vI (((v : Nat) : Int))), (2, vI (w (u, 0, 5) (5 * v)))]) dX4_begin_185 rfl (by decide) rfl ?_
                refine r_goto C (tgt := 106) dX4_begin_188 (by decide) ?_
                have e_6 : (rsnd (rset w u v) u v (w (u, 0, 5) (5 * v)) i) = (rsnd (rset w u v) u v (w (u, 0, 5) (5 * v)) (i + 1)) := by (simp only [rsnd]; first | (rw [if_neg (fun q => by first | exact absurd q.1 (by omega) | exact absurd q.2 (by assumption))]) | (rw [if_pos ⟨by omega, by assumption⟩]; first | (rw [if_pos (by assumption)]; rfl) | (rw [if_neg (by assumption)]; rfl)))
                refine Wm.sub (lv' := [(0, .ref (adr G (u, 0, 0))), (1, vI (((v : Nat) : Int))), (2, vI (w (u, 0, 5) (5 * v))), (3, vI (((i + 1 : Nat) : Int)))]) [1, 2, 3, 0] rfl ?_
                refine Wm.mem (lv' := [(0, .ref (adr G (u, 0, 0))), (1, vI (((v : Nat) : Int))), (2, vI (w (u, 0, 5) (5 * v))), (3, vI ((((i + 1) : Nat) : Int)))]) e_6 (by rfl) ?_
                exact ih106 ((i + 1)) (by omega) (by omega) (e_6 ▸ hr)
              · skip
                refine r_aload_n C (k := 0) dX4_begin_122 rfl ?_
                refine r_iload_n C (k := 1) dX4_begin_123 rfl ?_
                refine r_iload_n C (k := 3) dX4_begin_124 rfl ?_
                refine r_callV C (w' := (rsnd (rset w u v) u v (w (u, 0, 5) (5 * v)) i)) [vI (((v : Nat) : Int)), vI (((i : Nat) : Int))] 2 (c_X4_hears hG hu (by first | assumption | omega | exact hr _ _ | exact hr0 _ _ | exact hrI _ _ | exact ⟨by omega, by omega⟩ | exact bI_inR _ | (simp [st1] <;> omega) | exact rowR.so (by assumption) (by simp)) (by first | assumption | omega | exact hr _ _ | exact hr0 _ _ | exact hrI _ _ | exact ⟨by omega, by omega⟩ | exact bI_inR _ | (simp [st1] <;> omega) | exact rowR.so (by assumption) (by simp)) (by exact hMi.2.2.1) (by exact hMi.2.2.2.1) (by exact hLi.2.2.2.1)) gX4_begin_X4_hears rfl rfl rfl (by decide +kernel) (Nat.le_of_ble_eq_true rfl) (Nat.le_of_ble_eq_true rfl) ⟨(Nat.zero_le _), (Nat.zero_le _)⟩ (ok_of hG (kds0 hu) (by decide) (by omega)) (kds0 hu) (by decide) rfl rfl rfl (Nat.le_of_ble_eq_true rfl) (st' := [vI (bI (rhears (rsnd (rset w u v) u v (w (u, 0, 5) (5 * v)) i) u v i))]) rfl dX4_begin_125 (fun hr => ?_)
                refine r_if_neP C (P := rhears (rsnd (rset w u v) u v (w (u, 0, 5) (5 * v)) i) u v i) (tgt := 134) dX4_begin_128 (by decide) (fun h_7 => ?_) (fun h_7 => ?_)
                · skip
                  refine r_aload_n C (k := 0) dX4_begin_134 rfl ?_
                  refine r_getf C 0 (ok_of hG (kds0 hu) (by decide) (by omega)) (kds0 hu) (by decide) rfl hinX4 (by decide) (by decide +kernel) rfl rfl dX4_begin_135 ?_
                  refine r_aload_n C (k := 0) dX4_begin_138 rfl ?_
                  refine r_getf C 15 (v := .ref (adr G (3, 0, 0))) (ok_of hG (kds0 hu) (by decide) (by omega)) (kds0 hu) (by decide) rfl hinX4 (by decide) (by decide +kernel) rfl rfl dX4_begin_139 ?_
                  refine r_iload_n C (k := 1) dX4_begin_142 rfl ?_
                  refine r_iload_n C (k := 3) dX4_begin_143 rfl ?_
                  refine r_callVN C (host := "DrumTalkModel") (w' := (rsnd (rset w u v) u v (w (u, 0, 5) (5 * v)) i)) [vI (((v : Nat) : Int)), vI (((i : Nat) : Int))] 2 (c_X5_far hG (by first | assumption | omega | exact hr _ _ | exact hr0 _ _ | exact hrI _ _ | exact ⟨by omega, by omega⟩ | exact bI_inR _ | (simp [st1] <;> omega) | exact rowR.so (by assumption) (by simp)) (by first | assumption | omega | exact hr _ _ | exact hr0 _ _ | exact hrI _ _ | exact ⟨by omega, by omega⟩ | exact bI_inR _ | (simp [st1] <;> omega) | exact rowR.so (by assumption) (by simp)) (by exact hMi.2.2.1) (by exact hMi.2.2.2.1)) gX4_begin_X5_far_n78 (by decide +kernel) (by decide +kernel) (by decide +kernel) (by decide +kernel) rfl rfl rfl (by decide +kernel) (Nat.le_of_ble_eq_true rfl) (Nat.le_of_ble_eq_true rfl) ⟨(Nat.zero_le _), (Nat.zero_le _)⟩ (ok_of hG (show kd (3, 0, 0) = _ from rfl) (by decide) (by decide)) (show kd (3, 0, 0) = _ from rfl) (by decide) rfl rfl rfl (Nat.le_of_ble_eq_true rfl) (st' := [vI ((rfar (rsnd (rset w u v) u v (w (u, 0, 5) (5 * v)) i) v i)), vI ((rsnd (rset w u v) u v (w (u, 0, 5) (5 * v)) i) (u, 0, 0) (0))]) rfl dX4_begin_144 (fun hr => ?_)
                  refine r_iconst C dX4_begin_147 ?_
                  refine r_idiv C dX4_begin_148 (by first | omega | assumption) (by first | omega | assumption) (by first | omega | assumption) (by first | omega | assumption) ?_
                  refine r_iadd C dX4_begin_149 ?_
                  refine r_iconst C dX4_begin_150 ?_
                  refine r_iadd C dX4_begin_151 ?_
                  refine r_istore C (i := 4) (lv' := [(4, vI ((((rsnd (rset w u v) u v (w (u, 0, 5) (5 * v)) i) (u, 0, 0) (0) + ((rfar (rsnd (rset w u v) u v (w (u, 0, 5) (5 * v)) i) v i) / 3)) + 1))), (0, .ref (adr G (u, 0, 0))), (1, vI (((v : Nat) : Int))), (2, vI (w (u, 0, 5) (5 * v))), (3, vI (((i : Nat) : Int)))]) dX4_begin_152 (by decide) rfl ?_
                  refine r_aload_n C (k := 1) dX4_begin_154 rfl ?_
                  refine r_iload_n C (k := 4) dX4_begin_155 rfl ?_
                  refine r_iload_n C (k := 3) dX4_begin_156 rfl ?_
                  refine r_iload C (k := 0) dX4_begin_157 rfl ?_
                  refine r_callV C (w' := (rsd (rsnd (rset w u v) u v (w (u, 0, 5) (5 * v)) i) u (((i : Nat) : Int)) (w (u, 0, 5) (5 * v)) ((((rsnd (rset w u v) u v (w (u, 0, 5) (5 * v)) i) (u, 0, 0) (0) + ((rfar (rsnd (rset w u v) u v (w (u, 0, 5) (5 * v)) i) v i) / 3)) + 1)))) [vI (((i : Nat) : Int)), vI (w (u, 0, 5) (5 * v)), vI ((((rsnd (rset w u v) u v (w (u, 0, 5) (5 * v)) i) (u, 0, 0) (0) + ((rfar (rsnd (rset w u v) u v (w (u, 0, 5) (5 * v)) i) v i) / 3)) + 1))] 3 (c_X4_sound hG hu (by first | exact ⟨by omega, by omega⟩ | (rw [rsd_2]; exact ⟨by omega, by omega⟩)) (by exact ⟨by omega, by omega⟩) (by first | assumption | omega | exact hr _ _ | exact hr0 _ _ | exact hrI _ _ | exact ⟨by omega, by omega⟩ | exact bI_inR _ | (simp [st1] <;> omega) | exact rowR.so (by assumption) (by simp)) (by first | assumption | omega | exact hr _ _ | exact hr0 _ _ | exact hrI _ _ | exact ⟨by omega, by omega⟩ | exact bI_inR _ | (simp [st1] <;> omega) | exact rowR.so (by assumption) (by simp)) (by first | exact hMi.2.2.2.2.2 | exact (hMi.sl rsd_sl hu3).2.2.2.2.2)) gX4_begin_X4_sound rfl rfl rfl (by decide +kernel) (Nat.le_of_ble_eq_true rfl) (Nat.le_of_ble_eq_true rfl) ⟨(Nat.zero_le _), (Nat.zero_le _)⟩ (ok_of hG (kds0 hu) (by decide) (by omega)) (kds0 hu) (by decide) rfl rfl rfl (Nat.le_of_ble_eq_true rfl) (st' := []) rfl dX4_begin_159 (fun hr => ?_)
                  refine r_aload_n C (k := 1) dX4_begin_162 rfl ?_
                  refine r_getf C 15 (v := .ref (adr G (3, 0, 0))) (ok_of hG (kds0 hu) (by decide) (by omega)) (kds0 hu) (by decide) rfl hinX4 (by decide) (by decide +kernel) rfl rfl dX4_begin_163 ?_
                  refine r_getfN (host := "DrumTalkModel") C 5 (v := .ref (adr G (3, 0, 3))) (ok_of hG (show kd (3, 0, 0) = _ from rfl) (by decide) (by decide)) (show kd (3, 0, 0) = _ from rfl) (by decide) rfl hinX5 (by decide) (by decide +kernel) rfl rfl dX4_begin_166 ?_
                  refine r_iload_n C (k := 2) dX4_begin_169 rfl ?_
                  refine r_iald C (v) (ok_of hG (show kd (3, 0, 3) = _ from rfl) (by decide) (by decide)) (show kd (3, 0, 3) = _ from rfl) rfl (by first | omega | assumption) (by decide) dX4_begin_170 ?_
                  refine Wm.top (z' := (rsnd (rset w u v) u v (w (u, 0, 5) (5 * v)) i) (3, 0, 3) (v)) (by simp [st1, cpy, rsd_off, hu3, hu3.symm]) ?_
                  refine r_iconst C dX4_begin_171 ?_
                  refine r_icmp_ne C (tgt := 185) dX4_begin_172 (by decide) (by first | exact hr _ _ | exact hr0 _ _ | exact hrI _ _ | assumption | exact ⟨by omega, by omega⟩) ⟨by decide, by decide⟩ (fun h_8 => ?_) (fun h_8 => ?_)
                  · skip
                    refine r_iinc C (k := 4) (lv' := [(3, vI (((i + 1 : Nat) : Int))), (4, vI ((((rsnd (rset w u v) u v (w (u, 0, 5) (5 * v)) i) (u, 0, 0) (0) + ((rfar (rsnd (rset w u v) u v (w (u, 0, 5) (5 * v)) i) v i) / 3)) + 1))), (0, .ref (adr G (u, 0, 0))), (1, vI (((v : Nat) : Int))), (2, vI (w (u, 0, 5) (5 * v)))]) dX4_begin_185 rfl (by decide) rfl ?_
                    refine r_goto C (tgt := 106) dX4_begin_188 (by decide) ?_
                    have e_9 : (rsd (rsnd (rset w u v) u v (w (u, 0, 5) (5 * v)) i) u (((i : Nat) : Int)) (w (u, 0, 5) (5 * v)) ((((rsnd (rset w u v) u v (w (u, 0, 5) (5 * v)) i) (u, 0, 0) (0) + ((rfar (rsnd (rset w u v) u v (w (u, 0, 5) (5 * v)) i) v i) / 3)) + 1))) = (rsnd (rset w u v) u v (w (u, 0, 5) (5 * v)) (i + 1)) := by (simp only [rsnd]; first | (rw [if_neg (fun q => by first | exact absurd q.1 (by omega) | exact absurd q.2 (by assumption))]) | (rw [if_pos ⟨by omega, by assumption⟩]; first | (rw [if_pos (by assumption)]; rfl) | (rw [if_neg (by assumption)]; rfl)))
                    refine Wm.sub (lv' := [(0, .ref (adr G (u, 0, 0))), (1, vI (((v : Nat) : Int))), (2, vI (w (u, 0, 5) (5 * v))), (3, vI (((i + 1 : Nat) : Int)))]) [2, 3, 4, 0] rfl ?_
                    refine Wm.mem (lv' := [(0, .ref (adr G (u, 0, 0))), (1, vI (((v : Nat) : Int))), (2, vI (w (u, 0, 5) (5 * v))), (3, vI ((((i + 1) : Nat) : Int)))]) e_9 (by rfl) ?_
                    exact ih106 ((i + 1)) (by omega) (by omega) (e_9 ▸ hr)
                  · skip
                    refine r_aload_n C (k := 1) dX4_begin_175 rfl ?_
                    refine r_iload_n C (k := 4) dX4_begin_176 rfl ?_
                    refine r_iload_n C (k := 3) dX4_begin_177 rfl ?_
                    refine r_iload C (k := 0) dX4_begin_178 rfl ?_
                    refine r_iconst C dX4_begin_180 ?_
                    refine r_iadd C dX4_begin_181 ?_
                    refine r_callV C (w' := (rsd (rsd (rsnd (rset w u v) u v (w (u, 0, 5) (5 * v)) i) u (((i : Nat) : Int)) (w (u, 0, 5) (5 * v)) ((((rsnd (rset w u v) u v (w (u, 0, 5) (5 * v)) i) (u, 0, 0) (0) + ((rfar (rsnd (rset w u v) u v (w (u, 0, 5) (5 * v)) i) v i) / 3)) + 1))) u (((i : Nat) : Int)) (w (u, 0, 5) (5 * v)) (((((rsnd (rset w u v) u v (w (u, 0, 5) (5 * v)) i) (u, 0, 0) (0) + ((rfar (rsnd (rset w u v) u v (w (u, 0, 5) (5 * v)) i) v i) / 3)) + 1) + 4)))) [vI (((i : Nat) : Int)), vI (w (u, 0, 5) (5 * v)), vI (((((rsnd (rset w u v) u v (w (u, 0, 5) (5 * v)) i) (u, 0, 0) (0) + ((rfar (rsnd (rset w u v) u v (w (u, 0, 5) (5 * v)) i) v i) / 3)) + 1) + 4))] 3 (c_X4_sound hG hu (by first | exact ⟨by omega, by omega⟩ | (rw [rsd_2]; exact ⟨by omega, by omega⟩)) (by exact ⟨by omega, by omega⟩) (by first | assumption | omega | exact hr _ _ | exact hr0 _ _ | exact hrI _ _ | exact ⟨by omega, by omega⟩ | exact bI_inR _ | (simp [st1] <;> omega) | exact rowR.so (by assumption) (by simp)) (by first | assumption | omega | exact hr _ _ | exact hr0 _ _ | exact hrI _ _ | exact ⟨by omega, by omega⟩ | exact bI_inR _ | (simp [st1] <;> omega) | exact rowR.so (by assumption) (by simp)) (by first | exact hMi.2.2.2.2.2 | exact (hMi.sl rsd_sl hu3).2.2.2.2.2)) gX4_begin_X4_sound rfl rfl rfl (by decide +kernel) (Nat.le_of_ble_eq_true rfl) (Nat.le_of_ble_eq_true rfl) ⟨(Nat.zero_le _), (Nat.zero_le _)⟩ (ok_of hG (kds0 hu) (by decide) (by omega)) (kds0 hu) (by decide) rfl rfl rfl (Nat.le_of_ble_eq_true rfl) (st' := []) rfl dX4_begin_182 (fun hr => ?_)
                    refine r_iinc C (k := 4) (lv' := [(3, vI (((i + 1 : Nat) : Int))), (4, vI ((((rsnd (rset w u v) u v (w (u, 0, 5) (5 * v)) i) (u, 0, 0) (0) + ((rfar (rsnd (rset w u v) u v (w (u, 0, 5) (5 * v)) i) v i) / 3)) + 1))), (0, .ref (adr G (u, 0, 0))), (1, vI (((v : Nat) : Int))), (2, vI (w (u, 0, 5) (5 * v)))]) dX4_begin_185 rfl (by decide) rfl ?_
                    refine r_goto C (tgt := 106) dX4_begin_188 (by decide) ?_
                    have e_10 : (rsd (rsd (rsnd (rset w u v) u v (w (u, 0, 5) (5 * v)) i) u (((i : Nat) : Int)) (w (u, 0, 5) (5 * v)) ((((rsnd (rset w u v) u v (w (u, 0, 5) (5 * v)) i) (u, 0, 0) (0) + ((rfar (rsnd (rset w u v) u v (w (u, 0, 5) (5 * v)) i) v i) / 3)) + 1))) u (((i : Nat) : Int)) (w (u, 0, 5) (5 * v)) (((((rsnd (rset w u v) u v (w (u, 0, 5) (5 * v)) i) (u, 0, 0) (0) + ((rfar (rsnd (rset w u v) u v (w (u, 0, 5) (5 * v)) i) v i) / 3)) + 1) + 4))) = (rsnd (rset w u v) u v (w (u, 0, 5) (5 * v)) (i + 1)) := by (simp only [rsnd]; first | (rw [if_neg (fun q => by first | exact absurd q.1 (by omega) | exact absurd q.2 (by assumption))]) | (rw [if_pos ⟨by omega, by assumption⟩]; first | (rw [if_pos (by assumption)]; rfl) | (rw [if_neg (by assumption)]; rfl)))
                    refine Wm.sub (lv' := [(0, .ref (adr G (u, 0, 0))), (1, vI (((v : Nat) : Int))), (2, vI (w (u, 0, 5) (5 * v))), (3, vI (((i + 1 : Nat) : Int)))]) [2, 3, 4, 0] rfl ?_
                    refine Wm.mem (lv' := [(0, .ref (adr G (u, 0, 0))), (1, vI (((v : Nat) : Int))), (2, vI (w (u, 0, 5) (5 * v))), (3, vI ((((i + 1) : Nat) : Int)))]) e_10 (by rfl) ?_
                    exact ih106 ((i + 1)) (by omega) (by omega) (e_10 ▸ hr)
                · skip
                  refine r_goto C (tgt := 185) dX4_begin_131 (by decide) ?_
                  refine r_iinc C (k := 3) (lv' := [(3, vI (((i + 1 : Nat) : Int))), (0, .ref (adr G (u, 0, 0))), (1, vI (((v : Nat) : Int))), (2, vI (w (u, 0, 5) (5 * v)))]) dX4_begin_185 rfl (by decide) rfl ?_
                  refine r_goto C (tgt := 106) dX4_begin_188 (by decide) ?_
                  have e_11 : (rsnd (rset w u v) u v (w (u, 0, 5) (5 * v)) i) = (rsnd (rset w u v) u v (w (u, 0, 5) (5 * v)) (i + 1)) := by (simp only [rsnd]; first | (rw [if_neg (fun q => by first | exact absurd q.1 (by omega) | exact absurd q.2 (by assumption))]) | (rw [if_pos ⟨by omega, by assumption⟩]; first | (rw [if_pos (by assumption)]; rfl) | (rw [if_neg (by assumption)]; rfl)))
                  refine Wm.sub (lv' := [(0, .ref (adr G (u, 0, 0))), (1, vI (((v : Nat) : Int))), (2, vI (w (u, 0, 5) (5 * v))), (3, vI (((i + 1 : Nat) : Int)))]) [1, 2, 3, 0] rfl ?_
                  refine Wm.mem (lv' := [(0, .ref (adr G (u, 0, 0))), (1, vI (((v : Nat) : Int))), (2, vI (w (u, 0, 5) (5 * v))), (3, vI ((((i + 1) : Nat) : Int)))]) e_11 (by rfl) ?_
                  exact ih106 ((i + 1)) (by omega) (by omega) (e_11 ▸ hr)
        have e_12 : (st1 (st1 (st1 (cpy (st1 w (u, 0, 4) (v) ((w (u, 0, 4) (v) - 1))) (u, 0, 5) (u, 0, 5) (5 * v + 1) (5 * v) (((w (u, 0, 4) (v) - 1)).toNat)) (u, 0, 2) (v) (w (u, 0, 5) (5 * v))) (u, 0, 3) (v) (w (3, 0, 7) ((w (u, 0, 5) (5 * v)).toNat))) (u, 0, 0) (1) ((w (u, 0, 0) (1) + 1))) = (rsnd (rset w u v) u v (w (u, 0, 5) (5 * v)) 0) := by (unfold rset; rfl)
        refine Wm.sub (lv' := [(0, .ref (adr G (u, 0, 0))), (1, vI (((v : Nat) : Int))), (2, vI (w (u, 0, 5) (5 * v))), (3, vI (0))]) [2, 3, 1, 0] rfl ?_
        refine Wm.mem (lv' := [(0, .ref (adr G (u, 0, 0))), (1, vI (((v : Nat) : Int))), (2, vI (w (u, 0, 5) (5 * v))), (3, vI (((0 : Nat) : Int)))]) e_12 (by rfl) ?_
        exact loop_106 _ (0) (by omega) (Nat.lt_succ_self _) (e_12 ▸ hr)
      · skip
        exact r_vret C dX4_begin_27 (by (unfold rbeg; rw [if_neg (fun q => by omega)]))

set_option maxRecDepth 100000 in
set_option maxHeartbeats 8000000 in
theorem c_X4_pass {l : Launch} {G : Gt} (hG : Gok G) {u : Nat} (hu : u = 4 ∨ u = 5) {w : Mm} {N D X : Int} (hS : SI w u N D X) (hM : MI w) (hN : N ≤ 900000 ∧ D ≤ 900000000 ∧ X ≤ 900000000) (hs : w (u, 0, 0) 2 ≤ 896) : Con l G yX4_pass wsX4_pass ({ frames := 4, cells := 0, slots := 0, locals := 89 } : Room) w [.ref (adr G (u, 0, 0))] (some (vI ((((rv3 w u).2.1 : Nat) : Int)))) (rbeat w u) 0 0 := by
  refine Con.head (cc := cX4_pass) (nL := 4) (ret := (some .int)) hG (by decide +kernel) rfl (Nat.le_of_ble_eq_true rfl) ?_
  intro B A hBl C hr
  have hr0 := hr
  have hrI := hr
  have hinX4 : ∀ w ∈ u_ws RX4 TX4 16, w ∈ wsX4_pass := by decide +kernel
  have hinX5 : ∀ w ∈ u_ws RX5 TX5 12, w ∈ wsX4_pass := by decide +kernel
  have hu3 : 3 ≠ u := by omega
  have hS0 := hS
  have hM0 := hM
  obtain ⟨k1, k2, k3, k3b, k4, k5⟩ := SI_beat hu3 hS hM hs
  have hMv := hM0.1
  obtain ⟨hN1, hN2, hN3⟩ := hN
  have l1 : sloc u w (rv1 w u) := rb1_sl _
  have l2 : sloc u w (rv2 w u) := l1.tr (fun k j hk => rb2_off (fun e => hk (by rw [e])) _)
  have z2 := k2.2.2.1
  have f3 := rb3_facts k2 (rv2 w u (u, 0, 0) 2).toNat (by omega)
  have l3 : sloc u w (rv3b w u) := (l2.tr f3.2.1).st
  refine r_iconst C dX4_pass_0 ?_
  refine r_istore_n C (i := 1) (lv' := [(1, vI (0)), (0, .ref (adr G (u, 0, 0)))]) dX4_pass_1 rfl (by decide) rfl ?_
  have loop_2 : ∀ (n : Nat) (i : Nat), (i ≤ (w (3, 0, 0) 1).toNat) → (w (3, 0, 0) 1).toNat - i < n → rng (rb1 w u i) → Wm B 4 G A (Qe B G A (some (vI ((((rv3 w u).2.1 : Nat) : Int)))) (rbeat w u) 0 0) (rb1 w u i) 0 0 2 [(0, .ref (adr G (u, 0, 0))), (1, vI (((i : Nat) : Int)))] [] := by
    intro n2
    induction n2 with
    | zero => intro i hi hm; exact absurd hm (Nat.not_lt_zero _)
    | succ n2 ih2 =>
      intro i hi hm hr
      have hrI := hr
      obtain ⟨hLi, hLs⟩ := SI_b1 hu3 hS0 hM0 hs i (by omega)
      have e1 : rb1 w u i (3, 0, 0) 1 = w (3, 0, 0) 1 := rb1_sl i _ _ hu3
      refine r_iload_n C (k := 1) dX4_pass_2 rfl ?_
      refine r_aload_n C (k := 0) dX4_pass_3 rfl ?_
      refine r_getf C 15 (v := .ref (adr G (3, 0, 0))) (ok_of hG (kds0 hu) (by decide) (by omega)) (kds0 hu) (by decide) rfl hinX4 (by decide) (by decide +kernel) rfl rfl dX4_pass_4 ?_
      refine r_getfN (host := "DrumTalkModel") C 1 (ok_of hG (show kd (3, 0, 0) = _ from rfl) (by decide) (by decide)) (show kd (3, 0, 0) = _ from rfl) (by decide) rfl hinX5 (by decide) (by decide +kernel) rfl rfl dX4_pass_7 ?_
      refine r_icmp_ge C (tgt := 24) dX4_pass_10 (by decide) (by first | exact hr _ _ | exact hr0 _ _ | exact hrI _ _ | exact hrO _ _ | assumption | exact ⟨by omega, by omega⟩) (by first | exact hr _ _ | exact hr0 _ _ | exact hrI _ _ | exact hrO _ _ | assumption | exact ⟨by omega, by omega⟩) (fun h_1 => ?_) (fun h_1 => ?_)
      · skip
        refine r_iconst C dX4_pass_24 ?_
        refine r_istore_n C (i := 1) (lv' := [(1, vI (0)), (0, .ref (adr G (u, 0, 0)))]) dX4_pass_25 rfl (by decide) rfl ?_
        have loop_26 : ∀ (n : Nat) (i2 : Nat), (i2 ≤ (w (3, 0, 0) 1).toNat) → (w (3, 0, 0) 1).toNat - i2 < n → rng (rb2 (rv1 w u) u i2) → Wm B 4 G A (Qe B G A (some (vI ((((rv3 w u).2.1 : Nat) : Int)))) (rbeat w u) 0 0) (rb2 (rv1 w u) u i2) 0 0 26 [(0, .ref (adr G (u, 0, 0))), (1, vI (((i2 : Nat) : Int)))] [] := by
          intro n26
          induction n26 with
          | zero => intro i2 hi2 hm; exact absurd hm (Nat.not_lt_zero _)
          | succ n26 ih26 =>
            intro i2 hi2 hm hr
            have hrI := hr
            have hLi : SI (rb2 (rv1 w u) u i2) u N (D + 8) X := k1.cg (fun k j hk => rb2_off hk _)
            have e1 : rb2 (rv1 w u) u i2 (3, 0, 0) 1 = w (3, 0, 0) 1 := (rb2_off (by simp) _).trans (l1 _ _ hu3)
            have hMi : MI (rb2 (rv1 w u) u i2) := hM0.sl (l1.tr (fun k j hk => rb2_off (fun e => hk (by rw [e])) _)) hu3
            have hrO := hr
            have g0 := hLi.1
            have g2 := hLi.2.2.1
            have hll := rlast_le (rb2 (rv1 w u) u i2) u (i2 : Int) (rb2 (rv1 w u) u i2 (u, 0, 0) 2).toNat
            refine r_iload_n C (k := 1) dX4_pass_26 rfl ?_
            refine r_aload_n C (k := 0) dX4_pass_27 rfl ?_
            refine r_getf C 15 (v := .ref (adr G (3, 0, 0))) (ok_of hG (kds0 hu) (by decide) (by omega)) (kds0 hu) (by decide) rfl hinX4 (by decide) (by decide +kernel) rfl rfl dX4_pass_28 ?_
            refine r_getfN (host := "DrumTalkModel") C 1 (ok_of hG (show kd (3, 0, 0) = _ from rfl) (by decide) (by decide)) (show kd (3, 0, 0) = _ from rfl) (by decide) rfl hinX5 (by decide) (by decide +kernel) rfl rfl dX4_pass_31 ?_
            refine r_icmp_ge C (tgt := 119) dX4_pass_34 (by decide) (by first | exact hr _ _ | exact hr0 _ _ | exact hrI _ _ | exact hrO _ _ | assumption | exact ⟨by omega, by omega⟩) (by first | exact hr _ _ | exact hr0 _ _ | exact hrI _ _ | exact hrO _ _ | assumption | exact ⟨by omega, by omega⟩) (fun h_2 => ?_) (fun h_2 => ?_)
            · skip
              refine r_iconst C dX4_pass_119 ?_
              refine r_istore_n C (i := 1) (lv' := [(1, vI (0)), (0, .ref (adr G (u, 0, 0)))]) dX4_pass_120 rfl (by decide) rfl ?_
              refine r_iconst C dX4_pass_121 ?_
              refine r_istore_n C (i := 2) (lv' := [(2, vI (0)), (1, vI (0)), (0, .ref (adr G (u, 0, 0)))]) dX4_pass_122 rfl (by decide) rfl ?_
              refine r_iconst C dX4_pass_123 ?_
              refine r_istore_n C (i := 3) (lv' := [(3, vI (0)), (2, vI (0)), (1, vI (0)), (0, .ref (adr G (u, 0, 0)))]) dX4_pass_124 rfl (by decide) rfl ?_
              have loop_125 : ∀ (n : Nat) (i3 : Nat), (i3 ≤ (rv2 w u (u, 0, 0) 2).toNat) → (rv2 w u (u, 0, 0) 2).toNat - i3 < n → rng ((rb3 (rv2 w u) u i3).1) → Wm B 4 G A (Qe B G A (some (vI ((((rv3 w u).2.1 : Nat) : Int)))) (rbeat w u) 0 0) ((rb3 (rv2 w u) u i3).1) 0 0 125 [(0, .ref (adr G (u, 0, 0))), (1, vI ((((rb3 (rv2 w u) u i3).2.1 : Nat) : Int))), (2, vI ((((rb3 (rv2 w u) u i3).2.2 : Nat) : Int))), (3, vI (((i3 : Nat) : Int)))] [] := by
                intro n125
                induction n125 with
                | zero => intro i3 hi3 hm; exact absurd hm (Nat.not_lt_zero _)
                | succ n125 ih125 =>
                  intro i3 hi3 hm hr
                  have hrI := hr
                  obtain ⟨hLi, l9, e0, j1, j2⟩ := rb3_facts k2 i3 (by omega)
                  have e2 := e0 2
                  refine r_iload_n C (k := 3) dX4_pass_125 rfl ?_
                  refine r_aload_n C (k := 0) dX4_pass_126 rfl ?_
                  refine r_getf C 2 (ok_of hG (kds0 hu) (by decide) (by omega)) (kds0 hu) (by decide) rfl hinX4 (by decide) (by decide +kernel) rfl rfl dX4_pass_127 ?_
                  refine r_icmp_ge C (tgt := 299) dX4_pass_130 (by decide) (by first | exact hr _ _ | exact hr0 _ _ | exact hrI _ _ | exact hrO _ _ | assumption | exact ⟨by omega, by omega⟩) (by first | exact hr _ _ | exact hr0 _ _ | exact hrI _ _ | exact hrO _ _ | assumption | exact ⟨by omega, by omega⟩) (fun h_3 => ?_) (fun h_3 => ?_)
                  · skip
                    refine r_aload_n C (k := 0) dX4_pass_299 rfl ?_
                    refine r_iload_n C (k := 2) dX4_pass_300 rfl ?_
                    refine r_putf C 2 hr (by first | exact hr _ _ | exact hr0 _ _ | exact hrI _ _ | exact hrO _ _ | assumption | exact ⟨by omega, by omega⟩) (ok_of hG (kds0 hu) (by decide) (by omega)) (kds0 hu) (by decide) rfl hinX4 tyX4_ok nmX4 (by decide) (by decide +kernel) rfl rfl (ty := .int) (by decide +kernel) rfl rfl rfl (Nat.le_of_ble_eq_true rfl) dX4_pass_301 (fun hr => ?_)
                    refine r_iconst C dX4_pass_304 ?_
                    refine r_istore_n C (i := 3) (lv' := [(3, vI (0)), (0, .ref (adr G (u, 0, 0))), (1, vI ((((rb3 (rv2 w u) u i3).2.1 : Nat) : Int))), (2, vI ((((rb3 (rv2 w u) u i3).2.2 : Nat) : Int)))]) dX4_pass_305 rfl (by decide) rfl ?_
                    have loop_306 : ∀ (n : Nat) (i4 : Nat), (i4 ≤ (w (3, 0, 0) 1).toNat) → (w (3, 0, 0) 1).toNat - i4 < n → rng (rb4 (rv3b w u) u i4) → Wm B 4 G A (Qe B G A (some (vI ((((rv3 w u).2.1 : Nat) : Int)))) (rbeat w u) 0 0) (rb4 (rv3b w u) u i4) 0 0 306 [(0, .ref (adr G (u, 0, 0))), (1, vI ((((rv3 w u).2.1 : Nat) : Int))), (3, vI (((i4 : Nat) : Int)))] [] := by
                      intro n306
                      induction n306 with
                      | zero => intro i4 hi4 hm; exact absurd hm (Nat.not_lt_zero _)
                      | succ n306 ih306 =>
                        intro i4 hi4 hm hr
                        have hrI := hr
                        obtain ⟨hLi, l9, e0⟩ := rb4_facts k3b i4 (by omega)
                        have e1 : rb4 (rv3b w u) u i4 (3, 0, 0) 1 = w (3, 0, 0) 1 := (l3.tr l9) _ _ hu3
                        have g0 := hLi.1
                        have q3 := hLi.2.2.2.2.1 i4
                        refine r_iload_n C (k := 2) dX4_pass_306 rfl ?_
                        refine r_aload_n C (k := 0) dX4_pass_307 rfl ?_
                        refine r_getf C 15 (v := .ref (adr G (3, 0, 0))) (ok_of hG (kds0 hu) (by decide) (by omega)) (kds0 hu) (by decide) rfl hinX4 (by decide) (by decide +kernel) rfl rfl dX4_pass_308 ?_
                        refine r_getfN (host := "DrumTalkModel") C 1 (ok_of hG (show kd (3, 0, 0) = _ from rfl) (by decide) (by decide)) (show kd (3, 0, 0) = _ from rfl) (by decide) rfl hinX5 (by decide) (by decide +kernel) rfl rfl dX4_pass_311 ?_
                        refine r_icmp_ge C (tgt := 357) dX4_pass_314 (by decide) (by first | exact hr _ _ | exact hr0 _ _ | exact hrI _ _ | exact hrO _ _ | assumption | exact ⟨by omega, by omega⟩) (by first | exact hr _ _ | exact hr0 _ _ | exact hrI _ _ | exact hrO _ _ | assumption | exact ⟨by omega, by omega⟩) (fun h_4 => ?_) (fun h_4 => ?_)
                        · skip
                          refine r_aload_n C (k := 0) dX4_pass_357 rfl ?_
                          refine r_dup C dX4_pass_358 rfl ?_
                          refine r_getf C 0 (ok_of hG (kds0 hu) (by decide) (by omega)) (kds0 hu) (by decide) rfl hinX4 (by decide) (by decide +kernel) rfl rfl dX4_pass_359 ?_
                          refine r_iconst C dX4_pass_362 ?_
                          refine r_iadd C dX4_pass_363 ?_
                          refine r_putf C 0 hr (by first | exact hr _ _ | exact hr0 _ _ | exact hrI _ _ | exact hrO _ _ | assumption | exact ⟨by omega, by omega⟩) (ok_of hG (kds0 hu) (by decide) (by omega)) (kds0 hu) (by decide) rfl hinX4 tyX4_ok nmX4 (by decide) (by decide +kernel) rfl rfl (ty := .int) (by decide +kernel) rfl rfl rfl (Nat.le_of_ble_eq_true rfl) dX4_pass_364 (fun hr => ?_)
                          refine r_iload_n C (k := 1) dX4_pass_367 rfl ?_
                          exact r_iret C dX4_pass_368 (by rfl) (by (obtain rfl : i4 = (w (3, 0, 0) 1).toNat := (by omega)); rfl)
                        · have q3 := q3 (by omega)
                          refine r_aload_n C (k := 0) dX4_pass_317 rfl ?_
                          refine r_getf C 5 (v := .ref (adr G (u, 0, 3))) (ok_of hG (kds0 hu) (by decide) (by omega)) (kds0 hu) (by decide) rfl hinX4 (by decide) (by decide +kernel) rfl rfl dX4_pass_318 ?_
                          refine r_iload_n C (k := 2) dX4_pass_321 rfl ?_
                          refine r_iconst C dX4_pass_322 ?_
                          refine r_aload_n C (k := 0) dX4_pass_323 rfl ?_
                          refine r_getf C 5 (v := .ref (adr G (u, 0, 3))) (ok_of hG (kds0 hu) (by decide) (by omega)) (kds0 hu) (by decide) rfl hinX4 (by decide) (by decide +kernel) rfl rfl dX4_pass_324 ?_
                          refine r_iload_n C (k := 2) dX4_pass_327 rfl ?_
                          refine r_iald C (i4) (ok_of hG (kds3 hu) (by decide) (by omega)) (kds3 hu) rfl (by first | omega | assumption) (by decide) dX4_pass_328 ?_
                          refine r_iconst C dX4_pass_329 ?_
                          refine r_isub C dX4_pass_330 ?_
                          refine r_mmax C ⟨by decide, by decide⟩ (by first | exact hr _ _ | exact hr0 _ _ | exact hrI _ _ | exact hrO _ _ | assumption | exact ⟨by omega, by omega⟩) (by decide +kernel) (by decide +kernel) (by decide +kernel) (by decide +kernel) (Nat.le_of_ble_eq_true rfl) (Nat.le_of_ble_eq_true rfl) (Nat.zero_le _) (Nat.zero_le _) dX4_pass_331 ?_
                          refine r_iast C (i4) hr (by first | exact hr _ _ | exact hr0 _ _ | exact hrI _ _ | exact hrO _ _ | assumption | exact ⟨by omega, by omega⟩) (ok_of hG (kds3 hu) (by decide) (by omega)) (kds3 hu) rfl (by first | omega | assumption) (by decide) dX4_pass_334 (fun hr => ?_)
                          refine r_aload_n C (k := 0) dX4_pass_335 rfl ?_
                          refine r_getf C 5 (v := .ref (adr G (u, 0, 3))) (ok_of hG (kds0 hu) (by decide) (by omega)) (kds0 hu) (by decide) rfl hinX4 (by decide) (by decide +kernel) rfl rfl dX4_pass_336 ?_
                          refine r_iload_n C (k := 2) dX4_pass_339 rfl ?_
                          refine r_iald C (i4) (ok_of hG (kds3 hu) (by decide) (by omega)) (kds3 hu) rfl (by first | omega | assumption) (by decide) dX4_pass_340 ?_
                          refine Wm.top (z' := (max (0) (((rb4 (rv3b w u) u i4) (u, 0, 3) (i4) - 1)))) (by simp [st1, cpy, hu3, hu3.symm]) ?_
                          refine r_if_ne C (tgt := 351) dX4_pass_341 (by decide) (by first | exact hr _ _ | exact hr0 _ _ | exact hrI _ _ | exact hrO _ _ | assumption | exact ⟨by omega, by omega⟩) (fun h_5 => ?_) (fun h_5 => ?_)
                          · skip
                            refine r_iinc C (k := 2) (lv' := [(3, vI (((i4 + 1 : Nat) : Int))), (0, .ref (adr G (u, 0, 0))), (1, vI ((((rv3 w u).2.1 : Nat) : Int)))]) dX4_pass_351 rfl (by decide) rfl ?_
                            refine r_goto C (tgt := 306) dX4_pass_354 (by decide) ?_
                            have e_6 : (st1 (rb4 (rv3b w u) u i4) (u, 0, 3) (i4) ((max (0) (((rb4 (rv3b w u) u i4) (u, 0, 3) (i4) - 1))))) = (rb4 (rv3b w u) u (i4 + 1)) := by (simp only [rb4]; first | (rw [if_pos (by assumption)]; done) | (rw [if_neg (by assumption)]; done))
                            refine Wm.sub (lv' := [(0, .ref (adr G (u, 0, 0))), (1, vI ((((rv3 w u).2.1 : Nat) : Int))), (3, vI (((i4 + 1 : Nat) : Int)))]) [1, 2, 0] rfl ?_
                            refine Wm.mem (lv' := [(0, .ref (adr G (u, 0, 0))), (1, vI ((((rv3 w u).2.1 : Nat) : Int))), (3, vI ((((i4 + 1) : Nat) : Int)))]) e_6 (by rfl) ?_
                            exact ih306 ((i4 + 1)) (by omega) (by omega) (e_6 ▸ hr)
                          · skip
                            refine r_aload_n C (k := 0) dX4_pass_344 rfl ?_
                            refine r_getf C 4 (v := .ref (adr G (u, 0, 2))) (ok_of hG (kds0 hu) (by decide) (by omega)) (kds0 hu) (by decide) rfl hinX4 (by decide) (by decide +kernel) rfl rfl dX4_pass_345 ?_
                            refine r_iload_n C (k := 2) dX4_pass_348 rfl ?_
                            refine r_iconst C dX4_pass_349 ?_
                            refine r_iast C (i4) hr ⟨by decide, by decide⟩ (ok_of hG (kds2 hu) (by decide) (by omega)) (kds2 hu) rfl (by first | omega | assumption) (by decide) dX4_pass_350 (fun hr => ?_)
                            refine r_iinc C (k := 2) (lv' := [(3, vI (((i4 + 1 : Nat) : Int))), (0, .ref (adr G (u, 0, 0))), (1, vI ((((rv3 w u).2.1 : Nat) : Int)))]) dX4_pass_351 rfl (by decide) rfl ?_
                            refine r_goto C (tgt := 306) dX4_pass_354 (by decide) ?_
                            have e_7 : (st1 (st1 (rb4 (rv3b w u) u i4) (u, 0, 3) (i4) ((max (0) (((rb4 (rv3b w u) u i4) (u, 0, 3) (i4) - 1))))) (u, 0, 2) (i4) ((-1))) = (rb4 (rv3b w u) u (i4 + 1)) := by (simp only [rb4]; first | (rw [if_pos (by assumption)]; done) | (rw [if_neg (by assumption)]; done))
                            refine Wm.sub (lv' := [(0, .ref (adr G (u, 0, 0))), (1, vI ((((rv3 w u).2.1 : Nat) : Int))), (3, vI (((i4 + 1 : Nat) : Int)))]) [1, 2, 0] rfl ?_
                            refine Wm.mem (lv' := [(0, .ref (adr G (u, 0, 0))), (1, vI ((((rv3 w u).2.1 : Nat) : Int))), (3, vI ((((i4 + 1) : Nat) : Int)))]) e_7 (by rfl) ?_
                            exact ih306 ((i4 + 1)) (by omega) (by omega) (e_7 ▸ hr)
                    have e_8 : (st1 ((rb3 (rv2 w u) u i3).1) (u, 0, 0) (2) ((((rb3 (rv2 w u) u i3).2.2 : Nat) : Int))) = (rb4 (rv3b w u) u 0) := by (obtain rfl : i3 = (rv2 w u (u, 0, 0) 2).toNat := (by omega)); rfl
                    refine Wm.sub (lv' := [(0, .ref (adr G (u, 0, 0))), (1, vI ((((rb3 (rv2 w u) u i3).2.1 : Nat) : Int))), (3, vI (0))]) [1, 2, 0] rfl ?_
                    refine Wm.mem (lv' := [(0, .ref (adr G (u, 0, 0))), (1, vI ((((rv3 w u).2.1 : Nat) : Int))), (3, vI (((0 : Nat) : Int)))]) e_8 (by (obtain rfl : i3 = (rv2 w u (u, 0, 0) 2).toNat := (by omega)); rfl) ?_
                    exact loop_306 _ (0) (by omega) (Nat.lt_succ_self _) (e_8 ▸ hr)
                  · obtain ⟨a1, a2, a3, a4, a5, a6, a7, a8, a9, a10⟩ := hLi
                    have q8 := a9 i3 (by omega)
                    have q9 := a10 i3 (by omega)
                    have q7 := a8 ((rb3 (rv2 w u) u i3).1 (u, 0, 8) i3).toNat (by omega)
                    have q4 := a6 ((rb3 (rv2 w u) u i3).1 (u, 0, 8) i3).toNat (by omega)
                    refine r_aload_n C (k := 0) dX4_pass_133 rfl ?_
                    refine r_getf C 13 (v := .ref (adr G (u, 0, 11))) (ok_of hG (kds0 hu) (by decide) (by omega)) (kds0 hu) (by decide) rfl hinX4 (by decide) (by decide +kernel) rfl rfl dX4_pass_134 ?_
                    refine r_iload_n C (k := 3) dX4_pass_137 rfl ?_
                    refine r_iald C (i3) (ok_of hG (kds11 hu) (by decide) (by omega)) (kds11 hu) rfl (by first | omega | assumption) (by decide) dX4_pass_138 ?_
                    refine r_aload_n C (k := 0) dX4_pass_139 rfl ?_
                    refine r_getf C 0 (ok_of hG (kds0 hu) (by decide) (by omega)) (kds0 hu) (by decide) rfl hinX4 (by decide) (by decide +kernel) rfl rfl dX4_pass_140 ?_
                    refine r_icmp_le C (tgt := 212) dX4_pass_143 (by decide) (by first | exact hr _ _ | exact hr0 _ _ | exact hrI _ _ | exact hrO _ _ | assumption | exact ⟨by omega, by omega⟩) (by first | exact hr _ _ | exact hr0 _ _ | exact hrI _ _ | exact hrO _ _ | assumption | exact ⟨by omega, by omega⟩) (fun h_9 => ?_) (fun h_9 => ?_)
                    · skip
                      refine r_aload_n C (k := 0) dX4_pass_212 rfl ?_
                      refine r_getf C 14 (v := .ref (adr G (u, 0, 12))) (ok_of hG (kds0 hu) (by decide) (by omega)) (kds0 hu) (by decide) rfl hinX4 (by decide) (by decide +kernel) rfl rfl dX4_pass_213 ?_
                      refine r_iload_n C (k := 3) dX4_pass_216 rfl ?_
                      refine r_iald C (i3) (ok_of hG (kds12 hu) (by decide) (by omega)) (kds12 hu) rfl (by first | omega | assumption) (by decide) dX4_pass_217 ?_
                      refine r_iconst C dX4_pass_218 ?_
                      refine r_icmp_ne C (tgt := 240) dX4_pass_219 (by decide) (by first | exact hr _ _ | exact hr0 _ _ | exact hrI _ _ | exact hrO _ _ | assumption | exact ⟨by omega, by omega⟩) ⟨by decide, by decide⟩ (fun h_10 => ?_) (fun h_10 => ?_)
                      · skip
                        refine r_aload_n C (k := 0) dX4_pass_240 rfl ?_
                        refine r_aload_n C (k := 0) dX4_pass_241 rfl ?_
                        refine r_getf C 10 (v := .ref (adr G (u, 0, 8))) (ok_of hG (kds0 hu) (by decide) (by omega)) (kds0 hu) (by decide) rfl hinX4 (by decide) (by decide +kernel) rfl rfl dX4_pass_242 ?_
                        refine r_iload_n C (k := 3) dX4_pass_245 rfl ?_
                        refine r_iald C (i3) (ok_of hG (kds8 hu) (by decide) (by omega)) (kds8 hu) rfl (by first | omega | assumption) (by decide) dX4_pass_246 ?_
                        refine r_aload_n C (k := 0) dX4_pass_247 rfl ?_
                        refine r_getf C 11 (v := .ref (adr G (u, 0, 9))) (ok_of hG (kds0 hu) (by decide) (by omega)) (kds0 hu) (by decide) rfl hinX4 (by decide) (by decide +kernel) rfl rfl dX4_pass_248 ?_
                        refine r_iload_n C (k := 3) dX4_pass_251 rfl ?_
                        refine r_iald C (i3) (ok_of hG (kds9 hu) (by decide) (by omega)) (kds9 hu) rfl (by first | omega | assumption) (by decide) dX4_pass_252 ?_
                        refine r_callV C (w' := (rlrn ((rb3 (rv2 w u) u i3).1) u (((rb3 (rv2 w u) u i3).1) (u, 0, 8) (i3)) (((rb3 (rv2 w u) u i3).1) (u, 0, 9) (i3)))) [vI (((rb3 (rv2 w u) u i3).1) (u, 0, 8) (i3)), vI (((rb3 (rv2 w u) u i3).1) (u, 0, 9) (i3))] 2 (c_X4_learns hG hu (by first | assumption | omega | exact hr _ _ | exact hr0 _ _ | exact hrI _ _ | exact ⟨by omega, by omega⟩ | exact bI_inR _ | (simp [st1] <;> omega) | exact rowR.so (by assumption) (by simp)) (by first | assumption | omega | exact hr _ _ | exact hr0 _ _ | exact hrI _ _ | exact ⟨by omega, by omega⟩ | exact bI_inR _ | (simp [st1] <;> omega) | exact rowR.so (by assumption) (by simp))) gX4_pass_X4_learns rfl rfl rfl (by decide +kernel) (Nat.le_of_ble_eq_true rfl) (Nat.le_of_ble_eq_true rfl) ⟨(Nat.zero_le _), (Nat.zero_le _)⟩ (ok_of hG (kds0 hu) (by decide) (by omega)) (kds0 hu) (by decide) rfl rfl rfl (Nat.le_of_ble_eq_true rfl) (st' := [vI (bI (((rb3 (rv2 w u) u i3).1) (u, 0, 6) (12 * (((rb3 (rv2 w u) u i3).1) (u, 0, 8) (i3)) + (((rb3 (rv2 w u) u i3).1) (u, 0, 9) (i3))).toNat = -1))]) rfl dX4_pass_253 (fun hr => ?_)
                        refine r_if_eqP C (P := ((rb3 (rv2 w u) u i3).1) (u, 0, 6) (12 * (((rb3 (rv2 w u) u i3).1) (u, 0, 8) (i3)) + (((rb3 (rv2 w u) u i3).1) (u, 0, 9) (i3))).toNat = -1) (tgt := 293) dX4_pass_256 (by decide) (fun h_11 => ?_) (fun h_11 => ?_)
                        · skip
                          refine r_iinc C (k := 3) (lv' := [(3, vI (((i3 + 1 : Nat) : Int))), (0, .ref (adr G (u, 0, 0))), (1, vI ((((rb3 (rv2 w u) u i3).2.1 : Nat) : Int))), (2, vI ((((rb3 (rv2 w u) u i3).2.2 : Nat) : Int)))]) dX4_pass_293 rfl (by decide) rfl ?_
                          refine r_goto C (tgt := 125) dX4_pass_296 (by decide) ?_
                          have e_12 : (rlrn ((rb3 (rv2 w u) u i3).1) u (((rb3 (rv2 w u) u i3).1) (u, 0, 8) (i3)) (((rb3 (rv2 w u) u i3).1) (u, 0, 9) (i3))) = ((rb3 (rv2 w u) u (i3 + 1)).1) := by (simp only [rb3]; (repeat' split) <;> first | rfl | (exfalso; omega) | (exfalso; simp_all; done))
                          refine Wm.sub (lv' := [(0, .ref (adr G (u, 0, 0))), (1, vI ((((rb3 (rv2 w u) u i3).2.1 : Nat) : Int))), (2, vI ((((rb3 (rv2 w u) u i3).2.2 : Nat) : Int))), (3, vI (((i3 + 1 : Nat) : Int)))]) [1, 2, 3, 0] rfl ?_
                          refine Wm.mem (lv' := [(0, .ref (adr G (u, 0, 0))), (1, vI ((((rb3 (rv2 w u) u (i3 + 1)).2.1 : Nat) : Int))), (2, vI ((((rb3 (rv2 w u) u (i3 + 1)).2.2 : Nat) : Int))), (3, vI ((((i3 + 1) : Nat) : Int)))]) e_12 (by (simp only [rb3]; (repeat' split) <;> first | rfl | (exfalso; omega) | (exfalso; simp_all; done))) ?_
                          exact ih125 ((i3 + 1)) (by omega) (by omega) (e_12 ▸ hr)
                        · skip
                          refine r_iinc C (k := 1) (lv' := [(1, vI ((((rb3 (rv2 w u) u i3).2.1 + 1 : Nat) : Int))), (0, .ref (adr G (u, 0, 0))), (2, vI ((((rb3 (rv2 w u) u i3).2.2 : Nat) : Int))), (3, vI (((i3 : Nat) : Int)))]) dX4_pass_259 rfl (by decide) rfl ?_
                          refine r_aload_n C (k := 1) dX4_pass_262 rfl ?_
                          refine r_getf C 6 (v := .ref (adr G (u, 0, 4))) (ok_of hG (kds0 hu) (by decide) (by omega)) (kds0 hu) (by decide) rfl hinX4 (by decide) (by decide +kernel) rfl rfl dX4_pass_263 ?_
                          refine r_aload_n C (k := 1) dX4_pass_266 rfl ?_
                          refine r_getf C 10 (v := .ref (adr G (u, 0, 8))) (ok_of hG (kds0 hu) (by decide) (by omega)) (kds0 hu) (by decide) rfl hinX4 (by decide) (by decide +kernel) rfl rfl dX4_pass_267 ?_
                          refine r_iload_n C (k := 3) dX4_pass_270 rfl ?_
                          refine r_iald C (i3) (ok_of hG (kds8 hu) (by decide) (by omega)) (kds8 hu) rfl (by first | omega | assumption) (by decide) dX4_pass_271 ?_
                          refine Wm.top (z' := ((rb3 (rv2 w u) u i3).1) (u, 0, 8) (i3)) (by simp [st1, cpy, rlrn_off, hu3, hu3.symm]) ?_
                          refine r_iald C ((((rb3 (rv2 w u) u i3).1) (u, 0, 8) (i3)).toNat) (ok_of hG (kds4 hu) (by decide) (by omega)) (kds4 hu) (Int.toNat_of_nonneg (by first | omega | assumption)).symm (by first | omega | assumption) (by decide) dX4_pass_272 ?_
                          refine Wm.top (z' := ((rb3 (rv2 w u) u i3).1) (u, 0, 4) ((((rb3 (rv2 w u) u i3).1) (u, 0, 8) (i3)).toNat)) (by simp [st1, cpy, rlrn_off, hu3, hu3.symm]) ?_
                          refine r_iconst C dX4_pass_273 ?_
                          refine r_icmp_ge C (tgt := 293) dX4_pass_274 (by decide) (by first | exact hr _ _ | exact hr0 _ _ | exact hrI _ _ | exact hrO _ _ | assumption | exact ⟨by omega, by omega⟩) ⟨by decide, by decide⟩ (fun h_13 => ?_) (fun h_13 => ?_)
                          · skip
                            refine r_iinc C (k := 3) (lv' := [(3, vI (((i3 + 1 : Nat) : Int))), (1, vI ((((rb3 (rv2 w u) u i3).2.1 + 1 : Nat) : Int))), (0, .ref (adr G (u, 0, 0))), (2, vI ((((rb3 (rv2 w u) u i3).2.2 : Nat) : Int)))]) dX4_pass_293 rfl (by decide) rfl ?_
                            refine r_goto C (tgt := 125) dX4_pass_296 (by decide) ?_
                            have e_14 : (rlrn ((rb3 (rv2 w u) u i3).1) u (((rb3 (rv2 w u) u i3).1) (u, 0, 8) (i3)) (((rb3 (rv2 w u) u i3).1) (u, 0, 9) (i3))) = ((rb3 (rv2 w u) u (i3 + 1)).1) := by (simp only [rb3]; (repeat' split) <;> first | rfl | (exfalso; omega) | (exfalso; simp_all; done))
                            refine Wm.sub (lv' := [(0, .ref (adr G (u, 0, 0))), (1, vI ((((rb3 (rv2 w u) u i3).2.1 + 1 : Nat) : Int))), (2, vI ((((rb3 (rv2 w u) u i3).2.2 : Nat) : Int))), (3, vI (((i3 + 1 : Nat) : Int)))]) [2, 1, 3, 0] rfl ?_
                            refine Wm.mem (lv' := [(0, .ref (adr G (u, 0, 0))), (1, vI ((((rb3 (rv2 w u) u (i3 + 1)).2.1 : Nat) : Int))), (2, vI ((((rb3 (rv2 w u) u (i3 + 1)).2.2 : Nat) : Int))), (3, vI ((((i3 + 1) : Nat) : Int)))]) e_14 (by (simp only [rb3]; (repeat' split) <;> first | rfl | (exfalso; omega) | (exfalso; simp_all; done))) ?_
                            exact ih125 ((i3 + 1)) (by omega) (by omega) (e_14 ▸ hr)
                          · skip
                            refine r_aload_n C (k := 1) dX4_pass_277 rfl ?_
                            refine r_aload_n C (k := 1) dX4_pass_278 rfl ?_
                            refine r_getf C 10 (v := .ref (adr G (u, 0, 8))) (ok_of hG (kds0 hu) (by decide) (by omega)) (kds0 hu) (by decide) rfl hinX4 (by decide) (by decide +kernel) rfl rfl dX4_pass_279 ?_
                            refine r_iload_n C (k := 3) dX4_pass_282 rfl ?_
                            refine r_iald C (i3) (ok_of hG (kds8 hu) (by decide) (by omega)) (kds8 hu) rfl (by first | omega | assumption) (by decide) dX4_pass_283 ?_
                            refine Wm.top (z' := ((rb3 (rv2 w u) u i3).1) (u, 0, 8) (i3)) (by simp [st1, cpy, rlrn_off, hu3, hu3.symm]) ?_
                            refine r_aload_n C (k := 1) dX4_pass_284 rfl ?_
                            refine r_getf C 11 (v := .ref (adr G (u, 0, 9))) (ok_of hG (kds0 hu) (by decide) (by omega)) (kds0 hu) (by decide) rfl hinX4 (by decide) (by decide +kernel) rfl rfl dX4_pass_285 ?_
                            refine r_iload_n C (k := 3) dX4_pass_288 rfl ?_
                            refine r_iald C (i3) (ok_of hG (kds9 hu) (by decide) (by omega)) (kds9 hu) rfl (by first | omega | assumption) (by decide) dX4_pass_289 ?_
                            refine Wm.top (z' := ((rb3 (rv2 w u) u i3).1) (u, 0, 9) (i3)) (by simp [st1, cpy, rlrn_off, hu3, hu3.symm]) ?_
                            refine r_callV C (w' := (rput (rlrn ((rb3 (rv2 w u) u i3).1) u (((rb3 (rv2 w u) u i3).1) (u, 0, 8) (i3)) (((rb3 (rv2 w u) u i3).1) (u, 0, 9) (i3))) u (((rb3 (rv2 w u) u i3).1) (u, 0, 8) (i3)) (((rb3 (rv2 w u) u i3).1) (u, 0, 9) (i3)))) [vI (((rb3 (rv2 w u) u i3).1) (u, 0, 8) (i3)), vI (((rb3 (rv2 w u) u i3).1) (u, 0, 9) (i3))] 2 (c_X4_put hG hu (by first | assumption | omega | exact hr _ _ | exact hr0 _ _ | exact hrI _ _ | exact ⟨by omega, by omega⟩ | exact bI_inR _ | (simp [st1] <;> omega) | exact rowR.so (by assumption) (by simp)) (by first | assumption | omega | exact hr _ _ | exact hr0 _ _ | exact hrI _ _ | exact ⟨by omega, by omega⟩ | exact bI_inR _ | (simp [st1] <;> omega) | exact rowR.so (by assumption) (by simp)) (by rw [rlrn_off (by simp)]; exact ⟨by omega, by omega⟩)) gX4_pass_X4_put rfl rfl rfl (by decide +kernel) (Nat.le_of_ble_eq_true rfl) (Nat.le_of_ble_eq_true rfl) ⟨(Nat.zero_le _), (Nat.zero_le _)⟩ (ok_of hG (kds0 hu) (by decide) (by omega)) (kds0 hu) (by decide) rfl rfl rfl (Nat.le_of_ble_eq_true rfl) (st' := []) rfl dX4_pass_290 (fun hr => ?_)
                            refine r_iinc C (k := 3) (lv' := [(3, vI (((i3 + 1 : Nat) : Int))), (1, vI ((((rb3 (rv2 w u) u i3).2.1 + 1 : Nat) : Int))), (0, .ref (adr G (u, 0, 0))), (2, vI ((((rb3 (rv2 w u) u i3).2.2 : Nat) : Int)))]) dX4_pass_293 rfl (by decide) rfl ?_
                            refine r_goto C (tgt := 125) dX4_pass_296 (by decide) ?_
                            have e_15 : (rput (rlrn ((rb3 (rv2 w u) u i3).1) u (((rb3 (rv2 w u) u i3).1) (u, 0, 8) (i3)) (((rb3 (rv2 w u) u i3).1) (u, 0, 9) (i3))) u (((rb3 (rv2 w u) u i3).1) (u, 0, 8) (i3)) (((rb3 (rv2 w u) u i3).1) (u, 0, 9) (i3))) = ((rb3 (rv2 w u) u (i3 + 1)).1) := by (simp only [rb3]; (repeat' split) <;> first | rfl | (exfalso; omega) | (exfalso; simp_all; done))
                            refine Wm.sub (lv' := [(0, .ref (adr G (u, 0, 0))), (1, vI ((((rb3 (rv2 w u) u i3).2.1 + 1 : Nat) : Int))), (2, vI ((((rb3 (rv2 w u) u i3).2.2 : Nat) : Int))), (3, vI (((i3 + 1 : Nat) : Int)))]) [2, 1, 3, 0] rfl ?_
                            refine Wm.mem (lv' := [(0, .ref (adr G (u, 0, 0))), (1, vI ((((rb3 (rv2 w u) u (i3 + 1)).2.1 : Nat) : Int))), (2, vI ((((rb3 (rv2 w u) u (i3 + 1)).2.2 : Nat) : Int))), (3, vI ((((i3 + 1) : Nat) : Int)))]) e_15 (by (simp only [rb3]; (repeat' split) <;> first | rfl | (exfalso; omega) | (exfalso; simp_all; done))) ?_
                            exact ih125 ((i3 + 1)) (by omega) (by omega) (e_15 ▸ hr)
                      · skip
                        refine r_aload_n C (k := 0) dX4_pass_222 rfl ?_
                        refine r_getf C 9 (v := .ref (adr G (u, 0, 7))) (ok_of hG (kds0 hu) (by decide) (by omega)) (kds0 hu) (by decide) rfl hinX4 (by decide) (by decide +kernel) rfl rfl dX4_pass_223 ?_
                        refine r_aload_n C (k := 0) dX4_pass_226 rfl ?_
                        refine r_getf C 10 (v := .ref (adr G (u, 0, 8))) (ok_of hG (kds0 hu) (by decide) (by omega)) (kds0 hu) (by decide) rfl hinX4 (by decide) (by decide +kernel) rfl rfl dX4_pass_227 ?_
                        refine r_iload_n C (k := 3) dX4_pass_230 rfl ?_
                        refine r_iald C (i3) (ok_of hG (kds8 hu) (by decide) (by omega)) (kds8 hu) rfl (by first | omega | assumption) (by decide) dX4_pass_231 ?_
                        refine r_dup2 C dX4_pass_232 rfl rfl ?_
                        refine r_iald C ((((rb3 (rv2 w u) u i3).1) (u, 0, 8) (i3)).toNat) (ok_of hG (kds7 hu) (by decide) (by omega)) (kds7 hu) (Int.toNat_of_nonneg (by first | omega | assumption)).symm (by first | omega | assumption) (by decide) dX4_pass_233 ?_
                        refine r_iconst C dX4_pass_234 ?_
                        refine r_iadd C dX4_pass_235 ?_
                        refine r_iast C ((((rb3 (rv2 w u) u i3).1) (u, 0, 8) (i3)).toNat) hr (by first | exact hr _ _ | exact hr0 _ _ | exact hrI _ _ | exact hrO _ _ | assumption | exact ⟨by omega, by omega⟩) (ok_of hG (kds7 hu) (by decide) (by omega)) (kds7 hu) (Int.toNat_of_nonneg (by first | omega | assumption)).symm (by first | omega | assumption) (by decide) dX4_pass_236 (fun hr => ?_)
                        refine r_goto C (tgt := 293) dX4_pass_237 (by decide) ?_
                        refine r_iinc C (k := 3) (lv' := [(3, vI (((i3 + 1 : Nat) : Int))), (0, .ref (adr G (u, 0, 0))), (1, vI ((((rb3 (rv2 w u) u i3).2.1 : Nat) : Int))), (2, vI ((((rb3 (rv2 w u) u i3).2.2 : Nat) : Int)))]) dX4_pass_293 rfl (by decide) rfl ?_
                        refine r_goto C (tgt := 125) dX4_pass_296 (by decide) ?_
                        have e_16 : (st1 ((rb3 (rv2 w u) u i3).1) (u, 0, 7) ((((rb3 (rv2 w u) u i3).1) (u, 0, 8) (i3)).toNat) ((((rb3 (rv2 w u) u i3).1) (u, 0, 7) ((((rb3 (rv2 w u) u i3).1) (u, 0, 8) (i3)).toNat) + 1))) = ((rb3 (rv2 w u) u (i3 + 1)).1) := by (simp only [rb3]; (repeat' split) <;> first | rfl | (exfalso; omega) | (exfalso; simp_all; done))
                        refine Wm.sub (lv' := [(0, .ref (adr G (u, 0, 0))), (1, vI ((((rb3 (rv2 w u) u i3).2.1 : Nat) : Int))), (2, vI ((((rb3 (rv2 w u) u i3).2.2 : Nat) : Int))), (3, vI (((i3 + 1 : Nat) : Int)))]) [1, 2, 3, 0] rfl ?_
                        refine Wm.mem (lv' := [(0, .ref (adr G (u, 0, 0))), (1, vI ((((rb3 (rv2 w u) u (i3 + 1)).2.1 : Nat) : Int))), (2, vI ((((rb3 (rv2 w u) u (i3 + 1)).2.2 : Nat) : Int))), (3, vI ((((i3 + 1) : Nat) : Int)))]) e_16 (by (simp only [rb3]; (repeat' split) <;> first | rfl | (exfalso; omega) | (exfalso; simp_all; done))) ?_
                        exact ih125 ((i3 + 1)) (by omega) (by omega) (e_16 ▸ hr)
                    · skip
                      refine r_aload_n C (k := 0) dX4_pass_146 rfl ?_
                      refine r_getf C 10 (v := .ref (adr G (u, 0, 8))) (ok_of hG (kds0 hu) (by decide) (by omega)) (kds0 hu) (by decide) rfl hinX4 (by decide) (by decide +kernel) rfl rfl dX4_pass_147 ?_
                      refine r_iload_n C (k := 2) dX4_pass_150 rfl ?_
                      refine r_aload_n C (k := 0) dX4_pass_151 rfl ?_
                      refine r_getf C 10 (v := .ref (adr G (u, 0, 8))) (ok_of hG (kds0 hu) (by decide) (by omega)) (kds0 hu) (by decide) rfl hinX4 (by decide) (by decide +kernel) rfl rfl dX4_pass_152 ?_
                      refine r_iload_n C (k := 3) dX4_pass_155 rfl ?_
                      refine r_iald C (i3) (ok_of hG (kds8 hu) (by decide) (by omega)) (kds8 hu) rfl (by first | omega | assumption) (by decide) dX4_pass_156 ?_
                      refine r_iast C ((rb3 (rv2 w u) u i3).2.2) hr (by first | exact hr _ _ | exact hr0 _ _ | exact hrI _ _ | exact hrO _ _ | assumption | exact ⟨by omega, by omega⟩) (ok_of hG (kds8 hu) (by decide) (by omega)) (kds8 hu) rfl (by first | omega | assumption) (by decide) dX4_pass_157 (fun hr => ?_)
                      refine r_aload_n C (k := 0) dX4_pass_158 rfl ?_
                      refine r_getf C 11 (v := .ref (adr G (u, 0, 9))) (ok_of hG (kds0 hu) (by decide) (by omega)) (kds0 hu) (by decide) rfl hinX4 (by decide) (by decide +kernel) rfl rfl dX4_pass_159 ?_
                      refine r_iload_n C (k := 2) dX4_pass_162 rfl ?_
                      refine r_aload_n C (k := 0) dX4_pass_163 rfl ?_
                      refine r_getf C 11 (v := .ref (adr G (u, 0, 9))) (ok_of hG (kds0 hu) (by decide) (by omega)) (kds0 hu) (by decide) rfl hinX4 (by decide) (by decide +kernel) rfl rfl dX4_pass_164 ?_
                      refine r_iload_n C (k := 3) dX4_pass_167 rfl ?_
                      refine r_iald C (i3) (ok_of hG (kds9 hu) (by decide) (by omega)) (kds9 hu) rfl (by first | omega | assumption) (by decide) dX4_pass_168 ?_
                      refine Wm.top (z' := ((rb3 (rv2 w u) u i3).1) (u, 0, 9) (i3)) (by simp [st1, cpy, hu3, hu3.symm]) ?_
                      refine r_iast C ((rb3 (rv2 w u) u i3).2.2) hr (by first | exact hr _ _ | exact hr0 _ _ | exact hrI _ _ | exact hrO _ _ | assumption | exact ⟨by omega, by omega⟩) (ok_of hG (kds9 hu) (by decide) (by omega)) (kds9 hu) rfl (by first | omega | assumption) (by decide) dX4_pass_169 (fun hr => ?_)
                      refine r_aload_n C (k := 0) dX4_pass_170 rfl ?_
                      refine r_getf C 12 (v := .ref (adr G (u, 0, 10))) (ok_of hG (kds0 hu) (by decide) (by omega)) (kds0 hu) (by decide) rfl hinX4 (by decide) (by decide +kernel) rfl rfl dX4_pass_171 ?_
                      refine r_iload_n C (k := 2) dX4_pass_174 rfl ?_
                      refine r_aload_n C (k := 0) dX4_pass_175 rfl ?_
                      refine r_getf C 12 (v := .ref (adr G (u, 0, 10))) (ok_of hG (kds0 hu) (by decide) (by omega)) (kds0 hu) (by decide) rfl hinX4 (by decide) (by decide +kernel) rfl rfl dX4_pass_176 ?_
                      refine r_iload_n C (k := 3) dX4_pass_179 rfl ?_
                      refine r_iald C (i3) (ok_of hG (kds10 hu) (by decide) (by omega)) (kds10 hu) rfl (by first | omega | assumption) (by decide) dX4_pass_180 ?_
                      refine Wm.top (z' := ((rb3 (rv2 w u) u i3).1) (u, 0, 10) (i3)) (by simp [st1, cpy, hu3, hu3.symm]) ?_
                      refine r_iast C ((rb3 (rv2 w u) u i3).2.2) hr (by first | exact hr _ _ | exact hr0 _ _ | exact hrI _ _ | exact hrO _ _ | assumption | exact ⟨by omega, by omega⟩) (ok_of hG (kds10 hu) (by decide) (by omega)) (kds10 hu) rfl (by first | omega | assumption) (by decide) dX4_pass_181 (fun hr => ?_)
                      refine r_aload_n C (k := 0) dX4_pass_182 rfl ?_
                      refine r_getf C 13 (v := .ref (adr G (u, 0, 11))) (ok_of hG (kds0 hu) (by decide) (by omega)) (kds0 hu) (by decide) rfl hinX4 (by decide) (by decide +kernel) rfl rfl dX4_pass_183 ?_
                      refine r_iload_n C (k := 2) dX4_pass_186 rfl ?_
                      refine r_aload_n C (k := 0) dX4_pass_187 rfl ?_
                      refine r_getf C 13 (v := .ref (adr G (u, 0, 11))) (ok_of hG (kds0 hu) (by decide) (by omega)) (kds0 hu) (by decide) rfl hinX4 (by decide) (by decide +kernel) rfl rfl dX4_pass_188 ?_
                      refine r_iload_n C (k := 3) dX4_pass_191 rfl ?_
                      refine r_iald C (i3) (ok_of hG (kds11 hu) (by decide) (by omega)) (kds11 hu) rfl (by first | omega | assumption) (by decide) dX4_pass_192 ?_
                      refine Wm.top (z' := ((rb3 (rv2 w u) u i3).1) (u, 0, 11) (i3)) (by simp [st1, cpy, hu3, hu3.symm]) ?_
                      refine r_iast C ((rb3 (rv2 w u) u i3).2.2) hr (by first | exact hr _ _ | exact hr0 _ _ | exact hrI _ _ | exact hrO _ _ | assumption | exact ⟨by omega, by omega⟩) (ok_of hG (kds11 hu) (by decide) (by omega)) (kds11 hu) rfl (by first | omega | assumption) (by decide) dX4_pass_193 (fun hr => ?_)
                      refine r_aload_n C (k := 0) dX4_pass_194 rfl ?_
                      refine r_getf C 14 (v := .ref (adr G (u, 0, 12))) (ok_of hG (kds0 hu) (by decide) (by omega)) (kds0 hu) (by decide) rfl hinX4 (by decide) (by decide +kernel) rfl rfl dX4_pass_195 ?_
                      refine r_iload_n C (k := 2) dX4_pass_198 rfl ?_
                      refine r_aload_n C (k := 0) dX4_pass_199 rfl ?_
                      refine r_getf C 14 (v := .ref (adr G (u, 0, 12))) (ok_of hG (kds0 hu) (by decide) (by omega)) (kds0 hu) (by decide) rfl hinX4 (by decide) (by decide +kernel) rfl rfl dX4_pass_200 ?_
                      refine r_iload_n C (k := 3) dX4_pass_203 rfl ?_
                      refine r_iald C (i3) (ok_of hG (kds12 hu) (by decide) (by omega)) (kds12 hu) rfl (by first | omega | assumption) (by decide) dX4_pass_204 ?_
                      refine Wm.top (z' := ((rb3 (rv2 w u) u i3).1) (u, 0, 12) (i3)) (by simp [st1, cpy, hu3, hu3.symm]) ?_
                      refine r_iast C ((rb3 (rv2 w u) u i3).2.2) hr (by first | exact hr _ _ | exact hr0 _ _ | exact hrI _ _ | exact hrO _ _ | assumption | exact ⟨by omega, by omega⟩) (ok_of hG (kds12 hu) (by decide) (by omega)) (kds12 hu) rfl (by first | omega | assumption) (by decide) dX4_pass_205 (fun hr => ?_)
                      refine r_iinc C (k := 2) (lv' := [(2, vI ((((rb3 (rv2 w u) u i3).2.2 + 1 : Nat) : Int))), (0, .ref (adr G (u, 0, 0))), (1, vI ((((rb3 (rv2 w u) u i3).2.1 : Nat) : Int))), (3, vI (((i3 : Nat) : Int)))]) dX4_pass_206 rfl (by decide) rfl ?_
                      refine r_goto C (tgt := 293) dX4_pass_209 (by decide) ?_
                      refine r_iinc C (k := 3) (lv' := [(3, vI (((i3 + 1 : Nat) : Int))), (2, vI ((((rb3 (rv2 w u) u i3).2.2 + 1 : Nat) : Int))), (0, .ref (adr G (u, 0, 0))), (1, vI ((((rb3 (rv2 w u) u i3).2.1 : Nat) : Int)))]) dX4_pass_293 rfl (by decide) rfl ?_
                      refine r_goto C (tgt := 125) dX4_pass_296 (by decide) ?_
                      have e_17 : (st1 (st1 (st1 (st1 (st1 ((rb3 (rv2 w u) u i3).1) (u, 0, 8) ((rb3 (rv2 w u) u i3).2.2) (((rb3 (rv2 w u) u i3).1) (u, 0, 8) (i3))) (u, 0, 9) ((rb3 (rv2 w u) u i3).2.2) (((rb3 (rv2 w u) u i3).1) (u, 0, 9) (i3))) (u, 0, 10) ((rb3 (rv2 w u) u i3).2.2) (((rb3 (rv2 w u) u i3).1) (u, 0, 10) (i3))) (u, 0, 11) ((rb3 (rv2 w u) u i3).2.2) (((rb3 (rv2 w u) u i3).1) (u, 0, 11) (i3))) (u, 0, 12) ((rb3 (rv2 w u) u i3).2.2) (((rb3 (rv2 w u) u i3).1) (u, 0, 12) (i3))) = ((rb3 (rv2 w u) u (i3 + 1)).1) := by (simp only [rb3]; (repeat' split) <;> first | rfl | (exfalso; omega) | (exfalso; simp_all; done))
                      refine Wm.sub (lv' := [(0, .ref (adr G (u, 0, 0))), (1, vI ((((rb3 (rv2 w u) u i3).2.1 : Nat) : Int))), (2, vI ((((rb3 (rv2 w u) u i3).2.2 + 1 : Nat) : Int))), (3, vI (((i3 + 1 : Nat) : Int)))]) [2, 3, 1, 0] rfl ?_
                      refine Wm.mem (lv' := [(0, .ref (adr G (u, 0, 0))), (1, vI ((((rb3 (rv2 w u) u (i3 + 1)).2.1 : Nat) : Int))), (2, vI ((((rb3 (rv2 w u) u (i3 + 1)).2.2 : Nat) : Int))), (3, vI ((((i3 + 1) : Nat) : Int)))]) e_17 (by (simp only [rb3]; (repeat' split) <;> first | rfl | (exfalso; omega) | (exfalso; simp_all; done))) ?_
                      exact ih125 ((i3 + 1)) (by omega) (by omega) (e_17 ▸ hr)
              have e_18 : (rb2 (rv1 w u) u i2) = ((rb3 (rv2 w u) u 0).1) := by (obtain rfl : i2 = (w (3, 0, 0) 1).toNat := (by omega)); rfl
              refine Wm.sub (lv' := [(0, .ref (adr G (u, 0, 0))), (1, vI (0)), (2, vI (0)), (3, vI (0))]) [3, 2, 1, 0] rfl ?_
              refine Wm.mem (lv' := [(0, .ref (adr G (u, 0, 0))), (1, vI ((((rb3 (rv2 w u) u 0).2.1 : Nat) : Int))), (2, vI ((((rb3 (rv2 w u) u 0).2.2 : Nat) : Int))), (3, vI (((0 : Nat) : Int)))]) e_18 (by rfl) ?_
              exact loop_125 _ (0) (by omega) (Nat.lt_succ_self _) (e_18 ▸ hr)
            · skip
              refine r_aload_n C (k := 0) dX4_pass_37 rfl ?_
              refine r_iload_n C (k := 1) dX4_pass_38 rfl ?_
              refine r_callV C (w' := (rb2 (rv1 w u) u i2)) [vI (((i2 : Nat) : Int))] 1 (c_X4_isAwake hG hu (by first | assumption | omega | exact hr _ _ | exact hr0 _ _ | exact hrI _ _ | exact ⟨by omega, by omega⟩ | exact bI_inR _ | (simp [st1] <;> omega) | exact rowR.so (by assumption) (by simp)) (by exact hMi.2.2.2.2.1) (by first | assumption | omega | exact hr _ _ | exact hr0 _ _ | exact hrI _ _ | exact ⟨by omega, by omega⟩ | exact bI_inR _ | (simp [st1] <;> omega) | exact rowR.so (by assumption) (by simp))) gX4_pass_X4_isAwake rfl rfl rfl (by decide +kernel) (Nat.le_of_ble_eq_true rfl) (Nat.le_of_ble_eq_true rfl) ⟨(Nat.zero_le _), (Nat.zero_le _)⟩ (ok_of hG (kds0 hu) (by decide) (by omega)) (kds0 hu) (by decide) rfl rfl rfl (Nat.le_of_ble_eq_true rfl) (st' := [vI (bI (rawk (rb2 (rv1 w u) u i2) u i2))]) rfl dX4_pass_39 (fun hr => ?_)
              refine r_if_eqP C (P := rawk (rb2 (rv1 w u) u i2) u i2) (tgt := 67) dX4_pass_42 (by decide) (fun h_19 => ?_) (fun h_19 => ?_)
              · skip
                refine r_iconst C dX4_pass_67 ?_
                refine r_istore_n C (i := 2) (lv' := [(2, vI (0)), (0, .ref (adr G (u, 0, 0))), (1, vI (((i2 : Nat) : Int)))]) dX4_pass_68 rfl (by decide) rfl ?_
                have loop_69 : ∀ (n : Nat) (i5 : Nat), (i5 ≤ (rb2 (rv1 w u) u i2 (u, 0, 0) 2).toNat) → (rb2 (rv1 w u) u i2 (u, 0, 0) 2).toNat - i5 < n → rng (rmark (rb2 (rv1 w u) u i2) u ((i2 : Nat) : Int) i5) → Wm B 4 G A (Qe B G A (some (vI ((((rv3 w u).2.1 : Nat) : Int)))) (rbeat w u) 0 0) (rmark (rb2 (rv1 w u) u i2) u ((i2 : Nat) : Int) i5) 0 0 69 [(0, .ref (adr G (u, 0, 0))), (1, vI (((i2 : Nat) : Int))), (2, vI (((i5 : Nat) : Int)))] [] := by
                  intro n69
                  induction n69 with
                  | zero => intro i5 hi5 hm; exact absurd hm (Nat.not_lt_zero _)
                  | succ n69 ih69 =>
                    intro i5 hi5 hm hr
                    have hrI := hr
                    refine r_iload_n C (k := 2) dX4_pass_69 rfl ?_
                    refine r_aload_n C (k := 0) dX4_pass_70 rfl ?_
                    refine r_getf C 2 (ok_of hG (kds0 hu) (by decide) (by omega)) (kds0 hu) (by decide) rfl hinX4 (by decide) (by decide +kernel) rfl rfl dX4_pass_71 ?_
                    refine Wm.top (z' := (rb2 (rv1 w u) u i2) (u, 0, 0) (2)) (by simp [st1, cpy, rmark_off, hu3, hu3.symm]) ?_
                    refine r_icmp_ge C (tgt := 113) dX4_pass_74 (by decide) (by first | exact hr _ _ | exact hr0 _ _ | exact hrI _ _ | exact hrO _ _ | assumption | exact ⟨by omega, by omega⟩) (by first | exact hr _ _ | exact hr0 _ _ | exact hrI _ _ | exact hrO _ _ | assumption | exact ⟨by omega, by omega⟩) (fun h_20 => ?_) (fun h_20 => ?_)
                    · skip
                      refine r_iinc C (k := 1) (lv' := [(1, vI (((i2 + 1 : Nat) : Int))), (0, .ref (adr G (u, 0, 0))), (2, vI (((i5 : Nat) : Int)))]) dX4_pass_113 rfl (by decide) rfl ?_
                      refine r_goto C (tgt := 26) dX4_pass_116 (by decide) ?_
                      have e_21 : (rmark (rb2 (rv1 w u) u i2) u ((i2 : Nat) : Int) i5) = (rb2 (rv1 w u) u (i2 + 1)) := by (simp only [rb2]; first | (rw [if_pos (by refine ⟨by assumption, by assumption, by omega⟩)]; done) | (rw [if_neg (fun q => by first | exact absurd q.1 (by assumption) | omega)]; done) | (obtain rfl : i5 = (rb2 (rv1 w u) u i2 (u, 0, 0) 2).toNat := (by omega); rw [if_neg (fun q => by first | exact absurd q.1 (by assumption) | omega)]))
                      refine Wm.sub (lv' := [(0, .ref (adr G (u, 0, 0))), (1, vI (((i2 + 1 : Nat) : Int)))]) [1, 0] rfl ?_
                      refine Wm.mem (lv' := [(0, .ref (adr G (u, 0, 0))), (1, vI ((((i2 + 1) : Nat) : Int)))]) e_21 (by rfl) ?_
                      exact ih26 ((i2 + 1)) (by omega) (by omega) (e_21 ▸ hr)
                    · skip
                      refine r_aload_n C (k := 0) dX4_pass_77 rfl ?_
                      refine r_getf C 10 (v := .ref (adr G (u, 0, 8))) (ok_of hG (kds0 hu) (by decide) (by omega)) (kds0 hu) (by decide) rfl hinX4 (by decide) (by decide +kernel) rfl rfl dX4_pass_78 ?_
                      refine r_iload_n C (k := 2) dX4_pass_81 rfl ?_
                      refine r_iald C (i5) (ok_of hG (kds8 hu) (by decide) (by omega)) (kds8 hu) rfl (by first | omega | assumption) (by decide) dX4_pass_82 ?_
                      refine Wm.top (z' := (rb2 (rv1 w u) u i2) (u, 0, 8) (i5)) (by simp [st1, cpy, rmark_off, hu3, hu3.symm]) ?_
                      refine r_iload_n C (k := 1) dX4_pass_83 rfl ?_
                      refine r_icmp_ne C (tgt := 107) dX4_pass_84 (by decide) (by first | exact hr _ _ | exact hr0 _ _ | exact hrI _ _ | exact hrO _ _ | assumption | exact ⟨by omega, by omega⟩) (by first | exact hr _ _ | exact hr0 _ _ | exact hrI _ _ | exact hrO _ _ | assumption | exact ⟨by omega, by omega⟩) (fun h_22 => ?_) (fun h_22 => ?_)
                      · skip
                        refine r_iinc C (k := 2) (lv' := [(2, vI (((i5 + 1 : Nat) : Int))), (0, .ref (adr G (u, 0, 0))), (1, vI (((i2 : Nat) : Int)))]) dX4_pass_107 rfl (by decide) rfl ?_
                        refine r_goto C (tgt := 69) dX4_pass_110 (by decide) ?_
                        have e_23 : (rmark (rb2 (rv1 w u) u i2) u ((i2 : Nat) : Int) i5) = (rmark (rb2 (rv1 w u) u i2) u ((i2 : Nat) : Int) (i5 + 1)) := by (simp only [rmark]; first | (rw [if_pos ⟨by assumption, by assumption⟩]; done) | (rw [if_neg (fun q => by omega)]; done))
                        refine Wm.sub (lv' := [(0, .ref (adr G (u, 0, 0))), (1, vI (((i2 : Nat) : Int))), (2, vI (((i5 + 1 : Nat) : Int)))]) [1, 2, 0] rfl ?_
                        refine Wm.mem (lv' := [(0, .ref (adr G (u, 0, 0))), (1, vI (((i2 : Nat) : Int))), (2, vI ((((i5 + 1) : Nat) : Int)))]) e_23 (by rfl) ?_
                        exact ih69 ((i5 + 1)) (by omega) (by omega) (e_23 ▸ hr)
                      · skip
                        refine r_aload_n C (k := 0) dX4_pass_87 rfl ?_
                        refine r_getf C 12 (v := .ref (adr G (u, 0, 10))) (ok_of hG (kds0 hu) (by decide) (by omega)) (kds0 hu) (by decide) rfl hinX4 (by decide) (by decide +kernel) rfl rfl dX4_pass_88 ?_
                        refine r_iload_n C (k := 2) dX4_pass_91 rfl ?_
                        refine r_iald C (i5) (ok_of hG (kds10 hu) (by decide) (by omega)) (kds10 hu) rfl (by first | omega | assumption) (by decide) dX4_pass_92 ?_
                        refine Wm.top (z' := (rb2 (rv1 w u) u i2) (u, 0, 10) (i5)) (by simp [st1, cpy, rmark_off, hu3, hu3.symm]) ?_
                        refine r_aload_n C (k := 0) dX4_pass_93 rfl ?_
                        refine r_getf C 0 (ok_of hG (kds0 hu) (by decide) (by omega)) (kds0 hu) (by decide) rfl hinX4 (by decide) (by decide +kernel) rfl rfl dX4_pass_94 ?_
                        refine Wm.top (z' := (rb2 (rv1 w u) u i2) (u, 0, 0) (0)) (by simp [st1, cpy, rmark_off, hu3, hu3.symm]) ?_
                        refine r_icmp_gt C (tgt := 107) dX4_pass_97 (by decide) (by first | exact hr _ _ | exact hr0 _ _ | exact hrI _ _ | exact hrO _ _ | assumption | exact ⟨by omega, by omega⟩) (by first | exact hr _ _ | exact hr0 _ _ | exact hrI _ _ | exact hrO _ _ | assumption | exact ⟨by omega, by omega⟩) (fun h_24 => ?_) (fun h_24 => ?_)
                        · skip
                          refine r_iinc C (k := 2) (lv' := [(2, vI (((i5 + 1 : Nat) : Int))), (0, .ref (adr G (u, 0, 0))), (1, vI (((i2 : Nat) : Int)))]) dX4_pass_107 rfl (by decide) rfl ?_
                          refine r_goto C (tgt := 69) dX4_pass_110 (by decide) ?_
                          have e_25 : (rmark (rb2 (rv1 w u) u i2) u ((i2 : Nat) : Int) i5) = (rmark (rb2 (rv1 w u) u i2) u ((i2 : Nat) : Int) (i5 + 1)) := by (simp only [rmark]; first | (rw [if_pos ⟨by assumption, by assumption⟩]; done) | (rw [if_neg (fun q => by omega)]; done))
                          refine Wm.sub (lv' := [(0, .ref (adr G (u, 0, 0))), (1, vI (((i2 : Nat) : Int))), (2, vI (((i5 + 1 : Nat) : Int)))]) [1, 2, 0] rfl ?_
                          refine Wm.mem (lv' := [(0, .ref (adr G (u, 0, 0))), (1, vI (((i2 : Nat) : Int))), (2, vI ((((i5 + 1) : Nat) : Int)))]) e_25 (by rfl) ?_
                          exact ih69 ((i5 + 1)) (by omega) (by omega) (e_25 ▸ hr)
                        · skip
                          refine r_aload_n C (k := 0) dX4_pass_100 rfl ?_
                          refine r_getf C 14 (v := .ref (adr G (u, 0, 12))) (ok_of hG (kds0 hu) (by decide) (by omega)) (kds0 hu) (by decide) rfl hinX4 (by decide) (by decide +kernel) rfl rfl dX4_pass_101 ?_
                          refine r_iload_n C (k := 2) dX4_pass_104 rfl ?_
                          refine r_iconst C dX4_pass_105 ?_
                          refine r_iast C (i5) hr ⟨by decide, by decide⟩ (ok_of hG (kds12 hu) (by decide) (by omega)) (kds12 hu) rfl (by first | omega | assumption) (by decide) dX4_pass_106 (fun hr => ?_)
                          refine r_iinc C (k := 2) (lv' := [(2, vI (((i5 + 1 : Nat) : Int))), (0, .ref (adr G (u, 0, 0))), (1, vI (((i2 : Nat) : Int)))]) dX4_pass_107 rfl (by decide) rfl ?_
                          refine r_goto C (tgt := 69) dX4_pass_110 (by decide) ?_
                          have e_26 : (st1 (rmark (rb2 (rv1 w u) u i2) u ((i2 : Nat) : Int) i5) (u, 0, 12) (i5) (1)) = (rmark (rb2 (rv1 w u) u i2) u ((i2 : Nat) : Int) (i5 + 1)) := by (simp only [rmark]; first | (rw [if_pos ⟨by assumption, by assumption⟩]; done) | (rw [if_neg (fun q => by omega)]; done))
                          refine Wm.sub (lv' := [(0, .ref (adr G (u, 0, 0))), (1, vI (((i2 : Nat) : Int))), (2, vI (((i5 + 1 : Nat) : Int)))]) [1, 2, 0] rfl ?_
                          refine Wm.mem (lv' := [(0, .ref (adr G (u, 0, 0))), (1, vI (((i2 : Nat) : Int))), (2, vI ((((i5 + 1) : Nat) : Int)))]) e_26 (by rfl) ?_
                          exact ih69 ((i5 + 1)) (by omega) (by omega) (e_26 ▸ hr)
                have e_27 : (rb2 (rv1 w u) u i2) = (rmark (rb2 (rv1 w u) u i2) u ((i2 : Nat) : Int) 0) := by rfl
                refine Wm.sub (lv' := [(0, .ref (adr G (u, 0, 0))), (1, vI (((i2 : Nat) : Int))), (2, vI (0))]) [1, 2, 0] rfl ?_
                refine Wm.mem (lv' := [(0, .ref (adr G (u, 0, 0))), (1, vI (((i2 : Nat) : Int))), (2, vI (((0 : Nat) : Int)))]) e_27 (by rfl) ?_
                exact loop_69 _ (0) (by omega) (Nat.lt_succ_self _) (e_27 ▸ hr)
              · skip
                refine r_aload_n C (k := 0) dX4_pass_45 rfl ?_
                refine r_getf C 4 (v := .ref (adr G (u, 0, 2))) (ok_of hG (kds0 hu) (by decide) (by omega)) (kds0 hu) (by decide) rfl hinX4 (by decide) (by decide +kernel) rfl rfl dX4_pass_46 ?_
                refine r_iload_n C (k := 1) dX4_pass_49 rfl ?_
                refine r_iald C (i2) (ok_of hG (kds2 hu) (by decide) (by omega)) (kds2 hu) rfl (by first | omega | assumption) (by decide) dX4_pass_50 ?_
                refine r_iconst C dX4_pass_51 ?_
                refine r_icmp_ne C (tgt := 67) dX4_pass_52 (by decide) (by first | exact hr _ _ | exact hr0 _ _ | exact hrI _ _ | exact hrO _ _ | assumption | exact ⟨by omega, by omega⟩) ⟨by decide, by decide⟩ (fun h_28 => ?_) (fun h_28 => ?_)
                · skip
                  refine r_iconst C dX4_pass_67 ?_
                  refine r_istore_n C (i := 2) (lv' := [(2, vI (0)), (0, .ref (adr G (u, 0, 0))), (1, vI (((i2 : Nat) : Int)))]) dX4_pass_68 rfl (by decide) rfl ?_
                  have loop_69 : ∀ (n : Nat) (i5 : Nat), (i5 ≤ (rb2 (rv1 w u) u i2 (u, 0, 0) 2).toNat) → (rb2 (rv1 w u) u i2 (u, 0, 0) 2).toNat - i5 < n → rng (rmark (rb2 (rv1 w u) u i2) u ((i2 : Nat) : Int) i5) → Wm B 4 G A (Qe B G A (some (vI ((((rv3 w u).2.1 : Nat) : Int)))) (rbeat w u) 0 0) (rmark (rb2 (rv1 w u) u i2) u ((i2 : Nat) : Int) i5) 0 0 69 [(0, .ref (adr G (u, 0, 0))), (1, vI (((i2 : Nat) : Int))), (2, vI (((i5 : Nat) : Int)))] [] := by
                    intro n69
                    induction n69 with
                    | zero => intro i5 hi5 hm; exact absurd hm (Nat.not_lt_zero _)
                    | succ n69 ih69 =>
                      intro i5 hi5 hm hr
                      have hrI := hr
                      refine r_iload_n C (k := 2) dX4_pass_69 rfl ?_
                      refine r_aload_n C (k := 0) dX4_pass_70 rfl ?_
                      refine r_getf C 2 (ok_of hG (kds0 hu) (by decide) (by omega)) (kds0 hu) (by decide) rfl hinX4 (by decide) (by decide +kernel) rfl rfl dX4_pass_71 ?_
                      refine Wm.top (z' := (rb2 (rv1 w u) u i2) (u, 0, 0) (2)) (by simp [st1, cpy, rmark_off, hu3, hu3.symm]) ?_
                      refine r_icmp_ge C (tgt := 113) dX4_pass_74 (by decide) (by first | exact hr _ _ | exact hr0 _ _ | exact hrI _ _ | exact hrO _ _ | assumption | exact ⟨by omega, by omega⟩) (by first | exact hr _ _ | exact hr0 _ _ | exact hrI _ _ | exact hrO _ _ | assumption | exact ⟨by omega, by omega⟩) (fun h_29 => ?_) (fun h_29 => ?_)
                      · skip
                        refine r_iinc C (k := 1) (lv' := [(1, vI (((i2 + 1 : Nat) : Int))), (0, .ref (adr G (u, 0, 0))), (2, vI (((i5 : Nat) : Int)))]) dX4_pass_113 rfl (by decide) rfl ?_
                        refine r_goto C (tgt := 26) dX4_pass_116 (by decide) ?_
                        have e_30 : (rmark (rb2 (rv1 w u) u i2) u ((i2 : Nat) : Int) i5) = (rb2 (rv1 w u) u (i2 + 1)) := by (simp only [rb2]; first | (rw [if_pos (by refine ⟨by assumption, by assumption, by omega⟩)]; done) | (rw [if_neg (fun q => by first | exact absurd q.1 (by assumption) | omega)]; done) | (obtain rfl : i5 = (rb2 (rv1 w u) u i2 (u, 0, 0) 2).toNat := (by omega); rw [if_neg (fun q => by first | exact absurd q.1 (by assumption) | omega)]))
                        refine Wm.sub (lv' := [(0, .ref (adr G (u, 0, 0))), (1, vI (((i2 + 1 : Nat) : Int)))]) [1, 0] rfl ?_
                        refine Wm.mem (lv' := [(0, .ref (adr G (u, 0, 0))), (1, vI ((((i2 + 1) : Nat) : Int)))]) e_30 (by rfl) ?_
                        exact ih26 ((i2 + 1)) (by omega) (by omega) (e_30 ▸ hr)
                      · skip
                        refine r_aload_n C (k := 0) dX4_pass_77 rfl ?_
                        refine r_getf C 10 (v := .ref (adr G (u, 0, 8))) (ok_of hG (kds0 hu) (by decide) (by omega)) (kds0 hu) (by decide) rfl hinX4 (by decide) (by decide +kernel) rfl rfl dX4_pass_78 ?_
                        refine r_iload_n C (k := 2) dX4_pass_81 rfl ?_
                        refine r_iald C (i5) (ok_of hG (kds8 hu) (by decide) (by omega)) (kds8 hu) rfl (by first | omega | assumption) (by decide) dX4_pass_82 ?_
                        refine Wm.top (z' := (rb2 (rv1 w u) u i2) (u, 0, 8) (i5)) (by simp [st1, cpy, rmark_off, hu3, hu3.symm]) ?_
                        refine r_iload_n C (k := 1) dX4_pass_83 rfl ?_
                        refine r_icmp_ne C (tgt := 107) dX4_pass_84 (by decide) (by first | exact hr _ _ | exact hr0 _ _ | exact hrI _ _ | exact hrO _ _ | assumption | exact ⟨by omega, by omega⟩) (by first | exact hr _ _ | exact hr0 _ _ | exact hrI _ _ | exact hrO _ _ | assumption | exact ⟨by omega, by omega⟩) (fun h_31 => ?_) (fun h_31 => ?_)
                        · skip
                          refine r_iinc C (k := 2) (lv' := [(2, vI (((i5 + 1 : Nat) : Int))), (0, .ref (adr G (u, 0, 0))), (1, vI (((i2 : Nat) : Int)))]) dX4_pass_107 rfl (by decide) rfl ?_
                          refine r_goto C (tgt := 69) dX4_pass_110 (by decide) ?_
                          have e_32 : (rmark (rb2 (rv1 w u) u i2) u ((i2 : Nat) : Int) i5) = (rmark (rb2 (rv1 w u) u i2) u ((i2 : Nat) : Int) (i5 + 1)) := by (simp only [rmark]; first | (rw [if_pos ⟨by assumption, by assumption⟩]; done) | (rw [if_neg (fun q => by omega)]; done))
                          refine Wm.sub (lv' := [(0, .ref (adr G (u, 0, 0))), (1, vI (((i2 : Nat) : Int))), (2, vI (((i5 + 1 : Nat) : Int)))]) [1, 2, 0] rfl ?_
                          refine Wm.mem (lv' := [(0, .ref (adr G (u, 0, 0))), (1, vI (((i2 : Nat) : Int))), (2, vI ((((i5 + 1) : Nat) : Int)))]) e_32 (by rfl) ?_
                          exact ih69 ((i5 + 1)) (by omega) (by omega) (e_32 ▸ hr)
                        · skip
                          refine r_aload_n C (k := 0) dX4_pass_87 rfl ?_
                          refine r_getf C 12 (v := .ref (adr G (u, 0, 10))) (ok_of hG (kds0 hu) (by decide) (by omega)) (kds0 hu) (by decide) rfl hinX4 (by decide) (by decide +kernel) rfl rfl dX4_pass_88 ?_
                          refine r_iload_n C (k := 2) dX4_pass_91 rfl ?_
                          refine r_iald C (i5) (ok_of hG (kds10 hu) (by decide) (by omega)) (kds10 hu) rfl (by first | omega | assumption) (by decide) dX4_pass_92 ?_
                          refine Wm.top (z' := (rb2 (rv1 w u) u i2) (u, 0, 10) (i5)) (by simp [st1, cpy, rmark_off, hu3, hu3.symm]) ?_
                          refine r_aload_n C (k := 0) dX4_pass_93 rfl ?_
                          refine r_getf C 0 (ok_of hG (kds0 hu) (by decide) (by omega)) (kds0 hu) (by decide) rfl hinX4 (by decide) (by decide +kernel) rfl rfl dX4_pass_94 ?_
                          refine Wm.top (z' := (rb2 (rv1 w u) u i2) (u, 0, 0) (0)) (by simp [st1, cpy, rmark_off, hu3, hu3.symm]) ?_
                          refine r_icmp_gt C (tgt := 107) dX4_pass_97 (by decide) (by first | exact hr _ _ | exact hr0 _ _ | exact hrI _ _ | exact hrO _ _ | assumption | exact ⟨by omega, by omega⟩) (by first | exact hr _ _ | exact hr0 _ _ | exact hrI _ _ | exact hrO _ _ | assumption | exact ⟨by omega, by omega⟩) (fun h_33 => ?_) (fun h_33 => ?_)
                          · skip
                            refine r_iinc C (k := 2) (lv' := [(2, vI (((i5 + 1 : Nat) : Int))), (0, .ref (adr G (u, 0, 0))), (1, vI (((i2 : Nat) : Int)))]) dX4_pass_107 rfl (by decide) rfl ?_
                            refine r_goto C (tgt := 69) dX4_pass_110 (by decide) ?_
                            have e_34 : (rmark (rb2 (rv1 w u) u i2) u ((i2 : Nat) : Int) i5) = (rmark (rb2 (rv1 w u) u i2) u ((i2 : Nat) : Int) (i5 + 1)) := by (simp only [rmark]; first | (rw [if_pos ⟨by assumption, by assumption⟩]; done) | (rw [if_neg (fun q => by omega)]; done))
                            refine Wm.sub (lv' := [(0, .ref (adr G (u, 0, 0))), (1, vI (((i2 : Nat) : Int))), (2, vI (((i5 + 1 : Nat) : Int)))]) [1, 2, 0] rfl ?_
                            refine Wm.mem (lv' := [(0, .ref (adr G (u, 0, 0))), (1, vI (((i2 : Nat) : Int))), (2, vI ((((i5 + 1) : Nat) : Int)))]) e_34 (by rfl) ?_
                            exact ih69 ((i5 + 1)) (by omega) (by omega) (e_34 ▸ hr)
                          · skip
                            refine r_aload_n C (k := 0) dX4_pass_100 rfl ?_
                            refine r_getf C 14 (v := .ref (adr G (u, 0, 12))) (ok_of hG (kds0 hu) (by decide) (by omega)) (kds0 hu) (by decide) rfl hinX4 (by decide) (by decide +kernel) rfl rfl dX4_pass_101 ?_
                            refine r_iload_n C (k := 2) dX4_pass_104 rfl ?_
                            refine r_iconst C dX4_pass_105 ?_
                            refine r_iast C (i5) hr ⟨by decide, by decide⟩ (ok_of hG (kds12 hu) (by decide) (by omega)) (kds12 hu) rfl (by first | omega | assumption) (by decide) dX4_pass_106 (fun hr => ?_)
                            refine r_iinc C (k := 2) (lv' := [(2, vI (((i5 + 1 : Nat) : Int))), (0, .ref (adr G (u, 0, 0))), (1, vI (((i2 : Nat) : Int)))]) dX4_pass_107 rfl (by decide) rfl ?_
                            refine r_goto C (tgt := 69) dX4_pass_110 (by decide) ?_
                            have e_35 : (st1 (rmark (rb2 (rv1 w u) u i2) u ((i2 : Nat) : Int) i5) (u, 0, 12) (i5) (1)) = (rmark (rb2 (rv1 w u) u i2) u ((i2 : Nat) : Int) (i5 + 1)) := by (simp only [rmark]; first | (rw [if_pos ⟨by assumption, by assumption⟩]; done) | (rw [if_neg (fun q => by omega)]; done))
                            refine Wm.sub (lv' := [(0, .ref (adr G (u, 0, 0))), (1, vI (((i2 : Nat) : Int))), (2, vI (((i5 + 1 : Nat) : Int)))]) [1, 2, 0] rfl ?_
                            refine Wm.mem (lv' := [(0, .ref (adr G (u, 0, 0))), (1, vI (((i2 : Nat) : Int))), (2, vI ((((i5 + 1) : Nat) : Int)))]) e_35 (by rfl) ?_
                            exact ih69 ((i5 + 1)) (by omega) (by omega) (e_35 ▸ hr)
                  have e_36 : (rb2 (rv1 w u) u i2) = (rmark (rb2 (rv1 w u) u i2) u ((i2 : Nat) : Int) 0) := by rfl
                  refine Wm.sub (lv' := [(0, .ref (adr G (u, 0, 0))), (1, vI (((i2 : Nat) : Int))), (2, vI (0))]) [1, 2, 0] rfl ?_
                  refine Wm.mem (lv' := [(0, .ref (adr G (u, 0, 0))), (1, vI (((i2 : Nat) : Int))), (2, vI (((0 : Nat) : Int)))]) e_36 (by rfl) ?_
                  exact loop_69 _ (0) (by omega) (Nat.lt_succ_self _) (e_36 ▸ hr)
                · skip
                  refine r_aload_n C (k := 0) dX4_pass_55 rfl ?_
                  refine r_iload_n C (k := 1) dX4_pass_56 rfl ?_
                  refine r_callV C (w' := (rb2 (rv1 w u) u i2)) [vI (((i2 : Nat) : Int))] 1 (c_X4_lasting hG hu (by exact g2) (by exact ⟨by omega, by omega⟩)) gX4_pass_X4_lasting rfl rfl rfl (by decide +kernel) (Nat.le_of_ble_eq_true rfl) (Nat.le_of_ble_eq_true rfl) ⟨(Nat.zero_le _), (Nat.zero_le _)⟩ (ok_of hG (kds0 hu) (by decide) (by omega)) (kds0 hu) (by decide) rfl rfl rfl (Nat.le_of_ble_eq_true rfl) (st' := [vI ((((rlast (rb2 (rv1 w u) u i2) u (((i2 : Nat) : Int)) ((rb2 (rv1 w u) u i2) (u, 0, 0) 2).toNat : Nat) : Int)))]) rfl dX4_pass_57 (fun hr => ?_)
                  refine r_iconst C dX4_pass_60 ?_
                  refine r_icmp_ge C (tgt := 67) dX4_pass_61 (by decide) (by first | exact hr _ _ | exact hr0 _ _ | exact hrI _ _ | exact hrO _ _ | assumption | exact ⟨by omega, by omega⟩) ⟨by decide, by decide⟩ (fun h_37 => ?_) (fun h_37 => ?_)
                  · skip
                    refine r_iconst C dX4_pass_67 ?_
                    refine r_istore_n C (i := 2) (lv' := [(2, vI (0)), (0, .ref (adr G (u, 0, 0))), (1, vI (((i2 : Nat) : Int)))]) dX4_pass_68 rfl (by decide) rfl ?_
                    have loop_69 : ∀ (n : Nat) (i5 : Nat), (i5 ≤ (rb2 (rv1 w u) u i2 (u, 0, 0) 2).toNat) → (rb2 (rv1 w u) u i2 (u, 0, 0) 2).toNat - i5 < n → rng (rmark (rb2 (rv1 w u) u i2) u ((i2 : Nat) : Int) i5) → Wm B 4 G A (Qe B G A (some (vI ((((rv3 w u).2.1 : Nat) : Int)))) (rbeat w u) 0 0) (rmark (rb2 (rv1 w u) u i2) u ((i2 : Nat) : Int) i5) 0 0 69 [(0, .ref (adr G (u, 0, 0))), (1, vI (((i2 : Nat) : Int))), (2, vI (((i5 : Nat) : Int)))] [] := by
                      intro n69
                      induction n69 with
                      | zero => intro i5 hi5 hm; exact absurd hm (Nat.not_lt_zero _)
                      | succ n69 ih69 =>
                        intro i5 hi5 hm hr
                        have hrI := hr
                        refine r_iload_n C (k := 2) dX4_pass_69 rfl ?_
                        refine r_aload_n C (k := 0) dX4_pass_70 rfl ?_
                        refine r_getf C 2 (ok_of hG (kds0 hu) (by decide) (by omega)) (kds0 hu) (by decide) rfl hinX4 (by decide) (by decide +kernel) rfl rfl dX4_pass_71 ?_
                        refine Wm.top (z' := (rb2 (rv1 w u) u i2) (u, 0, 0) (2)) (by simp [st1, cpy, rmark_off, hu3, hu3.symm]) ?_
                        refine r_icmp_ge C (tgt := 113) dX4_pass_74 (by decide) (by first | exact hr _ _ | exact hr0 _ _ | exact hrI _ _ | exact hrO _ _ | assumption | exact ⟨by omega, by omega⟩) (by first | exact hr _ _ | exact hr0 _ _ | exact hrI _ _ | exact hrO _ _ | assumption | exact ⟨by omega, by omega⟩) (fun h_38 => ?_) (fun h_38 => ?_)
                        · skip
                          refine r_iinc C (k := 1) (lv' := [(1, vI (((i2 + 1 : Nat) : Int))), (0, .ref (adr G (u, 0, 0))), (2, vI (((i5 : Nat) : Int)))]) dX4_pass_113 rfl (by decide) rfl ?_
                          refine r_goto C (tgt := 26) dX4_pass_116 (by decide) ?_
                          have e_39 : (rmark (rb2 (rv1 w u) u i2) u ((i2 : Nat) : Int) i5) = (rb2 (rv1 w u) u (i2 + 1)) := by (simp only [rb2]; first | (rw [if_pos (by refine ⟨by assumption, by assumption, by omega⟩)]; done) | (rw [if_neg (fun q => by first | exact absurd q.1 (by assumption) | omega)]; done) | (obtain rfl : i5 = (rb2 (rv1 w u) u i2 (u, 0, 0) 2).toNat := (by omega); rw [if_neg (fun q => by first | exact absurd q.1 (by assumption) | omega)]))
                          refine Wm.sub (lv' := [(0, .ref (adr G (u, 0, 0))), (1, vI (((i2 + 1 : Nat) : Int)))]) [1, 0] rfl ?_
                          refine Wm.mem (lv' := [(0, .ref (adr G (u, 0, 0))), (1, vI ((((i2 + 1) : Nat) : Int)))]) e_39 (by rfl) ?_
                          exact ih26 ((i2 + 1)) (by omega) (by omega) (e_39 ▸ hr)
                        · skip
                          refine r_aload_n C (k := 0) dX4_pass_77 rfl ?_
                          refine r_getf C 10 (v := .ref (adr G (u, 0, 8))) (ok_of hG (kds0 hu) (by decide) (by omega)) (kds0 hu) (by decide) rfl hinX4 (by decide) (by decide +kernel) rfl rfl dX4_pass_78 ?_
                          refine r_iload_n C (k := 2) dX4_pass_81 rfl ?_
                          refine r_iald C (i5) (ok_of hG (kds8 hu) (by decide) (by omega)) (kds8 hu) rfl (by first | omega | assumption) (by decide) dX4_pass_82 ?_
                          refine Wm.top (z' := (rb2 (rv1 w u) u i2) (u, 0, 8) (i5)) (by simp [st1, cpy, rmark_off, hu3, hu3.symm]) ?_
                          refine r_iload_n C (k := 1) dX4_pass_83 rfl ?_
                          refine r_icmp_ne C (tgt := 107) dX4_pass_84 (by decide) (by first | exact hr _ _ | exact hr0 _ _ | exact hrI _ _ | exact hrO _ _ | assumption | exact ⟨by omega, by omega⟩) (by first | exact hr _ _ | exact hr0 _ _ | exact hrI _ _ | exact hrO _ _ | assumption | exact ⟨by omega, by omega⟩) (fun h_40 => ?_) (fun h_40 => ?_)
                          · skip
                            refine r_iinc C (k := 2) (lv' := [(2, vI (((i5 + 1 : Nat) : Int))), (0, .ref (adr G (u, 0, 0))), (1, vI (((i2 : Nat) : Int)))]) dX4_pass_107 rfl (by decide) rfl ?_
                            refine r_goto C (tgt := 69) dX4_pass_110 (by decide) ?_
                            have e_41 : (rmark (rb2 (rv1 w u) u i2) u ((i2 : Nat) : Int) i5) = (rmark (rb2 (rv1 w u) u i2) u ((i2 : Nat) : Int) (i5 + 1)) := by (simp only [rmark]; first | (rw [if_pos ⟨by assumption, by assumption⟩]; done) | (rw [if_neg (fun q => by omega)]; done))
                            refine Wm.sub (lv' := [(0, .ref (adr G (u, 0, 0))), (1, vI (((i2 : Nat) : Int))), (2, vI (((i5 + 1 : Nat) : Int)))]) [1, 2, 0] rfl ?_
                            refine Wm.mem (lv' := [(0, .ref (adr G (u, 0, 0))), (1, vI (((i2 : Nat) : Int))), (2, vI ((((i5 + 1) : Nat) : Int)))]) e_41 (by rfl) ?_
                            exact ih69 ((i5 + 1)) (by omega) (by omega) (e_41 ▸ hr)
                          · skip
                            refine r_aload_n C (k := 0) dX4_pass_87 rfl ?_
                            refine r_getf C 12 (v := .ref (adr G (u, 0, 10))) (ok_of hG (kds0 hu) (by decide) (by omega)) (kds0 hu) (by decide) rfl hinX4 (by decide) (by decide +kernel) rfl rfl dX4_pass_88 ?_
                            refine r_iload_n C (k := 2) dX4_pass_91 rfl ?_
                            refine r_iald C (i5) (ok_of hG (kds10 hu) (by decide) (by omega)) (kds10 hu) rfl (by first | omega | assumption) (by decide) dX4_pass_92 ?_
                            refine Wm.top (z' := (rb2 (rv1 w u) u i2) (u, 0, 10) (i5)) (by simp [st1, cpy, rmark_off, hu3, hu3.symm]) ?_
                            refine r_aload_n C (k := 0) dX4_pass_93 rfl ?_
                            refine r_getf C 0 (ok_of hG (kds0 hu) (by decide) (by omega)) (kds0 hu) (by decide) rfl hinX4 (by decide) (by decide +kernel) rfl rfl dX4_pass_94 ?_
                            refine Wm.top (z' := (rb2 (rv1 w u) u i2) (u, 0, 0) (0)) (by simp [st1, cpy, rmark_off, hu3, hu3.symm]) ?_
                            refine r_icmp_gt C (tgt := 107) dX4_pass_97 (by decide) (by first | exact hr _ _ | exact hr0 _ _ | exact hrI _ _ | exact hrO _ _ | assumption | exact ⟨by omega, by omega⟩) (by first | exact hr _ _ | exact hr0 _ _ | exact hrI _ _ | exact hrO _ _ | assumption | exact ⟨by omega, by omega⟩) (fun h_42 => ?_) (fun h_42 => ?_)
                            · skip
                              refine r_iinc C (k := 2) (lv' := [(2, vI (((i5 + 1 : Nat) : Int))), (0, .ref (adr G (u, 0, 0))), (1, vI (((i2 : Nat) : Int)))]) dX4_pass_107 rfl (by decide) rfl ?_
                              refine r_goto C (tgt := 69) dX4_pass_110 (by decide) ?_
                              have e_43 : (rmark (rb2 (rv1 w u) u i2) u ((i2 : Nat) : Int) i5) = (rmark (rb2 (rv1 w u) u i2) u ((i2 : Nat) : Int) (i5 + 1)) := by (simp only [rmark]; first | (rw [if_pos ⟨by assumption, by assumption⟩]; done) | (rw [if_neg (fun q => by omega)]; done))
                              refine Wm.sub (lv' := [(0, .ref (adr G (u, 0, 0))), (1, vI (((i2 : Nat) : Int))), (2, vI (((i5 + 1 : Nat) : Int)))]) [1, 2, 0] rfl ?_
                              refine Wm.mem (lv' := [(0, .ref (adr G (u, 0, 0))), (1, vI (((i2 : Nat) : Int))), (2, vI ((((i5 + 1) : Nat) : Int)))]) e_43 (by rfl) ?_
                              exact ih69 ((i5 + 1)) (by omega) (by omega) (e_43 ▸ hr)
                            · skip
                              refine r_aload_n C (k := 0) dX4_pass_100 rfl ?_
                              refine r_getf C 14 (v := .ref (adr G (u, 0, 12))) (ok_of hG (kds0 hu) (by decide) (by omega)) (kds0 hu) (by decide) rfl hinX4 (by decide) (by decide +kernel) rfl rfl dX4_pass_101 ?_
                              refine r_iload_n C (k := 2) dX4_pass_104 rfl ?_
                              refine r_iconst C dX4_pass_105 ?_
                              refine r_iast C (i5) hr ⟨by decide, by decide⟩ (ok_of hG (kds12 hu) (by decide) (by omega)) (kds12 hu) rfl (by first | omega | assumption) (by decide) dX4_pass_106 (fun hr => ?_)
                              refine r_iinc C (k := 2) (lv' := [(2, vI (((i5 + 1 : Nat) : Int))), (0, .ref (adr G (u, 0, 0))), (1, vI (((i2 : Nat) : Int)))]) dX4_pass_107 rfl (by decide) rfl ?_
                              refine r_goto C (tgt := 69) dX4_pass_110 (by decide) ?_
                              have e_44 : (st1 (rmark (rb2 (rv1 w u) u i2) u ((i2 : Nat) : Int) i5) (u, 0, 12) (i5) (1)) = (rmark (rb2 (rv1 w u) u i2) u ((i2 : Nat) : Int) (i5 + 1)) := by (simp only [rmark]; first | (rw [if_pos ⟨by assumption, by assumption⟩]; done) | (rw [if_neg (fun q => by omega)]; done))
                              refine Wm.sub (lv' := [(0, .ref (adr G (u, 0, 0))), (1, vI (((i2 : Nat) : Int))), (2, vI (((i5 + 1 : Nat) : Int)))]) [1, 2, 0] rfl ?_
                              refine Wm.mem (lv' := [(0, .ref (adr G (u, 0, 0))), (1, vI (((i2 : Nat) : Int))), (2, vI ((((i5 + 1) : Nat) : Int)))]) e_44 (by rfl) ?_
                              exact ih69 ((i5 + 1)) (by omega) (by omega) (e_44 ▸ hr)
                    have e_45 : (rb2 (rv1 w u) u i2) = (rmark (rb2 (rv1 w u) u i2) u ((i2 : Nat) : Int) 0) := by rfl
                    refine Wm.sub (lv' := [(0, .ref (adr G (u, 0, 0))), (1, vI (((i2 : Nat) : Int))), (2, vI (0))]) [1, 2, 0] rfl ?_
                    refine Wm.mem (lv' := [(0, .ref (adr G (u, 0, 0))), (1, vI (((i2 : Nat) : Int))), (2, vI (((0 : Nat) : Int)))]) e_45 (by rfl) ?_
                    exact loop_69 _ (0) (by omega) (Nat.lt_succ_self _) (e_45 ▸ hr)
                  · skip
                    refine r_goto C (tgt := 113) dX4_pass_64 (by decide) ?_
                    refine r_iinc C (k := 1) (lv' := [(1, vI (((i2 + 1 : Nat) : Int))), (0, .ref (adr G (u, 0, 0)))]) dX4_pass_113 rfl (by decide) rfl ?_
                    refine r_goto C (tgt := 26) dX4_pass_116 (by decide) ?_
                    have e_46 : (rb2 (rv1 w u) u i2) = (rb2 (rv1 w u) u (i2 + 1)) := by (simp only [rb2]; first | (rw [if_pos (by refine ⟨by assumption, by assumption, by omega⟩)]; done) | (rw [if_neg (fun q => by first | exact absurd q.1 (by assumption) | omega)]; done) | (obtain rfl : i5 = (rb2 (rv1 w u) u i2 (u, 0, 0) 2).toNat := (by omega); rw [if_neg (fun q => by first | exact absurd q.1 (by assumption) | omega)]))
                    refine Wm.sub (lv' := [(0, .ref (adr G (u, 0, 0))), (1, vI (((i2 + 1 : Nat) : Int)))]) [1, 0] rfl ?_
                    refine Wm.mem (lv' := [(0, .ref (adr G (u, 0, 0))), (1, vI ((((i2 + 1) : Nat) : Int)))]) e_46 (by rfl) ?_
                    exact ih26 ((i2 + 1)) (by omega) (by omega) (e_46 ▸ hr)
        have e_47 : (rb1 w u i) = (rb2 (rv1 w u) u 0) := by (obtain rfl : i = (w (3, 0, 0) 1).toNat := (by omega)); rfl
        refine Wm.sub (lv' := [(0, .ref (adr G (u, 0, 0))), (1, vI (0))]) [1, 0] rfl ?_
        refine Wm.mem (lv' := [(0, .ref (adr G (u, 0, 0))), (1, vI (((0 : Nat) : Int)))]) e_47 (by rfl) ?_
        exact loop_26 _ (0) (by omega) (Nat.lt_succ_self _) (e_47 ▸ hr)
      · skip
        refine r_aload_n C (k := 0) dX4_pass_13 rfl ?_
        refine r_iload_n C (k := 1) dX4_pass_14 rfl ?_
        refine r_callV C (w' := (rbeg (rb1 w u i) u i)) [vI (((i : Nat) : Int))] 1 (c_X4_begin hG hu (by omega) (by exact hLi) (by exact hM0.sl (rb1_sl i) hu3) (by exact ⟨by omega, by omega, by omega⟩) (by first | assumption | omega | exact hr _ _ | exact hr0 _ _ | exact hrI _ _ | exact ⟨by omega, by omega⟩ | exact bI_inR _ | (simp [st1] <;> omega) | exact rowR.so (by assumption) (by simp)) (by first | assumption | omega | exact hr _ _ | exact hr0 _ _ | exact hrI _ _ | exact ⟨by omega, by omega⟩ | exact bI_inR _ | (simp [st1] <;> omega) | exact rowR.so (by assumption) (by simp))) gX4_pass_X4_begin rfl rfl rfl (by decide +kernel) (Nat.le_of_ble_eq_true rfl) (Nat.le_of_ble_eq_true rfl) ⟨(Nat.zero_le _), (Nat.zero_le _)⟩ (ok_of hG (kds0 hu) (by decide) (by omega)) (kds0 hu) (by decide) rfl rfl rfl (Nat.le_of_ble_eq_true rfl) (st' := []) rfl dX4_pass_15 (fun hr => ?_)
        refine r_iinc C (k := 1) (lv' := [(1, vI (((i + 1 : Nat) : Int))), (0, .ref (adr G (u, 0, 0)))]) dX4_pass_18 rfl (by decide) rfl ?_
        refine r_goto C (tgt := 2) dX4_pass_21 (by decide) ?_
        have e_48 : (rbeg (rb1 w u i) u i) = (rb1 w u (i + 1)) := by rfl
        refine Wm.sub (lv' := [(0, .ref (adr G (u, 0, 0))), (1, vI (((i + 1 : Nat) : Int)))]) [1, 0] rfl ?_
        refine Wm.mem (lv' := [(0, .ref (adr G (u, 0, 0))), (1, vI ((((i + 1) : Nat) : Int)))]) e_48 (by rfl) ?_
        exact ih2 ((i + 1)) (by omega) (by omega) (e_48 ▸ hr)
  have e_49 : w = (rb1 w u 0) := by rfl
  refine Wm.sub (lv' := [(0, .ref (adr G (u, 0, 0))), (1, vI (0))]) [1, 0] rfl ?_
  refine Wm.mem (lv' := [(0, .ref (adr G (u, 0, 0))), (1, vI (((0 : Nat) : Int)))]) e_49 (by rfl) ?_
  exact loop_2 _ (0) (by omega) (Nat.lt_succ_self _) (e_49 ▸ hr)
