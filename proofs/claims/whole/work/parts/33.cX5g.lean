set_option maxRecDepth 100000 in
set_option maxHeartbeats 1500000 in
theorem c_X5_phrase {l : Launch} {G : Gt} (hG : Gok G)  {w : Mm} {n : Int} (hn : inR n) (hpb : 0 ≤ w (3, 0, 0) 2 ∧ w (3, 0, 0) 2 ≤ 12) : Con l G yX5_phrase wsX5_phrase ({ frames := 1, cells := 0, slots := 0, locals := 22 } : Room) w [.ref (adr G (3, 0, 0)), vI n] (some (vI ((if (ph n (phk n ((n).toNat + 1) 0)).2 = true ∧ (2 ≤ ((phk n ((n).toNat + 1) 0 : Nat) : Int) ∧ ((phk n ((n).toNat + 1) 0 : Nat) : Int) ≤ 8) then (if rdp w n (w (3, 0, 0) 2).toNat = true then 0 else w (3, 0, 0) 2) else 0)))) ((if (ph n (phk n ((n).toNat + 1) 0)).2 = true ∧ (2 ≤ ((phk n ((n).toNat + 1) 0 : Nat) : Int) ∧ ((phk n ((n).toNat + 1) 0 : Nat) : Int) ≤ 8) then (if rdp w n (w (3, 0, 0) 2).toNat = true then thn w 2 else rphr w n (phk n ((n).toNat + 1) 0)) else thn w 1)) 0 0 := by
  refine Con.head (cc := cX5_phrase) (nL := 6) (ret := (some .int)) hG (by decide +kernel) rfl (Nat.le_of_ble_eq_true rfl) ?_
  intro B A hBl C hr
  have hr0 := hr
  have hrI := hr
  have hinX5 : ∀ w ∈ u_ws RX5 TX5 12, w ∈ wsX5_phrase := by decide +kernel
  obtain ⟨z1, z2⟩ := hpb
  refine r_aload_n C (k := 0) dX5_phrase_0 rfl ?_
  refine r_iconst C dX5_phrase_1 ?_
  refine r_putf C 0 hr ⟨by decide, by decide⟩ (ok_of hG (show kd (3, 0, 0) = _ from rfl) (by decide) (by decide)) (show kd (3, 0, 0) = _ from rfl) (by decide) rfl hinX5 tyX5_ok nmX5 (by decide) (by decide +kernel) rfl rfl (ty := .int) (by decide +kernel) rfl rfl rfl (Nat.le_of_ble_eq_true rfl) dX5_phrase_2 (fun hr => ?_)
  refine r_iconst C dX5_phrase_5 ?_
  refine r_istore_n C (i := 2) (lv' := [(2, vI (0)), (0, .ref (adr G (3, 0, 0))), (1, vI (n))]) dX5_phrase_6 rfl (by decide) rfl ?_
  refine r_iload_n C (k := 2) dX5_phrase_7 rfl ?_
  refine r_if_le C (tgt := 15) dX5_phrase_8 (by decide) (by first | exact hr _ _ | exact hr0 _ _ | exact hrI _ _ | assumption | exact ⟨by omega, by omega⟩) (fun h_1 => ?_) (fun h_1 => ?_)
  · skip
    refine r_iconst C dX5_phrase_15 ?_
    refine r_istore_n C (i := 3) (lv' := [(3, vI (0)), (2, vI (0)), (0, .ref (adr G (3, 0, 0))), (1, vI (n))]) dX5_phrase_16 rfl (by decide) rfl ?_
    refine r_iload_n C (k := 3) dX5_phrase_17 rfl ?_
    refine r_istore C (i := 4) (lv' := [(4, vI (n)), (3, vI (0)), (2, vI (0)), (0, .ref (adr G (3, 0, 0))), (1, vI (n))]) dX5_phrase_18 (by decide) rfl ?_
    have loop_20 : ∀ (nf : Nat) (k : Nat), ((ph n k).1.toNat + k ≤ (n).toNat) → (inR (ph n k).1) → (phk n ((n).toNat + 1 - k) k = phk n ((n).toNat + 1) 0) → (ph n k).1.toNat < nf → rng (st1 w (3, 0, 0) (0) (0)) → Wm B 6 G A (Qe B G A (some (vI ((if (ph n (phk n ((n).toNat + 1) 0)).2 = true ∧ (2 ≤ ((phk n ((n).toNat + 1) 0 : Nat) : Int) ∧ ((phk n ((n).toNat + 1) 0 : Nat) : Int) ≤ 8) then (if rdp w n (w (3, 0, 0) 2).toNat = true then 0 else w (3, 0, 0) 2) else 0)))) ((if (ph n (phk n ((n).toNat + 1) 0)).2 = true ∧ (2 ≤ ((phk n ((n).toNat + 1) 0 : Nat) : Int) ∧ ((phk n ((n).toNat + 1) 0 : Nat) : Int) ≤ 8) then (if rdp w n (w (3, 0, 0) 2).toNat = true then thn w 2 else rphr w n (phk n ((n).toNat + 1) 0)) else thn w 1)) 0 0) (st1 w (3, 0, 0) (0) (0)) (0) (0) 20 [(0, .ref (adr G (3, 0, 0))), (1, vI (n)), (2, vI (((k : Nat) : Int))), (3, vI (bI ((ph n k).2 = true))), (4, vI ((ph n k).1))] [] := by
      intro n20
      induction n20 with
      | zero => intro k hk hR hq hm; exact absurd hm (Nat.not_lt_zero _)
      | succ n20 ih20 =>
        intro k hk hR hq hm hr
        have hrI := hr
        have hR1 : -2147483648 ≤ (ph n k).1 := hR.1
        have hR2 : (ph n k).1 < 2147483648 := hR.2
        have hn2 : n < 2147483648 := hn.2
        have e10 : (ph n (k + 1)).1 = (ph n k).1 / 10 := rfl
        refine r_iload C (k := 4) dX5_phrase_20 rfl ?_
        refine r_if_le C (tgt := 51) dX5_phrase_22 (by decide) (by first | exact hr _ _ | exact hr0 _ _ | exact hrI _ _ | assumption | exact ⟨by omega, by omega⟩) (fun h_2 => ?_) (fun h_2 => ?_)
        · skip
          refine r_iload_n C (k := 3) dX5_phrase_51 rfl ?_
          refine r_if_eqP C (P := (ph n k).2 = true) (tgt := 65) dX5_phrase_52 (by decide) (fun h_3 => ?_) (fun h_3 => ?_)
          · skip
            refine r_aload_n C (k := 0) dX5_phrase_65 rfl ?_
            refine r_iconst C dX5_phrase_66 ?_
            refine r_callV C (w' := (st1 (st1 w (3, 0, 0) (0) (0)) (3, 0, 0) 0 (1))) [vI (1)] 1 (c_X5_no hG (by first | assumption | omega | exact hr _ _ | exact hr0 _ _ | exact hrI _ _ | exact ⟨by omega, by omega⟩ | exact bI_inR _ | (simp [st1] <;> omega) | exact rowR.so (by assumption) (by simp))) gX5_phrase_X5_no rfl rfl rfl (by decide +kernel) (Nat.le_of_ble_eq_true rfl) (Nat.le_of_ble_eq_true rfl) ⟨(Nat.zero_le _), (Nat.zero_le _)⟩ (ok_of hG (show kd (3, 0, 0) = _ from rfl) (by decide) (by decide)) (show kd (3, 0, 0) = _ from rfl) (by decide) rfl rfl rfl (Nat.le_of_ble_eq_true rfl) (st' := [vI ((0))]) rfl dX5_phrase_67 (fun hr => ?_)
            exact r_iret C dX5_phrase_70 (by (have e9 := hq.symm.trans (phk_e hk (by omega))); rw [e9]; rw [if_neg (fun q => by have q1 := q.1; have q2 := q.2; first | contradiction | omega)]) (by (have e9 := hq.symm.trans (phk_e hk (by omega))); rw [e9]; rw [if_neg (fun q => by have q1 := q.1; have q2 := q.2; first | contradiction | omega)]; rfl)
          · skip
            refine r_iload_n C (k := 2) dX5_phrase_55 rfl ?_
            refine r_iconst C dX5_phrase_56 ?_
            refine r_bipush C dX5_phrase_57 (by decide) ?_
            refine r_callS C (w' := (st1 w (3, 0, 0) (0) (0))) [vI (((k : Nat) : Int)), vI (2), vI (8)] 3 (c_X5_isIn hG (by first | assumption | omega | exact hr _ _ | exact hr0 _ _ | exact hrI _ _ | exact ⟨by omega, by omega⟩ | exact bI_inR _ | (simp [st1] <;> omega) | exact rowR.so (by assumption) (by simp)) (by first | assumption | omega | exact hr _ _ | exact hr0 _ _ | exact hrI _ _ | exact ⟨by omega, by omega⟩ | exact bI_inR _ | (simp [st1] <;> omega) | exact rowR.so (by assumption) (by simp)) (by first | assumption | omega | exact hr _ _ | exact hr0 _ _ | exact hrI _ _ | exact ⟨by omega, by omega⟩ | exact bI_inR _ | (simp [st1] <;> omega) | exact rowR.so (by assumption) (by simp))) gX5_phrase_X5_isIn rfl rfl rfl (by decide +kernel) (Nat.le_of_ble_eq_true rfl) (Nat.le_of_ble_eq_true rfl) ⟨(Nat.zero_le _), (Nat.zero_le _)⟩ rfl rfl (Nat.le_of_ble_eq_true rfl) (st' := [vI (bI ((2) ≤ (((k : Nat) : Int)) ∧ (((k : Nat) : Int)) ≤ (8)))]) rfl dX5_phrase_59 (fun hr => ?_)
            refine r_if_neP C (P := (2) ≤ (((k : Nat) : Int)) ∧ (((k : Nat) : Int)) ≤ (8)) (tgt := 71) dX5_phrase_62 (by decide) (fun h_4 => ?_) (fun h_4 => ?_)
            · skip
              refine r_aload_n C (k := 0) dX5_phrase_71 rfl ?_
              refine r_getf C 2 (ok_of hG (show kd (3, 0, 0) = _ from rfl) (by decide) (by decide)) (show kd (3, 0, 0) = _ from rfl) (by decide) rfl hinX5 (by decide) (by decide +kernel) rfl rfl dX5_phrase_72 ?_
              refine Wm.top (z' := w (3, 0, 0) (2)) (by simp [st1, cpy]) ?_
              refine r_bipush C dX5_phrase_75 (by decide) ?_
              refine r_icmp_ne C (tgt := 84) dX5_phrase_77 (by decide) (by first | exact hr _ _ | exact hr0 _ _ | exact hrI _ _ | assumption | exact ⟨by omega, by omega⟩) ⟨by decide, by decide⟩ (fun h_5 => ?_) (fun h_5 => ?_)
              · skip
                refine r_iconst C dX5_phrase_84 ?_
                refine r_istore C (i := 4) (lv' := [(4, vI (0)), (0, .ref (adr G (3, 0, 0))), (1, vI (n)), (2, vI (((k : Nat) : Int))), (3, vI (bI ((ph n k).2 = true)))]) dX5_phrase_85 (by decide) rfl ?_
                refine r_iconst C dX5_phrase_87 ?_
                refine r_istore C (i := 5) (lv' := [(5, vI (0)), (4, vI (0)), (0, .ref (adr G (3, 0, 0))), (1, vI (n)), (2, vI (((k : Nat) : Int))), (3, vI (bI ((ph n k).2 = true)))]) dX5_phrase_88 (by decide) rfl ?_
                have loop_90 : ∀ (nf : Nat) (i : Nat), (i ≤ (w (3, 0, 0) 2).toNat) → (w (3, 0, 0) 2).toNat - i < nf → rng (st1 w (3, 0, 0) (0) (0)) → Wm B 6 G A (Qe B G A (some (vI ((if (ph n (phk n ((n).toNat + 1) 0)).2 = true ∧ (2 ≤ ((phk n ((n).toNat + 1) 0 : Nat) : Int) ∧ ((phk n ((n).toNat + 1) 0 : Nat) : Int) ≤ 8) then (if rdp w n (w (3, 0, 0) 2).toNat = true then 0 else w (3, 0, 0) 2) else 0)))) ((if (ph n (phk n ((n).toNat + 1) 0)).2 = true ∧ (2 ≤ ((phk n ((n).toNat + 1) 0 : Nat) : Int) ∧ ((phk n ((n).toNat + 1) 0 : Nat) : Int) ≤ 8) then (if rdp w n (w (3, 0, 0) 2).toNat = true then thn w 2 else rphr w n (phk n ((n).toNat + 1) 0)) else thn w 1)) 0 0) (st1 w (3, 0, 0) (0) (0)) (0) (0) 90 [(0, .ref (adr G (3, 0, 0))), (1, vI (n)), (2, vI (((k : Nat) : Int))), (4, vI (bI (rdp w n i = true))), (5, vI (((i : Nat) : Int)))] [] := by
                  intro n90
                  induction n90 with
                  | zero => intro i hi hm; exact absurd hm (Nat.not_lt_zero _)
                  | succ n90 ih90 =>
                    intro i hi hm hr
                    have hrI := hr
                    refine r_iload C (k := 4) dX5_phrase_90 rfl ?_
                    refine r_aload_n C (k := 0) dX5_phrase_92 rfl ?_
                    refine r_getf C 2 (ok_of hG (show kd (3, 0, 0) = _ from rfl) (by decide) (by decide)) (show kd (3, 0, 0) = _ from rfl) (by decide) rfl hinX5 (by decide) (by decide +kernel) rfl rfl dX5_phrase_93 ?_
                    refine Wm.top (z' := w (3, 0, 0) (2)) (by simp [st1, cpy]) ?_
                    refine r_icmp_ge C (tgt := 126) dX5_phrase_96 (by decide) (by first | exact hr _ _ | exact hr0 _ _ | exact hrI _ _ | assumption | exact ⟨by omega, by omega⟩) (by first | exact hr _ _ | exact hr0 _ _ | exact hrI _ _ | assumption | exact ⟨by omega, by omega⟩) (fun h_6 => ?_) (fun h_6 => ?_)
                    · skip
                      refine r_iload C (k := 3) dX5_phrase_126 rfl ?_
                      refine r_if_eqP C (P := rdp w n i = true) (tgt := 137) dX5_phrase_128 (by decide) (fun h_7 => ?_) (fun h_7 => ?_)
                      · have h8 := rdp_12 (by assumption)
                        refine r_aload_n C (k := 0) dX5_phrase_137 rfl ?_
                        refine r_getf C 8 (v := .ref (adr G (3, 0, 6))) (ok_of hG (show kd (3, 0, 0) = _ from rfl) (by decide) (by decide)) (show kd (3, 0, 0) = _ from rfl) (by decide) rfl hinX5 (by decide) (by decide +kernel) rfl rfl dX5_phrase_138 ?_
                        refine r_aload_n C (k := 0) dX5_phrase_141 rfl ?_
                        refine r_getf C 2 (ok_of hG (show kd (3, 0, 0) = _ from rfl) (by decide) (by decide)) (show kd (3, 0, 0) = _ from rfl) (by decide) rfl hinX5 (by decide) (by decide +kernel) rfl rfl dX5_phrase_142 ?_
                        refine Wm.top (z' := w (3, 0, 0) (2)) (by simp [st1, cpy]) ?_
                        refine r_iload_n C (k := 1) dX5_phrase_145 rfl ?_
                        refine r_iast C ((w (3, 0, 0) (2)).toNat) hr (by first | exact hr _ _ | exact hr0 _ _ | exact hrI _ _ | assumption | exact ⟨by omega, by omega⟩) (ok_of hG (show kd (3, 0, 6) = _ from rfl) (by decide) (by decide)) (show kd (3, 0, 6) = _ from rfl) (Int.toNat_of_nonneg (by first | omega | assumption)).symm (by first | omega | assumption) (by decide) dX5_phrase_146 (fun hr => ?_)
                        refine r_aload_n C (k := 0) dX5_phrase_147 rfl ?_
                        refine r_getf C 9 (v := .ref (adr G (3, 0, 7))) (ok_of hG (show kd (3, 0, 0) = _ from rfl) (by decide) (by decide)) (show kd (3, 0, 0) = _ from rfl) (by decide) rfl hinX5 (by decide) (by decide +kernel) rfl rfl dX5_phrase_148 ?_
                        refine r_aload_n C (k := 0) dX5_phrase_151 rfl ?_
                        refine r_getf C 2 (ok_of hG (show kd (3, 0, 0) = _ from rfl) (by decide) (by decide)) (show kd (3, 0, 0) = _ from rfl) (by decide) rfl hinX5 (by decide) (by decide +kernel) rfl rfl dX5_phrase_152 ?_
                        refine Wm.top (z' := w (3, 0, 0) (2)) (by simp [st1, cpy]) ?_
                        refine r_iload_n C (k := 2) dX5_phrase_155 rfl ?_
                        refine r_iast C ((w (3, 0, 0) (2)).toNat) hr (by first | exact hr _ _ | exact hr0 _ _ | exact hrI _ _ | assumption | exact ⟨by omega, by omega⟩) (ok_of hG (show kd (3, 0, 7) = _ from rfl) (by decide) (by decide)) (show kd (3, 0, 7) = _ from rfl) (Int.toNat_of_nonneg (by first | omega | assumption)).symm (by first | omega | assumption) (by decide) dX5_phrase_156 (fun hr => ?_)
                        refine r_aload_n C (k := 0) dX5_phrase_157 rfl ?_
                        refine r_dup C dX5_phrase_158 rfl ?_
                        refine r_getf C 2 (ok_of hG (show kd (3, 0, 0) = _ from rfl) (by decide) (by decide)) (show kd (3, 0, 0) = _ from rfl) (by decide) rfl hinX5 (by decide) (by decide +kernel) rfl rfl dX5_phrase_159 ?_
                        refine Wm.top (z' := w (3, 0, 0) (2)) (by simp [st1, cpy]) ?_
                        refine r_iconst C dX5_phrase_162 ?_
                        refine r_iadd C dX5_phrase_163 ?_
                        refine r_putf C 2 hr (by first | exact hr _ _ | exact hr0 _ _ | exact hrI _ _ | assumption | exact ⟨by omega, by omega⟩) (ok_of hG (show kd (3, 0, 0) = _ from rfl) (by decide) (by decide)) (show kd (3, 0, 0) = _ from rfl) (by decide) rfl hinX5 tyX5_ok nmX5 (by decide) (by decide +kernel) rfl rfl (ty := .int) (by decide +kernel) rfl rfl rfl (Nat.le_of_ble_eq_true rfl) dX5_phrase_164 (fun hr => ?_)
                        refine r_aload_n C (k := 0) dX5_phrase_167 rfl ?_
                        refine r_getf C 2 (ok_of hG (show kd (3, 0, 0) = _ from rfl) (by decide) (by decide)) (show kd (3, 0, 0) = _ from rfl) (by decide) rfl hinX5 (by decide) (by decide +kernel) rfl rfl dX5_phrase_168 ?_
                        refine Wm.top (z' := (w (3, 0, 0) (2) + 1)) (by simp [st1, cpy]) ?_
                        refine r_iconst C dX5_phrase_171 ?_
                        refine r_isub C dX5_phrase_172 ?_
                        exact r_iret C dX5_phrase_173 (by (have e9 := hq.symm.trans (phk_e hk (by omega))); rw [e9]; (obtain rfl : i = (w (3, 0, 0) 2).toNat := (by omega)); rw [if_pos ⟨by assumption, ⟨by omega, by omega⟩⟩, if_neg (by assumption)]; exact congrArg (fun z => some (vI z)) (by omega)) (by (have e9 := hq.symm.trans (phk_e hk (by omega))); rw [e9]; (obtain rfl : i = (w (3, 0, 0) 2).toNat := (by omega)); rw [if_pos ⟨by assumption, ⟨by omega, by omega⟩⟩, if_neg (by assumption)]; rfl)
                      · skip
                        refine r_aload_n C (k := 0) dX5_phrase_131 rfl ?_
                        refine r_iconst C dX5_phrase_132 ?_
                        refine r_callV C (w' := (st1 (st1 w (3, 0, 0) (0) (0)) (3, 0, 0) 0 (2))) [vI (2)] 1 (c_X5_no hG (by first | assumption | omega | exact hr _ _ | exact hr0 _ _ | exact hrI _ _ | exact ⟨by omega, by omega⟩ | exact bI_inR _ | (simp [st1] <;> omega) | exact rowR.so (by assumption) (by simp))) gX5_phrase_X5_no rfl rfl rfl (by decide +kernel) (Nat.le_of_ble_eq_true rfl) (Nat.le_of_ble_eq_true rfl) ⟨(Nat.zero_le _), (Nat.zero_le _)⟩ (ok_of hG (show kd (3, 0, 0) = _ from rfl) (by decide) (by decide)) (show kd (3, 0, 0) = _ from rfl) (by decide) rfl rfl rfl (Nat.le_of_ble_eq_true rfl) (st' := [vI ((0))]) rfl dX5_phrase_133 (fun hr => ?_)
                        exact r_iret C dX5_phrase_136 (by (have e9 := hq.symm.trans (phk_e hk (by omega))); rw [e9]; (obtain rfl : i = (w (3, 0, 0) 2).toNat := (by omega)); rw [if_pos ⟨by assumption, ⟨by omega, by omega⟩⟩, if_pos (by assumption)]) (by (have e9 := hq.symm.trans (phk_e hk (by omega))); rw [e9]; (obtain rfl : i = (w (3, 0, 0) 2).toNat := (by omega)); rw [if_pos ⟨by assumption, ⟨by omega, by omega⟩⟩, if_pos (by assumption)]; rfl)
                    · skip
                      refine r_iload C (k := 3) dX5_phrase_99 rfl ?_
                      refine r_aload_n C (k := 0) dX5_phrase_101 rfl ?_
                      refine r_getf C 8 (v := .ref (adr G (3, 0, 6))) (ok_of hG (show kd (3, 0, 0) = _ from rfl) (by decide) (by decide)) (show kd (3, 0, 0) = _ from rfl) (by decide) rfl hinX5 (by decide) (by decide +kernel) rfl rfl dX5_phrase_102 ?_
                      refine r_iload C (k := 4) dX5_phrase_105 rfl ?_
                      refine r_iald C (i) (ok_of hG (show kd (3, 0, 6) = _ from rfl) (by decide) (by decide)) (show kd (3, 0, 6) = _ from rfl) rfl (by first | omega | assumption) (by decide) dX5_phrase_107 ?_
                      refine Wm.top (z' := w (3, 0, 6) (i)) (by simp [st1, cpy]) ?_
                      refine r_iload_n C (k := 1) dX5_phrase_108 rfl ?_
                      refine r_icmp_ne C (tgt := 116) dX5_phrase_109 (by decide) (by first | exact hr _ _ | exact hr0 _ _ | exact hrI _ _ | assumption | exact ⟨by omega, by omega⟩) (by first | exact hr _ _ | exact hr0 _ _ | exact hrI _ _ | assumption | exact ⟨by omega, by omega⟩) (fun h_8 => ?_) (fun h_8 => ?_)
                      · skip
                        refine r_iconst C dX5_phrase_116 ?_
                        refine r_ior0 C (w (3, 0, 6) i = n) (by assumption) dX5_phrase_117 ?_
                        refine r_istore C (i := 4) (lv' := [(4, vI (bI (rdp w n i = true ∨ (w (3, 0, 6) i = n)))), (0, .ref (adr G (3, 0, 0))), (1, vI (n)), (2, vI (((k : Nat) : Int))), (5, vI (((i : Nat) : Int)))]) dX5_phrase_118 (by decide) rfl ?_
                        refine r_iinc C (k := 4) (lv' := [(5, vI (((i + 1 : Nat) : Int))), (4, vI (bI (rdp w n i = true ∨ (w (3, 0, 6) i = n)))), (0, .ref (adr G (3, 0, 0))), (1, vI (n)), (2, vI (((k : Nat) : Int)))]) dX5_phrase_120 rfl (by decide) rfl ?_
                        refine r_goto C (tgt := 90) dX5_phrase_123 (by decide) ?_
                        have e_9 : (st1 w (3, 0, 0) (0) (0)) = (st1 w (3, 0, 0) (0) (0)) := by rfl
                        refine Wm.sub (lv' := [(0, .ref (adr G (3, 0, 0))), (1, vI (n)), (2, vI (((k : Nat) : Int))), (4, vI (bI (rdp w n i = true ∨ (w (3, 0, 6) i = n)))), (5, vI (((i + 1 : Nat) : Int)))]) [2, 3, 4, 1, 0] rfl ?_
                        refine Wm.mem (lv' := [(0, .ref (adr G (3, 0, 0))), (1, vI (n)), (2, vI (((k : Nat) : Int))), (4, vI (bI (rdp w n (i + 1) = true))), (5, vI ((((i + 1) : Nat) : Int)))]) e_9 (by (rw [rdp_s])) ?_
                        exact ih90 ((i + 1)) (by omega) (by omega) (e_9 ▸ hr)
                      · skip
                        refine r_iconst C dX5_phrase_112 ?_
                        refine r_goto C (tgt := 117) dX5_phrase_113 (by decide) ?_
                        refine r_ior1 C (w (3, 0, 6) i = n) (by assumption) dX5_phrase_117 ?_
                        refine r_istore C (i := 4) (lv' := [(4, vI (bI (rdp w n i = true ∨ (w (3, 0, 6) i = n)))), (0, .ref (adr G (3, 0, 0))), (1, vI (n)), (2, vI (((k : Nat) : Int))), (5, vI (((i : Nat) : Int)))]) dX5_phrase_118 (by decide) rfl ?_
                        refine r_iinc C (k := 4) (lv' := [(5, vI (((i + 1 : Nat) : Int))), (4, vI (bI (rdp w n i = true ∨ (w (3, 0, 6) i = n)))), (0, .ref (adr G (3, 0, 0))), (1, vI (n)), (2, vI (((k : Nat) : Int)))]) dX5_phrase_120 rfl (by decide) rfl ?_
                        refine r_goto C (tgt := 90) dX5_phrase_123 (by decide) ?_
                        have e_10 : (st1 w (3, 0, 0) (0) (0)) = (st1 w (3, 0, 0) (0) (0)) := by rfl
                        refine Wm.sub (lv' := [(0, .ref (adr G (3, 0, 0))), (1, vI (n)), (2, vI (((k : Nat) : Int))), (4, vI (bI (rdp w n i = true ∨ (w (3, 0, 6) i = n)))), (5, vI (((i + 1 : Nat) : Int)))]) [2, 3, 4, 1, 0] rfl ?_
                        refine Wm.mem (lv' := [(0, .ref (adr G (3, 0, 0))), (1, vI (n)), (2, vI (((k : Nat) : Int))), (4, vI (bI (rdp w n (i + 1) = true))), (5, vI ((((i + 1) : Nat) : Int)))]) e_10 (by (rw [rdp_s])) ?_
                        exact ih90 ((i + 1)) (by omega) (by omega) (e_10 ▸ hr)
                have e_11 : (st1 w (3, 0, 0) (0) (0)) = (st1 w (3, 0, 0) (0) (0)) := by rfl
                refine Wm.sub (lv' := [(0, .ref (adr G (3, 0, 0))), (1, vI (n)), (2, vI (((k : Nat) : Int))), (4, vI (0)), (5, vI (0))]) [2, 3, 4, 1, 0] rfl ?_
                refine Wm.mem (lv' := [(0, .ref (adr G (3, 0, 0))), (1, vI (n)), (2, vI (((k : Nat) : Int))), (4, vI (bI (rdp w n 0 = true))), (5, vI (((0 : Nat) : Int)))]) e_11 (by (rw [rdp_z]; first | (rw [bI_t (by assumption)]; rfl) | (rw [bI_f (by assumption)]; rfl))) ?_
                exact loop_90 _ (0) (by omega) (Nat.lt_succ_self _) (e_11 ▸ hr)
              · skip
                refine r_iconst C dX5_phrase_80 ?_
                refine r_goto C (tgt := 85) dX5_phrase_81 (by decide) ?_
                refine r_istore C (i := 4) (lv' := [(4, vI (1)), (0, .ref (adr G (3, 0, 0))), (1, vI (n)), (2, vI (((k : Nat) : Int))), (3, vI (bI ((ph n k).2 = true)))]) dX5_phrase_85 (by decide) rfl ?_
                refine r_iconst C dX5_phrase_87 ?_
                refine r_istore C (i := 5) (lv' := [(5, vI (0)), (4, vI (1)), (0, .ref (adr G (3, 0, 0))), (1, vI (n)), (2, vI (((k : Nat) : Int))), (3, vI (bI ((ph n k).2 = true)))]) dX5_phrase_88 (by decide) rfl ?_
                have loop_90 : ∀ (nf : Nat) (i : Nat), (i ≤ (w (3, 0, 0) 2).toNat) → (w (3, 0, 0) 2).toNat - i < nf → rng (st1 w (3, 0, 0) (0) (0)) → Wm B 6 G A (Qe B G A (some (vI ((if (ph n (phk n ((n).toNat + 1) 0)).2 = true ∧ (2 ≤ ((phk n ((n).toNat + 1) 0 : Nat) : Int) ∧ ((phk n ((n).toNat + 1) 0 : Nat) : Int) ≤ 8) then (if rdp w n (w (3, 0, 0) 2).toNat = true then 0 else w (3, 0, 0) 2) else 0)))) ((if (ph n (phk n ((n).toNat + 1) 0)).2 = true ∧ (2 ≤ ((phk n ((n).toNat + 1) 0 : Nat) : Int) ∧ ((phk n ((n).toNat + 1) 0 : Nat) : Int) ≤ 8) then (if rdp w n (w (3, 0, 0) 2).toNat = true then thn w 2 else rphr w n (phk n ((n).toNat + 1) 0)) else thn w 1)) 0 0) (st1 w (3, 0, 0) (0) (0)) (0) (0) 90 [(0, .ref (adr G (3, 0, 0))), (1, vI (n)), (2, vI (((k : Nat) : Int))), (4, vI (bI (rdp w n i = true))), (5, vI (((i : Nat) : Int)))] [] := by
                  intro n90
                  induction n90 with
                  | zero => intro i hi hm; exact absurd hm (Nat.not_lt_zero _)
                  | succ n90 ih90 =>
                    intro i hi hm hr
                    have hrI := hr
                    refine r_iload C (k := 4) dX5_phrase_90 rfl ?_
                    refine r_aload_n C (k := 0) dX5_phrase_92 rfl ?_
                    refine r_getf C 2 (ok_of hG (show kd (3, 0, 0) = _ from rfl) (by decide) (by decide)) (show kd (3, 0, 0) = _ from rfl) (by decide) rfl hinX5 (by decide) (by decide +kernel) rfl rfl dX5_phrase_93 ?_
                    refine Wm.top (z' := w (3, 0, 0) (2)) (by simp [st1, cpy]) ?_
                    refine r_icmp_ge C (tgt := 126) dX5_phrase_96 (by decide) (by first | exact hr _ _ | exact hr0 _ _ | exact hrI _ _ | assumption | exact ⟨by omega, by omega⟩) (by first | exact hr _ _ | exact hr0 _ _ | exact hrI _ _ | assumption | exact ⟨by omega, by omega⟩) (fun h_12 => ?_) (fun h_12 => ?_)
                    · skip
                      refine r_iload C (k := 3) dX5_phrase_126 rfl ?_
                      refine r_if_eqP C (P := rdp w n i = true) (tgt := 137) dX5_phrase_128 (by decide) (fun h_13 => ?_) (fun h_13 => ?_)
                      · have h8 := rdp_12 (by assumption)
                        refine r_aload_n C (k := 0) dX5_phrase_137 rfl ?_
                        refine r_getf C 8 (v := .ref (adr G (3, 0, 6))) (ok_of hG (show kd (3, 0, 0) = _ from rfl) (by decide) (by decide)) (show kd (3, 0, 0) = _ from rfl) (by decide) rfl hinX5 (by decide) (by decide +kernel) rfl rfl dX5_phrase_138 ?_
                        refine r_aload_n C (k := 0) dX5_phrase_141 rfl ?_
                        refine r_getf C 2 (ok_of hG (show kd (3, 0, 0) = _ from rfl) (by decide) (by decide)) (show kd (3, 0, 0) = _ from rfl) (by decide) rfl hinX5 (by decide) (by decide +kernel) rfl rfl dX5_phrase_142 ?_
                        refine Wm.top (z' := w (3, 0, 0) (2)) (by simp [st1, cpy]) ?_
                        refine r_iload_n C (k := 1) dX5_phrase_145 rfl ?_
                        refine r_iast C ((w (3, 0, 0) (2)).toNat) hr (by first | exact hr _ _ | exact hr0 _ _ | exact hrI _ _ | assumption | exact ⟨by omega, by omega⟩) (ok_of hG (show kd (3, 0, 6) = _ from rfl) (by decide) (by decide)) (show kd (3, 0, 6) = _ from rfl) (Int.toNat_of_nonneg (by first | omega | assumption)).symm (by first | omega | assumption) (by decide) dX5_phrase_146 (fun hr => ?_)
                        refine r_aload_n C (k := 0) dX5_phrase_147 rfl ?_
                        refine r_getf C 9 (v := .ref (adr G (3, 0, 7))) (ok_of hG (show kd (3, 0, 0) = _ from rfl) (by decide) (by decide)) (show kd (3, 0, 0) = _ from rfl) (by decide) rfl hinX5 (by decide) (by decide +kernel) rfl rfl dX5_phrase_148 ?_
                        refine r_aload_n C (k := 0) dX5_phrase_151 rfl ?_
                        refine r_getf C 2 (ok_of hG (show kd (3, 0, 0) = _ from rfl) (by decide) (by decide)) (show kd (3, 0, 0) = _ from rfl) (by decide) rfl hinX5 (by decide) (by decide +kernel) rfl rfl dX5_phrase_152 ?_
                        refine Wm.top (z' := w (3, 0, 0) (2)) (by simp [st1, cpy]) ?_
                        refine r_iload_n C (k := 2) dX5_phrase_155 rfl ?_
                        refine r_iast C ((w (3, 0, 0) (2)).toNat) hr (by first | exact hr _ _ | exact hr0 _ _ | exact hrI _ _ | assumption | exact ⟨by omega, by omega⟩) (ok_of hG (show kd (3, 0, 7) = _ from rfl) (by decide) (by decide)) (show kd (3, 0, 7) = _ from rfl) (Int.toNat_of_nonneg (by first | omega | assumption)).symm (by first | omega | assumption) (by decide) dX5_phrase_156 (fun hr => ?_)
                        refine r_aload_n C (k := 0) dX5_phrase_157 rfl ?_
                        refine r_dup C dX5_phrase_158 rfl ?_
                        refine r_getf C 2 (ok_of hG (show kd (3, 0, 0) = _ from rfl) (by decide) (by decide)) (show kd (3, 0, 0) = _ from rfl) (by decide) rfl hinX5 (by decide) (by decide +kernel) rfl rfl dX5_phrase_159 ?_
                        refine Wm.top (z' := w (3, 0, 0) (2)) (by simp [st1, cpy]) ?_
                        refine r_iconst C dX5_phrase_162 ?_
                        refine r_iadd C dX5_phrase_163 ?_
                        refine r_putf C 2 hr (by first | exact hr _ _ | exact hr0 _ _ | exact hrI _ _ | assumption | exact ⟨by omega, by omega⟩) (ok_of hG (show kd (3, 0, 0) = _ from rfl) (by decide) (by decide)) (show kd (3, 0, 0) = _ from rfl) (by decide) rfl hinX5 tyX5_ok nmX5 (by decide) (by decide +kernel) rfl rfl (ty := .int) (by decide +kernel) rfl rfl rfl (Nat.le_of_ble_eq_true rfl) dX5_phrase_164 (fun hr => ?_)
                        refine r_aload_n C (k := 0) dX5_phrase_167 rfl ?_
                        refine r_getf C 2 (ok_of hG (show kd (3, 0, 0) = _ from rfl) (by decide) (by decide)) (show kd (3, 0, 0) = _ from rfl) (by decide) rfl hinX5 (by decide) (by decide +kernel) rfl rfl dX5_phrase_168 ?_
                        refine Wm.top (z' := (w (3, 0, 0) (2) + 1)) (by simp [st1, cpy]) ?_
                        refine r_iconst C dX5_phrase_171 ?_
                        refine r_isub C dX5_phrase_172 ?_
                        exact r_iret C dX5_phrase_173 (by (have e9 := hq.symm.trans (phk_e hk (by omega))); rw [e9]; (obtain rfl : i = (w (3, 0, 0) 2).toNat := (by omega)); rw [if_pos ⟨by assumption, ⟨by omega, by omega⟩⟩, if_neg (by assumption)]; exact congrArg (fun z => some (vI z)) (by omega)) (by (have e9 := hq.symm.trans (phk_e hk (by omega))); rw [e9]; (obtain rfl : i = (w (3, 0, 0) 2).toNat := (by omega)); rw [if_pos ⟨by assumption, ⟨by omega, by omega⟩⟩, if_neg (by assumption)]; rfl)
                      · skip
                        refine r_aload_n C (k := 0) dX5_phrase_131 rfl ?_
                        refine r_iconst C dX5_phrase_132 ?_
                        refine r_callV C (w' := (st1 (st1 w (3, 0, 0) (0) (0)) (3, 0, 0) 0 (2))) [vI (2)] 1 (c_X5_no hG (by first | assumption | omega | exact hr _ _ | exact hr0 _ _ | exact hrI _ _ | exact ⟨by omega, by omega⟩ | exact bI_inR _ | (simp [st1] <;> omega) | exact rowR.so (by assumption) (by simp))) gX5_phrase_X5_no rfl rfl rfl (by decide +kernel) (Nat.le_of_ble_eq_true rfl) (Nat.le_of_ble_eq_true rfl) ⟨(Nat.zero_le _), (Nat.zero_le _)⟩ (ok_of hG (show kd (3, 0, 0) = _ from rfl) (by decide) (by decide)) (show kd (3, 0, 0) = _ from rfl) (by decide) rfl rfl rfl (Nat.le_of_ble_eq_true rfl) (st' := [vI ((0))]) rfl dX5_phrase_133 (fun hr => ?_)
                        exact r_iret C dX5_phrase_136 (by (have e9 := hq.symm.trans (phk_e hk (by omega))); rw [e9]; (obtain rfl : i = (w (3, 0, 0) 2).toNat := (by omega)); rw [if_pos ⟨by assumption, ⟨by omega, by omega⟩⟩, if_pos (by assumption)]) (by (have e9 := hq.symm.trans (phk_e hk (by omega))); rw [e9]; (obtain rfl : i = (w (3, 0, 0) 2).toNat := (by omega)); rw [if_pos ⟨by assumption, ⟨by omega, by omega⟩⟩, if_pos (by assumption)]; rfl)
                    · skip
                      refine r_iload C (k := 3) dX5_phrase_99 rfl ?_
                      refine r_aload_n C (k := 0) dX5_phrase_101 rfl ?_
                      refine r_getf C 8 (v := .ref (adr G (3, 0, 6))) (ok_of hG (show kd (3, 0, 0) = _ from rfl) (by decide) (by decide)) (show kd (3, 0, 0) = _ from rfl) (by decide) rfl hinX5 (by decide) (by decide +kernel) rfl rfl dX5_phrase_102 ?_
                      refine r_iload C (k := 4) dX5_phrase_105 rfl ?_
                      refine r_iald C (i) (ok_of hG (show kd (3, 0, 6) = _ from rfl) (by decide) (by decide)) (show kd (3, 0, 6) = _ from rfl) rfl (by first | omega | assumption) (by decide) dX5_phrase_107 ?_
                      refine Wm.top (z' := w (3, 0, 6) (i)) (by simp [st1, cpy]) ?_
                      refine r_iload_n C (k := 1) dX5_phrase_108 rfl ?_
                      refine r_icmp_ne C (tgt := 116) dX5_phrase_109 (by decide) (by first | exact hr _ _ | exact hr0 _ _ | exact hrI _ _ | assumption | exact ⟨by omega, by omega⟩) (by first | exact hr _ _ | exact hr0 _ _ | exact hrI _ _ | assumption | exact ⟨by omega, by omega⟩) (fun h_14 => ?_) (fun h_14 => ?_)
                      · skip
                        refine r_iconst C dX5_phrase_116 ?_
                        refine r_ior0 C (w (3, 0, 6) i = n) (by assumption) dX5_phrase_117 ?_
                        refine r_istore C (i := 4) (lv' := [(4, vI (bI (rdp w n i = true ∨ (w (3, 0, 6) i = n)))), (0, .ref (adr G (3, 0, 0))), (1, vI (n)), (2, vI (((k : Nat) : Int))), (5, vI (((i : Nat) : Int)))]) dX5_phrase_118 (by decide) rfl ?_
                        refine r_iinc C (k := 4) (lv' := [(5, vI (((i + 1 : Nat) : Int))), (4, vI (bI (rdp w n i = true ∨ (w (3, 0, 6) i = n)))), (0, .ref (adr G (3, 0, 0))), (1, vI (n)), (2, vI (((k : Nat) : Int)))]) dX5_phrase_120 rfl (by decide) rfl ?_
                        refine r_goto C (tgt := 90) dX5_phrase_123 (by decide) ?_
                        have e_15 : (st1 w (3, 0, 0) (0) (0)) = (st1 w (3, 0, 0) (0) (0)) := by rfl
                        refine Wm.sub (lv' := [(0, .ref (adr G (3, 0, 0))), (1, vI (n)), (2, vI (((k : Nat) : Int))), (4, vI (bI (rdp w n i = true ∨ (w (3, 0, 6) i = n)))), (5, vI (((i + 1 : Nat) : Int)))]) [2, 3, 4, 1, 0] rfl ?_
                        refine Wm.mem (lv' := [(0, .ref (adr G (3, 0, 0))), (1, vI (n)), (2, vI (((k : Nat) : Int))), (4, vI (bI (rdp w n (i + 1) = true))), (5, vI ((((i + 1) : Nat) : Int)))]) e_15 (by (rw [rdp_s])) ?_
                        exact ih90 ((i + 1)) (by omega) (by omega) (e_15 ▸ hr)
                      · skip
                        refine r_iconst C dX5_phrase_112 ?_
                        refine r_goto C (tgt := 117) dX5_phrase_113 (by decide) ?_
                        refine r_ior1 C (w (3, 0, 6) i = n) (by assumption) dX5_phrase_117 ?_
                        refine r_istore C (i := 4) (lv' := [(4, vI (bI (rdp w n i = true ∨ (w (3, 0, 6) i = n)))), (0, .ref (adr G (3, 0, 0))), (1, vI (n)), (2, vI (((k : Nat) : Int))), (5, vI (((i : Nat) : Int)))]) dX5_phrase_118 (by decide) rfl ?_
                        refine r_iinc C (k := 4) (lv' := [(5, vI (((i + 1 : Nat) : Int))), (4, vI (bI (rdp w n i = true ∨ (w (3, 0, 6) i = n)))), (0, .ref (adr G (3, 0, 0))), (1, vI (n)), (2, vI (((k : Nat) : Int)))]) dX5_phrase_120 rfl (by decide) rfl ?_
                        refine r_goto C (tgt := 90) dX5_phrase_123 (by decide) ?_
                        have e_16 : (st1 w (3, 0, 0) (0) (0)) = (st1 w (3, 0, 0) (0) (0)) := by rfl
                        refine Wm.sub (lv' := [(0, .ref (adr G (3, 0, 0))), (1, vI (n)), (2, vI (((k : Nat) : Int))), (4, vI (bI (rdp w n i = true ∨ (w (3, 0, 6) i = n)))), (5, vI (((i + 1 : Nat) : Int)))]) [2, 3, 4, 1, 0] rfl ?_
                        refine Wm.mem (lv' := [(0, .ref (adr G (3, 0, 0))), (1, vI (n)), (2, vI (((k : Nat) : Int))), (4, vI (bI (rdp w n (i + 1) = true))), (5, vI ((((i + 1) : Nat) : Int)))]) e_16 (by (rw [rdp_s])) ?_
                        exact ih90 ((i + 1)) (by omega) (by omega) (e_16 ▸ hr)
                have e_17 : (st1 w (3, 0, 0) (0) (0)) = (st1 w (3, 0, 0) (0) (0)) := by rfl
                refine Wm.sub (lv' := [(0, .ref (adr G (3, 0, 0))), (1, vI (n)), (2, vI (((k : Nat) : Int))), (4, vI (1)), (5, vI (0))]) [2, 3, 4, 1, 0] rfl ?_
                refine Wm.mem (lv' := [(0, .ref (adr G (3, 0, 0))), (1, vI (n)), (2, vI (((k : Nat) : Int))), (4, vI (bI (rdp w n 0 = true))), (5, vI (((0 : Nat) : Int)))]) e_17 (by (rw [rdp_z]; first | (rw [bI_t (by assumption)]; rfl) | (rw [bI_f (by assumption)]; rfl))) ?_
                exact loop_90 _ (0) (by omega) (Nat.lt_succ_self _) (e_17 ▸ hr)
            · skip
              refine r_aload_n C (k := 0) dX5_phrase_65 rfl ?_
              refine r_iconst C dX5_phrase_66 ?_
              refine r_callV C (w' := (st1 (st1 w (3, 0, 0) (0) (0)) (3, 0, 0) 0 (1))) [vI (1)] 1 (c_X5_no hG (by first | assumption | omega | exact hr _ _ | exact hr0 _ _ | exact hrI _ _ | exact ⟨by omega, by omega⟩ | exact bI_inR _ | (simp [st1] <;> omega) | exact rowR.so (by assumption) (by simp))) gX5_phrase_X5_no rfl rfl rfl (by decide +kernel) (Nat.le_of_ble_eq_true rfl) (Nat.le_of_ble_eq_true rfl) ⟨(Nat.zero_le _), (Nat.zero_le _)⟩ (ok_of hG (show kd (3, 0, 0) = _ from rfl) (by decide) (by decide)) (show kd (3, 0, 0) = _ from rfl) (by decide) rfl rfl rfl (Nat.le_of_ble_eq_true rfl) (st' := [vI ((0))]) rfl dX5_phrase_67 (fun hr => ?_)
              exact r_iret C dX5_phrase_70 (by (have e9 := hq.symm.trans (phk_e hk (by omega))); rw [e9]; rw [if_neg (fun q => by have q1 := q.1; have q2 := q.2; first | contradiction | omega)]) (by (have e9 := hq.symm.trans (phk_e hk (by omega))); rw [e9]; rw [if_neg (fun q => by have q1 := q.1; have q2 := q.2; first | contradiction | omega)]; rfl)
        · skip
          refine r_iinc C (k := 2) (lv' := [(2, vI (((k + 1 : Nat) : Int))), (0, .ref (adr G (3, 0, 0))), (1, vI (n)), (3, vI (bI ((ph n k).2 = true))), (4, vI ((ph n k).1))]) dX5_phrase_25 rfl (by decide) rfl ?_
          refine r_iload_n C (k := 3) dX5_phrase_28 rfl ?_
          refine r_iload C (k := 4) dX5_phrase_29 rfl ?_
          refine r_bipush C dX5_phrase_31 (by decide) ?_
          refine r_irem C dX5_phrase_33 (by first | omega | assumption) (by first | omega | assumption) (by first | omega | assumption) (by first | omega | assumption) ?_
          refine r_iconst C dX5_phrase_34 ?_
          refine r_iconst C dX5_phrase_35 ?_
          refine r_callS C (w' := (st1 w (3, 0, 0) (0) (0))) [vI (((ph n k).1 % 10)), vI (1), vI (2)] 3 (c_X5_isIn hG (by first | assumption | omega | exact hr _ _ | exact hr0 _ _ | exact hrI _ _ | exact ⟨by omega, by omega⟩ | exact bI_inR _ | (simp [st1] <;> omega) | exact rowR.so (by assumption) (by simp)) (by first | assumption | omega | exact hr _ _ | exact hr0 _ _ | exact hrI _ _ | exact ⟨by omega, by omega⟩ | exact bI_inR _ | (simp [st1] <;> omega) | exact rowR.so (by assumption) (by simp)) (by first | assumption | omega | exact hr _ _ | exact hr0 _ _ | exact hrI _ _ | exact ⟨by omega, by omega⟩ | exact bI_inR _ | (simp [st1] <;> omega) | exact rowR.so (by assumption) (by simp))) gX5_phrase_X5_isIn rfl rfl rfl (by decide +kernel) (Nat.le_of_ble_eq_true rfl) (Nat.le_of_ble_eq_true rfl) ⟨(Nat.zero_le _), (Nat.zero_le _)⟩ rfl rfl (Nat.le_of_ble_eq_true rfl) (st' := [vI (bI ((1) ≤ (((ph n k).1 % 10)) ∧ (((ph n k).1 % 10)) ≤ (2))), vI (bI ((ph n k).2 = true))]) rfl dX5_phrase_36 (fun hr => ?_)
          refine r_iandP C dX5_phrase_39 ?_
          refine r_istore_n C (i := 3) (lv' := [(3, vI (bI ((ph n k).2 = true ∧ ((1) ≤ (((ph n k).1 % 10)) ∧ (((ph n k).1 % 10)) ≤ (2))))), (2, vI (((k + 1 : Nat) : Int))), (0, .ref (adr G (3, 0, 0))), (1, vI (n)), (4, vI ((ph n k).1))]) dX5_phrase_40 rfl (by decide) rfl ?_
          refine r_iload C (k := 4) dX5_phrase_41 rfl ?_
          refine r_bipush C dX5_phrase_43 (by decide) ?_
          refine r_idiv C dX5_phrase_45 (by first | omega | assumption) (by first | omega | assumption) (by first | omega | assumption) (by first | omega | assumption) ?_
          refine r_istore C (i := 4) (lv' := [(4, vI (((ph n k).1 / 10))), (3, vI (bI ((ph n k).2 = true ∧ ((1) ≤ (((ph n k).1 % 10)) ∧ (((ph n k).1 % 10)) ≤ (2))))), (2, vI (((k + 1 : Nat) : Int))), (0, .ref (adr G (3, 0, 0))), (1, vI (n))]) dX5_phrase_46 (by decide) rfl ?_
          refine r_goto C (tgt := 20) dX5_phrase_48 (by decide) ?_
          have e_18 : (st1 w (3, 0, 0) (0) (0)) = (st1 w (3, 0, 0) (0) (0)) := by rfl
          refine Wm.sub (lv' := [(0, .ref (adr G (3, 0, 0))), (1, vI (n)), (2, vI (((k + 1 : Nat) : Int))), (3, vI (bI ((ph n k).2 = true ∧ ((1) ≤ (((ph n k).1 % 10)) ∧ (((ph n k).1 % 10)) ≤ (2))))), (4, vI (((ph n k).1 / 10)))]) [3, 4, 2, 1, 0] rfl ?_
          refine Wm.mem (lv' := [(0, .ref (adr G (3, 0, 0))), (1, vI (n)), (2, vI ((((k + 1) : Nat) : Int))), (3, vI (bI ((ph n (k + 1)).2 = true))), (4, vI ((ph n (k + 1)).1))]) e_18 (by (rw [ph_s]; rfl)) ?_
          exact ih20 ((k + 1)) (by (show ((ph n k).1 / 10).toNat + (k + 1) ≤ _); omega) (by (show inR ((ph n k).1 / 10)); (have hR := hR); exact ⟨by have := hR.1; omega, by have := hR.2; omega⟩) (by rw [← hq]; exact (phk_n hk (by omega)).symm) (by omega) (e_18 ▸ hr)
    have e_19 : (st1 w (3, 0, 0) (0) (0)) = (st1 w (3, 0, 0) (0) (0)) := by rfl
    refine Wm.sub (lv' := [(0, .ref (adr G (3, 0, 0))), (1, vI (n)), (2, vI (0)), (3, vI (0)), (4, vI (n))]) [3, 4, 2, 1, 0] rfl ?_
    refine Wm.mem (lv' := [(0, .ref (adr G (3, 0, 0))), (1, vI (n)), (2, vI (((0 : Nat) : Int))), (3, vI (bI ((ph n 0).2 = true))), (4, vI ((ph n 0).1))]) e_19 (by (first | (rw [show bI ((ph n 0).2 = true) = 1 from bI_t (by simp [ph]; omega)]; rfl) | (rw [show bI ((ph n 0).2 = true) = 0 from bI_f (by simp [ph]; omega)]; rfl))) ?_
    exact loop_20 _ (0) (by simp [ph]) (by exact hn) (by rfl) (Nat.lt_succ_self _) (e_19 ▸ hr)
  · skip
    refine r_iconst C dX5_phrase_11 ?_
    refine r_goto C (tgt := 16) dX5_phrase_12 (by decide) ?_
    refine r_istore_n C (i := 3) (lv' := [(3, vI (1)), (2, vI (0)), (0, .ref (adr G (3, 0, 0))), (1, vI (n))]) dX5_phrase_16 rfl (by decide) rfl ?_
    refine r_iload_n C (k := 3) dX5_phrase_17 rfl ?_
    refine r_istore C (i := 4) (lv' := [(4, vI (n)), (3, vI (1)), (2, vI (0)), (0, .ref (adr G (3, 0, 0))), (1, vI (n))]) dX5_phrase_18 (by decide) rfl ?_
    have loop_20 : ∀ (nf : Nat) (k : Nat), ((ph n k).1.toNat + k ≤ (n).toNat) → (inR (ph n k).1) → (phk n ((n).toNat + 1 - k) k = phk n ((n).toNat + 1) 0) → (ph n k).1.toNat < nf → rng (st1 w (3, 0, 0) (0) (0)) → Wm B 6 G A (Qe B G A (some (vI ((if (ph n (phk n ((n).toNat + 1) 0)).2 = true ∧ (2 ≤ ((phk n ((n).toNat + 1) 0 : Nat) : Int) ∧ ((phk n ((n).toNat + 1) 0 : Nat) : Int) ≤ 8) then (if rdp w n (w (3, 0, 0) 2).toNat = true then 0 else w (3, 0, 0) 2) else 0)))) ((if (ph n (phk n ((n).toNat + 1) 0)).2 = true ∧ (2 ≤ ((phk n ((n).toNat + 1) 0 : Nat) : Int) ∧ ((phk n ((n).toNat + 1) 0 : Nat) : Int) ≤ 8) then (if rdp w n (w (3, 0, 0) 2).toNat = true then thn w 2 else rphr w n (phk n ((n).toNat + 1) 0)) else thn w 1)) 0 0) (st1 w (3, 0, 0) (0) (0)) (0) (0) 20 [(0, .ref (adr G (3, 0, 0))), (1, vI (n)), (2, vI (((k : Nat) : Int))), (3, vI (bI ((ph n k).2 = true))), (4, vI ((ph n k).1))] [] := by
      intro n20
      induction n20 with
      | zero => intro k hk hR hq hm; exact absurd hm (Nat.not_lt_zero _)
      | succ n20 ih20 =>
        intro k hk hR hq hm hr
        have hrI := hr
        have hR1 : -2147483648 ≤ (ph n k).1 := hR.1
        have hR2 : (ph n k).1 < 2147483648 := hR.2
        have hn2 : n < 2147483648 := hn.2
        have e10 : (ph n (k + 1)).1 = (ph n k).1 / 10 := rfl
        refine r_iload C (k := 4) dX5_phrase_20 rfl ?_
        refine r_if_le C (tgt := 51) dX5_phrase_22 (by decide) (by first | exact hr _ _ | exact hr0 _ _ | exact hrI _ _ | assumption | exact ⟨by omega, by omega⟩) (fun h_20 => ?_) (fun h_20 => ?_)
        · skip
          refine r_iload_n C (k := 3) dX5_phrase_51 rfl ?_
          refine r_if_eqP C (P := (ph n k).2 = true) (tgt := 65) dX5_phrase_52 (by decide) (fun h_21 => ?_) (fun h_21 => ?_)
          · skip
            refine r_aload_n C (k := 0) dX5_phrase_65 rfl ?_
            refine r_iconst C dX5_phrase_66 ?_
            refine r_callV C (w' := (st1 (st1 w (3, 0, 0) (0) (0)) (3, 0, 0) 0 (1))) [vI (1)] 1 (c_X5_no hG (by first | assumption | omega | exact hr _ _ | exact hr0 _ _ | exact hrI _ _ | exact ⟨by omega, by omega⟩ | exact bI_inR _ | (simp [st1] <;> omega) | exact rowR.so (by assumption) (by simp))) gX5_phrase_X5_no rfl rfl rfl (by decide +kernel) (Nat.le_of_ble_eq_true rfl) (Nat.le_of_ble_eq_true rfl) ⟨(Nat.zero_le _), (Nat.zero_le _)⟩ (ok_of hG (show kd (3, 0, 0) = _ from rfl) (by decide) (by decide)) (show kd (3, 0, 0) = _ from rfl) (by decide) rfl rfl rfl (Nat.le_of_ble_eq_true rfl) (st' := [vI ((0))]) rfl dX5_phrase_67 (fun hr => ?_)
            exact r_iret C dX5_phrase_70 (by (have e9 := hq.symm.trans (phk_e hk (by omega))); rw [e9]; rw [if_neg (fun q => by have q1 := q.1; have q2 := q.2; first | contradiction | omega)]) (by (have e9 := hq.symm.trans (phk_e hk (by omega))); rw [e9]; rw [if_neg (fun q => by have q1 := q.1; have q2 := q.2; first | contradiction | omega)]; rfl)
          · skip
            refine r_iload_n C (k := 2) dX5_phrase_55 rfl ?_
            refine r_iconst C dX5_phrase_56 ?_
            refine r_bipush C dX5_phrase_57 (by decide) ?_
            refine r_callS C (w' := (st1 w (3, 0, 0) (0) (0))) [vI (((k : Nat) : Int)), vI (2), vI (8)] 3 (c_X5_isIn hG (by first | assumption | omega | exact hr _ _ | exact hr0 _ _ | exact hrI _ _ | exact ⟨by omega, by omega⟩ | exact bI_inR _ | (simp [st1] <;> omega) | exact rowR.so (by assumption) (by simp)) (by first | assumption | omega | exact hr _ _ | exact hr0 _ _ | exact hrI _ _ | exact ⟨by omega, by omega⟩ | exact bI_inR _ | (simp [st1] <;> omega) | exact rowR.so (by assumption) (by simp)) (by first | assumption | omega | exact hr _ _ | exact hr0 _ _ | exact hrI _ _ | exact ⟨by omega, by omega⟩ | exact bI_inR _ | (simp [st1] <;> omega) | exact rowR.so (by assumption) (by simp))) gX5_phrase_X5_isIn rfl rfl rfl (by decide +kernel) (Nat.le_of_ble_eq_true rfl) (Nat.le_of_ble_eq_true rfl) ⟨(Nat.zero_le _), (Nat.zero_le _)⟩ rfl rfl (Nat.le_of_ble_eq_true rfl) (st' := [vI (bI ((2) ≤ (((k : Nat) : Int)) ∧ (((k : Nat) : Int)) ≤ (8)))]) rfl dX5_phrase_59 (fun hr => ?_)
            refine r_if_neP C (P := (2) ≤ (((k : Nat) : Int)) ∧ (((k : Nat) : Int)) ≤ (8)) (tgt := 71) dX5_phrase_62 (by decide) (fun h_22 => ?_) (fun h_22 => ?_)
            · skip
              refine r_aload_n C (k := 0) dX5_phrase_71 rfl ?_
              refine r_getf C 2 (ok_of hG (show kd (3, 0, 0) = _ from rfl) (by decide) (by decide)) (show kd (3, 0, 0) = _ from rfl) (by decide) rfl hinX5 (by decide) (by decide +kernel) rfl rfl dX5_phrase_72 ?_
              refine Wm.top (z' := w (3, 0, 0) (2)) (by simp [st1, cpy]) ?_
              refine r_bipush C dX5_phrase_75 (by decide) ?_
              refine r_icmp_ne C (tgt := 84) dX5_phrase_77 (by decide) (by first | exact hr _ _ | exact hr0 _ _ | exact hrI _ _ | assumption | exact ⟨by omega, by omega⟩) ⟨by decide, by decide⟩ (fun h_23 => ?_) (fun h_23 => ?_)
              · skip
                refine r_iconst C dX5_phrase_84 ?_
                refine r_istore C (i := 4) (lv' := [(4, vI (0)), (0, .ref (adr G (3, 0, 0))), (1, vI (n)), (2, vI (((k : Nat) : Int))), (3, vI (bI ((ph n k).2 = true)))]) dX5_phrase_85 (by decide) rfl ?_
                refine r_iconst C dX5_phrase_87 ?_
                refine r_istore C (i := 5) (lv' := [(5, vI (0)), (4, vI (0)), (0, .ref (adr G (3, 0, 0))), (1, vI (n)), (2, vI (((k : Nat) : Int))), (3, vI (bI ((ph n k).2 = true)))]) dX5_phrase_88 (by decide) rfl ?_
                have loop_90 : ∀ (nf : Nat) (i : Nat), (i ≤ (w (3, 0, 0) 2).toNat) → (w (3, 0, 0) 2).toNat - i < nf → rng (st1 w (3, 0, 0) (0) (0)) → Wm B 6 G A (Qe B G A (some (vI ((if (ph n (phk n ((n).toNat + 1) 0)).2 = true ∧ (2 ≤ ((phk n ((n).toNat + 1) 0 : Nat) : Int) ∧ ((phk n ((n).toNat + 1) 0 : Nat) : Int) ≤ 8) then (if rdp w n (w (3, 0, 0) 2).toNat = true then 0 else w (3, 0, 0) 2) else 0)))) ((if (ph n (phk n ((n).toNat + 1) 0)).2 = true ∧ (2 ≤ ((phk n ((n).toNat + 1) 0 : Nat) : Int) ∧ ((phk n ((n).toNat + 1) 0 : Nat) : Int) ≤ 8) then (if rdp w n (w (3, 0, 0) 2).toNat = true then thn w 2 else rphr w n (phk n ((n).toNat + 1) 0)) else thn w 1)) 0 0) (st1 w (3, 0, 0) (0) (0)) (0) (0) 90 [(0, .ref (adr G (3, 0, 0))), (1, vI (n)), (2, vI (((k : Nat) : Int))), (4, vI (bI (rdp w n i = true))), (5, vI (((i : Nat) : Int)))] [] := by
                  intro n90
                  induction n90 with
                  | zero => intro i hi hm; exact absurd hm (Nat.not_lt_zero _)
                  | succ n90 ih90 =>
                    intro i hi hm hr
                    have hrI := hr
                    refine r_iload C (k := 4) dX5_phrase_90 rfl ?_
                    refine r_aload_n C (k := 0) dX5_phrase_92 rfl ?_
                    refine r_getf C 2 (ok_of hG (show kd (3, 0, 0) = _ from rfl) (by decide) (by decide)) (show kd (3, 0, 0) = _ from rfl) (by decide) rfl hinX5 (by decide) (by decide +kernel) rfl rfl dX5_phrase_93 ?_
                    refine Wm.top (z' := w (3, 0, 0) (2)) (by simp [st1, cpy]) ?_
                    refine r_icmp_ge C (tgt := 126) dX5_phrase_96 (by decide) (by first | exact hr _ _ | exact hr0 _ _ | exact hrI _ _ | assumption | exact ⟨by omega, by omega⟩) (by first | exact hr _ _ | exact hr0 _ _ | exact hrI _ _ | assumption | exact ⟨by omega, by omega⟩) (fun h_24 => ?_) (fun h_24 => ?_)
                    · skip
                      refine r_iload C (k := 3) dX5_phrase_126 rfl ?_
                      refine r_if_eqP C (P := rdp w n i = true) (tgt := 137) dX5_phrase_128 (by decide) (fun h_25 => ?_) (fun h_25 => ?_)
                      · have h8 := rdp_12 (by assumption)
                        refine r_aload_n C (k := 0) dX5_phrase_137 rfl ?_
                        refine r_getf C 8 (v := .ref (adr G (3, 0, 6))) (ok_of hG (show kd (3, 0, 0) = _ from rfl) (by decide) (by decide)) (show kd (3, 0, 0) = _ from rfl) (by decide) rfl hinX5 (by decide) (by decide +kernel) rfl rfl dX5_phrase_138 ?_
                        refine r_aload_n C (k := 0) dX5_phrase_141 rfl ?_
                        refine r_getf C 2 (ok_of hG (show kd (3, 0, 0) = _ from rfl) (by decide) (by decide)) (show kd (3, 0, 0) = _ from rfl) (by decide) rfl hinX5 (by decide) (by decide +kernel) rfl rfl dX5_phrase_142 ?_
                        refine Wm.top (z' := w (3, 0, 0) (2)) (by simp [st1, cpy]) ?_
                        refine r_iload_n C (k := 1) dX5_phrase_145 rfl ?_
                        refine r_iast C ((w (3, 0, 0) (2)).toNat) hr (by first | exact hr _ _ | exact hr0 _ _ | exact hrI _ _ | assumption | exact ⟨by omega, by omega⟩) (ok_of hG (show kd (3, 0, 6) = _ from rfl) (by decide) (by decide)) (show kd (3, 0, 6) = _ from rfl) (Int.toNat_of_nonneg (by first | omega | assumption)).symm (by first | omega | assumption) (by decide) dX5_phrase_146 (fun hr => ?_)
                        refine r_aload_n C (k := 0) dX5_phrase_147 rfl ?_
                        refine r_getf C 9 (v := .ref (adr G (3, 0, 7))) (ok_of hG (show kd (3, 0, 0) = _ from rfl) (by decide) (by decide)) (show kd (3, 0, 0) = _ from rfl) (by decide) rfl hinX5 (by decide) (by decide +kernel) rfl rfl dX5_phrase_148 ?_
                        refine r_aload_n C (k := 0) dX5_phrase_151 rfl ?_
                        refine r_getf C 2 (ok_of hG (show kd (3, 0, 0) = _ from rfl) (by decide) (by decide)) (show kd (3, 0, 0) = _ from rfl) (by decide) rfl hinX5 (by decide) (by decide +kernel) rfl rfl dX5_phrase_152 ?_
                        refine Wm.top (z' := w (3, 0, 0) (2)) (by simp [st1, cpy]) ?_
                        refine r_iload_n C (k := 2) dX5_phrase_155 rfl ?_
                        refine r_iast C ((w (3, 0, 0) (2)).toNat) hr (by first | exact hr _ _ | exact hr0 _ _ | exact hrI _ _ | assumption | exact ⟨by omega, by omega⟩) (ok_of hG (show kd (3, 0, 7) = _ from rfl) (by decide) (by decide)) (show kd (3, 0, 7) = _ from rfl) (Int.toNat_of_nonneg (by first | omega | assumption)).symm (by first | omega | assumption) (by decide) dX5_phrase_156 (fun hr => ?_)
                        refine r_aload_n C (k := 0) dX5_phrase_157 rfl ?_
                        refine r_dup C dX5_phrase_158 rfl ?_
                        refine r_getf C 2 (ok_of hG (show kd (3, 0, 0) = _ from rfl) (by decide) (by decide)) (show kd (3, 0, 0) = _ from rfl) (by decide) rfl hinX5 (by decide) (by decide +kernel) rfl rfl dX5_phrase_159 ?_
                        refine Wm.top (z' := w (3, 0, 0) (2)) (by simp [st1, cpy]) ?_
                        refine r_iconst C dX5_phrase_162 ?_
                        refine r_iadd C dX5_phrase_163 ?_
                        refine r_putf C 2 hr (by first | exact hr _ _ | exact hr0 _ _ | exact hrI _ _ | assumption | exact ⟨by omega, by omega⟩) (ok_of hG (show kd (3, 0, 0) = _ from rfl) (by decide) (by decide)) (show kd (3, 0, 0) = _ from rfl) (by decide) rfl hinX5 tyX5_ok nmX5 (by decide) (by decide +kernel) rfl rfl (ty := .int) (by decide +kernel) rfl rfl rfl (Nat.le_of_ble_eq_true rfl) dX5_phrase_164 (fun hr => ?_)
                        refine r_aload_n C (k := 0) dX5_phrase_167 rfl ?_
                        refine r_getf C 2 (ok_of hG (show kd (3, 0, 0) = _ from rfl) (by decide) (by decide)) (show kd (3, 0, 0) = _ from rfl) (by decide) rfl hinX5 (by decide) (by decide +kernel) rfl rfl dX5_phrase_168 ?_
                        refine Wm.top (z' := (w (3, 0, 0) (2) + 1)) (by simp [st1, cpy]) ?_
                        refine r_iconst C dX5_phrase_171 ?_
                        refine r_isub C dX5_phrase_172 ?_
                        exact r_iret C dX5_phrase_173 (by (have e9 := hq.symm.trans (phk_e hk (by omega))); rw [e9]; (obtain rfl : i = (w (3, 0, 0) 2).toNat := (by omega)); rw [if_pos ⟨by assumption, ⟨by omega, by omega⟩⟩, if_neg (by assumption)]; exact congrArg (fun z => some (vI z)) (by omega)) (by (have e9 := hq.symm.trans (phk_e hk (by omega))); rw [e9]; (obtain rfl : i = (w (3, 0, 0) 2).toNat := (by omega)); rw [if_pos ⟨by assumption, ⟨by omega, by omega⟩⟩, if_neg (by assumption)]; rfl)
                      · skip
                        refine r_aload_n C (k := 0) dX5_phrase_131 rfl ?_
                        refine r_iconst C dX5_phrase_132 ?_
                        refine r_callV C (w' := (st1 (st1 w (3, 0, 0) (0) (0)) (3, 0, 0) 0 (2))) [vI (2)] 1 (c_X5_no hG (by first | assumption | omega | exact hr _ _ | exact hr0 _ _ | exact hrI _ _ | exact ⟨by omega, by omega⟩ | exact bI_inR _ | (simp [st1] <;> omega) | exact rowR.so (by assumption) (by simp))) gX5_phrase_X5_no rfl rfl rfl (by decide +kernel) (Nat.le_of_ble_eq_true rfl) (Nat.le_of_ble_eq_true rfl) ⟨(Nat.zero_le _), (Nat.zero_le _)⟩ (ok_of hG (show kd (3, 0, 0) = _ from rfl) (by decide) (by decide)) (show kd (3, 0, 0) = _ from rfl) (by decide) rfl rfl rfl (Nat.le_of_ble_eq_true rfl) (st' := [vI ((0))]) rfl dX5_phrase_133 (fun hr => ?_)
                        exact r_iret C dX5_phrase_136 (by (have e9 := hq.symm.trans (phk_e hk (by omega))); rw [e9]; (obtain rfl : i = (w (3, 0, 0) 2).toNat := (by omega)); rw [if_pos ⟨by assumption, ⟨by omega, by omega⟩⟩, if_pos (by assumption)]) (by (have e9 := hq.symm.trans (phk_e hk (by omega))); rw [e9]; (obtain rfl : i = (w (3, 0, 0) 2).toNat := (by omega)); rw [if_pos ⟨by assumption, ⟨by omega, by omega⟩⟩, if_pos (by assumption)]; rfl)
                    · skip
                      refine r_iload C (k := 3) dX5_phrase_99 rfl ?_
                      refine r_aload_n C (k := 0) dX5_phrase_101 rfl ?_
                      refine r_getf C 8 (v := .ref (adr G (3, 0, 6))) (ok_of hG (show kd (3, 0, 0) = _ from rfl) (by decide) (by decide)) (show kd (3, 0, 0) = _ from rfl) (by decide) rfl hinX5 (by decide) (by decide +kernel) rfl rfl dX5_phrase_102 ?_
                      refine r_iload C (k := 4) dX5_phrase_105 rfl ?_
                      refine r_iald C (i) (ok_of hG (show kd (3, 0, 6) = _ from rfl) (by decide) (by decide)) (show kd (3, 0, 6) = _ from rfl) rfl (by first | omega | assumption) (by decide) dX5_phrase_107 ?_
                      refine Wm.top (z' := w (3, 0, 6) (i)) (by simp [st1, cpy]) ?_
                      refine r_iload_n C (k := 1) dX5_phrase_108 rfl ?_
                      refine r_icmp_ne C (tgt := 116) dX5_phrase_109 (by decide) (by first | exact hr _ _ | exact hr0 _ _ | exact hrI _ _ | assumption | exact ⟨by omega, by omega⟩) (by first | exact hr _ _ | exact hr0 _ _ | exact hrI _ _ | assumption | exact ⟨by omega, by omega⟩) (fun h_26 => ?_) (fun h_26 => ?_)
                      · skip
                        refine r_iconst C dX5_phrase_116 ?_
                        refine r_ior0 C (w (3, 0, 6) i = n) (by assumption) dX5_phrase_117 ?_
                        refine r_istore C (i := 4) (lv' := [(4, vI (bI (rdp w n i = true ∨ (w (3, 0, 6) i = n)))), (0, .ref (adr G (3, 0, 0))), (1, vI (n)), (2, vI (((k : Nat) : Int))), (5, vI (((i : Nat) : Int)))]) dX5_phrase_118 (by decide) rfl ?_
                        refine r_iinc C (k := 4) (lv' := [(5, vI (((i + 1 : Nat) : Int))), (4, vI (bI (rdp w n i = true ∨ (w (3, 0, 6) i = n)))), (0, .ref (adr G (3, 0, 0))), (1, vI (n)), (2, vI (((k : Nat) : Int)))]) dX5_phrase_120 rfl (by decide) rfl ?_
                        refine r_goto C (tgt := 90) dX5_phrase_123 (by decide) ?_
                        have e_27 : (st1 w (3, 0, 0) (0) (0)) = (st1 w (3, 0, 0) (0) (0)) := by rfl
                        refine Wm.sub (lv' := [(0, .ref (adr G (3, 0, 0))), (1, vI (n)), (2, vI (((k : Nat) : Int))), (4, vI (bI (rdp w n i = true ∨ (w (3, 0, 6) i = n)))), (5, vI (((i + 1 : Nat) : Int)))]) [2, 3, 4, 1, 0] rfl ?_
                        refine Wm.mem (lv' := [(0, .ref (adr G (3, 0, 0))), (1, vI (n)), (2, vI (((k : Nat) : Int))), (4, vI (bI (rdp w n (i + 1) = true))), (5, vI ((((i + 1) : Nat) : Int)))]) e_27 (by (rw [rdp_s])) ?_
                        exact ih90 ((i + 1)) (by omega) (by omega) (e_27 ▸ hr)
                      · skip
                        refine r_iconst C dX5_phrase_112 ?_
                        refine r_goto C (tgt := 117) dX5_phrase_113 (by decide) ?_
                        refine r_ior1 C (w (3, 0, 6) i = n) (by assumption) dX5_phrase_117 ?_
                        refine r_istore C (i := 4) (lv' := [(4, vI (bI (rdp w n i = true ∨ (w (3, 0, 6) i = n)))), (0, .ref (adr G (3, 0, 0))), (1, vI (n)), (2, vI (((k : Nat) : Int))), (5, vI (((i : Nat) : Int)))]) dX5_phrase_118 (by decide) rfl ?_
                        refine r_iinc C (k := 4) (lv' := [(5, vI (((i + 1 : Nat) : Int))), (4, vI (bI (rdp w n i = true ∨ (w (3, 0, 6) i = n)))), (0, .ref (adr G (3, 0, 0))), (1, vI (n)), (2, vI (((k : Nat) : Int)))]) dX5_phrase_120 rfl (by decide) rfl ?_
                        refine r_goto C (tgt := 90) dX5_phrase_123 (by decide) ?_
                        have e_28 : (st1 w (3, 0, 0) (0) (0)) = (st1 w (3, 0, 0) (0) (0)) := by rfl
                        refine Wm.sub (lv' := [(0, .ref (adr G (3, 0, 0))), (1, vI (n)), (2, vI (((k : Nat) : Int))), (4, vI (bI (rdp w n i = true ∨ (w (3, 0, 6) i = n)))), (5, vI (((i + 1 : Nat) : Int)))]) [2, 3, 4, 1, 0] rfl ?_
                        refine Wm.mem (lv' := [(0, .ref (adr G (3, 0, 0))), (1, vI (n)), (2, vI (((k : Nat) : Int))), (4, vI (bI (rdp w n (i + 1) = true))), (5, vI ((((i + 1) : Nat) : Int)))]) e_28 (by (rw [rdp_s])) ?_
                        exact ih90 ((i + 1)) (by omega) (by omega) (e_28 ▸ hr)
                have e_29 : (st1 w (3, 0, 0) (0) (0)) = (st1 w (3, 0, 0) (0) (0)) := by rfl
                refine Wm.sub (lv' := [(0, .ref (adr G (3, 0, 0))), (1, vI (n)), (2, vI (((k : Nat) : Int))), (4, vI (0)), (5, vI (0))]) [2, 3, 4, 1, 0] rfl ?_
                refine Wm.mem (lv' := [(0, .ref (adr G (3, 0, 0))), (1, vI (n)), (2, vI (((k : Nat) : Int))), (4, vI (bI (rdp w n 0 = true))), (5, vI (((0 : Nat) : Int)))]) e_29 (by (rw [rdp_z]; first | (rw [bI_t (by assumption)]; rfl) | (rw [bI_f (by assumption)]; rfl))) ?_
                exact loop_90 _ (0) (by omega) (Nat.lt_succ_self _) (e_29 ▸ hr)
              · skip
                refine r_iconst C dX5_phrase_80 ?_
                refine r_goto C (tgt := 85) dX5_phrase_81 (by decide) ?_
                refine r_istore C (i := 4) (lv' := [(4, vI (1)), (0, .ref (adr G (3, 0, 0))), (1, vI (n)), (2, vI (((k : Nat) : Int))), (3, vI (bI ((ph n k).2 = true)))]) dX5_phrase_85 (by decide) rfl ?_
                refine r_iconst C dX5_phrase_87 ?_
                refine r_istore C (i := 5) (lv' := [(5, vI (0)), (4, vI (1)), (0, .ref (adr G (3, 0, 0))), (1, vI (n)), (2, vI (((k : Nat) : Int))), (3, vI (bI ((ph n k).2 = true)))]) dX5_phrase_88 (by decide) rfl ?_
                have loop_90 : ∀ (nf : Nat) (i : Nat), (i ≤ (w (3, 0, 0) 2).toNat) → (w (3, 0, 0) 2).toNat - i < nf → rng (st1 w (3, 0, 0) (0) (0)) → Wm B 6 G A (Qe B G A (some (vI ((if (ph n (phk n ((n).toNat + 1) 0)).2 = true ∧ (2 ≤ ((phk n ((n).toNat + 1) 0 : Nat) : Int) ∧ ((phk n ((n).toNat + 1) 0 : Nat) : Int) ≤ 8) then (if rdp w n (w (3, 0, 0) 2).toNat = true then 0 else w (3, 0, 0) 2) else 0)))) ((if (ph n (phk n ((n).toNat + 1) 0)).2 = true ∧ (2 ≤ ((phk n ((n).toNat + 1) 0 : Nat) : Int) ∧ ((phk n ((n).toNat + 1) 0 : Nat) : Int) ≤ 8) then (if rdp w n (w (3, 0, 0) 2).toNat = true then thn w 2 else rphr w n (phk n ((n).toNat + 1) 0)) else thn w 1)) 0 0) (st1 w (3, 0, 0) (0) (0)) (0) (0) 90 [(0, .ref (adr G (3, 0, 0))), (1, vI (n)), (2, vI (((k : Nat) : Int))), (4, vI (bI (rdp w n i = true))), (5, vI (((i : Nat) : Int)))] [] := by
                  intro n90
                  induction n90 with
                  | zero => intro i hi hm; exact absurd hm (Nat.not_lt_zero _)
                  | succ n90 ih90 =>
                    intro i hi hm hr
                    have hrI := hr
                    refine r_iload C (k := 4) dX5_phrase_90 rfl ?_
                    refine r_aload_n C (k := 0) dX5_phrase_92 rfl ?_
                    refine r_getf C 2 (ok_of hG (show kd (3, 0, 0) = _ from rfl) (by decide) (by decide)) (show kd (3, 0, 0) = _ from rfl) (by decide) rfl hinX5 (by decide) (by decide +kernel) rfl rfl dX5_phrase_93 ?_
                    refine Wm.top (z' := w (3, 0, 0) (2)) (by simp [st1, cpy]) ?_
                    refine r_icmp_ge C (tgt := 126) dX5_phrase_96 (by decide) (by first | exact hr _ _ | exact hr0 _ _ | exact hrI _ _ | assumption | exact ⟨by omega, by omega⟩) (by first | exact hr _ _ | exact hr0 _ _ | exact hrI _ _ | assumption | exact ⟨by omega, by omega⟩) (fun h_30 => ?_) (fun h_30 => ?_)
                    · skip
                      refine r_iload C (k := 3) dX5_phrase_126 rfl ?_
                      refine r_if_eqP C (P := rdp w n i = true) (tgt := 137) dX5_phrase_128 (by decide) (fun h_31 => ?_) (fun h_31 => ?_)
                      · have h8 := rdp_12 (by assumption)
                        refine r_aload_n C (k := 0) dX5_phrase_137 rfl ?_
                        refine r_getf C 8 (v := .ref (adr G (3, 0, 6))) (ok_of hG (show kd (3, 0, 0) = _ from rfl) (by decide) (by decide)) (show kd (3, 0, 0) = _ from rfl) (by decide) rfl hinX5 (by decide) (by decide +kernel) rfl rfl dX5_phrase_138 ?_
                        refine r_aload_n C (k := 0) dX5_phrase_141 rfl ?_
                        refine r_getf C 2 (ok_of hG (show kd (3, 0, 0) = _ from rfl) (by decide) (by decide)) (show kd (3, 0, 0) = _ from rfl) (by decide) rfl hinX5 (by decide) (by decide +kernel) rfl rfl dX5_phrase_142 ?_
                        refine Wm.top (z' := w (3, 0, 0) (2)) (by simp [st1, cpy]) ?_
                        refine r_iload_n C (k := 1) dX5_phrase_145 rfl ?_
                        refine r_iast C ((w (3, 0, 0) (2)).toNat) hr (by first | exact hr _ _ | exact hr0 _ _ | exact hrI _ _ | assumption | exact ⟨by omega, by omega⟩) (ok_of hG (show kd (3, 0, 6) = _ from rfl) (by decide) (by decide)) (show kd (3, 0, 6) = _ from rfl) (Int.toNat_of_nonneg (by first | omega | assumption)).symm (by first | omega | assumption) (by decide) dX5_phrase_146 (fun hr => ?_)
                        refine r_aload_n C (k := 0) dX5_phrase_147 rfl ?_
                        refine r_getf C 9 (v := .ref (adr G (3, 0, 7))) (ok_of hG (show kd (3, 0, 0) = _ from rfl) (by decide) (by decide)) (show kd (3, 0, 0) = _ from rfl) (by decide) rfl hinX5 (by decide) (by decide +kernel) rfl rfl dX5_phrase_148 ?_
                        refine r_aload_n C (k := 0) dX5_phrase_151 rfl ?_
                        refine r_getf C 2 (ok_of hG (show kd (3, 0, 0) = _ from rfl) (by decide) (by decide)) (show kd (3, 0, 0) = _ from rfl) (by decide) rfl hinX5 (by decide) (by decide +kernel) rfl rfl dX5_phrase_152 ?_
                        refine Wm.top (z' := w (3, 0, 0) (2)) (by simp [st1, cpy]) ?_
                        refine r_iload_n C (k := 2) dX5_phrase_155 rfl ?_
                        refine r_iast C ((w (3, 0, 0) (2)).toNat) hr (by first | exact hr _ _ | exact hr0 _ _ | exact hrI _ _ | assumption | exact ⟨by omega, by omega⟩) (ok_of hG (show kd (3, 0, 7) = _ from rfl) (by decide) (by decide)) (show kd (3, 0, 7) = _ from rfl) (Int.toNat_of_nonneg (by first | omega | assumption)).symm (by first | omega | assumption) (by decide) dX5_phrase_156 (fun hr => ?_)
                        refine r_aload_n C (k := 0) dX5_phrase_157 rfl ?_
                        refine r_dup C dX5_phrase_158 rfl ?_
                        refine r_getf C 2 (ok_of hG (show kd (3, 0, 0) = _ from rfl) (by decide) (by decide)) (show kd (3, 0, 0) = _ from rfl) (by decide) rfl hinX5 (by decide) (by decide +kernel) rfl rfl dX5_phrase_159 ?_
                        refine Wm.top (z' := w (3, 0, 0) (2)) (by simp [st1, cpy]) ?_
                        refine r_iconst C dX5_phrase_162 ?_
                        refine r_iadd C dX5_phrase_163 ?_
                        refine r_putf C 2 hr (by first | exact hr _ _ | exact hr0 _ _ | exact hrI _ _ | assumption | exact ⟨by omega, by omega⟩) (ok_of hG (show kd (3, 0, 0) = _ from rfl) (by decide) (by decide)) (show kd (3, 0, 0) = _ from rfl) (by decide) rfl hinX5 tyX5_ok nmX5 (by decide) (by decide +kernel) rfl rfl (ty := .int) (by decide +kernel) rfl rfl rfl (Nat.le_of_ble_eq_true rfl) dX5_phrase_164 (fun hr => ?_)
                        refine r_aload_n C (k := 0) dX5_phrase_167 rfl ?_
                        refine r_getf C 2 (ok_of hG (show kd (3, 0, 0) = _ from rfl) (by decide) (by decide)) (show kd (3, 0, 0) = _ from rfl) (by decide) rfl hinX5 (by decide) (by decide +kernel) rfl rfl dX5_phrase_168 ?_
                        refine Wm.top (z' := (w (3, 0, 0) (2) + 1)) (by simp [st1, cpy]) ?_
                        refine r_iconst C dX5_phrase_171 ?_
                        refine r_isub C dX5_phrase_172 ?_
                        exact r_iret C dX5_phrase_173 (by (have e9 := hq.symm.trans (phk_e hk (by omega))); rw [e9]; (obtain rfl : i = (w (3, 0, 0) 2).toNat := (by omega)); rw [if_pos ⟨by assumption, ⟨by omega, by omega⟩⟩, if_neg (by assumption)]; exact congrArg (fun z => some (vI z)) (by omega)) (by (have e9 := hq.symm.trans (phk_e hk (by omega))); rw [e9]; (obtain rfl : i = (w (3, 0, 0) 2).toNat := (by omega)); rw [if_pos ⟨by assumption, ⟨by omega, by omega⟩⟩, if_neg (by assumption)]; rfl)
                      · skip
                        refine r_aload_n C (k := 0) dX5_phrase_131 rfl ?_
                        refine r_iconst C dX5_phrase_132 ?_
                        refine r_callV C (w' := (st1 (st1 w (3, 0, 0) (0) (0)) (3, 0, 0) 0 (2))) [vI (2)] 1 (c_X5_no hG (by first | assumption | omega | exact hr _ _ | exact hr0 _ _ | exact hrI _ _ | exact ⟨by omega, by omega⟩ | exact bI_inR _ | (simp [st1] <;> omega) | exact rowR.so (by assumption) (by simp))) gX5_phrase_X5_no rfl rfl rfl (by decide +kernel) (Nat.le_of_ble_eq_true rfl) (Nat.le_of_ble_eq_true rfl) ⟨(Nat.zero_le _), (Nat.zero_le _)⟩ (ok_of hG (show kd (3, 0, 0) = _ from rfl) (by decide) (by decide)) (show kd (3, 0, 0) = _ from rfl) (by decide) rfl rfl rfl (Nat.le_of_ble_eq_true rfl) (st' := [vI ((0))]) rfl dX5_phrase_133 (fun hr => ?_)
                        exact r_iret C dX5_phrase_136 (by (have e9 := hq.symm.trans (phk_e hk (by omega))); rw [e9]; (obtain rfl : i = (w (3, 0, 0) 2).toNat := (by omega)); rw [if_pos ⟨by assumption, ⟨by omega, by omega⟩⟩, if_pos (by assumption)]) (by (have e9 := hq.symm.trans (phk_e hk (by omega))); rw [e9]; (obtain rfl : i = (w (3, 0, 0) 2).toNat := (by omega)); rw [if_pos ⟨by assumption, ⟨by omega, by omega⟩⟩, if_pos (by assumption)]; rfl)
                    · skip
                      refine r_iload C (k := 3) dX5_phrase_99 rfl ?_
                      refine r_aload_n C (k := 0) dX5_phrase_101 rfl ?_
                      refine r_getf C 8 (v := .ref (adr G (3, 0, 6))) (ok_of hG (show kd (3, 0, 0) = _ from rfl) (by decide) (by decide)) (show kd (3, 0, 0) = _ from rfl) (by decide) rfl hinX5 (by decide) (by decide +kernel) rfl rfl dX5_phrase_102 ?_
                      refine r_iload C (k := 4) dX5_phrase_105 rfl ?_
                      refine r_iald C (i) (ok_of hG (show kd (3, 0, 6) = _ from rfl) (by decide) (by decide)) (show kd (3, 0, 6) = _ from rfl) rfl (by first | omega | assumption) (by decide) dX5_phrase_107 ?_
                      refine Wm.top (z' := w (3, 0, 6) (i)) (by simp [st1, cpy]) ?_
                      refine r_iload_n C (k := 1) dX5_phrase_108 rfl ?_
                      refine r_icmp_ne C (tgt := 116) dX5_phrase_109 (by decide) (by first | exact hr _ _ | exact hr0 _ _ | exact hrI _ _ | assumption | exact ⟨by omega, by omega⟩) (by first | exact hr _ _ | exact hr0 _ _ | exact hrI _ _ | assumption | exact ⟨by omega, by omega⟩) (fun h_32 => ?_) (fun h_32 => ?_)
                      · skip
                        refine r_iconst C dX5_phrase_116 ?_
                        refine r_ior0 C (w (3, 0, 6) i = n) (by assumption) dX5_phrase_117 ?_
                        refine r_istore C (i := 4) (lv' := [(4, vI (bI (rdp w n i = true ∨ (w (3, 0, 6) i = n)))), (0, .ref (adr G (3, 0, 0))), (1, vI (n)), (2, vI (((k : Nat) : Int))), (5, vI (((i : Nat) : Int)))]) dX5_phrase_118 (by decide) rfl ?_
                        refine r_iinc C (k := 4) (lv' := [(5, vI (((i + 1 : Nat) : Int))), (4, vI (bI (rdp w n i = true ∨ (w (3, 0, 6) i = n)))), (0, .ref (adr G (3, 0, 0))), (1, vI (n)), (2, vI (((k : Nat) : Int)))]) dX5_phrase_120 rfl (by decide) rfl ?_
                        refine r_goto C (tgt := 90) dX5_phrase_123 (by decide) ?_
                        have e_33 : (st1 w (3, 0, 0) (0) (0)) = (st1 w (3, 0, 0) (0) (0)) := by rfl
                        refine Wm.sub (lv' := [(0, .ref (adr G (3, 0, 0))), (1, vI (n)), (2, vI (((k : Nat) : Int))), (4, vI (bI (rdp w n i = true ∨ (w (3, 0, 6) i = n)))), (5, vI (((i + 1 : Nat) : Int)))]) [2, 3, 4, 1, 0] rfl ?_
                        refine Wm.mem (lv' := [(0, .ref (adr G (3, 0, 0))), (1, vI (n)), (2, vI (((k : Nat) : Int))), (4, vI (bI (rdp w n (i + 1) = true))), (5, vI ((((i + 1) : Nat) : Int)))]) e_33 (by (rw [rdp_s])) ?_
                        exact ih90 ((i + 1)) (by omega) (by omega) (e_33 ▸ hr)
                      · skip
                        refine r_iconst C dX5_phrase_112 ?_
                        refine r_goto C (tgt := 117) dX5_phrase_113 (by decide) ?_
                        refine r_ior1 C (w (3, 0, 6) i = n) (by assumption) dX5_phrase_117 ?_
                        refine r_istore C (i := 4) (lv' := [(4, vI (bI (rdp w n i = true ∨ (w (3, 0, 6) i = n)))), (0, .ref (adr G (3, 0, 0))), (1, vI (n)), (2, vI (((k : Nat) : Int))), (5, vI (((i : Nat) : Int)))]) dX5_phrase_118 (by decide) rfl ?_
                        refine r_iinc C (k := 4) (lv' := [(5, vI (((i + 1 : Nat) : Int))), (4, vI (bI (rdp w n i = true ∨ (w (3, 0, 6) i = n)))), (0, .ref (adr G (3, 0, 0))), (1, vI (n)), (2, vI (((k : Nat) : Int)))]) dX5_phrase_120 rfl (by decide) rfl ?_
                        refine r_goto C (tgt := 90) dX5_phrase_123 (by decide) ?_
                        have e_34 : (st1 w (3, 0, 0) (0) (0)) = (st1 w (3, 0, 0) (0) (0)) := by rfl
                        refine Wm.sub (lv' := [(0, .ref (adr G (3, 0, 0))), (1, vI (n)), (2, vI (((k : Nat) : Int))), (4, vI (bI (rdp w n i = true ∨ (w (3, 0, 6) i = n)))), (5, vI (((i + 1 : Nat) : Int)))]) [2, 3, 4, 1, 0] rfl ?_
                        refine Wm.mem (lv' := [(0, .ref (adr G (3, 0, 0))), (1, vI (n)), (2, vI (((k : Nat) : Int))), (4, vI (bI (rdp w n (i + 1) = true))), (5, vI ((((i + 1) : Nat) : Int)))]) e_34 (by (rw [rdp_s])) ?_
                        exact ih90 ((i + 1)) (by omega) (by omega) (e_34 ▸ hr)
                have e_35 : (st1 w (3, 0, 0) (0) (0)) = (st1 w (3, 0, 0) (0) (0)) := by rfl
                refine Wm.sub (lv' := [(0, .ref (adr G (3, 0, 0))), (1, vI (n)), (2, vI (((k : Nat) : Int))), (4, vI (1)), (5, vI (0))]) [2, 3, 4, 1, 0] rfl ?_
                refine Wm.mem (lv' := [(0, .ref (adr G (3, 0, 0))), (1, vI (n)), (2, vI (((k : Nat) : Int))), (4, vI (bI (rdp w n 0 = true))), (5, vI (((0 : Nat) : Int)))]) e_35 (by (rw [rdp_z]; first | (rw [bI_t (by assumption)]; rfl) | (rw [bI_f (by assumption)]; rfl))) ?_
                exact loop_90 _ (0) (by omega) (Nat.lt_succ_self _) (e_35 ▸ hr)
            · skip
              refine r_aload_n C (k := 0) dX5_phrase_65 rfl ?_
              refine r_iconst C dX5_phrase_66 ?_
              refine r_callV C (w' := (st1 (st1 w (3, 0, 0) (0) (0)) (3, 0, 0) 0 (1))) [vI (1)] 1 (c_X5_no hG (by first | assumption | omega | exact hr _ _ | exact hr0 _ _ | exact hrI _ _ | exact ⟨by omega, by omega⟩ | exact bI_inR _ | (simp [st1] <;> omega) | exact rowR.so (by assumption) (by simp))) gX5_phrase_X5_no rfl rfl rfl (by decide +kernel) (Nat.le_of_ble_eq_true rfl) (Nat.le_of_ble_eq_true rfl) ⟨(Nat.zero_le _), (Nat.zero_le _)⟩ (ok_of hG (show kd (3, 0, 0) = _ from rfl) (by decide) (by decide)) (show kd (3, 0, 0) = _ from rfl) (by decide) rfl rfl rfl (Nat.le_of_ble_eq_true rfl) (st' := [vI ((0))]) rfl dX5_phrase_67 (fun hr => ?_)
              exact r_iret C dX5_phrase_70 (by (have e9 := hq.symm.trans (phk_e hk (by omega))); rw [e9]; rw [if_neg (fun q => by have q1 := q.1; have q2 := q.2; first | contradiction | omega)]) (by (have e9 := hq.symm.trans (phk_e hk (by omega))); rw [e9]; rw [if_neg (fun q => by have q1 := q.1; have q2 := q.2; first | contradiction | omega)]; rfl)
        · skip
          refine r_iinc C (k := 2) (lv' := [(2, vI (((k + 1 : Nat) : Int))), (0, .ref (adr G (3, 0, 0))), (1, vI (n)), (3, vI (bI ((ph n k).2 = true))), (4, vI ((ph n k).1))]) dX5_phrase_25 rfl (by decide) rfl ?_
          refine r_iload_n C (k := 3) dX5_phrase_28 rfl ?_
          refine r_iload C (k := 4) dX5_phrase_29 rfl ?_
          refine r_bipush C dX5_phrase_31 (by decide) ?_
          refine r_irem C dX5_phrase_33 (by first | omega | assumption) (by first | omega | assumption) (by first | omega | assumption) (by first | omega | assumption) ?_
          refine r_iconst C dX5_phrase_34 ?_
          refine r_iconst C dX5_phrase_35 ?_
          refine r_callS C (w' := (st1 w (3, 0, 0) (0) (0))) [vI (((ph n k).1 % 10)), vI (1), vI (2)] 3 (c_X5_isIn hG (by first | assumption | omega | exact hr _ _ | exact hr0 _ _ | exact hrI _ _ | exact ⟨by omega, by omega⟩ | exact bI_inR _ | (simp [st1] <;> omega) | exact rowR.so (by assumption) (by simp)) (by first | assumption | omega | exact hr _ _ | exact hr0 _ _ | exact hrI _ _ | exact ⟨by omega, by omega⟩ | exact bI_inR _ | (simp [st1] <;> omega) | exact rowR.so (by assumption) (by simp)) (by first | assumption | omega | exact hr _ _ | exact hr0 _ _ | exact hrI _ _ | exact ⟨by omega, by omega⟩ | exact bI_inR _ | (simp [st1] <;> omega) | exact rowR.so (by assumption) (by simp))) gX5_phrase_X5_isIn rfl rfl rfl (by decide +kernel) (Nat.le_of_ble_eq_true rfl) (Nat.le_of_ble_eq_true rfl) ⟨(Nat.zero_le _), (Nat.zero_le _)⟩ rfl rfl (Nat.le_of_ble_eq_true rfl) (st' := [vI (bI ((1) ≤ (((ph n k).1 % 10)) ∧ (((ph n k).1 % 10)) ≤ (2))), vI (bI ((ph n k).2 = true))]) rfl dX5_phrase_36 (fun hr => ?_)
          refine r_iandP C dX5_phrase_39 ?_
          refine r_istore_n C (i := 3) (lv' := [(3, vI (bI ((ph n k).2 = true ∧ ((1) ≤ (((ph n k).1 % 10)) ∧ (((ph n k).1 % 10)) ≤ (2))))), (2, vI (((k + 1 : Nat) : Int))), (0, .ref (adr G (3, 0, 0))), (1, vI (n)), (4, vI ((ph n k).1))]) dX5_phrase_40 rfl (by decide) rfl ?_
          refine r_iload C (k := 4) dX5_phrase_41 rfl ?_
          refine r_bipush C dX5_phrase_43 (by decide) ?_
          refine r_idiv C dX5_phrase_45 (by first | omega | assumption) (by first | omega | assumption) (by first | omega | assumption) (by first | omega | assumption) ?_
          refine r_istore C (i := 4) (lv' := [(4, vI (((ph n k).1 / 10))), (3, vI (bI ((ph n k).2 = true ∧ ((1) ≤ (((ph n k).1 % 10)) ∧ (((ph n k).1 % 10)) ≤ (2))))), (2, vI (((k + 1 : Nat) : Int))), (0, .ref (adr G (3, 0, 0))), (1, vI (n))]) dX5_phrase_46 (by decide) rfl ?_
          refine r_goto C (tgt := 20) dX5_phrase_48 (by decide) ?_
          have e_36 : (st1 w (3, 0, 0) (0) (0)) = (st1 w (3, 0, 0) (0) (0)) := by rfl
          refine Wm.sub (lv' := [(0, .ref (adr G (3, 0, 0))), (1, vI (n)), (2, vI (((k + 1 : Nat) : Int))), (3, vI (bI ((ph n k).2 = true ∧ ((1) ≤ (((ph n k).1 % 10)) ∧ (((ph n k).1 % 10)) ≤ (2))))), (4, vI (((ph n k).1 / 10)))]) [3, 4, 2, 1, 0] rfl ?_
          refine Wm.mem (lv' := [(0, .ref (adr G (3, 0, 0))), (1, vI (n)), (2, vI ((((k + 1) : Nat) : Int))), (3, vI (bI ((ph n (k + 1)).2 = true))), (4, vI ((ph n (k + 1)).1))]) e_36 (by (rw [ph_s]; rfl)) ?_
          exact ih20 ((k + 1)) (by (show ((ph n k).1 / 10).toNat + (k + 1) ≤ _); omega) (by (show inR ((ph n k).1 / 10)); (have hR := hR); exact ⟨by have := hR.1; omega, by have := hR.2; omega⟩) (by rw [← hq]; exact (phk_n hk (by omega)).symm) (by omega) (e_36 ▸ hr)
    have e_37 : (st1 w (3, 0, 0) (0) (0)) = (st1 w (3, 0, 0) (0) (0)) := by rfl
    refine Wm.sub (lv' := [(0, .ref (adr G (3, 0, 0))), (1, vI (n)), (2, vI (0)), (3, vI (1)), (4, vI (n))]) [3, 4, 2, 1, 0] rfl ?_
    refine Wm.mem (lv' := [(0, .ref (adr G (3, 0, 0))), (1, vI (n)), (2, vI (((0 : Nat) : Int))), (3, vI (bI ((ph n 0).2 = true))), (4, vI ((ph n 0).1))]) e_37 (by (first | (rw [show bI ((ph n 0).2 = true) = 1 from bI_t (by simp [ph]; omega)]; rfl) | (rw [show bI ((ph n 0).2 = true) = 0 from bI_f (by simp [ph]; omega)]; rfl))) ?_
    exact loop_20 _ (0) (by simp [ph]) (by exact hn) (by rfl) (Nat.lt_succ_self _) (e_37 ▸ hr)
