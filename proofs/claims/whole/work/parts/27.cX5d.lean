set_option maxRecDepth 100000 in
set_option maxHeartbeats 8000000 in
theorem c_X5_reaches {l : Launch} {G : Gt} (hG : Gok G)  {w : Mm} {v : Int} {p : Int} {N D X N5 D5 X5 : Int} (hv : inR v) (hp : inR p) (hvb : 0 ≤ w (3, 0, 0) 1 ∧ w (3, 0, 0) 1 ≤ 8) (hpb : 0 ≤ w (3, 0, 0) 2 ∧ w (3, 0, 0) 2 ≤ 12) (hS : SI w 4 N D X) (hS5 : SI w 5 N5 D5 X5) (hM : MI w) (hN : N ≤ 800000 ∧ D ≤ 800000000 ∧ X ≤ 800000000) (hs : ∀ i : Nat, i < 201 → rgo (wAh w) 5 i (5, 0, 0) 2 ≤ 896) : Con l G yX5_reaches wsX5_reaches ({ frames := 5, cells := 0, slots := 0, locals := 112 } : Room) w [.ref (adr G (3, 0, 0)), vI v, vI p] (some (vI ((if isV w v ∧ isP w p then (if rst (wAh w) (12 * v + p).toNat 201 0 ≤ 200 then ((rst (wAh w) (12 * v + p).toNat 201 0 : Nat) : Int) else -1) else 0)))) ((if isV w v ∧ isP w p then rgo (wAh w) 5 (rst (wAh w) (12 * v + p).toNat 201 0) else thn w 1)) 0 0 := by
  refine Con.head (cc := cX5_reaches) (nL := 4) (ret := (some .int)) hG (by decide +kernel) rfl (Nat.le_of_ble_eq_true rfl) ?_
  intro B A hBl C hr
  have hr0 := hr
  have hrI := hr
  have hinX4 : ∀ w ∈ u_ws RX4 TX4 16, w ∈ wsX5_reaches := by decide +kernel
  have hinX5 : ∀ w ∈ u_ws RX5 TX5 12, w ∈ wsX5_reaches := by decide +kernel
  obtain ⟨y1, y2⟩ := hvb
  obtain ⟨z1, z2⟩ := hpb
  have hS1 := SI_th0 hS
  have hM1 := MI_th0 hM
  obtain ⟨hN1, hN2, hN3⟩ := hN
  have hS2 : SI (wAh w) 5 N D X := SI_bec hS1 (SI_th5 hS5)
  have hM2 : MI (wAh w) := hM1.sl rbec_sl (by decide)
  have s2 := hS.2.2.1
  refine r_aload_n C (k := 0) dX5_reaches_0 rfl ?_
  refine r_iconst C dX5_reaches_1 ?_
  refine r_putf C 0 hr ⟨by decide, by decide⟩ (ok_of hG (show kd (3, 0, 0) = _ from rfl) (by decide) (by decide)) (show kd (3, 0, 0) = _ from rfl) (by decide) rfl hinX5 tyX5_ok nmX5 (by decide) (by decide +kernel) rfl rfl (ty := .int) (by decide +kernel) rfl rfl rfl (Nat.le_of_ble_eq_true rfl) dX5_reaches_2 (fun hr => ?_)
  refine r_aload_n C (k := 0) dX5_reaches_5 rfl ?_
  refine r_iload_n C (k := 1) dX5_reaches_6 rfl ?_
  refine r_callV C (w' := (st1 w (3, 0, 0) (0) (0))) [vI (v)] 1 (c_X5_isVillage hG (by first | assumption | omega | exact hr _ _ | exact hr0 _ _ | exact hrI _ _ | exact ⟨by omega, by omega⟩ | exact bI_inR _ | (simp [st1] <;> omega) | exact rowR.so (by assumption) (by simp)) (by first | assumption | omega | exact hr _ _ | exact hr0 _ _ | exact hrI _ _ | exact ⟨by omega, by omega⟩ | exact bI_inR _ | (simp [st1] <;> omega) | exact rowR.so (by assumption) (by simp))) gX5_reaches_X5_isVillage rfl rfl rfl (by decide +kernel) (Nat.le_of_ble_eq_true rfl) (Nat.le_of_ble_eq_true rfl) ⟨(Nat.zero_le _), (Nat.zero_le _)⟩ (ok_of hG (show kd (3, 0, 0) = _ from rfl) (by decide) (by decide)) (show kd (3, 0, 0) = _ from rfl) (by decide) rfl rfl rfl (Nat.le_of_ble_eq_true rfl) (st' := [vI (bI (0 ≤ (v) ∧ (v) ≤ (w (3, 0, 0) (1)) - 1))]) rfl dX5_reaches_7 (fun hr => ?_)
  refine r_if_eqP C (P := 0 ≤ (v) ∧ (v) ≤ (w (3, 0, 0) (1)) - 1) (tgt := 21) dX5_reaches_10 (by decide) (fun h_1 => ?_) (fun h_1 => ?_)
  · skip
    refine r_aload_n C (k := 0) dX5_reaches_21 rfl ?_
    refine r_iconst C dX5_reaches_22 ?_
    refine r_callV C (w' := (st1 (st1 w (3, 0, 0) (0) (0)) (3, 0, 0) 0 (1))) [vI (1)] 1 (c_X5_no hG (by first | assumption | omega | exact hr _ _ | exact hr0 _ _ | exact hrI _ _ | exact ⟨by omega, by omega⟩ | exact bI_inR _ | (simp [st1] <;> omega) | exact rowR.so (by assumption) (by simp))) gX5_reaches_X5_no rfl rfl rfl (by decide +kernel) (Nat.le_of_ble_eq_true rfl) (Nat.le_of_ble_eq_true rfl) ⟨(Nat.zero_le _), (Nat.zero_le _)⟩ (ok_of hG (show kd (3, 0, 0) = _ from rfl) (by decide) (by decide)) (show kd (3, 0, 0) = _ from rfl) (by decide) rfl rfl rfl (Nat.le_of_ble_eq_true rfl) (st' := [vI ((0))]) rfl dX5_reaches_23 (fun hr => ?_)
    exact r_iret C dX5_reaches_26 (by (first | rfl | ((repeat' split) <;> first | rfl | contradiction | (exfalso; omega)))) (by (first | rfl | ((repeat' split) <;> first | rfl | contradiction | (exfalso; omega))))
  · skip
    refine r_aload_n C (k := 0) dX5_reaches_13 rfl ?_
    refine r_iload_n C (k := 2) dX5_reaches_14 rfl ?_
    refine r_callV C (w' := (st1 w (3, 0, 0) (0) (0))) [vI (p)] 1 (c_X5_isPhrase hG (by first | assumption | omega | exact hr _ _ | exact hr0 _ _ | exact hrI _ _ | exact ⟨by omega, by omega⟩ | exact bI_inR _ | (simp [st1] <;> omega) | exact rowR.so (by assumption) (by simp)) (by first | assumption | omega | exact hr _ _ | exact hr0 _ _ | exact hrI _ _ | exact ⟨by omega, by omega⟩ | exact bI_inR _ | (simp [st1] <;> omega) | exact rowR.so (by assumption) (by simp))) gX5_reaches_X5_isPhrase rfl rfl rfl (by decide +kernel) (Nat.le_of_ble_eq_true rfl) (Nat.le_of_ble_eq_true rfl) ⟨(Nat.zero_le _), (Nat.zero_le _)⟩ (ok_of hG (show kd (3, 0, 0) = _ from rfl) (by decide) (by decide)) (show kd (3, 0, 0) = _ from rfl) (by decide) rfl rfl rfl (Nat.le_of_ble_eq_true rfl) (st' := [vI (bI (0 ≤ (p) ∧ (p) ≤ (w (3, 0, 0) (2)) - 1))]) rfl dX5_reaches_15 (fun hr => ?_)
    refine r_if_neP C (P := 0 ≤ (p) ∧ (p) ≤ (w (3, 0, 0) (2)) - 1) (tgt := 27) dX5_reaches_18 (by decide) (fun h_2 => ?_) (fun h_2 => ?_)
    · skip
      refine r_aload_n C (k := 0) dX5_reaches_27 rfl ?_
      refine r_getf C 11 (v := .ref (adr G (5, 0, 0))) (ok_of hG (show kd (3, 0, 0) = _ from rfl) (by decide) (by decide)) (show kd (3, 0, 0) = _ from rfl) (by decide) rfl hinX5 (by decide) (by decide +kernel) rfl rfl dX5_reaches_28 ?_
      refine r_aload_n C (k := 0) dX5_reaches_31 rfl ?_
      refine r_getf C 10 (v := .ref (adr G (4, 0, 0))) (ok_of hG (show kd (3, 0, 0) = _ from rfl) (by decide) (by decide)) (show kd (3, 0, 0) = _ from rfl) (by decide) rfl hinX5 (by decide) (by decide +kernel) rfl rfl dX5_reaches_32 ?_
      refine r_callV C (w' := (rbec (st1 w (3, 0, 0) (0) (0)) 5 4)) [.ref (adr G (4, 0, 0))] 1 (c_X4_become hG (Or.inr rfl) (Or.inl rfl) (by exact s2) (by decide)) gX5_reaches_X4_become rfl rfl rfl (by decide +kernel) (Nat.le_of_ble_eq_true rfl) (Nat.le_of_ble_eq_true rfl) ⟨(Nat.zero_le _), (Nat.zero_le _)⟩ (ok_of hG (show kd (5, 0, 0) = _ from rfl) (by decide) (by decide)) (show kd (5, 0, 0) = _ from rfl) (by decide) rfl rfl rfl (Nat.le_of_ble_eq_true rfl) (st' := []) rfl dX5_reaches_35 (fun hr => ?_)
      refine r_iconst C dX5_reaches_38 ?_
      refine r_istore_n C (i := 3) (lv' := [(3, vI (0)), (0, .ref (adr G (3, 0, 0))), (1, vI (v)), (2, vI (p))]) dX5_reaches_39 rfl (by decide) rfl ?_
      have loop_40 : ∀ (nf : Nat) (k : Nat), (k ≤ 201) → (rst (wAh w) (12 * v + p).toNat (201 - k) k = rst (wAh w) (12 * v + p).toNat 201 0) → 201 - k < nf → rng (rgo (wAh w) 5 k) → Wm B 4 G A (Qe B G A (some (vI ((if isV w v ∧ isP w p then (if rst (wAh w) (12 * v + p).toNat 201 0 ≤ 200 then ((rst (wAh w) (12 * v + p).toNat 201 0 : Nat) : Int) else -1) else 0)))) ((if isV w v ∧ isP w p then rgo (wAh w) 5 (rst (wAh w) (12 * v + p).toNat 201 0) else thn w 1)) 0 0) (rgo (wAh w) 5 k) 0 0 40 [(0, .ref (adr G (3, 0, 0))), (1, vI (v)), (2, vI (p)), (3, vI (((k : Nat) : Int)))] [] := by
        intro n40
        induction n40 with
        | zero => intro k hk hq hm; exact absurd hm (Nat.not_lt_zero _)
        | succ n40 ih40 =>
          intro k hk hq hm hr
          have hrI := hr
          obtain ⟨g1, g2⟩ := SI_go (by decide) hS2 hM2 k (fun j hj => hs j (by omega))
          refine r_iload_n C (k := 3) dX5_reaches_40 rfl ?_
          refine r_sipush C dX5_reaches_41 (by decide) ?_
          refine r_icmp_gt C (tgt := 81) dX5_reaches_44 (by decide) (by first | exact hr _ _ | exact hr0 _ _ | exact hrI _ _ | assumption | exact ⟨by omega, by omega⟩) ⟨by decide, by decide⟩ (fun h_3 => ?_) (fun h_3 => ?_)
          · skip
            refine r_iconst C dX5_reaches_81 ?_
            exact r_iret C dX5_reaches_82 (by (have e9 := hq.symm.trans (rst_0 (by omega))); (rw [if_pos ⟨by assumption, by assumption⟩, e9, if_neg (by omega)])) (by (have e9 := hq.symm.trans (rst_0 (by omega))); (rw [if_pos ⟨by assumption, by assumption⟩, e9]))
          · skip
            refine r_aload_n C (k := 0) dX5_reaches_47 rfl ?_
            refine r_getf C 11 (v := .ref (adr G (5, 0, 0))) (ok_of hG (show kd (3, 0, 0) = _ from rfl) (by decide) (by decide)) (show kd (3, 0, 0) = _ from rfl) (by decide) rfl hinX5 (by decide) (by decide +kernel) rfl rfl dX5_reaches_48 ?_
            refine r_getfN (host := "DrumTalkModel") C 8 (v := .ref (adr G (5, 0, 6))) (ok_of hG (show kd (5, 0, 0) = _ from rfl) (by decide) (by decide)) (show kd (5, 0, 0) = _ from rfl) (by decide) rfl hinX4 (by decide) (by decide +kernel) rfl rfl dX5_reaches_51 ?_
            refine r_bipush C dX5_reaches_54 (by decide) ?_
            refine r_iload_n C (k := 1) dX5_reaches_56 rfl ?_
            refine r_imul C dX5_reaches_57 ?_
            refine r_iload_n C (k := 2) dX5_reaches_58 rfl ?_
            refine r_iadd C dX5_reaches_59 ?_
            refine r_iald C ((((12 * v) + p)).toNat) (ok_of hG (show kd (5, 0, 6) = _ from rfl) (by decide) (by decide)) (show kd (5, 0, 6) = _ from rfl) (Int.toNat_of_nonneg (by first | omega | assumption)).symm (by first | omega | assumption) (by decide) dX5_reaches_60 ?_
            refine r_iconst C dX5_reaches_61 ?_
            refine r_icmp_eq C (tgt := 67) dX5_reaches_62 (by decide) (by first | exact hr _ _ | exact hr0 _ _ | exact hrI _ _ | assumption | exact ⟨by omega, by omega⟩) ⟨by decide, by decide⟩ (fun h_4 => ?_) (fun h_4 => ?_)
            · skip
              refine r_aload_n C (k := 0) dX5_reaches_67 rfl ?_
              refine r_getf C 11 (v := .ref (adr G (5, 0, 0))) (ok_of hG (show kd (3, 0, 0) = _ from rfl) (by decide) (by decide)) (show kd (3, 0, 0) = _ from rfl) (by decide) rfl hinX5 (by decide) (by decide +kernel) rfl rfl dX5_reaches_68 ?_
              refine r_callV C (w' := (rbeat (rgo (wAh w) 5 k) 5)) [] 0 (c_X4_pass hG (Or.inr rfl) (by exact g1) (by exact hM2.sl g2 (by decide)) (by exact ⟨by omega, by omega, by omega⟩) (by exact hs k (by omega))) gX5_reaches_X4_pass rfl rfl rfl (by decide +kernel) (Nat.le_of_ble_eq_true rfl) (Nat.le_of_ble_eq_true rfl) ⟨(Nat.zero_le _), (Nat.zero_le _)⟩ (ok_of hG (show kd (5, 0, 0) = _ from rfl) (by decide) (by decide)) (show kd (5, 0, 0) = _ from rfl) (by decide) rfl rfl rfl (Nat.le_of_ble_eq_true rfl) (st' := [vI (((((rv3 (rgo (wAh w) 5 k) 5).2.1 : Nat) : Int)))]) rfl dX5_reaches_71 (fun hr => ?_)
              refine r_pop C dX5_reaches_74 rfl ?_
              refine r_iinc C (k := 3) (lv' := [(3, vI (((k + 1 : Nat) : Int))), (0, .ref (adr G (3, 0, 0))), (1, vI (v)), (2, vI (p))]) dX5_reaches_75 rfl (by decide) rfl ?_
              refine r_goto C (tgt := 40) dX5_reaches_78 (by decide) ?_
              have e_5 : (rbeat (rgo (wAh w) 5 k) 5) = (rgo (wAh w) 5 (k + 1)) := by rfl
              refine Wm.sub (lv' := [(0, .ref (adr G (3, 0, 0))), (1, vI (v)), (2, vI (p)), (3, vI (((k + 1 : Nat) : Int)))]) [1, 2, 3, 0] rfl ?_
              refine Wm.mem (lv' := [(0, .ref (adr G (3, 0, 0))), (1, vI (v)), (2, vI (p)), (3, vI ((((k + 1) : Nat) : Int)))]) e_5 (by rfl) ?_
              exact ih40 ((k + 1)) (by omega) (by (rw [← hq]; exact (rst_n (by omega) (by assumption)).symm)) (by omega) (e_5 ▸ hr)
            · skip
              refine r_iload_n C (k := 3) dX5_reaches_65 rfl ?_
              exact r_iret C dX5_reaches_66 (by (have e9 := hq.symm.trans (rst_e (by omega) (by assumption))); (rw [if_pos ⟨by assumption, by assumption⟩, e9, if_pos (by omega)])) (by (have e9 := hq.symm.trans (rst_e (by omega) (by assumption))); (rw [if_pos ⟨by assumption, by assumption⟩, e9]))
      have e_6 : (rbec (st1 w (3, 0, 0) (0) (0)) 5 4) = (rgo (wAh w) 5 0) := by rfl
      refine Wm.sub (lv' := [(0, .ref (adr G (3, 0, 0))), (1, vI (v)), (2, vI (p)), (3, vI (0))]) [1, 2, 3, 0] rfl ?_
      refine Wm.mem (lv' := [(0, .ref (adr G (3, 0, 0))), (1, vI (v)), (2, vI (p)), (3, vI (((0 : Nat) : Int)))]) e_6 (by rfl) ?_
      exact loop_40 _ (0) (by omega) (by rfl) (Nat.lt_succ_self _) (e_6 ▸ hr)
    · skip
      refine r_aload_n C (k := 0) dX5_reaches_21 rfl ?_
      refine r_iconst C dX5_reaches_22 ?_
      refine r_callV C (w' := (st1 (st1 w (3, 0, 0) (0) (0)) (3, 0, 0) 0 (1))) [vI (1)] 1 (c_X5_no hG (by first | assumption | omega | exact hr _ _ | exact hr0 _ _ | exact hrI _ _ | exact ⟨by omega, by omega⟩ | exact bI_inR _ | (simp [st1] <;> omega) | exact rowR.so (by assumption) (by simp))) gX5_reaches_X5_no rfl rfl rfl (by decide +kernel) (Nat.le_of_ble_eq_true rfl) (Nat.le_of_ble_eq_true rfl) ⟨(Nat.zero_le _), (Nat.zero_le _)⟩ (ok_of hG (show kd (3, 0, 0) = _ from rfl) (by decide) (by decide)) (show kd (3, 0, 0) = _ from rfl) (by decide) rfl rfl rfl (Nat.le_of_ble_eq_true rfl) (st' := [vI ((0))]) rfl dX5_reaches_23 (fun hr => ?_)
      exact r_iret C dX5_reaches_26 (by (first | rfl | ((repeat' split) <;> first | rfl | contradiction | (exfalso; omega)))) (by (first | rfl | ((repeat' split) <;> first | rfl | contradiction | (exfalso; omega))))
