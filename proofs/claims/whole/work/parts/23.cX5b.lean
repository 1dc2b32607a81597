theorem sumI_b {f : Nat → Int} (h : ∀ i, f i = 0 ∨ f i = 1) : ∀ n : Nat, 0 ≤ sumI f n ∧ sumI f n ≤ n
  | 0 => ⟨Int.le_refl 0, Int.le_refl 0⟩
  | n + 1 => by
    have h1 := sumI_b h n
    have h2 := h n
    simp only [sumI]
    omega
theorem rvk_b {w : Mm} {v : Int} (n : Nat) : 0 ≤ rvk w v n ∧ rvk w v n ≤ n := sumI_b (fun _ => bI_01 _) n
theorem rcd_b {w : Mm} (n : Nat) : 0 ≤ rcd w n ∧ rcd w n ≤ n := sumI_b (fun _ => bI_01 _) n

set_option maxRecDepth 100000 in
set_option maxHeartbeats 8000000 in
theorem c_X5_villageTold {l : Launch} {G : Gt} (hG : Gok G)  {w : Mm} {v : Int} {a : Int} (hv : 0 ≤ v ∧ v ≤ 7) (ha : 0 ≤ a ∧ a ≤ 9) (hpb : 0 ≤ w (3, 0, 0) 2 ∧ w (3, 0, 0) 2 ≤ 12) (hf : rowR w (3, 0, 4) 8 0 23) (hb : 0 ≤ w (4, 0, 0) 0 ∧ w (4, 0, 0) 0 ≤ 1000000) (h7 : ¬ okk G (7, 0, 0)) : Con l G yX5_villageTold wsX5_villageTold ({ frames := 1, cells := 1, slots := 10, locals := 21 } : Room) w [.ref (adr G (3, 0, 0)), vI v, vI a] (some (vI (rvtold w v (a).toNat))) w 1 10 := by
  refine Con.head (cc := cX5_villageTold) (nL := 5) (ret := (some .int)) hG (by decide +kernel) rfl (Nat.le_of_ble_eq_true rfl) ?_
  intro B A hBl C hr
  have hr0 := hr
  have hrI := hr
  have hinX4 : ∀ w ∈ u_ws RX4 TX4 16, w ∈ wsX5_villageTold := by decide +kernel
  have hinX5 : ∀ w ∈ u_ws RX5 TX5 12, w ∈ wsX5_villageTold := by decide +kernel
  obtain ⟨w1, w2⟩ := hv
  obtain ⟨z1, z2⟩ := hpb
  refine r_iconst C dX5_villageTold_0 ?_
  refine r_istore_n C (i := 3) (lv' := [(3, vI (0)), (0, .ref (adr G (3, 0, 0))), (1, vI (v)), (2, vI (a))]) dX5_villageTold_1 rfl (by decide) rfl ?_
  refine r_iconst C dX5_villageTold_2 ?_
  refine r_istore C (i := 4) (lv' := [(4, vI (0)), (3, vI (0)), (0, .ref (adr G (3, 0, 0))), (1, vI (v)), (2, vI (a))]) dX5_villageTold_3 (by decide) rfl ?_
  have loop_5 : ∀ (nf : Nat) (i : Nat), (i ≤ (w (3, 0, 0) 2).toNat) → (w (3, 0, 0) 2).toNat - i < nf → rng w → Wm B 5 G A (Qe B G A (some (vI (rvtold w v (a).toNat))) w 1 10) w 0 0 5 [(0, .ref (adr G (3, 0, 0))), (1, vI (v)), (2, vI (a)), (3, vI (rvk w v i)), (4, vI (((i : Nat) : Int)))] [] := by
    intro n5
    induction n5 with
    | zero => intro i hi hm; exact absurd hm (Nat.not_lt_zero _)
    | succ n5 ih5 =>
      intro i hi hm hr
      have hrI := hr
      have hkn := rvk_b (w := w) (v := v) i
      refine r_iload C (k := 4) dX5_villageTold_5 rfl ?_
      refine r_aload_n C (k := 0) dX5_villageTold_7 rfl ?_
      refine r_getf C 2 (ok_of hG (show kd (3, 0, 0) = _ from rfl) (by decide) (by decide)) (show kd (3, 0, 0) = _ from rfl) (by decide) rfl hinX5 (by decide) (by decide +kernel) rfl rfl dX5_villageTold_8 ?_
      refine r_icmp_ge C (tgt := 47) dX5_villageTold_11 (by decide) (by first | exact hr _ _ | exact hr0 _ _ | exact hrI _ _ | assumption | exact ⟨by omega, by omega⟩) (by first | exact hr _ _ | exact hr0 _ _ | exact hrI _ _ | assumption | exact ⟨by omega, by omega⟩) (fun h_1 => ?_) (fun h_1 => ?_)
      · skip
        refine r_bipush C dX5_villageTold_47 (by decide) ?_
        refine r_newtmp C (κ := (7, 0, 0)) (n := 10) (fun G => [(0, .ref (adr G (3, 0, 0))), (1, vI (v)), (2, vI (a)), (3, vI (rvk w v i)), (4, vI (((i : Nat) : Int)))]) hr h7 rfl rfl rfl (by decide) (by decide +kernel) (Nat.le_of_ble_eq_true rfl) (Nat.le_of_ble_eq_true rfl) (fun G9 h9 => by simp [h9]) dX5_villageTold_49 (fun G hT hG ok7 C hr => ?_)
        refine r_dup C dX5_villageTold_51 rfl ?_
        refine r_iconst C dX5_villageTold_52 ?_
        refine r_aload_n C (k := 0) dX5_villageTold_53 rfl ?_
        refine r_getf C 3 (v := .ref (adr G (3, 0, 1))) (ok_of hG (show kd (3, 0, 0) = _ from rfl) (by decide) (by decide)) (show kd (3, 0, 0) = _ from rfl) (by decide) rfl hinX5 (by decide) (by decide +kernel) rfl rfl dX5_villageTold_54 ?_
        refine r_iload_n C (k := 1) dX5_villageTold_57 rfl ?_
        refine r_iald C ((v).toNat) (ok_of hG (show kd (3, 0, 1) = _ from rfl) (by decide) (by decide)) (show kd (3, 0, 1) = _ from rfl) (Int.toNat_of_nonneg (by first | omega | assumption)).symm (by first | omega | assumption) (by decide) dX5_villageTold_58 ?_
        refine Wm.top (z' := w (3, 0, 1) ((v).toNat)) (by simp [st1, cpy, zro_j]) ?_
        refine r_iast C (0) hr (by first | exact hr _ _ | exact hr0 _ _ | exact hrI _ _ | assumption | exact ⟨by omega, by omega⟩) ok7 (show kd (7, 0, 0) = _ from rfl) rfl (by first | omega | assumption) (by decide) dX5_villageTold_59 (fun hr => ?_)
        refine r_dup C dX5_villageTold_60 rfl ?_
        refine r_iconst C dX5_villageTold_61 ?_
        refine r_aload_n C (k := 0) dX5_villageTold_62 rfl ?_
        refine r_getf C 4 (v := .ref (adr G (3, 0, 2))) (ok_of hG (show kd (3, 0, 0) = _ from rfl) (by decide) (by decide)) (show kd (3, 0, 0) = _ from rfl) (by decide) rfl hinX5 (by decide) (by decide +kernel) rfl rfl dX5_villageTold_63 ?_
        refine r_iload_n C (k := 1) dX5_villageTold_66 rfl ?_
        refine r_iald C ((v).toNat) (ok_of hG (show kd (3, 0, 2) = _ from rfl) (by decide) (by decide)) (show kd (3, 0, 2) = _ from rfl) (Int.toNat_of_nonneg (by first | omega | assumption)).symm (by first | omega | assumption) (by decide) dX5_villageTold_67 ?_
        refine Wm.top (z' := w (3, 0, 2) ((v).toNat)) (by simp [st1, cpy, zro_j]) ?_
        refine r_iast C (1) hr (by first | exact hr _ _ | exact hr0 _ _ | exact hrI _ _ | assumption | exact ⟨by omega, by omega⟩) ok7 (show kd (7, 0, 0) = _ from rfl) rfl (by first | omega | assumption) (by decide) dX5_villageTold_68 (fun hr => ?_)
        refine r_dup C dX5_villageTold_69 rfl ?_
        refine r_iconst C dX5_villageTold_70 ?_
        refine r_aload_n C (k := 0) dX5_villageTold_71 rfl ?_
        refine r_getf C 10 (v := .ref (adr G (4, 0, 0))) (ok_of hG (show kd (3, 0, 0) = _ from rfl) (by decide) (by decide)) (show kd (3, 0, 0) = _ from rfl) (by decide) rfl hinX5 (by decide) (by decide +kernel) rfl rfl dX5_villageTold_72 ?_
        refine r_getfN (host := "DrumTalkModel") C 3 (v := .ref (adr G (4, 0, 1))) (ok_of hG (show kd (4, 0, 0) = _ from rfl) (by decide) (by decide)) (show kd (4, 0, 0) = _ from rfl) (by decide) rfl hinX4 (by decide) (by decide +kernel) rfl rfl dX5_villageTold_75 ?_
        refine r_iload_n C (k := 1) dX5_villageTold_78 rfl ?_
        refine r_iald C ((v).toNat) (ok_of hG (show kd (4, 0, 1) = _ from rfl) (by decide) (by decide)) (show kd (4, 0, 1) = _ from rfl) (Int.toNat_of_nonneg (by first | omega | assumption)).symm (by first | omega | assumption) (by decide) dX5_villageTold_79 ?_
        refine Wm.top (z' := w (4, 0, 1) ((v).toNat)) (by simp [st1, cpy, zro_j]) ?_
        refine r_iast C (2) hr (by first | exact hr _ _ | exact hr0 _ _ | exact hrI _ _ | assumption | exact ⟨by omega, by omega⟩) ok7 (show kd (7, 0, 0) = _ from rfl) rfl (by first | omega | assumption) (by decide) dX5_villageTold_80 (fun hr => ?_)
        refine r_dup C dX5_villageTold_81 rfl ?_
        refine r_iconst C dX5_villageTold_82 ?_
        refine r_aload_n C (k := 0) dX5_villageTold_83 rfl ?_
        refine r_getf C 5 (v := .ref (adr G (3, 0, 3))) (ok_of hG (show kd (3, 0, 0) = _ from rfl) (by decide) (by decide)) (show kd (3, 0, 0) = _ from rfl) (by decide) rfl hinX5 (by decide) (by decide +kernel) rfl rfl dX5_villageTold_84 ?_
        refine r_iload_n C (k := 1) dX5_villageTold_87 rfl ?_
        refine r_iald C ((v).toNat) (ok_of hG (show kd (3, 0, 3) = _ from rfl) (by decide) (by decide)) (show kd (3, 0, 3) = _ from rfl) (Int.toNat_of_nonneg (by first | omega | assumption)).symm (by first | omega | assumption) (by decide) dX5_villageTold_88 ?_
        refine Wm.top (z' := w (3, 0, 3) ((v).toNat)) (by simp [st1, cpy, zro_j]) ?_
        refine r_iast C (3) hr (by first | exact hr _ _ | exact hr0 _ _ | exact hrI _ _ | assumption | exact ⟨by omega, by omega⟩) ok7 (show kd (7, 0, 0) = _ from rfl) rfl (by first | omega | assumption) (by decide) dX5_villageTold_89 (fun hr => ?_)
        refine r_dup C dX5_villageTold_90 rfl ?_
        refine r_iconst C dX5_villageTold_91 ?_
        refine r_aload_n C (k := 0) dX5_villageTold_92 rfl ?_
        refine r_getf C 10 (v := .ref (adr G (4, 0, 0))) (ok_of hG (show kd (3, 0, 0) = _ from rfl) (by decide) (by decide)) (show kd (3, 0, 0) = _ from rfl) (by decide) rfl hinX5 (by decide) (by decide +kernel) rfl rfl dX5_villageTold_93 ?_
        refine r_iload_n C (k := 1) dX5_villageTold_96 rfl ?_
        refine r_callV C (w' := (st1 (st1 (st1 (st1 (zro w (7, 0, 0)) (7, 0, 0) (0) (w (3, 0, 1) ((v).toNat))) (7, 0, 0) (1) (w (3, 0, 2) ((v).toNat))) (7, 0, 0) (2) (w (4, 0, 1) ((v).toNat))) (7, 0, 0) (3) (w (3, 0, 3) ((v).toNat)))) [vI (v)] 1 (c_X4_isAwake hG (Or.inl rfl) (by first | assumption | omega | exact hr _ _ | exact hr0 _ _ | exact hrI _ _ | exact ⟨by omega, by omega⟩ | exact bI_inR _ | (simp [st1] <;> omega) | exact rowR.so (by assumption) (by simp)) (by intro j hj; simp [st1, zro]; exact hf j hj) (by simp [st1, zro]; exact hb)) gX5_villageTold_X4_isAwake rfl rfl rfl (by decide +kernel) (Nat.le_of_ble_eq_true rfl) (Nat.le_of_ble_eq_true rfl) ⟨(Nat.le_of_ble_eq_true rfl), (Nat.le_of_ble_eq_true rfl)⟩ (ok_of hG (show kd (4, 0, 0) = _ from rfl) (by decide) (by decide)) (show kd (4, 0, 0) = _ from rfl) (by decide) rfl rfl rfl (Nat.le_of_ble_eq_true rfl) (st' := [vI (bI (rawk w 4 (v).toNat)), vI (4), .ref (adr G (7, 0, 0)), .ref (adr G (7, 0, 0))]) rfl dX5_villageTold_97 (fun hr => ?_)
        refine r_if_eqP C (P := rawk w 4 (v).toNat) (tgt := 107) dX5_villageTold_100 (by decide) (fun h_2 => ?_) (fun h_2 => ?_)
        · skip
          refine r_iconst C dX5_villageTold_107 ?_
          refine r_iast C (4) hr ⟨by decide, by decide⟩ ok7 (show kd (7, 0, 0) = _ from rfl) rfl (by first | omega | assumption) (by decide) dX5_villageTold_108 (fun hr => ?_)
          refine r_dup C dX5_villageTold_109 rfl ?_
          refine r_iconst C dX5_villageTold_110 ?_
          refine r_aload_n C (k := 0) dX5_villageTold_111 rfl ?_
          refine r_getf C 10 (v := .ref (adr G (4, 0, 0))) (ok_of hG (show kd (3, 0, 0) = _ from rfl) (by decide) (by decide)) (show kd (3, 0, 0) = _ from rfl) (by decide) rfl hinX5 (by decide) (by decide +kernel) rfl rfl dX5_villageTold_112 ?_
          refine r_getfN (host := "DrumTalkModel") C 4 (v := .ref (adr G (4, 0, 2))) (ok_of hG (show kd (4, 0, 0) = _ from rfl) (by decide) (by decide)) (show kd (4, 0, 0) = _ from rfl) (by decide) rfl hinX4 (by decide) (by decide +kernel) rfl rfl dX5_villageTold_115 ?_
          refine r_iload_n C (k := 1) dX5_villageTold_118 rfl ?_
          refine r_iald C ((v).toNat) (ok_of hG (show kd (4, 0, 2) = _ from rfl) (by decide) (by decide)) (show kd (4, 0, 2) = _ from rfl) (Int.toNat_of_nonneg (by first | omega | assumption)).symm (by first | omega | assumption) (by decide) dX5_villageTold_119 ?_
          refine Wm.top (z' := w (4, 0, 2) ((v).toNat)) (by simp [st1, cpy, zro_j]) ?_
          refine r_iast C (5) hr (by first | exact hr _ _ | exact hr0 _ _ | exact hrI _ _ | assumption | exact ⟨by omega, by omega⟩) ok7 (show kd (7, 0, 0) = _ from rfl) rfl (by first | omega | assumption) (by decide) dX5_villageTold_120 (fun hr => ?_)
          refine r_dup C dX5_villageTold_121 rfl ?_
          refine r_bipush C dX5_villageTold_122 (by decide) ?_
          refine r_aload_n C (k := 0) dX5_villageTold_124 rfl ?_
          refine r_getf C 10 (v := .ref (adr G (4, 0, 0))) (ok_of hG (show kd (3, 0, 0) = _ from rfl) (by decide) (by decide)) (show kd (3, 0, 0) = _ from rfl) (by decide) rfl hinX5 (by decide) (by decide +kernel) rfl rfl dX5_villageTold_125 ?_
          refine r_getfN (host := "DrumTalkModel") C 5 (v := .ref (adr G (4, 0, 3))) (ok_of hG (show kd (4, 0, 0) = _ from rfl) (by decide) (by decide)) (show kd (4, 0, 0) = _ from rfl) (by decide) rfl hinX4 (by decide) (by decide +kernel) rfl rfl dX5_villageTold_128 ?_
          refine r_iload_n C (k := 1) dX5_villageTold_131 rfl ?_
          refine r_iald C ((v).toNat) (ok_of hG (show kd (4, 0, 3) = _ from rfl) (by decide) (by decide)) (show kd (4, 0, 3) = _ from rfl) (Int.toNat_of_nonneg (by first | omega | assumption)).symm (by first | omega | assumption) (by decide) dX5_villageTold_132 ?_
          refine Wm.top (z' := w (4, 0, 3) ((v).toNat)) (by simp [st1, cpy, zro_j]) ?_
          refine r_iast C (6) hr (by first | exact hr _ _ | exact hr0 _ _ | exact hrI _ _ | assumption | exact ⟨by omega, by omega⟩) ok7 (show kd (7, 0, 0) = _ from rfl) rfl (by first | omega | assumption) (by decide) dX5_villageTold_133 (fun hr => ?_)
          refine r_dup C dX5_villageTold_134 rfl ?_
          refine r_bipush C dX5_villageTold_135 (by decide) ?_
          refine r_aload_n C (k := 0) dX5_villageTold_137 rfl ?_
          refine r_getf C 10 (v := .ref (adr G (4, 0, 0))) (ok_of hG (show kd (3, 0, 0) = _ from rfl) (by decide) (by decide)) (show kd (3, 0, 0) = _ from rfl) (by decide) rfl hinX5 (by decide) (by decide +kernel) rfl rfl dX5_villageTold_138 ?_
          refine r_getfN (host := "DrumTalkModel") C 6 (v := .ref (adr G (4, 0, 4))) (ok_of hG (show kd (4, 0, 0) = _ from rfl) (by decide) (by decide)) (show kd (4, 0, 0) = _ from rfl) (by decide) rfl hinX4 (by decide) (by decide +kernel) rfl rfl dX5_villageTold_141 ?_
          refine r_iload_n C (k := 1) dX5_villageTold_144 rfl ?_
          refine r_iald C ((v).toNat) (ok_of hG (show kd (4, 0, 4) = _ from rfl) (by decide) (by decide)) (show kd (4, 0, 4) = _ from rfl) (Int.toNat_of_nonneg (by first | omega | assumption)).symm (by first | omega | assumption) (by decide) dX5_villageTold_145 ?_
          refine Wm.top (z' := w (4, 0, 4) ((v).toNat)) (by simp [st1, cpy, zro_j]) ?_
          refine r_iast C (7) hr (by first | exact hr _ _ | exact hr0 _ _ | exact hrI _ _ | assumption | exact ⟨by omega, by omega⟩) ok7 (show kd (7, 0, 0) = _ from rfl) rfl (by first | omega | assumption) (by decide) dX5_villageTold_146 (fun hr => ?_)
          refine r_dup C dX5_villageTold_147 rfl ?_
          refine r_bipush C dX5_villageTold_148 (by decide) ?_
          refine r_iload_n C (k := 3) dX5_villageTold_150 rfl ?_
          refine r_iast C (8) hr (by first | exact hr _ _ | exact hr0 _ _ | exact hrI _ _ | assumption | exact ⟨by omega, by omega⟩) ok7 (show kd (7, 0, 0) = _ from rfl) rfl (by first | omega | assumption) (by decide) dX5_villageTold_151 (fun hr => ?_)
          refine r_dup C dX5_villageTold_152 rfl ?_
          refine r_bipush C dX5_villageTold_153 (by decide) ?_
          refine r_aload_n C (k := 0) dX5_villageTold_155 rfl ?_
          refine r_getf C 10 (v := .ref (adr G (4, 0, 0))) (ok_of hG (show kd (3, 0, 0) = _ from rfl) (by decide) (by decide)) (show kd (3, 0, 0) = _ from rfl) (by decide) rfl hinX5 (by decide) (by decide +kernel) rfl rfl dX5_villageTold_156 ?_
          refine r_getfN (host := "DrumTalkModel") C 9 (v := .ref (adr G (4, 0, 7))) (ok_of hG (show kd (4, 0, 0) = _ from rfl) (by decide) (by decide)) (show kd (4, 0, 0) = _ from rfl) (by decide) rfl hinX4 (by decide) (by decide +kernel) rfl rfl dX5_villageTold_159 ?_
          refine r_iload_n C (k := 1) dX5_villageTold_162 rfl ?_
          refine r_iald C ((v).toNat) (ok_of hG (show kd (4, 0, 7) = _ from rfl) (by decide) (by decide)) (show kd (4, 0, 7) = _ from rfl) (Int.toNat_of_nonneg (by first | omega | assumption)).symm (by first | omega | assumption) (by decide) dX5_villageTold_163 ?_
          refine Wm.top (z' := w (4, 0, 7) ((v).toNat)) (by simp [st1, cpy, zro_j]) ?_
          refine r_iast C (9) hr (by first | exact hr _ _ | exact hr0 _ _ | exact hrI _ _ | assumption | exact ⟨by omega, by omega⟩) ok7 (show kd (7, 0, 0) = _ from rfl) rfl (by first | omega | assumption) (by decide) dX5_villageTold_164 (fun hr => ?_)
          refine r_astore C (i := 4) (lv' := [(4, .ref (adr G (7, 0, 0))), (0, .ref (adr G (3, 0, 0))), (1, vI (v)), (2, vI (a)), (3, vI (rvk w v i))]) dX5_villageTold_165 (by decide) rfl ?_
          refine r_aload C (k := 0) dX5_villageTold_167 rfl ?_
          refine r_iload_n C (k := 3) dX5_villageTold_169 rfl ?_
          obtain ⟨ha1, ha2⟩ := ha
          have haN : (a).toNat < 10 := by omega
          refine r_iald C ((a).toNat) ok7 (show kd (7, 0, 0) = _ from rfl) (Int.toNat_of_nonneg ha1).symm (by omega) (by decide) dX5_villageTold_170 ?_
          refine r_iretT hT C dX5_villageTold_171 ?_ (by intro k j; first | exact hr0 _ _ | exact rng_st hr0 (by exact ⟨by decide, by decide⟩) _ _) (by intro k hk; funext j; simp [st1, zro, hk])
          rcases (show a = 0 ∨ a = 1 ∨ a = 2 ∨ a = 3 ∨ a = 4 ∨ a = 5 ∨ a = 6 ∨ a = 7 ∨ a = 8 ∨ a = 9 by omega) with rfl | rfl | rfl | rfl | rfl | rfl | rfl | rfl | rfl | rfl
          all_goals first | (obtain rfl : i = (w (3, 0, 0) 2).toNat := (by omega); simp [st1, zro, rvtold, rvt]; done) | (obtain rfl : i = (w (3, 0, 0) 2).toNat := (by omega); simp [st1, zro, rvtold, rvt, bI, *]; done)
        · skip
          refine r_iconst C dX5_villageTold_103 ?_
          refine r_goto C (tgt := 108) dX5_villageTold_104 (by decide) ?_
          refine r_iast C (4) hr ⟨by decide, by decide⟩ ok7 (show kd (7, 0, 0) = _ from rfl) rfl (by first | omega | assumption) (by decide) dX5_villageTold_108 (fun hr => ?_)
          refine r_dup C dX5_villageTold_109 rfl ?_
          refine r_iconst C dX5_villageTold_110 ?_
          refine r_aload_n C (k := 0) dX5_villageTold_111 rfl ?_
          refine r_getf C 10 (v := .ref (adr G (4, 0, 0))) (ok_of hG (show kd (3, 0, 0) = _ from rfl) (by decide) (by decide)) (show kd (3, 0, 0) = _ from rfl) (by decide) rfl hinX5 (by decide) (by decide +kernel) rfl rfl dX5_villageTold_112 ?_
          refine r_getfN (host := "DrumTalkModel") C 4 (v := .ref (adr G (4, 0, 2))) (ok_of hG (show kd (4, 0, 0) = _ from rfl) (by decide) (by decide)) (show kd (4, 0, 0) = _ from rfl) (by decide) rfl hinX4 (by decide) (by decide +kernel) rfl rfl dX5_villageTold_115 ?_
          refine r_iload_n C (k := 1) dX5_villageTold_118 rfl ?_
          refine r_iald C ((v).toNat) (ok_of hG (show kd (4, 0, 2) = _ from rfl) (by decide) (by decide)) (show kd (4, 0, 2) = _ from rfl) (Int.toNat_of_nonneg (by first | omega | assumption)).symm (by first | omega | assumption) (by decide) dX5_villageTold_119 ?_
          refine Wm.top (z' := w (4, 0, 2) ((v).toNat)) (by simp [st1, cpy, zro_j]) ?_
          refine r_iast C (5) hr (by first | exact hr _ _ | exact hr0 _ _ | exact hrI _ _ | assumption | exact ⟨by omega, by omega⟩) ok7 (show kd (7, 0, 0) = _ from rfl) rfl (by first | omega | assumption) (by decide) dX5_villageTold_120 (fun hr => ?_)
          refine r_dup C dX5_villageTold_121 rfl ?_
          refine r_bipush C dX5_villageTold_122 (by decide) ?_
          refine r_aload_n C (k := 0) dX5_villageTold_124 rfl ?_
          refine r_getf C 10 (v := .ref (adr G (4, 0, 0))) (ok_of hG (show kd (3, 0, 0) = _ from rfl) (by decide) (by decide)) (show kd (3, 0, 0) = _ from rfl) (by decide) rfl hinX5 (by decide) (by decide +kernel) rfl rfl dX5_villageTold_125 ?_
          refine r_getfN (host := "DrumTalkModel") C 5 (v := .ref (adr G (4, 0, 3))) (ok_of hG (show kd (4, 0, 0) = _ from rfl) (by decide) (by decide)) (show kd (4, 0, 0) = _ from rfl) (by decide) rfl hinX4 (by decide) (by decide +kernel) rfl rfl dX5_villageTold_128 ?_
          refine r_iload_n C (k := 1) dX5_villageTold_131 rfl ?_
          refine r_iald C ((v).toNat) (ok_of hG (show kd (4, 0, 3) = _ from rfl) (by decide) (by decide)) (show kd (4, 0, 3) = _ from rfl) (Int.toNat_of_nonneg (by first | omega | assumption)).symm (by first | omega | assumption) (by decide) dX5_villageTold_132 ?_
          refine Wm.top (z' := w (4, 0, 3) ((v).toNat)) (by simp [st1, cpy, zro_j]) ?_
          refine r_iast C (6) hr (by first | exact hr _ _ | exact hr0 _ _ | exact hrI _ _ | assumption | exact ⟨by omega, by omega⟩) ok7 (show kd (7, 0, 0) = _ from rfl) rfl (by first | omega | assumption) (by decide) dX5_villageTold_133 (fun hr => ?_)
          refine r_dup C dX5_villageTold_134 rfl ?_
          refine r_bipush C dX5_villageTold_135 (by decide) ?_
          refine r_aload_n C (k := 0) dX5_villageTold_137 rfl ?_
          refine r_getf C 10 (v := .ref (adr G (4, 0, 0))) (ok_of hG (show kd (3, 0, 0) = _ from rfl) (by decide) (by decide)) (show kd (3, 0, 0) = _ from rfl) (by decide) rfl hinX5 (by decide) (by decide +kernel) rfl rfl dX5_villageTold_138 ?_
          refine r_getfN (host := "DrumTalkModel") C 6 (v := .ref (adr G (4, 0, 4))) (ok_of hG (show kd (4, 0, 0) = _ from rfl) (by decide) (by decide)) (show kd (4, 0, 0) = _ from rfl) (by decide) rfl hinX4 (by decide) (by decide +kernel) rfl rfl dX5_villageTold_141 ?_
          refine r_iload_n C (k := 1) dX5_villageTold_144 rfl ?_
          refine r_iald C ((v).toNat) (ok_of hG (show kd (4, 0, 4) = _ from rfl) (by decide) (by decide)) (show kd (4, 0, 4) = _ from rfl) (Int.toNat_of_nonneg (by first | omega | assumption)).symm (by first | omega | assumption) (by decide) dX5_villageTold_145 ?_
          refine Wm.top (z' := w (4, 0, 4) ((v).toNat)) (by simp [st1, cpy, zro_j]) ?_
          refine r_iast C (7) hr (by first | exact hr _ _ | exact hr0 _ _ | exact hrI _ _ | assumption | exact ⟨by omega, by omega⟩) ok7 (show kd (7, 0, 0) = _ from rfl) rfl (by first | omega | assumption) (by decide) dX5_villageTold_146 (fun hr => ?_)
          refine r_dup C dX5_villageTold_147 rfl ?_
          refine r_bipush C dX5_villageTold_148 (by decide) ?_
          refine r_iload_n C (k := 3) dX5_villageTold_150 rfl ?_
          refine r_iast C (8) hr (by first | exact hr _ _ | exact hr0 _ _ | exact hrI _ _ | assumption | exact ⟨by omega, by omega⟩) ok7 (show kd (7, 0, 0) = _ from rfl) rfl (by first | omega | assumption) (by decide) dX5_villageTold_151 (fun hr => ?_)
          refine r_dup C dX5_villageTold_152 rfl ?_
          refine r_bipush C dX5_villageTold_153 (by decide) ?_
          refine r_aload_n C (k := 0) dX5_villageTold_155 rfl ?_
          refine r_getf C 10 (v := .ref (adr G (4, 0, 0))) (ok_of hG (show kd (3, 0, 0) = _ from rfl) (by decide) (by decide)) (show kd (3, 0, 0) = _ from rfl) (by decide) rfl hinX5 (by decide) (by decide +kernel) rfl rfl dX5_villageTold_156 ?_
          refine r_getfN (host := "DrumTalkModel") C 9 (v := .ref (adr G (4, 0, 7))) (ok_of hG (show kd (4, 0, 0) = _ from rfl) (by decide) (by decide)) (show kd (4, 0, 0) = _ from rfl) (by decide) rfl hinX4 (by decide) (by decide +kernel) rfl rfl dX5_villageTold_159 ?_
          refine r_iload_n C (k := 1) dX5_villageTold_162 rfl ?_
          refine r_iald C ((v).toNat) (ok_of hG (show kd (4, 0, 7) = _ from rfl) (by decide) (by decide)) (show kd (4, 0, 7) = _ from rfl) (Int.toNat_of_nonneg (by first | omega | assumption)).symm (by first | omega | assumption) (by decide) dX5_villageTold_163 ?_
          refine Wm.top (z' := w (4, 0, 7) ((v).toNat)) (by simp [st1, cpy, zro_j]) ?_
          refine r_iast C (9) hr (by first | exact hr _ _ | exact hr0 _ _ | exact hrI _ _ | assumption | exact ⟨by omega, by omega⟩) ok7 (show kd (7, 0, 0) = _ from rfl) rfl (by first | omega | assumption) (by decide) dX5_villageTold_164 (fun hr => ?_)
          refine r_astore C (i := 4) (lv' := [(4, .ref (adr G (7, 0, 0))), (0, .ref (adr G (3, 0, 0))), (1, vI (v)), (2, vI (a)), (3, vI (rvk w v i))]) dX5_villageTold_165 (by decide) rfl ?_
          refine r_aload C (k := 0) dX5_villageTold_167 rfl ?_
          refine r_iload_n C (k := 3) dX5_villageTold_169 rfl ?_
          obtain ⟨ha1, ha2⟩ := ha
          have haN : (a).toNat < 10 := by omega
          refine r_iald C ((a).toNat) ok7 (show kd (7, 0, 0) = _ from rfl) (Int.toNat_of_nonneg ha1).symm (by omega) (by decide) dX5_villageTold_170 ?_
          refine r_iretT hT C dX5_villageTold_171 ?_ (by intro k j; first | exact hr0 _ _ | exact rng_st hr0 (by exact ⟨by decide, by decide⟩) _ _) (by intro k hk; funext j; simp [st1, zro, hk])
          rcases (show a = 0 ∨ a = 1 ∨ a = 2 ∨ a = 3 ∨ a = 4 ∨ a = 5 ∨ a = 6 ∨ a = 7 ∨ a = 8 ∨ a = 9 by omega) with rfl | rfl | rfl | rfl | rfl | rfl | rfl | rfl | rfl | rfl
          all_goals first | (obtain rfl : i = (w (3, 0, 0) 2).toNat := (by omega); simp [st1, zro, rvtold, rvt]; done) | (obtain rfl : i = (w (3, 0, 0) 2).toNat := (by omega); simp [st1, zro, rvtold, rvt, bI, *]; done)
      · skip
        refine r_iload_n C (k := 3) dX5_villageTold_14 rfl ?_
        refine r_aload_n C (k := 0) dX5_villageTold_15 rfl ?_
        refine r_getf C 10 (v := .ref (adr G (4, 0, 0))) (ok_of hG (show kd (3, 0, 0) = _ from rfl) (by decide) (by decide)) (show kd (3, 0, 0) = _ from rfl) (by decide) rfl hinX5 (by decide) (by decide +kernel) rfl rfl dX5_villageTold_16 ?_
        refine r_getfN (host := "DrumTalkModel") C 8 (v := .ref (adr G (4, 0, 6))) (ok_of hG (show kd (4, 0, 0) = _ from rfl) (by decide) (by decide)) (show kd (4, 0, 0) = _ from rfl) (by decide) rfl hinX4 (by decide) (by decide +kernel) rfl rfl dX5_villageTold_19 ?_
        refine r_bipush C dX5_villageTold_22 (by decide) ?_
        refine r_iload_n C (k := 1) dX5_villageTold_24 rfl ?_
        refine r_imul C dX5_villageTold_25 ?_
        refine r_iload C (k := 4) dX5_villageTold_26 rfl ?_
        refine r_iadd C dX5_villageTold_28 ?_
        refine r_iald C ((((12 * v) + ((i : Nat) : Int))).toNat) (ok_of hG (show kd (4, 0, 6) = _ from rfl) (by decide) (by decide)) (show kd (4, 0, 6) = _ from rfl) (Int.toNat_of_nonneg (by first | omega | assumption)).symm (by first | omega | assumption) (by decide) dX5_villageTold_29 ?_
        refine r_iconst C dX5_villageTold_30 ?_
        refine r_icmp_ne C (tgt := 38) dX5_villageTold_31 (by decide) (by first | exact hr _ _ | exact hr0 _ _ | exact hrI _ _ | assumption | exact ⟨by omega, by omega⟩) ⟨by decide, by decide⟩ (fun h_3 => ?_) (fun h_3 => ?_)
        · skip
          refine r_iconst C dX5_villageTold_38 ?_
          refine r_iadd C dX5_villageTold_39 ?_
          refine r_istore_n C (i := 3) (lv' := [(3, vI ((rvk w v i + 1))), (0, .ref (adr G (3, 0, 0))), (1, vI (v)), (2, vI (a)), (4, vI (((i : Nat) : Int)))]) dX5_villageTold_40 rfl (by decide) rfl ?_
          refine r_iinc C (k := 4) (lv' := [(4, vI (((i + 1 : Nat) : Int))), (3, vI ((rvk w v i + 1))), (0, .ref (adr G (3, 0, 0))), (1, vI (v)), (2, vI (a))]) dX5_villageTold_41 rfl (by decide) rfl ?_
          refine r_goto C (tgt := 5) dX5_villageTold_44 (by decide) ?_
          have e_4 : w = w := by rfl
          refine Wm.sub (lv' := [(0, .ref (adr G (3, 0, 0))), (1, vI (v)), (2, vI (a)), (3, vI ((rvk w v i + 1))), (4, vI (((i + 1 : Nat) : Int)))]) [2, 3, 4, 1, 0] rfl ?_
          refine Wm.mem (lv' := [(0, .ref (adr G (3, 0, 0))), (1, vI (v)), (2, vI (a)), (3, vI (rvk w v (i + 1))), (4, vI ((((i + 1) : Nat) : Int)))]) e_4 (by (unfold rvk; simp only [sumI]; first | rw [bI_t (by assumption)] | rw [bI_f (fun q => q (by assumption))])) ?_
          exact ih5 ((i + 1)) (by omega) (by omega) (e_4 ▸ hr)
        · skip
          refine r_iconst C dX5_villageTold_34 ?_
          refine r_goto C (tgt := 39) dX5_villageTold_35 (by decide) ?_
          refine r_iadd C dX5_villageTold_39 ?_
          refine r_istore_n C (i := 3) (lv' := [(3, vI ((rvk w v i + 0))), (0, .ref (adr G (3, 0, 0))), (1, vI (v)), (2, vI (a)), (4, vI (((i : Nat) : Int)))]) dX5_villageTold_40 rfl (by decide) rfl ?_
          refine r_iinc C (k := 4) (lv' := [(4, vI (((i + 1 : Nat) : Int))), (3, vI ((rvk w v i + 0))), (0, .ref (adr G (3, 0, 0))), (1, vI (v)), (2, vI (a))]) dX5_villageTold_41 rfl (by decide) rfl ?_
          refine r_goto C (tgt := 5) dX5_villageTold_44 (by decide) ?_
          have e_5 : w = w := by rfl
          refine Wm.sub (lv' := [(0, .ref (adr G (3, 0, 0))), (1, vI (v)), (2, vI (a)), (3, vI ((rvk w v i + 0))), (4, vI (((i + 1 : Nat) : Int)))]) [2, 3, 4, 1, 0] rfl ?_
          refine Wm.mem (lv' := [(0, .ref (adr G (3, 0, 0))), (1, vI (v)), (2, vI (a)), (3, vI (rvk w v (i + 1))), (4, vI ((((i + 1) : Nat) : Int)))]) e_5 (by (unfold rvk; simp only [sumI]; first | rw [bI_t (by assumption)] | rw [bI_f (fun q => q (by assumption))])) ?_
          exact ih5 ((i + 1)) (by omega) (by omega) (e_5 ▸ hr)
  have e_6 : w = w := by rfl
  refine Wm.sub (lv' := [(0, .ref (adr G (3, 0, 0))), (1, vI (v)), (2, vI (a)), (3, vI (0)), (4, vI (0))]) [2, 3, 4, 1, 0] rfl ?_
  refine Wm.mem (lv' := [(0, .ref (adr G (3, 0, 0))), (1, vI (v)), (2, vI (a)), (3, vI (rvk w v 0)), (4, vI (((0 : Nat) : Int)))]) e_6 (by rfl) ?_
  exact loop_5 _ (0) (by omega) (Nat.lt_succ_self _) (e_6 ▸ hr)

set_option maxRecDepth 100000 in
set_option maxHeartbeats 8000000 in
theorem c_X5_counted {l : Launch} {G : Gt} (hG : Gok G)  {w : Mm} {a : Int} (ha : 0 ≤ a ∧ a ≤ 7) (hvb : 0 ≤ w (3, 0, 0) 1 ∧ w (3, 0, 0) 1 ≤ 8) (hpb : 0 ≤ w (3, 0, 0) 2 ∧ w (3, 0, 0) 2 ≤ 12) (hrw : inR (rcw w (w (3, 0, 0) 1).toNat)) (hrp : inR (rprs w 4)) (h71 : ¬ okk G (7, 0, 1)) : Con l G yX5_counted wsX5_counted ({ frames := 2, cells := 1, slots := 8, locals := 45 } : Room) w [.ref (adr G (3, 0, 0)), vI a] (some (vI (rcnt w (a).toNat))) w 1 8 := by
  refine Con.head (cc := cX5_counted) (nL := 5) (ret := (some .int)) hG (by decide +kernel) rfl (Nat.le_of_ble_eq_true rfl) ?_
  intro B A hBl C hr
  have hr0 := hr
  have hrI := hr
  have hinX4 : ∀ w ∈ u_ws RX4 TX4 16, w ∈ wsX5_counted := by decide +kernel
  have hinX5 : ∀ w ∈ u_ws RX5 TX5 12, w ∈ wsX5_counted := by decide +kernel
  obtain ⟨y1, y2⟩ := hvb
  obtain ⟨z1, z2⟩ := hpb
  refine r_iconst C dX5_counted_0 ?_
  refine r_istore_n C (i := 2) (lv' := [(2, vI (0)), (0, .ref (adr G (3, 0, 0))), (1, vI (a))]) dX5_counted_1 rfl (by decide) rfl ?_
  refine r_iconst C dX5_counted_2 ?_
  refine r_istore_n C (i := 3) (lv' := [(3, vI (0)), (2, vI (0)), (0, .ref (adr G (3, 0, 0))), (1, vI (a))]) dX5_counted_3 rfl (by decide) rfl ?_
  refine r_iconst C dX5_counted_4 ?_
  refine r_istore C (i := 4) (lv' := [(4, vI (0)), (3, vI (0)), (2, vI (0)), (0, .ref (adr G (3, 0, 0))), (1, vI (a))]) dX5_counted_5 (by decide) rfl ?_
  have loop_7 : ∀ (nf : Nat) (i : Nat), (i ≤ (w (3, 0, 0) 1).toNat) → (w (3, 0, 0) 1).toNat - i < nf → rng w → Wm B 5 G A (Qe B G A (some (vI (rcnt w (a).toNat))) w 1 8) w 0 0 7 [(0, .ref (adr G (3, 0, 0))), (1, vI (a)), (2, vI (rcd w i)), (3, vI (rcw w i)), (4, vI (((i : Nat) : Int)))] [] := by
    intro n7
    induction n7 with
    | zero => intro i hi hm; exact absurd hm (Nat.not_lt_zero _)
    | succ n7 ih7 =>
      intro i hi hm hr
      have hrI := hr
      have hkn := rcd_b (w := w) i
      refine r_iload C (k := 4) dX5_counted_7 rfl ?_
      refine r_aload_n C (k := 0) dX5_counted_9 rfl ?_
      refine r_getf C 1 (ok_of hG (show kd (3, 0, 0) = _ from rfl) (by decide) (by decide)) (show kd (3, 0, 0) = _ from rfl) (by decide) rfl hinX5 (by decide) (by decide +kernel) rfl rfl dX5_counted_10 ?_
      refine r_icmp_ge C (tgt := 57) dX5_counted_13 (by decide) (by first | exact hr _ _ | exact hr0 _ _ | exact hrI _ _ | assumption | exact ⟨by omega, by omega⟩) (by first | exact hr _ _ | exact hr0 _ _ | exact hrI _ _ | assumption | exact ⟨by omega, by omega⟩) (fun h_1 => ?_) (fun h_1 => ?_)
      · have ei : i = (w (3, 0, 0) 1).toNat := (by omega)
        have hri : inR (rcw w i) := by rw [ei]; exact hrw
        refine r_bipush C dX5_counted_57 (by decide) ?_
        refine r_newtmp C (κ := (7, 0, 1)) (n := 8) (fun G => [(0, .ref (adr G (3, 0, 0))), (1, vI (a)), (2, vI (rcd w i)), (3, vI (rcw w i)), (4, vI (((i : Nat) : Int)))]) hr h71 rfl rfl rfl (by decide) (by decide +kernel) (Nat.le_of_ble_eq_true rfl) (Nat.le_of_ble_eq_true rfl) (fun G9 h9 => by simp [h9]) dX5_counted_59 (fun G hT hG ok7 C hr => ?_)
        refine r_dup C dX5_counted_61 rfl ?_
        refine r_iconst C dX5_counted_62 ?_
        refine r_aload_n C (k := 0) dX5_counted_63 rfl ?_
        refine r_getf C 10 (v := .ref (adr G (4, 0, 0))) (ok_of hG (show kd (3, 0, 0) = _ from rfl) (by decide) (by decide)) (show kd (3, 0, 0) = _ from rfl) (by decide) rfl hinX5 (by decide) (by decide +kernel) rfl rfl dX5_counted_64 ?_
        refine r_getfN (host := "DrumTalkModel") C 0 (ok_of hG (show kd (4, 0, 0) = _ from rfl) (by decide) (by decide)) (show kd (4, 0, 0) = _ from rfl) (by decide) rfl hinX4 (by decide) (by decide +kernel) rfl rfl dX5_counted_67 ?_
        refine Wm.top (z' := w (4, 0, 0) (0)) (by simp [st1, cpy, zro_j]) ?_
        refine r_iast C (0) hr (by first | exact hr _ _ | exact hr0 _ _ | exact hrI _ _ | assumption | exact ⟨by omega, by omega⟩) ok7 (show kd (7, 0, 1) = _ from rfl) rfl (by first | omega | assumption) (by decide) dX5_counted_70 (fun hr => ?_)
        refine r_dup C dX5_counted_71 rfl ?_
        refine r_iconst C dX5_counted_72 ?_
        refine r_aload_n C (k := 0) dX5_counted_73 rfl ?_
        refine r_getf C 1 (ok_of hG (show kd (3, 0, 0) = _ from rfl) (by decide) (by decide)) (show kd (3, 0, 0) = _ from rfl) (by decide) rfl hinX5 (by decide) (by decide +kernel) rfl rfl dX5_counted_74 ?_
        refine Wm.top (z' := w (3, 0, 0) (1)) (by simp [st1, cpy, zro_j]) ?_
        refine r_iast C (1) hr (by first | exact hr _ _ | exact hr0 _ _ | exact hrI _ _ | assumption | exact ⟨by omega, by omega⟩) ok7 (show kd (7, 0, 1) = _ from rfl) rfl (by first | omega | assumption) (by decide) dX5_counted_77 (fun hr => ?_)
        refine r_dup C dX5_counted_78 rfl ?_
        refine r_iconst C dX5_counted_79 ?_
        refine r_aload_n C (k := 0) dX5_counted_80 rfl ?_
        refine r_getf C 2 (ok_of hG (show kd (3, 0, 0) = _ from rfl) (by decide) (by decide)) (show kd (3, 0, 0) = _ from rfl) (by decide) rfl hinX5 (by decide) (by decide +kernel) rfl rfl dX5_counted_81 ?_
        refine Wm.top (z' := w (3, 0, 0) (2)) (by simp [st1, cpy, zro_j]) ?_
        refine r_iast C (2) hr (by first | exact hr _ _ | exact hr0 _ _ | exact hrI _ _ | assumption | exact ⟨by omega, by omega⟩) ok7 (show kd (7, 0, 1) = _ from rfl) rfl (by first | omega | assumption) (by decide) dX5_counted_84 (fun hr => ?_)
        refine r_dup C dX5_counted_85 rfl ?_
        refine r_iconst C dX5_counted_86 ?_
        refine r_iload_n C (k := 2) dX5_counted_87 rfl ?_
        refine r_iast C (3) hr (by first | exact hr _ _ | exact hr0 _ _ | exact hrI _ _ | assumption | exact ⟨by omega, by omega⟩) ok7 (show kd (7, 0, 1) = _ from rfl) rfl (by first | omega | assumption) (by decide) dX5_counted_88 (fun hr => ?_)
        refine r_dup C dX5_counted_89 rfl ?_
        refine r_iconst C dX5_counted_90 ?_
        refine r_aload_n C (k := 0) dX5_counted_91 rfl ?_
        refine r_getf C 10 (v := .ref (adr G (4, 0, 0))) (ok_of hG (show kd (3, 0, 0) = _ from rfl) (by decide) (by decide)) (show kd (3, 0, 0) = _ from rfl) (by decide) rfl hinX5 (by decide) (by decide +kernel) rfl rfl dX5_counted_92 ?_
        refine r_getfN (host := "DrumTalkModel") C 2 (ok_of hG (show kd (4, 0, 0) = _ from rfl) (by decide) (by decide)) (show kd (4, 0, 0) = _ from rfl) (by decide) rfl hinX4 (by decide) (by decide +kernel) rfl rfl dX5_counted_95 ?_
        refine Wm.top (z' := w (4, 0, 0) (2)) (by simp [st1, cpy, zro_j]) ?_
        refine r_iast C (4) hr (by first | exact hr _ _ | exact hr0 _ _ | exact hrI _ _ | assumption | exact ⟨by omega, by omega⟩) ok7 (show kd (7, 0, 1) = _ from rfl) rfl (by first | omega | assumption) (by decide) dX5_counted_98 (fun hr => ?_)
        refine r_dup C dX5_counted_99 rfl ?_
        refine r_iconst C dX5_counted_100 ?_
        refine r_aload_n C (k := 0) dX5_counted_101 rfl ?_
        refine r_getf C 10 (v := .ref (adr G (4, 0, 0))) (ok_of hG (show kd (3, 0, 0) = _ from rfl) (by decide) (by decide)) (show kd (3, 0, 0) = _ from rfl) (by decide) rfl hinX5 (by decide) (by decide +kernel) rfl rfl dX5_counted_102 ?_
        refine r_getfN (host := "DrumTalkModel") C 1 (ok_of hG (show kd (4, 0, 0) = _ from rfl) (by decide) (by decide)) (show kd (4, 0, 0) = _ from rfl) (by decide) rfl hinX4 (by decide) (by decide +kernel) rfl rfl dX5_counted_105 ?_
        refine Wm.top (z' := w (4, 0, 0) (1)) (by simp [st1, cpy, zro_j]) ?_
        refine r_iast C (5) hr (by first | exact hr _ _ | exact hr0 _ _ | exact hrI _ _ | assumption | exact ⟨by omega, by omega⟩) ok7 (show kd (7, 0, 1) = _ from rfl) rfl (by first | omega | assumption) (by decide) dX5_counted_108 (fun hr => ?_)
        refine r_dup C dX5_counted_109 rfl ?_
        refine r_bipush C dX5_counted_110 (by decide) ?_
        refine r_iload_n C (k := 3) dX5_counted_112 rfl ?_
        refine r_iast C (6) hr (by first | exact hr _ _ | exact hr0 _ _ | exact hrI _ _ | assumption | exact ⟨by omega, by omega⟩) ok7 (show kd (7, 0, 1) = _ from rfl) rfl (by first | omega | assumption) (by decide) dX5_counted_113 (fun hr => ?_)
        refine r_dup C dX5_counted_114 rfl ?_
        refine r_bipush C dX5_counted_115 (by decide) ?_
        refine r_aload_n C (k := 0) dX5_counted_117 rfl ?_
        refine r_getf C 10 (v := .ref (adr G (4, 0, 0))) (ok_of hG (show kd (3, 0, 0) = _ from rfl) (by decide) (by decide)) (show kd (3, 0, 0) = _ from rfl) (by decide) rfl hinX5 (by decide) (by decide +kernel) rfl rfl dX5_counted_118 ?_
        refine r_callV C (w' := (st1 (st1 (st1 (st1 (st1 (st1 (st1 (zro w (7, 0, 1)) (7, 0, 1) (0) (w (4, 0, 0) (0))) (7, 0, 1) (1) (w (3, 0, 0) (1))) (7, 0, 1) (2) (w (3, 0, 0) (2))) (7, 0, 1) (3) (rcd w i)) (7, 0, 1) (4) (w (4, 0, 0) (2))) (7, 0, 1) (5) (w (4, 0, 0) (1))) (7, 0, 1) (6) (rcw w i))) [] 0 (c_X4_pairs hG (Or.inl rfl) (by simp [st1, zro]; exact ⟨y1, y2⟩) (by simp [st1, zro]; exact ⟨z1, z2⟩)) gX5_counted_X4_pairs rfl rfl rfl (by decide +kernel) (Nat.le_of_ble_eq_true rfl) (Nat.le_of_ble_eq_true rfl) ⟨(Nat.le_of_ble_eq_true rfl), (Nat.le_of_ble_eq_true rfl)⟩ (ok_of hG (show kd (4, 0, 0) = _ from rfl) (by decide) (by decide)) (show kd (4, 0, 0) = _ from rfl) (by decide) rfl rfl rfl (Nat.le_of_ble_eq_true rfl) (st' := [vI ((rprs w 4)), vI (7), .ref (adr G (7, 0, 1)), .ref (adr G (7, 0, 1))]) rfl dX5_counted_121 (fun hr => ?_)
        refine r_iast C (7) hr (by first | exact hr _ _ | exact hr0 _ _ | exact hrI _ _ | assumption | exact ⟨by omega, by omega⟩) ok7 (show kd (7, 0, 1) = _ from rfl) rfl (by first | omega | assumption) (by decide) dX5_counted_124 (fun hr => ?_)
        refine r_astore C (i := 4) (lv' := [(4, .ref (adr G (7, 0, 1))), (0, .ref (adr G (3, 0, 0))), (1, vI (a)), (2, vI (rcd w i)), (3, vI (rcw w i))]) dX5_counted_125 (by decide) rfl ?_
        refine r_aload C (k := 0) dX5_counted_127 rfl ?_
        refine r_iload_n C (k := 2) dX5_counted_129 rfl ?_
        obtain ⟨ha1, ha2⟩ := ha
        have haN : (a).toNat < 8 := by omega
        refine r_iald C ((a).toNat) ok7 (show kd (7, 0, 1) = _ from rfl) (Int.toNat_of_nonneg ha1).symm (by omega) (by decide) dX5_counted_130 ?_
        refine r_iretT hT C dX5_counted_131 ?_ (by intro k j; first | exact hr0 _ _ | exact rng_st hr0 (by exact ⟨by decide, by decide⟩) _ _) (by intro k hk; funext j; simp [st1, zro, hk])
        rcases (show a = 0 ∨ a = 1 ∨ a = 2 ∨ a = 3 ∨ a = 4 ∨ a = 5 ∨ a = 6 ∨ a = 7 by omega) with rfl | rfl | rfl | rfl | rfl | rfl | rfl | rfl
        all_goals first | (simp [st1, zro, rcnt, ei]; done) | rfl
      · skip
        refine r_iload_n C (k := 2) dX5_counted_16 rfl ?_
        refine r_aload_n C (k := 0) dX5_counted_17 rfl ?_
        refine r_getf C 10 (v := .ref (adr G (4, 0, 0))) (ok_of hG (show kd (3, 0, 0) = _ from rfl) (by decide) (by decide)) (show kd (3, 0, 0) = _ from rfl) (by decide) rfl hinX5 (by decide) (by decide +kernel) rfl rfl dX5_counted_18 ?_
        refine r_getfN (host := "DrumTalkModel") C 4 (v := .ref (adr G (4, 0, 2))) (ok_of hG (show kd (4, 0, 0) = _ from rfl) (by decide) (by decide)) (show kd (4, 0, 0) = _ from rfl) (by decide) rfl hinX4 (by decide) (by decide +kernel) rfl rfl dX5_counted_21 ?_
        refine r_iload C (k := 4) dX5_counted_24 rfl ?_
        refine r_iald C (i) (ok_of hG (show kd (4, 0, 2) = _ from rfl) (by decide) (by decide)) (show kd (4, 0, 2) = _ from rfl) rfl (by first | omega | assumption) (by decide) dX5_counted_26 ?_
        refine r_iconst C dX5_counted_27 ?_
        refine r_icmp_ne C (tgt := 35) dX5_counted_28 (by decide) (by first | exact hr _ _ | exact hr0 _ _ | exact hrI _ _ | assumption | exact ⟨by omega, by omega⟩) ⟨by decide, by decide⟩ (fun h_2 => ?_) (fun h_2 => ?_)
        · skip
          refine r_iconst C dX5_counted_35 ?_
          refine r_iadd C dX5_counted_36 ?_
          refine r_istore_n C (i := 2) (lv' := [(2, vI ((rcd w i + 1))), (0, .ref (adr G (3, 0, 0))), (1, vI (a)), (3, vI (rcw w i)), (4, vI (((i : Nat) : Int)))]) dX5_counted_37 rfl (by decide) rfl ?_
          refine r_iload_n C (k := 3) dX5_counted_38 rfl ?_
          refine r_aload_n C (k := 1) dX5_counted_39 rfl ?_
          refine r_getf C 10 (v := .ref (adr G (4, 0, 0))) (ok_of hG (show kd (3, 0, 0) = _ from rfl) (by decide) (by decide)) (show kd (3, 0, 0) = _ from rfl) (by decide) rfl hinX5 (by decide) (by decide +kernel) rfl rfl dX5_counted_40 ?_
          refine r_getfN (host := "DrumTalkModel") C 9 (v := .ref (adr G (4, 0, 7))) (ok_of hG (show kd (4, 0, 0) = _ from rfl) (by decide) (by decide)) (show kd (4, 0, 0) = _ from rfl) (by decide) rfl hinX4 (by decide) (by decide +kernel) rfl rfl dX5_counted_43 ?_
          refine r_iload C (k := 4) dX5_counted_46 rfl ?_
          refine r_iald C (i) (ok_of hG (show kd (4, 0, 7) = _ from rfl) (by decide) (by decide)) (show kd (4, 0, 7) = _ from rfl) rfl (by first | omega | assumption) (by decide) dX5_counted_48 ?_
          refine r_iadd C dX5_counted_49 ?_
          refine r_istore_n C (i := 3) (lv' := [(3, vI ((rcw w i + w (4, 0, 7) (i)))), (2, vI ((rcd w i + 1))), (0, .ref (adr G (3, 0, 0))), (1, vI (a)), (4, vI (((i : Nat) : Int)))]) dX5_counted_50 rfl (by decide) rfl ?_
          refine r_iinc C (k := 4) (lv' := [(4, vI (((i + 1 : Nat) : Int))), (3, vI ((rcw w i + w (4, 0, 7) (i)))), (2, vI ((rcd w i + 1))), (0, .ref (adr G (3, 0, 0))), (1, vI (a))]) dX5_counted_51 rfl (by decide) rfl ?_
          refine r_goto C (tgt := 7) dX5_counted_54 (by decide) ?_
          have e_3 : w = w := by rfl
          refine Wm.sub (lv' := [(0, .ref (adr G (3, 0, 0))), (1, vI (a)), (2, vI ((rcd w i + 1))), (3, vI ((rcw w i + w (4, 0, 7) (i)))), (4, vI (((i + 1 : Nat) : Int)))]) [3, 4, 2, 1, 0] rfl ?_
          refine Wm.mem (lv' := [(0, .ref (adr G (3, 0, 0))), (1, vI (a)), (2, vI (rcd w (i + 1))), (3, vI (rcw w (i + 1))), (4, vI ((((i + 1) : Nat) : Int)))]) e_3 (by (unfold rcd rcw; simp only [sumI]; first | rw [bI_t (by assumption)] | rw [bI_f (fun q => q (by assumption))])) ?_
          exact ih7 ((i + 1)) (by omega) (by omega) (e_3 ▸ hr)
        · skip
          refine r_iconst C dX5_counted_31 ?_
          refine r_goto C (tgt := 36) dX5_counted_32 (by decide) ?_
          refine r_iadd C dX5_counted_36 ?_
          refine r_istore_n C (i := 2) (lv' := [(2, vI ((rcd w i + 0))), (0, .ref (adr G (3, 0, 0))), (1, vI (a)), (3, vI (rcw w i)), (4, vI (((i : Nat) : Int)))]) dX5_counted_37 rfl (by decide) rfl ?_
          refine r_iload_n C (k := 3) dX5_counted_38 rfl ?_
          refine r_aload_n C (k := 1) dX5_counted_39 rfl ?_
          refine r_getf C 10 (v := .ref (adr G (4, 0, 0))) (ok_of hG (show kd (3, 0, 0) = _ from rfl) (by decide) (by decide)) (show kd (3, 0, 0) = _ from rfl) (by decide) rfl hinX5 (by decide) (by decide +kernel) rfl rfl dX5_counted_40 ?_
          refine r_getfN (host := "DrumTalkModel") C 9 (v := .ref (adr G (4, 0, 7))) (ok_of hG (show kd (4, 0, 0) = _ from rfl) (by decide) (by decide)) (show kd (4, 0, 0) = _ from rfl) (by decide) rfl hinX4 (by decide) (by decide +kernel) rfl rfl dX5_counted_43 ?_
          refine r_iload C (k := 4) dX5_counted_46 rfl ?_
          refine r_iald C (i) (ok_of hG (show kd (4, 0, 7) = _ from rfl) (by decide) (by decide)) (show kd (4, 0, 7) = _ from rfl) rfl (by first | omega | assumption) (by decide) dX5_counted_48 ?_
          refine r_iadd C dX5_counted_49 ?_
          refine r_istore_n C (i := 3) (lv' := [(3, vI ((rcw w i + w (4, 0, 7) (i)))), (2, vI ((rcd w i + 0))), (0, .ref (adr G (3, 0, 0))), (1, vI (a)), (4, vI (((i : Nat) : Int)))]) dX5_counted_50 rfl (by decide) rfl ?_
          refine r_iinc C (k := 4) (lv' := [(4, vI (((i + 1 : Nat) : Int))), (3, vI ((rcw w i + w (4, 0, 7) (i)))), (2, vI ((rcd w i + 0))), (0, .ref (adr G (3, 0, 0))), (1, vI (a))]) dX5_counted_51 rfl (by decide) rfl ?_
          refine r_goto C (tgt := 7) dX5_counted_54 (by decide) ?_
          have e_4 : w = w := by rfl
          refine Wm.sub (lv' := [(0, .ref (adr G (3, 0, 0))), (1, vI (a)), (2, vI ((rcd w i + 0))), (3, vI ((rcw w i + w (4, 0, 7) (i)))), (4, vI (((i + 1 : Nat) : Int)))]) [3, 4, 2, 1, 0] rfl ?_
          refine Wm.mem (lv' := [(0, .ref (adr G (3, 0, 0))), (1, vI (a)), (2, vI (rcd w (i + 1))), (3, vI (rcw w (i + 1))), (4, vI ((((i + 1) : Nat) : Int)))]) e_4 (by (unfold rcd rcw; simp only [sumI]; first | rw [bI_t (by assumption)] | rw [bI_f (fun q => q (by assumption))])) ?_
          exact ih7 ((i + 1)) (by omega) (by omega) (e_4 ▸ hr)
  have e_5 : w = w := by rfl
  refine Wm.sub (lv' := [(0, .ref (adr G (3, 0, 0))), (1, vI (a)), (2, vI (0)), (3, vI (0)), (4, vI (0))]) [3, 4, 2, 1, 0] rfl ?_
  refine Wm.mem (lv' := [(0, .ref (adr G (3, 0, 0))), (1, vI (a)), (2, vI (rcd w 0)), (3, vI (rcw w 0)), (4, vI (((0 : Nat) : Int)))]) e_5 (by rfl) ?_
  exact loop_7 _ (0) (by omega) (Nat.lt_succ_self _) (e_5 ▸ hr)
