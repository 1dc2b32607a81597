set_option maxRecDepth 100000 in
set_option maxHeartbeats 1500000 in
theorem c_X3_knowersIfTold {l : Launch} {G : Gt} (hG : Gok G)  {w : Mm} {v : Int} {p : Int} {i : Nat} {N D N1 D1 B9 : Int} {X : Nat → Int} (hv : lV w v) (hp : 0 ≤ p ∧ p ≤ 11) (hi : i ≤ 23) (hL : LI w 0 N D X) (h1 : LI w 1 N1 D1 (fun _ => B9)) (hB : N ≤ 790000 ∧ D ≤ 790000000 ∧ B9 ≤ 790000000 ∧ ∀ u, u ≤ 7 → X u ≤ B9) : Con l G yX3_knowersIfTold wsX3_knowersIfTold ({ frames := 5, cells := 0, slots := 0, locals := 120 } : Room) w [.ref (adr G (2, 0, 0)), vI v, vI p, vI ((i : Nat) : Int)] (some (vI (s0kno (lki w (v).toNat p i) 1 p))) (lki w (v).toNat p i) 0 0 := by
  refine Con.head (cc := cX3_knowersIfTold) (nL := 5) (ret := (some .int)) hG (by decide +kernel) rfl (Nat.le_of_ble_eq_true rfl) ?_
  intro B A hBl C hr
  have hr0 := hr
  have hrI := hr
  have hinX0 : ∀ w ∈ u_ws RX0 TX0 7, w ∈ wsX3_knowersIfTold := by decide +kernel
  have hinX2 : ∀ w ∈ u_ws RX2 TX2 13, w ∈ wsX3_knowersIfTold := by decide +kernel
  have hinX3 : ∀ w ∈ u_ws RX3 TX3 2, w ∈ wsX3_knowersIfTold := by decide +kernel
  have hL0 := hL
  obtain ⟨⟨v1, v2⟩, ⟨p1, p2⟩, ⟨b1, b2⟩, ⟨d1, d2⟩, htc, hvs⟩ := hL
  obtain ⟨hBn, hBd, hBb, hBx⟩ := hB
  have hLz := hL0
  obtain ⟨hva, hvb⟩ := hv
  have hL1 : LI (s0cp w 1 0) 1 N D (fun u => max (X u) B9) := LI_cp (by decide) hL0 h1
  have hL2 := LI_go i hL1
  have q2 := (hL2.v (v := (v).toNat) (by omega)).2.2.2.2.2.2.2.1
  have q5 := hL2.2.2.1
  have hL3 : LI (lta (s0go 1 i (s0cp w 1 0)).1 (v).toNat p) 1 (N + i) (D + 8 * i) (fun u => max (X u) B9 + 112 * i) := LI_lta hL2 (by omega)
  have hL4 := LI_go (80 - i) hL3
  have hv4 := hL4.1
  refine r_aload_n C (k := 0) dX3_knowersIfTold_0 rfl ?_
  refine r_getf C 1 (v := .ref (adr G (1, 8, 0))) (ok_of hG (show kd (2, 0, 0) = _ from rfl) (by decide) (show (2 : Nat) ≤ 6 by decide)) (show kd (2, 0, 0) = _ from rfl) (by decide) rfl hinX3 (by decide) (by decide +kernel) rfl rfl dX3_knowersIfTold_1 ?_
  refine r_aload_n C (k := 0) dX3_knowersIfTold_4 rfl ?_
  refine r_getf C 0 (v := .ref (adr G (0, 8, 0))) (ok_of hG (show kd (2, 0, 0) = _ from rfl) (by decide) (show (2 : Nat) ≤ 6 by decide)) (show kd (2, 0, 0) = _ from rfl) (by decide) rfl hinX3 (by decide) (by decide +kernel) rfl rfl dX3_knowersIfTold_5 ?_
  refine r_callV C (w' := (s0cp w 1 0)) [.ref (adr G (0, 8, 0))] 1 (c_X0_copy hG (Nat.le_refl 1) (Nat.zero_le 1) (by first | exact hv1 | (exact ⟨by omega, by omega⟩)) (by intro v hv; exact ⟨(hLz.v hv).2.2.1, (hLz.v hv).2.2.2.2.2.2.2.2.2⟩) (by decide)) gX3_knowersIfTold_X0_copy rfl rfl rfl (by decide +kernel) (Nat.le_of_ble_eq_true rfl) (Nat.le_of_ble_eq_true rfl) ⟨(Nat.zero_le _), (Nat.zero_le _)⟩ (ok_of hG (kdl0 (Nat.le_refl 1)) (by decide) (show (1 : Nat) ≤ 6 by decide)) (kdl0 (Nat.le_refl 1)) (by decide) rfl rfl rfl (Nat.le_of_ble_eq_true rfl) (st' := []) rfl dX3_knowersIfTold_8 (fun hr => ?_)
  refine r_aload_n C (k := 0) dX3_knowersIfTold_11 rfl ?_
  refine r_getf C 1 (v := .ref (adr G (1, 8, 0))) (ok_of hG (show kd (2, 0, 0) = _ from rfl) (by decide) (show (2 : Nat) ≤ 6 by decide)) (show kd (2, 0, 0) = _ from rfl) (by decide) rfl hinX3 (by decide) (by decide +kernel) rfl rfl dX3_knowersIfTold_12 ?_
  refine r_iload_n C (k := 3) dX3_knowersIfTold_15 rfl ?_
  refine r_callV C (w' := ((s0go 1 i (s0cp w 1 0)).1)) [vI (((i : Nat) : Int))] 1 (c_X0_letGo hG (Nat.le_refl 1) (by first | exact hL1 | (rw [← eT]; exact hL3)) (by first | (exact ⟨by omega, by omega, fun u hu => by have := hBx u hu; show max (X u) B9 ≤ 800000000; omega⟩) | (exact ⟨by omega, by omega, fun u hu => by have := hBx u hu; show max (X u) B9 + 112 * ((i : Nat) : Int) ≤ 800000000; omega⟩)) (by omega)) gX3_knowersIfTold_X0_letGo rfl rfl rfl (by decide +kernel) (Nat.le_of_ble_eq_true rfl) (Nat.le_of_ble_eq_true rfl) ⟨(Nat.zero_le _), (Nat.zero_le _)⟩ (ok_of hG (kdl0 (Nat.le_refl 1)) (by decide) (show (1 : Nat) ≤ 6 by decide)) (kdl0 (Nat.le_refl 1)) (by decide) rfl rfl rfl (Nat.le_of_ble_eq_true rfl) (st' := [vI (((s0go 1 i (s0cp w 1 0)).2))]) rfl dX3_knowersIfTold_16 (fun hr => ?_)
  refine r_pop C dX3_knowersIfTold_19 rfl ?_
  refine r_aload_n C (k := 0) dX3_knowersIfTold_20 rfl ?_
  refine r_getf C 1 (v := .ref (adr G (1, 8, 0))) (ok_of hG (show kd (2, 0, 0) = _ from rfl) (by decide) (show (2 : Nat) ≤ 6 by decide)) (show kd (2, 0, 0) = _ from rfl) (by decide) rfl hinX3 (by decide) (by decide +kernel) rfl rfl dX3_knowersIfTold_21 ?_
  refine r_getf C 0 (v := .ref (adr G (1, 8, 3))) (ok_of hG (kdl0 (Nat.le_refl 1)) (by decide) (show (1 : Nat) ≤ 6 by decide)) (kdl0 (Nat.le_refl 1)) (by decide) rfl hinX0 (by decide) (by decide +kernel) rfl rfl dX3_knowersIfTold_24 ?_
  refine r_iload_n C (k := 1) dX3_knowersIfTold_27 rfl ?_
  refine r_aald C ((v).toNat) (ok_of hG (kdl3 (Nat.le_refl 1)) (by decide) (show (1 : Nat) ≤ 6 by decide)) (Nat.le_refl 1) (Int.toNat_of_nonneg (by first | omega | assumption)).symm (by first | omega | assumption) dX3_knowersIfTold_28 ?_
  refine r_astore C (i := 4) (lv' := [(4, .ref (adr G (1, (v).toNat, 0))), (0, .ref (adr G (2, 0, 0))), (1, vI (v)), (2, vI (p)), (3, vI (((i : Nat) : Int)))]) dX3_knowersIfTold_29 (by decide) rfl ?_
  refine r_aload C (k := 0) dX3_knowersIfTold_31 rfl ?_
  refine r_getf C 9 (ok_of hG (kdv0 (Nat.le_refl 1) (by omega)) (by decide) (show (1 : Nat) ≤ 6 by decide)) (kdv0 (Nat.le_refl 1) (by omega)) (by decide) rfl hinX2 (by decide) (by decide +kernel) rfl rfl dX3_knowersIfTold_33 ?_
  refine r_iconst C dX3_knowersIfTold_36 ?_
  refine r_icmp_ge C (tgt := 53) dX3_knowersIfTold_37 (by decide) (by first | exact hr _ _ | exact hr0 _ _ | exact hrI _ _ | assumption | exact ⟨by omega, by omega⟩) ⟨by decide, by decide⟩ (fun h_1 => ?_) (fun h_1 => ?_)
  · have eT : (lta (s0go 1 i (s0cp w 1 0)).1 (v).toNat p) = (s0go 1 i (s0cp w 1 0)).1 := if_neg (by omega)
    refine r_aload_n C (k := 1) dX3_knowersIfTold_53 rfl ?_
    refine r_getf C 1 (v := .ref (adr G (1, 8, 0))) (ok_of hG (show kd (2, 0, 0) = _ from rfl) (by decide) (show (2 : Nat) ≤ 6 by decide)) (show kd (2, 0, 0) = _ from rfl) (by decide) rfl hinX3 (by decide) (by decide +kernel) rfl rfl dX3_knowersIfTold_54 ?_
    refine r_bipush C dX3_knowersIfTold_57 (by decide) ?_
    refine r_iload_n C (k := 4) dX3_knowersIfTold_59 rfl ?_
    refine r_isub C dX3_knowersIfTold_60 ?_
    refine Wm.top (z' := ((80 - i : Nat) : Int)) (by first | rfl | omega) ?_
    refine r_callV C (w' := ((s0go 1 (80 - i) ((s0go 1 i (s0cp w 1 0)).1)).1)) [vI (((80 - i : Nat) : Int))] 1 (c_X0_letGo hG (Nat.le_refl 1) (by first | exact hL1 | (rw [← eT]; exact hL3)) (by first | (exact ⟨by omega, by omega, fun u hu => by have := hBx u hu; show max (X u) B9 ≤ 800000000; omega⟩) | (exact ⟨by omega, by omega, fun u hu => by have := hBx u hu; show max (X u) B9 + 112 * ((i : Nat) : Int) ≤ 800000000; omega⟩)) (by omega)) gX3_knowersIfTold_X0_letGo rfl rfl rfl (by decide +kernel) (Nat.le_of_ble_eq_true rfl) (Nat.le_of_ble_eq_true rfl) ⟨(Nat.zero_le _), (Nat.zero_le _)⟩ (ok_of hG (kdl0 (Nat.le_refl 1)) (by decide) (show (1 : Nat) ≤ 6 by decide)) (kdl0 (Nat.le_refl 1)) (by decide) rfl rfl rfl (Nat.le_of_ble_eq_true rfl) (st' := [vI (((s0go 1 (80 - i) ((s0go 1 i (s0cp w 1 0)).1)).2))]) rfl dX3_knowersIfTold_61 (fun hr => ?_)
    refine r_pop C dX3_knowersIfTold_64 rfl ?_
    refine r_aload_n C (k := 1) dX3_knowersIfTold_65 rfl ?_
    refine r_getf C 1 (v := .ref (adr G (1, 8, 0))) (ok_of hG (show kd (2, 0, 0) = _ from rfl) (by decide) (show (2 : Nat) ≤ 6 by decide)) (show kd (2, 0, 0) = _ from rfl) (by decide) rfl hinX3 (by decide) (by decide +kernel) rfl rfl dX3_knowersIfTold_66 ?_
    refine r_iload_n C (k := 3) dX3_knowersIfTold_69 rfl ?_
    refine r_callV C (w' := ((s0go 1 (80 - i) ((s0go 1 i (s0cp w 1 0)).1)).1)) [vI (p)] 1 (c_X0_knowersOf hG (Nat.le_refl 1) (by first | (rw [← eT]; exact hv4)) (by first | assumption | omega | exact hr _ _ | exact hr0 _ _ | exact hrI _ _ | exact ⟨by omega, by omega⟩ | exact bI_inR _ | (simp [st1] <;> omega) | exact rowR.so (by assumption) (by simp))) gX3_knowersIfTold_X0_knowersOf rfl rfl rfl (by decide +kernel) (Nat.le_of_ble_eq_true rfl) (Nat.le_of_ble_eq_true rfl) ⟨(Nat.zero_le _), (Nat.zero_le _)⟩ (ok_of hG (kdl0 (Nat.le_refl 1)) (by decide) (show (1 : Nat) ≤ 6 by decide)) (kdl0 (Nat.le_refl 1)) (by decide) rfl rfl rfl (Nat.le_of_ble_eq_true rfl) (st' := [vI ((s0kno ((s0go 1 (80 - i) ((s0go 1 i (s0cp w 1 0)).1)).1) 1 (p)))]) rfl dX3_knowersIfTold_70 (fun hr => ?_)
    exact r_iret C dX3_knowersIfTold_73 (by (rw [← eT]; rfl)) (by (rw [← eT]; rfl))
  · have eT : (lta (s0go 1 i (s0cp w 1 0)).1 (v).toNat p) = s2take (s0go 1 i (s0cp w 1 0)).1 1 (v).toNat p ((s0go 1 i (s0cp w 1 0)).1 (1, 8, 0) 5) := if_pos (by omega)
    refine r_aload C (k := 0) dX3_knowersIfTold_40 rfl ?_
    refine r_iload_n C (k := 3) dX3_knowersIfTold_42 rfl ?_
    refine r_aload_n C (k := 1) dX3_knowersIfTold_43 rfl ?_
    refine r_getf C 1 (v := .ref (adr G (1, 8, 0))) (ok_of hG (show kd (2, 0, 0) = _ from rfl) (by decide) (show (2 : Nat) ≤ 6 by decide)) (show kd (2, 0, 0) = _ from rfl) (by decide) rfl hinX3 (by decide) (by decide +kernel) rfl rfl dX3_knowersIfTold_44 ?_
    refine r_getf C 5 (ok_of hG (kdl0 (Nat.le_refl 1)) (by decide) (show (1 : Nat) ≤ 6 by decide)) (kdl0 (Nat.le_refl 1)) (by decide) rfl hinX0 (by decide) (by decide +kernel) rfl rfl dX3_knowersIfTold_47 ?_
    refine r_callV C (w' := (s2take ((s0go 1 i (s0cp w 1 0)).1) 1 (v).toNat (p) (((s0go 1 i (s0cp w 1 0)).1) (1, 8, 0) (5)))) [vI (p), vI (((s0go 1 i (s0cp w 1 0)).1) (1, 8, 0) (5))] 2 (c_X2_takeIn hG (Nat.le_refl 1) (by omega) (by exact q2) (by first | assumption | omega | exact hr _ _ | exact hr0 _ _ | exact hrI _ _ | exact ⟨by omega, by omega⟩ | exact bI_inR _ | (simp [st1] <;> omega) | exact rowR.so (by assumption) (by simp)) (by first | assumption | omega | exact hr _ _ | exact hr0 _ _ | exact hrI _ _ | exact ⟨by omega, by omega⟩ | exact bI_inR _ | (simp [st1] <;> omega) | exact rowR.so (by assumption) (by simp))) gX3_knowersIfTold_X2_takeIn rfl rfl rfl (by decide +kernel) (Nat.le_of_ble_eq_true rfl) (Nat.le_of_ble_eq_true rfl) ⟨(Nat.zero_le _), (Nat.zero_le _)⟩ (ok_of hG (kdv0 (Nat.le_refl 1) (by omega)) (by decide) (show (1 : Nat) ≤ 6 by decide)) (kdv0 (Nat.le_refl 1) (by omega)) (by decide) rfl rfl rfl (Nat.le_of_ble_eq_true rfl) (st' := []) rfl dX3_knowersIfTold_50 (fun hr => ?_)
    refine r_aload_n C (k := 1) dX3_knowersIfTold_53 rfl ?_
    refine r_getf C 1 (v := .ref (adr G (1, 8, 0))) (ok_of hG (show kd (2, 0, 0) = _ from rfl) (by decide) (show (2 : Nat) ≤ 6 by decide)) (show kd (2, 0, 0) = _ from rfl) (by decide) rfl hinX3 (by decide) (by decide +kernel) rfl rfl dX3_knowersIfTold_54 ?_
    refine r_bipush C dX3_knowersIfTold_57 (by decide) ?_
    refine r_iload_n C (k := 4) dX3_knowersIfTold_59 rfl ?_
    refine r_isub C dX3_knowersIfTold_60 ?_
    refine Wm.top (z' := ((80 - i : Nat) : Int)) (by first | rfl | omega) ?_
    refine r_callV C (w' := ((s0go 1 (80 - i) (s2take ((s0go 1 i (s0cp w 1 0)).1) 1 (v).toNat (p) (((s0go 1 i (s0cp w 1 0)).1) (1, 8, 0) (5)))).1)) [vI (((80 - i : Nat) : Int))] 1 (c_X0_letGo hG (Nat.le_refl 1) (by first | exact hL1 | (rw [← eT]; exact hL3)) (by first | (exact ⟨by omega, by omega, fun u hu => by have := hBx u hu; show max (X u) B9 ≤ 800000000; omega⟩) | (exact ⟨by omega, by omega, fun u hu => by have := hBx u hu; show max (X u) B9 + 112 * ((i : Nat) : Int) ≤ 800000000; omega⟩)) (by omega)) gX3_knowersIfTold_X0_letGo rfl rfl rfl (by decide +kernel) (Nat.le_of_ble_eq_true rfl) (Nat.le_of_ble_eq_true rfl) ⟨(Nat.zero_le _), (Nat.zero_le _)⟩ (ok_of hG (kdl0 (Nat.le_refl 1)) (by decide) (show (1 : Nat) ≤ 6 by decide)) (kdl0 (Nat.le_refl 1)) (by decide) rfl rfl rfl (Nat.le_of_ble_eq_true rfl) (st' := [vI (((s0go 1 (80 - i) (s2take ((s0go 1 i (s0cp w 1 0)).1) 1 (v).toNat (p) (((s0go 1 i (s0cp w 1 0)).1) (1, 8, 0) (5)))).2))]) rfl dX3_knowersIfTold_61 (fun hr => ?_)
    refine r_pop C dX3_knowersIfTold_64 rfl ?_
    refine r_aload_n C (k := 1) dX3_knowersIfTold_65 rfl ?_
    refine r_getf C 1 (v := .ref (adr G (1, 8, 0))) (ok_of hG (show kd (2, 0, 0) = _ from rfl) (by decide) (show (2 : Nat) ≤ 6 by decide)) (show kd (2, 0, 0) = _ from rfl) (by decide) rfl hinX3 (by decide) (by decide +kernel) rfl rfl dX3_knowersIfTold_66 ?_
    refine r_iload_n C (k := 3) dX3_knowersIfTold_69 rfl ?_
    refine r_callV C (w' := ((s0go 1 (80 - i) (s2take ((s0go 1 i (s0cp w 1 0)).1) 1 (v).toNat (p) (((s0go 1 i (s0cp w 1 0)).1) (1, 8, 0) (5)))).1)) [vI (p)] 1 (c_X0_knowersOf hG (Nat.le_refl 1) (by first | (rw [← eT]; exact hv4)) (by first | assumption | omega | exact hr _ _ | exact hr0 _ _ | exact hrI _ _ | exact ⟨by omega, by omega⟩ | exact bI_inR _ | (simp [st1] <;> omega) | exact rowR.so (by assumption) (by simp))) gX3_knowersIfTold_X0_knowersOf rfl rfl rfl (by decide +kernel) (Nat.le_of_ble_eq_true rfl) (Nat.le_of_ble_eq_true rfl) ⟨(Nat.zero_le _), (Nat.zero_le _)⟩ (ok_of hG (kdl0 (Nat.le_refl 1)) (by decide) (show (1 : Nat) ≤ 6 by decide)) (kdl0 (Nat.le_refl 1)) (by decide) rfl rfl rfl (Nat.le_of_ble_eq_true rfl) (st' := [vI ((s0kno ((s0go 1 (80 - i) (s2take ((s0go 1 i (s0cp w 1 0)).1) 1 (v).toNat (p) (((s0go 1 i (s0cp w 1 0)).1) (1, 8, 0) (5)))).1) 1 (p)))]) rfl dX3_knowersIfTold_70 (fun hr => ?_)
    exact r_iret C dX3_knowersIfTold_73 (by (rw [← eT]; rfl)) (by (rw [← eT]; rfl))

set_option maxRecDepth 100000 in
set_option maxHeartbeats 1500000 in
theorem c_X3_pairsIfLarger {l : Launch} {G : Gt} (hG : Gok G)  {w : Mm} {v : Nat} {n : Int} {N D N1 D1 B9 : Int} {X : Nat → Int} (hv : ((v : Nat) : Int) < w (0, 8, 0) 1) (hn : 1 ≤ n ∧ n ≤ 100) (hd : w (0, v, 0) 2 < 9) (hL : LI w 0 N D X) (h1 : LI w 1 N1 D1 (fun _ => B9)) (hB : N ≤ 790000 ∧ D ≤ 790000000 ∧ B9 ≤ 790000000 ∧ ∀ u, u ≤ 7 → X u ≤ B9) : Con l G yX3_pairsIfLarger wsX3_pairsIfLarger ({ frames := 5, cells := 0, slots := 0, locals := 120 } : Room) w [.ref (adr G (2, 0, 0)), vI ((v : Nat) : Int), vI n] (some (vI (s0prs (lpl w v (n).toNat) 1))) (lpl w v (n).toNat) 0 0 := by
  refine Con.head (cc := cX3_pairsIfLarger) (nL := 3) (ret := (some .int)) hG (by decide +kernel) rfl (Nat.le_of_ble_eq_true rfl) ?_
  intro B A hBl C hr
  have hr0 := hr
  have hrI := hr
  have hinX0 : ∀ w ∈ u_ws RX0 TX0 7, w ∈ wsX3_pairsIfLarger := by decide +kernel
  have hinX2 : ∀ w ∈ u_ws RX2 TX2 13, w ∈ wsX3_pairsIfLarger := by decide +kernel
  have hinX3 : ∀ w ∈ u_ws RX3 TX3 2, w ∈ wsX3_pairsIfLarger := by decide +kernel
  have hL0 := hL
  obtain ⟨⟨v1, v2⟩, ⟨p1, p2⟩, ⟨b1, b2⟩, ⟨d1, d2⟩, htc, hvs⟩ := hL
  obtain ⟨hBn, hBd, hBb, hBx⟩ := hB
  have hLz := hL0
  have hvb := hv
  have hn8 : ¬ v = 8 := by omega
  have hn9 : ¬ 8 = v := by omega
  obtain ⟨hL1, hL4⟩ := LI_lpl (v := v) (n := (n).toNat) hL0 h1 (by omega) hd (by omega)
  have hv4 := hL4.1
  have hd0 := (hL0.v (v := v) (by omega)).2.1
  have hcd := s0cp_d (w := w) (v := v) v2 (by omega)
  refine r_aload_n C (k := 0) dX3_pairsIfLarger_0 rfl ?_
  refine r_getf C 1 (v := .ref (adr G (1, 8, 0))) (ok_of hG (show kd (2, 0, 0) = _ from rfl) (by decide) (show (2 : Nat) ≤ 6 by decide)) (show kd (2, 0, 0) = _ from rfl) (by decide) rfl hinX3 (by decide) (by decide +kernel) rfl rfl dX3_pairsIfLarger_1 ?_
  refine r_aload_n C (k := 0) dX3_pairsIfLarger_4 rfl ?_
  refine r_getf C 0 (v := .ref (adr G (0, 8, 0))) (ok_of hG (show kd (2, 0, 0) = _ from rfl) (by decide) (show (2 : Nat) ≤ 6 by decide)) (show kd (2, 0, 0) = _ from rfl) (by decide) rfl hinX3 (by decide) (by decide +kernel) rfl rfl dX3_pairsIfLarger_5 ?_
  refine r_callV C (w' := (s0cp w 1 0)) [.ref (adr G (0, 8, 0))] 1 (c_X0_copy hG (Nat.le_refl 1) (Nat.zero_le 1) (by first | exact hv1 | (exact ⟨by omega, by omega⟩)) (by intro v hv; exact ⟨(hLz.v hv).2.2.1, (hLz.v hv).2.2.2.2.2.2.2.2.2⟩) (by decide)) gX3_pairsIfLarger_X0_copy rfl rfl rfl (by decide +kernel) (Nat.le_of_ble_eq_true rfl) (Nat.le_of_ble_eq_true rfl) ⟨(Nat.zero_le _), (Nat.zero_le _)⟩ (ok_of hG (kdl0 (Nat.le_refl 1)) (by decide) (show (1 : Nat) ≤ 6 by decide)) (kdl0 (Nat.le_refl 1)) (by decide) rfl rfl rfl (Nat.le_of_ble_eq_true rfl) (st' := []) rfl dX3_pairsIfLarger_8 (fun hr => ?_)
  refine r_aload_n C (k := 0) dX3_pairsIfLarger_11 rfl ?_
  refine r_getf C 1 (v := .ref (adr G (1, 8, 0))) (ok_of hG (show kd (2, 0, 0) = _ from rfl) (by decide) (show (2 : Nat) ≤ 6 by decide)) (show kd (2, 0, 0) = _ from rfl) (by decide) rfl hinX3 (by decide) (by decide +kernel) rfl rfl dX3_pairsIfLarger_12 ?_
  refine r_getf C 0 (v := .ref (adr G (1, 8, 3))) (ok_of hG (kdl0 (Nat.le_refl 1)) (by decide) (show (1 : Nat) ≤ 6 by decide)) (kdl0 (Nat.le_refl 1)) (by decide) rfl hinX0 (by decide) (by decide +kernel) rfl rfl dX3_pairsIfLarger_15 ?_
  refine r_iload_n C (k := 1) dX3_pairsIfLarger_18 rfl ?_
  refine r_aald C (v) (ok_of hG (kdl3 (Nat.le_refl 1)) (by decide) (show (1 : Nat) ≤ 6 by decide)) (Nat.le_refl 1) rfl (by first | omega | assumption) dX3_pairsIfLarger_19 ?_
  refine r_dup C dX3_pairsIfLarger_20 rfl ?_
  refine r_getf C 2 (ok_of hG (kdv0 (Nat.le_refl 1) (by omega)) (by decide) (show (1 : Nat) ≤ 6 by decide)) (kdv0 (Nat.le_refl 1) (by omega)) (by decide) rfl hinX2 (by decide) (by decide +kernel) rfl rfl dX3_pairsIfLarger_21 ?_
  refine r_iconst C dX3_pairsIfLarger_24 ?_
  refine r_iadd C dX3_pairsIfLarger_25 ?_
  refine r_putf C 2 hr (by first | exact hr _ _ | exact hr0 _ _ | exact hrI _ _ | assumption | exact ⟨by omega, by omega⟩) (ok_of hG (kdv0 (Nat.le_refl 1) (by omega)) (by decide) (show (1 : Nat) ≤ 6 by decide)) (kdv0 (Nat.le_refl 1) (by omega)) (by decide) rfl hinX2 tyX2_ok nmX2 (by decide) (by decide +kernel) rfl rfl (ty := .int) (by decide +kernel) rfl rfl rfl (Nat.le_of_ble_eq_true rfl) dX3_pairsIfLarger_26 (fun hr => ?_)
  refine r_aload_n C (k := 0) dX3_pairsIfLarger_29 rfl ?_
  refine r_getf C 1 (v := .ref (adr G (1, 8, 0))) (ok_of hG (show kd (2, 0, 0) = _ from rfl) (by decide) (show (2 : Nat) ≤ 6 by decide)) (show kd (2, 0, 0) = _ from rfl) (by decide) rfl hinX3 (by decide) (by decide +kernel) rfl rfl dX3_pairsIfLarger_30 ?_
  refine r_iload_n C (k := 2) dX3_pairsIfLarger_33 rfl ?_
  refine Wm.top (z' := (((n).toNat : Nat) : Int)) (by first | rfl | omega) ?_
  refine r_callV C (w' := ((s0go 1 (n).toNat (st1 (s0cp w 1 0) (1, v, 0) (2) (((s0cp w 1 0) (1, v, 0) (2) + 1)))).1)) [vI ((((n).toNat : Nat) : Int))] 1 (c_X0_letGo hG (Nat.le_refl 1) (by exact hL1) (by exact ⟨by omega, by omega, fun u hu => by have := hBx u hu; show max (X u) B9 ≤ 800000000; omega⟩) (by omega)) gX3_pairsIfLarger_X0_letGo rfl rfl rfl (by decide +kernel) (Nat.le_of_ble_eq_true rfl) (Nat.le_of_ble_eq_true rfl) ⟨(Nat.zero_le _), (Nat.zero_le _)⟩ (ok_of hG (kdl0 (Nat.le_refl 1)) (by decide) (show (1 : Nat) ≤ 6 by decide)) (kdl0 (Nat.le_refl 1)) (by decide) rfl rfl rfl (Nat.le_of_ble_eq_true rfl) (st' := [vI (((s0go 1 (n).toNat (st1 (s0cp w 1 0) (1, v, 0) (2) (((s0cp w 1 0) (1, v, 0) (2) + 1)))).2))]) rfl dX3_pairsIfLarger_34 (fun hr => ?_)
  refine r_pop C dX3_pairsIfLarger_37 rfl ?_
  refine r_aload_n C (k := 0) dX3_pairsIfLarger_38 rfl ?_
  refine r_getf C 1 (v := .ref (adr G (1, 8, 0))) (ok_of hG (show kd (2, 0, 0) = _ from rfl) (by decide) (show (2 : Nat) ≤ 6 by decide)) (show kd (2, 0, 0) = _ from rfl) (by decide) rfl hinX3 (by decide) (by decide +kernel) rfl rfl dX3_pairsIfLarger_39 ?_
  refine r_callV C (w' := ((s0go 1 (n).toNat (st1 (s0cp w 1 0) (1, v, 0) (2) (((s0cp w 1 0) (1, v, 0) (2) + 1)))).1)) [] 0 (c_X0_knownPairs hG (Nat.le_refl 1) (by exact hv4)) gX3_pairsIfLarger_X0_knownPairs rfl rfl rfl (by decide +kernel) (Nat.le_of_ble_eq_true rfl) (Nat.le_of_ble_eq_true rfl) ⟨(Nat.zero_le _), (Nat.zero_le _)⟩ (ok_of hG (kdl0 (Nat.le_refl 1)) (by decide) (show (1 : Nat) ≤ 6 by decide)) (kdl0 (Nat.le_refl 1)) (by decide) rfl rfl rfl (Nat.le_of_ble_eq_true rfl) (st' := [vI ((s0prs ((s0go 1 (n).toNat (st1 (s0cp w 1 0) (1, v, 0) (2) (((s0cp w 1 0) (1, v, 0) (2) + 1)))).1) 1))]) rfl dX3_pairsIfLarger_42 (fun hr => ?_)
  exact r_iret C dX3_pairsIfLarger_45 (by rfl) (by rfl)

set_option maxRecDepth 100000 in
set_option maxHeartbeats 1500000 in
theorem c_X3_reaches {l : Launch} {G : Gt} (hG : Gok G) (hl9 : l.stackTraces = false)  {w : Mm} {v : Int} {p : Int} {N D N1 D1 B9 : Int} {X : Nat → Int} (hv : inR v) (hp : inR p) (hL : LI w 0 N D X) (h1 : LI w 1 N1 D1 (fun _ => B9)) (hB : N ≤ 700000 ∧ D ≤ 700000000 ∧ B9 ≤ 700000000 ∧ ∀ u, u ≤ 7 → X u ≤ B9) : ConX l G yX3_reaches wsX3_reaches ({ frames := 7, cells := 2, slots := 12, locals := 120 } : Room) w [.ref (adr G (2, 0, 0)), vI v, vI p] ((if lV w v ∧ lP w p then none else eI)) (some (vI ((if lst (s0cp w 1 0) (v).toNat p 201 0 ≤ 200 then ((lst (s0cp w 1 0) (v).toNat p 201 0 : Nat) : Int) else -1)))) (lgo (s0cp w 1 0) (lst (s0cp w 1 0) (v).toNat p 201 0)) 2 12 := by
  refine ConX.head (cc := cX3_reaches) (nL := 5) (ret := (some .int)) hG (by decide +kernel) rfl (Nat.le_of_ble_eq_true rfl) ?_
  intro B A hBl hxt C hr
  have hB9 : B.2.1.stackTraces = false := by rw [hBl]; exact hl9
  have hr0 := hr
  have hrI := hr
  have hinX0 : ∀ w ∈ u_ws RX0 TX0 7, w ∈ wsX3_reaches := by decide +kernel
  have hinX3 : ∀ w ∈ u_ws RX3 TX3 2, w ∈ wsX3_reaches := by decide +kernel
  have hL0 := hL
  obtain ⟨⟨v1, v2⟩, ⟨p1, p2⟩, ⟨b1, b2⟩, ⟨d1, d2⟩, htc, hvs⟩ := hL
  obtain ⟨hBn, hBd, hBb, hBx⟩ := hB
  have hLz := hL0
  have hL1 : LI (s0cp w 1 0) 1 N D (fun u => max (X u) B9) := LI_cp (by decide) hL0 h1
  have hLg : ∀ k : Nat, LI (lgo (s0cp w 1 0) k) 1 (N + k) (D + 8 * k) (fun u => max (X u) B9 + 112 * k) := fun k => by
    induction k with
    | zero => exact hL1.mono (by simp) (by simp) (fun u _ => by simp)
    | succ k ih => exact (LI_go 1 ih).mono (by omega) (by omega) (fun u _ => by show max (X u) B9 + 112 * (k : Int) + 112 * ((1 : Nat) : Int) ≤ max (X u) B9 + 112 * ((k + 1 : Nat) : Int); omega)
  refine r_aload_n C (k := 0) dX3_reaches_0 rfl ?_
  refine r_iload_n C (k := 1) dX3_reaches_1 rfl ?_
  refine r_callVX C hxt (w' := w) [vI (v)] 1 (c_X3_checkVillage hG hB9 (by first | assumption | omega | exact hr _ _ | exact hr0 _ _ | exact hrI _ _ | exact ⟨by omega, by omega⟩ | exact bI_inR _ | (simp [st1] <;> omega) | exact rowR.so (by assumption) (by simp))) (by intro E9 h9; revert h9; (repeat' split) <;> first | exact fun h => h | (exfalso; omega) | (intro h; cases h; done) | (exfalso; simp_all; done)) rfl (Nat.le_of_ble_eq_true rfl) (Nat.le_of_ble_eq_true rfl) gX3_reaches_X3_checkVillage rfl rfl rfl (by decide +kernel) (Nat.le_of_ble_eq_true rfl) (Nat.le_of_ble_eq_true rfl) ⟨(Nat.le_of_ble_eq_true rfl), (Nat.le_of_ble_eq_true rfl)⟩ (ok_of hG (show kd (2, 0, 0) = _ from rfl) (by decide) (show (2 : Nat) ≤ 6 by decide)) (show kd (2, 0, 0) = _ from rfl) (by decide) rfl rfl rfl (Nat.le_of_ble_eq_true rfl) (st' := []) rfl dX3_reaches_2 (fun ho9 hr => ?_)
  obtain ⟨xa_1, xb_1⟩ := iteN ho9
  refine r_aload_n C (k := 0) dX3_reaches_5 rfl ?_
  refine r_iload_n C (k := 2) dX3_reaches_6 rfl ?_
  refine r_callVX C hxt (w' := w) [vI (p)] 1 (c_X3_checkPhrase hG hB9 (by first | assumption | omega | exact hr _ _ | exact hr0 _ _ | exact hrI _ _ | exact ⟨by omega, by omega⟩ | exact bI_inR _ | (simp [st1] <;> omega) | exact rowR.so (by assumption) (by simp))) (by intro E9 h9; revert h9; (repeat' split) <;> first | exact fun h => h | (exfalso; omega) | (intro h; cases h; done) | (exfalso; simp_all; done)) rfl (Nat.le_of_ble_eq_true rfl) (Nat.le_of_ble_eq_true rfl) gX3_reaches_X3_checkPhrase rfl rfl rfl (by decide +kernel) (Nat.le_of_ble_eq_true rfl) (Nat.le_of_ble_eq_true rfl) ⟨(Nat.le_of_ble_eq_true rfl), (Nat.le_of_ble_eq_true rfl)⟩ (ok_of hG (show kd (2, 0, 0) = _ from rfl) (by decide) (show (2 : Nat) ≤ 6 by decide)) (show kd (2, 0, 0) = _ from rfl) (by decide) rfl rfl rfl (Nat.le_of_ble_eq_true rfl) (st' := []) rfl dX3_reaches_7 (fun ho9 hr => ?_)
  obtain ⟨xa_2, xb_2⟩ := iteN ho9
  have hVp : lV w v ∧ lP w p := ⟨⟨by omega, by omega⟩, ⟨by omega, by omega⟩⟩
  refine r_aload_n C (k := 0) dX3_reaches_10 rfl ?_
  refine r_getf C 1 (v := .ref (adr G (1, 8, 0))) (ok_of hG (show kd (2, 0, 0) = _ from rfl) (by decide) (show (2 : Nat) ≤ 6 by decide)) (show kd (2, 0, 0) = _ from rfl) (by decide) rfl hinX3 (by decide) (by decide +kernel) rfl rfl dX3_reaches_11 ?_
  refine r_aload_n C (k := 0) dX3_reaches_14 rfl ?_
  refine r_getf C 0 (v := .ref (adr G (0, 8, 0))) (ok_of hG (show kd (2, 0, 0) = _ from rfl) (by decide) (show (2 : Nat) ≤ 6 by decide)) (show kd (2, 0, 0) = _ from rfl) (by decide) rfl hinX3 (by decide) (by decide +kernel) rfl rfl dX3_reaches_15 ?_
  refine r_callV C (w' := (s0cp w 1 0)) [.ref (adr G (0, 8, 0))] 1 (c_X0_copy hG (Nat.le_refl 1) (Nat.zero_le 1) (by first | exact hv1 | (exact ⟨by omega, by omega⟩)) (by intro v hv; exact ⟨(hLz.v hv).2.2.1, (hLz.v hv).2.2.2.2.2.2.2.2.2⟩) (by decide)) gX3_reaches_X0_copy rfl rfl rfl (by decide +kernel) (Nat.le_of_ble_eq_true rfl) (Nat.le_of_ble_eq_true rfl) ⟨(Nat.le_of_ble_eq_true rfl), (Nat.le_of_ble_eq_true rfl)⟩ (ok_of hG (kdl0 (Nat.le_refl 1)) (by decide) (show (1 : Nat) ≤ 6 by decide)) (kdl0 (Nat.le_refl 1)) (by decide) rfl rfl rfl (Nat.le_of_ble_eq_true rfl) (st' := []) rfl dX3_reaches_18 (fun hr => ?_)
  refine r_aload_n C (k := 0) dX3_reaches_21 rfl ?_
  refine r_getf C 1 (v := .ref (adr G (1, 8, 0))) (ok_of hG (show kd (2, 0, 0) = _ from rfl) (by decide) (show (2 : Nat) ≤ 6 by decide)) (show kd (2, 0, 0) = _ from rfl) (by decide) rfl hinX3 (by decide) (by decide +kernel) rfl rfl dX3_reaches_22 ?_
  refine r_getf C 0 (v := .ref (adr G (1, 8, 3))) (ok_of hG (kdl0 (Nat.le_refl 1)) (by decide) (show (1 : Nat) ≤ 6 by decide)) (kdl0 (Nat.le_refl 1)) (by decide) rfl hinX0 (by decide) (by decide +kernel) rfl rfl dX3_reaches_25 ?_
  refine r_iload_n C (k := 1) dX3_reaches_28 rfl ?_
  refine r_aald C ((v).toNat) (ok_of hG (kdl3 (Nat.le_refl 1)) (by decide) (show (1 : Nat) ≤ 6 by decide)) (Nat.le_refl 1) (Int.toNat_of_nonneg (by first | omega | assumption)).symm (by first | omega | assumption) dX3_reaches_29 ?_
  refine r_astore_n C (i := 3) (lv' := [(3, .ref (adr G (1, (v).toNat, 0))), (0, .ref (adr G (2, 0, 0))), (1, vI (v)), (2, vI (p))]) dX3_reaches_30 rfl (by decide) rfl ?_
  refine r_iconst C dX3_reaches_31 ?_
  refine r_istore C (i := 4) (lv' := [(4, vI (0)), (3, .ref (adr G (1, (v).toNat, 0))), (0, .ref (adr G (2, 0, 0))), (1, vI (v)), (2, vI (p))]) dX3_reaches_32 (by decide) rfl ?_
  have loop_34 : ∀ (nf : Nat) (k : Nat), (k ≤ 201) → (lst (s0cp w 1 0) (v).toNat p (201 - k) k = lst (s0cp w 1 0) (v).toNat p 201 0) → 201 - k < nf → rng (lgo (s0cp w 1 0) k) → Wm B 5 G A (Qex B G A ((if lV w v ∧ lP w p then none else eI)) (some (vI ((if lst (s0cp w 1 0) (v).toNat p 201 0 ≤ 200 then ((lst (s0cp w 1 0) (v).toNat p 201 0 : Nat) : Int) else -1)))) w (lgo (s0cp w 1 0) (lst (s0cp w 1 0) (v).toNat p 201 0)) 2 12) (lgo (s0cp w 1 0) k) (2) (12) 34 [(0, .ref (adr G (2, 0, 0))), (1, vI (v)), (2, vI (p)), (3, .ref (adr G (1, (v).toNat, 0))), (4, vI (((k : Nat) : Int)))] [] := by
    intro n34
    induction n34 with
    | zero => intro k hk hq hm; exact absurd hm (Nat.not_lt_zero _)
    | succ n34 ih34 =>
      intro k hk hq hm hr
      have hrI := hr
      have hLk := hLg k
      refine r_iload C (k := 4) dX3_reaches_34 rfl ?_
      refine r_sipush C dX3_reaches_36 (by decide) ?_
      refine r_icmp_gt C (tgt := 68) dX3_reaches_39 (by decide) (by first | exact hr _ _ | exact hr0 _ _ | exact hrI _ _ | assumption | exact ⟨by omega, by omega⟩) ⟨by decide, by decide⟩ (fun h_3 => ?_) (fun h_3 => ?_)
      · skip
        refine r_iconst C dX3_reaches_68 ?_
        refine Wm.x (by exact if_pos hVp) (Nat.le_of_ble_eq_true rfl) (Nat.le_of_ble_eq_true rfl) ?_
        exact r_iret C dX3_reaches_69 (by rw [← hq, lst_0 (by omega), if_neg (by omega)]) (by rw [← hq, lst_0 (by omega)])
      · skip
        refine r_aload_n C (k := 3) dX3_reaches_42 rfl ?_
        refine r_iload_n C (k := 2) dX3_reaches_43 rfl ?_
        refine r_callV C (w' := (lgo (s0cp w 1 0) k)) [vI (p)] 1 (c_X2_isKnown hG (Nat.le_refl 1) (by omega) (by first | assumption | omega | exact hr _ _ | exact hr0 _ _ | exact hrI _ _ | exact ⟨by omega, by omega⟩ | exact bI_inR _ | (simp [st1] <;> omega) | exact rowR.so (by assumption) (by simp))) gX3_reaches_X2_isKnown rfl rfl rfl (by decide +kernel) (Nat.le_of_ble_eq_true rfl) (Nat.le_of_ble_eq_true rfl) ⟨(Nat.le_of_ble_eq_true rfl), (Nat.le_of_ble_eq_true rfl)⟩ (ok_of hG (kdv0 (Nat.le_refl 1) (by omega)) (by decide) (show (1 : Nat) ≤ 6 by decide)) (kdv0 (Nat.le_refl 1) (by omega)) (by decide) rfl rfl rfl (Nat.le_of_ble_eq_true rfl) (st' := [vI (bI (kno (lgo (s0cp w 1 0) k) 1 (v).toNat (p)))]) rfl dX3_reaches_44 (fun hr => ?_)
        refine r_if_eqP C (P := kno (lgo (s0cp w 1 0) k) 1 (v).toNat (p)) (tgt := 53) dX3_reaches_47 (by decide) (fun h_4 => ?_) (fun h_4 => ?_)
        · skip
          refine r_aload_n C (k := 0) dX3_reaches_53 rfl ?_
          refine r_getf C 1 (v := .ref (adr G (1, 8, 0))) (ok_of hG (show kd (2, 0, 0) = _ from rfl) (by decide) (show (2 : Nat) ≤ 6 by decide)) (show kd (2, 0, 0) = _ from rfl) (by decide) rfl hinX3 (by decide) (by decide +kernel) rfl rfl dX3_reaches_54 ?_
          refine r_iconst C dX3_reaches_57 ?_
          refine Wm.top (z' := ((1 : Nat) : Int)) (by first | rfl | omega) ?_
          refine r_callV C (w' := ((s0go 1 1 (lgo (s0cp w 1 0) k)).1)) [vI (((1 : Nat) : Int))] 1 (c_X0_letGo hG (Nat.le_refl 1) (by exact hLk) (by exact ⟨by omega, by omega, fun u hu => by have := hBx u hu; show max (X u) B9 + 112 * (k : Int) ≤ 800000000; omega⟩) (by omega)) gX3_reaches_X0_letGo rfl rfl rfl (by decide +kernel) (Nat.le_of_ble_eq_true rfl) (Nat.le_of_ble_eq_true rfl) ⟨(Nat.le_of_ble_eq_true rfl), (Nat.le_of_ble_eq_true rfl)⟩ (ok_of hG (kdl0 (Nat.le_refl 1)) (by decide) (show (1 : Nat) ≤ 6 by decide)) (kdl0 (Nat.le_refl 1)) (by decide) rfl rfl rfl (Nat.le_of_ble_eq_true rfl) (st' := [vI (((s0go 1 1 (lgo (s0cp w 1 0) k)).2))]) rfl dX3_reaches_58 (fun hr => ?_)
          refine r_pop C dX3_reaches_61 rfl ?_
          refine r_iinc C (k := 4) (lv' := [(4, vI (((k + 1 : Nat) : Int))), (0, .ref (adr G (2, 0, 0))), (1, vI (v)), (2, vI (p)), (3, .ref (adr G (1, (v).toNat, 0)))]) dX3_reaches_62 rfl (by decide) rfl ?_
          refine r_goto C (tgt := 34) dX3_reaches_65 (by decide) ?_
          have e_5 : ((s0go 1 1 (lgo (s0cp w 1 0) k)).1) = (lgo (s0cp w 1 0) (k + 1)) := by rfl
          refine Wm.sub (lv' := [(0, .ref (adr G (2, 0, 0))), (1, vI (v)), (2, vI (p)), (3, .ref (adr G (1, (v).toNat, 0))), (4, vI (((k + 1 : Nat) : Int)))]) [1, 2, 3, 4, 0] rfl ?_
          refine Wm.mem (lv' := [(0, .ref (adr G (2, 0, 0))), (1, vI (v)), (2, vI (p)), (3, .ref (adr G (1, (v).toNat, 0))), (4, vI ((((k + 1) : Nat) : Int)))]) e_5 (by rfl) ?_
          refine Wm.widen (c2 := 2) (s2 := 12) (by omega) (by omega) ?_
          exact ih34 ((k + 1)) (by omega) (by rw [← hq]; exact (lst_n (by omega) (by assumption)).symm) (by omega) (e_5 ▸ hr)
        · skip
          refine r_iload C (k := 4) dX3_reaches_50 rfl ?_
          refine Wm.x (by exact if_pos hVp) (Nat.le_of_ble_eq_true rfl) (Nat.le_of_ble_eq_true rfl) ?_
          exact r_iret C dX3_reaches_52 (by rw [← hq, lst_e (by omega) (by assumption), if_pos (by omega)]) (by rw [← hq, lst_e (by omega) (by assumption)])
  have e_6 : (s0cp w 1 0) = (lgo (s0cp w 1 0) 0) := by rfl
  refine Wm.sub (lv' := [(0, .ref (adr G (2, 0, 0))), (1, vI (v)), (2, vI (p)), (3, .ref (adr G (1, (v).toNat, 0))), (4, vI (0))]) [2, 3, 4, 1, 0] rfl ?_
  refine Wm.mem (lv' := [(0, .ref (adr G (2, 0, 0))), (1, vI (v)), (2, vI (p)), (3, .ref (adr G (1, (v).toNat, 0))), (4, vI (((0 : Nat) : Int)))]) e_6 (by rfl) ?_
  refine Wm.widen (c2 := 2) (s2 := 12) (by omega) (by omega) ?_
  exact loop_34 _ (0) (by omega) (by rfl) (Nat.lt_succ_self _) (e_6 ▸ hr)

set_option maxRecDepth 100000 in
set_option maxHeartbeats 1500000 in
theorem c_X3_best {l : Launch} {G : Gt} (hG : Gok G) (hl9 : l.stackTraces = false)  {w : Mm} {v : Int} {p : Int} {N D N1 D1 B9 : Int} {X : Nat → Int} (hv : inR v) (hp : inR p) (hL : LI w 0 N D X) (h1 : LI w 1 N1 D1 (fun _ => B9)) (hB : N ≤ 700000 ∧ D ≤ 700000000 ∧ B9 ≤ 700000000 ∧ ∀ u, u ≤ 7 → X u ≤ B9) : ConX l G yX3_best wsX3_best ({ frames := 7, cells := 2, slots := 12, locals := 144 } : Room) w [.ref (adr G (2, 0, 0)), vI v, vI p] ((if lV w v ∧ lP w p then none else eI)) (some (vI ((lbs (s0go 1 80 (s0cp w 1 0)).1 (s0kno (s0go 1 80 (s0cp w 1 0)).1 1 p) (v).toNat p 24).2.1))) ((lbs (s0go 1 80 (s0cp w 1 0)).1 (s0kno (s0go 1 80 (s0cp w 1 0)).1 1 p) (v).toNat p 24).1) 2 12 := by
  refine ConX.head (cc := cX3_best) (nL := 7) (ret := (some .int)) hG (by decide +kernel) rfl (Nat.le_of_ble_eq_true rfl) ?_
  intro B A hBl hxt C hr
  have hB9 : B.2.1.stackTraces = false := by rw [hBl]; exact hl9
  have hr0 := hr
  have hrI := hr
  have hinX3 : ∀ w ∈ u_ws RX3 TX3 2, w ∈ wsX3_best := by decide +kernel
  have hL0 := hL
  obtain ⟨⟨v1, v2⟩, ⟨p1, p2⟩, ⟨b1, b2⟩, ⟨d1, d2⟩, htc, hvs⟩ := hL
  obtain ⟨hBn, hBd, hBb, hBx⟩ := hB
  have hLz := hL0
  have hL1 : LI (s0cp w 1 0) 1 N D (fun u => max (X u) B9) := LI_cp (by decide) hL0 h1
  have hL2 : LI (s0go 1 80 (s0cp w 1 0)).1 1 (N + 80) (D + 640) (fun _ => B9 + 8960) := (LI_go 80 hL1).mono (by omega) (by omega) (fun u hu => by have := hBx u hu; show max (X u) B9 + 112 * ((80 : Nat) : Int) ≤ B9 + 8960; omega)
  have hv4 := hL2.1
  have s8 : sloc 1 w (s0go 1 80 (s0cp w 1 0)).1 := s0cp_sl.tr (s0go_sl _)
  have h00 : LI (s0go 1 80 (s0cp w 1 0)).1 0 N D X := hL0.sl s8 (by decide)
  have kb0 := s0kno_b (p := p) hv4
  refine r_aload_n C (k := 0) dX3_best_0 rfl ?_
  refine r_iload_n C (k := 1) dX3_best_1 rfl ?_
  refine r_callVX C hxt (w' := w) [vI (v)] 1 (c_X3_checkVillage hG hB9 (by first | assumption | omega | exact hr _ _ | exact hr0 _ _ | exact hrI _ _ | exact ⟨by omega, by omega⟩ | exact bI_inR _ | (simp [st1] <;> omega) | exact rowR.so (by assumption) (by simp))) (by intro E9 h9; revert h9; (repeat' split) <;> first | exact fun h => h | (exfalso; omega) | (intro h; cases h; done) | (exfalso; simp_all; done)) rfl (Nat.le_of_ble_eq_true rfl) (Nat.le_of_ble_eq_true rfl) gX3_best_X3_checkVillage rfl rfl rfl (by decide +kernel) (Nat.le_of_ble_eq_true rfl) (Nat.le_of_ble_eq_true rfl) ⟨(Nat.le_of_ble_eq_true rfl), (Nat.le_of_ble_eq_true rfl)⟩ (ok_of hG (show kd (2, 0, 0) = _ from rfl) (by decide) (show (2 : Nat) ≤ 6 by decide)) (show kd (2, 0, 0) = _ from rfl) (by decide) rfl rfl rfl (Nat.le_of_ble_eq_true rfl) (st' := []) rfl dX3_best_2 (fun ho9 hr => ?_)
  obtain ⟨xa_1, xb_1⟩ := iteN ho9
  refine r_aload_n C (k := 0) dX3_best_5 rfl ?_
  refine r_iload_n C (k := 2) dX3_best_6 rfl ?_
  refine r_callVX C hxt (w' := w) [vI (p)] 1 (c_X3_checkPhrase hG hB9 (by first | assumption | omega | exact hr _ _ | exact hr0 _ _ | exact hrI _ _ | exact ⟨by omega, by omega⟩ | exact bI_inR _ | (simp [st1] <;> omega) | exact rowR.so (by assumption) (by simp))) (by intro E9 h9; revert h9; (repeat' split) <;> first | exact fun h => h | (exfalso; omega) | (intro h; cases h; done) | (exfalso; simp_all; done)) rfl (Nat.le_of_ble_eq_true rfl) (Nat.le_of_ble_eq_true rfl) gX3_best_X3_checkPhrase rfl rfl rfl (by decide +kernel) (Nat.le_of_ble_eq_true rfl) (Nat.le_of_ble_eq_true rfl) ⟨(Nat.le_of_ble_eq_true rfl), (Nat.le_of_ble_eq_true rfl)⟩ (ok_of hG (show kd (2, 0, 0) = _ from rfl) (by decide) (show (2 : Nat) ≤ 6 by decide)) (show kd (2, 0, 0) = _ from rfl) (by decide) rfl rfl rfl (Nat.le_of_ble_eq_true rfl) (st' := []) rfl dX3_best_7 (fun ho9 hr => ?_)
  obtain ⟨xa_2, xb_2⟩ := iteN ho9
  have hVp : lV w v ∧ lP w p := ⟨⟨by omega, by omega⟩, ⟨by omega, by omega⟩⟩
  refine r_aload_n C (k := 0) dX3_best_10 rfl ?_
  refine r_getf C 1 (v := .ref (adr G (1, 8, 0))) (ok_of hG (show kd (2, 0, 0) = _ from rfl) (by decide) (show (2 : Nat) ≤ 6 by decide)) (show kd (2, 0, 0) = _ from rfl) (by decide) rfl hinX3 (by decide) (by decide +kernel) rfl rfl dX3_best_11 ?_
  refine r_aload_n C (k := 0) dX3_best_14 rfl ?_
  refine r_getf C 0 (v := .ref (adr G (0, 8, 0))) (ok_of hG (show kd (2, 0, 0) = _ from rfl) (by decide) (show (2 : Nat) ≤ 6 by decide)) (show kd (2, 0, 0) = _ from rfl) (by decide) rfl hinX3 (by decide) (by decide +kernel) rfl rfl dX3_best_15 ?_
  refine r_callV C (w' := (s0cp w 1 0)) [.ref (adr G (0, 8, 0))] 1 (c_X0_copy hG (Nat.le_refl 1) (Nat.zero_le 1) (by first | exact hv1 | (exact ⟨by omega, by omega⟩)) (by intro v hv; exact ⟨(hLz.v hv).2.2.1, (hLz.v hv).2.2.2.2.2.2.2.2.2⟩) (by decide)) gX3_best_X0_copy rfl rfl rfl (by decide +kernel) (Nat.le_of_ble_eq_true rfl) (Nat.le_of_ble_eq_true rfl) ⟨(Nat.le_of_ble_eq_true rfl), (Nat.le_of_ble_eq_true rfl)⟩ (ok_of hG (kdl0 (Nat.le_refl 1)) (by decide) (show (1 : Nat) ≤ 6 by decide)) (kdl0 (Nat.le_refl 1)) (by decide) rfl rfl rfl (Nat.le_of_ble_eq_true rfl) (st' := []) rfl dX3_best_18 (fun hr => ?_)
  refine r_aload_n C (k := 0) dX3_best_21 rfl ?_
  refine r_getf C 1 (v := .ref (adr G (1, 8, 0))) (ok_of hG (show kd (2, 0, 0) = _ from rfl) (by decide) (show (2 : Nat) ≤ 6 by decide)) (show kd (2, 0, 0) = _ from rfl) (by decide) rfl hinX3 (by decide) (by decide +kernel) rfl rfl dX3_best_22 ?_
  refine r_bipush C dX3_best_25 (by decide) ?_
  refine Wm.top (z' := ((80 : Nat) : Int)) (by first | rfl | omega) ?_
  refine r_callV C (w' := ((s0go 1 80 (s0cp w 1 0)).1)) [vI (((80 : Nat) : Int))] 1 (c_X0_letGo hG (Nat.le_refl 1) (by exact hL1) (by exact ⟨by omega, by omega, fun u hu => by have := hBx u hu; show max (X u) B9 ≤ 800000000; omega⟩) (by omega)) gX3_best_X0_letGo rfl rfl rfl (by decide +kernel) (Nat.le_of_ble_eq_true rfl) (Nat.le_of_ble_eq_true rfl) ⟨(Nat.le_of_ble_eq_true rfl), (Nat.le_of_ble_eq_true rfl)⟩ (ok_of hG (kdl0 (Nat.le_refl 1)) (by decide) (show (1 : Nat) ≤ 6 by decide)) (kdl0 (Nat.le_refl 1)) (by decide) rfl rfl rfl (Nat.le_of_ble_eq_true rfl) (st' := [vI (((s0go 1 80 (s0cp w 1 0)).2))]) rfl dX3_best_27 (fun hr => ?_)
  refine r_pop C dX3_best_30 rfl ?_
  refine r_aload_n C (k := 0) dX3_best_31 rfl ?_
  refine r_getf C 1 (v := .ref (adr G (1, 8, 0))) (ok_of hG (show kd (2, 0, 0) = _ from rfl) (by decide) (show (2 : Nat) ≤ 6 by decide)) (show kd (2, 0, 0) = _ from rfl) (by decide) rfl hinX3 (by decide) (by decide +kernel) rfl rfl dX3_best_32 ?_
  refine r_iload_n C (k := 2) dX3_best_35 rfl ?_
  refine r_callV C (w' := ((s0go 1 80 (s0cp w 1 0)).1)) [vI (p)] 1 (c_X0_knowersOf hG (Nat.le_refl 1) (by exact hv4) (by first | assumption | omega | exact hr _ _ | exact hr0 _ _ | exact hrI _ _ | exact ⟨by omega, by omega⟩ | exact bI_inR _ | (simp [st1] <;> omega) | exact rowR.so (by assumption) (by simp))) gX3_best_X0_knowersOf rfl rfl rfl (by decide +kernel) (Nat.le_of_ble_eq_true rfl) (Nat.le_of_ble_eq_true rfl) ⟨(Nat.le_of_ble_eq_true rfl), (Nat.le_of_ble_eq_true rfl)⟩ (ok_of hG (kdl0 (Nat.le_refl 1)) (by decide) (show (1 : Nat) ≤ 6 by decide)) (kdl0 (Nat.le_refl 1)) (by decide) rfl rfl rfl (Nat.le_of_ble_eq_true rfl) (st' := [vI ((s0kno ((s0go 1 80 (s0cp w 1 0)).1) 1 (p)))]) rfl dX3_best_36 (fun hr => ?_)
  refine r_istore_n C (i := 3) (lv' := [(3, vI ((s0kno ((s0go 1 80 (s0cp w 1 0)).1) 1 (p)))), (0, .ref (adr G (2, 0, 0))), (1, vI (v)), (2, vI (p))]) dX3_best_39 rfl (by decide) rfl ?_
  refine r_iconst C dX3_best_40 ?_
  refine r_istore C (i := 4) (lv' := [(4, vI ((-1))), (3, vI ((s0kno ((s0go 1 80 (s0cp w 1 0)).1) 1 (p)))), (0, .ref (adr G (2, 0, 0))), (1, vI (v)), (2, vI (p))]) dX3_best_41 (by decide) rfl ?_
  refine r_iconst C dX3_best_43 ?_
  refine r_istore C (i := 5) (lv' := [(5, vI (0)), (4, vI ((-1))), (3, vI ((s0kno ((s0go 1 80 (s0cp w 1 0)).1) 1 (p)))), (0, .ref (adr G (2, 0, 0))), (1, vI (v)), (2, vI (p))]) dX3_best_44 (by decide) rfl ?_
  have loop_46 : ∀ (nf : Nat) (i : Nat), (i ≤ 24) → (inR (lbs (s0go 1 80 (s0cp w 1 0)).1 (s0kno (s0go 1 80 (s0cp w 1 0)).1 1 p) (v).toNat p i).2.2) → 24 - i < nf → rng ((lbs (s0go 1 80 (s0cp w 1 0)).1 (s0kno (s0go 1 80 (s0cp w 1 0)).1 1 p) (v).toNat p i).1) → Wm B 7 G A (Qex B G A ((if lV w v ∧ lP w p then none else eI)) (some (vI ((lbs (s0go 1 80 (s0cp w 1 0)).1 (s0kno (s0go 1 80 (s0cp w 1 0)).1 1 p) (v).toNat p 24).2.1))) w ((lbs (s0go 1 80 (s0cp w 1 0)).1 (s0kno (s0go 1 80 (s0cp w 1 0)).1 1 p) (v).toNat p 24).1) 2 12) ((lbs (s0go 1 80 (s0cp w 1 0)).1 (s0kno (s0go 1 80 (s0cp w 1 0)).1 1 p) (v).toNat p i).1) (2) (12) 46 [(0, .ref (adr G (2, 0, 0))), (1, vI (v)), (2, vI (p)), (3, vI ((lbs (s0go 1 80 (s0cp w 1 0)).1 (s0kno (s0go 1 80 (s0cp w 1 0)).1 1 p) (v).toNat p i).2.2)), (4, vI ((lbs (s0go 1 80 (s0cp w 1 0)).1 (s0kno (s0go 1 80 (s0cp w 1 0)).1 1 p) (v).toNat p i).2.1)), (5, vI (((i : Nat) : Int)))] [] := by
    intro n46
    induction n46 with
    | zero => intro i hi hmi hm; exact absurd hm (Nat.not_lt_zero _)
    | succ n46 ih46 =>
      intro i hi hmi hm hr
      have hrI := hr
      obtain ⟨i1, i2⟩ := lbs_inv (m0 := (s0kno (s0go 1 80 (s0cp w 1 0)).1 1 p)) (p := p) h00 hL2 (fun u hu => by have := hBx u hu; omega) (v := (v).toNat) (by omega) i (by omega)
      have i3 := h00.sl i1 (by decide)
      have e01 : (lbs (s0go 1 80 (s0cp w 1 0)).1 (s0kno (s0go 1 80 (s0cp w 1 0)).1 1 p) (v).toNat p i).1 (0, 8, 0) 1 = w (0, 8, 0) 1 := ((s8.tr i1) _ _ (by decide))
      have i4 : i < 24 → LI (lki (lbs (s0go 1 80 (s0cp w 1 0)).1 (s0kno (s0go 1 80 (s0cp w 1 0)).1 1 p) (v).toNat p i).1 (v).toNat p i) 1 _ _ _ := fun _ => LI_lki (p := p) i3 i2 (v := (v).toNat) (by omega) (i := i) (by omega)
      refine r_iload C (k := 5) dX3_best_46 rfl ?_
      refine r_bipush C dX3_best_48 (by decide) ?_
      refine r_icmp_ge C (tgt := 82) dX3_best_50 (by decide) (by first | exact hr _ _ | exact hr0 _ _ | exact hrI _ _ | assumption | exact ⟨by omega, by omega⟩) ⟨by decide, by decide⟩ (fun h_3 => ?_) (fun h_3 => ?_)
      · skip
        refine r_iload C (k := 4) dX3_best_82 rfl ?_
        refine Wm.x (by exact if_pos hVp) (Nat.le_of_ble_eq_true rfl) (Nat.le_of_ble_eq_true rfl) ?_
        exact r_iret C dX3_best_84 (by (obtain rfl : i = 24 := (by omega)); rfl) (by (obtain rfl : i = 24 := (by omega)); rfl)
      · have i5 := s0kno_b (p := p) (i4 (by omega)).1
        refine r_aload_n C (k := 0) dX3_best_53 rfl ?_
        refine r_iload_n C (k := 1) dX3_best_54 rfl ?_
        refine r_iload_n C (k := 2) dX3_best_55 rfl ?_
        refine r_iload C (k := 5) dX3_best_56 rfl ?_
        refine r_callV C (w' := (lki ((lbs (s0go 1 80 (s0cp w 1 0)).1 (s0kno (s0go 1 80 (s0cp w 1 0)).1 1 p) (v).toNat p i).1) ((v)).toNat (p) i)) [vI (v), vI (p), vI (((i : Nat) : Int))] 3 (c_X3_knowersIfTold hG (by exact ⟨by omega, by omega⟩) (by exact ⟨by omega, by omega⟩) (by omega) (by exact i3) (by exact i2) (by exact ⟨by omega, by omega, by omega, fun u hu => by have := hBx u hu; omega⟩)) gX3_best_X3_knowersIfTold rfl rfl rfl (by decide +kernel) (Nat.le_of_ble_eq_true rfl) (Nat.le_of_ble_eq_true rfl) ⟨(Nat.le_of_ble_eq_true rfl), (Nat.le_of_ble_eq_true rfl)⟩ (ok_of hG (show kd (2, 0, 0) = _ from rfl) (by decide) (show (2 : Nat) ≤ 6 by decide)) (show kd (2, 0, 0) = _ from rfl) (by decide) rfl rfl rfl (Nat.le_of_ble_eq_true rfl) (st' := [vI ((s0kno (lki ((lbs (s0go 1 80 (s0cp w 1 0)).1 (s0kno (s0go 1 80 (s0cp w 1 0)).1 1 p) (v).toNat p i).1) ((v)).toNat (p) i) 1 (p)))]) rfl dX3_best_58 (fun hr => ?_)
        refine r_istore C (i := 6) (lv' := [(6, vI ((s0kno (lki ((lbs (s0go 1 80 (s0cp w 1 0)).1 (s0kno (s0go 1 80 (s0cp w 1 0)).1 1 p) (v).toNat p i).1) ((v)).toNat (p) i) 1 (p)))), (0, .ref (adr G (2, 0, 0))), (1, vI (v)), (2, vI (p)), (3, vI ((lbs (s0go 1 80 (s0cp w 1 0)).1 (s0kno (s0go 1 80 (s0cp w 1 0)).1 1 p) (v).toNat p i).2.2)), (4, vI ((lbs (s0go 1 80 (s0cp w 1 0)).1 (s0kno (s0go 1 80 (s0cp w 1 0)).1 1 p) (v).toNat p i).2.1)), (5, vI (((i : Nat) : Int)))]) dX3_best_61 (by decide) rfl ?_
        refine r_iload C (k := 0) dX3_best_63 rfl ?_
        refine r_iload_n C (k := 4) dX3_best_65 rfl ?_
        refine r_icmp_le C (tgt := 76) dX3_best_66 (by decide) (by first | exact hr _ _ | exact hr0 _ _ | exact hrI _ _ | assumption | exact ⟨by omega, by omega⟩) (by first | exact hr _ _ | exact hr0 _ _ | exact hrI _ _ | assumption | exact ⟨by omega, by omega⟩) (fun h_4 => ?_) (fun h_4 => ?_)
        · skip
          refine r_iinc C (k := 6) (lv' := [(5, vI (((i + 1 : Nat) : Int))), (6, vI ((s0kno (lki ((lbs (s0go 1 80 (s0cp w 1 0)).1 (s0kno (s0go 1 80 (s0cp w 1 0)).1 1 p) (v).toNat p i).1) ((v)).toNat (p) i) 1 (p)))), (0, .ref (adr G (2, 0, 0))), (1, vI (v)), (2, vI (p)), (3, vI ((lbs (s0go 1 80 (s0cp w 1 0)).1 (s0kno (s0go 1 80 (s0cp w 1 0)).1 1 p) (v).toNat p i).2.2)), (4, vI ((lbs (s0go 1 80 (s0cp w 1 0)).1 (s0kno (s0go 1 80 (s0cp w 1 0)).1 1 p) (v).toNat p i).2.1))]) dX3_best_76 rfl (by decide) rfl ?_
          refine r_goto C (tgt := 46) dX3_best_79 (by decide) ?_
          have e_5 : (lki ((lbs (s0go 1 80 (s0cp w 1 0)).1 (s0kno (s0go 1 80 (s0cp w 1 0)).1 1 p) (v).toNat p i).1) ((v)).toNat (p) i) = ((lbs (s0go 1 80 (s0cp w 1 0)).1 (s0kno (s0go 1 80 (s0cp w 1 0)).1 1 p) (v).toNat p (i + 1)).1) := by (simp only [lbs])
          refine Wm.sub (lv' := [(0, .ref (adr G (2, 0, 0))), (1, vI (v)), (2, vI (p)), (3, vI ((lbs (s0go 1 80 (s0cp w 1 0)).1 (s0kno (s0go 1 80 (s0cp w 1 0)).1 1 p) (v).toNat p i).2.2)), (4, vI ((lbs (s0go 1 80 (s0cp w 1 0)).1 (s0kno (s0go 1 80 (s0cp w 1 0)).1 1 p) (v).toNat p i).2.1)), (5, vI (((i + 1 : Nat) : Int)))]) [2, 3, 4, 5, 6, 0] rfl ?_
          refine Wm.mem (lv' := [(0, .ref (adr G (2, 0, 0))), (1, vI (v)), (2, vI (p)), (3, vI ((lbs (s0go 1 80 (s0cp w 1 0)).1 (s0kno (s0go 1 80 (s0cp w 1 0)).1 1 p) (v).toNat p (i + 1)).2.2)), (4, vI ((lbs (s0go 1 80 (s0cp w 1 0)).1 (s0kno (s0go 1 80 (s0cp w 1 0)).1 1 p) (v).toNat p (i + 1)).2.1)), (5, vI ((((i + 1) : Nat) : Int)))]) e_5 (by (simp only [lbs]; first | (rw [if_pos (by omega), if_pos (by omega)]; done) | (rw [if_neg (by omega), if_neg (by omega)]; done))) ?_
          refine Wm.widen (c2 := 2) (s2 := 12) (by omega) (by omega) ?_
          exact ih46 ((i + 1)) (by omega) (by (simp only [lbs]; split <;> first | assumption | exact ⟨by omega, by omega⟩)) (by omega) (e_5 ▸ hr)
        · skip
          refine r_iload C (k := 0) dX3_best_69 rfl ?_
          refine r_istore_n C (i := 3) (lv' := [(3, vI ((s0kno (lki ((lbs (s0go 1 80 (s0cp w 1 0)).1 (s0kno (s0go 1 80 (s0cp w 1 0)).1 1 p) (v).toNat p i).1) ((v)).toNat (p) i) 1 (p)))), (6, vI ((s0kno (lki ((lbs (s0go 1 80 (s0cp w 1 0)).1 (s0kno (s0go 1 80 (s0cp w 1 0)).1 1 p) (v).toNat p i).1) ((v)).toNat (p) i) 1 (p)))), (0, .ref (adr G (2, 0, 0))), (1, vI (v)), (2, vI (p)), (4, vI ((lbs (s0go 1 80 (s0cp w 1 0)).1 (s0kno (s0go 1 80 (s0cp w 1 0)).1 1 p) (v).toNat p i).2.1)), (5, vI (((i : Nat) : Int)))]) dX3_best_71 rfl (by decide) rfl ?_
          refine r_iload C (k := 6) dX3_best_72 rfl ?_
          refine r_istore C (i := 4) (lv' := [(4, vI (((i : Nat) : Int))), (3, vI ((s0kno (lki ((lbs (s0go 1 80 (s0cp w 1 0)).1 (s0kno (s0go 1 80 (s0cp w 1 0)).1 1 p) (v).toNat p i).1) ((v)).toNat (p) i) 1 (p)))), (6, vI ((s0kno (lki ((lbs (s0go 1 80 (s0cp w 1 0)).1 (s0kno (s0go 1 80 (s0cp w 1 0)).1 1 p) (v).toNat p i).1) ((v)).toNat (p) i) 1 (p)))), (0, .ref (adr G (2, 0, 0))), (1, vI (v)), (2, vI (p)), (5, vI (((i : Nat) : Int)))]) dX3_best_74 (by decide) rfl ?_
          refine r_iinc C (k := 6) (lv' := [(5, vI (((i + 1 : Nat) : Int))), (4, vI (((i : Nat) : Int))), (3, vI ((s0kno (lki ((lbs (s0go 1 80 (s0cp w 1 0)).1 (s0kno (s0go 1 80 (s0cp w 1 0)).1 1 p) (v).toNat p i).1) ((v)).toNat (p) i) 1 (p)))), (6, vI ((s0kno (lki ((lbs (s0go 1 80 (s0cp w 1 0)).1 (s0kno (s0go 1 80 (s0cp w 1 0)).1 1 p) (v).toNat p i).1) ((v)).toNat (p) i) 1 (p)))), (0, .ref (adr G (2, 0, 0))), (1, vI (v)), (2, vI (p))]) dX3_best_76 rfl (by decide) rfl ?_
          refine r_goto C (tgt := 46) dX3_best_79 (by decide) ?_
          have e_6 : (lki ((lbs (s0go 1 80 (s0cp w 1 0)).1 (s0kno (s0go 1 80 (s0cp w 1 0)).1 1 p) (v).toNat p i).1) ((v)).toNat (p) i) = ((lbs (s0go 1 80 (s0cp w 1 0)).1 (s0kno (s0go 1 80 (s0cp w 1 0)).1 1 p) (v).toNat p (i + 1)).1) := by (simp only [lbs])
          refine Wm.sub (lv' := [(0, .ref (adr G (2, 0, 0))), (1, vI (v)), (2, vI (p)), (3, vI ((s0kno (lki ((lbs (s0go 1 80 (s0cp w 1 0)).1 (s0kno (s0go 1 80 (s0cp w 1 0)).1 1 p) (v).toNat p i).1) ((v)).toNat (p) i) 1 (p)))), (4, vI (((i : Nat) : Int))), (5, vI (((i + 1 : Nat) : Int)))]) [4, 5, 6, 2, 1, 0] rfl ?_
          refine Wm.mem (lv' := [(0, .ref (adr G (2, 0, 0))), (1, vI (v)), (2, vI (p)), (3, vI ((lbs (s0go 1 80 (s0cp w 1 0)).1 (s0kno (s0go 1 80 (s0cp w 1 0)).1 1 p) (v).toNat p (i + 1)).2.2)), (4, vI ((lbs (s0go 1 80 (s0cp w 1 0)).1 (s0kno (s0go 1 80 (s0cp w 1 0)).1 1 p) (v).toNat p (i + 1)).2.1)), (5, vI ((((i + 1) : Nat) : Int)))]) e_6 (by (simp only [lbs]; first | (rw [if_pos (by omega), if_pos (by omega)]; done) | (rw [if_neg (by omega), if_neg (by omega)]; done))) ?_
          refine Wm.widen (c2 := 2) (s2 := 12) (by omega) (by omega) ?_
          exact ih46 ((i + 1)) (by omega) (by (simp only [lbs]; split <;> first | assumption | exact ⟨by omega, by omega⟩)) (by omega) (e_6 ▸ hr)
  have e_7 : ((s0go 1 80 (s0cp w 1 0)).1) = ((lbs (s0go 1 80 (s0cp w 1 0)).1 (s0kno (s0go 1 80 (s0cp w 1 0)).1 1 p) (v).toNat p 0).1) := by (simp only [lbs])
  refine Wm.sub (lv' := [(0, .ref (adr G (2, 0, 0))), (1, vI (v)), (2, vI (p)), (3, vI ((s0kno ((s0go 1 80 (s0cp w 1 0)).1) 1 (p)))), (4, vI ((-1))), (5, vI (0))]) [3, 4, 5, 2, 1, 0] rfl ?_
  refine Wm.mem (lv' := [(0, .ref (adr G (2, 0, 0))), (1, vI (v)), (2, vI (p)), (3, vI ((lbs (s0go 1 80 (s0cp w 1 0)).1 (s0kno (s0go 1 80 (s0cp w 1 0)).1 1 p) (v).toNat p 0).2.2)), (4, vI ((lbs (s0go 1 80 (s0cp w 1 0)).1 (s0kno (s0go 1 80 (s0cp w 1 0)).1 1 p) (v).toNat p 0).2.1)), (5, vI (((0 : Nat) : Int)))]) e_7 (by (simp only [lbs]; try rfl)) ?_
  refine Wm.widen (c2 := 2) (s2 := 12) (by omega) (by omega) ?_
  exact loop_46 _ (0) (by omega) (by exact ⟨by show -2147483648 ≤ (s0kno (s0go 1 80 (s0cp w 1 0)).1 1 p); omega, by show (s0kno (s0go 1 80 (s0cp w 1 0)).1 1 p) < 2147483648; omega⟩) (Nat.lt_succ_self _) (e_7 ▸ hr)

set_option maxRecDepth 100000 in
set_option maxHeartbeats 1500000 in
theorem c_X3_larger {l : Launch} {G : Gt} (hG : Gok G) (hl9 : l.stackTraces = false)  {w : Mm} {n : Int} {N D N1 D1 B9 : Int} {X : Nat → Int} (hn : inR n) (hL : LI w 0 N D X) (h1 : LI w 1 N1 D1 (fun _ => B9)) (hB : N ≤ 700000 ∧ D ≤ 700000000 ∧ B9 ≤ 700000000 ∧ ∀ u, u ≤ 7 → X u ≤ B9) : ConX l G yX3_larger wsX3_larger ({ frames := 6, cells := 1, slots := 6, locals := 142 } : Room) w [.ref (adr G (2, 0, 0)), vI n] ((if 1 ≤ n ∧ n ≤ 100 then none else eA)) (some (vI ((llg (s0go 1 (n).toNat (s0cp w 1 0)).1 (s0prs (s0go 1 (n).toNat (s0cp w 1 0)).1 1) (n).toNat (w (0, 8, 0) 1).toNat).2.1))) ((llg (s0go 1 (n).toNat (s0cp w 1 0)).1 (s0prs (s0go 1 (n).toNat (s0cp w 1 0)).1 1) (n).toNat (w (0, 8, 0) 1).toNat).1) 1 6 := by
  refine ConX.head (cc := cX3_larger) (nL := 6) (ret := (some .int)) hG (by decide +kernel) rfl (Nat.le_of_ble_eq_true rfl) ?_
  intro B A hBl hxt C hr
  have hB9 : B.2.1.stackTraces = false := by rw [hBl]; exact hl9
  have hr0 := hr
  have hrI := hr
  have hinX0 : ∀ w ∈ u_ws RX0 TX0 7, w ∈ wsX3_larger := by decide +kernel
  have hinX2 : ∀ w ∈ u_ws RX2 TX2 13, w ∈ wsX3_larger := by decide +kernel
  have hinX3 : ∀ w ∈ u_ws RX3 TX3 2, w ∈ wsX3_larger := by decide +kernel
  have hL0 := hL
  obtain ⟨⟨v1, v2⟩, ⟨p1, p2⟩, ⟨b1, b2⟩, ⟨d1, d2⟩, htc, hvs⟩ := hL
  obtain ⟨hBn, hBd, hBb, hBx⟩ := hB
  have hLz := hL0
  have hL1 : LI (s0cp w 1 0) 1 N D (fun u => max (X u) B9) := LI_cp (by decide) hL0 h1
  refine r_iload_n C (k := 1) dX3_larger_0 rfl ?_
  refine r_iconst C dX3_larger_1 ?_
  refine r_icmp_lt C (tgt := 11) dX3_larger_2 (by decide) (by first | exact hr _ _ | exact hr0 _ _ | exact hrI _ _ | assumption | exact ⟨by omega, by omega⟩) ⟨by decide, by decide⟩ (fun h_1 => ?_) (fun h_1 => ?_)
  · skip
    exact r_throw C hxt hB9 (ik := 26) (is := 165) (ic := 30) (E := "java/lang/IllegalArgumentException") (text := "beats are 1 to 100") (by (repeat' split) <;> first | rfl | contradiction | (exfalso; omega) | (exfalso; simp_all; done) | (exfalso; simp_all; omega)) rfl (by decide +kernel) (by decide +kernel) (by decide +kernel) (by decide +kernel) (by decide +kernel) (by decide +kernel) (by decide +kernel) dX3_larger_11 dX3_larger_14 dX3_larger_15 dX3_larger_17 dX3_larger_20 (Nat.le_of_ble_eq_true rfl) (Nat.le_of_ble_eq_true rfl) (Nat.le_of_ble_eq_true rfl) (Nat.le_of_ble_eq_true rfl) (Nat.le_of_ble_eq_true rfl) (Nat.le_of_ble_eq_true rfl)
  · skip
    refine r_iload_n C (k := 1) dX3_larger_5 rfl ?_
    refine r_bipush C dX3_larger_6 (by decide) ?_
    refine r_icmp_le C (tgt := 21) dX3_larger_8 (by decide) (by first | exact hr _ _ | exact hr0 _ _ | exact hrI _ _ | assumption | exact ⟨by omega, by omega⟩) ⟨by decide, by decide⟩ (fun h_2 => ?_) (fun h_2 => ?_)
    · have hL2 : LI (s0go 1 (n).toNat (s0cp w 1 0)).1 1 (N + (n).toNat) (D + 8 * (n).toNat) (fun _ => B9 + 11200) := (LI_go (n).toNat hL1).mono (by omega) (by omega) (fun u hu => by have := hBx u hu; show max (X u) B9 + 112 * ((n).toNat : Int) ≤ B9 + 11200; omega)
      have hv4 := hL2.1
      have s8 : sloc 1 w (s0go 1 (n).toNat (s0cp w 1 0)).1 := s0cp_sl.tr (s0go_sl _)
      have h00 : LI (s0go 1 (n).toNat (s0cp w 1 0)).1 0 N D X := hL0.sl s8 (by decide)
      have kb0 := s0prs_b hv4
      have e00 : (s0go 1 (n).toNat (s0cp w 1 0)).1 (0, 8, 0) 1 = w (0, 8, 0) 1 := s8 _ _ (by decide)
      refine r_aload_n C (k := 0) dX3_larger_21 rfl ?_
      refine r_getf C 1 (v := .ref (adr G (1, 8, 0))) (ok_of hG (show kd (2, 0, 0) = _ from rfl) (by decide) (show (2 : Nat) ≤ 6 by decide)) (show kd (2, 0, 0) = _ from rfl) (by decide) rfl hinX3 (by decide) (by decide +kernel) rfl rfl dX3_larger_22 ?_
      refine r_aload_n C (k := 0) dX3_larger_25 rfl ?_
      refine r_getf C 0 (v := .ref (adr G (0, 8, 0))) (ok_of hG (show kd (2, 0, 0) = _ from rfl) (by decide) (show (2 : Nat) ≤ 6 by decide)) (show kd (2, 0, 0) = _ from rfl) (by decide) rfl hinX3 (by decide) (by decide +kernel) rfl rfl dX3_larger_26 ?_
      refine r_callV C (w' := (s0cp w 1 0)) [.ref (adr G (0, 8, 0))] 1 (c_X0_copy hG (Nat.le_refl 1) (Nat.zero_le 1) (by first | exact hv1 | (exact ⟨by omega, by omega⟩)) (by intro v hv; exact ⟨(hLz.v hv).2.2.1, (hLz.v hv).2.2.2.2.2.2.2.2.2⟩) (by decide)) gX3_larger_X0_copy rfl rfl rfl (by decide +kernel) (Nat.le_of_ble_eq_true rfl) (Nat.le_of_ble_eq_true rfl) ⟨(Nat.le_of_ble_eq_true rfl), (Nat.le_of_ble_eq_true rfl)⟩ (ok_of hG (kdl0 (Nat.le_refl 1)) (by decide) (show (1 : Nat) ≤ 6 by decide)) (kdl0 (Nat.le_refl 1)) (by decide) rfl rfl rfl (Nat.le_of_ble_eq_true rfl) (st' := []) rfl dX3_larger_29 (fun hr => ?_)
      refine r_aload_n C (k := 0) dX3_larger_32 rfl ?_
      refine r_getf C 1 (v := .ref (adr G (1, 8, 0))) (ok_of hG (show kd (2, 0, 0) = _ from rfl) (by decide) (show (2 : Nat) ≤ 6 by decide)) (show kd (2, 0, 0) = _ from rfl) (by decide) rfl hinX3 (by decide) (by decide +kernel) rfl rfl dX3_larger_33 ?_
      refine r_iload_n C (k := 1) dX3_larger_36 rfl ?_
      refine Wm.top (z' := (((n).toNat : Nat) : Int)) (by first | rfl | omega) ?_
      refine r_callV C (w' := ((s0go 1 (n).toNat (s0cp w 1 0)).1)) [vI ((((n).toNat : Nat) : Int))] 1 (c_X0_letGo hG (Nat.le_refl 1) (by exact hL1) (by exact ⟨by omega, by omega, fun u hu => by have := hBx u hu; show max (X u) B9 ≤ 800000000; omega⟩) (by omega)) gX3_larger_X0_letGo rfl rfl rfl (by decide +kernel) (Nat.le_of_ble_eq_true rfl) (Nat.le_of_ble_eq_true rfl) ⟨(Nat.le_of_ble_eq_true rfl), (Nat.le_of_ble_eq_true rfl)⟩ (ok_of hG (kdl0 (Nat.le_refl 1)) (by decide) (show (1 : Nat) ≤ 6 by decide)) (kdl0 (Nat.le_refl 1)) (by decide) rfl rfl rfl (Nat.le_of_ble_eq_true rfl) (st' := [vI (((s0go 1 (n).toNat (s0cp w 1 0)).2))]) rfl dX3_larger_37 (fun hr => ?_)
      refine r_pop C dX3_larger_40 rfl ?_
      refine r_aload_n C (k := 0) dX3_larger_41 rfl ?_
      refine r_getf C 1 (v := .ref (adr G (1, 8, 0))) (ok_of hG (show kd (2, 0, 0) = _ from rfl) (by decide) (show (2 : Nat) ≤ 6 by decide)) (show kd (2, 0, 0) = _ from rfl) (by decide) rfl hinX3 (by decide) (by decide +kernel) rfl rfl dX3_larger_42 ?_
      refine r_callV C (w' := ((s0go 1 (n).toNat (s0cp w 1 0)).1)) [] 0 (c_X0_knownPairs hG (Nat.le_refl 1) (by exact hv4)) gX3_larger_X0_knownPairs rfl rfl rfl (by decide +kernel) (Nat.le_of_ble_eq_true rfl) (Nat.le_of_ble_eq_true rfl) ⟨(Nat.le_of_ble_eq_true rfl), (Nat.le_of_ble_eq_true rfl)⟩ (ok_of hG (kdl0 (Nat.le_refl 1)) (by decide) (show (1 : Nat) ≤ 6 by decide)) (kdl0 (Nat.le_refl 1)) (by decide) rfl rfl rfl (Nat.le_of_ble_eq_true rfl) (st' := [vI ((s0prs ((s0go 1 (n).toNat (s0cp w 1 0)).1) 1))]) rfl dX3_larger_45 (fun hr => ?_)
      refine r_istore_n C (i := 2) (lv' := [(2, vI ((s0prs ((s0go 1 (n).toNat (s0cp w 1 0)).1) 1))), (0, .ref (adr G (2, 0, 0))), (1, vI (n))]) dX3_larger_48 rfl (by decide) rfl ?_
      refine r_iconst C dX3_larger_49 ?_
      refine r_istore_n C (i := 3) (lv' := [(3, vI ((-1))), (2, vI ((s0prs ((s0go 1 (n).toNat (s0cp w 1 0)).1) 1))), (0, .ref (adr G (2, 0, 0))), (1, vI (n))]) dX3_larger_50 rfl (by decide) rfl ?_
      refine r_iconst C dX3_larger_51 ?_
      refine r_istore C (i := 4) (lv' := [(4, vI (0)), (3, vI ((-1))), (2, vI ((s0prs ((s0go 1 (n).toNat (s0cp w 1 0)).1) 1))), (0, .ref (adr G (2, 0, 0))), (1, vI (n))]) dX3_larger_52 (by decide) rfl ?_
      have loop_54 : ∀ (nf : Nat) (i : Nat), (i ≤ (w (0, 8, 0) 1).toNat) → (inR (llg (s0go 1 (n).toNat (s0cp w 1 0)).1 (s0prs (s0go 1 (n).toNat (s0cp w 1 0)).1 1) (n).toNat i).2.2) → (w (0, 8, 0) 1).toNat - i < nf → rng ((llg (s0go 1 (n).toNat (s0cp w 1 0)).1 (s0prs (s0go 1 (n).toNat (s0cp w 1 0)).1 1) (n).toNat i).1) → Wm B 6 G A (Qex B G A ((if 1 ≤ n ∧ n ≤ 100 then none else eA)) (some (vI ((llg (s0go 1 (n).toNat (s0cp w 1 0)).1 (s0prs (s0go 1 (n).toNat (s0cp w 1 0)).1 1) (n).toNat (w (0, 8, 0) 1).toNat).2.1))) w ((llg (s0go 1 (n).toNat (s0cp w 1 0)).1 (s0prs (s0go 1 (n).toNat (s0cp w 1 0)).1 1) (n).toNat (w (0, 8, 0) 1).toNat).1) 1 6) ((llg (s0go 1 (n).toNat (s0cp w 1 0)).1 (s0prs (s0go 1 (n).toNat (s0cp w 1 0)).1 1) (n).toNat i).1) (0) (0) 54 [(0, .ref (adr G (2, 0, 0))), (1, vI (n)), (2, vI ((llg (s0go 1 (n).toNat (s0cp w 1 0)).1 (s0prs (s0go 1 (n).toNat (s0cp w 1 0)).1 1) (n).toNat i).2.2)), (3, vI ((llg (s0go 1 (n).toNat (s0cp w 1 0)).1 (s0prs (s0go 1 (n).toNat (s0cp w 1 0)).1 1) (n).toNat i).2.1)), (4, vI (((i : Nat) : Int)))] [] := by
        intro n54
        induction n54 with
        | zero => intro i hi hmi hm; exact absurd hm (Nat.not_lt_zero _)
        | succ n54 ih54 =>
          intro i hi hmi hm hr
          have hrI := hr
          obtain ⟨i1, i2⟩ := llg_inv (m0 := (s0prs (s0go 1 (n).toNat (s0cp w 1 0)).1 1)) h00 hL2 (fun u hu => by have := hBx u hu; omega) (by omega) i (by omega)
          have i3 := h00.sl i1 (by decide)
          have e01 : (llg (s0go 1 (n).toNat (s0cp w 1 0)).1 (s0prs (s0go 1 (n).toNat (s0cp w 1 0)).1 1) (n).toNat i).1 (0, 8, 0) 1 = w (0, 8, 0) 1 := ((s8.tr i1) _ _ (by decide))
          refine r_iload C (k := 4) dX3_larger_54 rfl ?_
          refine r_aload_n C (k := 0) dX3_larger_56 rfl ?_
          refine r_getf C 0 (v := .ref (adr G (0, 8, 0))) (ok_of hG (show kd (2, 0, 0) = _ from rfl) (by decide) (show (2 : Nat) ≤ 6 by decide)) (show kd (2, 0, 0) = _ from rfl) (by decide) rfl hinX3 (by decide) (by decide +kernel) rfl rfl dX3_larger_57 ?_
          refine r_getf C 1 (ok_of hG (kdl0 (Nat.zero_le 1)) (by decide) (show (0 : Nat) ≤ 6 by decide)) (kdl0 (Nat.zero_le 1)) (by decide) rfl hinX0 (by decide) (by decide +kernel) rfl rfl dX3_larger_60 ?_
          refine r_icmp_ge C (tgt := 111) dX3_larger_63 (by decide) (by first | exact hr _ _ | exact hr0 _ _ | exact hrI _ _ | assumption | exact ⟨by omega, by omega⟩) (by first | exact hr _ _ | exact hr0 _ _ | exact hrI _ _ | assumption | exact ⟨by omega, by omega⟩) (fun h_3 => ?_) (fun h_3 => ?_)
          · skip
            refine r_iload_n C (k := 3) dX3_larger_111 rfl ?_
            refine Wm.x (by exact if_pos ⟨by omega, by omega⟩) (Nat.le_of_ble_eq_true rfl) (Nat.le_of_ble_eq_true rfl) ?_
            exact r_iret C dX3_larger_112 (by (obtain rfl : i = (w (0, 8, 0) 1).toNat := (by omega)); rfl) (by (obtain rfl : i = (w (0, 8, 0) 1).toNat := (by omega)); rfl)
          · have hdi := (i3.v (v := i) (by omega)).2.1
            refine r_aload_n C (k := 0) dX3_larger_66 rfl ?_
            refine r_getf C 0 (v := .ref (adr G (0, 8, 0))) (ok_of hG (show kd (2, 0, 0) = _ from rfl) (by decide) (show (2 : Nat) ≤ 6 by decide)) (show kd (2, 0, 0) = _ from rfl) (by decide) rfl hinX3 (by decide) (by decide +kernel) rfl rfl dX3_larger_67 ?_
            refine r_getf C 0 (v := .ref (adr G (0, 8, 3))) (ok_of hG (kdl0 (Nat.zero_le 1)) (by decide) (show (0 : Nat) ≤ 6 by decide)) (kdl0 (Nat.zero_le 1)) (by decide) rfl hinX0 (by decide) (by decide +kernel) rfl rfl dX3_larger_70 ?_
            refine r_iload C (k := 4) dX3_larger_73 rfl ?_
            refine r_aald C (i) (ok_of hG (kdl3 (Nat.zero_le 1)) (by decide) (show (0 : Nat) ≤ 6 by decide)) (Nat.zero_le 1) rfl (by first | omega | assumption) dX3_larger_75 ?_
            refine r_getf C 2 (ok_of hG (kdv0 (Nat.zero_le 1) (by omega)) (by decide) (show (0 : Nat) ≤ 6 by decide)) (kdv0 (Nat.zero_le 1) (by omega)) (by decide) rfl hinX2 (by decide) (by decide +kernel) rfl rfl dX3_larger_76 ?_
            refine r_bipush C dX3_larger_79 (by decide) ?_
            refine r_icmp_ge C (tgt := 105) dX3_larger_81 (by decide) (by first | exact hr _ _ | exact hr0 _ _ | exact hrI _ _ | assumption | exact ⟨by omega, by omega⟩) ⟨by decide, by decide⟩ (fun h_4 => ?_) (fun h_4 => ?_)
            · skip
              refine r_iinc C (k := 4) (lv' := [(4, vI (((i + 1 : Nat) : Int))), (0, .ref (adr G (2, 0, 0))), (1, vI (n)), (2, vI ((llg (s0go 1 (n).toNat (s0cp w 1 0)).1 (s0prs (s0go 1 (n).toNat (s0cp w 1 0)).1 1) (n).toNat i).2.2)), (3, vI ((llg (s0go 1 (n).toNat (s0cp w 1 0)).1 (s0prs (s0go 1 (n).toNat (s0cp w 1 0)).1 1) (n).toNat i).2.1))]) dX3_larger_105 rfl (by decide) rfl ?_
              refine r_goto C (tgt := 54) dX3_larger_108 (by decide) ?_
              have e_5 : ((llg (s0go 1 (n).toNat (s0cp w 1 0)).1 (s0prs (s0go 1 (n).toNat (s0cp w 1 0)).1 1) (n).toNat i).1) = ((llg (s0go 1 (n).toNat (s0cp w 1 0)).1 (s0prs (s0go 1 (n).toNat (s0cp w 1 0)).1 1) (n).toNat (i + 1)).1) := by (simp only [llg]; first | (rw [if_pos (by omega)]; done) | (rw [if_neg (by omega)]; done))
              refine Wm.sub (lv' := [(0, .ref (adr G (2, 0, 0))), (1, vI (n)), (2, vI ((llg (s0go 1 (n).toNat (s0cp w 1 0)).1 (s0prs (s0go 1 (n).toNat (s0cp w 1 0)).1 1) (n).toNat i).2.2)), (3, vI ((llg (s0go 1 (n).toNat (s0cp w 1 0)).1 (s0prs (s0go 1 (n).toNat (s0cp w 1 0)).1 1) (n).toNat i).2.1)), (4, vI (((i + 1 : Nat) : Int)))]) [1, 2, 3, 4, 0] rfl ?_
              refine Wm.mem (lv' := [(0, .ref (adr G (2, 0, 0))), (1, vI (n)), (2, vI ((llg (s0go 1 (n).toNat (s0cp w 1 0)).1 (s0prs (s0go 1 (n).toNat (s0cp w 1 0)).1 1) (n).toNat (i + 1)).2.2)), (3, vI ((llg (s0go 1 (n).toNat (s0cp w 1 0)).1 (s0prs (s0go 1 (n).toNat (s0cp w 1 0)).1 1) (n).toNat (i + 1)).2.1)), (4, vI ((((i + 1) : Nat) : Int)))]) e_5 (by (simp only [llg]; first | (rw [if_neg (by omega)]; done) | (rw [if_pos (by omega), if_pos (by omega), if_pos (by omega)]; done) | (rw [if_pos (by omega), if_neg (by omega), if_neg (by omega)]; done))) ?_
              exact ih54 ((i + 1)) (by omega) (by (simp only [llg]; (repeat' split) <;> (try dsimp only) <;> first | assumption | exact ⟨by omega, by omega⟩)) (by omega) (e_5 ▸ hr)
            · have i5 := s0prs_b (LI_lpl (n := (n).toNat) i3 i2 (v := i) (by omega) (by omega) (by omega)).2.1
              refine r_aload_n C (k := 0) dX3_larger_84 rfl ?_
              refine r_iload C (k := 4) dX3_larger_85 rfl ?_
              refine r_iload_n C (k := 1) dX3_larger_87 rfl ?_
              refine r_callV C (w' := (lpl ((llg (s0go 1 (n).toNat (s0cp w 1 0)).1 (s0prs (s0go 1 (n).toNat (s0cp w 1 0)).1 1) (n).toNat i).1) i ((n)).toNat)) [vI (((i : Nat) : Int)), vI (n)] 2 (c_X3_pairsIfLarger hG (by omega) (by exact ⟨by omega, by omega⟩) (by omega) (by exact i3) (by exact i2) (by exact ⟨by omega, by omega, by omega, fun u hu => by have := hBx u hu; omega⟩)) gX3_larger_X3_pairsIfLarger rfl rfl rfl (by decide +kernel) (Nat.le_of_ble_eq_true rfl) (Nat.le_of_ble_eq_true rfl) ⟨(Nat.le_of_ble_eq_true rfl), (Nat.le_of_ble_eq_true rfl)⟩ (ok_of hG (show kd (2, 0, 0) = _ from rfl) (by decide) (show (2 : Nat) ≤ 6 by decide)) (show kd (2, 0, 0) = _ from rfl) (by decide) rfl rfl rfl (Nat.le_of_ble_eq_true rfl) (st' := [vI ((s0prs (lpl ((llg (s0go 1 (n).toNat (s0cp w 1 0)).1 (s0prs (s0go 1 (n).toNat (s0cp w 1 0)).1 1) (n).toNat i).1) i ((n)).toNat) 1))]) rfl dX3_larger_88 (fun hr => ?_)
              refine r_istore C (i := 5) (lv' := [(5, vI ((s0prs (lpl ((llg (s0go 1 (n).toNat (s0cp w 1 0)).1 (s0prs (s0go 1 (n).toNat (s0cp w 1 0)).1 1) (n).toNat i).1) i ((n)).toNat) 1))), (0, .ref (adr G (2, 0, 0))), (1, vI (n)), (2, vI ((llg (s0go 1 (n).toNat (s0cp w 1 0)).1 (s0prs (s0go 1 (n).toNat (s0cp w 1 0)).1 1) (n).toNat i).2.2)), (3, vI ((llg (s0go 1 (n).toNat (s0cp w 1 0)).1 (s0prs (s0go 1 (n).toNat (s0cp w 1 0)).1 1) (n).toNat i).2.1)), (4, vI (((i : Nat) : Int)))]) dX3_larger_91 (by decide) rfl ?_
              refine r_iload C (k := 0) dX3_larger_93 rfl ?_
              refine r_iload_n C (k := 3) dX3_larger_95 rfl ?_
              refine r_icmp_le C (tgt := 105) dX3_larger_96 (by decide) (by first | exact hr _ _ | exact hr0 _ _ | exact hrI _ _ | assumption | exact ⟨by omega, by omega⟩) (by first | exact hr _ _ | exact hr0 _ _ | exact hrI _ _ | assumption | exact ⟨by omega, by omega⟩) (fun h_6 => ?_) (fun h_6 => ?_)
              · skip
                refine r_iinc C (k := 5) (lv' := [(4, vI (((i + 1 : Nat) : Int))), (5, vI ((s0prs (lpl ((llg (s0go 1 (n).toNat (s0cp w 1 0)).1 (s0prs (s0go 1 (n).toNat (s0cp w 1 0)).1 1) (n).toNat i).1) i ((n)).toNat) 1))), (0, .ref (adr G (2, 0, 0))), (1, vI (n)), (2, vI ((llg (s0go 1 (n).toNat (s0cp w 1 0)).1 (s0prs (s0go 1 (n).toNat (s0cp w 1 0)).1 1) (n).toNat i).2.2)), (3, vI ((llg (s0go 1 (n).toNat (s0cp w 1 0)).1 (s0prs (s0go 1 (n).toNat (s0cp w 1 0)).1 1) (n).toNat i).2.1))]) dX3_larger_105 rfl (by decide) rfl ?_
                refine r_goto C (tgt := 54) dX3_larger_108 (by decide) ?_
                have e_7 : (lpl ((llg (s0go 1 (n).toNat (s0cp w 1 0)).1 (s0prs (s0go 1 (n).toNat (s0cp w 1 0)).1 1) (n).toNat i).1) i ((n)).toNat) = ((llg (s0go 1 (n).toNat (s0cp w 1 0)).1 (s0prs (s0go 1 (n).toNat (s0cp w 1 0)).1 1) (n).toNat (i + 1)).1) := by (simp only [llg]; first | (rw [if_pos (by omega)]; done) | (rw [if_neg (by omega)]; done))
                refine Wm.sub (lv' := [(0, .ref (adr G (2, 0, 0))), (1, vI (n)), (2, vI ((llg (s0go 1 (n).toNat (s0cp w 1 0)).1 (s0prs (s0go 1 (n).toNat (s0cp w 1 0)).1 1) (n).toNat i).2.2)), (3, vI ((llg (s0go 1 (n).toNat (s0cp w 1 0)).1 (s0prs (s0go 1 (n).toNat (s0cp w 1 0)).1 1) (n).toNat i).2.1)), (4, vI (((i + 1 : Nat) : Int)))]) [2, 3, 4, 5, 0] rfl ?_
                refine Wm.mem (lv' := [(0, .ref (adr G (2, 0, 0))), (1, vI (n)), (2, vI ((llg (s0go 1 (n).toNat (s0cp w 1 0)).1 (s0prs (s0go 1 (n).toNat (s0cp w 1 0)).1 1) (n).toNat (i + 1)).2.2)), (3, vI ((llg (s0go 1 (n).toNat (s0cp w 1 0)).1 (s0prs (s0go 1 (n).toNat (s0cp w 1 0)).1 1) (n).toNat (i + 1)).2.1)), (4, vI ((((i + 1) : Nat) : Int)))]) e_7 (by (simp only [llg]; first | (rw [if_neg (by omega)]; done) | (rw [if_pos (by omega), if_pos (by omega), if_pos (by omega)]; done) | (rw [if_pos (by omega), if_neg (by omega), if_neg (by omega)]; done))) ?_
                exact ih54 ((i + 1)) (by omega) (by (simp only [llg]; (repeat' split) <;> (try dsimp only) <;> first | assumption | exact ⟨by omega, by omega⟩)) (by omega) (e_7 ▸ hr)
              · skip
                refine r_iload C (k := 0) dX3_larger_99 rfl ?_
                refine r_istore_n C (i := 2) (lv' := [(2, vI ((s0prs (lpl ((llg (s0go 1 (n).toNat (s0cp w 1 0)).1 (s0prs (s0go 1 (n).toNat (s0cp w 1 0)).1 1) (n).toNat i).1) i ((n)).toNat) 1))), (5, vI ((s0prs (lpl ((llg (s0go 1 (n).toNat (s0cp w 1 0)).1 (s0prs (s0go 1 (n).toNat (s0cp w 1 0)).1 1) (n).toNat i).1) i ((n)).toNat) 1))), (0, .ref (adr G (2, 0, 0))), (1, vI (n)), (3, vI ((llg (s0go 1 (n).toNat (s0cp w 1 0)).1 (s0prs (s0go 1 (n).toNat (s0cp w 1 0)).1 1) (n).toNat i).2.1)), (4, vI (((i : Nat) : Int)))]) dX3_larger_101 rfl (by decide) rfl ?_
                refine r_iload C (k := 5) dX3_larger_102 rfl ?_
                refine r_istore_n C (i := 3) (lv' := [(3, vI (((i : Nat) : Int))), (2, vI ((s0prs (lpl ((llg (s0go 1 (n).toNat (s0cp w 1 0)).1 (s0prs (s0go 1 (n).toNat (s0cp w 1 0)).1 1) (n).toNat i).1) i ((n)).toNat) 1))), (5, vI ((s0prs (lpl ((llg (s0go 1 (n).toNat (s0cp w 1 0)).1 (s0prs (s0go 1 (n).toNat (s0cp w 1 0)).1 1) (n).toNat i).1) i ((n)).toNat) 1))), (0, .ref (adr G (2, 0, 0))), (1, vI (n)), (4, vI (((i : Nat) : Int)))]) dX3_larger_104 rfl (by decide) rfl ?_
                refine r_iinc C (k := 5) (lv' := [(4, vI (((i + 1 : Nat) : Int))), (3, vI (((i : Nat) : Int))), (2, vI ((s0prs (lpl ((llg (s0go 1 (n).toNat (s0cp w 1 0)).1 (s0prs (s0go 1 (n).toNat (s0cp w 1 0)).1 1) (n).toNat i).1) i ((n)).toNat) 1))), (5, vI ((s0prs (lpl ((llg (s0go 1 (n).toNat (s0cp w 1 0)).1 (s0prs (s0go 1 (n).toNat (s0cp w 1 0)).1 1) (n).toNat i).1) i ((n)).toNat) 1))), (0, .ref (adr G (2, 0, 0))), (1, vI (n))]) dX3_larger_105 rfl (by decide) rfl ?_
                refine r_goto C (tgt := 54) dX3_larger_108 (by decide) ?_
                have e_8 : (lpl ((llg (s0go 1 (n).toNat (s0cp w 1 0)).1 (s0prs (s0go 1 (n).toNat (s0cp w 1 0)).1 1) (n).toNat i).1) i ((n)).toNat) = ((llg (s0go 1 (n).toNat (s0cp w 1 0)).1 (s0prs (s0go 1 (n).toNat (s0cp w 1 0)).1 1) (n).toNat (i + 1)).1) := by (simp only [llg]; first | (rw [if_pos (by omega)]; done) | (rw [if_neg (by omega)]; done))
                refine Wm.sub (lv' := [(0, .ref (adr G (2, 0, 0))), (1, vI (n)), (2, vI ((s0prs (lpl ((llg (s0go 1 (n).toNat (s0cp w 1 0)).1 (s0prs (s0go 1 (n).toNat (s0cp w 1 0)).1 1) (n).toNat i).1) i ((n)).toNat) 1))), (3, vI (((i : Nat) : Int))), (4, vI (((i + 1 : Nat) : Int)))]) [4, 5, 2, 1, 0] rfl ?_
                refine Wm.mem (lv' := [(0, .ref (adr G (2, 0, 0))), (1, vI (n)), (2, vI ((llg (s0go 1 (n).toNat (s0cp w 1 0)).1 (s0prs (s0go 1 (n).toNat (s0cp w 1 0)).1 1) (n).toNat (i + 1)).2.2)), (3, vI ((llg (s0go 1 (n).toNat (s0cp w 1 0)).1 (s0prs (s0go 1 (n).toNat (s0cp w 1 0)).1 1) (n).toNat (i + 1)).2.1)), (4, vI ((((i + 1) : Nat) : Int)))]) e_8 (by (simp only [llg]; first | (rw [if_neg (by omega)]; done) | (rw [if_pos (by omega), if_pos (by omega), if_pos (by omega)]; done) | (rw [if_pos (by omega), if_neg (by omega), if_neg (by omega)]; done))) ?_
                exact ih54 ((i + 1)) (by omega) (by (simp only [llg]; (repeat' split) <;> (try dsimp only) <;> first | assumption | exact ⟨by omega, by omega⟩)) (by omega) (e_8 ▸ hr)
      have e_9 : ((s0go 1 (n).toNat (s0cp w 1 0)).1) = ((llg (s0go 1 (n).toNat (s0cp w 1 0)).1 (s0prs (s0go 1 (n).toNat (s0cp w 1 0)).1 1) (n).toNat 0).1) := by (simp only [llg])
      refine Wm.sub (lv' := [(0, .ref (adr G (2, 0, 0))), (1, vI (n)), (2, vI ((s0prs ((s0go 1 (n).toNat (s0cp w 1 0)).1) 1))), (3, vI ((-1))), (4, vI (0))]) [3, 4, 2, 1, 0] rfl ?_
      refine Wm.mem (lv' := [(0, .ref (adr G (2, 0, 0))), (1, vI (n)), (2, vI ((llg (s0go 1 (n).toNat (s0cp w 1 0)).1 (s0prs (s0go 1 (n).toNat (s0cp w 1 0)).1 1) (n).toNat 0).2.2)), (3, vI ((llg (s0go 1 (n).toNat (s0cp w 1 0)).1 (s0prs (s0go 1 (n).toNat (s0cp w 1 0)).1 1) (n).toNat 0).2.1)), (4, vI (((0 : Nat) : Int)))]) e_9 (by (simp only [llg]; try rfl)) ?_
      exact loop_54 _ (0) (by omega) (by exact ⟨by show -2147483648 ≤ (s0prs (s0go 1 (n).toNat (s0cp w 1 0)).1 1); omega, by show (s0prs (s0go 1 (n).toNat (s0cp w 1 0)).1 1) < 2147483648; omega⟩) (Nat.lt_succ_self _) (e_9 ▸ hr)
    · skip
      exact r_throw C hxt hB9 (ik := 26) (is := 165) (ic := 30) (E := "java/lang/IllegalArgumentException") (text := "beats are 1 to 100") (by (repeat' split) <;> first | rfl | contradiction | (exfalso; omega) | (exfalso; simp_all; done) | (exfalso; simp_all; omega)) rfl (by decide +kernel) (by decide +kernel) (by decide +kernel) (by decide +kernel) (by decide +kernel) (by decide +kernel) (by decide +kernel) dX3_larger_11 dX3_larger_14 dX3_larger_15 dX3_larger_17 dX3_larger_20 (Nat.le_of_ble_eq_true rfl) (Nat.le_of_ble_eq_true rfl) (Nat.le_of_ble_eq_true rfl) (Nat.le_of_ble_eq_true rfl) (Nat.le_of_ble_eq_true rfl) (Nat.le_of_ble_eq_true rfl)

set_option maxRecDepth 100000 in
set_option maxHeartbeats 1500000 in
theorem c_X3_known {l : Launch} {G : Gt} (hG : Gok G)  {w : Mm} (hvb : 0 ≤ w (0, 8, 0) 1 ∧ w (0, 8, 0) 1 ≤ 8) (hpb : 0 ≤ w (0, 8, 0) 4 ∧ w (0, 8, 0) 4 ≤ 12) : Con l G yX3_known wsX3_known ({ frames := 3, cells := 0, slots := 0, locals := 65 } : Room) w [.ref (adr G (2, 0, 0))] (some (.double (dpk (w (0, 8, 0) 1 * w (0, 8, 0) 4) (s0prs w 0)))) w 0 0 := by
  refine Con.head (cc := cX3_known) (nL := 2) (ret := (some .double)) hG (by decide +kernel) rfl (Nat.le_of_ble_eq_true rfl) ?_
  intro B A hBl C hr
  have hr0 := hr
  have hrI := hr
  have hinX0 : ∀ w ∈ u_ws RX0 TX0 7, w ∈ wsX3_known := by decide +kernel
  have hinX3 : ∀ w ∈ u_ws RX3 TX3 2, w ∈ wsX3_known := by decide +kernel
  have hm := mul_b hvb hpb
  have hs := s0prs_b (t := 0) hvb
  refine r_aload_n C (k := 0) dX3_known_0 rfl ?_
  refine r_getf C 0 (v := .ref (adr G (0, 8, 0))) (ok_of hG (show kd (2, 0, 0) = _ from rfl) (by decide) (show (2 : Nat) ≤ 6 by decide)) (show kd (2, 0, 0) = _ from rfl) (by decide) rfl hinX3 (by decide) (by decide +kernel) rfl rfl dX3_known_1 ?_
  refine r_getf C 1 (ok_of hG (kdl0 (Nat.zero_le 1)) (by decide) (show (0 : Nat) ≤ 6 by decide)) (kdl0 (Nat.zero_le 1)) (by decide) rfl hinX0 (by decide) (by decide +kernel) rfl rfl dX3_known_4 ?_
  refine r_aload_n C (k := 0) dX3_known_7 rfl ?_
  refine r_getf C 0 (v := .ref (adr G (0, 8, 0))) (ok_of hG (show kd (2, 0, 0) = _ from rfl) (by decide) (show (2 : Nat) ≤ 6 by decide)) (show kd (2, 0, 0) = _ from rfl) (by decide) rfl hinX3 (by decide) (by decide +kernel) rfl rfl dX3_known_8 ?_
  refine r_getf C 4 (ok_of hG (kdl0 (Nat.zero_le 1)) (by decide) (show (0 : Nat) ≤ 6 by decide)) (kdl0 (Nat.zero_le 1)) (by decide) rfl hinX0 (by decide) (by decide +kernel) rfl rfl dX3_known_11 ?_
  refine r_imul C dX3_known_14 ?_
  refine r_istore_n C (i := 1) (lv' := [(1, vI ((w (0, 8, 0) (1) * w (0, 8, 0) (4)))), (0, .ref (adr G (2, 0, 0)))]) dX3_known_15 rfl (by decide) rfl ?_
  refine r_iload_n C (k := 0) dX3_known_16 rfl ?_
  refine r_if_ne C (tgt := 22) dX3_known_17 (by decide) (by first | exact hr _ _ | exact hr0 _ _ | exact hrI _ _ | assumption | exact ⟨by omega, by omega⟩) (fun h_1 => ?_) (fun h_1 => ?_)
  · skip
    refine r_aload_n C (k := 1) dX3_known_22 rfl ?_
    refine r_getf C 0 (v := .ref (adr G (0, 8, 0))) (ok_of hG (show kd (2, 0, 0) = _ from rfl) (by decide) (show (2 : Nat) ≤ 6 by decide)) (show kd (2, 0, 0) = _ from rfl) (by decide) rfl hinX3 (by decide) (by decide +kernel) rfl rfl dX3_known_23 ?_
    refine r_callV C (w' := w) [] 0 (c_X0_knownPairs hG (Nat.zero_le 1) (by first | assumption | omega | exact hr _ _ | exact hr0 _ _ | exact hrI _ _ | exact ⟨by omega, by omega⟩ | exact bI_inR _ | (simp [st1] <;> omega) | exact rowR.so (by assumption) (by simp))) gX3_known_X0_knownPairs rfl rfl rfl (by decide +kernel) (Nat.le_of_ble_eq_true rfl) (Nat.le_of_ble_eq_true rfl) ⟨(Nat.zero_le _), (Nat.zero_le _)⟩ (ok_of hG (kdl0 (Nat.zero_le 1)) (by decide) (show (0 : Nat) ≤ 6 by decide)) (kdl0 (Nat.zero_le 1)) (by decide) rfl rfl rfl (Nat.le_of_ble_eq_true rfl) (st' := [vI ((s0prs w 0))]) rfl dX3_known_26 (fun hr => ?_)
    refine r_i2d C dX3_known_29 ?_
    refine r_iload_n C (k := 0) dX3_known_30 rfl ?_
    refine r_i2d C dX3_known_31 ?_
    refine r_ddiv C dX3_known_32 (by exact dq hs ⟨by omega, by omega⟩) ?_
    exact r_dret C dX3_known_33 (by (unfold dpk; rw [if_neg (by assumption)])) (by first | rfl | (simp [*]; done))
  · skip
    refine r_dconst0 C dX3_known_20 ?_
    exact r_dret C dX3_known_21 (by (unfold dpk; rw [if_pos (by assumption)])) (by first | rfl | (simp [*]; done))

set_option maxRecDepth 100000 in
set_option maxHeartbeats 1500000 in
theorem c_X3_digestOn {l : Launch} {G : Gt} (hG : Gok G) {v : Nat} (hv : v ≤ 7) {w : Mm} {d : Int64} {N D : Int} {X : Nat → Int} (hL : LI w 0 N D X) (hN : N ≤ 1000000) : Con l G yX3_digestOn wsX3_digestOn ({ frames := 3, cells := 0, slots := 0, locals := 65 } : Room) w [.ref (adr G (2, 0, 0)), .long d, .ref (adr G (0, v, 0))] (some (.long (dgV w v d))) w 0 0 := by
  refine Con.head (cc := cX3_digestOn) (nL := 7) (ret := (some .long)) hG (by decide +kernel) rfl (Nat.le_of_ble_eq_true rfl) ?_
  intro B A hBl C hr
  have hr0 := hr
  have hrI := hr
  have hinX0 : ∀ w ∈ u_ws RX0 TX0 7, w ∈ wsX3_digestOn := by decide +kernel
  have hinX2 : ∀ w ∈ u_ws RX2 TX2 13, w ∈ wsX3_digestOn := by decide +kernel
  have hinX3 : ∀ w ∈ u_ws RX3 TX3 2, w ∈ wsX3_digestOn := by decide +kernel
  have hL0 := hL
  obtain ⟨⟨v1, v2⟩, ⟨p1, p2⟩, ⟨b1, b2⟩, ⟨d1, d2⟩, htc, hvs⟩ := hL
  obtain ⟨k1, k2, k3, k4, k5, k6, k7, k8, k9, k10⟩ := hL0.v (v := v) hv
  have hsl := s1last_le w 0 v (w (0, 8, 0) 5) (w (0, v, 3) 4).toNat
  refine r_lload_n C (k := 1) dX3_digestOn_0 rfl ?_
  refine r_lstore C (i := 4) (lv' := [(4, .long (d)), (0, .ref (adr G (2, 0, 0))), (1, .long (d)), (3, .ref (adr G (0, v, 0)))]) dX3_digestOn_1 (by decide) rfl ?_
  refine r_iconst C dX3_digestOn_3 ?_
  refine r_istore C (i := 6) (lv' := [(6, vI (0)), (4, .long (d)), (0, .ref (adr G (2, 0, 0))), (1, .long (d)), (3, .ref (adr G (0, v, 0)))]) dX3_digestOn_4 (by decide) rfl ?_
  have loop_6 : ∀ (nf : Nat) (i : Nat), (i ≤ 10) → 10 - i < nf → rng w → Wm B 7 G A (Qe B G A (some (.long (dgV w v d))) w 0 0) w (0) (0) 6 [(0, .ref (adr G (2, 0, 0))), (3, .ref (adr G (0, v, 0))), (4, .long ((dg d (fun a => s2fig w 0 v (w (0, 8, 0) 5) a) i))), (6, vI (((i : Nat) : Int)))] [] := by
    intro n6
    induction n6 with
    | zero => intro i hi hm; exact absurd hm (Nat.not_lt_zero _)
    | succ n6 ih6 =>
      intro i hi hm hr
      have hrI := hr
      have hfi : inR (s2fig w 0 v (w (0, 8, 0) 5) i) := s2fig_R hr0
      refine r_iload C (k := 3) dX3_digestOn_6 rfl ?_
      refine r_bipush C dX3_digestOn_8 (by decide) ?_
      refine r_icmp_ge C (tgt := 42) dX3_digestOn_10 (by decide) (by first | exact hr _ _ | exact hfi | assumption | exact ⟨by omega, by omega⟩) ⟨by decide, by decide⟩ (fun h_1 => ?_) (fun h_1 => ?_)
      · skip
        refine r_lload C (k := 2) dX3_digestOn_42 rfl ?_
        refine r_ldc2 C (v := 31) (by decide +kernel) dX3_digestOn_44 ?_
        refine r_lmul C dX3_digestOn_47 ?_
        refine r_aload_n C (k := 1) dX3_digestOn_48 rfl ?_
        refine r_getf C 11 (v := .ref (adr G (0, v, 3))) (ok_of hG (kdv0 (Nat.zero_le 1) hv) (by decide) (show (0 : Nat) ≤ 6 by decide)) (kdv0 (Nat.zero_le 1) hv) (by decide) rfl hinX2 (by decide) (by decide +kernel) rfl rfl dX3_digestOn_49 ?_
        refine r_aload_n C (k := 0) dX3_digestOn_52 rfl ?_
        refine r_getf C 0 (v := .ref (adr G (0, 8, 0))) (ok_of hG (show kd (2, 0, 0) = _ from rfl) (by decide) (show (2 : Nat) ≤ 6 by decide)) (show kd (2, 0, 0) = _ from rfl) (by decide) rfl hinX3 (by decide) (by decide +kernel) rfl rfl dX3_digestOn_53 ?_
        refine r_getf C 5 (ok_of hG (kdl0 (Nat.zero_le 1)) (by decide) (show (0 : Nat) ≤ 6 by decide)) (kdl0 (Nat.zero_le 1)) (by decide) rfl hinX0 (by decide) (by decide +kernel) rfl rfl dX3_digestOn_56 ?_
        refine r_callV C (w' := w) [vI (w (0, 8, 0) (5))] 1 (c_X1_lasting hG (Nat.zero_le 1) hv (by exact k10) (by first | assumption | omega | exact hr _ _ | exact hr0 _ _ | exact hrI _ _ | exact ⟨by omega, by omega⟩ | exact bI_inR _ | (simp [st1] <;> omega) | exact rowR.so (by assumption) (by simp))) gX3_digestOn_X1_lasting rfl rfl rfl (by decide +kernel) (Nat.le_of_ble_eq_true rfl) (Nat.le_of_ble_eq_true rfl) ⟨(Nat.zero_le _), (Nat.zero_le _)⟩ (ok_of hG (kdv3 (Nat.zero_le 1) hv) (by decide) (show (0 : Nat) ≤ 6 by decide)) (kdv3 (Nat.zero_le 1) hv) (by decide) rfl rfl rfl (Nat.le_of_ble_eq_true rfl) (st' := [vI ((((s1last w 0 v (w (0, 8, 0) (5)) (w (0, v, 3) 4).toNat : Nat) : Int))), .long (((dg d (fun a => s2fig w 0 v (w (0, 8, 0) 5) a) i) * 31))]) rfl dX3_digestOn_59 (fun hr => ?_)
        refine r_i2l C dX3_digestOn_62 (by first | exact hr _ _ | exact hfi | assumption | exact ⟨by omega, by omega⟩) ?_
        refine r_ladd C dX3_digestOn_63 ?_
        refine r_lstore C (i := 4) (lv' := [(4, .long ((((dg d (fun a => s2fig w 0 v (w (0, 8, 0) 5) a) i) * 31) + Int64.ofInt ((((s1last w 0 v (w (0, 8, 0) (5)) (w (0, v, 3) 4).toNat : Nat) : Int)))))), (0, .ref (adr G (2, 0, 0))), (3, .ref (adr G (0, v, 0))), (6, vI (((i : Nat) : Int)))]) dX3_digestOn_64 (by decide) rfl ?_
        refine r_iconst C dX3_digestOn_66 ?_
        refine r_istore C (i := 6) (lv' := [(6, vI (0)), (4, .long ((((dg d (fun a => s2fig w 0 v (w (0, 8, 0) 5) a) i) * 31) + Int64.ofInt ((((s1last w 0 v (w (0, 8, 0) (5)) (w (0, v, 3) 4).toNat : Nat) : Int)))))), (0, .ref (adr G (2, 0, 0))), (3, .ref (adr G (0, v, 0)))]) dX3_digestOn_67 (by decide) rfl ?_
        have loop_69 : ∀ (nf : Nat) (j : Nat), (j ≤ (w (0, v, 0) 9).toNat) → (w (0, v, 0) 9).toNat - j < nf → rng w → Wm B 7 G A (Qe B G A (some (.long (dgV w v d))) w 0 0) w (0) (0) 69 [(0, .ref (adr G (2, 0, 0))), (3, .ref (adr G (0, v, 0))), (4, .long ((dg (dg (dg d (fun a => s2fig w 0 v (w (0, 8, 0) 5) a) 10) (fun _ => ((s1last w 0 v (w (0, 8, 0) 5) (w (0, v, 3) 4).toNat : Nat) : Int)) 1) (fun k => w (0, v, 1) k) j))), (6, vI (((j : Nat) : Int)))] [] := by
          intro n69
          induction n69 with
          | zero => intro j hj hm; exact absurd hm (Nat.not_lt_zero _)
          | succ n69 ih69 =>
            intro j hj hm hr
            have hrI := hr
            refine r_iload C (k := 3) dX3_digestOn_69 rfl ?_
            refine r_aload_n C (k := 1) dX3_digestOn_71 rfl ?_
            refine r_getf C 9 (ok_of hG (kdv0 (Nat.zero_le 1) hv) (by decide) (show (0 : Nat) ≤ 6 by decide)) (kdv0 (Nat.zero_le 1) hv) (by decide) rfl hinX2 (by decide) (by decide +kernel) rfl rfl dX3_digestOn_72 ?_
            refine r_icmp_ge C (tgt := 101) dX3_digestOn_75 (by decide) (by first | exact hr _ _ | exact hfi | assumption | exact ⟨by omega, by omega⟩) (by first | exact hr _ _ | exact hfi | assumption | exact ⟨by omega, by omega⟩) (fun h_2 => ?_) (fun h_2 => ?_)
            · skip
              refine r_iconst C dX3_digestOn_101 ?_
              refine r_istore C (i := 6) (lv' := [(6, vI (0)), (0, .ref (adr G (2, 0, 0))), (3, .ref (adr G (0, v, 0))), (4, .long ((dg (dg (dg d (fun a => s2fig w 0 v (w (0, 8, 0) 5) a) 10) (fun _ => ((s1last w 0 v (w (0, 8, 0) 5) (w (0, v, 3) 4).toNat : Nat) : Int)) 1) (fun k => w (0, v, 1) k) j)))]) dX3_digestOn_102 (by decide) rfl ?_
              have loop_104 : ∀ (nf : Nat) (q : Nat), (q ≤ (w (0, 8, 0) 4).toNat) → (w (0, 8, 0) 4).toNat - q < nf → rng w → Wm B 7 G A (Qe B G A (some (.long (dgV w v d))) w 0 0) w (0) (0) 104 [(0, .ref (adr G (2, 0, 0))), (3, .ref (adr G (0, v, 0))), (4, .long ((dg (dg (dg (dg d (fun a => s2fig w 0 v (w (0, 8, 0) 5) a) 10) (fun _ => ((s1last w 0 v (w (0, 8, 0) 5) (w (0, v, 3) 4).toNat : Nat) : Int)) 1) (fun k => w (0, v, 1) k) (w (0, v, 0) 9).toNat) (fun p => w (0, v, 2) p) q))), (6, vI (((q : Nat) : Int)))] [] := by
                intro n104
                induction n104 with
                | zero => intro q hq hm; exact absurd hm (Nat.not_lt_zero _)
                | succ n104 ih104 =>
                  intro q hq hm hr
                  have hrI := hr
                  refine r_iload C (k := 3) dX3_digestOn_104 rfl ?_
                  refine r_aload_n C (k := 0) dX3_digestOn_106 rfl ?_
                  refine r_getf C 0 (v := .ref (adr G (0, 8, 0))) (ok_of hG (show kd (2, 0, 0) = _ from rfl) (by decide) (show (2 : Nat) ≤ 6 by decide)) (show kd (2, 0, 0) = _ from rfl) (by decide) rfl hinX3 (by decide) (by decide +kernel) rfl rfl dX3_digestOn_107 ?_
                  refine r_getf C 4 (ok_of hG (kdl0 (Nat.zero_le 1)) (by decide) (show (0 : Nat) ≤ 6 by decide)) (kdl0 (Nat.zero_le 1)) (by decide) rfl hinX0 (by decide) (by decide +kernel) rfl rfl dX3_digestOn_110 ?_
                  refine r_icmp_ge C (tgt := 139) dX3_digestOn_113 (by decide) (by first | exact hr _ _ | exact hfi | assumption | exact ⟨by omega, by omega⟩) (by first | exact hr _ _ | exact hfi | assumption | exact ⟨by omega, by omega⟩) (fun h_3 => ?_) (fun h_3 => ?_)
                  · skip
                    refine r_lload C (k := 2) dX3_digestOn_139 rfl ?_
                    exact r_lret C dX3_digestOn_141 (by (obtain rfl : q = (w (0, 8, 0) 4).toNat := (by omega)); (unfold dgV; rfl)) (by first | rfl | (simp [*]; done))
                  · skip
                    refine r_lload C (k := 2) dX3_digestOn_116 rfl ?_
                    refine r_ldc2 C (v := 31) (by decide +kernel) dX3_digestOn_118 ?_
                    refine r_lmul C dX3_digestOn_121 ?_
                    refine r_aload_n C (k := 1) dX3_digestOn_122 rfl ?_
                    refine r_getf C 10 (v := .ref (adr G (0, v, 2))) (ok_of hG (kdv0 (Nat.zero_le 1) hv) (by decide) (show (0 : Nat) ≤ 6 by decide)) (kdv0 (Nat.zero_le 1) hv) (by decide) rfl hinX2 (by decide) (by decide +kernel) rfl rfl dX3_digestOn_123 ?_
                    refine r_iload C (k := 3) dX3_digestOn_126 rfl ?_
                    refine r_iald C (q) (ok_of hG (kdv2 (Nat.zero_le 1) hv) (by decide) (show (0 : Nat) ≤ 6 by decide)) (kdv2 (Nat.zero_le 1) hv) rfl (by first | omega | assumption) (by decide) dX3_digestOn_128 ?_
                    refine r_i2l C dX3_digestOn_129 (by first | exact hr _ _ | exact hfi | assumption | exact ⟨by omega, by omega⟩) ?_
                    refine r_ladd C dX3_digestOn_130 ?_
                    refine r_lstore C (i := 4) (lv' := [(4, .long ((((dg (dg (dg (dg d (fun a => s2fig w 0 v (w (0, 8, 0) 5) a) 10) (fun _ => ((s1last w 0 v (w (0, 8, 0) 5) (w (0, v, 3) 4).toNat : Nat) : Int)) 1) (fun k => w (0, v, 1) k) (w (0, v, 0) 9).toNat) (fun p => w (0, v, 2) p) q) * 31) + Int64.ofInt (w (0, v, 2) (q))))), (0, .ref (adr G (2, 0, 0))), (3, .ref (adr G (0, v, 0))), (6, vI (((q : Nat) : Int)))]) dX3_digestOn_131 (by decide) rfl ?_
                    refine r_iinc C (k := 3) (lv' := [(6, vI (((q + 1 : Nat) : Int))), (4, .long ((((dg (dg (dg (dg d (fun a => s2fig w 0 v (w (0, 8, 0) 5) a) 10) (fun _ => ((s1last w 0 v (w (0, 8, 0) 5) (w (0, v, 3) 4).toNat : Nat) : Int)) 1) (fun k => w (0, v, 1) k) (w (0, v, 0) 9).toNat) (fun p => w (0, v, 2) p) q) * 31) + Int64.ofInt (w (0, v, 2) (q))))), (0, .ref (adr G (2, 0, 0))), (3, .ref (adr G (0, v, 0)))]) dX3_digestOn_133 rfl (by decide) rfl ?_
                    refine r_goto C (tgt := 104) dX3_digestOn_136 (by decide) ?_
                    have e_4 : w = w := by rfl
                    refine Wm.sub (lv' := [(0, .ref (adr G (2, 0, 0))), (3, .ref (adr G (0, v, 0))), (4, .long ((((dg (dg (dg (dg d (fun a => s2fig w 0 v (w (0, 8, 0) 5) a) 10) (fun _ => ((s1last w 0 v (w (0, 8, 0) 5) (w (0, v, 3) 4).toNat : Nat) : Int)) 1) (fun k => w (0, v, 1) k) (w (0, v, 0) 9).toNat) (fun p => w (0, v, 2) p) q) * 31) + Int64.ofInt (w (0, v, 2) (q))))), (6, vI (((q + 1 : Nat) : Int)))]) [2, 3, 1, 0] rfl ?_
                    refine Wm.mem (lv' := [(0, .ref (adr G (2, 0, 0))), (3, .ref (adr G (0, v, 0))), (4, .long ((dg (dg (dg (dg d (fun a => s2fig w 0 v (w (0, 8, 0) 5) a) 10) (fun _ => ((s1last w 0 v (w (0, 8, 0) 5) (w (0, v, 3) 4).toNat : Nat) : Int)) 1) (fun k => w (0, v, 1) k) (w (0, v, 0) 9).toNat) (fun p => w (0, v, 2) p) (q + 1)))), (6, vI ((((q + 1) : Nat) : Int)))]) e_4 (by (first | (rw [dg_s (n := q)]; done) | (rw [dg_s (n := q)]; rfl))) ?_
                    exact ih104 ((q + 1)) (by omega) (by omega) (e_4 ▸ hr)
              have e_5 : w = w := by rfl
              refine Wm.sub (lv' := [(0, .ref (adr G (2, 0, 0))), (3, .ref (adr G (0, v, 0))), (4, .long ((dg (dg (dg d (fun a => s2fig w 0 v (w (0, 8, 0) 5) a) 10) (fun _ => ((s1last w 0 v (w (0, 8, 0) 5) (w (0, v, 3) 4).toNat : Nat) : Int)) 1) (fun k => w (0, v, 1) k) j))), (6, vI (0))]) [1, 2, 3, 0] rfl ?_
              refine Wm.mem (lv' := [(0, .ref (adr G (2, 0, 0))), (3, .ref (adr G (0, v, 0))), (4, .long ((dg (dg (dg (dg d (fun a => s2fig w 0 v (w (0, 8, 0) 5) a) 10) (fun _ => ((s1last w 0 v (w (0, 8, 0) 5) (w (0, v, 3) 4).toNat : Nat) : Int)) 1) (fun k => w (0, v, 1) k) (w (0, v, 0) 9).toNat) (fun p => w (0, v, 2) p) 0))), (6, vI (((0 : Nat) : Int)))]) e_5 (by (obtain rfl : j = (w (0, v, 0) 9).toNat := (by omega)); (first | (rw [dg_z]; done) | (rw [dg_z]; rfl))) ?_
              exact loop_104 _ (0) (by omega) (Nat.lt_succ_self _) (e_5 ▸ hr)
            · skip
              refine r_lload C (k := 2) dX3_digestOn_78 rfl ?_
              refine r_ldc2 C (v := 31) (by decide +kernel) dX3_digestOn_80 ?_
              refine r_lmul C dX3_digestOn_83 ?_
              refine r_aload_n C (k := 1) dX3_digestOn_84 rfl ?_
              refine r_getf C 8 (v := .ref (adr G (0, v, 1))) (ok_of hG (kdv0 (Nat.zero_le 1) hv) (by decide) (show (0 : Nat) ≤ 6 by decide)) (kdv0 (Nat.zero_le 1) hv) (by decide) rfl hinX2 (by decide) (by decide +kernel) rfl rfl dX3_digestOn_85 ?_
              refine r_iload C (k := 3) dX3_digestOn_88 rfl ?_
              refine r_iald C (j) (ok_of hG (kdv1 (Nat.zero_le 1) hv) (by decide) (show (0 : Nat) ≤ 6 by decide)) (kdv1 (Nat.zero_le 1) hv) rfl (by first | omega | assumption) (by decide) dX3_digestOn_90 ?_
              refine r_i2l C dX3_digestOn_91 (by first | exact hr _ _ | exact hfi | assumption | exact ⟨by omega, by omega⟩) ?_
              refine r_ladd C dX3_digestOn_92 ?_
              refine r_lstore C (i := 4) (lv' := [(4, .long ((((dg (dg (dg d (fun a => s2fig w 0 v (w (0, 8, 0) 5) a) 10) (fun _ => ((s1last w 0 v (w (0, 8, 0) 5) (w (0, v, 3) 4).toNat : Nat) : Int)) 1) (fun k => w (0, v, 1) k) j) * 31) + Int64.ofInt (w (0, v, 1) (j))))), (0, .ref (adr G (2, 0, 0))), (3, .ref (adr G (0, v, 0))), (6, vI (((j : Nat) : Int)))]) dX3_digestOn_93 (by decide) rfl ?_
              refine r_iinc C (k := 3) (lv' := [(6, vI (((j + 1 : Nat) : Int))), (4, .long ((((dg (dg (dg d (fun a => s2fig w 0 v (w (0, 8, 0) 5) a) 10) (fun _ => ((s1last w 0 v (w (0, 8, 0) 5) (w (0, v, 3) 4).toNat : Nat) : Int)) 1) (fun k => w (0, v, 1) k) j) * 31) + Int64.ofInt (w (0, v, 1) (j))))), (0, .ref (adr G (2, 0, 0))), (3, .ref (adr G (0, v, 0)))]) dX3_digestOn_95 rfl (by decide) rfl ?_
              refine r_goto C (tgt := 69) dX3_digestOn_98 (by decide) ?_
              have e_6 : w = w := by rfl
              refine Wm.sub (lv' := [(0, .ref (adr G (2, 0, 0))), (3, .ref (adr G (0, v, 0))), (4, .long ((((dg (dg (dg d (fun a => s2fig w 0 v (w (0, 8, 0) 5) a) 10) (fun _ => ((s1last w 0 v (w (0, 8, 0) 5) (w (0, v, 3) 4).toNat : Nat) : Int)) 1) (fun k => w (0, v, 1) k) j) * 31) + Int64.ofInt (w (0, v, 1) (j))))), (6, vI (((j + 1 : Nat) : Int)))]) [2, 3, 1, 0] rfl ?_
              refine Wm.mem (lv' := [(0, .ref (adr G (2, 0, 0))), (3, .ref (adr G (0, v, 0))), (4, .long ((dg (dg (dg d (fun a => s2fig w 0 v (w (0, 8, 0) 5) a) 10) (fun _ => ((s1last w 0 v (w (0, 8, 0) 5) (w (0, v, 3) 4).toNat : Nat) : Int)) 1) (fun k => w (0, v, 1) k) (j + 1)))), (6, vI ((((j + 1) : Nat) : Int)))]) e_6 (by (first | (rw [dg_s (n := j)]; done) | (rw [dg_s (n := j)]; rfl))) ?_
              exact ih69 ((j + 1)) (by omega) (by omega) (e_6 ▸ hr)
        have e_7 : w = w := by rfl
        refine Wm.sub (lv' := [(0, .ref (adr G (2, 0, 0))), (3, .ref (adr G (0, v, 0))), (4, .long ((((dg d (fun a => s2fig w 0 v (w (0, 8, 0) 5) a) i) * 31) + Int64.ofInt ((((s1last w 0 v (w (0, 8, 0) (5)) (w (0, v, 3) 4).toNat : Nat) : Int)))))), (6, vI (0))]) [2, 3, 1, 0] rfl ?_
        refine Wm.mem (lv' := [(0, .ref (adr G (2, 0, 0))), (3, .ref (adr G (0, v, 0))), (4, .long ((dg (dg (dg d (fun a => s2fig w 0 v (w (0, 8, 0) 5) a) 10) (fun _ => ((s1last w 0 v (w (0, 8, 0) 5) (w (0, v, 3) 4).toNat : Nat) : Int)) 1) (fun k => w (0, v, 1) k) 0))), (6, vI (((0 : Nat) : Int)))]) e_7 (by (obtain rfl : i = 10 := (by omega)); (first | (rw [dg_z, dg_1]; done) | (rw [dg_z, dg_1]; rfl))) ?_
        exact loop_69 _ (0) (by omega) (Nat.lt_succ_self _) (e_7 ▸ hr)
      · skip
        refine r_lload C (k := 2) dX3_digestOn_13 rfl ?_
        refine r_ldc2 C (v := 31) (by decide +kernel) dX3_digestOn_15 ?_
        refine r_lmul C dX3_digestOn_18 ?_
        refine r_aload_n C (k := 1) dX3_digestOn_19 rfl ?_
        refine r_iload C (k := 3) dX3_digestOn_20 rfl ?_
        refine r_aload_n C (k := 0) dX3_digestOn_22 rfl ?_
        refine r_getf C 0 (v := .ref (adr G (0, 8, 0))) (ok_of hG (show kd (2, 0, 0) = _ from rfl) (by decide) (show (2 : Nat) ≤ 6 by decide)) (show kd (2, 0, 0) = _ from rfl) (by decide) rfl hinX3 (by decide) (by decide +kernel) rfl rfl dX3_digestOn_23 ?_
        refine r_getf C 5 (ok_of hG (kdl0 (Nat.zero_le 1)) (by decide) (show (0 : Nat) ≤ 6 by decide)) (kdl0 (Nat.zero_le 1)) (by decide) rfl hinX0 (by decide) (by decide +kernel) rfl rfl dX3_digestOn_26 ?_
        refine r_callV C (w' := w) [vI (((i : Nat) : Int)), vI (w (0, 8, 0) (5))] 2 (c_X2_figure hG (Nat.zero_le 1) hv (by exact ⟨by omega, by omega⟩) (by exact ⟨by omega, by omega⟩) (by exact k3)) gX3_digestOn_X2_figure rfl rfl rfl (by decide +kernel) (Nat.le_of_ble_eq_true rfl) (Nat.le_of_ble_eq_true rfl) ⟨(Nat.zero_le _), (Nat.zero_le _)⟩ (ok_of hG (kdv0 (Nat.zero_le 1) hv) (by decide) (show (0 : Nat) ≤ 6 by decide)) (kdv0 (Nat.zero_le 1) hv) (by decide) rfl rfl rfl (Nat.le_of_ble_eq_true rfl) (st' := [vI ((s2fig w 0 v (w (0, 8, 0) (5)) ((((i : Nat) : Int))).toNat)), .long (((dg d (fun a => s2fig w 0 v (w (0, 8, 0) 5) a) i) * 31))]) rfl dX3_digestOn_29 (fun hr => ?_)
        refine r_i2l C dX3_digestOn_32 (by first | exact hr _ _ | exact hfi | assumption | exact ⟨by omega, by omega⟩) ?_
        refine r_ladd C dX3_digestOn_33 ?_
        refine r_lstore C (i := 4) (lv' := [(4, .long ((((dg d (fun a => s2fig w 0 v (w (0, 8, 0) 5) a) i) * 31) + Int64.ofInt ((s2fig w 0 v (w (0, 8, 0) (5)) ((((i : Nat) : Int))).toNat))))), (0, .ref (adr G (2, 0, 0))), (3, .ref (adr G (0, v, 0))), (6, vI (((i : Nat) : Int)))]) dX3_digestOn_34 (by decide) rfl ?_
        refine r_iinc C (k := 3) (lv' := [(6, vI (((i + 1 : Nat) : Int))), (4, .long ((((dg d (fun a => s2fig w 0 v (w (0, 8, 0) 5) a) i) * 31) + Int64.ofInt ((s2fig w 0 v (w (0, 8, 0) (5)) ((((i : Nat) : Int))).toNat))))), (0, .ref (adr G (2, 0, 0))), (3, .ref (adr G (0, v, 0)))]) dX3_digestOn_36 rfl (by decide) rfl ?_
        refine r_goto C (tgt := 6) dX3_digestOn_39 (by decide) ?_
        have e_8 : w = w := by rfl
        refine Wm.sub (lv' := [(0, .ref (adr G (2, 0, 0))), (3, .ref (adr G (0, v, 0))), (4, .long ((((dg d (fun a => s2fig w 0 v (w (0, 8, 0) 5) a) i) * 31) + Int64.ofInt ((s2fig w 0 v (w (0, 8, 0) (5)) ((((i : Nat) : Int))).toNat))))), (6, vI (((i + 1 : Nat) : Int)))]) [2, 3, 1, 0] rfl ?_
        refine Wm.mem (lv' := [(0, .ref (adr G (2, 0, 0))), (3, .ref (adr G (0, v, 0))), (4, .long ((dg d (fun a => s2fig w 0 v (w (0, 8, 0) 5) a) (i + 1)))), (6, vI ((((i + 1) : Nat) : Int)))]) e_8 (by (first | (rw [dg_s (n := i)]; done) | (rw [dg_s (n := i)]; rfl))) ?_
        exact ih6 ((i + 1)) (by omega) (by omega) (e_8 ▸ hr)
  have e_9 : w = w := by rfl
  refine Wm.sub (lv' := [(0, .ref (adr G (2, 0, 0))), (3, .ref (adr G (0, v, 0))), (4, .long (d)), (6, vI (0))]) [2, 4, 1, 0] rfl ?_
  refine Wm.mem (lv' := [(0, .ref (adr G (2, 0, 0))), (3, .ref (adr G (0, v, 0))), (4, .long ((dg d (fun a => s2fig w 0 v (w (0, 8, 0) 5) a) 0))), (6, vI (((0 : Nat) : Int)))]) e_9 (by (first | (rw [dg_z]; done) | (rw [dg_z]; rfl))) ?_
  exact loop_6 _ (0) (by omega) (Nat.lt_succ_self _) (e_9 ▸ hr)

set_option maxRecDepth 100000 in
set_option maxHeartbeats 1500000 in
theorem c_X3_digest {l : Launch} {G : Gt} (hG : Gok G)  {w : Mm} {N D : Int} {X : Nat → Int} (hL : LI w 0 N D X) (hN : N ≤ 1000000 ∧ D ≤ 1000000000 ∧ ∀ u, u ≤ 7 → X u ≤ 100000000) : Con l G yX3_digest wsX3_digest ({ frames := 4, cells := 0, slots := 0, locals := 91 } : Room) w [.ref (adr G (2, 0, 0))] (some (.long (dgX w))) w 0 0 := by
  refine Con.head (cc := cX3_digest) (nL := 4) (ret := (some .long)) hG (by decide +kernel) rfl (Nat.le_of_ble_eq_true rfl) ?_
  intro B A hBl C hr
  have hr0 := hr
  have hrI := hr
  have hinX0 : ∀ w ∈ u_ws RX0 TX0 7, w ∈ wsX3_digest := by decide +kernel
  have hinX3 : ∀ w ∈ u_ws RX3 TX3 2, w ∈ wsX3_digest := by decide +kernel
  have hL0 := hL
  obtain ⟨⟨v1, v2⟩, ⟨p1, p2⟩, ⟨b1, b2⟩, ⟨d1, d2⟩, htc, hvs⟩ := hL
  obtain ⟨hN1, hN2, hN3⟩ := hN
  refine r_ldc2 C (v := 769) (by decide +kernel) dX3_digest_0 ?_
  refine r_lstore_n C (i := 1) (lv' := [(1, .long (769)), (0, .ref (adr G (2, 0, 0)))]) dX3_digest_3 rfl (by decide) rfl ?_
  refine r_iconst C dX3_digest_4 ?_
  refine r_istore_n C (i := 3) (lv' := [(3, vI (0)), (1, .long (769)), (0, .ref (adr G (2, 0, 0)))]) dX3_digest_5 rfl (by decide) rfl ?_
  have loop_6 : ∀ (nf : Nat) (i : Nat), (i ≤ 8) → 8 - i < nf → rng w → Wm B 4 G A (Qe B G A (some (.long (dgX w))) w 0 0) w (0) (0) 6 [(0, .ref (adr G (2, 0, 0))), (1, .long ((dg 769 (fun a => s0fig w 0 a) i))), (3, vI (((i : Nat) : Int)))] [] := by
    intro n6
    induction n6 with
    | zero => intro i hi hm; exact absurd hm (Nat.not_lt_zero _)
    | succ n6 ih6 =>
      intro i hi hm hr
      have hrI := hr
      have hfi : inR (s0fig w 0 i) := s0fig_R hL0 hN1 hN2 hN3
      refine r_iload_n C (k := 2) dX3_digest_6 rfl ?_
      refine r_bipush C dX3_digest_7 (by decide) ?_
      refine r_icmp_ge C (tgt := 34) dX3_digest_9 (by decide) (by first | exact hr _ _ | exact hfi | assumption | exact ⟨by omega, by omega⟩) ⟨by decide, by decide⟩ (fun h_1 => ?_) (fun h_1 => ?_)
      · skip
        refine r_iconst C dX3_digest_34 ?_
        refine r_istore_n C (i := 3) (lv' := [(3, vI (0)), (0, .ref (adr G (2, 0, 0))), (1, .long ((dg 769 (fun a => s0fig w 0 a) i)))]) dX3_digest_35 rfl (by decide) rfl ?_
        have loop_36 : ∀ (nf : Nat) (j : Nat), (j ≤ (w (0, 8, 0) 4).toNat) → (w (0, 8, 0) 4).toNat - j < nf → rng w → Wm B 4 G A (Qe B G A (some (.long (dgX w))) w 0 0) w (0) (0) 36 [(0, .ref (adr G (2, 0, 0))), (1, .long ((dg (dg 769 (fun a => s0fig w 0 a) 8) (fun p => w (0, 8, 1) p) j))), (3, vI (((j : Nat) : Int)))] [] := by
          intro n36
          induction n36 with
          | zero => intro j hj hm; exact absurd hm (Nat.not_lt_zero _)
          | succ n36 ih36 =>
            intro j hj hm hr
            have hrI := hr
            refine r_iload_n C (k := 2) dX3_digest_36 rfl ?_
            refine r_aload_n C (k := 0) dX3_digest_37 rfl ?_
            refine r_getf C 0 (v := .ref (adr G (0, 8, 0))) (ok_of hG (show kd (2, 0, 0) = _ from rfl) (by decide) (show (2 : Nat) ≤ 6 by decide)) (show kd (2, 0, 0) = _ from rfl) (by decide) rfl hinX3 (by decide) (by decide +kernel) rfl rfl dX3_digest_38 ?_
            refine r_getf C 4 (ok_of hG (kdl0 (Nat.zero_le 1)) (by decide) (show (0 : Nat) ≤ 6 by decide)) (kdl0 (Nat.zero_le 1)) (by decide) rfl hinX0 (by decide) (by decide +kernel) rfl rfl dX3_digest_41 ?_
            refine r_icmp_ge C (tgt := 70) dX3_digest_44 (by decide) (by first | exact hr _ _ | exact hfi | assumption | exact ⟨by omega, by omega⟩) (by first | exact hr _ _ | exact hfi | assumption | exact ⟨by omega, by omega⟩) (fun h_2 => ?_) (fun h_2 => ?_)
            · skip
              refine r_iconst C dX3_digest_70 ?_
              refine r_istore_n C (i := 3) (lv' := [(3, vI (0)), (0, .ref (adr G (2, 0, 0))), (1, .long ((dg (dg 769 (fun a => s0fig w 0 a) 8) (fun p => w (0, 8, 1) p) j)))]) dX3_digest_71 rfl (by decide) rfl ?_
              have loop_72 : ∀ (nf : Nat) (v : Nat), (v ≤ (w (0, 8, 0) 1).toNat) → (w (0, 8, 0) 1).toNat - v < nf → rng w → Wm B 4 G A (Qe B G A (some (.long (dgX w))) w 0 0) w (0) (0) 72 [(0, .ref (adr G (2, 0, 0))), (1, .long ((dgL w (dg (dg 769 (fun a => s0fig w 0 a) 8) (fun p => w (0, 8, 1) p) (w (0, 8, 0) 4).toNat) v))), (3, vI (((v : Nat) : Int)))] [] := by
                intro n72
                induction n72 with
                | zero => intro v hv hm; exact absurd hm (Nat.not_lt_zero _)
                | succ n72 ih72 =>
                  intro v hv hm hr
                  have hrI := hr
                  refine r_iload_n C (k := 2) dX3_digest_72 rfl ?_
                  refine r_aload_n C (k := 0) dX3_digest_73 rfl ?_
                  refine r_getf C 0 (v := .ref (adr G (0, 8, 0))) (ok_of hG (show kd (2, 0, 0) = _ from rfl) (by decide) (show (2 : Nat) ≤ 6 by decide)) (show kd (2, 0, 0) = _ from rfl) (by decide) rfl hinX3 (by decide) (by decide +kernel) rfl rfl dX3_digest_74 ?_
                  refine r_getf C 1 (ok_of hG (kdl0 (Nat.zero_le 1)) (by decide) (show (0 : Nat) ≤ 6 by decide)) (kdl0 (Nat.zero_le 1)) (by decide) rfl hinX0 (by decide) (by decide +kernel) rfl rfl dX3_digest_77 ?_
                  refine r_icmp_ge C (tgt := 104) dX3_digest_80 (by decide) (by first | exact hr _ _ | exact hfi | assumption | exact ⟨by omega, by omega⟩) (by first | exact hr _ _ | exact hfi | assumption | exact ⟨by omega, by omega⟩) (fun h_3 => ?_) (fun h_3 => ?_)
                  · skip
                    refine r_lload_n C (k := 1) dX3_digest_104 rfl ?_
                    exact r_lret C dX3_digest_105 (by (obtain rfl : v = (w (0, 8, 0) 1).toNat := (by omega)); (unfold dgX; rfl)) (by first | rfl | (simp [*]; done))
                  · skip
                    refine r_aload_n C (k := 0) dX3_digest_83 rfl ?_
                    refine r_lload_n C (k := 1) dX3_digest_84 rfl ?_
                    refine r_aload_n C (k := 0) dX3_digest_85 rfl ?_
                    refine r_getf C 0 (v := .ref (adr G (0, 8, 0))) (ok_of hG (show kd (2, 0, 0) = _ from rfl) (by decide) (show (2 : Nat) ≤ 6 by decide)) (show kd (2, 0, 0) = _ from rfl) (by decide) rfl hinX3 (by decide) (by decide +kernel) rfl rfl dX3_digest_86 ?_
                    refine r_getf C 0 (v := .ref (adr G (0, 8, 3))) (ok_of hG (kdl0 (Nat.zero_le 1)) (by decide) (show (0 : Nat) ≤ 6 by decide)) (kdl0 (Nat.zero_le 1)) (by decide) rfl hinX0 (by decide) (by decide +kernel) rfl rfl dX3_digest_89 ?_
                    refine r_iload_n C (k := 2) dX3_digest_92 rfl ?_
                    refine r_aald C (v) (ok_of hG (kdl3 (Nat.zero_le 1)) (by decide) (show (0 : Nat) ≤ 6 by decide)) (Nat.zero_le 1) rfl (by first | omega | assumption) dX3_digest_93 ?_
                    refine r_callV C (w' := w) [.long ((dgL w (dg (dg 769 (fun a => s0fig w 0 a) 8) (fun p => w (0, 8, 1) p) (w (0, 8, 0) 4).toNat) v)), .ref (adr G (0, v, 0))] 2 (c_X3_digestOn hG (by omega) (by exact hL0) (by exact hN1)) gX3_digest_X3_digestOn rfl rfl rfl (by decide +kernel) (Nat.le_of_ble_eq_true rfl) (Nat.le_of_ble_eq_true rfl) ⟨(Nat.zero_le _), (Nat.zero_le _)⟩ (ok_of hG (show kd (2, 0, 0) = _ from rfl) (by decide) (show (2 : Nat) ≤ 6 by decide)) (show kd (2, 0, 0) = _ from rfl) (by decide) rfl rfl rfl (Nat.le_of_ble_eq_true rfl) (st' := [.long ((dgV w v ((dgL w (dg (dg 769 (fun a => s0fig w 0 a) 8) (fun p => w (0, 8, 1) p) (w (0, 8, 0) 4).toNat) v))))]) rfl dX3_digest_94 (fun hr => ?_)
                    refine r_lstore_n C (i := 1) (lv' := [(1, .long ((dgV w v ((dgL w (dg (dg 769 (fun a => s0fig w 0 a) 8) (fun p => w (0, 8, 1) p) (w (0, 8, 0) 4).toNat) v))))), (0, .ref (adr G (2, 0, 0))), (3, vI (((v : Nat) : Int)))]) dX3_digest_97 rfl (by decide) rfl ?_
                    refine r_iinc C (k := 2) (lv' := [(3, vI (((v + 1 : Nat) : Int))), (1, .long ((dgV w v ((dgL w (dg (dg 769 (fun a => s0fig w 0 a) 8) (fun p => w (0, 8, 1) p) (w (0, 8, 0) 4).toNat) v))))), (0, .ref (adr G (2, 0, 0)))]) dX3_digest_98 rfl (by decide) rfl ?_
                    refine r_goto C (tgt := 72) dX3_digest_101 (by decide) ?_
                    have e_4 : w = w := by rfl
                    refine Wm.sub (lv' := [(0, .ref (adr G (2, 0, 0))), (1, .long ((dgV w v ((dgL w (dg (dg 769 (fun a => s0fig w 0 a) 8) (fun p => w (0, 8, 1) p) (w (0, 8, 0) 4).toNat) v))))), (3, vI (((v + 1 : Nat) : Int)))]) [2, 1, 0] rfl ?_
                    refine Wm.mem (lv' := [(0, .ref (adr G (2, 0, 0))), (1, .long ((dgL w (dg (dg 769 (fun a => s0fig w 0 a) 8) (fun p => w (0, 8, 1) p) (w (0, 8, 0) 4).toNat) (v + 1)))), (3, vI ((((v + 1) : Nat) : Int)))]) e_4 (by (first | (rw [dgL_s]; done) | (rw [dgL_s]; rfl))) ?_
                    exact ih72 ((v + 1)) (by omega) (by omega) (e_4 ▸ hr)
              have e_5 : w = w := by rfl
              refine Wm.sub (lv' := [(0, .ref (adr G (2, 0, 0))), (1, .long ((dg (dg 769 (fun a => s0fig w 0 a) 8) (fun p => w (0, 8, 1) p) j))), (3, vI (0))]) [1, 2, 0] rfl ?_
              refine Wm.mem (lv' := [(0, .ref (adr G (2, 0, 0))), (1, .long ((dgL w (dg (dg 769 (fun a => s0fig w 0 a) 8) (fun p => w (0, 8, 1) p) (w (0, 8, 0) 4).toNat) 0))), (3, vI (((0 : Nat) : Int)))]) e_5 (by (obtain rfl : j = (w (0, 8, 0) 4).toNat := (by omega)); (first | (rw [dgL_z]; done) | (rw [dgL_z]; rfl))) ?_
              exact loop_72 _ (0) (by omega) (Nat.lt_succ_self _) (e_5 ▸ hr)
            · skip
              refine r_lload_n C (k := 1) dX3_digest_47 rfl ?_
              refine r_ldc2 C (v := 31) (by decide +kernel) dX3_digest_48 ?_
              refine r_lmul C dX3_digest_51 ?_
              refine r_aload_n C (k := 0) dX3_digest_52 rfl ?_
              refine r_getf C 0 (v := .ref (adr G (0, 8, 0))) (ok_of hG (show kd (2, 0, 0) = _ from rfl) (by decide) (show (2 : Nat) ≤ 6 by decide)) (show kd (2, 0, 0) = _ from rfl) (by decide) rfl hinX3 (by decide) (by decide +kernel) rfl rfl dX3_digest_53 ?_
              refine r_getf C 2 (v := .ref (adr G (0, 8, 1))) (ok_of hG (kdl0 (Nat.zero_le 1)) (by decide) (show (0 : Nat) ≤ 6 by decide)) (kdl0 (Nat.zero_le 1)) (by decide) rfl hinX0 (by decide) (by decide +kernel) rfl rfl dX3_digest_56 ?_
              refine r_iload_n C (k := 2) dX3_digest_59 rfl ?_
              refine r_iald C (j) (ok_of hG (kdl1 (Nat.zero_le 1)) (by decide) (show (0 : Nat) ≤ 6 by decide)) (kdl1 (Nat.zero_le 1)) rfl (by first | omega | assumption) (by decide) dX3_digest_60 ?_
              refine r_i2l C dX3_digest_61 (by first | exact hr _ _ | exact hfi | assumption | exact ⟨by omega, by omega⟩) ?_
              refine r_ladd C dX3_digest_62 ?_
              refine r_lstore_n C (i := 1) (lv' := [(1, .long ((((dg (dg 769 (fun a => s0fig w 0 a) 8) (fun p => w (0, 8, 1) p) j) * 31) + Int64.ofInt (w (0, 8, 1) (j))))), (0, .ref (adr G (2, 0, 0))), (3, vI (((j : Nat) : Int)))]) dX3_digest_63 rfl (by decide) rfl ?_
              refine r_iinc C (k := 2) (lv' := [(3, vI (((j + 1 : Nat) : Int))), (1, .long ((((dg (dg 769 (fun a => s0fig w 0 a) 8) (fun p => w (0, 8, 1) p) j) * 31) + Int64.ofInt (w (0, 8, 1) (j))))), (0, .ref (adr G (2, 0, 0)))]) dX3_digest_64 rfl (by decide) rfl ?_
              refine r_goto C (tgt := 36) dX3_digest_67 (by decide) ?_
              have e_6 : w = w := by rfl
              refine Wm.sub (lv' := [(0, .ref (adr G (2, 0, 0))), (1, .long ((((dg (dg 769 (fun a => s0fig w 0 a) 8) (fun p => w (0, 8, 1) p) j) * 31) + Int64.ofInt (w (0, 8, 1) (j))))), (3, vI (((j + 1 : Nat) : Int)))]) [2, 1, 0] rfl ?_
              refine Wm.mem (lv' := [(0, .ref (adr G (2, 0, 0))), (1, .long ((dg (dg 769 (fun a => s0fig w 0 a) 8) (fun p => w (0, 8, 1) p) (j + 1)))), (3, vI ((((j + 1) : Nat) : Int)))]) e_6 (by (first | (rw [dg_s (n := j)]; done) | (rw [dg_s (n := j)]; rfl))) ?_
              exact ih36 ((j + 1)) (by omega) (by omega) (e_6 ▸ hr)
        have e_7 : w = w := by rfl
        refine Wm.sub (lv' := [(0, .ref (adr G (2, 0, 0))), (1, .long ((dg 769 (fun a => s0fig w 0 a) i))), (3, vI (0))]) [1, 2, 0] rfl ?_
        refine Wm.mem (lv' := [(0, .ref (adr G (2, 0, 0))), (1, .long ((dg (dg 769 (fun a => s0fig w 0 a) 8) (fun p => w (0, 8, 1) p) 0))), (3, vI (((0 : Nat) : Int)))]) e_7 (by (obtain rfl : i = 8 := (by omega)); (first | (rw [dg_z]; done) | (rw [dg_z]; rfl))) ?_
        exact loop_36 _ (0) (by omega) (Nat.lt_succ_self _) (e_7 ▸ hr)
      · skip
        refine r_lload_n C (k := 1) dX3_digest_12 rfl ?_
        refine r_ldc2 C (v := 31) (by decide +kernel) dX3_digest_13 ?_
        refine r_lmul C dX3_digest_16 ?_
        refine r_aload_n C (k := 0) dX3_digest_17 rfl ?_
        refine r_getf C 0 (v := .ref (adr G (0, 8, 0))) (ok_of hG (show kd (2, 0, 0) = _ from rfl) (by decide) (show (2 : Nat) ≤ 6 by decide)) (show kd (2, 0, 0) = _ from rfl) (by decide) rfl hinX3 (by decide) (by decide +kernel) rfl rfl dX3_digest_18 ?_
        refine r_iload_n C (k := 2) dX3_digest_21 rfl ?_
        refine r_callV C (w' := w) [vI (((i : Nat) : Int))] 1 (c_X0_figure hG (Nat.zero_le 1) (by first | assumption | omega | exact hr _ _ | exact hr0 _ _ | exact hrI _ _ | exact ⟨by omega, by omega⟩ | exact bI_inR _ | (simp [st1] <;> omega) | exact rowR.so (by assumption) (by simp)) (by exact ⟨by omega, by omega⟩)) gX3_digest_X0_figure rfl rfl rfl (by decide +kernel) (Nat.le_of_ble_eq_true rfl) (Nat.le_of_ble_eq_true rfl) ⟨(Nat.zero_le _), (Nat.zero_le _)⟩ (ok_of hG (kdl0 (Nat.zero_le 1)) (by decide) (show (0 : Nat) ≤ 6 by decide)) (kdl0 (Nat.zero_le 1)) (by decide) rfl rfl rfl (Nat.le_of_ble_eq_true rfl) (st' := [vI ((s0fig w 0 ((((i : Nat) : Int))).toNat)), .long (((dg 769 (fun a => s0fig w 0 a) i) * 31))]) rfl dX3_digest_22 (fun hr => ?_)
        refine r_i2l C dX3_digest_25 (by first | exact hr _ _ | exact hfi | assumption | exact ⟨by omega, by omega⟩) ?_
        refine r_ladd C dX3_digest_26 ?_
        refine r_lstore_n C (i := 1) (lv' := [(1, .long ((((dg 769 (fun a => s0fig w 0 a) i) * 31) + Int64.ofInt ((s0fig w 0 ((((i : Nat) : Int))).toNat))))), (0, .ref (adr G (2, 0, 0))), (3, vI (((i : Nat) : Int)))]) dX3_digest_27 rfl (by decide) rfl ?_
        refine r_iinc C (k := 2) (lv' := [(3, vI (((i + 1 : Nat) : Int))), (1, .long ((((dg 769 (fun a => s0fig w 0 a) i) * 31) + Int64.ofInt ((s0fig w 0 ((((i : Nat) : Int))).toNat))))), (0, .ref (adr G (2, 0, 0)))]) dX3_digest_28 rfl (by decide) rfl ?_
        refine r_goto C (tgt := 6) dX3_digest_31 (by decide) ?_
        have e_8 : w = w := by rfl
        refine Wm.sub (lv' := [(0, .ref (adr G (2, 0, 0))), (1, .long ((((dg 769 (fun a => s0fig w 0 a) i) * 31) + Int64.ofInt ((s0fig w 0 ((((i : Nat) : Int))).toNat))))), (3, vI (((i + 1 : Nat) : Int)))]) [2, 1, 0] rfl ?_
        refine Wm.mem (lv' := [(0, .ref (adr G (2, 0, 0))), (1, .long ((dg 769 (fun a => s0fig w 0 a) (i + 1)))), (3, vI ((((i + 1) : Nat) : Int)))]) e_8 (by (first | (rw [dg_s (n := i)]; done) | (rw [dg_s (n := i)]; rfl))) ?_
        exact ih6 ((i + 1)) (by omega) (by omega) (e_8 ▸ hr)
  have e_9 : w = w := by rfl
  refine Wm.sub (lv' := [(0, .ref (adr G (2, 0, 0))), (1, .long (769)), (3, vI (0))]) [2, 1, 0] rfl ?_
  refine Wm.mem (lv' := [(0, .ref (adr G (2, 0, 0))), (1, .long ((dg 769 (fun a => s0fig w 0 a) 0))), (3, vI (((0 : Nat) : Int)))]) e_9 (by (first | (rw [dg_z]; done) | (rw [dg_z]; rfl))) ?_
  exact loop_6 _ (0) (by omega) (Nat.lt_succ_self _) (e_9 ▸ hr)
