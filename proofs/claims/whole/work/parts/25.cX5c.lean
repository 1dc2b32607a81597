set_option maxRecDepth 100000 in
set_option maxHeartbeats 8000000 in
theorem c_X5_village {l : Launch} {G : Gt} (hG : Gok G)  {w : Mm} {v : Int} {a : Int} (hv : inR v) (ha : inR a) (hvb : 0 ≤ w (3, 0, 0) 1 ∧ w (3, 0, 0) 1 ≤ 8) (hpb : 0 ≤ w (3, 0, 0) 2 ∧ w (3, 0, 0) 2 ≤ 12) (hf : rowR w (3, 0, 4) 8 0 23) (hb : 0 ≤ w (4, 0, 0) 0 ∧ w (4, 0, 0) 0 ≤ 1000000) (h7 : ¬ okk G (7, 0, 0)) : Con l G yX5_village wsX5_village ({ frames := 2, cells := 1, slots := 10, locals := 45 } : Room) w [.ref (adr G (3, 0, 0)), vI v, vI a] (some (vI ((if isV w v ∧ (0 ≤ a ∧ a ≤ 9) then rvtold (th0 w) v (a).toNat else 0)))) ((if isV w v ∧ (0 ≤ a ∧ a ≤ 9) then th0 w else thn w 1)) 1 10 := by
  refine Con.head (cc := cX5_village) (nL := 3) (ret := (some .int)) hG (by decide +kernel) rfl (Nat.le_of_ble_eq_true rfl) ?_
  intro B A hBl C hr
  have hr0 := hr
  have hrI := hr
  have hinX5 : ∀ w ∈ u_ws RX5 TX5 12, w ∈ wsX5_village := by decide +kernel
  obtain ⟨y1, y2⟩ := hvb
  refine r_aload_n C (k := 0) dX5_village_0 rfl ?_
  refine r_iconst C dX5_village_1 ?_
  refine r_putf C 0 hr ⟨by decide, by decide⟩ (ok_of hG (show kd (3, 0, 0) = _ from rfl) (by decide) (by decide)) (show kd (3, 0, 0) = _ from rfl) (by decide) rfl hinX5 tyX5_ok nmX5 (by decide) (by decide +kernel) rfl rfl (ty := .int) (by decide +kernel) rfl rfl rfl (Nat.le_of_ble_eq_true rfl) dX5_village_2 (fun hr => ?_)
  refine r_aload_n C (k := 0) dX5_village_5 rfl ?_
  refine r_iload_n C (k := 1) dX5_village_6 rfl ?_
  refine r_callV C (w' := (st1 w (3, 0, 0) (0) (0))) [vI (v)] 1 (c_X5_isVillage hG (by first | assumption | omega | exact hr _ _ | exact hr0 _ _ | exact hrI _ _ | exact ⟨by omega, by omega⟩ | exact bI_inR _ | (simp [st1] <;> omega) | exact rowR.so (by assumption) (by simp)) (by first | assumption | omega | exact hr _ _ | exact hr0 _ _ | exact hrI _ _ | exact ⟨by omega, by omega⟩ | exact bI_inR _ | (simp [st1] <;> omega) | exact rowR.so (by assumption) (by simp))) gX5_village_X5_isVillage rfl rfl rfl (by decide +kernel) (Nat.le_of_ble_eq_true rfl) (Nat.le_of_ble_eq_true rfl) ⟨(Nat.le_of_ble_eq_true rfl), (Nat.le_of_ble_eq_true rfl)⟩ (ok_of hG (show kd (3, 0, 0) = _ from rfl) (by decide) (by decide)) (show kd (3, 0, 0) = _ from rfl) (by decide) rfl rfl rfl (Nat.le_of_ble_eq_true rfl) (st' := [vI (bI (0 ≤ (v) ∧ (v) ≤ (w (3, 0, 0) (1)) - 1))]) rfl dX5_village_7 (fun hr => ?_)
  refine r_if_eqP C (P := 0 ≤ (v) ∧ (v) ≤ (w (3, 0, 0) (1)) - 1) (tgt := 32) dX5_village_10 (by decide) (fun h_1 => ?_) (fun h_1 => ?_)
  · skip
    refine r_aload_n C (k := 0) dX5_village_32 rfl ?_
    refine r_iconst C dX5_village_33 ?_
    refine r_callV C (w' := (st1 (st1 w (3, 0, 0) (0) (0)) (3, 0, 0) 0 (1))) [vI (1)] 1 (c_X5_no hG (by first | assumption | omega | exact hr _ _ | exact hr0 _ _ | exact hrI _ _ | exact ⟨by omega, by omega⟩ | exact bI_inR _ | (simp [st1] <;> omega) | exact rowR.so (by assumption) (by simp))) gX5_village_X5_no rfl rfl rfl (by decide +kernel) (Nat.le_of_ble_eq_true rfl) (Nat.le_of_ble_eq_true rfl) ⟨(Nat.le_of_ble_eq_true rfl), (Nat.le_of_ble_eq_true rfl)⟩ (ok_of hG (show kd (3, 0, 0) = _ from rfl) (by decide) (by decide)) (show kd (3, 0, 0) = _ from rfl) (by decide) rfl rfl rfl (Nat.le_of_ble_eq_true rfl) (st' := [vI ((0))]) rfl dX5_village_34 (fun hr => ?_)
    refine Wm.widen (c2 := 1) (s2 := 10) (by omega) (by omega) ?_
    exact r_iret C dX5_village_37 (by (first | rfl | ((repeat' split) <;> first | rfl | contradiction | (exfalso; omega)))) (by (first | rfl | ((repeat' split) <;> first | rfl | contradiction | (exfalso; omega))))
  · skip
    refine r_iload_n C (k := 2) dX5_village_13 rfl ?_
    refine r_iconst C dX5_village_14 ?_
    refine r_bipush C dX5_village_15 (by decide) ?_
    refine r_callS C (w' := (st1 w (3, 0, 0) (0) (0))) [vI (a), vI (0), vI (9)] 3 (c_X5_isIn hG (by first | assumption | omega | exact hr _ _ | exact hr0 _ _ | exact hrI _ _ | exact ⟨by omega, by omega⟩ | exact bI_inR _ | (simp [st1] <;> omega) | exact rowR.so (by assumption) (by simp)) (by first | assumption | omega | exact hr _ _ | exact hr0 _ _ | exact hrI _ _ | exact ⟨by omega, by omega⟩ | exact bI_inR _ | (simp [st1] <;> omega) | exact rowR.so (by assumption) (by simp)) (by first | assumption | omega | exact hr _ _ | exact hr0 _ _ | exact hrI _ _ | exact ⟨by omega, by omega⟩ | exact bI_inR _ | (simp [st1] <;> omega) | exact rowR.so (by assumption) (by simp))) gX5_village_X5_isIn rfl rfl rfl (by decide +kernel) (Nat.le_of_ble_eq_true rfl) (Nat.le_of_ble_eq_true rfl) ⟨(Nat.le_of_ble_eq_true rfl), (Nat.le_of_ble_eq_true rfl)⟩ rfl rfl (Nat.le_of_ble_eq_true rfl) (st' := [vI (bI ((0) ≤ (a) ∧ (a) ≤ (9)))]) rfl dX5_village_17 (fun hr => ?_)
    refine r_if_eqP C (P := (0) ≤ (a) ∧ (a) ≤ (9)) (tgt := 32) dX5_village_20 (by decide) (fun h_2 => ?_) (fun h_2 => ?_)
    · skip
      refine r_aload_n C (k := 0) dX5_village_32 rfl ?_
      refine r_iconst C dX5_village_33 ?_
      refine r_callV C (w' := (st1 (st1 w (3, 0, 0) (0) (0)) (3, 0, 0) 0 (1))) [vI (1)] 1 (c_X5_no hG (by first | assumption | omega | exact hr _ _ | exact hr0 _ _ | exact hrI _ _ | exact ⟨by omega, by omega⟩ | exact bI_inR _ | (simp [st1] <;> omega) | exact rowR.so (by assumption) (by simp))) gX5_village_X5_no rfl rfl rfl (by decide +kernel) (Nat.le_of_ble_eq_true rfl) (Nat.le_of_ble_eq_true rfl) ⟨(Nat.le_of_ble_eq_true rfl), (Nat.le_of_ble_eq_true rfl)⟩ (ok_of hG (show kd (3, 0, 0) = _ from rfl) (by decide) (by decide)) (show kd (3, 0, 0) = _ from rfl) (by decide) rfl rfl rfl (Nat.le_of_ble_eq_true rfl) (st' := [vI ((0))]) rfl dX5_village_34 (fun hr => ?_)
      refine Wm.widen (c2 := 1) (s2 := 10) (by omega) (by omega) ?_
      exact r_iret C dX5_village_37 (by (first | rfl | ((repeat' split) <;> first | rfl | contradiction | (exfalso; omega)))) (by (first | rfl | ((repeat' split) <;> first | rfl | contradiction | (exfalso; omega))))
    · skip
      refine r_aload_n C (k := 0) dX5_village_23 rfl ?_
      refine r_iload_n C (k := 1) dX5_village_24 rfl ?_
      refine r_iload_n C (k := 2) dX5_village_25 rfl ?_
      refine r_callV C (w' := (st1 w (3, 0, 0) (0) (0))) [vI (v), vI (a)] 2 (c_X5_villageTold hG (by exact ⟨by omega, by omega⟩) (by exact ⟨by omega, by omega⟩) (by exact hpb) (by intro j hj; simp [st1]; exact hf j hj) (by exact hb) (by first | assumption | omega | exact hr _ _ | exact hr0 _ _ | exact hrI _ _ | exact ⟨by omega, by omega⟩ | exact bI_inR _ | (simp [st1] <;> omega) | exact rowR.so (by assumption) (by simp))) gX5_village_X5_villageTold rfl rfl rfl (by decide +kernel) (Nat.le_of_ble_eq_true rfl) (Nat.le_of_ble_eq_true rfl) ⟨(Nat.le_of_ble_eq_true rfl), (Nat.le_of_ble_eq_true rfl)⟩ (ok_of hG (show kd (3, 0, 0) = _ from rfl) (by decide) (by decide)) (show kd (3, 0, 0) = _ from rfl) (by decide) rfl rfl rfl (Nat.le_of_ble_eq_true rfl) (st' := [vI ((rvtold (st1 w (3, 0, 0) (0) (0)) (v) ((a)).toNat))]) rfl dX5_village_26 (fun hr => ?_)
      refine r_goto C (tgt := 37) dX5_village_29 (by decide) ?_
      refine Wm.widen (c2 := 1) (s2 := 10) (by omega) (by omega) ?_
      exact r_iret C dX5_village_37 (by (first | rfl | ((repeat' split) <;> first | rfl | contradiction | (exfalso; omega)))) (by (first | rfl | ((repeat' split) <;> first | rfl | contradiction | (exfalso; omega))))

set_option maxRecDepth 100000 in
set_option maxHeartbeats 8000000 in
theorem c_X5_count {l : Launch} {G : Gt} (hG : Gok G)  {w : Mm} {a : Int} (ha : inR a) (hvb : 0 ≤ w (3, 0, 0) 1 ∧ w (3, 0, 0) 1 ≤ 8) (hpb : 0 ≤ w (3, 0, 0) 2 ∧ w (3, 0, 0) 2 ≤ 12) (hrw : inR (rcw w (w (3, 0, 0) 1).toNat)) (hrp : inR (rprs w 4)) (h71 : ¬ okk G (7, 0, 1)) : Con l G yX5_count wsX5_count ({ frames := 3, cells := 1, slots := 8, locals := 69 } : Room) w [.ref (adr G (3, 0, 0)), vI a] (some (vI ((if 0 ≤ a ∧ a ≤ 7 then rcnt (th0 w) (a).toNat else 0)))) ((if 0 ≤ a ∧ a ≤ 7 then th0 w else thn w 1)) 1 8 := by
  refine Con.head (cc := cX5_count) (nL := 2) (ret := (some .int)) hG (by decide +kernel) rfl (Nat.le_of_ble_eq_true rfl) ?_
  intro B A hBl C hr
  have hr0 := hr
  have hrI := hr
  have hinX5 : ∀ w ∈ u_ws RX5 TX5 12, w ∈ wsX5_count := by decide +kernel
  have hrw : inR (rcw (th0 w) (th0 w (3, 0, 0) 1).toNat) := (show rcw (th0 w) (th0 w (3, 0, 0) 1).toNat = rcw w (w (3, 0, 0) 1).toNat from rfl) ▸ hrw
  have hrp : inR (rprs (th0 w) 4) := (show rprs (th0 w) 4 = rprs w 4 from rfl) ▸ hrp
  refine r_aload_n C (k := 0) dX5_count_0 rfl ?_
  refine r_iconst C dX5_count_1 ?_
  refine r_putf C 0 hr ⟨by decide, by decide⟩ (ok_of hG (show kd (3, 0, 0) = _ from rfl) (by decide) (by decide)) (show kd (3, 0, 0) = _ from rfl) (by decide) rfl hinX5 tyX5_ok nmX5 (by decide) (by decide +kernel) rfl rfl (ty := .int) (by decide +kernel) rfl rfl rfl (Nat.le_of_ble_eq_true rfl) dX5_count_2 (fun hr => ?_)
  refine r_iload_n C (k := 1) dX5_count_5 rfl ?_
  refine r_iconst C dX5_count_6 ?_
  refine r_bipush C dX5_count_7 (by decide) ?_
  refine r_callS C (w' := (st1 w (3, 0, 0) (0) (0))) [vI (a), vI (0), vI (7)] 3 (c_X5_isIn hG (by first | assumption | omega | exact hr _ _ | exact hr0 _ _ | exact hrI _ _ | exact ⟨by omega, by omega⟩ | exact bI_inR _ | (simp [st1] <;> omega) | exact rowR.so (by assumption) (by simp)) (by first | assumption | omega | exact hr _ _ | exact hr0 _ _ | exact hrI _ _ | exact ⟨by omega, by omega⟩ | exact bI_inR _ | (simp [st1] <;> omega) | exact rowR.so (by assumption) (by simp)) (by first | assumption | omega | exact hr _ _ | exact hr0 _ _ | exact hrI _ _ | exact ⟨by omega, by omega⟩ | exact bI_inR _ | (simp [st1] <;> omega) | exact rowR.so (by assumption) (by simp))) gX5_count_X5_isIn rfl rfl rfl (by decide +kernel) (Nat.le_of_ble_eq_true rfl) (Nat.le_of_ble_eq_true rfl) ⟨(Nat.le_of_ble_eq_true rfl), (Nat.le_of_ble_eq_true rfl)⟩ rfl rfl (Nat.le_of_ble_eq_true rfl) (st' := [vI (bI ((0) ≤ (a) ∧ (a) ≤ (7)))]) rfl dX5_count_9 (fun hr => ?_)
  refine r_if_eqP C (P := (0) ≤ (a) ∧ (a) ≤ (7)) (tgt := 23) dX5_count_12 (by decide) (fun h_1 => ?_) (fun h_1 => ?_)
  · skip
    refine r_aload_n C (k := 0) dX5_count_23 rfl ?_
    refine r_iconst C dX5_count_24 ?_
    refine r_callV C (w' := (st1 (st1 w (3, 0, 0) (0) (0)) (3, 0, 0) 0 (1))) [vI (1)] 1 (c_X5_no hG (by first | assumption | omega | exact hr _ _ | exact hr0 _ _ | exact hrI _ _ | exact ⟨by omega, by omega⟩ | exact bI_inR _ | (simp [st1] <;> omega) | exact rowR.so (by assumption) (by simp))) gX5_count_X5_no rfl rfl rfl (by decide +kernel) (Nat.le_of_ble_eq_true rfl) (Nat.le_of_ble_eq_true rfl) ⟨(Nat.le_of_ble_eq_true rfl), (Nat.le_of_ble_eq_true rfl)⟩ (ok_of hG (show kd (3, 0, 0) = _ from rfl) (by decide) (by decide)) (show kd (3, 0, 0) = _ from rfl) (by decide) rfl rfl rfl (Nat.le_of_ble_eq_true rfl) (st' := [vI ((0))]) rfl dX5_count_25 (fun hr => ?_)
    refine Wm.widen (c2 := 1) (s2 := 8) (by omega) (by omega) ?_
    exact r_iret C dX5_count_28 (by (first | rfl | ((repeat' split) <;> first | rfl | contradiction | (exfalso; omega)))) (by (first | rfl | ((repeat' split) <;> first | rfl | contradiction | (exfalso; omega))))
  · skip
    refine r_aload_n C (k := 0) dX5_count_15 rfl ?_
    refine r_iload_n C (k := 1) dX5_count_16 rfl ?_
    refine r_callV C (w' := (st1 w (3, 0, 0) (0) (0))) [vI (a)] 1 (c_X5_counted hG (by exact ⟨by omega, by omega⟩) (by exact hvb) (by exact hpb) (by exact hrw) (by exact hrp) (by first | assumption | omega | exact hr _ _ | exact hr0 _ _ | exact hrI _ _ | exact ⟨by omega, by omega⟩ | exact bI_inR _ | (simp [st1] <;> omega) | exact rowR.so (by assumption) (by simp))) gX5_count_X5_counted rfl rfl rfl (by decide +kernel) (Nat.le_of_ble_eq_true rfl) (Nat.le_of_ble_eq_true rfl) ⟨(Nat.le_of_ble_eq_true rfl), (Nat.le_of_ble_eq_true rfl)⟩ (ok_of hG (show kd (3, 0, 0) = _ from rfl) (by decide) (by decide)) (show kd (3, 0, 0) = _ from rfl) (by decide) rfl rfl rfl (Nat.le_of_ble_eq_true rfl) (st' := [vI ((rcnt (st1 w (3, 0, 0) (0) (0)) ((a)).toNat))]) rfl dX5_count_17 (fun hr => ?_)
    refine r_goto C (tgt := 28) dX5_count_20 (by decide) ?_
    refine Wm.widen (c2 := 1) (s2 := 8) (by omega) (by omega) ?_
    exact r_iret C dX5_count_28 (by (first | rfl | ((repeat' split) <;> first | rfl | contradiction | (exfalso; omega)))) (by (first | rfl | ((repeat' split) <;> first | rfl | contradiction | (exfalso; omega))))

set_option maxRecDepth 100000 in
set_option maxHeartbeats 8000000 in
theorem c_X5_pass {l : Launch} {G : Gt} (hG : Gok G)  {w : Mm} {n : Int} {N D X : Int} (hn : inR n) (hS : SI w 4 N D X) (hM : MI w) (hN : N ≤ 800000 ∧ D ≤ 800000000 ∧ X ≤ 800000000) (hs : ∀ i : Nat, (i : Int) < n → rgo (th0 w) 4 i (4, 0, 0) 2 ≤ 896) : Con l G yX5_pass wsX5_pass ({ frames := 5, cells := 0, slots := 0, locals := 112 } : Room) w [.ref (adr G (3, 0, 0)), vI n] (some (vI ((if 1 ≤ n ∧ n ≤ 200 then ((rgl (th0 w) 4 (n).toNat : Nat) : Int) else 0)))) ((if 1 ≤ n ∧ n ≤ 200 then rgo (th0 w) 4 (n).toNat else thn w 1)) 0 0 := by
  refine Con.head (cc := cX5_pass) (nL := 4) (ret := (some .int)) hG (by decide +kernel) rfl (Nat.le_of_ble_eq_true rfl) ?_
  intro B A hBl C hr
  have hr0 := hr
  have hrI := hr
  have hinX5 : ∀ w ∈ u_ws RX5 TX5 12, w ∈ wsX5_pass := by decide +kernel
  have hS1 := SI_th0 hS
  have hM1 := MI_th0 hM
  obtain ⟨hN1, hN2, hN3⟩ := hN
  refine r_aload_n C (k := 0) dX5_pass_0 rfl ?_
  refine r_iconst C dX5_pass_1 ?_
  refine r_putf C 0 hr ⟨by decide, by decide⟩ (ok_of hG (show kd (3, 0, 0) = _ from rfl) (by decide) (by decide)) (show kd (3, 0, 0) = _ from rfl) (by decide) rfl hinX5 tyX5_ok nmX5 (by decide) (by decide +kernel) rfl rfl (ty := .int) (by decide +kernel) rfl rfl rfl (Nat.le_of_ble_eq_true rfl) dX5_pass_2 (fun hr => ?_)
  refine r_iload_n C (k := 1) dX5_pass_5 rfl ?_
  refine r_iconst C dX5_pass_6 ?_
  refine r_sipush C dX5_pass_7 (by decide) ?_
  refine r_callS C (w' := (st1 w (3, 0, 0) (0) (0))) [vI (n), vI (1), vI (200)] 3 (c_X5_isIn hG (by first | assumption | omega | exact hr _ _ | exact hr0 _ _ | exact hrI _ _ | exact ⟨by omega, by omega⟩ | exact bI_inR _ | (simp [st1] <;> omega) | exact rowR.so (by assumption) (by simp)) (by first | assumption | omega | exact hr _ _ | exact hr0 _ _ | exact hrI _ _ | exact ⟨by omega, by omega⟩ | exact bI_inR _ | (simp [st1] <;> omega) | exact rowR.so (by assumption) (by simp)) (by first | assumption | omega | exact hr _ _ | exact hr0 _ _ | exact hrI _ _ | exact ⟨by omega, by omega⟩ | exact bI_inR _ | (simp [st1] <;> omega) | exact rowR.so (by assumption) (by simp))) gX5_pass_X5_isIn rfl rfl rfl (by decide +kernel) (Nat.le_of_ble_eq_true rfl) (Nat.le_of_ble_eq_true rfl) ⟨(Nat.zero_le _), (Nat.zero_le _)⟩ rfl rfl (Nat.le_of_ble_eq_true rfl) (st' := [vI (bI ((1) ≤ (n) ∧ (n) ≤ (200)))]) rfl dX5_pass_10 (fun hr => ?_)
  refine r_if_neP C (P := (1) ≤ (n) ∧ (n) ≤ (200)) (tgt := 22) dX5_pass_13 (by decide) (fun h_1 => ?_) (fun h_1 => ?_)
  · skip
    refine r_iconst C dX5_pass_22 ?_
    refine r_istore_n C (i := 2) (lv' := [(2, vI (0)), (0, .ref (adr G (3, 0, 0))), (1, vI (n))]) dX5_pass_23 rfl (by decide) rfl ?_
    refine r_iconst C dX5_pass_24 ?_
    refine r_istore_n C (i := 3) (lv' := [(3, vI (0)), (2, vI (0)), (0, .ref (adr G (3, 0, 0))), (1, vI (n))]) dX5_pass_25 rfl (by decide) rfl ?_
    have loop_26 : ∀ (nf : Nat) (i : Nat), (i ≤ (n).toNat) → (n).toNat - i < nf → rng (rgo (th0 w) 4 i) → Wm B 4 G A (Qe B G A (some (vI ((if 1 ≤ n ∧ n ≤ 200 then ((rgl (th0 w) 4 (n).toNat : Nat) : Int) else 0)))) ((if 1 ≤ n ∧ n ≤ 200 then rgo (th0 w) 4 (n).toNat else thn w 1)) 0 0) (rgo (th0 w) 4 i) 0 0 26 [(0, .ref (adr G (3, 0, 0))), (1, vI (n)), (2, vI (((rgl (th0 w) 4 i : Nat) : Int))), (3, vI (((i : Nat) : Int)))] [] := by
      intro n26
      induction n26 with
      | zero => intro i hi hm; exact absurd hm (Nat.not_lt_zero _)
      | succ n26 ih26 =>
        intro i hi hm hr
        have hrI := hr
        obtain ⟨g1, g2⟩ := SI_go (by decide) hS1 hM1 i (fun j hj => hs j (by omega))
        refine r_iload_n C (k := 3) dX5_pass_26 rfl ?_
        refine r_iload_n C (k := 1) dX5_pass_27 rfl ?_
        refine r_icmp_ge C (tgt := 47) dX5_pass_28 (by decide) (by first | exact hr _ _ | exact hr0 _ _ | exact hrI _ _ | assumption | exact ⟨by omega, by omega⟩) (by first | exact hr _ _ | exact hr0 _ _ | exact hrI _ _ | assumption | exact ⟨by omega, by omega⟩) (fun h_2 => ?_) (fun h_2 => ?_)
        · skip
          refine r_iload_n C (k := 2) dX5_pass_47 rfl ?_
          exact r_iret C dX5_pass_48 (by (obtain rfl : i = (n).toNat := (by omega)); rw [if_pos ⟨by omega, by omega⟩]) (by (obtain rfl : i = (n).toNat := (by omega)); rw [if_pos ⟨by omega, by omega⟩])
        · skip
          refine r_iload_n C (k := 2) dX5_pass_31 rfl ?_
          refine r_aload_n C (k := 0) dX5_pass_32 rfl ?_
          refine r_getf C 10 (v := .ref (adr G (4, 0, 0))) (ok_of hG (show kd (3, 0, 0) = _ from rfl) (by decide) (by decide)) (show kd (3, 0, 0) = _ from rfl) (by decide) rfl hinX5 (by decide) (by decide +kernel) rfl rfl dX5_pass_33 ?_
          refine r_callV C (w' := (rbeat (rgo (th0 w) 4 i) 4)) [] 0 (c_X4_pass hG (Or.inl rfl) (by exact g1) (by exact hM1.sl g2 (by decide)) (by exact ⟨by omega, by omega, by omega⟩) (by exact hs i (by omega))) gX5_pass_X4_pass rfl rfl rfl (by decide +kernel) (Nat.le_of_ble_eq_true rfl) (Nat.le_of_ble_eq_true rfl) ⟨(Nat.zero_le _), (Nat.zero_le _)⟩ (ok_of hG (show kd (4, 0, 0) = _ from rfl) (by decide) (by decide)) (show kd (4, 0, 0) = _ from rfl) (by decide) rfl rfl rfl (Nat.le_of_ble_eq_true rfl) (st' := [vI (((((rv3 (rgo (th0 w) 4 i) 4).2.1 : Nat) : Int))), vI (((rgl (th0 w) 4 i : Nat) : Int))]) rfl dX5_pass_36 (fun hr => ?_)
          refine r_iadd C dX5_pass_39 ?_
          refine r_istore_n C (i := 2) (lv' := [(2, vI ((((rgl (th0 w) 4 i : Nat) : Int) + ((((rv3 (rgo (th0 w) 4 i) 4).2.1 : Nat) : Int))))), (0, .ref (adr G (3, 0, 0))), (1, vI (n)), (3, vI (((i : Nat) : Int)))]) dX5_pass_40 rfl (by decide) rfl ?_
          refine r_iinc C (k := 3) (lv' := [(3, vI (((i + 1 : Nat) : Int))), (2, vI ((((rgl (th0 w) 4 i : Nat) : Int) + ((((rv3 (rgo (th0 w) 4 i) 4).2.1 : Nat) : Int))))), (0, .ref (adr G (3, 0, 0))), (1, vI (n))]) dX5_pass_41 rfl (by decide) rfl ?_
          refine r_goto C (tgt := 26) dX5_pass_44 (by decide) ?_
          have e_3 : (rbeat (rgo (th0 w) 4 i) 4) = (rgo (th0 w) 4 (i + 1)) := by rfl
          refine Wm.sub (lv' := [(0, .ref (adr G (3, 0, 0))), (1, vI (n)), (2, vI ((((rgl (th0 w) 4 i : Nat) : Int) + ((((rv3 (rgo (th0 w) 4 i) 4).2.1 : Nat) : Int))))), (3, vI (((i + 1 : Nat) : Int)))]) [2, 3, 1, 0] rfl ?_
          refine Wm.mem (lv' := [(0, .ref (adr G (3, 0, 0))), (1, vI (n)), (2, vI (((rgl (th0 w) 4 (i + 1) : Nat) : Int))), (3, vI ((((i + 1) : Nat) : Int)))]) e_3 (by (simp only [rgl, Int.natCast_add])) ?_
          exact ih26 ((i + 1)) (by omega) (by omega) (e_3 ▸ hr)
    have e_4 : (st1 w (3, 0, 0) (0) (0)) = (rgo (th0 w) 4 0) := by rfl
    refine Wm.sub (lv' := [(0, .ref (adr G (3, 0, 0))), (1, vI (n)), (2, vI (0)), (3, vI (0))]) [2, 3, 1, 0] rfl ?_
    refine Wm.mem (lv' := [(0, .ref (adr G (3, 0, 0))), (1, vI (n)), (2, vI (((rgl (th0 w) 4 0 : Nat) : Int))), (3, vI (((0 : Nat) : Int)))]) e_4 (by rfl) ?_
    exact loop_26 _ (0) (by omega) (Nat.lt_succ_self _) (e_4 ▸ hr)
  · skip
    refine r_aload_n C (k := 0) dX5_pass_16 rfl ?_
    refine r_iconst C dX5_pass_17 ?_
    refine r_callV C (w' := (st1 (st1 w (3, 0, 0) (0) (0)) (3, 0, 0) 0 (1))) [vI (1)] 1 (c_X5_no hG (by first | assumption | omega | exact hr _ _ | exact hr0 _ _ | exact hrI _ _ | exact ⟨by omega, by omega⟩ | exact bI_inR _ | (simp [st1] <;> omega) | exact rowR.so (by assumption) (by simp))) gX5_pass_X5_no rfl rfl rfl (by decide +kernel) (Nat.le_of_ble_eq_true rfl) (Nat.le_of_ble_eq_true rfl) ⟨(Nat.zero_le _), (Nat.zero_le _)⟩ (ok_of hG (show kd (3, 0, 0) = _ from rfl) (by decide) (by decide)) (show kd (3, 0, 0) = _ from rfl) (by decide) rfl rfl rfl (Nat.le_of_ble_eq_true rfl) (st' := [vI ((0))]) rfl dX5_pass_18 (fun hr => ?_)
    exact r_iret C dX5_pass_21 (by (first | rfl | ((repeat' split) <;> first | rfl | contradiction | (exfalso; omega)))) (by (first | rfl | ((repeat' split) <;> first | rfl | contradiction | (exfalso; omega))))

set_option maxRecDepth 100000 in
set_option maxHeartbeats 8000000 in
theorem c_X5_found {l : Launch} {G : Gt} (hG : Gok G)  {w : Mm} {x : Int} {y : Int} {d : Int} (hx : inR x) (hy : inR y) (hd : inR d) (hvb : 0 ≤ w (3, 0, 0) 1 ∧ w (3, 0, 0) 1 ≤ 8) : Con l G yX5_found wsX5_found ({ frames := 1, cells := 0, slots := 0, locals := 22 } : Room) w [.ref (adr G (3, 0, 0)), vI x, vI y, vI d] (some (vI ((if (0 ≤ x ∧ x ≤ 30) ∧ (0 ≤ y ∧ y ≤ 30) ∧ (1 ≤ d ∧ d ≤ 9) then (if rfd w x y (w (3, 0, 0) 1).toNat = true then 0 else w (3, 0, 0) 1) else 0)))) ((if (0 ≤ x ∧ x ≤ 30) ∧ (0 ≤ y ∧ y ≤ 30) ∧ (1 ≤ d ∧ d ≤ 9) then (if rfd w x y (w (3, 0, 0) 1).toNat = true then thn w 2 else rfnd w x y d) else thn w 1)) 0 0 := by
  refine Con.head (cc := cX5_found) (nL := 6) (ret := (some .int)) hG (by decide +kernel) rfl (Nat.le_of_ble_eq_true rfl) ?_
  intro B A hBl C hr
  have hr0 := hr
  have hrI := hr
  have hinX4 : ∀ w ∈ u_ws RX4 TX4 16, w ∈ wsX5_found := by decide +kernel
  have hinX5 : ∀ w ∈ u_ws RX5 TX5 12, w ∈ wsX5_found := by decide +kernel
  obtain ⟨y1, y2⟩ := hvb
  refine r_aload_n C (k := 0) dX5_found_0 rfl ?_
  refine r_iconst C dX5_found_1 ?_
  refine r_putf C 0 hr ⟨by decide, by decide⟩ (ok_of hG (show kd (3, 0, 0) = _ from rfl) (by decide) (by decide)) (show kd (3, 0, 0) = _ from rfl) (by decide) rfl hinX5 tyX5_ok nmX5 (by decide) (by decide +kernel) rfl rfl (ty := .int) (by decide +kernel) rfl rfl rfl (Nat.le_of_ble_eq_true rfl) dX5_found_2 (fun hr => ?_)
  refine r_iload_n C (k := 1) dX5_found_5 rfl ?_
  refine r_iconst C dX5_found_6 ?_
  refine r_bipush C dX5_found_7 (by decide) ?_
  refine r_callS C (w' := (st1 w (3, 0, 0) (0) (0))) [vI (x), vI (0), vI (30)] 3 (c_X5_isIn hG (by first | assumption | omega | exact hr _ _ | exact hr0 _ _ | exact hrI _ _ | exact ⟨by omega, by omega⟩ | exact bI_inR _ | (simp [st1] <;> omega) | exact rowR.so (by assumption) (by simp)) (by first | assumption | omega | exact hr _ _ | exact hr0 _ _ | exact hrI _ _ | exact ⟨by omega, by omega⟩ | exact bI_inR _ | (simp [st1] <;> omega) | exact rowR.so (by assumption) (by simp)) (by first | assumption | omega | exact hr _ _ | exact hr0 _ _ | exact hrI _ _ | exact ⟨by omega, by omega⟩ | exact bI_inR _ | (simp [st1] <;> omega) | exact rowR.so (by assumption) (by simp))) gX5_found_X5_isIn rfl rfl rfl (by decide +kernel) (Nat.le_of_ble_eq_true rfl) (Nat.le_of_ble_eq_true rfl) ⟨(Nat.zero_le _), (Nat.zero_le _)⟩ rfl rfl (Nat.le_of_ble_eq_true rfl) (st' := [vI (bI ((0) ≤ (x) ∧ (x) ≤ (30)))]) rfl dX5_found_9 (fun hr => ?_)
  refine r_if_eqP C (P := (0) ≤ (x) ∧ (x) ≤ (30)) (tgt := 35) dX5_found_12 (by decide) (fun h_1 => ?_) (fun h_1 => ?_)
  · skip
    refine r_aload_n C (k := 0) dX5_found_35 rfl ?_
    refine r_iconst C dX5_found_36 ?_
    refine r_callV C (w' := (st1 (st1 w (3, 0, 0) (0) (0)) (3, 0, 0) 0 (1))) [vI (1)] 1 (c_X5_no hG (by first | assumption | omega | exact hr _ _ | exact hr0 _ _ | exact hrI _ _ | exact ⟨by omega, by omega⟩ | exact bI_inR _ | (simp [st1] <;> omega) | exact rowR.so (by assumption) (by simp))) gX5_found_X5_no rfl rfl rfl (by decide +kernel) (Nat.le_of_ble_eq_true rfl) (Nat.le_of_ble_eq_true rfl) ⟨(Nat.zero_le _), (Nat.zero_le _)⟩ (ok_of hG (show kd (3, 0, 0) = _ from rfl) (by decide) (by decide)) (show kd (3, 0, 0) = _ from rfl) (by decide) rfl rfl rfl (Nat.le_of_ble_eq_true rfl) (st' := [vI ((0))]) rfl dX5_found_37 (fun hr => ?_)
    exact r_iret C dX5_found_40 (by (first | rfl | ((repeat' split) <;> first | rfl | contradiction | (exfalso; omega)))) (by (first | rfl | ((repeat' split) <;> first | rfl | contradiction | (exfalso; omega))))
  · skip
    refine r_iload_n C (k := 2) dX5_found_15 rfl ?_
    refine r_iconst C dX5_found_16 ?_
    refine r_bipush C dX5_found_17 (by decide) ?_
    refine r_callS C (w' := (st1 w (3, 0, 0) (0) (0))) [vI (y), vI (0), vI (30)] 3 (c_X5_isIn hG (by first | assumption | omega | exact hr _ _ | exact hr0 _ _ | exact hrI _ _ | exact ⟨by omega, by omega⟩ | exact bI_inR _ | (simp [st1] <;> omega) | exact rowR.so (by assumption) (by simp)) (by first | assumption | omega | exact hr _ _ | exact hr0 _ _ | exact hrI _ _ | exact ⟨by omega, by omega⟩ | exact bI_inR _ | (simp [st1] <;> omega) | exact rowR.so (by assumption) (by simp)) (by first | assumption | omega | exact hr _ _ | exact hr0 _ _ | exact hrI _ _ | exact ⟨by omega, by omega⟩ | exact bI_inR _ | (simp [st1] <;> omega) | exact rowR.so (by assumption) (by simp))) gX5_found_X5_isIn rfl rfl rfl (by decide +kernel) (Nat.le_of_ble_eq_true rfl) (Nat.le_of_ble_eq_true rfl) ⟨(Nat.zero_le _), (Nat.zero_le _)⟩ rfl rfl (Nat.le_of_ble_eq_true rfl) (st' := [vI (bI ((0) ≤ (y) ∧ (y) ≤ (30)))]) rfl dX5_found_19 (fun hr => ?_)
    refine r_if_eqP C (P := (0) ≤ (y) ∧ (y) ≤ (30)) (tgt := 35) dX5_found_22 (by decide) (fun h_2 => ?_) (fun h_2 => ?_)
    · skip
      refine r_aload_n C (k := 0) dX5_found_35 rfl ?_
      refine r_iconst C dX5_found_36 ?_
      refine r_callV C (w' := (st1 (st1 w (3, 0, 0) (0) (0)) (3, 0, 0) 0 (1))) [vI (1)] 1 (c_X5_no hG (by first | assumption | omega | exact hr _ _ | exact hr0 _ _ | exact hrI _ _ | exact ⟨by omega, by omega⟩ | exact bI_inR _ | (simp [st1] <;> omega) | exact rowR.so (by assumption) (by simp))) gX5_found_X5_no rfl rfl rfl (by decide +kernel) (Nat.le_of_ble_eq_true rfl) (Nat.le_of_ble_eq_true rfl) ⟨(Nat.zero_le _), (Nat.zero_le _)⟩ (ok_of hG (show kd (3, 0, 0) = _ from rfl) (by decide) (by decide)) (show kd (3, 0, 0) = _ from rfl) (by decide) rfl rfl rfl (Nat.le_of_ble_eq_true rfl) (st' := [vI ((0))]) rfl dX5_found_37 (fun hr => ?_)
      exact r_iret C dX5_found_40 (by (first | rfl | ((repeat' split) <;> first | rfl | contradiction | (exfalso; omega)))) (by (first | rfl | ((repeat' split) <;> first | rfl | contradiction | (exfalso; omega))))
    · skip
      refine r_iload_n C (k := 3) dX5_found_25 rfl ?_
      refine r_iconst C dX5_found_26 ?_
      refine r_bipush C dX5_found_27 (by decide) ?_
      refine r_callS C (w' := (st1 w (3, 0, 0) (0) (0))) [vI (d), vI (1), vI (9)] 3 (c_X5_isIn hG (by first | assumption | omega | exact hr _ _ | exact hr0 _ _ | exact hrI _ _ | exact ⟨by omega, by omega⟩ | exact bI_inR _ | (simp [st1] <;> omega) | exact rowR.so (by assumption) (by simp)) (by first | assumption | omega | exact hr _ _ | exact hr0 _ _ | exact hrI _ _ | exact ⟨by omega, by omega⟩ | exact bI_inR _ | (simp [st1] <;> omega) | exact rowR.so (by assumption) (by simp)) (by first | assumption | omega | exact hr _ _ | exact hr0 _ _ | exact hrI _ _ | exact ⟨by omega, by omega⟩ | exact bI_inR _ | (simp [st1] <;> omega) | exact rowR.so (by assumption) (by simp))) gX5_found_X5_isIn rfl rfl rfl (by decide +kernel) (Nat.le_of_ble_eq_true rfl) (Nat.le_of_ble_eq_true rfl) ⟨(Nat.zero_le _), (Nat.zero_le _)⟩ rfl rfl (Nat.le_of_ble_eq_true rfl) (st' := [vI (bI ((1) ≤ (d) ∧ (d) ≤ (9)))]) rfl dX5_found_29 (fun hr => ?_)
      refine r_if_neP C (P := (1) ≤ (d) ∧ (d) ≤ (9)) (tgt := 41) dX5_found_32 (by decide) (fun h_3 => ?_) (fun h_3 => ?_)
      · skip
        refine r_aload_n C (k := 0) dX5_found_41 rfl ?_
        refine r_getf C 1 (ok_of hG (show kd (3, 0, 0) = _ from rfl) (by decide) (by decide)) (show kd (3, 0, 0) = _ from rfl) (by decide) rfl hinX5 (by decide) (by decide +kernel) rfl rfl dX5_found_42 ?_
        refine Wm.top (z' := w (3, 0, 0) (1)) (by simp [st1, cpy]) ?_
        refine r_bipush C dX5_found_45 (by decide) ?_
        refine r_icmp_ne C (tgt := 54) dX5_found_47 (by decide) (by first | exact hr _ _ | exact hr0 _ _ | exact hrI _ _ | assumption | exact ⟨by omega, by omega⟩) ⟨by decide, by decide⟩ (fun h_4 => ?_) (fun h_4 => ?_)
        · skip
          refine r_iconst C dX5_found_54 ?_
          refine r_istore C (i := 4) (lv' := [(4, vI (0)), (0, .ref (adr G (3, 0, 0))), (1, vI (x)), (2, vI (y)), (3, vI (d))]) dX5_found_55 (by decide) rfl ?_
          refine r_iconst C dX5_found_57 ?_
          refine r_istore C (i := 5) (lv' := [(5, vI (0)), (4, vI (0)), (0, .ref (adr G (3, 0, 0))), (1, vI (x)), (2, vI (y)), (3, vI (d))]) dX5_found_58 (by decide) rfl ?_
          have loop_60 : ∀ (nf : Nat) (i : Nat), (i ≤ (w (3, 0, 0) 1).toNat) → (w (3, 0, 0) 1).toNat - i < nf → rng (st1 w (3, 0, 0) (0) (0)) → Wm B 6 G A (Qe B G A (some (vI ((if (0 ≤ x ∧ x ≤ 30) ∧ (0 ≤ y ∧ y ≤ 30) ∧ (1 ≤ d ∧ d ≤ 9) then (if rfd w x y (w (3, 0, 0) 1).toNat = true then 0 else w (3, 0, 0) 1) else 0)))) ((if (0 ≤ x ∧ x ≤ 30) ∧ (0 ≤ y ∧ y ≤ 30) ∧ (1 ≤ d ∧ d ≤ 9) then (if rfd w x y (w (3, 0, 0) 1).toNat = true then thn w 2 else rfnd w x y d) else thn w 1)) 0 0) (st1 w (3, 0, 0) (0) (0)) 0 0 60 [(0, .ref (adr G (3, 0, 0))), (1, vI (x)), (2, vI (y)), (3, vI (d)), (4, vI (bI (rfd w x y i = true))), (5, vI (((i : Nat) : Int)))] [] := by
            intro n60
            induction n60 with
            | zero => intro i hi hm; exact absurd hm (Nat.not_lt_zero _)
            | succ n60 ih60 =>
              intro i hi hm hr
              have hrI := hr
              refine r_iload C (k := 5) dX5_found_60 rfl ?_
              refine r_aload_n C (k := 0) dX5_found_62 rfl ?_
              refine r_getf C 1 (ok_of hG (show kd (3, 0, 0) = _ from rfl) (by decide) (by decide)) (show kd (3, 0, 0) = _ from rfl) (by decide) rfl hinX5 (by decide) (by decide +kernel) rfl rfl dX5_found_63 ?_
              refine Wm.top (z' := w (3, 0, 0) (1)) (by simp [st1, cpy]) ?_
              refine r_icmp_ge C (tgt := 107) dX5_found_66 (by decide) (by first | exact hr _ _ | exact hr0 _ _ | exact hrI _ _ | assumption | exact ⟨by omega, by omega⟩) (by first | exact hr _ _ | exact hr0 _ _ | exact hrI _ _ | assumption | exact ⟨by omega, by omega⟩) (fun h_5 => ?_) (fun h_5 => ?_)
              · skip
                refine r_iload C (k := 4) dX5_found_107 rfl ?_
                refine r_if_eqP C (P := rfd w x y i = true) (tgt := 118) dX5_found_109 (by decide) (fun h_6 => ?_) (fun h_6 => ?_)
                · have h8 := rfd_8 (by assumption)
                  refine r_aload_n C (k := 0) dX5_found_118 rfl ?_
                  refine r_getf C 3 (v := .ref (adr G (3, 0, 1))) (ok_of hG (show kd (3, 0, 0) = _ from rfl) (by decide) (by decide)) (show kd (3, 0, 0) = _ from rfl) (by decide) rfl hinX5 (by decide) (by decide +kernel) rfl rfl dX5_found_119 ?_
                  refine r_aload_n C (k := 0) dX5_found_122 rfl ?_
                  refine r_getf C 1 (ok_of hG (show kd (3, 0, 0) = _ from rfl) (by decide) (by decide)) (show kd (3, 0, 0) = _ from rfl) (by decide) rfl hinX5 (by decide) (by decide +kernel) rfl rfl dX5_found_123 ?_
                  refine Wm.top (z' := w (3, 0, 0) (1)) (by simp [st1, cpy]) ?_
                  refine r_iload_n C (k := 1) dX5_found_126 rfl ?_
                  refine r_iast C ((w (3, 0, 0) (1)).toNat) hr (by first | exact hr _ _ | exact hr0 _ _ | exact hrI _ _ | assumption | exact ⟨by omega, by omega⟩) (ok_of hG (show kd (3, 0, 1) = _ from rfl) (by decide) (by decide)) (show kd (3, 0, 1) = _ from rfl) (Int.toNat_of_nonneg (by first | omega | assumption)).symm (by first | omega | assumption) (by decide) dX5_found_127 (fun hr => ?_)
                  refine r_aload_n C (k := 0) dX5_found_128 rfl ?_
                  refine r_getf C 4 (v := .ref (adr G (3, 0, 2))) (ok_of hG (show kd (3, 0, 0) = _ from rfl) (by decide) (by decide)) (show kd (3, 0, 0) = _ from rfl) (by decide) rfl hinX5 (by decide) (by decide +kernel) rfl rfl dX5_found_129 ?_
                  refine r_aload_n C (k := 0) dX5_found_132 rfl ?_
                  refine r_getf C 1 (ok_of hG (show kd (3, 0, 0) = _ from rfl) (by decide) (by decide)) (show kd (3, 0, 0) = _ from rfl) (by decide) rfl hinX5 (by decide) (by decide +kernel) rfl rfl dX5_found_133 ?_
                  refine Wm.top (z' := w (3, 0, 0) (1)) (by simp [st1, cpy]) ?_
                  refine r_iload_n C (k := 2) dX5_found_136 rfl ?_
                  refine r_iast C ((w (3, 0, 0) (1)).toNat) hr (by first | exact hr _ _ | exact hr0 _ _ | exact hrI _ _ | assumption | exact ⟨by omega, by omega⟩) (ok_of hG (show kd (3, 0, 2) = _ from rfl) (by decide) (by decide)) (show kd (3, 0, 2) = _ from rfl) (Int.toNat_of_nonneg (by first | omega | assumption)).symm (by first | omega | assumption) (by decide) dX5_found_137 (fun hr => ?_)
                  refine r_aload_n C (k := 0) dX5_found_138 rfl ?_
                  refine r_getf C 7 (v := .ref (adr G (3, 0, 5))) (ok_of hG (show kd (3, 0, 0) = _ from rfl) (by decide) (by decide)) (show kd (3, 0, 0) = _ from rfl) (by decide) rfl hinX5 (by decide) (by decide +kernel) rfl rfl dX5_found_139 ?_
                  refine r_aload_n C (k := 0) dX5_found_142 rfl ?_
                  refine r_getf C 1 (ok_of hG (show kd (3, 0, 0) = _ from rfl) (by decide) (by decide)) (show kd (3, 0, 0) = _ from rfl) (by decide) rfl hinX5 (by decide) (by decide +kernel) rfl rfl dX5_found_143 ?_
                  refine Wm.top (z' := w (3, 0, 0) (1)) (by simp [st1, cpy]) ?_
                  refine r_bipush C dX5_found_146 (by decide) ?_
                  refine r_iast C ((w (3, 0, 0) (1)).toNat) hr ⟨by decide, by decide⟩ (ok_of hG (show kd (3, 0, 5) = _ from rfl) (by decide) (by decide)) (show kd (3, 0, 5) = _ from rfl) (Int.toNat_of_nonneg (by first | omega | assumption)).symm (by first | omega | assumption) (by decide) dX5_found_148 (fun hr => ?_)
                  refine r_aload_n C (k := 0) dX5_found_149 rfl ?_
                  refine r_getf C 10 (v := .ref (adr G (4, 0, 0))) (ok_of hG (show kd (3, 0, 0) = _ from rfl) (by decide) (by decide)) (show kd (3, 0, 0) = _ from rfl) (by decide) rfl hinX5 (by decide) (by decide +kernel) rfl rfl dX5_found_150 ?_
                  refine r_getfN (host := "DrumTalkModel") C 3 (v := .ref (adr G (4, 0, 1))) (ok_of hG (show kd (4, 0, 0) = _ from rfl) (by decide) (by decide)) (show kd (4, 0, 0) = _ from rfl) (by decide) rfl hinX4 (by decide) (by decide +kernel) rfl rfl dX5_found_153 ?_
                  refine r_aload_n C (k := 0) dX5_found_156 rfl ?_
                  refine r_getf C 1 (ok_of hG (show kd (3, 0, 0) = _ from rfl) (by decide) (by decide)) (show kd (3, 0, 0) = _ from rfl) (by decide) rfl hinX5 (by decide) (by decide +kernel) rfl rfl dX5_found_157 ?_
                  refine Wm.top (z' := w (3, 0, 0) (1)) (by simp [st1, cpy]) ?_
                  refine r_iload_n C (k := 3) dX5_found_160 rfl ?_
                  refine r_iast C ((w (3, 0, 0) (1)).toNat) hr (by first | exact hr _ _ | exact hr0 _ _ | exact hrI _ _ | assumption | exact ⟨by omega, by omega⟩) (ok_of hG (show kd (4, 0, 1) = _ from rfl) (by decide) (by decide)) (show kd (4, 0, 1) = _ from rfl) (Int.toNat_of_nonneg (by first | omega | assumption)).symm (by first | omega | assumption) (by decide) dX5_found_161 (fun hr => ?_)
                  refine r_aload_n C (k := 0) dX5_found_162 rfl ?_
                  refine r_getf C 10 (v := .ref (adr G (4, 0, 0))) (ok_of hG (show kd (3, 0, 0) = _ from rfl) (by decide) (by decide)) (show kd (3, 0, 0) = _ from rfl) (by decide) rfl hinX5 (by decide) (by decide +kernel) rfl rfl dX5_found_163 ?_
                  refine r_getfN (host := "DrumTalkModel") C 4 (v := .ref (adr G (4, 0, 2))) (ok_of hG (show kd (4, 0, 0) = _ from rfl) (by decide) (by decide)) (show kd (4, 0, 0) = _ from rfl) (by decide) rfl hinX4 (by decide) (by decide +kernel) rfl rfl dX5_found_166 ?_
                  refine r_aload_n C (k := 0) dX5_found_169 rfl ?_
                  refine r_getf C 1 (ok_of hG (show kd (3, 0, 0) = _ from rfl) (by decide) (by decide)) (show kd (3, 0, 0) = _ from rfl) (by decide) rfl hinX5 (by decide) (by decide +kernel) rfl rfl dX5_found_170 ?_
                  refine Wm.top (z' := w (3, 0, 0) (1)) (by simp [st1, cpy]) ?_
                  refine r_iconst C dX5_found_173 ?_
                  refine r_iast C ((w (3, 0, 0) (1)).toNat) hr ⟨by decide, by decide⟩ (ok_of hG (show kd (4, 0, 2) = _ from rfl) (by decide) (by decide)) (show kd (4, 0, 2) = _ from rfl) (Int.toNat_of_nonneg (by first | omega | assumption)).symm (by first | omega | assumption) (by decide) dX5_found_174 (fun hr => ?_)
                  refine r_aload_n C (k := 0) dX5_found_175 rfl ?_
                  refine r_dup C dX5_found_176 rfl ?_
                  refine r_getf C 1 (ok_of hG (show kd (3, 0, 0) = _ from rfl) (by decide) (by decide)) (show kd (3, 0, 0) = _ from rfl) (by decide) rfl hinX5 (by decide) (by decide +kernel) rfl rfl dX5_found_177 ?_
                  refine Wm.top (z' := w (3, 0, 0) (1)) (by simp [st1, cpy]) ?_
                  refine r_iconst C dX5_found_180 ?_
                  refine r_iadd C dX5_found_181 ?_
                  refine r_putf C 1 hr (by first | exact hr _ _ | exact hr0 _ _ | exact hrI _ _ | assumption | exact ⟨by omega, by omega⟩) (ok_of hG (show kd (3, 0, 0) = _ from rfl) (by decide) (by decide)) (show kd (3, 0, 0) = _ from rfl) (by decide) rfl hinX5 tyX5_ok nmX5 (by decide) (by decide +kernel) rfl rfl (ty := .int) (by decide +kernel) rfl rfl rfl (Nat.le_of_ble_eq_true rfl) dX5_found_182 (fun hr => ?_)
                  refine r_aload_n C (k := 0) dX5_found_185 rfl ?_
                  refine r_getf C 1 (ok_of hG (show kd (3, 0, 0) = _ from rfl) (by decide) (by decide)) (show kd (3, 0, 0) = _ from rfl) (by decide) rfl hinX5 (by decide) (by decide +kernel) rfl rfl dX5_found_186 ?_
                  refine Wm.top (z' := (w (3, 0, 0) (1) + 1)) (by simp [st1, cpy]) ?_
                  refine r_iconst C dX5_found_189 ?_
                  refine r_isub C dX5_found_190 ?_
                  exact r_iret C dX5_found_191 (by (obtain rfl : i = (w (3, 0, 0) 1).toNat := (by omega)); rw [if_pos ⟨⟨by omega, by omega⟩, ⟨by omega, by omega⟩, ⟨by omega, by omega⟩⟩, if_neg (by assumption)]; exact congrArg (fun z => some (vI z)) (by omega)) (by (obtain rfl : i = (w (3, 0, 0) 1).toNat := (by omega)); rw [if_pos ⟨⟨by omega, by omega⟩, ⟨by omega, by omega⟩, ⟨by omega, by omega⟩⟩, if_neg (by assumption)]; rfl)
                · skip
                  refine r_aload_n C (k := 0) dX5_found_112 rfl ?_
                  refine r_iconst C dX5_found_113 ?_
                  refine r_callV C (w' := (st1 (st1 w (3, 0, 0) (0) (0)) (3, 0, 0) 0 (2))) [vI (2)] 1 (c_X5_no hG (by first | assumption | omega | exact hr _ _ | exact hr0 _ _ | exact hrI _ _ | exact ⟨by omega, by omega⟩ | exact bI_inR _ | (simp [st1] <;> omega) | exact rowR.so (by assumption) (by simp))) gX5_found_X5_no rfl rfl rfl (by decide +kernel) (Nat.le_of_ble_eq_true rfl) (Nat.le_of_ble_eq_true rfl) ⟨(Nat.zero_le _), (Nat.zero_le _)⟩ (ok_of hG (show kd (3, 0, 0) = _ from rfl) (by decide) (by decide)) (show kd (3, 0, 0) = _ from rfl) (by decide) rfl rfl rfl (Nat.le_of_ble_eq_true rfl) (st' := [vI ((0))]) rfl dX5_found_114 (fun hr => ?_)
                  exact r_iret C dX5_found_117 (by (obtain rfl : i = (w (3, 0, 0) 1).toNat := (by omega)); rw [if_pos ⟨⟨by omega, by omega⟩, ⟨by omega, by omega⟩, ⟨by omega, by omega⟩⟩, if_pos (by assumption)]) (by (obtain rfl : i = (w (3, 0, 0) 1).toNat := (by omega)); rw [if_pos ⟨⟨by omega, by omega⟩, ⟨by omega, by omega⟩, ⟨by omega, by omega⟩⟩, if_pos (by assumption)]; rfl)
              · skip
                refine r_iload C (k := 4) dX5_found_69 rfl ?_
                refine r_aload_n C (k := 0) dX5_found_71 rfl ?_
                refine r_getf C 3 (v := .ref (adr G (3, 0, 1))) (ok_of hG (show kd (3, 0, 0) = _ from rfl) (by decide) (by decide)) (show kd (3, 0, 0) = _ from rfl) (by decide) rfl hinX5 (by decide) (by decide +kernel) rfl rfl dX5_found_72 ?_
                refine r_iload C (k := 5) dX5_found_75 rfl ?_
                refine r_iald C (i) (ok_of hG (show kd (3, 0, 1) = _ from rfl) (by decide) (by decide)) (show kd (3, 0, 1) = _ from rfl) rfl (by first | omega | assumption) (by decide) dX5_found_77 ?_
                refine Wm.top (z' := w (3, 0, 1) (i)) (by simp [st1, cpy]) ?_
                refine r_iload_n C (k := 1) dX5_found_78 rfl ?_
                refine r_icmp_ne C (tgt := 97) dX5_found_79 (by decide) (by first | exact hr _ _ | exact hr0 _ _ | exact hrI _ _ | assumption | exact ⟨by omega, by omega⟩) (by first | exact hr _ _ | exact hr0 _ _ | exact hrI _ _ | assumption | exact ⟨by omega, by omega⟩) (fun h_7 => ?_) (fun h_7 => ?_)
                · skip
                  refine r_iconst C dX5_found_97 ?_
                  refine r_ior0 C (w (3, 0, 1) i = x ∧ w (3, 0, 2) i = y) (fun q => by have q1 := q.1; have q2 := q.2; first | contradiction | omega) dX5_found_98 ?_
                  refine r_istore C (i := 4) (lv' := [(4, vI (bI (rfd w x y i = true ∨ (w (3, 0, 1) i = x ∧ w (3, 0, 2) i = y)))), (0, .ref (adr G (3, 0, 0))), (1, vI (x)), (2, vI (y)), (3, vI (d)), (5, vI (((i : Nat) : Int)))]) dX5_found_99 (by decide) rfl ?_
                  refine r_iinc C (k := 5) (lv' := [(5, vI (((i + 1 : Nat) : Int))), (4, vI (bI (rfd w x y i = true ∨ (w (3, 0, 1) i = x ∧ w (3, 0, 2) i = y)))), (0, .ref (adr G (3, 0, 0))), (1, vI (x)), (2, vI (y)), (3, vI (d))]) dX5_found_101 rfl (by decide) rfl ?_
                  refine r_goto C (tgt := 60) dX5_found_104 (by decide) ?_
                  have e_8 : (st1 w (3, 0, 0) (0) (0)) = (st1 w (3, 0, 0) (0) (0)) := by rfl
                  refine Wm.sub (lv' := [(0, .ref (adr G (3, 0, 0))), (1, vI (x)), (2, vI (y)), (3, vI (d)), (4, vI (bI (rfd w x y i = true ∨ (w (3, 0, 1) i = x ∧ w (3, 0, 2) i = y)))), (5, vI (((i + 1 : Nat) : Int)))]) [2, 3, 4, 5, 1, 0] rfl ?_
                  refine Wm.mem (lv' := [(0, .ref (adr G (3, 0, 0))), (1, vI (x)), (2, vI (y)), (3, vI (d)), (4, vI (bI (rfd w x y (i + 1) = true))), (5, vI ((((i + 1) : Nat) : Int)))]) e_8 (by (rw [rfd_s])) ?_
                  exact ih60 ((i + 1)) (by omega) (by omega) (e_8 ▸ hr)
                · skip
                  refine r_aload_n C (k := 0) dX5_found_82 rfl ?_
                  refine r_getf C 4 (v := .ref (adr G (3, 0, 2))) (ok_of hG (show kd (3, 0, 0) = _ from rfl) (by decide) (by decide)) (show kd (3, 0, 0) = _ from rfl) (by decide) rfl hinX5 (by decide) (by decide +kernel) rfl rfl dX5_found_83 ?_
                  refine r_iload C (k := 5) dX5_found_86 rfl ?_
                  refine r_iald C (i) (ok_of hG (show kd (3, 0, 2) = _ from rfl) (by decide) (by decide)) (show kd (3, 0, 2) = _ from rfl) rfl (by first | omega | assumption) (by decide) dX5_found_88 ?_
                  refine Wm.top (z' := w (3, 0, 2) (i)) (by simp [st1, cpy]) ?_
                  refine r_iload_n C (k := 2) dX5_found_89 rfl ?_
                  refine r_icmp_ne C (tgt := 97) dX5_found_90 (by decide) (by first | exact hr _ _ | exact hr0 _ _ | exact hrI _ _ | assumption | exact ⟨by omega, by omega⟩) (by first | exact hr _ _ | exact hr0 _ _ | exact hrI _ _ | assumption | exact ⟨by omega, by omega⟩) (fun h_9 => ?_) (fun h_9 => ?_)
                  · skip
                    refine r_iconst C dX5_found_97 ?_
                    refine r_ior0 C (w (3, 0, 1) i = x ∧ w (3, 0, 2) i = y) (fun q => by have q1 := q.1; have q2 := q.2; first | contradiction | omega) dX5_found_98 ?_
                    refine r_istore C (i := 4) (lv' := [(4, vI (bI (rfd w x y i = true ∨ (w (3, 0, 1) i = x ∧ w (3, 0, 2) i = y)))), (0, .ref (adr G (3, 0, 0))), (1, vI (x)), (2, vI (y)), (3, vI (d)), (5, vI (((i : Nat) : Int)))]) dX5_found_99 (by decide) rfl ?_
                    refine r_iinc C (k := 5) (lv' := [(5, vI (((i + 1 : Nat) : Int))), (4, vI (bI (rfd w x y i = true ∨ (w (3, 0, 1) i = x ∧ w (3, 0, 2) i = y)))), (0, .ref (adr G (3, 0, 0))), (1, vI (x)), (2, vI (y)), (3, vI (d))]) dX5_found_101 rfl (by decide) rfl ?_
                    refine r_goto C (tgt := 60) dX5_found_104 (by decide) ?_
                    have e_10 : (st1 w (3, 0, 0) (0) (0)) = (st1 w (3, 0, 0) (0) (0)) := by rfl
                    refine Wm.sub (lv' := [(0, .ref (adr G (3, 0, 0))), (1, vI (x)), (2, vI (y)), (3, vI (d)), (4, vI (bI (rfd w x y i = true ∨ (w (3, 0, 1) i = x ∧ w (3, 0, 2) i = y)))), (5, vI (((i + 1 : Nat) : Int)))]) [2, 3, 4, 5, 1, 0] rfl ?_
                    refine Wm.mem (lv' := [(0, .ref (adr G (3, 0, 0))), (1, vI (x)), (2, vI (y)), (3, vI (d)), (4, vI (bI (rfd w x y (i + 1) = true))), (5, vI ((((i + 1) : Nat) : Int)))]) e_10 (by (rw [rfd_s])) ?_
                    exact ih60 ((i + 1)) (by omega) (by omega) (e_10 ▸ hr)
                  · skip
                    refine r_iconst C dX5_found_93 ?_
                    refine r_goto C (tgt := 98) dX5_found_94 (by decide) ?_
                    refine r_ior1 C (w (3, 0, 1) i = x ∧ w (3, 0, 2) i = y) ⟨by assumption, by assumption⟩ dX5_found_98 ?_
                    refine r_istore C (i := 4) (lv' := [(4, vI (bI (rfd w x y i = true ∨ (w (3, 0, 1) i = x ∧ w (3, 0, 2) i = y)))), (0, .ref (adr G (3, 0, 0))), (1, vI (x)), (2, vI (y)), (3, vI (d)), (5, vI (((i : Nat) : Int)))]) dX5_found_99 (by decide) rfl ?_
                    refine r_iinc C (k := 5) (lv' := [(5, vI (((i + 1 : Nat) : Int))), (4, vI (bI (rfd w x y i = true ∨ (w (3, 0, 1) i = x ∧ w (3, 0, 2) i = y)))), (0, .ref (adr G (3, 0, 0))), (1, vI (x)), (2, vI (y)), (3, vI (d))]) dX5_found_101 rfl (by decide) rfl ?_
                    refine r_goto C (tgt := 60) dX5_found_104 (by decide) ?_
                    have e_11 : (st1 w (3, 0, 0) (0) (0)) = (st1 w (3, 0, 0) (0) (0)) := by rfl
                    refine Wm.sub (lv' := [(0, .ref (adr G (3, 0, 0))), (1, vI (x)), (2, vI (y)), (3, vI (d)), (4, vI (bI (rfd w x y i = true ∨ (w (3, 0, 1) i = x ∧ w (3, 0, 2) i = y)))), (5, vI (((i + 1 : Nat) : Int)))]) [2, 3, 4, 5, 1, 0] rfl ?_
                    refine Wm.mem (lv' := [(0, .ref (adr G (3, 0, 0))), (1, vI (x)), (2, vI (y)), (3, vI (d)), (4, vI (bI (rfd w x y (i + 1) = true))), (5, vI ((((i + 1) : Nat) : Int)))]) e_11 (by (rw [rfd_s])) ?_
                    exact ih60 ((i + 1)) (by omega) (by omega) (e_11 ▸ hr)
          have e_12 : (st1 w (3, 0, 0) (0) (0)) = (st1 w (3, 0, 0) (0) (0)) := by rfl
          refine Wm.sub (lv' := [(0, .ref (adr G (3, 0, 0))), (1, vI (x)), (2, vI (y)), (3, vI (d)), (4, vI (0)), (5, vI (0))]) [2, 3, 4, 5, 1, 0] rfl ?_
          refine Wm.mem (lv' := [(0, .ref (adr G (3, 0, 0))), (1, vI (x)), (2, vI (y)), (3, vI (d)), (4, vI (bI (rfd w x y 0 = true))), (5, vI (((0 : Nat) : Int)))]) e_12 (by (rw [rfd_z]; first | (rw [bI_t (by assumption)]; rfl) | (rw [bI_f (by assumption)]; rfl))) ?_
          exact loop_60 _ (0) (by omega) (Nat.lt_succ_self _) (e_12 ▸ hr)
        · skip
          refine r_iconst C dX5_found_50 ?_
          refine r_goto C (tgt := 55) dX5_found_51 (by decide) ?_
          refine r_istore C (i := 4) (lv' := [(4, vI (1)), (0, .ref (adr G (3, 0, 0))), (1, vI (x)), (2, vI (y)), (3, vI (d))]) dX5_found_55 (by decide) rfl ?_
          refine r_iconst C dX5_found_57 ?_
          refine r_istore C (i := 5) (lv' := [(5, vI (0)), (4, vI (1)), (0, .ref (adr G (3, 0, 0))), (1, vI (x)), (2, vI (y)), (3, vI (d))]) dX5_found_58 (by decide) rfl ?_
          have loop_60 : ∀ (nf : Nat) (i : Nat), (i ≤ (w (3, 0, 0) 1).toNat) → (w (3, 0, 0) 1).toNat - i < nf → rng (st1 w (3, 0, 0) (0) (0)) → Wm B 6 G A (Qe B G A (some (vI ((if (0 ≤ x ∧ x ≤ 30) ∧ (0 ≤ y ∧ y ≤ 30) ∧ (1 ≤ d ∧ d ≤ 9) then (if rfd w x y (w (3, 0, 0) 1).toNat = true then 0 else w (3, 0, 0) 1) else 0)))) ((if (0 ≤ x ∧ x ≤ 30) ∧ (0 ≤ y ∧ y ≤ 30) ∧ (1 ≤ d ∧ d ≤ 9) then (if rfd w x y (w (3, 0, 0) 1).toNat = true then thn w 2 else rfnd w x y d) else thn w 1)) 0 0) (st1 w (3, 0, 0) (0) (0)) 0 0 60 [(0, .ref (adr G (3, 0, 0))), (1, vI (x)), (2, vI (y)), (3, vI (d)), (4, vI (bI (rfd w x y i = true))), (5, vI (((i : Nat) : Int)))] [] := by
            intro n60
            induction n60 with
            | zero => intro i hi hm; exact absurd hm (Nat.not_lt_zero _)
            | succ n60 ih60 =>
              intro i hi hm hr
              have hrI := hr
              refine r_iload C (k := 5) dX5_found_60 rfl ?_
              refine r_aload_n C (k := 0) dX5_found_62 rfl ?_
              refine r_getf C 1 (ok_of hG (show kd (3, 0, 0) = _ from rfl) (by decide) (by decide)) (show kd (3, 0, 0) = _ from rfl) (by decide) rfl hinX5 (by decide) (by decide +kernel) rfl rfl dX5_found_63 ?_
              refine Wm.top (z' := w (3, 0, 0) (1)) (by simp [st1, cpy]) ?_
              refine r_icmp_ge C (tgt := 107) dX5_found_66 (by decide) (by first | exact hr _ _ | exact hr0 _ _ | exact hrI _ _ | assumption | exact ⟨by omega, by omega⟩) (by first | exact hr _ _ | exact hr0 _ _ | exact hrI _ _ | assumption | exact ⟨by omega, by omega⟩) (fun h_13 => ?_) (fun h_13 => ?_)
              · skip
                refine r_iload C (k := 4) dX5_found_107 rfl ?_
                refine r_if_eqP C (P := rfd w x y i = true) (tgt := 118) dX5_found_109 (by decide) (fun h_14 => ?_) (fun h_14 => ?_)
                · have h8 := rfd_8 (by assumption)
                  refine r_aload_n C (k := 0) dX5_found_118 rfl ?_
                  refine r_getf C 3 (v := .ref (adr G (3, 0, 1))) (ok_of hG (show kd (3, 0, 0) = _ from rfl) (by decide) (by decide)) (show kd (3, 0, 0) = _ from rfl) (by decide) rfl hinX5 (by decide) (by decide +kernel) rfl rfl dX5_found_119 ?_
                  refine r_aload_n C (k := 0) dX5_found_122 rfl ?_
                  refine r_getf C 1 (ok_of hG (show kd (3, 0, 0) = _ from rfl) (by decide) (by decide)) (show kd (3, 0, 0) = _ from rfl) (by decide) rfl hinX5 (by decide) (by decide +kernel) rfl rfl dX5_found_123 ?_
                  refine Wm.top (z' := w (3, 0, 0) (1)) (by simp [st1, cpy]) ?_
                  refine r_iload_n C (k := 1) dX5_found_126 rfl ?_
                  refine r_iast C ((w (3, 0, 0) (1)).toNat) hr (by first | exact hr _ _ | exact hr0 _ _ | exact hrI _ _ | assumption | exact ⟨by omega, by omega⟩) (ok_of hG (show kd (3, 0, 1) = _ from rfl) (by decide) (by decide)) (show kd (3, 0, 1) = _ from rfl) (Int.toNat_of_nonneg (by first | omega | assumption)).symm (by first | omega | assumption) (by decide) dX5_found_127 (fun hr => ?_)
                  refine r_aload_n C (k := 0) dX5_found_128 rfl ?_
                  refine r_getf C 4 (v := .ref (adr G (3, 0, 2))) (ok_of hG (show kd (3, 0, 0) = _ from rfl) (by decide) (by decide)) (show kd (3, 0, 0) = _ from rfl) (by decide) rfl hinX5 (by decide) (by decide +kernel) rfl rfl dX5_found_129 ?_
                  refine r_aload_n C (k := 0) dX5_found_132 rfl ?_
                  refine r_getf C 1 (ok_of hG (show kd (3, 0, 0) = _ from rfl) (by decide) (by decide)) (show kd (3, 0, 0) = _ from rfl) (by decide) rfl hinX5 (by decide) (by decide +kernel) rfl rfl dX5_found_133 ?_
                  refine Wm.top (z' := w (3, 0, 0) (1)) (by simp [st1, cpy]) ?_
                  refine r_iload_n C (k := 2) dX5_found_136 rfl ?_
                  refine r_iast C ((w (3, 0, 0) (1)).toNat) hr (by first | exact hr _ _ | exact hr0 _ _ | exact hrI _ _ | assumption | exact ⟨by omega, by omega⟩) (ok_of hG (show kd (3, 0, 2) = _ from rfl) (by decide) (by decide)) (show kd (3, 0, 2) = _ from rfl) (Int.toNat_of_nonneg (by first | omega | assumption)).symm (by first | omega | assumption) (by decide) dX5_found_137 (fun hr => ?_)
                  refine r_aload_n C (k := 0) dX5_found_138 rfl ?_
                  refine r_getf C 7 (v := .ref (adr G (3, 0, 5))) (ok_of hG (show kd (3, 0, 0) = _ from rfl) (by decide) (by decide)) (show kd (3, 0, 0) = _ from rfl) (by decide) rfl hinX5 (by decide) (by decide +kernel) rfl rfl dX5_found_139 ?_
                  refine r_aload_n C (k := 0) dX5_found_142 rfl ?_
                  refine r_getf C 1 (ok_of hG (show kd (3, 0, 0) = _ from rfl) (by decide) (by decide)) (show kd (3, 0, 0) = _ from rfl) (by decide) rfl hinX5 (by decide) (by decide +kernel) rfl rfl dX5_found_143 ?_
                  refine Wm.top (z' := w (3, 0, 0) (1)) (by simp [st1, cpy]) ?_
                  refine r_bipush C dX5_found_146 (by decide) ?_
                  refine r_iast C ((w (3, 0, 0) (1)).toNat) hr ⟨by decide, by decide⟩ (ok_of hG (show kd (3, 0, 5) = _ from rfl) (by decide) (by decide)) (show kd (3, 0, 5) = _ from rfl) (Int.toNat_of_nonneg (by first | omega | assumption)).symm (by first | omega | assumption) (by decide) dX5_found_148 (fun hr => ?_)
                  refine r_aload_n C (k := 0) dX5_found_149 rfl ?_
                  refine r_getf C 10 (v := .ref (adr G (4, 0, 0))) (ok_of hG (show kd (3, 0, 0) = _ from rfl) (by decide) (by decide)) (show kd (3, 0, 0) = _ from rfl) (by decide) rfl hinX5 (by decide) (by decide +kernel) rfl rfl dX5_found_150 ?_
                  refine r_getfN (host := "DrumTalkModel") C 3 (v := .ref (adr G (4, 0, 1))) (ok_of hG (show kd (4, 0, 0) = _ from rfl) (by decide) (by decide)) (show kd (4, 0, 0) = _ from rfl) (by decide) rfl hinX4 (by decide) (by decide +kernel) rfl rfl dX5_found_153 ?_
                  refine r_aload_n C (k := 0) dX5_found_156 rfl ?_
                  refine r_getf C 1 (ok_of hG (show kd (3, 0, 0) = _ from rfl) (by decide) (by decide)) (show kd (3, 0, 0) = _ from rfl) (by decide) rfl hinX5 (by decide) (by decide +kernel) rfl rfl dX5_found_157 ?_
                  refine Wm.top (z' := w (3, 0, 0) (1)) (by simp [st1, cpy]) ?_
                  refine r_iload_n C (k := 3) dX5_found_160 rfl ?_
                  refine r_iast C ((w (3, 0, 0) (1)).toNat) hr (by first | exact hr _ _ | exact hr0 _ _ | exact hrI _ _ | assumption | exact ⟨by omega, by omega⟩) (ok_of hG (show kd (4, 0, 1) = _ from rfl) (by decide) (by decide)) (show kd (4, 0, 1) = _ from rfl) (Int.toNat_of_nonneg (by first | omega | assumption)).symm (by first | omega | assumption) (by decide) dX5_found_161 (fun hr => ?_)
                  refine r_aload_n C (k := 0) dX5_found_162 rfl ?_
                  refine r_getf C 10 (v := .ref (adr G (4, 0, 0))) (ok_of hG (show kd (3, 0, 0) = _ from rfl) (by decide) (by decide)) (show kd (3, 0, 0) = _ from rfl) (by decide) rfl hinX5 (by decide) (by decide +kernel) rfl rfl dX5_found_163 ?_
                  refine r_getfN (host := "DrumTalkModel") C 4 (v := .ref (adr G (4, 0, 2))) (ok_of hG (show kd (4, 0, 0) = _ from rfl) (by decide) (by decide)) (show kd (4, 0, 0) = _ from rfl) (by decide) rfl hinX4 (by decide) (by decide +kernel) rfl rfl dX5_found_166 ?_
                  refine r_aload_n C (k := 0) dX5_found_169 rfl ?_
                  refine r_getf C 1 (ok_of hG (show kd (3, 0, 0) = _ from rfl) (by decide) (by decide)) (show kd (3, 0, 0) = _ from rfl) (by decide) rfl hinX5 (by decide) (by decide +kernel) rfl rfl dX5_found_170 ?_
                  refine Wm.top (z' := w (3, 0, 0) (1)) (by simp [st1, cpy]) ?_
                  refine r_iconst C dX5_found_173 ?_
                  refine r_iast C ((w (3, 0, 0) (1)).toNat) hr ⟨by decide, by decide⟩ (ok_of hG (show kd (4, 0, 2) = _ from rfl) (by decide) (by decide)) (show kd (4, 0, 2) = _ from rfl) (Int.toNat_of_nonneg (by first | omega | assumption)).symm (by first | omega | assumption) (by decide) dX5_found_174 (fun hr => ?_)
                  refine r_aload_n C (k := 0) dX5_found_175 rfl ?_
                  refine r_dup C dX5_found_176 rfl ?_
                  refine r_getf C 1 (ok_of hG (show kd (3, 0, 0) = _ from rfl) (by decide) (by decide)) (show kd (3, 0, 0) = _ from rfl) (by decide) rfl hinX5 (by decide) (by decide +kernel) rfl rfl dX5_found_177 ?_
                  refine Wm.top (z' := w (3, 0, 0) (1)) (by simp [st1, cpy]) ?_
                  refine r_iconst C dX5_found_180 ?_
                  refine r_iadd C dX5_found_181 ?_
                  refine r_putf C 1 hr (by first | exact hr _ _ | exact hr0 _ _ | exact hrI _ _ | assumption | exact ⟨by omega, by omega⟩) (ok_of hG (show kd (3, 0, 0) = _ from rfl) (by decide) (by decide)) (show kd (3, 0, 0) = _ from rfl) (by decide) rfl hinX5 tyX5_ok nmX5 (by decide) (by decide +kernel) rfl rfl (ty := .int) (by decide +kernel) rfl rfl rfl (Nat.le_of_ble_eq_true rfl) dX5_found_182 (fun hr => ?_)
                  refine r_aload_n C (k := 0) dX5_found_185 rfl ?_
                  refine r_getf C 1 (ok_of hG (show kd (3, 0, 0) = _ from rfl) (by decide) (by decide)) (show kd (3, 0, 0) = _ from rfl) (by decide) rfl hinX5 (by decide) (by decide +kernel) rfl rfl dX5_found_186 ?_
                  refine Wm.top (z' := (w (3, 0, 0) (1) + 1)) (by simp [st1, cpy]) ?_
                  refine r_iconst C dX5_found_189 ?_
                  refine r_isub C dX5_found_190 ?_
                  exact r_iret C dX5_found_191 (by (obtain rfl : i = (w (3, 0, 0) 1).toNat := (by omega)); rw [if_pos ⟨⟨by omega, by omega⟩, ⟨by omega, by omega⟩, ⟨by omega, by omega⟩⟩, if_neg (by assumption)]; exact congrArg (fun z => some (vI z)) (by omega)) (by (obtain rfl : i = (w (3, 0, 0) 1).toNat := (by omega)); rw [if_pos ⟨⟨by omega, by omega⟩, ⟨by omega, by omega⟩, ⟨by omega, by omega⟩⟩, if_neg (by assumption)]; rfl)
                · skip
                  refine r_aload_n C (k := 0) dX5_found_112 rfl ?_
                  refine r_iconst C dX5_found_113 ?_
                  refine r_callV C (w' := (st1 (st1 w (3, 0, 0) (0) (0)) (3, 0, 0) 0 (2))) [vI (2)] 1 (c_X5_no hG (by first | assumption | omega | exact hr _ _ | exact hr0 _ _ | exact hrI _ _ | exact ⟨by omega, by omega⟩ | exact bI_inR _ | (simp [st1] <;> omega) | exact rowR.so (by assumption) (by simp))) gX5_found_X5_no rfl rfl rfl (by decide +kernel) (Nat.le_of_ble_eq_true rfl) (Nat.le_of_ble_eq_true rfl) ⟨(Nat.zero_le _), (Nat.zero_le _)⟩ (ok_of hG (show kd (3, 0, 0) = _ from rfl) (by decide) (by decide)) (show kd (3, 0, 0) = _ from rfl) (by decide) rfl rfl rfl (Nat.le_of_ble_eq_true rfl) (st' := [vI ((0))]) rfl dX5_found_114 (fun hr => ?_)
                  exact r_iret C dX5_found_117 (by (obtain rfl : i = (w (3, 0, 0) 1).toNat := (by omega)); rw [if_pos ⟨⟨by omega, by omega⟩, ⟨by omega, by omega⟩, ⟨by omega, by omega⟩⟩, if_pos (by assumption)]) (by (obtain rfl : i = (w (3, 0, 0) 1).toNat := (by omega)); rw [if_pos ⟨⟨by omega, by omega⟩, ⟨by omega, by omega⟩, ⟨by omega, by omega⟩⟩, if_pos (by assumption)]; rfl)
              · skip
                refine r_iload C (k := 4) dX5_found_69 rfl ?_
                refine r_aload_n C (k := 0) dX5_found_71 rfl ?_
                refine r_getf C 3 (v := .ref (adr G (3, 0, 1))) (ok_of hG (show kd (3, 0, 0) = _ from rfl) (by decide) (by decide)) (show kd (3, 0, 0) = _ from rfl) (by decide) rfl hinX5 (by decide) (by decide +kernel) rfl rfl dX5_found_72 ?_
                refine r_iload C (k := 5) dX5_found_75 rfl ?_
                refine r_iald C (i) (ok_of hG (show kd (3, 0, 1) = _ from rfl) (by decide) (by decide)) (show kd (3, 0, 1) = _ from rfl) rfl (by first | omega | assumption) (by decide) dX5_found_77 ?_
                refine Wm.top (z' := w (3, 0, 1) (i)) (by simp [st1, cpy]) ?_
                refine r_iload_n C (k := 1) dX5_found_78 rfl ?_
                refine r_icmp_ne C (tgt := 97) dX5_found_79 (by decide) (by first | exact hr _ _ | exact hr0 _ _ | exact hrI _ _ | assumption | exact ⟨by omega, by omega⟩) (by first | exact hr _ _ | exact hr0 _ _ | exact hrI _ _ | assumption | exact ⟨by omega, by omega⟩) (fun h_15 => ?_) (fun h_15 => ?_)
                · skip
                  refine r_iconst C dX5_found_97 ?_
                  refine r_ior0 C (w (3, 0, 1) i = x ∧ w (3, 0, 2) i = y) (fun q => by have q1 := q.1; have q2 := q.2; first | contradiction | omega) dX5_found_98 ?_
                  refine r_istore C (i := 4) (lv' := [(4, vI (bI (rfd w x y i = true ∨ (w (3, 0, 1) i = x ∧ w (3, 0, 2) i = y)))), (0, .ref (adr G (3, 0, 0))), (1, vI (x)), (2, vI (y)), (3, vI (d)), (5, vI (((i : Nat) : Int)))]) dX5_found_99 (by decide) rfl ?_
                  refine r_iinc C (k := 5) (lv' := [(5, vI (((i + 1 : Nat) : Int))), (4, vI (bI (rfd w x y i = true ∨ (w (3, 0, 1) i = x ∧ w (3, 0, 2) i = y)))), (0, .ref (adr G (3, 0, 0))), (1, vI (x)), (2, vI (y)), (3, vI (d))]) dX5_found_101 rfl (by decide) rfl ?_
                  refine r_goto C (tgt := 60) dX5_found_104 (by decide) ?_
                  have e_16 : (st1 w (3, 0, 0) (0) (0)) = (st1 w (3, 0, 0) (0) (0)) := by rfl
                  refine Wm.sub (lv' := [(0, .ref (adr G (3, 0, 0))), (1, vI (x)), (2, vI (y)), (3, vI (d)), (4, vI (bI (rfd w x y i = true ∨ (w (3, 0, 1) i = x ∧ w (3, 0, 2) i = y)))), (5, vI (((i + 1 : Nat) : Int)))]) [2, 3, 4, 5, 1, 0] rfl ?_
                  refine Wm.mem (lv' := [(0, .ref (adr G (3, 0, 0))), (1, vI (x)), (2, vI (y)), (3, vI (d)), (4, vI (bI (rfd w x y (i + 1) = true))), (5, vI ((((i + 1) : Nat) : Int)))]) e_16 (by (rw [rfd_s])) ?_
                  exact ih60 ((i + 1)) (by omega) (by omega) (e_16 ▸ hr)
                · skip
                  refine r_aload_n C (k := 0) dX5_found_82 rfl ?_
                  refine r_getf C 4 (v := .ref (adr G (3, 0, 2))) (ok_of hG (show kd (3, 0, 0) = _ from rfl) (by decide) (by decide)) (show kd (3, 0, 0) = _ from rfl) (by decide) rfl hinX5 (by decide) (by decide +kernel) rfl rfl dX5_found_83 ?_
                  refine r_iload C (k := 5) dX5_found_86 rfl ?_
                  refine r_iald C (i) (ok_of hG (show kd (3, 0, 2) = _ from rfl) (by decide) (by decide)) (show kd (3, 0, 2) = _ from rfl) rfl (by first | omega | assumption) (by decide) dX5_found_88 ?_
                  refine Wm.top (z' := w (3, 0, 2) (i)) (by simp [st1, cpy]) ?_
                  refine r_iload_n C (k := 2) dX5_found_89 rfl ?_
                  refine r_icmp_ne C (tgt := 97) dX5_found_90 (by decide) (by first | exact hr _ _ | exact hr0 _ _ | exact hrI _ _ | assumption | exact ⟨by omega, by omega⟩) (by first | exact hr _ _ | exact hr0 _ _ | exact hrI _ _ | assumption | exact ⟨by omega, by omega⟩) (fun h_17 => ?_) (fun h_17 => ?_)
                  · skip
                    refine r_iconst C dX5_found_97 ?_
                    refine r_ior0 C (w (3, 0, 1) i = x ∧ w (3, 0, 2) i = y) (fun q => by have q1 := q.1; have q2 := q.2; first | contradiction | omega) dX5_found_98 ?_
                    refine r_istore C (i := 4) (lv' := [(4, vI (bI (rfd w x y i = true ∨ (w (3, 0, 1) i = x ∧ w (3, 0, 2) i = y)))), (0, .ref (adr G (3, 0, 0))), (1, vI (x)), (2, vI (y)), (3, vI (d)), (5, vI (((i : Nat) : Int)))]) dX5_found_99 (by decide) rfl ?_
                    refine r_iinc C (k := 5) (lv' := [(5, vI (((i + 1 : Nat) : Int))), (4, vI (bI (rfd w x y i = true ∨ (w (3, 0, 1) i = x ∧ w (3, 0, 2) i = y)))), (0, .ref (adr G (3, 0, 0))), (1, vI (x)), (2, vI (y)), (3, vI (d))]) dX5_found_101 rfl (by decide) rfl ?_
                    refine r_goto C (tgt := 60) dX5_found_104 (by decide) ?_
                    have e_18 : (st1 w (3, 0, 0) (0) (0)) = (st1 w (3, 0, 0) (0) (0)) := by rfl
                    refine Wm.sub (lv' := [(0, .ref (adr G (3, 0, 0))), (1, vI (x)), (2, vI (y)), (3, vI (d)), (4, vI (bI (rfd w x y i = true ∨ (w (3, 0, 1) i = x ∧ w (3, 0, 2) i = y)))), (5, vI (((i + 1 : Nat) : Int)))]) [2, 3, 4, 5, 1, 0] rfl ?_
                    refine Wm.mem (lv' := [(0, .ref (adr G (3, 0, 0))), (1, vI (x)), (2, vI (y)), (3, vI (d)), (4, vI (bI (rfd w x y (i + 1) = true))), (5, vI ((((i + 1) : Nat) : Int)))]) e_18 (by (rw [rfd_s])) ?_
                    exact ih60 ((i + 1)) (by omega) (by omega) (e_18 ▸ hr)
                  · skip
                    refine r_iconst C dX5_found_93 ?_
                    refine r_goto C (tgt := 98) dX5_found_94 (by decide) ?_
                    refine r_ior1 C (w (3, 0, 1) i = x ∧ w (3, 0, 2) i = y) ⟨by assumption, by assumption⟩ dX5_found_98 ?_
                    refine r_istore C (i := 4) (lv' := [(4, vI (bI (rfd w x y i = true ∨ (w (3, 0, 1) i = x ∧ w (3, 0, 2) i = y)))), (0, .ref (adr G (3, 0, 0))), (1, vI (x)), (2, vI (y)), (3, vI (d)), (5, vI (((i : Nat) : Int)))]) dX5_found_99 (by decide) rfl ?_
                    refine r_iinc C (k := 5) (lv' := [(5, vI (((i + 1 : Nat) : Int))), (4, vI (bI (rfd w x y i = true ∨ (w (3, 0, 1) i = x ∧ w (3, 0, 2) i = y)))), (0, .ref (adr G (3, 0, 0))), (1, vI (x)), (2, vI (y)), (3, vI (d))]) dX5_found_101 rfl (by decide) rfl ?_
                    refine r_goto C (tgt := 60) dX5_found_104 (by decide) ?_
                    have e_19 : (st1 w (3, 0, 0) (0) (0)) = (st1 w (3, 0, 0) (0) (0)) := by rfl
                    refine Wm.sub (lv' := [(0, .ref (adr G (3, 0, 0))), (1, vI (x)), (2, vI (y)), (3, vI (d)), (4, vI (bI (rfd w x y i = true ∨ (w (3, 0, 1) i = x ∧ w (3, 0, 2) i = y)))), (5, vI (((i + 1 : Nat) : Int)))]) [2, 3, 4, 5, 1, 0] rfl ?_
                    refine Wm.mem (lv' := [(0, .ref (adr G (3, 0, 0))), (1, vI (x)), (2, vI (y)), (3, vI (d)), (4, vI (bI (rfd w x y (i + 1) = true))), (5, vI ((((i + 1) : Nat) : Int)))]) e_19 (by (rw [rfd_s])) ?_
                    exact ih60 ((i + 1)) (by omega) (by omega) (e_19 ▸ hr)
          have e_20 : (st1 w (3, 0, 0) (0) (0)) = (st1 w (3, 0, 0) (0) (0)) := by rfl
          refine Wm.sub (lv' := [(0, .ref (adr G (3, 0, 0))), (1, vI (x)), (2, vI (y)), (3, vI (d)), (4, vI (1)), (5, vI (0))]) [2, 3, 4, 5, 1, 0] rfl ?_
          refine Wm.mem (lv' := [(0, .ref (adr G (3, 0, 0))), (1, vI (x)), (2, vI (y)), (3, vI (d)), (4, vI (bI (rfd w x y 0 = true))), (5, vI (((0 : Nat) : Int)))]) e_20 (by (rw [rfd_z]; first | (rw [bI_t (by assumption)]; rfl) | (rw [bI_f (by assumption)]; rfl))) ?_
          exact loop_60 _ (0) (by omega) (Nat.lt_succ_self _) (e_20 ▸ hr)
      · skip
        refine r_aload_n C (k := 0) dX5_found_35 rfl ?_
        refine r_iconst C dX5_found_36 ?_
        refine r_callV C (w' := (st1 (st1 w (3, 0, 0) (0) (0)) (3, 0, 0) 0 (1))) [vI (1)] 1 (c_X5_no hG (by first | assumption | omega | exact hr _ _ | exact hr0 _ _ | exact hrI _ _ | exact ⟨by omega, by omega⟩ | exact bI_inR _ | (simp [st1] <;> omega) | exact rowR.so (by assumption) (by simp))) gX5_found_X5_no rfl rfl rfl (by decide +kernel) (Nat.le_of_ble_eq_true rfl) (Nat.le_of_ble_eq_true rfl) ⟨(Nat.zero_le _), (Nat.zero_le _)⟩ (ok_of hG (show kd (3, 0, 0) = _ from rfl) (by decide) (by decide)) (show kd (3, 0, 0) = _ from rfl) (by decide) rfl rfl rfl (Nat.le_of_ble_eq_true rfl) (st' := [vI ((0))]) rfl dX5_found_37 (fun hr => ?_)
        exact r_iret C dX5_found_40 (by (first | rfl | ((repeat' split) <;> first | rfl | contradiction | (exfalso; omega)))) (by (first | rfl | ((repeat' split) <;> first | rfl | contradiction | (exfalso; omega))))
