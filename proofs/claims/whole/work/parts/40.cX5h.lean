set_option maxRecDepth 100000 in
set_option maxHeartbeats 1500000 in
theorem c_X5_way {l : Launch} {G : Gt} (hG : Gok G)  {w : Mm} {v : Int} {u : Int} {N D X : Int} (hv : inR v) (hu : inR u) (hvb : 0 ≤ w (3, 0, 0) 1 ∧ w (3, 0, 0) 1 ≤ 8) (hS : SI w 4 N D X) (hM : MI w) : Con l G yX5_way wsX5_way ({ frames := 3, cells := 0, slots := 0, locals := 65 } : Room) w [.ref (adr G (3, 0, 0)), vI v, vI u] (some (vI ((if isV w v ∧ isV w u then wfd (rwm (st1 w (3, 0, 0) 0 0) (w (3, 0, 0) 1).toNat (v).toNat) (u).toNat (w (3, 0, 0) 1).toNat 0 else 0)))) ((if isV w v ∧ isV w u then th0 w else thn w 1)) 0 0 := by
  refine Con.head (cc := cX5_way) (nL := 8) (ret := (some .int)) hG (by decide +kernel) rfl (Nat.le_of_ble_eq_true rfl) ?_
  intro B A hBl C hr
  have hr0 := hr
  have hrI := hr
  have hinX5 : ∀ w ∈ u_ws RX5 TX5 12, w ∈ wsX5_way := by decide +kernel
  obtain ⟨y1, y2⟩ := hvb
  have hS1 := SI_th0 hS
  have hM1 := MI_th0 hM
  refine r_aload_n C (k := 0) dX5_way_0 rfl ?_
  refine r_iconst C dX5_way_1 ?_
  refine r_putf C 0 hr ⟨by decide, by decide⟩ (ok_of hG (show kd (3, 0, 0) = _ from rfl) (by decide) (show (3 : Nat) ≤ 6 by decide)) (show kd (3, 0, 0) = _ from rfl) (by decide) rfl hinX5 tyX5_ok nmX5 (by decide) (by decide +kernel) rfl rfl (ty := .int) (by decide +kernel) rfl rfl rfl (Nat.le_of_ble_eq_true rfl) dX5_way_2 (fun hr => ?_)
  refine r_aload_n C (k := 0) dX5_way_5 rfl ?_
  refine r_iload_n C (k := 1) dX5_way_6 rfl ?_
  refine r_callV C (w' := (st1 w (3, 0, 0) (0) (0))) [vI (v)] 1 (c_X5_isVillage hG (by first | assumption | omega | exact hr _ _ | exact hr0 _ _ | exact hrI _ _ | exact ⟨by omega, by omega⟩ | exact bI_inR _ | (simp [st1] <;> omega) | exact rowR.so (by assumption) (by simp)) (by first | assumption | omega | exact hr _ _ | exact hr0 _ _ | exact hrI _ _ | exact ⟨by omega, by omega⟩ | exact bI_inR _ | (simp [st1] <;> omega) | exact rowR.so (by assumption) (by simp))) gX5_way_X5_isVillage rfl rfl rfl (by decide +kernel) (Nat.le_of_ble_eq_true rfl) (Nat.le_of_ble_eq_true rfl) ⟨(Nat.zero_le _), (Nat.zero_le _)⟩ (ok_of hG (show kd (3, 0, 0) = _ from rfl) (by decide) (show (3 : Nat) ≤ 6 by decide)) (show kd (3, 0, 0) = _ from rfl) (by decide) rfl rfl rfl (Nat.le_of_ble_eq_true rfl) (st' := [vI (bI (0 ≤ (v) ∧ (v) ≤ (w (3, 0, 0) (1)) - 1))]) rfl dX5_way_7 (fun hr => ?_)
  refine r_if_eqP C (P := 0 ≤ (v) ∧ (v) ≤ (w (3, 0, 0) (1)) - 1) (tgt := 21) dX5_way_10 (by decide) (fun h_1 => ?_) (fun h_1 => ?_)
  · skip
    refine r_aload_n C (k := 0) dX5_way_21 rfl ?_
    refine r_iconst C dX5_way_22 ?_
    refine r_callV C (w' := (st1 (st1 w (3, 0, 0) (0) (0)) (3, 0, 0) 0 (1))) [vI (1)] 1 (c_X5_no hG (by first | assumption | omega | exact hr _ _ | exact hr0 _ _ | exact hrI _ _ | exact ⟨by omega, by omega⟩ | exact bI_inR _ | (simp [st1] <;> omega) | exact rowR.so (by assumption) (by simp))) gX5_way_X5_no rfl rfl rfl (by decide +kernel) (Nat.le_of_ble_eq_true rfl) (Nat.le_of_ble_eq_true rfl) ⟨(Nat.zero_le _), (Nat.zero_le _)⟩ (ok_of hG (show kd (3, 0, 0) = _ from rfl) (by decide) (show (3 : Nat) ≤ 6 by decide)) (show kd (3, 0, 0) = _ from rfl) (by decide) rfl rfl rfl (Nat.le_of_ble_eq_true rfl) (st' := [vI ((0))]) rfl dX5_way_23 (fun hr => ?_)
    exact r_iret C dX5_way_26 (by (first | rfl | ((repeat' split) <;> first | rfl | contradiction | (exfalso; omega)))) (by (first | rfl | ((repeat' split) <;> first | rfl | contradiction | (exfalso; omega))))
  · skip
    refine r_aload_n C (k := 0) dX5_way_13 rfl ?_
    refine r_iload_n C (k := 2) dX5_way_14 rfl ?_
    refine r_callV C (w' := (st1 w (3, 0, 0) (0) (0))) [vI (u)] 1 (c_X5_isVillage hG (by first | assumption | omega | exact hr _ _ | exact hr0 _ _ | exact hrI _ _ | exact ⟨by omega, by omega⟩ | exact bI_inR _ | (simp [st1] <;> omega) | exact rowR.so (by assumption) (by simp)) (by first | assumption | omega | exact hr _ _ | exact hr0 _ _ | exact hrI _ _ | exact ⟨by omega, by omega⟩ | exact bI_inR _ | (simp [st1] <;> omega) | exact rowR.so (by assumption) (by simp))) gX5_way_X5_isVillage rfl rfl rfl (by decide +kernel) (Nat.le_of_ble_eq_true rfl) (Nat.le_of_ble_eq_true rfl) ⟨(Nat.zero_le _), (Nat.zero_le _)⟩ (ok_of hG (show kd (3, 0, 0) = _ from rfl) (by decide) (show (3 : Nat) ≤ 6 by decide)) (show kd (3, 0, 0) = _ from rfl) (by decide) rfl rfl rfl (Nat.le_of_ble_eq_true rfl) (st' := [vI (bI (0 ≤ (u) ∧ (u) ≤ (w (3, 0, 0) (1)) - 1))]) rfl dX5_way_15 (fun hr => ?_)
    refine r_if_neP C (P := 0 ≤ (u) ∧ (u) ≤ (w (3, 0, 0) (1)) - 1) (tgt := 27) dX5_way_18 (by decide) (fun h_2 => ?_) (fun h_2 => ?_)
    · skip
      refine r_iconst C dX5_way_27 ?_
      refine r_iload_n C (k := 1) dX5_way_28 rfl ?_
      refine Wm.top (z' := (((v).toNat : Nat) : Int)) (by omega) ?_
      refine r_ishl1 C dX5_way_29 (by omega) ?_
      refine r_istore_n C (i := 3) (lv' := [(3, vI (((2 ^ (v).toNat : Nat) : Int))), (0, .ref (adr G (3, 0, 0))), (1, vI (v)), (2, vI (u))]) dX5_way_30 rfl (by decide) rfl ?_
      refine r_iconst C dX5_way_31 ?_
      refine r_istore C (i := 4) (lv' := [(4, vI (0)), (3, vI (((2 ^ (v).toNat : Nat) : Int))), (0, .ref (adr G (3, 0, 0))), (1, vI (v)), (2, vI (u))]) dX5_way_32 (by decide) rfl ?_
      have loop_34 : ∀ (nf : Nat) (k : Nat), (k ≤ (w (3, 0, 0) 1).toNat) → (wfd (rwm (st1 w (3, 0, 0) 0 0) (w (3, 0, 0) 1).toNat (v).toNat) (u).toNat ((w (3, 0, 0) 1).toNat - k) k = wfd (rwm (st1 w (3, 0, 0) 0 0) (w (3, 0, 0) 1).toNat (v).toNat) (u).toNat (w (3, 0, 0) 1).toNat 0) → (w (3, 0, 0) 1).toNat - k < nf → rng (st1 w (3, 0, 0) (0) (0)) → Wm B 8 G A (Qe B G A (some (vI ((if isV w v ∧ isV w u then wfd (rwm (st1 w (3, 0, 0) 0 0) (w (3, 0, 0) 1).toNat (v).toNat) (u).toNat (w (3, 0, 0) 1).toNat 0 else 0)))) ((if isV w v ∧ isV w u then th0 w else thn w 1)) 0 0) (st1 w (3, 0, 0) (0) (0)) (0) (0) 34 [(0, .ref (adr G (3, 0, 0))), (1, vI (v)), (2, vI (u)), (3, vI (((rwm (st1 w (3, 0, 0) 0 0) (w (3, 0, 0) 1).toNat (v).toNat k : Nat) : Int))), (4, vI (((k : Nat) : Int)))] [] := by
        intro n34
        induction n34 with
        | zero => intro k hk hq hm; exact absurd hm (Nat.not_lt_zero _)
        | succ n34 ih34 =>
          intro k hk hq hm hr
          have hrI := hr
          have hlt := rwm_lt (w := (st1 w (3, 0, 0) 0 0)) (V := (w (3, 0, 0) 1).toNat) (v := (v).toNat) (by omega) (by omega) k
          have hlt2 : rwm (st1 w (3, 0, 0) 0 0) (w (3, 0, 0) 1).toNat (v).toNat k < 256 := hlt
          refine r_iload C (k := 4) dX5_way_34 rfl ?_
          refine r_aload_n C (k := 0) dX5_way_36 rfl ?_
          refine r_getf C 1 (ok_of hG (show kd (3, 0, 0) = _ from rfl) (by decide) (show (3 : Nat) ≤ 6 by decide)) (show kd (3, 0, 0) = _ from rfl) (by decide) rfl hinX5 (by decide) (by decide +kernel) rfl rfl dX5_way_37 ?_
          refine Wm.top (z' := w (3, 0, 0) (1)) (by simp [st1, cpy]) ?_
          refine r_icmp_ge C (tgt := 136) dX5_way_40 (by decide) (by first | exact hr _ _ | exact hr0 _ _ | exact hrI _ _ | assumption | exact ⟨by omega, by omega⟩) (by first | exact hr _ _ | exact hr0 _ _ | exact hrI _ _ | assumption | exact ⟨by omega, by omega⟩) (fun h_3 => ?_) (fun h_3 => ?_)
          · skip
            refine r_iconst C dX5_way_136 ?_
            exact r_iret C dX5_way_137 (by rw [if_pos ⟨by assumption, by assumption⟩, ← hq, wfd_0 (by omega)]) (by rw [if_pos ⟨by assumption, by assumption⟩]; rfl)
          · skip
            refine r_iload_n C (k := 3) dX5_way_43 rfl ?_
            refine r_iload_n C (k := 2) dX5_way_44 rfl ?_
            refine Wm.top (z' := (((u).toNat : Nat) : Int)) (by omega) ?_
            refine r_ishrN C dX5_way_45 (by omega) (by omega) ?_
            refine r_iconst C dX5_way_46 ?_
            refine r_iandN C dX5_way_47 (Nat.lt_of_le_of_lt (Nat.div_le_self _ _) (by omega)) ?_
            refine r_iconst C dX5_way_48 ?_
            refine r_icmp_ne C (tgt := 55) dX5_way_49 (by decide) (by first | exact hr _ _ | exact hr0 _ _ | exact hrI _ _ | assumption | exact ⟨by omega, by omega⟩) ⟨by decide, by decide⟩ (fun h_4 => ?_) (fun h_4 => ?_)
            · skip
              refine r_iload_n C (k := 3) dX5_way_55 rfl ?_
              refine r_istore C (i := 5) (lv' := [(5, vI (((rwm (st1 w (3, 0, 0) 0 0) (w (3, 0, 0) 1).toNat (v).toNat k : Nat) : Int))), (0, .ref (adr G (3, 0, 0))), (1, vI (v)), (2, vI (u)), (3, vI (((rwm (st1 w (3, 0, 0) 0 0) (w (3, 0, 0) 1).toNat (v).toNat k : Nat) : Int))), (4, vI (((k : Nat) : Int)))]) dX5_way_56 (by decide) rfl ?_
              refine r_iconst C dX5_way_58 ?_
              refine r_istore C (i := 6) (lv' := [(6, vI (0)), (5, vI (((rwm (st1 w (3, 0, 0) 0 0) (w (3, 0, 0) 1).toNat (v).toNat k : Nat) : Int))), (0, .ref (adr G (3, 0, 0))), (1, vI (v)), (2, vI (u)), (3, vI (((rwm (st1 w (3, 0, 0) 0 0) (w (3, 0, 0) 1).toNat (v).toNat k : Nat) : Int))), (4, vI (((k : Nat) : Int)))]) dX5_way_59 (by decide) rfl ?_
              have loop_61 : ∀ (nf : Nat) (a : Nat), (a ≤ (w (3, 0, 0) 1).toNat) → (w (3, 0, 0) 1).toNat - a < nf → rng (st1 w (3, 0, 0) (0) (0)) → Wm B 8 G A (Qe B G A (some (vI ((if isV w v ∧ isV w u then wfd (rwm (st1 w (3, 0, 0) 0 0) (w (3, 0, 0) 1).toNat (v).toNat) (u).toNat (w (3, 0, 0) 1).toNat 0 else 0)))) ((if isV w v ∧ isV w u then th0 w else thn w 1)) 0 0) (st1 w (3, 0, 0) (0) (0)) (0) (0) 61 [(0, .ref (adr G (3, 0, 0))), (1, vI (v)), (2, vI (u)), (3, vI (((rwm (st1 w (3, 0, 0) 0 0) (w (3, 0, 0) 1).toNat (v).toNat k : Nat) : Int))), (4, vI (((k : Nat) : Int))), (5, vI (((rwo (st1 w (3, 0, 0) 0 0) (rwm (st1 w (3, 0, 0) 0 0) (w (3, 0, 0) 1).toNat (v).toNat k) (w (3, 0, 0) 1).toNat a : Nat) : Int))), (6, vI (((a : Nat) : Int)))] [] := by
                intro n61
                induction n61 with
                | zero => intro a ha hm; exact absurd hm (Nat.not_lt_zero _)
                | succ n61 ih61 =>
                  intro a ha hm hr
                  have hrI := hr
                  have hlo := rwo_lt (w := (st1 w (3, 0, 0) 0 0)) hlt (V := (w (3, 0, 0) 1).toNat) (by omega) a
                  refine r_iload C (k := 6) dX5_way_61 rfl ?_
                  refine r_aload_n C (k := 0) dX5_way_63 rfl ?_
                  refine r_getf C 1 (ok_of hG (show kd (3, 0, 0) = _ from rfl) (by decide) (show (3 : Nat) ≤ 6 by decide)) (show kd (3, 0, 0) = _ from rfl) (by decide) rfl hinX5 (by decide) (by decide +kernel) rfl rfl dX5_way_64 ?_
                  refine Wm.top (z' := w (3, 0, 0) (1)) (by simp [st1, cpy]) ?_
                  refine r_icmp_ge C (tgt := 127) dX5_way_67 (by decide) (by first | exact hr _ _ | exact hr0 _ _ | exact hrI _ _ | assumption | exact ⟨by omega, by omega⟩) (by first | exact hr _ _ | exact hr0 _ _ | exact hrI _ _ | assumption | exact ⟨by omega, by omega⟩) (fun h_5 => ?_) (fun h_5 => ?_)
                  · skip
                    refine r_iload C (k := 5) dX5_way_127 rfl ?_
                    refine r_istore_n C (i := 3) (lv' := [(3, vI (((rwo (st1 w (3, 0, 0) 0 0) (rwm (st1 w (3, 0, 0) 0 0) (w (3, 0, 0) 1).toNat (v).toNat k) (w (3, 0, 0) 1).toNat a : Nat) : Int))), (0, .ref (adr G (3, 0, 0))), (1, vI (v)), (2, vI (u)), (4, vI (((k : Nat) : Int))), (5, vI (((rwo (st1 w (3, 0, 0) 0 0) (rwm (st1 w (3, 0, 0) 0 0) (w (3, 0, 0) 1).toNat (v).toNat k) (w (3, 0, 0) 1).toNat a : Nat) : Int))), (6, vI (((a : Nat) : Int)))]) dX5_way_129 rfl (by decide) rfl ?_
                    refine r_iinc C (k := 4) (lv' := [(4, vI (((k + 1 : Nat) : Int))), (3, vI (((rwo (st1 w (3, 0, 0) 0 0) (rwm (st1 w (3, 0, 0) 0 0) (w (3, 0, 0) 1).toNat (v).toNat k) (w (3, 0, 0) 1).toNat a : Nat) : Int))), (0, .ref (adr G (3, 0, 0))), (1, vI (v)), (2, vI (u)), (5, vI (((rwo (st1 w (3, 0, 0) 0 0) (rwm (st1 w (3, 0, 0) 0 0) (w (3, 0, 0) 1).toNat (v).toNat k) (w (3, 0, 0) 1).toNat a : Nat) : Int))), (6, vI (((a : Nat) : Int)))]) dX5_way_130 rfl (by decide) rfl ?_
                    refine r_goto C (tgt := 34) dX5_way_133 (by decide) ?_
                    have e_6 : (st1 w (3, 0, 0) (0) (0)) = (st1 w (3, 0, 0) (0) (0)) := by rfl
                    refine Wm.sub (lv' := [(0, .ref (adr G (3, 0, 0))), (1, vI (v)), (2, vI (u)), (3, vI (((rwo (st1 w (3, 0, 0) 0 0) (rwm (st1 w (3, 0, 0) 0 0) (w (3, 0, 0) 1).toNat (v).toNat k) (w (3, 0, 0) 1).toNat a : Nat) : Int))), (4, vI (((k + 1 : Nat) : Int)))]) [2, 3, 4, 1, 0] rfl ?_
                    refine Wm.mem (lv' := [(0, .ref (adr G (3, 0, 0))), (1, vI (v)), (2, vI (u)), (3, vI (((rwm (st1 w (3, 0, 0) 0 0) (w (3, 0, 0) 1).toNat (v).toNat (k + 1) : Nat) : Int))), (4, vI ((((k + 1) : Nat) : Int)))]) e_6 (by (obtain rfl : a = (w (3, 0, 0) 1).toNat := (by omega)); rfl) ?_
                    exact ih34 ((k + 1)) (by omega) (by rw [← hq]; exact (wfd_n (by omega) (by assumption)).symm) (by omega) (e_6 ▸ hr)
                  · skip
                    refine r_iconst C dX5_way_70 ?_
                    refine r_istore C (i := 7) (lv' := [(7, vI (0)), (0, .ref (adr G (3, 0, 0))), (1, vI (v)), (2, vI (u)), (3, vI (((rwm (st1 w (3, 0, 0) 0 0) (w (3, 0, 0) 1).toNat (v).toNat k : Nat) : Int))), (4, vI (((k : Nat) : Int))), (5, vI (((rwo (st1 w (3, 0, 0) 0 0) (rwm (st1 w (3, 0, 0) 0 0) (w (3, 0, 0) 1).toNat (v).toNat k) (w (3, 0, 0) 1).toNat a : Nat) : Int))), (6, vI (((a : Nat) : Int)))]) dX5_way_71 (by decide) rfl ?_
                    have loop_73 : ∀ (nf : Nat) (b : Nat), (b ≤ (w (3, 0, 0) 1).toNat) → (w (3, 0, 0) 1).toNat - b < nf → rng (st1 w (3, 0, 0) (0) (0)) → Wm B 8 G A (Qe B G A (some (vI ((if isV w v ∧ isV w u then wfd (rwm (st1 w (3, 0, 0) 0 0) (w (3, 0, 0) 1).toNat (v).toNat) (u).toNat (w (3, 0, 0) 1).toNat 0 else 0)))) ((if isV w v ∧ isV w u then th0 w else thn w 1)) 0 0) (st1 w (3, 0, 0) (0) (0)) (0) (0) 73 [(0, .ref (adr G (3, 0, 0))), (1, vI (v)), (2, vI (u)), (3, vI (((rwm (st1 w (3, 0, 0) 0 0) (w (3, 0, 0) 1).toNat (v).toNat k : Nat) : Int))), (4, vI (((k : Nat) : Int))), (5, vI (((rwi (st1 w (3, 0, 0) 0 0) (rwm (st1 w (3, 0, 0) 0 0) (w (3, 0, 0) 1).toNat (v).toNat k) a (rwo (st1 w (3, 0, 0) 0 0) (rwm (st1 w (3, 0, 0) 0 0) (w (3, 0, 0) 1).toNat (v).toNat k) (w (3, 0, 0) 1).toNat a) b : Nat) : Int))), (6, vI (((a : Nat) : Int))), (7, vI (((b : Nat) : Int)))] [] := by
                      intro n73
                      induction n73 with
                      | zero => intro b hb hm; exact absurd hm (Nat.not_lt_zero _)
                      | succ n73 ih73 =>
                        intro b hb hm hr
                        have hrI := hr
                        have hli := rwi_lt (w := (st1 w (3, 0, 0) 0 0)) (M := rwm (st1 w (3, 0, 0) 0 0) (w (3, 0, 0) 1).toNat (v).toNat k) (a := a) hlo b (by omega)
                        refine r_iload C (k := 7) dX5_way_73 rfl ?_
                        refine r_aload_n C (k := 0) dX5_way_75 rfl ?_
                        refine r_getf C 1 (ok_of hG (show kd (3, 0, 0) = _ from rfl) (by decide) (show (3 : Nat) ≤ 6 by decide)) (show kd (3, 0, 0) = _ from rfl) (by decide) rfl hinX5 (by decide) (by decide +kernel) rfl rfl dX5_way_76 ?_
                        refine Wm.top (z' := w (3, 0, 0) (1)) (by simp [st1, cpy]) ?_
                        refine r_icmp_ge C (tgt := 121) dX5_way_79 (by decide) (by first | exact hr _ _ | exact hr0 _ _ | exact hrI _ _ | assumption | exact ⟨by omega, by omega⟩) (by first | exact hr _ _ | exact hr0 _ _ | exact hrI _ _ | assumption | exact ⟨by omega, by omega⟩) (fun h_7 => ?_) (fun h_7 => ?_)
                        · skip
                          refine r_iinc C (k := 6) (lv' := [(6, vI (((a + 1 : Nat) : Int))), (0, .ref (adr G (3, 0, 0))), (1, vI (v)), (2, vI (u)), (3, vI (((rwm (st1 w (3, 0, 0) 0 0) (w (3, 0, 0) 1).toNat (v).toNat k : Nat) : Int))), (4, vI (((k : Nat) : Int))), (5, vI (((rwi (st1 w (3, 0, 0) 0 0) (rwm (st1 w (3, 0, 0) 0 0) (w (3, 0, 0) 1).toNat (v).toNat k) a (rwo (st1 w (3, 0, 0) 0 0) (rwm (st1 w (3, 0, 0) 0 0) (w (3, 0, 0) 1).toNat (v).toNat k) (w (3, 0, 0) 1).toNat a) b : Nat) : Int))), (7, vI (((b : Nat) : Int)))]) dX5_way_121 rfl (by decide) rfl ?_
                          refine r_goto C (tgt := 61) dX5_way_124 (by decide) ?_
                          have e_8 : (st1 w (3, 0, 0) (0) (0)) = (st1 w (3, 0, 0) (0) (0)) := by rfl
                          refine Wm.sub (lv' := [(0, .ref (adr G (3, 0, 0))), (1, vI (v)), (2, vI (u)), (3, vI (((rwm (st1 w (3, 0, 0) 0 0) (w (3, 0, 0) 1).toNat (v).toNat k : Nat) : Int))), (4, vI (((k : Nat) : Int))), (5, vI (((rwi (st1 w (3, 0, 0) 0 0) (rwm (st1 w (3, 0, 0) 0 0) (w (3, 0, 0) 1).toNat (v).toNat k) a (rwo (st1 w (3, 0, 0) 0 0) (rwm (st1 w (3, 0, 0) 0 0) (w (3, 0, 0) 1).toNat (v).toNat k) (w (3, 0, 0) 1).toNat a) b : Nat) : Int))), (6, vI (((a + 1 : Nat) : Int)))]) [1, 2, 3, 4, 5, 6, 0] rfl ?_
                          refine Wm.mem (lv' := [(0, .ref (adr G (3, 0, 0))), (1, vI (v)), (2, vI (u)), (3, vI (((rwm (st1 w (3, 0, 0) 0 0) (w (3, 0, 0) 1).toNat (v).toNat k : Nat) : Int))), (4, vI (((k : Nat) : Int))), (5, vI (((rwo (st1 w (3, 0, 0) 0 0) (rwm (st1 w (3, 0, 0) 0 0) (w (3, 0, 0) 1).toNat (v).toNat k) (w (3, 0, 0) 1).toNat (a + 1) : Nat) : Int))), (6, vI ((((a + 1) : Nat) : Int)))]) e_8 (by (obtain rfl : b = (w (3, 0, 0) 1).toNat := (by omega)); rfl) ?_
                          exact ih61 ((a + 1)) (by omega) (by omega) (e_8 ▸ hr)
                        · skip
                          refine r_iload_n C (k := 3) dX5_way_82 rfl ?_
                          refine r_iload C (k := 6) dX5_way_83 rfl ?_
                          refine r_ishrN C dX5_way_85 (by omega) (by omega) ?_
                          refine r_iconst C dX5_way_86 ?_
                          refine r_iandN C dX5_way_87 (Nat.lt_of_le_of_lt (Nat.div_le_self _ _) (by omega)) ?_
                          refine r_iconst C dX5_way_88 ?_
                          refine r_icmp_ne C (tgt := 115) dX5_way_89 (by decide) (by first | exact hr _ _ | exact hr0 _ _ | exact hrI _ _ | assumption | exact ⟨by omega, by omega⟩) ⟨by decide, by decide⟩ (fun h_9 => ?_) (fun h_9 => ?_)
                          · skip
                            refine r_iinc C (k := 7) (lv' := [(7, vI (((b + 1 : Nat) : Int))), (0, .ref (adr G (3, 0, 0))), (1, vI (v)), (2, vI (u)), (3, vI (((rwm (st1 w (3, 0, 0) 0 0) (w (3, 0, 0) 1).toNat (v).toNat k : Nat) : Int))), (4, vI (((k : Nat) : Int))), (5, vI (((rwi (st1 w (3, 0, 0) 0 0) (rwm (st1 w (3, 0, 0) 0 0) (w (3, 0, 0) 1).toNat (v).toNat k) a (rwo (st1 w (3, 0, 0) 0 0) (rwm (st1 w (3, 0, 0) 0 0) (w (3, 0, 0) 1).toNat (v).toNat k) (w (3, 0, 0) 1).toNat a) b : Nat) : Int))), (6, vI (((a : Nat) : Int)))]) dX5_way_115 rfl (by decide) rfl ?_
                            refine r_goto C (tgt := 73) dX5_way_118 (by decide) ?_
                            have e_10 : (st1 w (3, 0, 0) (0) (0)) = (st1 w (3, 0, 0) (0) (0)) := by rfl
                            refine Wm.sub (lv' := [(0, .ref (adr G (3, 0, 0))), (1, vI (v)), (2, vI (u)), (3, vI (((rwm (st1 w (3, 0, 0) 0 0) (w (3, 0, 0) 1).toNat (v).toNat k : Nat) : Int))), (4, vI (((k : Nat) : Int))), (5, vI (((rwi (st1 w (3, 0, 0) 0 0) (rwm (st1 w (3, 0, 0) 0 0) (w (3, 0, 0) 1).toNat (v).toNat k) a (rwo (st1 w (3, 0, 0) 0 0) (rwm (st1 w (3, 0, 0) 0 0) (w (3, 0, 0) 1).toNat (v).toNat k) (w (3, 0, 0) 1).toNat a) b : Nat) : Int))), (6, vI (((a : Nat) : Int))), (7, vI (((b + 1 : Nat) : Int)))]) [1, 2, 3, 4, 5, 6, 7, 0] rfl ?_
                            refine Wm.mem (lv' := [(0, .ref (adr G (3, 0, 0))), (1, vI (v)), (2, vI (u)), (3, vI (((rwm (st1 w (3, 0, 0) 0 0) (w (3, 0, 0) 1).toNat (v).toNat k : Nat) : Int))), (4, vI (((k : Nat) : Int))), (5, vI (((rwi (st1 w (3, 0, 0) 0 0) (rwm (st1 w (3, 0, 0) 0 0) (w (3, 0, 0) 1).toNat (v).toNat k) a (rwo (st1 w (3, 0, 0) 0 0) (rwm (st1 w (3, 0, 0) 0 0) (w (3, 0, 0) 1).toNat (v).toNat k) (w (3, 0, 0) 1).toNat a) (b + 1) : Nat) : Int))), (6, vI (((a : Nat) : Int))), (7, vI ((((b + 1) : Nat) : Int)))]) e_10 (by (simp only [rwi]; first | (rw [if_neg (fun q => absurd q.1 (by assumption))]; done) | (rw [if_neg (fun q => absurd q.2 (by assumption))]; done) | (rw [if_pos ⟨by assumption, by assumption⟩]; done))) ?_
                            exact ih73 ((b + 1)) (by omega) (by omega) (e_10 ▸ hr)
                          · skip
                            refine r_aload_n C (k := 0) dX5_way_92 rfl ?_
                            refine r_getf C 10 (v := .ref (adr G (4, 0, 0))) (ok_of hG (show kd (3, 0, 0) = _ from rfl) (by decide) (show (3 : Nat) ≤ 6 by decide)) (show kd (3, 0, 0) = _ from rfl) (by decide) rfl hinX5 (by decide) (by decide +kernel) rfl rfl dX5_way_93 ?_
                            refine r_iload C (k := 6) dX5_way_96 rfl ?_
                            refine r_iload C (k := 7) dX5_way_98 rfl ?_
                            refine r_callV C (w' := (st1 w (3, 0, 0) (0) (0))) [vI (((a : Nat) : Int)), vI (((b : Nat) : Int))] 2 (c_X4_hears hG (Or.inl rfl) (by first | assumption | omega | exact hr _ _ | exact hr0 _ _ | exact hrI _ _ | exact ⟨by omega, by omega⟩ | exact bI_inR _ | (simp [st1] <;> omega) | exact rowR.so (by assumption) (by simp)) (by first | assumption | omega | exact hr _ _ | exact hr0 _ _ | exact hrI _ _ | exact ⟨by omega, by omega⟩ | exact bI_inR _ | (simp [st1] <;> omega) | exact rowR.so (by assumption) (by simp)) (by exact hM1.2.2.1) (by exact hM1.2.2.2.1) (by exact hS1.2.2.2.1)) gX5_way_X4_hears rfl rfl rfl (by decide +kernel) (Nat.le_of_ble_eq_true rfl) (Nat.le_of_ble_eq_true rfl) ⟨(Nat.zero_le _), (Nat.zero_le _)⟩ (ok_of hG (show kd (4, 0, 0) = _ from rfl) (by decide) (show (4 : Nat) ≤ 6 by decide)) (show kd (4, 0, 0) = _ from rfl) (by decide) rfl rfl rfl (Nat.le_of_ble_eq_true rfl) (st' := [vI (bI (rhears (st1 w (3, 0, 0) (0) (0)) 4 a b))]) rfl dX5_way_100 (fun hr => ?_)
                            refine r_if_eqP C (P := rhears (st1 w (3, 0, 0) (0) (0)) 4 a b) (tgt := 115) dX5_way_103 (by decide) (fun h_11 => ?_) (fun h_11 => ?_)
                            · skip
                              refine r_iinc C (k := 7) (lv' := [(7, vI (((b + 1 : Nat) : Int))), (0, .ref (adr G (3, 0, 0))), (1, vI (v)), (2, vI (u)), (3, vI (((rwm (st1 w (3, 0, 0) 0 0) (w (3, 0, 0) 1).toNat (v).toNat k : Nat) : Int))), (4, vI (((k : Nat) : Int))), (5, vI (((rwi (st1 w (3, 0, 0) 0 0) (rwm (st1 w (3, 0, 0) 0 0) (w (3, 0, 0) 1).toNat (v).toNat k) a (rwo (st1 w (3, 0, 0) 0 0) (rwm (st1 w (3, 0, 0) 0 0) (w (3, 0, 0) 1).toNat (v).toNat k) (w (3, 0, 0) 1).toNat a) b : Nat) : Int))), (6, vI (((a : Nat) : Int)))]) dX5_way_115 rfl (by decide) rfl ?_
                              refine r_goto C (tgt := 73) dX5_way_118 (by decide) ?_
                              have e_12 : (st1 w (3, 0, 0) (0) (0)) = (st1 w (3, 0, 0) (0) (0)) := by rfl
                              refine Wm.sub (lv' := [(0, .ref (adr G (3, 0, 0))), (1, vI (v)), (2, vI (u)), (3, vI (((rwm (st1 w (3, 0, 0) 0 0) (w (3, 0, 0) 1).toNat (v).toNat k : Nat) : Int))), (4, vI (((k : Nat) : Int))), (5, vI (((rwi (st1 w (3, 0, 0) 0 0) (rwm (st1 w (3, 0, 0) 0 0) (w (3, 0, 0) 1).toNat (v).toNat k) a (rwo (st1 w (3, 0, 0) 0 0) (rwm (st1 w (3, 0, 0) 0 0) (w (3, 0, 0) 1).toNat (v).toNat k) (w (3, 0, 0) 1).toNat a) b : Nat) : Int))), (6, vI (((a : Nat) : Int))), (7, vI (((b + 1 : Nat) : Int)))]) [1, 2, 3, 4, 5, 6, 7, 0] rfl ?_
                              refine Wm.mem (lv' := [(0, .ref (adr G (3, 0, 0))), (1, vI (v)), (2, vI (u)), (3, vI (((rwm (st1 w (3, 0, 0) 0 0) (w (3, 0, 0) 1).toNat (v).toNat k : Nat) : Int))), (4, vI (((k : Nat) : Int))), (5, vI (((rwi (st1 w (3, 0, 0) 0 0) (rwm (st1 w (3, 0, 0) 0 0) (w (3, 0, 0) 1).toNat (v).toNat k) a (rwo (st1 w (3, 0, 0) 0 0) (rwm (st1 w (3, 0, 0) 0 0) (w (3, 0, 0) 1).toNat (v).toNat k) (w (3, 0, 0) 1).toNat a) (b + 1) : Nat) : Int))), (6, vI (((a : Nat) : Int))), (7, vI ((((b + 1) : Nat) : Int)))]) e_12 (by (simp only [rwi]; first | (rw [if_neg (fun q => absurd q.1 (by assumption))]; done) | (rw [if_neg (fun q => absurd q.2 (by assumption))]; done) | (rw [if_pos ⟨by assumption, by assumption⟩]; done))) ?_
                              exact ih73 ((b + 1)) (by omega) (by omega) (e_12 ▸ hr)
                            · skip
                              refine r_iload C (k := 5) dX5_way_106 rfl ?_
                              refine r_iconst C dX5_way_108 ?_
                              refine r_iload C (k := 7) dX5_way_109 rfl ?_
                              refine r_ishl1 C dX5_way_111 (by omega) ?_
                              refine r_iorN C dX5_way_112 ?_
                              refine r_istore C (i := 5) (lv' := [(5, vI (((rwi (st1 w (3, 0, 0) 0 0) (rwm (st1 w (3, 0, 0) 0 0) (w (3, 0, 0) 1).toNat (v).toNat k) a (rwo (st1 w (3, 0, 0) 0 0) (rwm (st1 w (3, 0, 0) 0 0) (w (3, 0, 0) 1).toNat (v).toNat k) (w (3, 0, 0) 1).toNat a) b ||| 2 ^ b : Nat) : Int))), (0, .ref (adr G (3, 0, 0))), (1, vI (v)), (2, vI (u)), (3, vI (((rwm (st1 w (3, 0, 0) 0 0) (w (3, 0, 0) 1).toNat (v).toNat k : Nat) : Int))), (4, vI (((k : Nat) : Int))), (6, vI (((a : Nat) : Int))), (7, vI (((b : Nat) : Int)))]) dX5_way_113 (by decide) rfl ?_
                              refine r_iinc C (k := 7) (lv' := [(7, vI (((b + 1 : Nat) : Int))), (5, vI (((rwi (st1 w (3, 0, 0) 0 0) (rwm (st1 w (3, 0, 0) 0 0) (w (3, 0, 0) 1).toNat (v).toNat k) a (rwo (st1 w (3, 0, 0) 0 0) (rwm (st1 w (3, 0, 0) 0 0) (w (3, 0, 0) 1).toNat (v).toNat k) (w (3, 0, 0) 1).toNat a) b ||| 2 ^ b : Nat) : Int))), (0, .ref (adr G (3, 0, 0))), (1, vI (v)), (2, vI (u)), (3, vI (((rwm (st1 w (3, 0, 0) 0 0) (w (3, 0, 0) 1).toNat (v).toNat k : Nat) : Int))), (4, vI (((k : Nat) : Int))), (6, vI (((a : Nat) : Int)))]) dX5_way_115 rfl (by decide) rfl ?_
                              refine r_goto C (tgt := 73) dX5_way_118 (by decide) ?_
                              have e_13 : (st1 w (3, 0, 0) (0) (0)) = (st1 w (3, 0, 0) (0) (0)) := by rfl
                              refine Wm.sub (lv' := [(0, .ref (adr G (3, 0, 0))), (1, vI (v)), (2, vI (u)), (3, vI (((rwm (st1 w (3, 0, 0) 0 0) (w (3, 0, 0) 1).toNat (v).toNat k : Nat) : Int))), (4, vI (((k : Nat) : Int))), (5, vI (((rwi (st1 w (3, 0, 0) 0 0) (rwm (st1 w (3, 0, 0) 0 0) (w (3, 0, 0) 1).toNat (v).toNat k) a (rwo (st1 w (3, 0, 0) 0 0) (rwm (st1 w (3, 0, 0) 0 0) (w (3, 0, 0) 1).toNat (v).toNat k) (w (3, 0, 0) 1).toNat a) b ||| 2 ^ b : Nat) : Int))), (6, vI (((a : Nat) : Int))), (7, vI (((b + 1 : Nat) : Int)))]) [2, 3, 4, 5, 6, 1, 7, 0] rfl ?_
                              refine Wm.mem (lv' := [(0, .ref (adr G (3, 0, 0))), (1, vI (v)), (2, vI (u)), (3, vI (((rwm (st1 w (3, 0, 0) 0 0) (w (3, 0, 0) 1).toNat (v).toNat k : Nat) : Int))), (4, vI (((k : Nat) : Int))), (5, vI (((rwi (st1 w (3, 0, 0) 0 0) (rwm (st1 w (3, 0, 0) 0 0) (w (3, 0, 0) 1).toNat (v).toNat k) a (rwo (st1 w (3, 0, 0) 0 0) (rwm (st1 w (3, 0, 0) 0 0) (w (3, 0, 0) 1).toNat (v).toNat k) (w (3, 0, 0) 1).toNat a) (b + 1) : Nat) : Int))), (6, vI (((a : Nat) : Int))), (7, vI ((((b + 1) : Nat) : Int)))]) e_13 (by (simp only [rwi]; first | (rw [if_neg (fun q => absurd q.1 (by assumption))]; done) | (rw [if_neg (fun q => absurd q.2 (by assumption))]; done) | (rw [if_pos ⟨by assumption, by assumption⟩]; done))) ?_
                              exact ih73 ((b + 1)) (by omega) (by omega) (e_13 ▸ hr)
                    have e_14 : (st1 w (3, 0, 0) (0) (0)) = (st1 w (3, 0, 0) (0) (0)) := by rfl
                    refine Wm.sub (lv' := [(0, .ref (adr G (3, 0, 0))), (1, vI (v)), (2, vI (u)), (3, vI (((rwm (st1 w (3, 0, 0) 0 0) (w (3, 0, 0) 1).toNat (v).toNat k : Nat) : Int))), (4, vI (((k : Nat) : Int))), (5, vI (((rwo (st1 w (3, 0, 0) 0 0) (rwm (st1 w (3, 0, 0) 0 0) (w (3, 0, 0) 1).toNat (v).toNat k) (w (3, 0, 0) 1).toNat a : Nat) : Int))), (6, vI (((a : Nat) : Int))), (7, vI (0))]) [1, 2, 3, 4, 5, 6, 7, 0] rfl ?_
                    refine Wm.mem (lv' := [(0, .ref (adr G (3, 0, 0))), (1, vI (v)), (2, vI (u)), (3, vI (((rwm (st1 w (3, 0, 0) 0 0) (w (3, 0, 0) 1).toNat (v).toNat k : Nat) : Int))), (4, vI (((k : Nat) : Int))), (5, vI (((rwi (st1 w (3, 0, 0) 0 0) (rwm (st1 w (3, 0, 0) 0 0) (w (3, 0, 0) 1).toNat (v).toNat k) a (rwo (st1 w (3, 0, 0) 0 0) (rwm (st1 w (3, 0, 0) 0 0) (w (3, 0, 0) 1).toNat (v).toNat k) (w (3, 0, 0) 1).toNat a) 0 : Nat) : Int))), (6, vI (((a : Nat) : Int))), (7, vI (((0 : Nat) : Int)))]) e_14 (by rfl) ?_
                    exact loop_73 _ (0) (by omega) (Nat.lt_succ_self _) (e_14 ▸ hr)
              have e_15 : (st1 w (3, 0, 0) (0) (0)) = (st1 w (3, 0, 0) (0) (0)) := by rfl
              refine Wm.sub (lv' := [(0, .ref (adr G (3, 0, 0))), (1, vI (v)), (2, vI (u)), (3, vI (((rwm (st1 w (3, 0, 0) 0 0) (w (3, 0, 0) 1).toNat (v).toNat k : Nat) : Int))), (4, vI (((k : Nat) : Int))), (5, vI (((rwm (st1 w (3, 0, 0) 0 0) (w (3, 0, 0) 1).toNat (v).toNat k : Nat) : Int))), (6, vI (0))]) [2, 3, 4, 5, 6, 1, 0] rfl ?_
              refine Wm.mem (lv' := [(0, .ref (adr G (3, 0, 0))), (1, vI (v)), (2, vI (u)), (3, vI (((rwm (st1 w (3, 0, 0) 0 0) (w (3, 0, 0) 1).toNat (v).toNat k : Nat) : Int))), (4, vI (((k : Nat) : Int))), (5, vI (((rwo (st1 w (3, 0, 0) 0 0) (rwm (st1 w (3, 0, 0) 0 0) (w (3, 0, 0) 1).toNat (v).toNat k) (w (3, 0, 0) 1).toNat 0 : Nat) : Int))), (6, vI (((0 : Nat) : Int)))]) e_15 (by rfl) ?_
              exact loop_61 _ (0) (by omega) (Nat.lt_succ_self _) (e_15 ▸ hr)
            · skip
              refine r_iload C (k := 4) dX5_way_52 rfl ?_
              exact r_iret C dX5_way_54 (by rw [if_pos ⟨by assumption, by assumption⟩, ← hq, wfd_e (by omega) (by assumption)]) (by rw [if_pos ⟨by assumption, by assumption⟩]; rfl)
      have e_16 : (st1 w (3, 0, 0) (0) (0)) = (st1 w (3, 0, 0) (0) (0)) := by rfl
      refine Wm.sub (lv' := [(0, .ref (adr G (3, 0, 0))), (1, vI (v)), (2, vI (u)), (3, vI (((2 ^ (v).toNat : Nat) : Int))), (4, vI (0))]) [2, 3, 4, 1, 0] rfl ?_
      refine Wm.mem (lv' := [(0, .ref (adr G (3, 0, 0))), (1, vI (v)), (2, vI (u)), (3, vI (((rwm (st1 w (3, 0, 0) 0 0) (w (3, 0, 0) 1).toNat (v).toNat 0 : Nat) : Int))), (4, vI (((0 : Nat) : Int)))]) e_16 (by rfl) ?_
      exact loop_34 _ (0) (by omega) (by rfl) (Nat.lt_succ_self _) (e_16 ▸ hr)
    · skip
      refine r_aload_n C (k := 0) dX5_way_21 rfl ?_
      refine r_iconst C dX5_way_22 ?_
      refine r_callV C (w' := (st1 (st1 w (3, 0, 0) (0) (0)) (3, 0, 0) 0 (1))) [vI (1)] 1 (c_X5_no hG (by first | assumption | omega | exact hr _ _ | exact hr0 _ _ | exact hrI _ _ | exact ⟨by omega, by omega⟩ | exact bI_inR _ | (simp [st1] <;> omega) | exact rowR.so (by assumption) (by simp))) gX5_way_X5_no rfl rfl rfl (by decide +kernel) (Nat.le_of_ble_eq_true rfl) (Nat.le_of_ble_eq_true rfl) ⟨(Nat.zero_le _), (Nat.zero_le _)⟩ (ok_of hG (show kd (3, 0, 0) = _ from rfl) (by decide) (show (3 : Nat) ≤ 6 by decide)) (show kd (3, 0, 0) = _ from rfl) (by decide) rfl rfl rfl (Nat.le_of_ble_eq_true rfl) (st' := [vI ((0))]) rfl dX5_way_23 (fun hr => ?_)
      exact r_iret C dX5_way_26 (by (first | rfl | ((repeat' split) <;> first | rfl | contradiction | (exfalso; omega)))) (by (first | rfl | ((repeat' split) <;> first | rfl | contradiction | (exfalso; omega))))

set_option maxRecDepth 100000 in
set_option maxHeartbeats 1500000 in
theorem c_X5_known {l : Launch} {G : Gt} (hG : Gok G)  {w : Mm} (hvb : 0 ≤ w (3, 0, 0) 1 ∧ w (3, 0, 0) 1 ≤ 8) (hpb : 0 ≤ w (3, 0, 0) 2 ∧ w (3, 0, 0) 2 ≤ 12) : Con l G yX5_known wsX5_known ({ frames := 2, cells := 0, slots := 0, locals := 45 } : Room) w [.ref (adr G (3, 0, 0))] (some (.double (dpk (w (3, 0, 0) 1 * w (3, 0, 0) 2) (rprs w 4)))) (th0 w) 0 0 := by
  refine Con.head (cc := cX5_known) (nL := 1) (ret := (some .double)) hG (by decide +kernel) rfl (Nat.le_of_ble_eq_true rfl) ?_
  intro B A hBl C hr
  have hr0 := hr
  have hrI := hr
  have hinX5 : ∀ w ∈ u_ws RX5 TX5 12, w ∈ wsX5_known := by decide +kernel
  have hm := mul_b hvb hpb
  have hs : 0 ≤ rprs (st1 w (3, 0, 0) 0 0) 4 ∧ rprs (st1 w (3, 0, 0) 0 0) 4 ≤ 96 := rprs_96 (w := (st1 w (3, 0, 0) 0 0)) (u := 4) hvb hpb
  refine r_aload_n C (k := 0) dX5_known_0 rfl ?_
  refine r_iconst C dX5_known_1 ?_
  refine r_putf C 0 hr ⟨by decide, by decide⟩ (ok_of hG (show kd (3, 0, 0) = _ from rfl) (by decide) (show (3 : Nat) ≤ 6 by decide)) (show kd (3, 0, 0) = _ from rfl) (by decide) rfl hinX5 tyX5_ok nmX5 (by decide) (by decide +kernel) rfl rfl (ty := .int) (by decide +kernel) rfl rfl rfl (Nat.le_of_ble_eq_true rfl) dX5_known_2 (fun hr => ?_)
  refine r_aload_n C (k := 0) dX5_known_5 rfl ?_
  refine r_getf C 1 (ok_of hG (show kd (3, 0, 0) = _ from rfl) (by decide) (show (3 : Nat) ≤ 6 by decide)) (show kd (3, 0, 0) = _ from rfl) (by decide) rfl hinX5 (by decide) (by decide +kernel) rfl rfl dX5_known_6 ?_
  refine Wm.top (z' := w (3, 0, 0) (1)) (by simp [st1, cpy]) ?_
  refine r_aload_n C (k := 0) dX5_known_9 rfl ?_
  refine r_getf C 2 (ok_of hG (show kd (3, 0, 0) = _ from rfl) (by decide) (show (3 : Nat) ≤ 6 by decide)) (show kd (3, 0, 0) = _ from rfl) (by decide) rfl hinX5 (by decide) (by decide +kernel) rfl rfl dX5_known_10 ?_
  refine Wm.top (z' := w (3, 0, 0) (2)) (by simp [st1, cpy]) ?_
  refine r_imul C dX5_known_13 ?_
  refine r_if_ne C (tgt := 21) dX5_known_14 (by decide) (by first | exact hr _ _ | exact hr0 _ _ | exact hrI _ _ | assumption | exact ⟨by omega, by omega⟩) (fun h_1 => ?_) (fun h_1 => ?_)
  · skip
    refine r_aload_n C (k := 0) dX5_known_21 rfl ?_
    refine r_getf C 10 (v := .ref (adr G (4, 0, 0))) (ok_of hG (show kd (3, 0, 0) = _ from rfl) (by decide) (show (3 : Nat) ≤ 6 by decide)) (show kd (3, 0, 0) = _ from rfl) (by decide) rfl hinX5 (by decide) (by decide +kernel) rfl rfl dX5_known_22 ?_
    refine r_callV C (w' := (st1 w (3, 0, 0) (0) (0))) [] 0 (c_X4_pairs hG (Or.inl rfl) (by exact hvb) (by exact hpb)) gX5_known_X4_pairs rfl rfl rfl (by decide +kernel) (Nat.le_of_ble_eq_true rfl) (Nat.le_of_ble_eq_true rfl) ⟨(Nat.zero_le _), (Nat.zero_le _)⟩ (ok_of hG (show kd (4, 0, 0) = _ from rfl) (by decide) (show (4 : Nat) ≤ 6 by decide)) (show kd (4, 0, 0) = _ from rfl) (by decide) rfl rfl rfl (Nat.le_of_ble_eq_true rfl) (st' := [vI ((rprs (st1 w (3, 0, 0) (0) (0)) 4))]) rfl dX5_known_25 (fun hr => ?_)
    refine r_i2d C dX5_known_28 ?_
    refine r_aload_n C (k := 0) dX5_known_29 rfl ?_
    refine r_getf C 1 (ok_of hG (show kd (3, 0, 0) = _ from rfl) (by decide) (show (3 : Nat) ≤ 6 by decide)) (show kd (3, 0, 0) = _ from rfl) (by decide) rfl hinX5 (by decide) (by decide +kernel) rfl rfl dX5_known_30 ?_
    refine Wm.top (z' := w (3, 0, 0) (1)) (by simp [st1, cpy]) ?_
    refine r_aload_n C (k := 0) dX5_known_33 rfl ?_
    refine r_getf C 2 (ok_of hG (show kd (3, 0, 0) = _ from rfl) (by decide) (show (3 : Nat) ≤ 6 by decide)) (show kd (3, 0, 0) = _ from rfl) (by decide) rfl hinX5 (by decide) (by decide +kernel) rfl rfl dX5_known_34 ?_
    refine Wm.top (z' := w (3, 0, 0) (2)) (by simp [st1, cpy]) ?_
    refine r_imul C dX5_known_37 ?_
    refine r_i2d C dX5_known_38 ?_
    refine r_ddiv C dX5_known_39 (by exact dq hs ⟨by omega, by omega⟩) ?_
    exact r_dret C dX5_known_40 (by (unfold dpk; first | (rw [if_pos (by assumption)]; done) | (rw [if_neg (by assumption)]; rfl))) (by rfl)
  · skip
    refine r_dconst0 C dX5_known_17 ?_
    refine r_goto C (tgt := 40) dX5_known_18 (by decide) ?_
    exact r_dret C dX5_known_40 (by (unfold dpk; first | (rw [if_pos (by assumption)]; done) | (rw [if_neg (by assumption)]; rfl))) (by rfl)

set_option maxRecDepth 100000 in
set_option maxHeartbeats 1500000 in
theorem c_X5_digest {l : Launch} {G : Gt} (hG : Gok G)  {w : Mm} {N D X : Int} (hvb : 0 ≤ w (3, 0, 0) 1 ∧ w (3, 0, 0) 1 ≤ 8) (hpb : 0 ≤ w (3, 0, 0) 2 ∧ w (3, 0, 0) 2 ≤ 12) (hS : SI w 4 N D X) (hM : MI w) (hN : N ≤ 1000000) (hrw : inR (rcw w (w (3, 0, 0) 1).toNat)) (hrp : inR (rprs w 4)) (h7 : ¬ okk G (7, 0, 0)) (h71 : ¬ okk G (7, 0, 1)) : Con l G yX5_digest wsX5_digest ({ frames := 3, cells := 88, slots := 864, locals := 69 } : Room) w [.ref (adr G (3, 0, 0))] (some (.long (rdgX (st1 w (3, 0, 0) 0 0) w))) (th0 w) 88 864 := by
  refine Con.head (cc := cX5_digest) (nL := 5) (ret := (some .long)) hG (by decide +kernel) rfl (Nat.le_of_ble_eq_true rfl) ?_
  intro B A hBl C hr
  have hr0 := hr
  have hrI := hr
  have hinX4 : ∀ w ∈ u_ws RX4 TX4 16, w ∈ wsX5_digest := by decide +kernel
  have hinX5 : ∀ w ∈ u_ws RX5 TX5 12, w ∈ wsX5_digest := by decide +kernel
  have hvb9 := hvb
  have hpb9 := hpb
  obtain ⟨y1, y2⟩ := hvb
  obtain ⟨z1, z2⟩ := hpb
  have hS1 := SI_th0 hS
  have hM1 := MI_th0 hM
  have hqr := hS.2.2.2.2.2.1
  have hs2 := hS.2.2.1
  have hs0 := hS.1
  have hrw : inR (rcw (th0 w) (th0 w (3, 0, 0) 1).toNat) := (show rcw (th0 w) (th0 w (3, 0, 0) 1).toNat = rcw w (w (3, 0, 0) 1).toNat from rfl) ▸ hrw
  have hrp : inR (rprs (th0 w) 4) := (show rprs (th0 w) 4 = rprs w 4 from rfl) ▸ hrp
  have hrW : rng (st1 w (3, 0, 0) 0 0) := rng_st hr ⟨by decide, by decide⟩
  have hfc : ∀ a, inR (rcnt (st1 w (3, 0, 0) 0 0) a) := fun a => rcnt_R hrW hrw hrp hvb9
  have hfv : ∀ (v : Int) a, inR (rvtold (st1 w (3, 0, 0) 0 0) v a) := fun v a => rvtold_R hrW hpb9
  refine r_aload_n C (k := 0) dX5_digest_0 rfl ?_
  refine r_iconst C dX5_digest_1 ?_
  refine r_putf C 0 hr ⟨by decide, by decide⟩ (ok_of hG (show kd (3, 0, 0) = _ from rfl) (by decide) (show (3 : Nat) ≤ 6 by decide)) (show kd (3, 0, 0) = _ from rfl) (by decide) rfl hinX5 tyX5_ok nmX5 (by decide) (by decide +kernel) rfl rfl (ty := .int) (by decide +kernel) rfl rfl rfl (Nat.le_of_ble_eq_true rfl) dX5_digest_2 (fun hr => ?_)
  refine r_ldc2 C (v := 769) (by decide +kernel) dX5_digest_5 ?_
  refine r_lstore_n C (i := 1) (lv' := [(1, .long (769)), (0, .ref (adr G (3, 0, 0)))]) dX5_digest_8 rfl (by decide) rfl ?_
  refine r_iconst C dX5_digest_9 ?_
  refine r_istore_n C (i := 3) (lv' := [(3, vI (0)), (1, .long (769)), (0, .ref (adr G (3, 0, 0)))]) dX5_digest_10 rfl (by decide) rfl ?_
  have loop_11 : ∀ (nf : Nat) (i : Nat), (i ≤ 8) → 8 - i < nf → rng (st1 w (3, 0, 0) (0) (0)) → Wm B 5 G A (Qe B G A (some (.long (rdgX (st1 w (3, 0, 0) 0 0) w))) (th0 w) 88 864) (st1 w (3, 0, 0) (0) (0)) (i) (8 * i) 11 [(0, .ref (adr G (3, 0, 0))), (1, .long ((dg 769 (fun a => rcnt (st1 w (3, 0, 0) 0 0) a) i))), (3, vI (((i : Nat) : Int)))] [] := by
    intro n11
    induction n11 with
    | zero => intro i hi hm; exact absurd hm (Nat.not_lt_zero _)
    | succ n11 ih11 =>
      intro i hi hm hr
      have hrI := hr
      refine r_iload_n C (k := 2) dX5_digest_11 rfl ?_
      refine r_bipush C dX5_digest_12 (by decide) ?_
      refine r_icmp_ge C (tgt := 36) dX5_digest_14 (by decide) (by first | exact hr _ _ | exact hr0 _ _ | exact hfc _ | exact hfv _ _ | assumption | exact ⟨by omega, by omega⟩) ⟨by decide, by decide⟩ (fun h_1 => ?_) (fun h_1 => ?_)
      · skip
        refine r_iconst C dX5_digest_36 ?_
        refine r_istore_n C (i := 3) (lv' := [(3, vI (0)), (0, .ref (adr G (3, 0, 0))), (1, .long ((dg 769 (fun a => rcnt (st1 w (3, 0, 0) 0 0) a) i)))]) dX5_digest_37 rfl (by decide) rfl ?_
        have loop_38 : ∀ (nf : Nat) (j : Nat), (j ≤ (w (3, 0, 0) 2).toNat) → (w (3, 0, 0) 2).toNat - j < nf → rng (st1 w (3, 0, 0) (0) (0)) → Wm B 5 G A (Qe B G A (some (.long (rdgX (st1 w (3, 0, 0) 0 0) w))) (th0 w) 88 864) (st1 w (3, 0, 0) (0) (0)) (8) (64) 38 [(0, .ref (adr G (3, 0, 0))), (1, .long ((dg (dg 769 (fun a => rcnt (st1 w (3, 0, 0) 0 0) a) 8) (fun p => w (3, 0, 6) p) j))), (3, vI (((j : Nat) : Int)))] [] := by
          intro n38
          induction n38 with
          | zero => intro j hj hm; exact absurd hm (Nat.not_lt_zero _)
          | succ n38 ih38 =>
            intro j hj hm hr
            have hrI := hr
            refine r_iload_n C (k := 2) dX5_digest_38 rfl ?_
            refine r_aload_n C (k := 0) dX5_digest_39 rfl ?_
            refine r_getf C 2 (ok_of hG (show kd (3, 0, 0) = _ from rfl) (by decide) (show (3 : Nat) ≤ 6 by decide)) (show kd (3, 0, 0) = _ from rfl) (by decide) rfl hinX5 (by decide) (by decide +kernel) rfl rfl dX5_digest_40 ?_
            refine Wm.top (z' := w (3, 0, 0) (2)) (by simp [st1, cpy]) ?_
            refine r_icmp_ge C (tgt := 66) dX5_digest_43 (by decide) (by first | exact hr _ _ | exact hr0 _ _ | exact hfc _ | exact hfv _ _ | assumption | exact ⟨by omega, by omega⟩) (by first | exact hr _ _ | exact hr0 _ _ | exact hfc _ | exact hfv _ _ | assumption | exact ⟨by omega, by omega⟩) (fun h_2 => ?_) (fun h_2 => ?_)
            · skip
              refine r_iconst C dX5_digest_66 ?_
              refine r_istore_n C (i := 3) (lv' := [(3, vI (0)), (0, .ref (adr G (3, 0, 0))), (1, .long ((dg (dg 769 (fun a => rcnt (st1 w (3, 0, 0) 0 0) a) 8) (fun p => w (3, 0, 6) p) j)))]) dX5_digest_67 rfl (by decide) rfl ?_
              have loop_68 : ∀ (nf : Nat) (v : Nat), (v ≤ (w (3, 0, 0) 1).toNat) → (w (3, 0, 0) 1).toNat - v < nf → rng (st1 w (3, 0, 0) (0) (0)) → Wm B 5 G A (Qe B G A (some (.long (rdgX (st1 w (3, 0, 0) 0 0) w))) (th0 w) 88 864) (st1 w (3, 0, 0) (0) (0)) (8 + 10 * v) (64 + 100 * v) 68 [(0, .ref (adr G (3, 0, 0))), (1, .long ((rdgL (st1 w (3, 0, 0) 0 0) w (dg (dg 769 (fun a => rcnt (st1 w (3, 0, 0) 0 0) a) 8) (fun p => w (3, 0, 6) p) (w (3, 0, 0) 2).toNat) v))), (3, vI (((v : Nat) : Int)))] [] := by
                intro n68
                induction n68 with
                | zero => intro v hv hm; exact absurd hm (Nat.not_lt_zero _)
                | succ n68 ih68 =>
                  intro v hv hm hr
                  have hrI := hr
                  refine r_iload_n C (k := 2) dX5_digest_68 rfl ?_
                  refine r_aload_n C (k := 0) dX5_digest_69 rfl ?_
                  refine r_getf C 1 (ok_of hG (show kd (3, 0, 0) = _ from rfl) (by decide) (show (3 : Nat) ≤ 6 by decide)) (show kd (3, 0, 0) = _ from rfl) (by decide) rfl hinX5 (by decide) (by decide +kernel) rfl rfl dX5_digest_70 ?_
                  refine Wm.top (z' := w (3, 0, 0) (1)) (by simp [st1, cpy]) ?_
                  refine r_icmp_ge C (tgt := 215) dX5_digest_73 (by decide) (by first | exact hr _ _ | exact hr0 _ _ | exact hfc _ | exact hfv _ _ | assumption | exact ⟨by omega, by omega⟩) (by first | exact hr _ _ | exact hr0 _ _ | exact hfc _ | exact hfv _ _ | assumption | exact ⟨by omega, by omega⟩) (fun h_3 => ?_) (fun h_3 => ?_)
                  · skip
                    refine r_lload_n C (k := 1) dX5_digest_215 rfl ?_
                    refine Wm.widen (c2 := 88) (s2 := 864) (by omega) (by omega) ?_
                    exact r_lret C dX5_digest_216 (by (obtain rfl : v = (w (3, 0, 0) 1).toNat := (by omega)); (unfold rdgX; rfl)) (by rfl)
                  · skip
                    refine r_iconst C dX5_digest_76 ?_
                    refine r_istore C (i := 4) (lv' := [(4, vI (0)), (0, .ref (adr G (3, 0, 0))), (1, .long ((rdgL (st1 w (3, 0, 0) 0 0) w (dg (dg 769 (fun a => rcnt (st1 w (3, 0, 0) 0 0) a) 8) (fun p => w (3, 0, 6) p) (w (3, 0, 0) 2).toNat) v))), (3, vI (((v : Nat) : Int)))]) dX5_digest_77 (by decide) rfl ?_
                    have loop_79 : ∀ (nf : Nat) (i2 : Nat), (i2 ≤ 10) → 10 - i2 < nf → rng (st1 w (3, 0, 0) (0) (0)) → Wm B 5 G A (Qe B G A (some (.long (rdgX (st1 w (3, 0, 0) 0 0) w))) (th0 w) 88 864) (st1 w (3, 0, 0) (0) (0)) (8 + 10 * v + i2) (64 + 100 * v + 10 * i2) 79 [(0, .ref (adr G (3, 0, 0))), (1, .long ((dg (rdgL (st1 w (3, 0, 0) 0 0) w (dg (dg 769 (fun a => rcnt (st1 w (3, 0, 0) 0 0) a) 8) (fun p => w (3, 0, 6) p) (w (3, 0, 0) 2).toNat) v) (fun a => rvtold (st1 w (3, 0, 0) 0 0) ((v : Nat) : Int) a) i2))), (3, vI (((v : Nat) : Int))), (4, vI (((i2 : Nat) : Int)))] [] := by
                      intro n79
                      induction n79 with
                      | zero => intro i2 hi2 hm; exact absurd hm (Nat.not_lt_zero _)
                      | succ n79 ih79 =>
                        intro i2 hi2 hm hr
                        have hrI := hr
                        have q4 := hqr v (by omega)
                        have hll := rlast_le (st1 w (3, 0, 0) 0 0) 4 ((v : Nat) : Int) ((st1 w (3, 0, 0) 0 0) (4, 0, 0) 2).toNat
                        have e42 : (st1 w (3, 0, 0) 0 0) (4, 0, 0) 2 = w (4, 0, 0) 2 := rfl
                        refine r_iload C (k := 3) dX5_digest_79 rfl ?_
                        refine r_bipush C dX5_digest_81 (by decide) ?_
                        refine r_icmp_ge C (tgt := 107) dX5_digest_83 (by decide) (by first | exact hr _ _ | exact hr0 _ _ | exact hfc _ | exact hfv _ _ | assumption | exact ⟨by omega, by omega⟩) ⟨by decide, by decide⟩ (fun h_4 => ?_) (fun h_4 => ?_)
                        · skip
                          refine r_lload_n C (k := 1) dX5_digest_107 rfl ?_
                          refine r_ldc2 C (v := 31) (by decide +kernel) dX5_digest_108 ?_
                          refine r_lmul C dX5_digest_111 ?_
                          refine r_aload_n C (k := 0) dX5_digest_112 rfl ?_
                          refine r_getf C 10 (v := .ref (adr G (4, 0, 0))) (ok_of hG (show kd (3, 0, 0) = _ from rfl) (by decide) (show (3 : Nat) ≤ 6 by decide)) (show kd (3, 0, 0) = _ from rfl) (by decide) rfl hinX5 (by decide) (by decide +kernel) rfl rfl dX5_digest_113 ?_
                          refine r_iload_n C (k := 2) dX5_digest_116 rfl ?_
                          refine r_callV C (w' := (st1 w (3, 0, 0) (0) (0))) [vI (((v : Nat) : Int))] 1 (c_X4_lasting hG (Or.inl rfl) (by exact hs2) (by exact ⟨by omega, by omega⟩)) gX5_digest_X4_lasting rfl rfl rfl (by decide +kernel) (Nat.le_of_ble_eq_true rfl) (Nat.le_of_ble_eq_true rfl) ⟨(by show _ ≤ 88; omega), (by show _ ≤ 864; omega)⟩ (ok_of hG (show kd (4, 0, 0) = _ from rfl) (by decide) (show (4 : Nat) ≤ 6 by decide)) (show kd (4, 0, 0) = _ from rfl) (by decide) rfl rfl rfl (Nat.le_of_ble_eq_true rfl) (st' := [vI ((((rlast (st1 w (3, 0, 0) (0) (0)) 4 (((v : Nat) : Int)) ((st1 w (3, 0, 0) (0) (0)) (4, 0, 0) 2).toNat : Nat) : Int))), .long (((dg (rdgL (st1 w (3, 0, 0) 0 0) w (dg (dg 769 (fun a => rcnt (st1 w (3, 0, 0) 0 0) a) 8) (fun p => w (3, 0, 6) p) (w (3, 0, 0) 2).toNat) v) (fun a => rvtold (st1 w (3, 0, 0) 0 0) ((v : Nat) : Int) a) i2) * 31))]) rfl dX5_digest_117 (fun hr => ?_)
                          refine r_i2l C dX5_digest_120 (by first | exact hr _ _ | exact hr0 _ _ | exact hfc _ | exact hfv _ _ | assumption | exact ⟨by omega, by omega⟩) ?_
                          refine r_ladd C dX5_digest_121 ?_
                          refine r_lstore_n C (i := 1) (lv' := [(1, .long ((((dg (rdgL (st1 w (3, 0, 0) 0 0) w (dg (dg 769 (fun a => rcnt (st1 w (3, 0, 0) 0 0) a) 8) (fun p => w (3, 0, 6) p) (w (3, 0, 0) 2).toNat) v) (fun a => rvtold (st1 w (3, 0, 0) 0 0) ((v : Nat) : Int) a) i2) * 31) + Int64.ofInt ((((rlast (st1 w (3, 0, 0) (0) (0)) 4 (((v : Nat) : Int)) ((st1 w (3, 0, 0) (0) (0)) (4, 0, 0) 2).toNat : Nat) : Int)))))), (0, .ref (adr G (3, 0, 0))), (3, vI (((v : Nat) : Int))), (4, vI (((i2 : Nat) : Int)))]) dX5_digest_122 rfl (by decide) rfl ?_
                          refine r_iconst C dX5_digest_123 ?_
                          refine r_istore C (i := 4) (lv' := [(4, vI (0)), (1, .long ((((dg (rdgL (st1 w (3, 0, 0) 0 0) w (dg (dg 769 (fun a => rcnt (st1 w (3, 0, 0) 0 0) a) 8) (fun p => w (3, 0, 6) p) (w (3, 0, 0) 2).toNat) v) (fun a => rvtold (st1 w (3, 0, 0) 0 0) ((v : Nat) : Int) a) i2) * 31) + Int64.ofInt ((((rlast (st1 w (3, 0, 0) (0) (0)) 4 (((v : Nat) : Int)) ((st1 w (3, 0, 0) (0) (0)) (4, 0, 0) 2).toNat : Nat) : Int)))))), (0, .ref (adr G (3, 0, 0))), (3, vI (((v : Nat) : Int)))]) dX5_digest_124 (by decide) rfl ?_
                          have loop_126 : ∀ (nf : Nat) (j2 : Nat), (j2 ≤ (w (4, 0, 4) v).toNat) → (w (4, 0, 4) v).toNat - j2 < nf → rng (st1 w (3, 0, 0) (0) (0)) → Wm B 5 G A (Qe B G A (some (.long (rdgX (st1 w (3, 0, 0) 0 0) w))) (th0 w) 88 864) (st1 w (3, 0, 0) (0) (0)) (8 + 10 * v + 10) (64 + 100 * v + 100) 126 [(0, .ref (adr G (3, 0, 0))), (1, .long ((dg (dg (dg (rdgL (st1 w (3, 0, 0) 0 0) w (dg (dg 769 (fun a => rcnt (st1 w (3, 0, 0) 0 0) a) 8) (fun p => w (3, 0, 6) p) (w (3, 0, 0) 2).toNat) v) (fun a => rvtold (st1 w (3, 0, 0) 0 0) ((v : Nat) : Int) a) 10) (fun _ => ((rlast (st1 w (3, 0, 0) 0 0) 4 ((v : Nat) : Int) (w (4, 0, 0) 2).toNat : Nat) : Int)) 1) (fun k => w (4, 0, 5) (5 * v + k)) j2))), (3, vI (((v : Nat) : Int))), (4, vI (((j2 : Nat) : Int)))] [] := by
                            intro n126
                            induction n126 with
                            | zero => intro j2 hj2 hm; exact absurd hm (Nat.not_lt_zero _)
                            | succ n126 ih126 =>
                              intro j2 hj2 hm hr
                              have hrI := hr
                              refine r_iload C (k := 3) dX5_digest_126 rfl ?_
                              refine r_aload_n C (k := 0) dX5_digest_128 rfl ?_
                              refine r_getf C 10 (v := .ref (adr G (4, 0, 0))) (ok_of hG (show kd (3, 0, 0) = _ from rfl) (by decide) (show (3 : Nat) ≤ 6 by decide)) (show kd (3, 0, 0) = _ from rfl) (by decide) rfl hinX5 (by decide) (by decide +kernel) rfl rfl dX5_digest_129 ?_
                              refine r_getfN (host := "DrumTalkModel") C 6 (v := .ref (adr G (4, 0, 4))) (ok_of hG (show kd (4, 0, 0) = _ from rfl) (by decide) (show (4 : Nat) ≤ 6 by decide)) (show kd (4, 0, 0) = _ from rfl) (by decide) rfl hinX4 (by decide) (by decide +kernel) rfl rfl dX5_digest_132 ?_
                              refine r_iload_n C (k := 2) dX5_digest_135 rfl ?_
                              refine r_iald C (v) (ok_of hG (show kd (4, 0, 4) = _ from rfl) (by decide) (show (4 : Nat) ≤ 6 by decide)) (show kd (4, 0, 4) = _ from rfl) rfl (by first | omega | assumption) (by decide) dX5_digest_136 ?_
                              refine Wm.top (z' := w (4, 0, 4) (v)) (by simp [st1, cpy]) ?_
                              refine r_icmp_ge C (tgt := 168) dX5_digest_137 (by decide) (by first | exact hr _ _ | exact hr0 _ _ | exact hfc _ | exact hfv _ _ | assumption | exact ⟨by omega, by omega⟩) (by first | exact hr _ _ | exact hr0 _ _ | exact hfc _ | exact hfv _ _ | assumption | exact ⟨by omega, by omega⟩) (fun h_5 => ?_) (fun h_5 => ?_)
                              · skip
                                refine r_iconst C dX5_digest_168 ?_
                                refine r_istore C (i := 4) (lv' := [(4, vI (0)), (0, .ref (adr G (3, 0, 0))), (1, .long ((dg (dg (dg (rdgL (st1 w (3, 0, 0) 0 0) w (dg (dg 769 (fun a => rcnt (st1 w (3, 0, 0) 0 0) a) 8) (fun p => w (3, 0, 6) p) (w (3, 0, 0) 2).toNat) v) (fun a => rvtold (st1 w (3, 0, 0) 0 0) ((v : Nat) : Int) a) 10) (fun _ => ((rlast (st1 w (3, 0, 0) 0 0) 4 ((v : Nat) : Int) (w (4, 0, 0) 2).toNat : Nat) : Int)) 1) (fun k => w (4, 0, 5) (5 * v + k)) j2))), (3, vI (((v : Nat) : Int)))]) dX5_digest_169 (by decide) rfl ?_
                                have loop_171 : ∀ (nf : Nat) (q : Nat), (q ≤ (w (3, 0, 0) 2).toNat) → (w (3, 0, 0) 2).toNat - q < nf → rng (st1 w (3, 0, 0) (0) (0)) → Wm B 5 G A (Qe B G A (some (.long (rdgX (st1 w (3, 0, 0) 0 0) w))) (th0 w) 88 864) (st1 w (3, 0, 0) (0) (0)) (8 + 10 * v + 10) (64 + 100 * v + 100) 171 [(0, .ref (adr G (3, 0, 0))), (1, .long ((dg (dg (dg (dg (rdgL (st1 w (3, 0, 0) 0 0) w (dg (dg 769 (fun a => rcnt (st1 w (3, 0, 0) 0 0) a) 8) (fun p => w (3, 0, 6) p) (w (3, 0, 0) 2).toNat) v) (fun a => rvtold (st1 w (3, 0, 0) 0 0) ((v : Nat) : Int) a) 10) (fun _ => ((rlast (st1 w (3, 0, 0) 0 0) 4 ((v : Nat) : Int) (w (4, 0, 0) 2).toNat : Nat) : Int)) 1) (fun k => w (4, 0, 5) (5 * v + k)) (w (4, 0, 4) v).toNat) (fun p => w (4, 0, 6) (12 * v + p)) q))), (3, vI (((v : Nat) : Int))), (4, vI (((q : Nat) : Int)))] [] := by
                                  intro n171
                                  induction n171 with
                                  | zero => intro q hq hm; exact absurd hm (Nat.not_lt_zero _)
                                  | succ n171 ih171 =>
                                    intro q hq hm hr
                                    have hrI := hr
                                    refine r_iload C (k := 3) dX5_digest_171 rfl ?_
                                    refine r_aload_n C (k := 0) dX5_digest_173 rfl ?_
                                    refine r_getf C 2 (ok_of hG (show kd (3, 0, 0) = _ from rfl) (by decide) (show (3 : Nat) ≤ 6 by decide)) (show kd (3, 0, 0) = _ from rfl) (by decide) rfl hinX5 (by decide) (by decide +kernel) rfl rfl dX5_digest_174 ?_
                                    refine Wm.top (z' := w (3, 0, 0) (2)) (by simp [st1, cpy]) ?_
                                    refine r_icmp_ge C (tgt := 209) dX5_digest_177 (by decide) (by first | exact hr _ _ | exact hr0 _ _ | exact hfc _ | exact hfv _ _ | assumption | exact ⟨by omega, by omega⟩) (by first | exact hr _ _ | exact hr0 _ _ | exact hfc _ | exact hfv _ _ | assumption | exact ⟨by omega, by omega⟩) (fun h_6 => ?_) (fun h_6 => ?_)
                                    · skip
                                      refine r_iinc C (k := 2) (lv' := [(3, vI (((v + 1 : Nat) : Int))), (0, .ref (adr G (3, 0, 0))), (1, .long ((dg (dg (dg (dg (rdgL (st1 w (3, 0, 0) 0 0) w (dg (dg 769 (fun a => rcnt (st1 w (3, 0, 0) 0 0) a) 8) (fun p => w (3, 0, 6) p) (w (3, 0, 0) 2).toNat) v) (fun a => rvtold (st1 w (3, 0, 0) 0 0) ((v : Nat) : Int) a) 10) (fun _ => ((rlast (st1 w (3, 0, 0) 0 0) 4 ((v : Nat) : Int) (w (4, 0, 0) 2).toNat : Nat) : Int)) 1) (fun k => w (4, 0, 5) (5 * v + k)) (w (4, 0, 4) v).toNat) (fun p => w (4, 0, 6) (12 * v + p)) q))), (4, vI (((q : Nat) : Int)))]) dX5_digest_209 rfl (by decide) rfl ?_
                                      refine r_goto C (tgt := 68) dX5_digest_212 (by decide) ?_
                                      have e_7 : (st1 w (3, 0, 0) (0) (0)) = (st1 w (3, 0, 0) (0) (0)) := by rfl
                                      refine Wm.sub (lv' := [(0, .ref (adr G (3, 0, 0))), (1, .long ((dg (dg (dg (dg (rdgL (st1 w (3, 0, 0) 0 0) w (dg (dg 769 (fun a => rcnt (st1 w (3, 0, 0) 0 0) a) 8) (fun p => w (3, 0, 6) p) (w (3, 0, 0) 2).toNat) v) (fun a => rvtold (st1 w (3, 0, 0) 0 0) ((v : Nat) : Int) a) 10) (fun _ => ((rlast (st1 w (3, 0, 0) 0 0) 4 ((v : Nat) : Int) (w (4, 0, 0) 2).toNat : Nat) : Int)) 1) (fun k => w (4, 0, 5) (5 * v + k)) (w (4, 0, 4) v).toNat) (fun p => w (4, 0, 6) (12 * v + p)) q))), (3, vI (((v + 1 : Nat) : Int)))]) [1, 2, 0] rfl ?_
                                      refine Wm.mem (lv' := [(0, .ref (adr G (3, 0, 0))), (1, .long ((rdgL (st1 w (3, 0, 0) 0 0) w (dg (dg 769 (fun a => rcnt (st1 w (3, 0, 0) 0 0) a) 8) (fun p => w (3, 0, 6) p) (w (3, 0, 0) 2).toNat) (v + 1)))), (3, vI ((((v + 1) : Nat) : Int)))]) e_7 (by (obtain rfl : q = (w (3, 0, 0) 2).toNat := (by omega)); (rw [rdgL_s]; unfold rdgV; rfl)) ?_
                                      refine Wm.widen (c2 := 8 + 10 * (v + 1)) (s2 := 64 + 100 * (v + 1)) (by omega) (by omega) ?_
                                      exact ih68 ((v + 1)) (by omega) (by omega) (e_7 ▸ hr)
                                    · skip
                                      refine r_lload_n C (k := 1) dX5_digest_180 rfl ?_
                                      refine r_ldc2 C (v := 31) (by decide +kernel) dX5_digest_181 ?_
                                      refine r_lmul C dX5_digest_184 ?_
                                      refine r_aload_n C (k := 0) dX5_digest_185 rfl ?_
                                      refine r_getf C 10 (v := .ref (adr G (4, 0, 0))) (ok_of hG (show kd (3, 0, 0) = _ from rfl) (by decide) (show (3 : Nat) ≤ 6 by decide)) (show kd (3, 0, 0) = _ from rfl) (by decide) rfl hinX5 (by decide) (by decide +kernel) rfl rfl dX5_digest_186 ?_
                                      refine r_getfN (host := "DrumTalkModel") C 8 (v := .ref (adr G (4, 0, 6))) (ok_of hG (show kd (4, 0, 0) = _ from rfl) (by decide) (show (4 : Nat) ≤ 6 by decide)) (show kd (4, 0, 0) = _ from rfl) (by decide) rfl hinX4 (by decide) (by decide +kernel) rfl rfl dX5_digest_189 ?_
                                      refine r_bipush C dX5_digest_192 (by decide) ?_
                                      refine r_iload_n C (k := 2) dX5_digest_194 rfl ?_
                                      refine r_imul C dX5_digest_195 ?_
                                      refine r_iload C (k := 3) dX5_digest_196 rfl ?_
                                      refine r_iadd C dX5_digest_198 ?_
                                      refine r_iald C (12 * v + q) (ok_of hG (show kd (4, 0, 6) = _ from rfl) (by decide) (show (4 : Nat) ≤ 6 by decide)) (show kd (4, 0, 6) = _ from rfl) (by omega) (by first | omega | assumption) (by decide) dX5_digest_199 ?_
                                      refine Wm.top (z' := w (4, 0, 6) (12 * v + q)) (by simp [st1, cpy]) ?_
                                      refine r_i2l C dX5_digest_200 (by first | exact hr _ _ | exact hr0 _ _ | exact hfc _ | exact hfv _ _ | assumption | exact ⟨by omega, by omega⟩) ?_
                                      refine r_ladd C dX5_digest_201 ?_
                                      refine r_lstore_n C (i := 1) (lv' := [(1, .long ((((dg (dg (dg (dg (rdgL (st1 w (3, 0, 0) 0 0) w (dg (dg 769 (fun a => rcnt (st1 w (3, 0, 0) 0 0) a) 8) (fun p => w (3, 0, 6) p) (w (3, 0, 0) 2).toNat) v) (fun a => rvtold (st1 w (3, 0, 0) 0 0) ((v : Nat) : Int) a) 10) (fun _ => ((rlast (st1 w (3, 0, 0) 0 0) 4 ((v : Nat) : Int) (w (4, 0, 0) 2).toNat : Nat) : Int)) 1) (fun k => w (4, 0, 5) (5 * v + k)) (w (4, 0, 4) v).toNat) (fun p => w (4, 0, 6) (12 * v + p)) q) * 31) + Int64.ofInt (w (4, 0, 6) (12 * v + q))))), (0, .ref (adr G (3, 0, 0))), (3, vI (((v : Nat) : Int))), (4, vI (((q : Nat) : Int)))]) dX5_digest_202 rfl (by decide) rfl ?_
                                      refine r_iinc C (k := 3) (lv' := [(4, vI (((q + 1 : Nat) : Int))), (1, .long ((((dg (dg (dg (dg (rdgL (st1 w (3, 0, 0) 0 0) w (dg (dg 769 (fun a => rcnt (st1 w (3, 0, 0) 0 0) a) 8) (fun p => w (3, 0, 6) p) (w (3, 0, 0) 2).toNat) v) (fun a => rvtold (st1 w (3, 0, 0) 0 0) ((v : Nat) : Int) a) 10) (fun _ => ((rlast (st1 w (3, 0, 0) 0 0) 4 ((v : Nat) : Int) (w (4, 0, 0) 2).toNat : Nat) : Int)) 1) (fun k => w (4, 0, 5) (5 * v + k)) (w (4, 0, 4) v).toNat) (fun p => w (4, 0, 6) (12 * v + p)) q) * 31) + Int64.ofInt (w (4, 0, 6) (12 * v + q))))), (0, .ref (adr G (3, 0, 0))), (3, vI (((v : Nat) : Int)))]) dX5_digest_203 rfl (by decide) rfl ?_
                                      refine r_goto C (tgt := 171) dX5_digest_206 (by decide) ?_
                                      have e_8 : (st1 w (3, 0, 0) (0) (0)) = (st1 w (3, 0, 0) (0) (0)) := by rfl
                                      refine Wm.sub (lv' := [(0, .ref (adr G (3, 0, 0))), (1, .long ((((dg (dg (dg (dg (rdgL (st1 w (3, 0, 0) 0 0) w (dg (dg 769 (fun a => rcnt (st1 w (3, 0, 0) 0 0) a) 8) (fun p => w (3, 0, 6) p) (w (3, 0, 0) 2).toNat) v) (fun a => rvtold (st1 w (3, 0, 0) 0 0) ((v : Nat) : Int) a) 10) (fun _ => ((rlast (st1 w (3, 0, 0) 0 0) 4 ((v : Nat) : Int) (w (4, 0, 0) 2).toNat : Nat) : Int)) 1) (fun k => w (4, 0, 5) (5 * v + k)) (w (4, 0, 4) v).toNat) (fun p => w (4, 0, 6) (12 * v + p)) q) * 31) + Int64.ofInt (w (4, 0, 6) (12 * v + q))))), (3, vI (((v : Nat) : Int))), (4, vI (((q + 1 : Nat) : Int)))]) [2, 1, 3, 0] rfl ?_
                                      refine Wm.mem (lv' := [(0, .ref (adr G (3, 0, 0))), (1, .long ((dg (dg (dg (dg (rdgL (st1 w (3, 0, 0) 0 0) w (dg (dg 769 (fun a => rcnt (st1 w (3, 0, 0) 0 0) a) 8) (fun p => w (3, 0, 6) p) (w (3, 0, 0) 2).toNat) v) (fun a => rvtold (st1 w (3, 0, 0) 0 0) ((v : Nat) : Int) a) 10) (fun _ => ((rlast (st1 w (3, 0, 0) 0 0) 4 ((v : Nat) : Int) (w (4, 0, 0) 2).toNat : Nat) : Int)) 1) (fun k => w (4, 0, 5) (5 * v + k)) (w (4, 0, 4) v).toNat) (fun p => w (4, 0, 6) (12 * v + p)) (q + 1)))), (3, vI (((v : Nat) : Int))), (4, vI ((((q + 1) : Nat) : Int)))]) e_8 (by (first | (rw [dg_s (n := q)]; done) | (rw [dg_s (n := q)]; rfl))) ?_
                                      refine Wm.widen (c2 := 8 + 10 * v + 10) (s2 := 64 + 100 * v + 100) (by omega) (by omega) ?_
                                      exact ih171 ((q + 1)) (by omega) (by omega) (e_8 ▸ hr)
                                have e_9 : (st1 w (3, 0, 0) (0) (0)) = (st1 w (3, 0, 0) (0) (0)) := by rfl
                                refine Wm.sub (lv' := [(0, .ref (adr G (3, 0, 0))), (1, .long ((dg (dg (dg (rdgL (st1 w (3, 0, 0) 0 0) w (dg (dg 769 (fun a => rcnt (st1 w (3, 0, 0) 0 0) a) 8) (fun p => w (3, 0, 6) p) (w (3, 0, 0) 2).toNat) v) (fun a => rvtold (st1 w (3, 0, 0) 0 0) ((v : Nat) : Int) a) 10) (fun _ => ((rlast (st1 w (3, 0, 0) 0 0) 4 ((v : Nat) : Int) (w (4, 0, 0) 2).toNat : Nat) : Int)) 1) (fun k => w (4, 0, 5) (5 * v + k)) j2))), (3, vI (((v : Nat) : Int))), (4, vI (0))]) [1, 2, 3, 0] rfl ?_
                                refine Wm.mem (lv' := [(0, .ref (adr G (3, 0, 0))), (1, .long ((dg (dg (dg (dg (rdgL (st1 w (3, 0, 0) 0 0) w (dg (dg 769 (fun a => rcnt (st1 w (3, 0, 0) 0 0) a) 8) (fun p => w (3, 0, 6) p) (w (3, 0, 0) 2).toNat) v) (fun a => rvtold (st1 w (3, 0, 0) 0 0) ((v : Nat) : Int) a) 10) (fun _ => ((rlast (st1 w (3, 0, 0) 0 0) 4 ((v : Nat) : Int) (w (4, 0, 0) 2).toNat : Nat) : Int)) 1) (fun k => w (4, 0, 5) (5 * v + k)) (w (4, 0, 4) v).toNat) (fun p => w (4, 0, 6) (12 * v + p)) 0))), (3, vI (((v : Nat) : Int))), (4, vI (((0 : Nat) : Int)))]) e_9 (by (obtain rfl : j2 = (w (4, 0, 4) v).toNat := (by omega)); (first | (rw [dg_z]; done) | (rw [dg_z]; rfl))) ?_
                                refine Wm.widen (c2 := 8 + 10 * v + 10) (s2 := 64 + 100 * v + 100) (by omega) (by omega) ?_
                                exact loop_171 _ (0) (by omega) (Nat.lt_succ_self _) (e_9 ▸ hr)
                              · skip
                                refine r_lload_n C (k := 1) dX5_digest_140 rfl ?_
                                refine r_ldc2 C (v := 31) (by decide +kernel) dX5_digest_141 ?_
                                refine r_lmul C dX5_digest_144 ?_
                                refine r_aload_n C (k := 0) dX5_digest_145 rfl ?_
                                refine r_getf C 10 (v := .ref (adr G (4, 0, 0))) (ok_of hG (show kd (3, 0, 0) = _ from rfl) (by decide) (show (3 : Nat) ≤ 6 by decide)) (show kd (3, 0, 0) = _ from rfl) (by decide) rfl hinX5 (by decide) (by decide +kernel) rfl rfl dX5_digest_146 ?_
                                refine r_getfN (host := "DrumTalkModel") C 7 (v := .ref (adr G (4, 0, 5))) (ok_of hG (show kd (4, 0, 0) = _ from rfl) (by decide) (show (4 : Nat) ≤ 6 by decide)) (show kd (4, 0, 0) = _ from rfl) (by decide) rfl hinX4 (by decide) (by decide +kernel) rfl rfl dX5_digest_149 ?_
                                refine r_iconst C dX5_digest_152 ?_
                                refine r_iload_n C (k := 2) dX5_digest_153 rfl ?_
                                refine r_imul C dX5_digest_154 ?_
                                refine r_iload C (k := 3) dX5_digest_155 rfl ?_
                                refine r_iadd C dX5_digest_157 ?_
                                refine r_iald C (5 * v + j2) (ok_of hG (show kd (4, 0, 5) = _ from rfl) (by decide) (show (4 : Nat) ≤ 6 by decide)) (show kd (4, 0, 5) = _ from rfl) (by omega) (by first | omega | assumption) (by decide) dX5_digest_158 ?_
                                refine Wm.top (z' := w (4, 0, 5) (5 * v + j2)) (by simp [st1, cpy]) ?_
                                refine r_i2l C dX5_digest_159 (by first | exact hr _ _ | exact hr0 _ _ | exact hfc _ | exact hfv _ _ | assumption | exact ⟨by omega, by omega⟩) ?_
                                refine r_ladd C dX5_digest_160 ?_
                                refine r_lstore_n C (i := 1) (lv' := [(1, .long ((((dg (dg (dg (rdgL (st1 w (3, 0, 0) 0 0) w (dg (dg 769 (fun a => rcnt (st1 w (3, 0, 0) 0 0) a) 8) (fun p => w (3, 0, 6) p) (w (3, 0, 0) 2).toNat) v) (fun a => rvtold (st1 w (3, 0, 0) 0 0) ((v : Nat) : Int) a) 10) (fun _ => ((rlast (st1 w (3, 0, 0) 0 0) 4 ((v : Nat) : Int) (w (4, 0, 0) 2).toNat : Nat) : Int)) 1) (fun k => w (4, 0, 5) (5 * v + k)) j2) * 31) + Int64.ofInt (w (4, 0, 5) (5 * v + j2))))), (0, .ref (adr G (3, 0, 0))), (3, vI (((v : Nat) : Int))), (4, vI (((j2 : Nat) : Int)))]) dX5_digest_161 rfl (by decide) rfl ?_
                                refine r_iinc C (k := 3) (lv' := [(4, vI (((j2 + 1 : Nat) : Int))), (1, .long ((((dg (dg (dg (rdgL (st1 w (3, 0, 0) 0 0) w (dg (dg 769 (fun a => rcnt (st1 w (3, 0, 0) 0 0) a) 8) (fun p => w (3, 0, 6) p) (w (3, 0, 0) 2).toNat) v) (fun a => rvtold (st1 w (3, 0, 0) 0 0) ((v : Nat) : Int) a) 10) (fun _ => ((rlast (st1 w (3, 0, 0) 0 0) 4 ((v : Nat) : Int) (w (4, 0, 0) 2).toNat : Nat) : Int)) 1) (fun k => w (4, 0, 5) (5 * v + k)) j2) * 31) + Int64.ofInt (w (4, 0, 5) (5 * v + j2))))), (0, .ref (adr G (3, 0, 0))), (3, vI (((v : Nat) : Int)))]) dX5_digest_162 rfl (by decide) rfl ?_
                                refine r_goto C (tgt := 126) dX5_digest_165 (by decide) ?_
                                have e_10 : (st1 w (3, 0, 0) (0) (0)) = (st1 w (3, 0, 0) (0) (0)) := by rfl
                                refine Wm.sub (lv' := [(0, .ref (adr G (3, 0, 0))), (1, .long ((((dg (dg (dg (rdgL (st1 w (3, 0, 0) 0 0) w (dg (dg 769 (fun a => rcnt (st1 w (3, 0, 0) 0 0) a) 8) (fun p => w (3, 0, 6) p) (w (3, 0, 0) 2).toNat) v) (fun a => rvtold (st1 w (3, 0, 0) 0 0) ((v : Nat) : Int) a) 10) (fun _ => ((rlast (st1 w (3, 0, 0) 0 0) 4 ((v : Nat) : Int) (w (4, 0, 0) 2).toNat : Nat) : Int)) 1) (fun k => w (4, 0, 5) (5 * v + k)) j2) * 31) + Int64.ofInt (w (4, 0, 5) (5 * v + j2))))), (3, vI (((v : Nat) : Int))), (4, vI (((j2 + 1 : Nat) : Int)))]) [2, 1, 3, 0] rfl ?_
                                refine Wm.mem (lv' := [(0, .ref (adr G (3, 0, 0))), (1, .long ((dg (dg (dg (rdgL (st1 w (3, 0, 0) 0 0) w (dg (dg 769 (fun a => rcnt (st1 w (3, 0, 0) 0 0) a) 8) (fun p => w (3, 0, 6) p) (w (3, 0, 0) 2).toNat) v) (fun a => rvtold (st1 w (3, 0, 0) 0 0) ((v : Nat) : Int) a) 10) (fun _ => ((rlast (st1 w (3, 0, 0) 0 0) 4 ((v : Nat) : Int) (w (4, 0, 0) 2).toNat : Nat) : Int)) 1) (fun k => w (4, 0, 5) (5 * v + k)) (j2 + 1)))), (3, vI (((v : Nat) : Int))), (4, vI ((((j2 + 1) : Nat) : Int)))]) e_10 (by (first | (rw [dg_s (n := j2)]; done) | (rw [dg_s (n := j2)]; rfl))) ?_
                                refine Wm.widen (c2 := 8 + 10 * v + 10) (s2 := 64 + 100 * v + 100) (by omega) (by omega) ?_
                                exact ih126 ((j2 + 1)) (by omega) (by omega) (e_10 ▸ hr)
                          have e_11 : (st1 w (3, 0, 0) (0) (0)) = (st1 w (3, 0, 0) (0) (0)) := by rfl
                          refine Wm.sub (lv' := [(0, .ref (adr G (3, 0, 0))), (1, .long ((((dg (rdgL (st1 w (3, 0, 0) 0 0) w (dg (dg 769 (fun a => rcnt (st1 w (3, 0, 0) 0 0) a) 8) (fun p => w (3, 0, 6) p) (w (3, 0, 0) 2).toNat) v) (fun a => rvtold (st1 w (3, 0, 0) 0 0) ((v : Nat) : Int) a) i2) * 31) + Int64.ofInt ((((rlast (st1 w (3, 0, 0) (0) (0)) 4 (((v : Nat) : Int)) ((st1 w (3, 0, 0) (0) (0)) (4, 0, 0) 2).toNat : Nat) : Int)))))), (3, vI (((v : Nat) : Int))), (4, vI (0))]) [2, 1, 3, 0] rfl ?_
                          refine Wm.mem (lv' := [(0, .ref (adr G (3, 0, 0))), (1, .long ((dg (dg (dg (rdgL (st1 w (3, 0, 0) 0 0) w (dg (dg 769 (fun a => rcnt (st1 w (3, 0, 0) 0 0) a) 8) (fun p => w (3, 0, 6) p) (w (3, 0, 0) 2).toNat) v) (fun a => rvtold (st1 w (3, 0, 0) 0 0) ((v : Nat) : Int) a) 10) (fun _ => ((rlast (st1 w (3, 0, 0) 0 0) 4 ((v : Nat) : Int) (w (4, 0, 0) 2).toNat : Nat) : Int)) 1) (fun k => w (4, 0, 5) (5 * v + k)) 0))), (3, vI (((v : Nat) : Int))), (4, vI (((0 : Nat) : Int)))]) e_11 (by (obtain rfl : i2 = 10 := (by omega)); (first | (rw [dg_z, dg_1]; done) | (rw [dg_z, dg_1]; rfl))) ?_
                          refine Wm.widen (c2 := 8 + 10 * v + 10) (s2 := 64 + 100 * v + 100) (by omega) (by omega) ?_
                          exact loop_126 _ (0) (by omega) (Nat.lt_succ_self _) (e_11 ▸ hr)
                        · skip
                          refine r_lload_n C (k := 1) dX5_digest_86 rfl ?_
                          refine r_ldc2 C (v := 31) (by decide +kernel) dX5_digest_87 ?_
                          refine r_lmul C dX5_digest_90 ?_
                          refine r_aload_n C (k := 0) dX5_digest_91 rfl ?_
                          refine r_iload_n C (k := 2) dX5_digest_92 rfl ?_
                          refine r_iload C (k := 3) dX5_digest_93 rfl ?_
                          refine r_callV C (w' := (st1 w (3, 0, 0) (0) (0))) [vI (((v : Nat) : Int)), vI (((i2 : Nat) : Int))] 2 (c_X5_villageTold hG (by exact ⟨by omega, by omega⟩) (by exact ⟨by omega, by omega⟩) (by exact hpb9) (by exact hM1.2.2.2.2.1) (by exact ⟨hs0.1, Int.le_trans hs0.2 hN⟩) (by first | assumption | omega | exact hr _ _ | exact hr0 _ _ | exact hrI _ _ | exact ⟨by omega, by omega⟩ | exact bI_inR _ | (simp [st1] <;> omega) | exact rowR.so (by assumption) (by simp))) gX5_digest_X5_villageTold rfl rfl rfl (by decide +kernel) (Nat.le_of_ble_eq_true rfl) (Nat.le_of_ble_eq_true rfl) ⟨(by show _ ≤ 88; omega), (by show _ ≤ 864; omega)⟩ (ok_of hG (show kd (3, 0, 0) = _ from rfl) (by decide) (show (3 : Nat) ≤ 6 by decide)) (show kd (3, 0, 0) = _ from rfl) (by decide) rfl rfl rfl (Nat.le_of_ble_eq_true rfl) (st' := [vI ((rvtold (st1 w (3, 0, 0) (0) (0)) (((v : Nat) : Int)) ((((i2 : Nat) : Int))).toNat)), .long (((dg (rdgL (st1 w (3, 0, 0) 0 0) w (dg (dg 769 (fun a => rcnt (st1 w (3, 0, 0) 0 0) a) 8) (fun p => w (3, 0, 6) p) (w (3, 0, 0) 2).toNat) v) (fun a => rvtold (st1 w (3, 0, 0) 0 0) ((v : Nat) : Int) a) i2) * 31))]) rfl dX5_digest_95 (fun hr => ?_)
                          refine r_i2l C dX5_digest_98 (by first | exact hr _ _ | exact hr0 _ _ | exact hfc _ | exact hfv _ _ | assumption | exact ⟨by omega, by omega⟩) ?_
                          refine r_ladd C dX5_digest_99 ?_
                          refine r_lstore_n C (i := 1) (lv' := [(1, .long ((((dg (rdgL (st1 w (3, 0, 0) 0 0) w (dg (dg 769 (fun a => rcnt (st1 w (3, 0, 0) 0 0) a) 8) (fun p => w (3, 0, 6) p) (w (3, 0, 0) 2).toNat) v) (fun a => rvtold (st1 w (3, 0, 0) 0 0) ((v : Nat) : Int) a) i2) * 31) + Int64.ofInt ((rvtold (st1 w (3, 0, 0) (0) (0)) (((v : Nat) : Int)) ((((i2 : Nat) : Int))).toNat))))), (0, .ref (adr G (3, 0, 0))), (3, vI (((v : Nat) : Int))), (4, vI (((i2 : Nat) : Int)))]) dX5_digest_100 rfl (by decide) rfl ?_
                          refine r_iinc C (k := 3) (lv' := [(4, vI (((i2 + 1 : Nat) : Int))), (1, .long ((((dg (rdgL (st1 w (3, 0, 0) 0 0) w (dg (dg 769 (fun a => rcnt (st1 w (3, 0, 0) 0 0) a) 8) (fun p => w (3, 0, 6) p) (w (3, 0, 0) 2).toNat) v) (fun a => rvtold (st1 w (3, 0, 0) 0 0) ((v : Nat) : Int) a) i2) * 31) + Int64.ofInt ((rvtold (st1 w (3, 0, 0) (0) (0)) (((v : Nat) : Int)) ((((i2 : Nat) : Int))).toNat))))), (0, .ref (adr G (3, 0, 0))), (3, vI (((v : Nat) : Int)))]) dX5_digest_101 rfl (by decide) rfl ?_
                          refine r_goto C (tgt := 79) dX5_digest_104 (by decide) ?_
                          have e_12 : (st1 w (3, 0, 0) (0) (0)) = (st1 w (3, 0, 0) (0) (0)) := by rfl
                          refine Wm.sub (lv' := [(0, .ref (adr G (3, 0, 0))), (1, .long ((((dg (rdgL (st1 w (3, 0, 0) 0 0) w (dg (dg 769 (fun a => rcnt (st1 w (3, 0, 0) 0 0) a) 8) (fun p => w (3, 0, 6) p) (w (3, 0, 0) 2).toNat) v) (fun a => rvtold (st1 w (3, 0, 0) 0 0) ((v : Nat) : Int) a) i2) * 31) + Int64.ofInt ((rvtold (st1 w (3, 0, 0) (0) (0)) (((v : Nat) : Int)) ((((i2 : Nat) : Int))).toNat))))), (3, vI (((v : Nat) : Int))), (4, vI (((i2 + 1 : Nat) : Int)))]) [2, 1, 3, 0] rfl ?_
                          refine Wm.mem (lv' := [(0, .ref (adr G (3, 0, 0))), (1, .long ((dg (rdgL (st1 w (3, 0, 0) 0 0) w (dg (dg 769 (fun a => rcnt (st1 w (3, 0, 0) 0 0) a) 8) (fun p => w (3, 0, 6) p) (w (3, 0, 0) 2).toNat) v) (fun a => rvtold (st1 w (3, 0, 0) 0 0) ((v : Nat) : Int) a) (i2 + 1)))), (3, vI (((v : Nat) : Int))), (4, vI ((((i2 + 1) : Nat) : Int)))]) e_12 (by (first | (rw [dg_s (n := i2)]; done) | (rw [dg_s (n := i2)]; rfl))) ?_
                          refine Wm.widen (c2 := 8 + 10 * v + (i2 + 1)) (s2 := 64 + 100 * v + 10 * (i2 + 1)) (by omega) (by omega) ?_
                          exact ih79 ((i2 + 1)) (by omega) (by omega) (e_12 ▸ hr)
                    have e_13 : (st1 w (3, 0, 0) (0) (0)) = (st1 w (3, 0, 0) (0) (0)) := by rfl
                    refine Wm.sub (lv' := [(0, .ref (adr G (3, 0, 0))), (1, .long ((rdgL (st1 w (3, 0, 0) 0 0) w (dg (dg 769 (fun a => rcnt (st1 w (3, 0, 0) 0 0) a) 8) (fun p => w (3, 0, 6) p) (w (3, 0, 0) 2).toNat) v))), (3, vI (((v : Nat) : Int))), (4, vI (0))]) [1, 2, 3, 0] rfl ?_
                    refine Wm.mem (lv' := [(0, .ref (adr G (3, 0, 0))), (1, .long ((dg (rdgL (st1 w (3, 0, 0) 0 0) w (dg (dg 769 (fun a => rcnt (st1 w (3, 0, 0) 0 0) a) 8) (fun p => w (3, 0, 6) p) (w (3, 0, 0) 2).toNat) v) (fun a => rvtold (st1 w (3, 0, 0) 0 0) ((v : Nat) : Int) a) 0))), (3, vI (((v : Nat) : Int))), (4, vI (((0 : Nat) : Int)))]) e_13 (by (first | (rw [dg_z]; done) | (rw [dg_z]; rfl))) ?_
                    refine Wm.widen (c2 := 8 + 10 * v + 0) (s2 := 64 + 100 * v + 10 * 0) (by omega) (by omega) ?_
                    exact loop_79 _ (0) (by omega) (Nat.lt_succ_self _) (e_13 ▸ hr)
              have e_14 : (st1 w (3, 0, 0) (0) (0)) = (st1 w (3, 0, 0) (0) (0)) := by rfl
              refine Wm.sub (lv' := [(0, .ref (adr G (3, 0, 0))), (1, .long ((dg (dg 769 (fun a => rcnt (st1 w (3, 0, 0) 0 0) a) 8) (fun p => w (3, 0, 6) p) j))), (3, vI (0))]) [1, 2, 0] rfl ?_
              refine Wm.mem (lv' := [(0, .ref (adr G (3, 0, 0))), (1, .long ((rdgL (st1 w (3, 0, 0) 0 0) w (dg (dg 769 (fun a => rcnt (st1 w (3, 0, 0) 0 0) a) 8) (fun p => w (3, 0, 6) p) (w (3, 0, 0) 2).toNat) 0))), (3, vI (((0 : Nat) : Int)))]) e_14 (by (obtain rfl : j = (w (3, 0, 0) 2).toNat := (by omega)); (first | (rw [rdgL_z]; done) | (rw [rdgL_z]; rfl))) ?_
              refine Wm.widen (c2 := 8 + 10 * 0) (s2 := 64 + 100 * 0) (by omega) (by omega) ?_
              exact loop_68 _ (0) (by omega) (Nat.lt_succ_self _) (e_14 ▸ hr)
            · skip
              refine r_lload_n C (k := 1) dX5_digest_46 rfl ?_
              refine r_ldc2 C (v := 31) (by decide +kernel) dX5_digest_47 ?_
              refine r_lmul C dX5_digest_50 ?_
              refine r_aload_n C (k := 0) dX5_digest_51 rfl ?_
              refine r_getf C 8 (v := .ref (adr G (3, 0, 6))) (ok_of hG (show kd (3, 0, 0) = _ from rfl) (by decide) (show (3 : Nat) ≤ 6 by decide)) (show kd (3, 0, 0) = _ from rfl) (by decide) rfl hinX5 (by decide) (by decide +kernel) rfl rfl dX5_digest_52 ?_
              refine r_iload_n C (k := 2) dX5_digest_55 rfl ?_
              refine r_iald C (j) (ok_of hG (show kd (3, 0, 6) = _ from rfl) (by decide) (show (3 : Nat) ≤ 6 by decide)) (show kd (3, 0, 6) = _ from rfl) rfl (by first | omega | assumption) (by decide) dX5_digest_56 ?_
              refine Wm.top (z' := w (3, 0, 6) (j)) (by simp [st1, cpy]) ?_
              refine r_i2l C dX5_digest_57 (by first | exact hr _ _ | exact hr0 _ _ | exact hfc _ | exact hfv _ _ | assumption | exact ⟨by omega, by omega⟩) ?_
              refine r_ladd C dX5_digest_58 ?_
              refine r_lstore_n C (i := 1) (lv' := [(1, .long ((((dg (dg 769 (fun a => rcnt (st1 w (3, 0, 0) 0 0) a) 8) (fun p => w (3, 0, 6) p) j) * 31) + Int64.ofInt (w (3, 0, 6) (j))))), (0, .ref (adr G (3, 0, 0))), (3, vI (((j : Nat) : Int)))]) dX5_digest_59 rfl (by decide) rfl ?_
              refine r_iinc C (k := 2) (lv' := [(3, vI (((j + 1 : Nat) : Int))), (1, .long ((((dg (dg 769 (fun a => rcnt (st1 w (3, 0, 0) 0 0) a) 8) (fun p => w (3, 0, 6) p) j) * 31) + Int64.ofInt (w (3, 0, 6) (j))))), (0, .ref (adr G (3, 0, 0)))]) dX5_digest_60 rfl (by decide) rfl ?_
              refine r_goto C (tgt := 38) dX5_digest_63 (by decide) ?_
              have e_15 : (st1 w (3, 0, 0) (0) (0)) = (st1 w (3, 0, 0) (0) (0)) := by rfl
              refine Wm.sub (lv' := [(0, .ref (adr G (3, 0, 0))), (1, .long ((((dg (dg 769 (fun a => rcnt (st1 w (3, 0, 0) 0 0) a) 8) (fun p => w (3, 0, 6) p) j) * 31) + Int64.ofInt (w (3, 0, 6) (j))))), (3, vI (((j + 1 : Nat) : Int)))]) [2, 1, 0] rfl ?_
              refine Wm.mem (lv' := [(0, .ref (adr G (3, 0, 0))), (1, .long ((dg (dg 769 (fun a => rcnt (st1 w (3, 0, 0) 0 0) a) 8) (fun p => w (3, 0, 6) p) (j + 1)))), (3, vI ((((j + 1) : Nat) : Int)))]) e_15 (by (first | (rw [dg_s (n := j)]; done) | (rw [dg_s (n := j)]; rfl))) ?_
              refine Wm.widen (c2 := 8) (s2 := 64) (by omega) (by omega) ?_
              exact ih38 ((j + 1)) (by omega) (by omega) (e_15 ▸ hr)
        have e_16 : (st1 w (3, 0, 0) (0) (0)) = (st1 w (3, 0, 0) (0) (0)) := by rfl
        refine Wm.sub (lv' := [(0, .ref (adr G (3, 0, 0))), (1, .long ((dg 769 (fun a => rcnt (st1 w (3, 0, 0) 0 0) a) i))), (3, vI (0))]) [1, 2, 0] rfl ?_
        refine Wm.mem (lv' := [(0, .ref (adr G (3, 0, 0))), (1, .long ((dg (dg 769 (fun a => rcnt (st1 w (3, 0, 0) 0 0) a) 8) (fun p => w (3, 0, 6) p) 0))), (3, vI (((0 : Nat) : Int)))]) e_16 (by (obtain rfl : i = 8 := (by omega)); (first | (rw [dg_z]; done) | (rw [dg_z]; rfl))) ?_
        refine Wm.widen (c2 := 8) (s2 := 64) (by omega) (by omega) ?_
        exact loop_38 _ (0) (by omega) (Nat.lt_succ_self _) (e_16 ▸ hr)
      · skip
        refine r_lload_n C (k := 1) dX5_digest_17 rfl ?_
        refine r_ldc2 C (v := 31) (by decide +kernel) dX5_digest_18 ?_
        refine r_lmul C dX5_digest_21 ?_
        refine r_aload_n C (k := 0) dX5_digest_22 rfl ?_
        refine r_iload_n C (k := 2) dX5_digest_23 rfl ?_
        refine r_callV C (w' := (st1 w (3, 0, 0) (0) (0))) [vI (((i : Nat) : Int))] 1 (c_X5_counted hG (by exact ⟨by omega, by omega⟩) (by exact hvb9) (by exact hpb9) (by exact hrw) (by exact hrp) (by first | assumption | omega | exact hr _ _ | exact hr0 _ _ | exact hrI _ _ | exact ⟨by omega, by omega⟩ | exact bI_inR _ | (simp [st1] <;> omega) | exact rowR.so (by assumption) (by simp))) gX5_digest_X5_counted rfl rfl rfl (by decide +kernel) (Nat.le_of_ble_eq_true rfl) (Nat.le_of_ble_eq_true rfl) ⟨(by show _ ≤ 88; omega), (by show _ ≤ 864; omega)⟩ (ok_of hG (show kd (3, 0, 0) = _ from rfl) (by decide) (show (3 : Nat) ≤ 6 by decide)) (show kd (3, 0, 0) = _ from rfl) (by decide) rfl rfl rfl (Nat.le_of_ble_eq_true rfl) (st' := [vI ((rcnt (st1 w (3, 0, 0) (0) (0)) ((((i : Nat) : Int))).toNat)), .long (((dg 769 (fun a => rcnt (st1 w (3, 0, 0) 0 0) a) i) * 31))]) rfl dX5_digest_24 (fun hr => ?_)
        refine r_i2l C dX5_digest_27 (by first | exact hr _ _ | exact hr0 _ _ | exact hfc _ | exact hfv _ _ | assumption | exact ⟨by omega, by omega⟩) ?_
        refine r_ladd C dX5_digest_28 ?_
        refine r_lstore_n C (i := 1) (lv' := [(1, .long ((((dg 769 (fun a => rcnt (st1 w (3, 0, 0) 0 0) a) i) * 31) + Int64.ofInt ((rcnt (st1 w (3, 0, 0) (0) (0)) ((((i : Nat) : Int))).toNat))))), (0, .ref (adr G (3, 0, 0))), (3, vI (((i : Nat) : Int)))]) dX5_digest_29 rfl (by decide) rfl ?_
        refine r_iinc C (k := 2) (lv' := [(3, vI (((i + 1 : Nat) : Int))), (1, .long ((((dg 769 (fun a => rcnt (st1 w (3, 0, 0) 0 0) a) i) * 31) + Int64.ofInt ((rcnt (st1 w (3, 0, 0) (0) (0)) ((((i : Nat) : Int))).toNat))))), (0, .ref (adr G (3, 0, 0)))]) dX5_digest_30 rfl (by decide) rfl ?_
        refine r_goto C (tgt := 11) dX5_digest_33 (by decide) ?_
        have e_17 : (st1 w (3, 0, 0) (0) (0)) = (st1 w (3, 0, 0) (0) (0)) := by rfl
        refine Wm.sub (lv' := [(0, .ref (adr G (3, 0, 0))), (1, .long ((((dg 769 (fun a => rcnt (st1 w (3, 0, 0) 0 0) a) i) * 31) + Int64.ofInt ((rcnt (st1 w (3, 0, 0) (0) (0)) ((((i : Nat) : Int))).toNat))))), (3, vI (((i + 1 : Nat) : Int)))]) [2, 1, 0] rfl ?_
        refine Wm.mem (lv' := [(0, .ref (adr G (3, 0, 0))), (1, .long ((dg 769 (fun a => rcnt (st1 w (3, 0, 0) 0 0) a) (i + 1)))), (3, vI ((((i + 1) : Nat) : Int)))]) e_17 (by (first | (rw [dg_s (n := i)]; done) | (rw [dg_s (n := i)]; rfl))) ?_
        refine Wm.widen (c2 := (i + 1)) (s2 := 8 * (i + 1)) (by omega) (by omega) ?_
        exact ih11 ((i + 1)) (by omega) (by omega) (e_17 ▸ hr)
  have e_18 : (st1 w (3, 0, 0) (0) (0)) = (st1 w (3, 0, 0) (0) (0)) := by rfl
  refine Wm.sub (lv' := [(0, .ref (adr G (3, 0, 0))), (1, .long (769)), (3, vI (0))]) [2, 1, 0] rfl ?_
  refine Wm.mem (lv' := [(0, .ref (adr G (3, 0, 0))), (1, .long ((dg 769 (fun a => rcnt (st1 w (3, 0, 0) 0 0) a) 0))), (3, vI (((0 : Nat) : Int)))]) e_18 (by (first | (rw [dg_z]; done) | (rw [dg_z]; rfl))) ?_
  refine Wm.widen (c2 := 0) (s2 := 8 * 0) (by omega) (by omega) ?_
  exact loop_11 _ (0) (by omega) (Nat.lt_succ_self _) (e_18 ▸ hr)
