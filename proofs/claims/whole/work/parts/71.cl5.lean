/-- a new state's cells; the new reference's own cells -/
def SC (G : Gt) (a : Nat → Nat) (qm : Nat) (g : Nat → Int32) : va_W := [(a 12, .inl (G.2.1.1, 1024, .inl (fun _ => 0))), (a 11, .inl (G.2.1.1, 1024, .inl (fun _ => 0))), (a 10, .inl (G.2.1.1, 1024, .inl (fun _ => 0))), (a 9, .inl (G.2.1.1, 1024, .inl (fun _ => 0))), (a 8, .inl (G.2.1.1, 1024, .inl (fun _ => 0))), (a 7, .inl (G.2.1.1, 8, .inl (fun _ => 0))), (a 6, .inl (G.2.1.1, 96, .inl g)), (a 5, .inl (G.2.1.1, 40, .inl (fun _ => 0))), (a 4, .inl (G.2.1.1, 8, .inl (fun _ => 0))), (a 3, .inl (G.2.1.1, 8, .inl (fun _ => 0))), (a 2, .inl (G.2.1.1, 8, .inl (fun _ => 0))), (a 1, .inl (G.2.1.1, 8, .inl (fun _ => 0))), (a 0, .inr (4, [vI 0, vI 0, vI 0, .ref (a 1), .ref (a 2), .ref (a 3), .ref (a 4), .ref (a 5), .ref (a 6), .ref (a 7), .ref (a 8), .ref (a 9), .ref (a 10), .ref (a 11), .ref (a 12), .ref qm]))]
def va13 (q a1 a2 a3 a4 a5 a6 a7 a8 a9 a10 a11 a12 : Nat) : Nat → Nat := fun p => match p with | 0 => q | 1 => a1 | 2 => a2 | 3 => a3 | 4 => a4 | 5 => a5 | 6 => a6 | 7 => a7 | 8 => a8 | 9 => a9 | 10 => a10 | 11 => a11 | _ => a12
theorem PX4_SC {G : Gt} {q0 qm : Nat} {X : va_W} (h : PX4_init G q0 qm X) : ∃ a, a 0 = q0 ∧ X = SC G a qm (fun _ => 0) := by
  obtain ⟨a1, a2, a3, a4, a5, a6, a7, a8, a9, a10, a11, a12, rfl⟩ := h
  exact ⟨va13 q0 a1 a2 a3 a4 a5 a6 a7 a8 a9 a10 a11 a12, rfl, rfl⟩
def MC (G : Gt) (M : Nat → Nat) (qs qt : Nat) : va_W := [((M 7), .inl (G.2.1.1, 12, .inl (fun _ => 0))), ((M 6), .inl (G.2.1.1, 12, .inl (fun _ => 0))), ((M 5), .inl (G.2.1.1, 8, .inl (fun _ => 0))), ((M 4), .inl (G.2.1.1, 8, .inl (fun _ => 0))), ((M 3), .inl (G.2.1.1, 8, .inl (fun _ => 0))), ((M 2), .inl (G.2.1.1, 8, .inl (fun _ => 0))), ((M 1), .inl (G.2.1.1, 8, .inl (fun _ => 0))), (M 0, .inr (5, [vI 0, vI 0, vI 0, .ref (M 1), .ref (M 2), .ref (M 3), .ref (M 4), .ref (M 5), .ref (M 6), .ref (M 7), .ref qs, .ref qt]))]
def PX5_init (G : Gt) (q0 : Nat) : va_W → Prop := fun X => ∃ M S T g, M 0 = q0 ∧ (∀ j, j < 96 → g j = Int32.ofInt (-1)) ∧ X = SC G T (M 0) (fun _ => 0) ++ (SC G S (M 0) g ++ MC G M (S 0) (T 0))
theorem c_X5_init (l : Launch) (G : Gt) (q0 : Nat) : ConL l G yX5_init wsX5_init { frames := 2, cells := 33, slots := 10688, locals := 60 } q0 (.inr (5, [vI 0, vI 0, vI 0, .null, .null, .null, .null, .null, .null, .null, .null, .null])) [.ref q0] (PX5_init G q0) 33 10688 := by
  refine ConL.head (cc := cX5_init) (nL := 2) (by decide) rfl (Nat.le_of_ble_eq_true rfl) ?_
  intro B A hBl C hA
  have hinX5 : ∀ w ∈ u_ws RX5 TX5 12, w ∈ wsX5_init := by decide +kernel
  have hinX4 : ∀ w ∈ u_ws RX4 TX4 16, w ∈ wsX5_init := by decide +kernel
  have L : ∀ (m i : Nat) (M S T : Nat → Nat) (g : Nat → Int32), i + m = 96 → M 0 = q0 → (∀ j, j < i → g j = Int32.ofInt (-1)) → WL B 2 G A (Ze B G A (PX5_init G q0) 33 10688) (SC G T (M 0) (fun _ => 0) ++ (SC G S (M 0) g ++ MC G M (S 0) (T 0))) 33 10688 86 [(1, vI (i : Int)), (0, .ref (M 0))] [] := by
    intro m
    induction m with
    | zero =>
      intro i M S T g h1 h0 h2
      obtain rfl : i = 96 := by omega
      refine l_iload (k := 0) C dX5_init_86 rfl ?_
      refine l_bipush C dX5_init_87 rfl ?_
      refine l_icmp_ge C dX5_init_89 rfl ⟨by decide, by decide⟩ ⟨by decide, by decide⟩ (fun _ => ?_) (fun h => absurd h (by decide))
      exact l_ret C dX5_init_108 ⟨M, S, T, g, h0, h2, rfl⟩ rfl rfl
    | succ m ih =>
      intro i M S T g h1 h0 h2
      refine l_iload (k := 0) C dX5_init_86 rfl ?_
      refine l_bipush C dX5_init_87 rfl ?_
      refine l_icmp_ge C dX5_init_89 rfl ⟨by omega, by omega⟩ ⟨by decide, by decide⟩ (fun h => by omega) (fun _ => ?_)
      refine l_aload (k := 1) C dX5_init_92 rfl ?_
      refine l_get C hinX5 33 (fs := [vI 0, vI 0, vI 0, .ref (M 1), .ref (M 2), .ref (M 3), .ref (M 4), .ref (M 5), .ref (M 6), .ref (M 7), .ref (S 0), .ref (T 0)]) rfl rfl 10 (by decide) (by decide +kernel) rfl rfl dX5_init_93 ?_
      refine l_getN C (host := "DrumTalkModel") hinX4 25 (fs := [vI 0, vI 0, vI 0, .ref (S 1), .ref (S 2), .ref (S 3), .ref (S 4), .ref (S 5), .ref (S 6), .ref (S 7), .ref (S 8), .ref (S 9), .ref (S 10), .ref (S 11), .ref (S 12), .ref (M 0)]) rfl rfl 8 (by decide) (by decide +kernel) rfl rfl dX5_init_96 ?_
      refine l_iload (k := 0) C dX5_init_99 rfl ?_
      refine l_iconst C dX5_init_100 ?_
      refine l_iast (q0 := 19) (X' := SC G T (M 0) (fun _ => 0) ++ (SC G S (M 0) (fun j => if j = i then Int32.ofInt (-1) else g j) ++ MC G M (S 0) (T 0))) C i rfl rfl (by omega) (by omega) dX5_init_101 rfl ?_
      refine l_iinc (k := 0) C dX5_init_102 rfl (by decide) rfl ?_
      refine l_goto (tgt := 86) C dX5_init_105 rfl ?_
      refine ih (i + 1) M S T _ (by omega) h0 (fun j hj => ?_)
      by_cases hji : j = i
      · exact if_pos hji
      · exact (if_neg hji).trans (h2 j (by omega))
  refine l_aload (k := 0) C dX5_init_0 rfl ?_
  refine l_objInit C (by decide +kernel) (by decide +kernel) (by decide +kernel) dX5_init_1 (by decide) (by decide) rfl ?_
  refine l_aload (k := 0) C dX5_init_4 rfl ?_
  refine l_bipush C dX5_init_5 rfl ?_
  refine l_newa C 8 rfl (by decide) (by decide +kernel) (by decide) (by decide) dX5_init_7 fun a1 => ?_
  refine l_put (X' := [(a1, .inl (G.2.1.1, 8, .inl (fun _ => 0))), (q0, .inr (5, [vI 0, vI 0, vI 0, .ref a1, .null, .null, .null, .null, .null, .null, .null, .null]))]) C hinX5 tyX5_ok nmX5 1 rfl rfl 3 (by decide) (by decide +kernel) rfl (Or.inr ⟨rfl, rfl⟩) (tyX5_ok 3 (by decide)) rfl rfl (Nat.le_of_ble_eq_true rfl) dX5_init_9 rfl ?_
  refine l_aload (k := 0) C dX5_init_12 rfl ?_
  refine l_bipush C dX5_init_13 rfl ?_
  refine l_newa C 8 rfl (by decide) (by decide +kernel) (by decide) (by decide) dX5_init_15 fun a2 => ?_
  refine l_put (X' := [(a2, .inl (G.2.1.1, 8, .inl (fun _ => 0))), (a1, .inl (G.2.1.1, 8, .inl (fun _ => 0))), (q0, .inr (5, [vI 0, vI 0, vI 0, .ref a1, .ref a2, .null, .null, .null, .null, .null, .null, .null]))]) C hinX5 tyX5_ok nmX5 2 rfl rfl 4 (by decide) (by decide +kernel) rfl (Or.inr ⟨rfl, rfl⟩) (tyX5_ok 4 (by decide)) rfl rfl (Nat.le_of_ble_eq_true rfl) dX5_init_17 rfl ?_
  refine l_aload (k := 0) C dX5_init_20 rfl ?_
  refine l_bipush C dX5_init_21 rfl ?_
  refine l_newa C 8 rfl (by decide) (by decide +kernel) (by decide) (by decide) dX5_init_23 fun a3 => ?_
  refine l_put (X' := [(a3, .inl (G.2.1.1, 8, .inl (fun _ => 0))), (a2, .inl (G.2.1.1, 8, .inl (fun _ => 0))), (a1, .inl (G.2.1.1, 8, .inl (fun _ => 0))), (q0, .inr (5, [vI 0, vI 0, vI 0, .ref a1, .ref a2, .ref a3, .null, .null, .null, .null, .null, .null]))]) C hinX5 tyX5_ok nmX5 3 rfl rfl 5 (by decide) (by decide +kernel) rfl (Or.inr ⟨rfl, rfl⟩) (tyX5_ok 5 (by decide)) rfl rfl (Nat.le_of_ble_eq_true rfl) dX5_init_25 rfl ?_
  refine l_aload (k := 0) C dX5_init_28 rfl ?_
  refine l_bipush C dX5_init_29 rfl ?_
  refine l_newa C 8 rfl (by decide) (by decide +kernel) (by decide) (by decide) dX5_init_31 fun a4 => ?_
  refine l_put (X' := [(a4, .inl (G.2.1.1, 8, .inl (fun _ => 0))), (a3, .inl (G.2.1.1, 8, .inl (fun _ => 0))), (a2, .inl (G.2.1.1, 8, .inl (fun _ => 0))), (a1, .inl (G.2.1.1, 8, .inl (fun _ => 0))), (q0, .inr (5, [vI 0, vI 0, vI 0, .ref a1, .ref a2, .ref a3, .ref a4, .null, .null, .null, .null, .null]))]) C hinX5 tyX5_ok nmX5 4 rfl rfl 6 (by decide) (by decide +kernel) rfl (Or.inr ⟨rfl, rfl⟩) (tyX5_ok 6 (by decide)) rfl rfl (Nat.le_of_ble_eq_true rfl) dX5_init_33 rfl ?_
  refine l_aload (k := 0) C dX5_init_36 rfl ?_
  refine l_bipush C dX5_init_37 rfl ?_
  refine l_newa C 8 rfl (by decide) (by decide +kernel) (by decide) (by decide) dX5_init_39 fun a5 => ?_
  refine l_put (X' := [(a5, .inl (G.2.1.1, 8, .inl (fun _ => 0))), (a4, .inl (G.2.1.1, 8, .inl (fun _ => 0))), (a3, .inl (G.2.1.1, 8, .inl (fun _ => 0))), (a2, .inl (G.2.1.1, 8, .inl (fun _ => 0))), (a1, .inl (G.2.1.1, 8, .inl (fun _ => 0))), (q0, .inr (5, [vI 0, vI 0, vI 0, .ref a1, .ref a2, .ref a3, .ref a4, .ref a5, .null, .null, .null, .null]))]) C hinX5 tyX5_ok nmX5 5 rfl rfl 7 (by decide) (by decide +kernel) rfl (Or.inr ⟨rfl, rfl⟩) (tyX5_ok 7 (by decide)) rfl rfl (Nat.le_of_ble_eq_true rfl) dX5_init_41 rfl ?_
  refine l_aload (k := 0) C dX5_init_44 rfl ?_
  refine l_bipush C dX5_init_45 rfl ?_
  refine l_newa C 12 rfl (by decide) (by decide +kernel) (by decide) (by decide) dX5_init_47 fun a6 => ?_
  refine l_put (X' := [(a6, .inl (G.2.1.1, 12, .inl (fun _ => 0))), (a5, .inl (G.2.1.1, 8, .inl (fun _ => 0))), (a4, .inl (G.2.1.1, 8, .inl (fun _ => 0))), (a3, .inl (G.2.1.1, 8, .inl (fun _ => 0))), (a2, .inl (G.2.1.1, 8, .inl (fun _ => 0))), (a1, .inl (G.2.1.1, 8, .inl (fun _ => 0))), (q0, .inr (5, [vI 0, vI 0, vI 0, .ref a1, .ref a2, .ref a3, .ref a4, .ref a5, .ref a6, .null, .null, .null]))]) C hinX5 tyX5_ok nmX5 6 rfl rfl 8 (by decide) (by decide +kernel) rfl (Or.inr ⟨rfl, rfl⟩) (tyX5_ok 8 (by decide)) rfl rfl (Nat.le_of_ble_eq_true rfl) dX5_init_49 rfl ?_
  refine l_aload (k := 0) C dX5_init_52 rfl ?_
  refine l_bipush C dX5_init_53 rfl ?_
  refine l_newa C 12 rfl (by decide) (by decide +kernel) (by decide) (by decide) dX5_init_55 fun a7 => ?_
  refine l_put (X' := [(a7, .inl (G.2.1.1, 12, .inl (fun _ => 0))), (a6, .inl (G.2.1.1, 12, .inl (fun _ => 0))), (a5, .inl (G.2.1.1, 8, .inl (fun _ => 0))), (a4, .inl (G.2.1.1, 8, .inl (fun _ => 0))), (a3, .inl (G.2.1.1, 8, .inl (fun _ => 0))), (a2, .inl (G.2.1.1, 8, .inl (fun _ => 0))), (a1, .inl (G.2.1.1, 8, .inl (fun _ => 0))), (q0, .inr (5, [vI 0, vI 0, vI 0, .ref a1, .ref a2, .ref a3, .ref a4, .ref a5, .ref a6, .ref a7, .null, .null]))]) C hinX5 tyX5_ok nmX5 7 rfl rfl 9 (by decide) (by decide +kernel) rfl (Or.inr ⟨rfl, rfl⟩) (tyX5_ok 9 (by decide)) rfl rfl (Nat.le_of_ble_eq_true rfl) dX5_init_57 rfl ?_
  refine l_aload (k := 0) C dX5_init_60 rfl ?_
  refine l_new (ci := 4) C hinX4 tyX4_ok (by decide +kernel) (by decide +kernel) (by decide +kernel) rfl [vI 0, vI 0, vI 0, .null, .null, .null, .null, .null, .null, .null, .null, .null, .null, .null, .null, .null] (by decide) (by decide) (by decide) dX5_init_61 fun p1 => ?_
  refine l_dup C dX5_init_64 rfl ?_
  refine l_aload (k := 0) C dX5_init_65 rfl ?_
  refine l_callN C (rest := [.ref p1, .ref q0]) [.ref q0] 1 (c_X4_init B.2.1 G p1 q0) gX5_init_X4_init_n33 (host := "DrumTalkModel") (by decide +kernel) rfl rfl rfl (by decide +kernel) (by decide +kernel) rfl ⟨by decide, by decide, by decide +kernel⟩ (by decide) (by decide) ⟨by decide, by decide⟩ rfl rfl (Nat.le_of_ble_eq_true rfl) dX5_init_66 (fun Y hY => ?_)
  obtain ⟨S, rfl, rfl⟩ := PX4_SC hY
  refine l_put (X' := SC G S q0 (fun _ => 0) ++ [(a7, .inl (G.2.1.1, 12, .inl (fun _ => 0))), (a6, .inl (G.2.1.1, 12, .inl (fun _ => 0))), (a5, .inl (G.2.1.1, 8, .inl (fun _ => 0))), (a4, .inl (G.2.1.1, 8, .inl (fun _ => 0))), (a3, .inl (G.2.1.1, 8, .inl (fun _ => 0))), (a2, .inl (G.2.1.1, 8, .inl (fun _ => 0))), (a1, .inl (G.2.1.1, 8, .inl (fun _ => 0))), (q0, .inr (5, [vI 0, vI 0, vI 0, .ref a1, .ref a2, .ref a3, .ref a4, .ref a5, .ref a6, .ref a7, .ref (S 0), .null]))]) C hinX5 tyX5_ok nmX5 20 (fs := [vI 0, vI 0, vI 0, .ref a1, .ref a2, .ref a3, .ref a4, .ref a5, .ref a6, .ref a7, .null, .null]) rfl rfl 10 (by decide) (by decide +kernel) rfl (Or.inr ⟨rfl, rfl⟩) (tyX5_ok 10 (by decide)) rfl rfl (Nat.le_of_ble_eq_true rfl) dX5_init_69 rfl ?_
  refine l_aload (k := 0) C dX5_init_72 rfl ?_
  refine l_new (ci := 4) C hinX4 tyX4_ok (by decide +kernel) (by decide +kernel) (by decide +kernel) rfl [vI 0, vI 0, vI 0, .null, .null, .null, .null, .null, .null, .null, .null, .null, .null, .null, .null, .null] (by decide) (by decide) (by decide) dX5_init_73 fun p2 => ?_
  refine l_dup C dX5_init_76 rfl ?_
  refine l_aload (k := 0) C dX5_init_77 rfl ?_
  refine l_callN C (rest := [.ref p2, .ref q0]) [.ref q0] 1 (c_X4_init B.2.1 G p2 q0) gX5_init_X4_init_n33 (host := "DrumTalkModel") (by decide +kernel) rfl rfl rfl (by decide +kernel) (by decide +kernel) rfl ⟨by decide, by decide, by decide +kernel⟩ (by decide) (by decide) ⟨by decide, by decide⟩ rfl rfl (Nat.le_of_ble_eq_true rfl) dX5_init_78 (fun Y hY => ?_)
  obtain ⟨T, rfl, rfl⟩ := PX4_SC hY
  refine l_put (X' := SC G T q0 (fun _ => 0) ++ (SC G S q0 (fun _ => 0) ++ [(a7, .inl (G.2.1.1, 12, .inl (fun _ => 0))), (a6, .inl (G.2.1.1, 12, .inl (fun _ => 0))), (a5, .inl (G.2.1.1, 8, .inl (fun _ => 0))), (a4, .inl (G.2.1.1, 8, .inl (fun _ => 0))), (a3, .inl (G.2.1.1, 8, .inl (fun _ => 0))), (a2, .inl (G.2.1.1, 8, .inl (fun _ => 0))), (a1, .inl (G.2.1.1, 8, .inl (fun _ => 0))), (q0, .inr (5, [vI 0, vI 0, vI 0, .ref a1, .ref a2, .ref a3, .ref a4, .ref a5, .ref a6, .ref a7, .ref (S 0), .ref (T 0)]))])) C hinX5 tyX5_ok nmX5 33 (fs := [vI 0, vI 0, vI 0, .ref a1, .ref a2, .ref a3, .ref a4, .ref a5, .ref a6, .ref a7, .ref (S 0), .null]) rfl rfl 11 (by decide) (by decide +kernel) rfl (Or.inr ⟨rfl, rfl⟩) (tyX5_ok 11 (by decide)) rfl rfl (Nat.le_of_ble_eq_true rfl) dX5_init_81 rfl ?_
  refine l_iconst C dX5_init_84 ?_
  refine l_istore C dX5_init_85 rfl (by decide) rfl ?_
  exact L 96 0 (va8 q0 a1 a2 a3 a4 a5 a6 a7) S T (fun _ => 0) (by decide) rfl (fun j hj => by omega)
