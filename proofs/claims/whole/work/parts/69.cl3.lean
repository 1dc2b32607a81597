theorem WL.sub {B : Bx} {nL : Nat} {G : Gt} {A : Nat → Prop} {Q : State → Prop} {X : va_W} {cells slots pc : Nat} {lv lv' : List (Nat × Value)} {st : List Value} (ks : List Nat) (h : lv_pick lv ks = lv') (kk : WL B nL G A Q X cells slots pc lv' st) : WL B nL G A Q X cells slots pc lv st := fun H locs ls hP hD hS hl => kk H locs ls hP hD hS (lv_sub hl ks h)
theorem c_fill (l : Launch) (G : Gt) (q0 n : Nat) (f : Nat → Int32) (x : Int) (hn : n < 1000) : ConL l G yJ7_fill_53178 wsJ7_fill_53178 { frames := 0, cells := 0, slots := 0, locals := 0 } q0 (.inl (G.2.1.1, n, .inl f)) [.ref q0, vI x] (fun X => ∃ g : Nat → Int32, X = [(q0, .inl (G.2.1.1, n, .inl g))] ∧ ∀ j, j < n → g j = Int32.ofInt x) 0 0 := by
  refine ConL.head (cc := cJ7_fill_53178) (nL := 4) (by decide) rfl (Nat.le_of_ble_eq_true rfl) ?_
  intro B A hBl C hA
  have L : ∀ (m i : Nat) (f : Nat → Int32), i + m = n → (∀ j, j < i → f j = Int32.ofInt x) → WL B 4 G A (Ze B G A (fun X => ∃ g : Nat → Int32, X = [(q0, .inl (G.2.1.1, n, .inl g))] ∧ ∀ j, j < n → g j = Int32.ofInt x) 0 0) [(q0, .inl (G.2.1.1, n, .inl f))] 0 0 5 [(2, vI (i : Int)), (3, vI (n : Int)), (0, .ref q0), (1, vI x)] [] := by
    intro m
    induction m with
    | zero =>
      intro i f h1 h2
      refine l_iload (k := 0) C dJ7_fill_53178_5 rfl ?_
      refine l_iload (k := 1) C dJ7_fill_53178_6 rfl ?_
      refine l_icmp_ge C dJ7_fill_53178_7 rfl ⟨by omega, by omega⟩ ⟨by omega, by omega⟩ (fun _ => ?_) (fun h => by omega)
      exact l_ret C dJ7_fill_53178_20 ⟨f, rfl, fun j hj => h2 j (by omega)⟩ rfl rfl
    | succ m ih =>
      intro i f h1 h2
      refine l_iload (k := 0) C dJ7_fill_53178_5 rfl ?_
      refine l_iload (k := 1) C dJ7_fill_53178_6 rfl ?_
      refine l_icmp_ge C dJ7_fill_53178_7 rfl ⟨by omega, by omega⟩ ⟨by omega, by omega⟩ (fun h => by omega) (fun _ => ?_)
      refine l_aload (k := 2) C dJ7_fill_53178_10 rfl ?_
      refine l_iload (k := 0) C dJ7_fill_53178_11 rfl ?_
      refine l_iload (k := 3) C dJ7_fill_53178_12 rfl ?_
      refine l_iast (q0 := 0) (X' := [(q0, .inl (G.2.1.1, n, .inl (fun j => if j = i then Int32.ofInt x else f j)))]) C i rfl rfl (by omega) (by omega) dJ7_fill_53178_13 rfl ?_
      refine l_iinc (k := 0) C dJ7_fill_53178_14 rfl (by decide) rfl ?_
      refine l_goto (tgt := 5) C dJ7_fill_53178_17 rfl ?_
      refine ih (i + 1) _ (by omega) (fun j hj => ?_)
      by_cases hji : j = i
      · exact if_pos hji
      · exact (if_neg hji).trans (h2 j (by omega))
  refine l_iconst C dJ7_fill_53178_0 ?_
  refine l_istore C dJ7_fill_53178_1 rfl (by decide) rfl ?_
  refine l_aload (k := 1) C dJ7_fill_53178_2 rfl ?_
  refine l_alen (q0 := 0) C rfl dJ7_fill_53178_3 ?_
  refine l_istore C dJ7_fill_53178_4 rfl (by decide) rfl ?_
  refine WL.sub (lv' := [(2, vI ((0 : Nat) : Int)), (3, vI (n : Int)), (0, .ref q0), (1, vI x)]) [1, 0, 2, 3] rfl ?_
  exact L n 0 f (by omega) (fun j hj => by omega)
def PX1_init (G : Gt) (q0 : Nat) : va_W → Prop := fun X => ∃ a1 a2 a3 a4 : Nat, X = [(a4, .inl (G.2.1.1, 112, .inl (fun _ => 0))), (a3, .inl (G.2.1.1, 112, .inl (fun _ => 0))), (a2, .inl (G.2.1.1, 112, .inl (fun _ => 0))), (a1, .inl (G.2.1.1, 112, .inl (fun _ => 0))), (q0, .inr (1, [.ref a1, .ref a2, .ref a3, .ref a4, vI 0]))]
theorem c_X1_init (l : Launch) (G : Gt) (q0 : Nat) : ConL l G yX1_init wsX1_init { frames := 1, cells := 4, slots := 448, locals := 30 } q0 (.inr (1, [.null, .null, .null, .null, vI 0])) [.ref q0] (PX1_init G q0) 4 448 := by
  refine ConL.head (cc := cX1_init) (nL := 1) (by decide) rfl (Nat.le_of_ble_eq_true rfl) ?_
  intro B A hBl C hA
  have hinX1 : ∀ w ∈ u_ws RX1 TX1 5, w ∈ wsX1_init := by decide +kernel
  refine l_aload (k := 0) C dX1_init_0 rfl ?_
  refine l_objInit C (by decide +kernel) (by decide +kernel) (by decide +kernel) dX1_init_1 (by decide) (by decide) rfl ?_
  refine l_aload (k := 0) C dX1_init_4 rfl ?_
  refine l_bipush C dX1_init_5 rfl ?_
  refine l_newa C 112 rfl (by decide) (by decide +kernel) (by decide) (by decide) dX1_init_7 fun a1 => ?_
  refine l_put (X' := [(a1, .inl (G.2.1.1, 112, .inl (fun _ => 0))), (q0, .inr (1, [.ref a1, .null, .null, .null, vI 0]))]) C hinX1 tyX1_ok nmX1 1 rfl rfl 0 (by decide) (by decide +kernel) rfl (Or.inr ⟨rfl, rfl⟩) (tyX1_ok 0 (by decide)) rfl rfl (Nat.le_of_ble_eq_true rfl) dX1_init_9 rfl ?_
  refine l_aload (k := 0) C dX1_init_12 rfl ?_
  refine l_bipush C dX1_init_13 rfl ?_
  refine l_newa C 112 rfl (by decide) (by decide +kernel) (by decide) (by decide) dX1_init_15 fun a2 => ?_
  refine l_put (X' := [(a2, .inl (G.2.1.1, 112, .inl (fun _ => 0))), (a1, .inl (G.2.1.1, 112, .inl (fun _ => 0))), (q0, .inr (1, [.ref a1, .ref a2, .null, .null, vI 0]))]) C hinX1 tyX1_ok nmX1 2 rfl rfl 1 (by decide) (by decide +kernel) rfl (Or.inr ⟨rfl, rfl⟩) (tyX1_ok 1 (by decide)) rfl rfl (Nat.le_of_ble_eq_true rfl) dX1_init_17 rfl ?_
  refine l_aload (k := 0) C dX1_init_20 rfl ?_
  refine l_bipush C dX1_init_21 rfl ?_
  refine l_newa C 112 rfl (by decide) (by decide +kernel) (by decide) (by decide) dX1_init_23 fun a3 => ?_
  refine l_put (X' := [(a3, .inl (G.2.1.1, 112, .inl (fun _ => 0))), (a2, .inl (G.2.1.1, 112, .inl (fun _ => 0))), (a1, .inl (G.2.1.1, 112, .inl (fun _ => 0))), (q0, .inr (1, [.ref a1, .ref a2, .ref a3, .null, vI 0]))]) C hinX1 tyX1_ok nmX1 3 rfl rfl 2 (by decide) (by decide +kernel) rfl (Or.inr ⟨rfl, rfl⟩) (tyX1_ok 2 (by decide)) rfl rfl (Nat.le_of_ble_eq_true rfl) dX1_init_25 rfl ?_
  refine l_aload (k := 0) C dX1_init_28 rfl ?_
  refine l_bipush C dX1_init_29 rfl ?_
  refine l_newa C 112 rfl (by decide) (by decide +kernel) (by decide) (by decide) dX1_init_31 fun a4 => ?_
  refine l_put (X' := [(a4, .inl (G.2.1.1, 112, .inl (fun _ => 0))), (a3, .inl (G.2.1.1, 112, .inl (fun _ => 0))), (a2, .inl (G.2.1.1, 112, .inl (fun _ => 0))), (a1, .inl (G.2.1.1, 112, .inl (fun _ => 0))), (q0, .inr (1, [.ref a1, .ref a2, .ref a3, .ref a4, vI 0]))]) C hinX1 tyX1_ok nmX1 4 rfl rfl 3 (by decide) (by decide +kernel) rfl (Or.inr ⟨rfl, rfl⟩) (tyX1_ok 3 (by decide)) rfl rfl (Nat.le_of_ble_eq_true rfl) dX1_init_33 rfl ?_
  exact l_ret C dX1_init_36 ⟨a1, a2, a3, a4, rfl⟩ rfl rfl
def PX4_init (G : Gt) (q0 qm : Nat) : va_W → Prop := fun X => ∃ a1 a2 a3 a4 a5 a6 a7 a8 a9 a10 a11 a12 : Nat, X = [(a12, .inl (G.2.1.1, 1024, .inl (fun _ => 0))), (a11, .inl (G.2.1.1, 1024, .inl (fun _ => 0))), (a10, .inl (G.2.1.1, 1024, .inl (fun _ => 0))), (a9, .inl (G.2.1.1, 1024, .inl (fun _ => 0))), (a8, .inl (G.2.1.1, 1024, .inl (fun _ => 0))), (a7, .inl (G.2.1.1, 8, .inl (fun _ => 0))), (a6, .inl (G.2.1.1, 96, .inl (fun _ => 0))), (a5, .inl (G.2.1.1, 40, .inl (fun _ => 0))), (a4, .inl (G.2.1.1, 8, .inl (fun _ => 0))), (a3, .inl (G.2.1.1, 8, .inl (fun _ => 0))), (a2, .inl (G.2.1.1, 8, .inl (fun _ => 0))), (a1, .inl (G.2.1.1, 8, .inl (fun _ => 0))), (q0, .inr (4, [vI 0, vI 0, vI 0, .ref a1, .ref a2, .ref a3, .ref a4, .ref a5, .ref a6, .ref a7, .ref a8, .ref a9, .ref a10, .ref a11, .ref a12, .ref qm]))]
theorem c_X4_init (l : Launch) (G : Gt) (q0 qm : Nat) : ConL l G yX4_init wsX4_init { frames := 1, cells := 12, slots := 5296, locals := 30 } q0 (.inr (4, [vI 0, vI 0, vI 0, .null, .null, .null, .null, .null, .null, .null, .null, .null, .null, .null, .null, .null])) [.ref q0, .ref qm] (PX4_init G q0 qm) 12 5296 := by
  refine ConL.head (cc := cX4_init) (nL := 2) (by decide) rfl (Nat.le_of_ble_eq_true rfl) ?_
  intro B A hBl C hA
  have hinX4 : ∀ w ∈ u_ws RX4 TX4 16, w ∈ wsX4_init := by decide +kernel
  refine l_aload (k := 0) C dX4_init_0 rfl ?_
  refine l_aload (k := 1) C dX4_init_1 rfl ?_
  refine l_put (X' := [(q0, .inr (4, [vI 0, vI 0, vI 0, .null, .null, .null, .null, .null, .null, .null, .null, .null, .null, .null, .null, .ref qm]))]) C hinX4 tyX4_ok nmX4 0 rfl rfl 15 (by decide) (by decide +kernel) rfl (Or.inr ⟨rfl, rfl⟩) (tyX4_ok 15 (by decide)) rfl rfl (Nat.le_of_ble_eq_true rfl) dX4_init_2 rfl ?_
  refine l_aload (k := 0) C dX4_init_5 rfl ?_
  refine l_objInit C (by decide +kernel) (by decide +kernel) (by decide +kernel) dX4_init_6 (by decide) (by decide) rfl ?_
  refine l_aload (k := 0) C dX4_init_9 rfl ?_
  refine l_bipush C dX4_init_10 rfl ?_
  refine l_newa C 8 rfl (by decide) (by decide +kernel) (by decide) (by decide) dX4_init_12 fun a1 => ?_
  refine l_put (X' := [(a1, .inl (G.2.1.1, 8, .inl (fun _ => 0))), (q0, .inr (4, [vI 0, vI 0, vI 0, .ref a1, .null, .null, .null, .null, .null, .null, .null, .null, .null, .null, .null, .ref qm]))]) C hinX4 tyX4_ok nmX4 1 rfl rfl 3 (by decide) (by decide +kernel) rfl (Or.inr ⟨rfl, rfl⟩) (tyX4_ok 3 (by decide)) rfl rfl (Nat.le_of_ble_eq_true rfl) dX4_init_14 rfl ?_
  refine l_aload (k := 0) C dX4_init_17 rfl ?_
  refine l_bipush C dX4_init_18 rfl ?_
  refine l_newa C 8 rfl (by decide) (by decide +kernel) (by decide) (by decide) dX4_init_20 fun a2 => ?_
  refine l_put (X' := [(a2, .inl (G.2.1.1, 8, .inl (fun _ => 0))), (a1, .inl (G.2.1.1, 8, .inl (fun _ => 0))), (q0, .inr (4, [vI 0, vI 0, vI 0, .ref a1, .ref a2, .null, .null, .null, .null, .null, .null, .null, .null, .null, .null, .ref qm]))]) C hinX4 tyX4_ok nmX4 2 rfl rfl 4 (by decide) (by decide +kernel) rfl (Or.inr ⟨rfl, rfl⟩) (tyX4_ok 4 (by decide)) rfl rfl (Nat.le_of_ble_eq_true rfl) dX4_init_22 rfl ?_
  refine l_aload (k := 0) C dX4_init_25 rfl ?_
  refine l_bipush C dX4_init_26 rfl ?_
  refine l_newa C 8 rfl (by decide) (by decide +kernel) (by decide) (by decide) dX4_init_28 fun a3 => ?_
  refine l_put (X' := [(a3, .inl (G.2.1.1, 8, .inl (fun _ => 0))), (a2, .inl (G.2.1.1, 8, .inl (fun _ => 0))), (a1, .inl (G.2.1.1, 8, .inl (fun _ => 0))), (q0, .inr (4, [vI 0, vI 0, vI 0, .ref a1, .ref a2, .ref a3, .null, .null, .null, .null, .null, .null, .null, .null, .null, .ref qm]))]) C hinX4 tyX4_ok nmX4 3 rfl rfl 5 (by decide) (by decide +kernel) rfl (Or.inr ⟨rfl, rfl⟩) (tyX4_ok 5 (by decide)) rfl rfl (Nat.le_of_ble_eq_true rfl) dX4_init_30 rfl ?_
  refine l_aload (k := 0) C dX4_init_33 rfl ?_
  refine l_bipush C dX4_init_34 rfl ?_
  refine l_newa C 8 rfl (by decide) (by decide +kernel) (by decide) (by decide) dX4_init_36 fun a4 => ?_
  refine l_put (X' := [(a4, .inl (G.2.1.1, 8, .inl (fun _ => 0))), (a3, .inl (G.2.1.1, 8, .inl (fun _ => 0))), (a2, .inl (G.2.1.1, 8, .inl (fun _ => 0))), (a1, .inl (G.2.1.1, 8, .inl (fun _ => 0))), (q0, .inr (4, [vI 0, vI 0, vI 0, .ref a1, .ref a2, .ref a3, .ref a4, .null, .null, .null, .null, .null, .null, .null, .null, .ref qm]))]) C hinX4 tyX4_ok nmX4 4 rfl rfl 6 (by decide) (by decide +kernel) rfl (Or.inr ⟨rfl, rfl⟩) (tyX4_ok 6 (by decide)) rfl rfl (Nat.le_of_ble_eq_true rfl) dX4_init_38 rfl ?_
  refine l_aload (k := 0) C dX4_init_41 rfl ?_
  refine l_bipush C dX4_init_42 rfl ?_
  refine l_newa C 40 rfl (by decide) (by decide +kernel) (by decide) (by decide) dX4_init_44 fun a5 => ?_
  refine l_put (X' := [(a5, .inl (G.2.1.1, 40, .inl (fun _ => 0))), (a4, .inl (G.2.1.1, 8, .inl (fun _ => 0))), (a3, .inl (G.2.1.1, 8, .inl (fun _ => 0))), (a2, .inl (G.2.1.1, 8, .inl (fun _ => 0))), (a1, .inl (G.2.1.1, 8, .inl (fun _ => 0))), (q0, .inr (4, [vI 0, vI 0, vI 0, .ref a1, .ref a2, .ref a3, .ref a4, .ref a5, .null, .null, .null, .null, .null, .null, .null, .ref qm]))]) C hinX4 tyX4_ok nmX4 5 rfl rfl 7 (by decide) (by decide +kernel) rfl (Or.inr ⟨rfl, rfl⟩) (tyX4_ok 7 (by decide)) rfl rfl (Nat.le_of_ble_eq_true rfl) dX4_init_46 rfl ?_
  refine l_aload (k := 0) C dX4_init_49 rfl ?_
  refine l_bipush C dX4_init_50 rfl ?_
  refine l_newa C 96 rfl (by decide) (by decide +kernel) (by decide) (by decide) dX4_init_52 fun a6 => ?_
  refine l_put (X' := [(a6, .inl (G.2.1.1, 96, .inl (fun _ => 0))), (a5, .inl (G.2.1.1, 40, .inl (fun _ => 0))), (a4, .inl (G.2.1.1, 8, .inl (fun _ => 0))), (a3, .inl (G.2.1.1, 8, .inl (fun _ => 0))), (a2, .inl (G.2.1.1, 8, .inl (fun _ => 0))), (a1, .inl (G.2.1.1, 8, .inl (fun _ => 0))), (q0, .inr (4, [vI 0, vI 0, vI 0, .ref a1, .ref a2, .ref a3, .ref a4, .ref a5, .ref a6, .null, .null, .null, .null, .null, .null, .ref qm]))]) C hinX4 tyX4_ok nmX4 6 rfl rfl 8 (by decide) (by decide +kernel) rfl (Or.inr ⟨rfl, rfl⟩) (tyX4_ok 8 (by decide)) rfl rfl (Nat.le_of_ble_eq_true rfl) dX4_init_54 rfl ?_
  refine l_aload (k := 0) C dX4_init_57 rfl ?_
  refine l_bipush C dX4_init_58 rfl ?_
  refine l_newa C 8 rfl (by decide) (by decide +kernel) (by decide) (by decide) dX4_init_60 fun a7 => ?_
  refine l_put (X' := [(a7, .inl (G.2.1.1, 8, .inl (fun _ => 0))), (a6, .inl (G.2.1.1, 96, .inl (fun _ => 0))), (a5, .inl (G.2.1.1, 40, .inl (fun _ => 0))), (a4, .inl (G.2.1.1, 8, .inl (fun _ => 0))), (a3, .inl (G.2.1.1, 8, .inl (fun _ => 0))), (a2, .inl (G.2.1.1, 8, .inl (fun _ => 0))), (a1, .inl (G.2.1.1, 8, .inl (fun _ => 0))), (q0, .inr (4, [vI 0, vI 0, vI 0, .ref a1, .ref a2, .ref a3, .ref a4, .ref a5, .ref a6, .ref a7, .null, .null, .null, .null, .null, .ref qm]))]) C hinX4 tyX4_ok nmX4 7 rfl rfl 9 (by decide) (by decide +kernel) rfl (Or.inr ⟨rfl, rfl⟩) (tyX4_ok 9 (by decide)) rfl rfl (Nat.le_of_ble_eq_true rfl) dX4_init_62 rfl ?_
  refine l_aload (k := 0) C dX4_init_65 rfl ?_
  refine l_sipush C dX4_init_66 rfl ?_
  refine l_newa C 1024 rfl (by decide) (by decide +kernel) (by decide) (by decide) dX4_init_69 fun a8 => ?_
  refine l_put (X' := [(a8, .inl (G.2.1.1, 1024, .inl (fun _ => 0))), (a7, .inl (G.2.1.1, 8, .inl (fun _ => 0))), (a6, .inl (G.2.1.1, 96, .inl (fun _ => 0))), (a5, .inl (G.2.1.1, 40, .inl (fun _ => 0))), (a4, .inl (G.2.1.1, 8, .inl (fun _ => 0))), (a3, .inl (G.2.1.1, 8, .inl (fun _ => 0))), (a2, .inl (G.2.1.1, 8, .inl (fun _ => 0))), (a1, .inl (G.2.1.1, 8, .inl (fun _ => 0))), (q0, .inr (4, [vI 0, vI 0, vI 0, .ref a1, .ref a2, .ref a3, .ref a4, .ref a5, .ref a6, .ref a7, .ref a8, .null, .null, .null, .null, .ref qm]))]) C hinX4 tyX4_ok nmX4 8 rfl rfl 10 (by decide) (by decide +kernel) rfl (Or.inr ⟨rfl, rfl⟩) (tyX4_ok 10 (by decide)) rfl rfl (Nat.le_of_ble_eq_true rfl) dX4_init_71 rfl ?_
  refine l_aload (k := 0) C dX4_init_74 rfl ?_
  refine l_sipush C dX4_init_75 rfl ?_
  refine l_newa C 1024 rfl (by decide) (by decide +kernel) (by decide) (by decide) dX4_init_78 fun a9 => ?_
  refine l_put (X' := [(a9, .inl (G.2.1.1, 1024, .inl (fun _ => 0))), (a8, .inl (G.2.1.1, 1024, .inl (fun _ => 0))), (a7, .inl (G.2.1.1, 8, .inl (fun _ => 0))), (a6, .inl (G.2.1.1, 96, .inl (fun _ => 0))), (a5, .inl (G.2.1.1, 40, .inl (fun _ => 0))), (a4, .inl (G.2.1.1, 8, .inl (fun _ => 0))), (a3, .inl (G.2.1.1, 8, .inl (fun _ => 0))), (a2, .inl (G.2.1.1, 8, .inl (fun _ => 0))), (a1, .inl (G.2.1.1, 8, .inl (fun _ => 0))), (q0, .inr (4, [vI 0, vI 0, vI 0, .ref a1, .ref a2, .ref a3, .ref a4, .ref a5, .ref a6, .ref a7, .ref a8, .ref a9, .null, .null, .null, .ref qm]))]) C hinX4 tyX4_ok nmX4 9 rfl rfl 11 (by decide) (by decide +kernel) rfl (Or.inr ⟨rfl, rfl⟩) (tyX4_ok 11 (by decide)) rfl rfl (Nat.le_of_ble_eq_true rfl) dX4_init_80 rfl ?_
  refine l_aload (k := 0) C dX4_init_83 rfl ?_
  refine l_sipush C dX4_init_84 rfl ?_
  refine l_newa C 1024 rfl (by decide) (by decide +kernel) (by decide) (by decide) dX4_init_87 fun a10 => ?_
  refine l_put (X' := [(a10, .inl (G.2.1.1, 1024, .inl (fun _ => 0))), (a9, .inl (G.2.1.1, 1024, .inl (fun _ => 0))), (a8, .inl (G.2.1.1, 1024, .inl (fun _ => 0))), (a7, .inl (G.2.1.1, 8, .inl (fun _ => 0))), (a6, .inl (G.2.1.1, 96, .inl (fun _ => 0))), (a5, .inl (G.2.1.1, 40, .inl (fun _ => 0))), (a4, .inl (G.2.1.1, 8, .inl (fun _ => 0))), (a3, .inl (G.2.1.1, 8, .inl (fun _ => 0))), (a2, .inl (G.2.1.1, 8, .inl (fun _ => 0))), (a1, .inl (G.2.1.1, 8, .inl (fun _ => 0))), (q0, .inr (4, [vI 0, vI 0, vI 0, .ref a1, .ref a2, .ref a3, .ref a4, .ref a5, .ref a6, .ref a7, .ref a8, .ref a9, .ref a10, .null, .null, .ref qm]))]) C hinX4 tyX4_ok nmX4 10 rfl rfl 12 (by decide) (by decide +kernel) rfl (Or.inr ⟨rfl, rfl⟩) (tyX4_ok 12 (by decide)) rfl rfl (Nat.le_of_ble_eq_true rfl) dX4_init_89 rfl ?_
  refine l_aload (k := 0) C dX4_init_92 rfl ?_
  refine l_sipush C dX4_init_93 rfl ?_
  refine l_newa C 1024 rfl (by decide) (by decide +kernel) (by decide) (by decide) dX4_init_96 fun a11 => ?_
  refine l_put (X' := [(a11, .inl (G.2.1.1, 1024, .inl (fun _ => 0))), (a10, .inl (G.2.1.1, 1024, .inl (fun _ => 0))), (a9, .inl (G.2.1.1, 1024, .inl (fun _ => 0))), (a8, .inl (G.2.1.1, 1024, .inl (fun _ => 0))), (a7, .inl (G.2.1.1, 8, .inl (fun _ => 0))), (a6, .inl (G.2.1.1, 96, .inl (fun _ => 0))), (a5, .inl (G.2.1.1, 40, .inl (fun _ => 0))), (a4, .inl (G.2.1.1, 8, .inl (fun _ => 0))), (a3, .inl (G.2.1.1, 8, .inl (fun _ => 0))), (a2, .inl (G.2.1.1, 8, .inl (fun _ => 0))), (a1, .inl (G.2.1.1, 8, .inl (fun _ => 0))), (q0, .inr (4, [vI 0, vI 0, vI 0, .ref a1, .ref a2, .ref a3, .ref a4, .ref a5, .ref a6, .ref a7, .ref a8, .ref a9, .ref a10, .ref a11, .null, .ref qm]))]) C hinX4 tyX4_ok nmX4 11 rfl rfl 13 (by decide) (by decide +kernel) rfl (Or.inr ⟨rfl, rfl⟩) (tyX4_ok 13 (by decide)) rfl rfl (Nat.le_of_ble_eq_true rfl) dX4_init_98 rfl ?_
  refine l_aload (k := 0) C dX4_init_101 rfl ?_
  refine l_sipush C dX4_init_102 rfl ?_
  refine l_newa C 1024 rfl (by decide) (by decide +kernel) (by decide) (by decide) dX4_init_105 fun a12 => ?_
  refine l_put (X' := [(a12, .inl (G.2.1.1, 1024, .inl (fun _ => 0))), (a11, .inl (G.2.1.1, 1024, .inl (fun _ => 0))), (a10, .inl (G.2.1.1, 1024, .inl (fun _ => 0))), (a9, .inl (G.2.1.1, 1024, .inl (fun _ => 0))), (a8, .inl (G.2.1.1, 1024, .inl (fun _ => 0))), (a7, .inl (G.2.1.1, 8, .inl (fun _ => 0))), (a6, .inl (G.2.1.1, 96, .inl (fun _ => 0))), (a5, .inl (G.2.1.1, 40, .inl (fun _ => 0))), (a4, .inl (G.2.1.1, 8, .inl (fun _ => 0))), (a3, .inl (G.2.1.1, 8, .inl (fun _ => 0))), (a2, .inl (G.2.1.1, 8, .inl (fun _ => 0))), (a1, .inl (G.2.1.1, 8, .inl (fun _ => 0))), (q0, .inr (4, [vI 0, vI 0, vI 0, .ref a1, .ref a2, .ref a3, .ref a4, .ref a5, .ref a6, .ref a7, .ref a8, .ref a9, .ref a10, .ref a11, .ref a12, .ref qm]))]) C hinX4 tyX4_ok nmX4 12 rfl rfl 14 (by decide) (by decide +kernel) rfl (Or.inr ⟨rfl, rfl⟩) (tyX4_ok 14 (by decide)) rfl rfl (Nat.le_of_ble_eq_true rfl) dX4_init_107 rfl ?_
  exact l_ret C dX4_init_110 ⟨a1, a2, a3, a4, a5, a6, a7, a8, a9, a10, a11, a12, rfl⟩ rfl rfl
def PX2_init (G : Gt) (q0 : Nat) : va_W → Prop := fun X => ∃ (a1 a2 a3 b1 b2 b3 b4 : Nat) (g : Nat → Int32), X = [(a2, .inl (G.2.1.1, 12, .inl g)), (b4, .inl (G.2.1.1, 112, .inl (fun _ => 0))), (b3, .inl (G.2.1.1, 112, .inl (fun _ => 0))), (b2, .inl (G.2.1.1, 112, .inl (fun _ => 0))), (b1, .inl (G.2.1.1, 112, .inl (fun _ => 0))), (a3, .inr (1, [.ref b1, .ref b2, .ref b3, .ref b4, vI 0])), (a1, .inl (G.2.1.1, 5, .inl (fun _ => 0))), (q0, .inr (2, [vI 0, vI 0, vI 1, vI 0, vI 0, vI 24, vI (-1), vI 0, .ref a1, vI 0, .ref a2, .ref a3, vI 0]))] ∧ ∀ j, j < 12 → g j = Int32.ofInt (-1)
theorem c_X2_init (l : Launch) (G : Gt) (q0 : Nat) : ConL l G yX2_init wsX2_init { frames := 2, cells := 7, slots := 470, locals := 60 } q0 (.inr (2, [vI 0, vI 0, vI 0, vI 0, vI 0, vI 0, vI 0, vI 0, .null, vI 0, .null, .null, vI 0])) [.ref q0] (PX2_init G q0) 7 470 := by
  refine ConL.head (cc := cX2_init) (nL := 1) (by decide) rfl (Nat.le_of_ble_eq_true rfl) ?_
  intro B A hBl C hA
  have hinX2 : ∀ w ∈ u_ws RX2 TX2 13, w ∈ wsX2_init := by decide +kernel
  have hinX1 : ∀ w ∈ u_ws RX1 TX1 5, w ∈ wsX2_init := by decide +kernel
  refine l_aload (k := 0) C dX2_init_0 rfl ?_
  refine l_objInit C (by decide +kernel) (by decide +kernel) (by decide +kernel) dX2_init_1 (by decide) (by decide) rfl ?_
  refine l_aload (k := 0) C dX2_init_4 rfl ?_
  refine l_iconst C dX2_init_5 ?_
  refine l_put (X' := [(q0, .inr (2, [vI 0, vI 0, vI 1, vI 0, vI 0, vI 0, vI 0, vI 0, .null, vI 0, .null, .null, vI 0]))]) C hinX2 tyX2_ok nmX2 0 rfl rfl 2 (by decide) (by decide +kernel) rfl (Or.inl rfl) (tyX2_ok 2 (by decide)) rfl rfl (Nat.le_of_ble_eq_true rfl) dX2_init_6 rfl ?_
  refine l_aload (k := 0) C dX2_init_9 rfl ?_
  refine l_bipush C dX2_init_10 rfl ?_
  refine l_put (X' := [(q0, .inr (2, [vI 0, vI 0, vI 1, vI 0, vI 0, vI 24, vI 0, vI 0, .null, vI 0, .null, .null, vI 0]))]) C hinX2 tyX2_ok nmX2 0 rfl rfl 5 (by decide) (by decide +kernel) rfl (Or.inl rfl) (tyX2_ok 5 (by decide)) rfl rfl (Nat.le_of_ble_eq_true rfl) dX2_init_12 rfl ?_
  refine l_aload (k := 0) C dX2_init_15 rfl ?_
  refine l_iconst C dX2_init_16 ?_
  refine l_put (X' := [(q0, .inr (2, [vI 0, vI 0, vI 1, vI 0, vI 0, vI 24, vI (-1), vI 0, .null, vI 0, .null, .null, vI 0]))]) C hinX2 tyX2_ok nmX2 0 rfl rfl 6 (by decide) (by decide +kernel) rfl (Or.inl rfl) (tyX2_ok 6 (by decide)) rfl rfl (Nat.le_of_ble_eq_true rfl) dX2_init_17 rfl ?_
  refine l_aload (k := 0) C dX2_init_20 rfl ?_
  refine l_iconst C dX2_init_21 ?_
  refine l_newa C 5 rfl (by decide) (by decide +kernel) (by decide) (by decide) dX2_init_22 fun a1 => ?_
  refine l_put (X' := [(a1, .inl (G.2.1.1, 5, .inl (fun _ => 0))), (q0, .inr (2, [vI 0, vI 0, vI 1, vI 0, vI 0, vI 24, vI (-1), vI 0, .ref a1, vI 0, .null, .null, vI 0]))]) C hinX2 tyX2_ok nmX2 1 rfl rfl 8 (by decide) (by decide +kernel) rfl (Or.inr ⟨rfl, rfl⟩) (tyX2_ok 8 (by decide)) rfl rfl (Nat.le_of_ble_eq_true rfl) dX2_init_24 rfl ?_
  refine l_aload (k := 0) C dX2_init_27 rfl ?_
  refine l_bipush C dX2_init_28 rfl ?_
  refine l_newa C 12 rfl (by decide) (by decide +kernel) (by decide) (by decide) dX2_init_30 fun a2 => ?_
  refine l_put (X' := [(a2, .inl (G.2.1.1, 12, .inl (fun _ => 0))), (a1, .inl (G.2.1.1, 5, .inl (fun _ => 0))), (q0, .inr (2, [vI 0, vI 0, vI 1, vI 0, vI 0, vI 24, vI (-1), vI 0, .ref a1, vI 0, .ref a2, .null, vI 0]))]) C hinX2 tyX2_ok nmX2 2 rfl rfl 10 (by decide) (by decide +kernel) rfl (Or.inr ⟨rfl, rfl⟩) (tyX2_ok 10 (by decide)) rfl rfl (Nat.le_of_ble_eq_true rfl) dX2_init_32 rfl ?_
  refine l_aload (k := 0) C dX2_init_35 rfl ?_
  refine l_new (ci := 1) C hinX1 tyX1_ok (by decide +kernel) (by decide +kernel) (by decide +kernel) rfl [.null, .null, .null, .null, vI 0] (by decide) (by decide) (by decide) dX2_init_36 fun a3 => ?_
  refine l_dup C dX2_init_39 rfl ?_
  refine l_callN C (rest := [.ref a3, .ref q0]) [] 0 (c_X1_init B.2.1 G a3) gX2_init_X1_init_n30 (host := "DrumTalk") (by decide +kernel) rfl rfl rfl (by decide +kernel) (by decide +kernel) rfl ⟨by decide, by decide, by decide +kernel⟩ (by decide) (by decide) ⟨by decide, by decide⟩ rfl rfl (Nat.le_of_ble_eq_true rfl) dX2_init_40 (fun Y hY => ?_)
  obtain ⟨b1, b2, b3, b4, rfl⟩ := hY
  refine l_put (X' := [(b4, .inl (G.2.1.1, 112, .inl (fun _ => 0))), (b3, .inl (G.2.1.1, 112, .inl (fun _ => 0))), (b2, .inl (G.2.1.1, 112, .inl (fun _ => 0))), (b1, .inl (G.2.1.1, 112, .inl (fun _ => 0))), (a3, .inr (1, [.ref b1, .ref b2, .ref b3, .ref b4, vI 0])), (a2, .inl (G.2.1.1, 12, .inl (fun _ => 0))), (a1, .inl (G.2.1.1, 5, .inl (fun _ => 0))), (q0, .inr (2, [vI 0, vI 0, vI 1, vI 0, vI 0, vI 24, vI (-1), vI 0, .ref a1, vI 0, .ref a2, .ref a3, vI 0]))]) C hinX2 tyX2_ok nmX2 7 rfl rfl 11 (by decide) (by decide +kernel) rfl (Or.inr ⟨rfl, rfl⟩) (tyX2_ok 11 (by decide)) rfl rfl (Nat.le_of_ble_eq_true rfl) dX2_init_43 rfl ?_
  refine l_aload (k := 0) C dX2_init_46 rfl ?_
  refine l_get C hinX2 7 (fs := [vI 0, vI 0, vI 1, vI 0, vI 0, vI 24, vI (-1), vI 0, .ref a1, vI 0, .ref a2, .ref a3, vI 0]) rfl rfl 10 (by decide) (by decide +kernel) rfl rfl dX2_init_47 ?_
  refine l_iconst C dX2_init_50 ?_
  refine l_perm (X' := [(a2, .inl (G.2.1.1, 12, .inl (fun _ => 0))), (b4, .inl (G.2.1.1, 112, .inl (fun _ => 0))), (b3, .inl (G.2.1.1, 112, .inl (fun _ => 0))), (b2, .inl (G.2.1.1, 112, .inl (fun _ => 0))), (b1, .inl (G.2.1.1, 112, .inl (fun _ => 0))), (a3, .inr (1, [.ref b1, .ref b2, .ref b3, .ref b4, vI 0])), (a1, .inl (G.2.1.1, 5, .inl (fun _ => 0))), (q0, .inr (2, [vI 0, vI 0, vI 1, vI 0, vI 0, vI 24, vI (-1), vI 0, .ref a1, vI 0, .ref a2, .ref a3, vI 0]))]) [5, 0, 1, 2, 3, 4, 6, 7] rfl rfl rfl ?_
  refine l_callS C (rest := []) [.ref a2, vI (-1)] 2 (c_fill B.2.1 G a2 12 (fun _ => 0) (-1) (by decide)) gX2_init_J7_fill_53178 rfl rfl rfl ⟨by decide, by decide, by decide +kernel⟩ (by decide) (by decide) ⟨by decide, by decide⟩ rfl rfl (Nat.le_of_ble_eq_true rfl) dX2_init_51 (fun Y hY => ?_)
  obtain ⟨g, rfl, hg⟩ := hY
  exact l_ret C dX2_init_54 ⟨a1, a2, a3, b1, b2, b3, b4, g, rfl, hg⟩ rfl rfl
