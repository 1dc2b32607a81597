/-! the new world's cells by their keys -/
def kV (t v : Nat) : List Ky := [(t, v, 2), (t, v, 7), (t, v, 6), (t, v, 5), (t, v, 4), (t, v, 3), (t, v, 1), (t, v, 0)]
def k4 (t : Nat) : List Ky := [(t, 8, 2), (t, 8, 1), (t, 8, 3), (t, 8, 0)]
def kL (t : Nat) : List Ky := k4 t ++ (kV t 7 ++ (kV t 6 ++ (kV t 5 ++ (kV t 4 ++ (kV t 3 ++ (kV t 2 ++ (kV t 1 ++ (kV t 0 ++ []))))))))
def kS (u : Nat) : List Ky := [(u, 0, 12), (u, 0, 11), (u, 0, 10), (u, 0, 9), (u, 0, 8), (u, 0, 7), (u, 0, 6), (u, 0, 5), (u, 0, 4), (u, 0, 3), (u, 0, 2), (u, 0, 1), (u, 0, 0)]
def kM : List Ky := [(3, 0, 7), (3, 0, 6), (3, 0, 5), (3, 0, 4), (3, 0, 3), (3, 0, 2), (3, 0, 1), (3, 0, 0)]
def KS : List Ky := (6, 0, 0) :: ((kS 5 ++ (kS 4 ++ kM)) ++ ((2, 0, 0) :: (kL 1 ++ kL 0)))
def adW (V V1 : Nat → Nat → Nat) (M S T : Nat → Nat) (qd qo : Nat) : Ky → Nat := fun k => match k.1 with | 0 => V k.2.1 k.2.2 | 1 => V1 k.2.1 k.2.2 | 2 => qd | 3 => M k.2.2 | 4 => S k.2.2 | 5 => T k.2.2 | _ => qo
def XW (G : Gt) (V V1 : Nat → Nat → Nat) (K K1 : Nat → Nat → Int32) (f f1 : Nat → Option Nat) (M S T : Nat → Nat) (g : Nat → Int32) (qd qo : Nat) : va_W := (qo, .inl (G.2.1.2.2, 1, .inr (.inl (fun _ => 0)))) :: ((SC G T (M 0) (fun _ => 0) ++ (SC G S (M 0) g ++ MC G M (S 0) (T 0))) ++ ((qd, .inr (3, [.ref (V 8 0), .ref (V1 8 0)])) :: (LC G V1 K1 f1 ++ LC G V K f)))
theorem inj_map {l : List Ky} {f : Ky → Nat} (h : (l.map f).Nodup) : ∀ a, a ∈ l → ∀ b, b ∈ l → f a = f b → a = b := by
  induction l with
  | nil => intro a ha; cases ha
  | cons x l ih =>
    rw [List.map_cons, List.nodup_cons] at h
    intro a ha b hb e
    rcases List.mem_cons.mp ha with h1 | ha
    · rcases List.mem_cons.mp hb with h2 | hb
      · rw [h1, h2]
      · refine absurd ?_ h.1
        rw [← h1, e]
        exact List.mem_map_of_mem hb
    · rcases List.mem_cons.mp hb with h2 | hb
      · refine absurd ?_ h.1
        rw [← h2, ← e]
        exact List.mem_map_of_mem ha
      · exact ih h.2 a ha b hb e
theorem kd_bd {k : Ky} (h : (kd k).1 < 9) : k.2.1 ≤ 8 ∧ k.2.2 ≤ 12 := by
  constructor
  · refine Nat.not_lt.mp (fun q => ?_)
    have h1 : ¬ k.2.1 ≤ 7 := by omega
    have h2 : ¬ k.2.1 = 8 := by omega
    have h3 : ¬ k.2.1 = 0 := by omega
    unfold kd at h
    rw [if_neg h1, if_neg h2, if_neg h3] at h
    simp at h
  · refine Nat.not_lt.mp (fun q => ?_)
    obtain ⟨n, hn⟩ : ∃ n, k.2.2 = n + 13 := ⟨k.2.2 - 13, by omega⟩
    unfold kd at h
    rw [hn] at h
    revert h
    split
    · split
      · simp
      · split <;> simp
    · split
      · split <;> simp
      · simp
set_option maxRecDepth 20000 in
theorem KS_all : ((List.range 7).all fun t => (List.range 9).all fun v => (List.range 13).all fun p => decide (9 ≤ (kd (t, v, p)).1) || decide ((t, v, p) ∈ KS)) = true := by decide +kernel
theorem KS_in {k : Ky} (h : (kd k).1 < 9) (h6 : k.1 ≤ 6) : k ∈ KS := by
  obtain ⟨h1, h2⟩ := kd_bd h
  have a := List.all_eq_true.mp KS_all k.1 (List.mem_range.mpr (by omega))
  have b := List.all_eq_true.mp a k.2.1 (List.mem_range.mpr (by omega))
  have c := List.all_eq_true.mp b k.2.2 (List.mem_range.mpr (by omega))
  rcases Bool.or_eq_true_iff.mp c with d | d
  · have d1 : 9 ≤ (kd k).1 := of_decide_eq_true d
    omega
  · exact of_decide_eq_true d
set_option maxRecDepth 20000 in
theorem KS_no : (7, 0, 0) ∉ KS ∧ (7, 0, 1) ∉ KS := by decide +kernel
theorem aV {c : ClassId} {n : Nat} {f g : Nat → Value} (h : ∀ j, j < n → f j = g j) : arrV c n f = arrV c n g := by
  unfold arrV
  congr 2
  funext j
  exact h j.val j.isLt
theorem at_fn {D : va_G} {cl : List vw_C} {q n : Nat} {c : ClassId} {f g : Nat → Int32} {H : Heap} (h : ∀ j, j < n → f j = g j) (ha : va_at D cl (q, .inl (c, n, .inl f)) H) : va_at D cl (q, .inl (c, n, .inl g)) H := by
  have e : vp_cell c (n, .inl f) = vp_cell c (n, .inl g) := by
    rw [vp_cell_i, vp_cell_i]
    exact aV (fun j hj => by show Value.int (f j) = Value.int (g j); rw [h j hj])
  show H[q]? = some (vp_cell c (n, .inl g))
  rw [← e]
  exact ha
theorem at_fq {D : va_G} {cl : List vw_C} {q n : Nat} {c : ClassId} {f g : Nat → Option Nat} {H : Heap} (h : ∀ j, j < n → f j = g j) (ha : va_at D cl (q, .inl (c, n, .inr (.inr (.inr (.inr f))))) H) : va_at D cl (q, .inl (c, n, .inr (.inr (.inr (.inr g))))) H := by
  have e : vp_cell c (n, .inr (.inr (.inr (.inr f)))) = vp_cell c (n, .inr (.inr (.inr (.inr g)))) := by
    rw [vp_cell_q, vp_cell_q]
    exact aV (fun j hj => by show va_rf (f j) = va_rf (g j); rw [h j hj])
  show H[q]? = some (vp_cell c (n, .inr (.inr (.inr (.inr g)))))
  rw [← e]
  exact ha
theorem VC_at {G : Gt} {a : Nat → Nat} {g g' : Nat → Int32} {H : Heap} (h : ∀ p, p < 12 → g p = g' p) (hP : ∀ q ∈ VC G a g, va_at G.1 vwCl q H) : ∀ q ∈ VC G a g', va_at G.1 vwCl q H := by
  intro q hq
  unfold VC at hP hq
  rcases List.mem_cons.mp hq with rfl | hq
  · exact at_fn h (hP _ List.mem_cons_self)
  · exact hP q (List.mem_cons_of_mem _ hq)
theorem VCs_at {G : Gt} {V : Nat → Nat → Nat} {K K' : Nat → Nat → Int32} {H : Heap} : ∀ n, (∀ j, j < n → ∀ p, p < 12 → K j p = K' j p) → (∀ q ∈ VCs G V K n, va_at G.1 vwCl q H) → ∀ q ∈ VCs G V K' n, va_at G.1 vwCl q H
  | 0, _, _ => fun q hq => absurd hq List.not_mem_nil
  | n + 1, h, hP => by
    intro q hq
    rcases List.mem_append.mp hq with hq | hq
    · exact VC_at (h n (by omega)) (fun q hq => hP q (List.mem_append_left _ hq)) q hq
    · exact VCs_at n (fun j hj => h j (by omega)) (fun q hq => hP q (List.mem_append_right _ hq)) q hq
theorem LC_at {G : Gt} {V : Nat → Nat → Nat} {K : Nat → Nat → Int32} {f : Nat → Option Nat} {H : Heap} (h : LOk V K f) (hP : ∀ q ∈ LC G V K f, va_at G.1 vwCl q H) : ∀ q ∈ LC G V (fun _ _ => Int32.ofInt (-1)) (fun j => some (V j 0)), va_at G.1 vwCl q H := by
  intro q hq
  rcases List.mem_append.mp hq with hq | hq
  · have hP4 : ∀ q ∈ LC4 G (V 8) f, va_at G.1 vwCl q H := fun q hq => hP q (List.mem_append_left _ hq)
    unfold LC4 at hP4 hq
    rcases List.mem_cons.mp hq with rfl | hq
    · exact hP4 _ List.mem_cons_self
    rcases List.mem_cons.mp hq with rfl | hq
    · exact hP4 _ (List.mem_cons_of_mem _ List.mem_cons_self)
    rcases List.mem_cons.mp hq with rfl | hq
    · exact at_fq h.1 (hP4 _ (List.mem_cons_of_mem _ (List.mem_cons_of_mem _ List.mem_cons_self)))
    · exact hP4 _ (List.mem_cons_of_mem _ (List.mem_cons_of_mem _ (List.mem_cons_of_mem _ hq)))
  · exact VCs_at 8 h.2 (fun q hq => hP q (List.mem_append_right _ hq)) q hq
theorem SC_at {G : Gt} {a : Nat → Nat} {qm : Nat} {g g' : Nat → Int32} {H : Heap} (h : ∀ p, p < 96 → g p = g' p) (hP : ∀ q ∈ SC G a qm g, va_at G.1 vwCl q H) : ∀ q ∈ SC G a qm g', va_at G.1 vwCl q H := by
  intro q hq
  have e : ∀ x, SC G a qm x = (SC G a qm (fun _ => 0)).take 6 ++ ((a 6, .inl (G.2.1.1, 96, .inl x)) :: (SC G a qm (fun _ => 0)).drop 7) := fun x => rfl
  rw [e] at hP hq
  rcases List.mem_append.mp hq with hq | hq
  · exact hP q (List.mem_append_left _ hq)
  · rcases List.mem_cons.mp hq with rfl | hq
    · exact at_fn h (hP _ (List.mem_append_right _ List.mem_cons_self))
    · exact hP q (List.mem_append_right _ (List.mem_cons_of_mem _ hq))
def FW (G : Gt) (ad : Ky → Nat) : Ky → Nat × va_E := fun k => (ad k, ent G.2.1 ad w0 k)
theorem vc_0_0 {G : Gt} {V V1 : Nat → Nat → Nat} {M S T : Nat → Nat} {qd qo : Nat} : VC G (V 0) (fun _ => Int32.ofInt (-1)) = (kV 0 0).map (FW G (adW V V1 M S T qd qo)) := rfl
theorem vc_0_1 {G : Gt} {V V1 : Nat → Nat → Nat} {M S T : Nat → Nat} {qd qo : Nat} : VC G (V 1) (fun _ => Int32.ofInt (-1)) = (kV 0 1).map (FW G (adW V V1 M S T qd qo)) := rfl
theorem vc_0_2 {G : Gt} {V V1 : Nat → Nat → Nat} {M S T : Nat → Nat} {qd qo : Nat} : VC G (V 2) (fun _ => Int32.ofInt (-1)) = (kV 0 2).map (FW G (adW V V1 M S T qd qo)) := rfl
theorem vc_0_3 {G : Gt} {V V1 : Nat → Nat → Nat} {M S T : Nat → Nat} {qd qo : Nat} : VC G (V 3) (fun _ => Int32.ofInt (-1)) = (kV 0 3).map (FW G (adW V V1 M S T qd qo)) := rfl
theorem vc_0_4 {G : Gt} {V V1 : Nat → Nat → Nat} {M S T : Nat → Nat} {qd qo : Nat} : VC G (V 4) (fun _ => Int32.ofInt (-1)) = (kV 0 4).map (FW G (adW V V1 M S T qd qo)) := rfl
theorem vc_0_5 {G : Gt} {V V1 : Nat → Nat → Nat} {M S T : Nat → Nat} {qd qo : Nat} : VC G (V 5) (fun _ => Int32.ofInt (-1)) = (kV 0 5).map (FW G (adW V V1 M S T qd qo)) := rfl
theorem vc_0_6 {G : Gt} {V V1 : Nat → Nat → Nat} {M S T : Nat → Nat} {qd qo : Nat} : VC G (V 6) (fun _ => Int32.ofInt (-1)) = (kV 0 6).map (FW G (adW V V1 M S T qd qo)) := rfl
theorem vc_0_7 {G : Gt} {V V1 : Nat → Nat → Nat} {M S T : Nat → Nat} {qd qo : Nat} : VC G (V 7) (fun _ => Int32.ofInt (-1)) = (kV 0 7).map (FW G (adW V V1 M S T qd qo)) := rfl
theorem l4_0 {G : Gt} {V V1 : Nat → Nat → Nat} {M S T : Nat → Nat} {qd qo : Nat} : LC4 G (V 8) (fun j => some (V j 0)) = (k4 0).map (FW G (adW V V1 M S T qd qo)) := rfl
theorem lc_0 {G : Gt} {V V1 : Nat → Nat → Nat} {M S T : Nat → Nat} {qd qo : Nat} : LC G V (fun _ _ => Int32.ofInt (-1)) (fun j => some (V j 0)) = (kL 0).map (FW G (adW V V1 M S T qd qo)) := by
  unfold kL
  rw [List.map_append, List.map_append, List.map_append, List.map_append, List.map_append, List.map_append, List.map_append, List.map_append, List.map_append, List.map_nil, ← l4_0, ← vc_0_7, ← vc_0_6, ← vc_0_5, ← vc_0_4, ← vc_0_3, ← vc_0_2, ← vc_0_1, ← vc_0_0]
  rfl
theorem vc_1_0 {G : Gt} {V V1 : Nat → Nat → Nat} {M S T : Nat → Nat} {qd qo : Nat} : VC G (V1 0) (fun _ => Int32.ofInt (-1)) = (kV 1 0).map (FW G (adW V V1 M S T qd qo)) := rfl
theorem vc_1_1 {G : Gt} {V V1 : Nat → Nat → Nat} {M S T : Nat → Nat} {qd qo : Nat} : VC G (V1 1) (fun _ => Int32.ofInt (-1)) = (kV 1 1).map (FW G (adW V V1 M S T qd qo)) := rfl
theorem vc_1_2 {G : Gt} {V V1 : Nat → Nat → Nat} {M S T : Nat → Nat} {qd qo : Nat} : VC G (V1 2) (fun _ => Int32.ofInt (-1)) = (kV 1 2).map (FW G (adW V V1 M S T qd qo)) := rfl
theorem vc_1_3 {G : Gt} {V V1 : Nat → Nat → Nat} {M S T : Nat → Nat} {qd qo : Nat} : VC G (V1 3) (fun _ => Int32.ofInt (-1)) = (kV 1 3).map (FW G (adW V V1 M S T qd qo)) := rfl
theorem vc_1_4 {G : Gt} {V V1 : Nat → Nat → Nat} {M S T : Nat → Nat} {qd qo : Nat} : VC G (V1 4) (fun _ => Int32.ofInt (-1)) = (kV 1 4).map (FW G (adW V V1 M S T qd qo)) := rfl
theorem vc_1_5 {G : Gt} {V V1 : Nat → Nat → Nat} {M S T : Nat → Nat} {qd qo : Nat} : VC G (V1 5) (fun _ => Int32.ofInt (-1)) = (kV 1 5).map (FW G (adW V V1 M S T qd qo)) := rfl
theorem vc_1_6 {G : Gt} {V V1 : Nat → Nat → Nat} {M S T : Nat → Nat} {qd qo : Nat} : VC G (V1 6) (fun _ => Int32.ofInt (-1)) = (kV 1 6).map (FW G (adW V V1 M S T qd qo)) := rfl
theorem vc_1_7 {G : Gt} {V V1 : Nat → Nat → Nat} {M S T : Nat → Nat} {qd qo : Nat} : VC G (V1 7) (fun _ => Int32.ofInt (-1)) = (kV 1 7).map (FW G (adW V V1 M S T qd qo)) := rfl
theorem l4_1 {G : Gt} {V V1 : Nat → Nat → Nat} {M S T : Nat → Nat} {qd qo : Nat} : LC4 G (V1 8) (fun j => some (V1 j 0)) = (k4 1).map (FW G (adW V V1 M S T qd qo)) := rfl
theorem lc_1 {G : Gt} {V V1 : Nat → Nat → Nat} {M S T : Nat → Nat} {qd qo : Nat} : LC G V1 (fun _ _ => Int32.ofInt (-1)) (fun j => some (V1 j 0)) = (kL 1).map (FW G (adW V V1 M S T qd qo)) := by
  unfold kL
  rw [List.map_append, List.map_append, List.map_append, List.map_append, List.map_append, List.map_append, List.map_append, List.map_append, List.map_append, List.map_nil, ← l4_1, ← vc_1_7, ← vc_1_6, ← vc_1_5, ← vc_1_4, ← vc_1_3, ← vc_1_2, ← vc_1_1, ← vc_1_0]
  rfl
theorem sc_5 {G : Gt} {V V1 : Nat → Nat → Nat} {M S T : Nat → Nat} {qd qo : Nat} : SC G T (M 0) (fun _ => 0) = (kS 5).map (FW G (adW V V1 M S T qd qo)) := rfl
theorem sc_4 {G : Gt} {V V1 : Nat → Nat → Nat} {M S T : Nat → Nat} {qd qo : Nat} : SC G S (M 0) (fun _ => Int32.ofInt (-1)) = (kS 4).map (FW G (adW V V1 M S T qd qo)) := rfl
theorem mc_3 {G : Gt} {V V1 : Nat → Nat → Nat} {M S T : Nat → Nat} {qd qo : Nat} : MC G M (S 0) (T 0) = kM.map (FW G (adW V V1 M S T qd qo)) := rfl
theorem XW_eq {G : Gt} {V V1 : Nat → Nat → Nat} {M S T : Nat → Nat} {qd qo : Nat} : XW G V V1 (fun _ _ => Int32.ofInt (-1)) (fun _ _ => Int32.ofInt (-1)) (fun j => some (V j 0)) (fun j => some (V1 j 0)) M S T (fun _ => Int32.ofInt (-1)) qd qo = KS.map (FW G (adW V V1 M S T qd qo)) := by
  unfold KS
  rw [List.map_cons, List.map_append, List.map_append, List.map_append, List.map_cons, List.map_append, ← sc_5, ← sc_4, ← mc_3, ← lc_1, ← lc_0]
  rfl
theorem VCs_fst {G : Gt} {V : Nat → Nat → Nat} {K K' : Nat → Nat → Int32} : ∀ n, (VCs G V K n).map Prod.fst = (VCs G V K' n).map Prod.fst
  | 0 => rfl
  | n + 1 => by
    show (VC G (V n) (K n) ++ VCs G V K n).map Prod.fst = (VC G (V n) (K' n) ++ VCs G V K' n).map Prod.fst
    rw [List.map_append, List.map_append, VCs_fst n]
    rfl
theorem LC_fst {G : Gt} {V : Nat → Nat → Nat} {K K' : Nat → Nat → Int32} {f f' : Nat → Option Nat} : (LC G V K f).map Prod.fst = (LC G V K' f').map Prod.fst := by
  unfold LC
  rw [List.map_append, List.map_append, VCs_fst (K' := K') 8]
  rfl
theorem XW_fst {G : Gt} {V V1 : Nat → Nat → Nat} {K K1 K' K1' : Nat → Nat → Int32} {f f1 f' f1' : Nat → Option Nat} {M S T : Nat → Nat} {g g' : Nat → Int32} {qd qo : Nat} : (XW G V V1 K K1 f f1 M S T g qd qo).map Prod.fst = (XW G V V1 K' K1' f' f1' M S T g' qd qo).map Prod.fst := by
  unfold XW
  simp only [List.map_cons, List.map_append]
  rw [LC_fst (V := V1) (K := K1) (K' := K1') (f := f1) (f' := f1'), LC_fst (V := V) (K := K) (K' := K') (f := f) (f' := f')]
  rfl
theorem XW_at {G : Gt} {V V1 : Nat → Nat → Nat} {K K1 : Nat → Nat → Int32} {f f1 : Nat → Option Nat} {M S T : Nat → Nat} {g : Nat → Int32} {qd qo : Nat} {H : Heap} (hL : LOk V K f) (hL1 : LOk V1 K1 f1) (hg : ∀ j, j < 96 → g j = Int32.ofInt (-1)) (h : ∀ q ∈ XW G V V1 K K1 f f1 M S T g qd qo, va_at G.1 vwCl q H) : ∀ q ∈ XW G V V1 (fun _ _ => Int32.ofInt (-1)) (fun _ _ => Int32.ofInt (-1)) (fun j => some (V j 0)) (fun j => some (V1 j 0)) M S T (fun _ => Int32.ofInt (-1)) qd qo, va_at G.1 vwCl q H := by
  unfold XW at h ⊢
  intro q hq
  rcases List.mem_cons.mp hq with rfl | hq
  · exact h _ List.mem_cons_self
  have h := fun q hq => h q (List.mem_cons_of_mem _ hq)
  rcases List.mem_append.mp hq with hq | hq
  · have h := fun q hq => h q (List.mem_append_left _ hq)
    rcases List.mem_append.mp hq with hq | hq
    · exact h q (List.mem_append_left _ hq)
    · have h := fun q hq => h q (List.mem_append_right _ hq)
      rcases List.mem_append.mp hq with hq | hq
      · exact SC_at hg (fun q hq => h q (List.mem_append_left _ hq)) q hq
      · exact h q (List.mem_append_right _ hq)
  · have h := fun q hq => h q (List.mem_append_right _ hq)
    rcases List.mem_cons.mp hq with rfl | hq
    · exact h _ List.mem_cons_self
    have h := fun q hq => h q (List.mem_cons_of_mem _ hq)
    rcases List.mem_append.mp hq with hq | hq
    · exact LC_at hL1 (fun q hq => h q (List.mem_append_left _ hq)) q hq
    · exact LC_at hL (fun q hq => h q (List.mem_append_right _ hq)) q hq
/-- the new world: where its keys lie, and that its memory is w0 -/
theorem world_new {G : Gt} {A : Nat → Prop} {H : Heap} {V V1 : Nat → Nat → Nat} {K K1 : Nat → Nat → Int32} {f f1 : Nat → Option Nat} {M S T : Nat → Nat} {g : Nat → Int32} {qd qo : Nat} (hL : LOk V K f) (hL1 : LOk V1 K1 f1) (hg : ∀ j, j < 96 → g j = Int32.ofInt (-1)) (hP : va_P G.1 vwCl (XW G V V1 K K1 f f1 M S T g qd qo) H) (hD : va_D A (XW G V V1 K K1 f f1 M S T g qd qo)) : ∃ G1 : Gt, G1 = (G.1, G.2.1, (fun k => k ∈ KS), adW V V1 M S T qd qo) ∧ Gok G1 ∧ Pic G1 w0 H ∧ ∀ k, okk G1 k → A (adr G1 k) := by
  have hd := vD_nd.mp hD
  have e : (XW G V V1 K K1 f f1 M S T g qd qo).map Prod.fst = KS.map (adW V V1 M S T qd qo) := by
    rw [XW_fst (K' := fun _ _ => Int32.ofInt (-1)) (K1' := fun _ _ => Int32.ofInt (-1)) (f' := fun j => some (V j 0)) (f1' := fun j => some (V1 j 0)) (g' := fun _ => Int32.ofInt (-1)), XW_eq, List.map_map]
    rfl
  have hn := hd.1
  rw [e] at hn
  have ha := XW_at hL hL1 hg (vP_mem.mp hP)
  rw [XW_eq] at ha
  refine ⟨_, rfl, ⟨fun k k' hk hk' he => inj_map hn k hk k' hk' he, fun k h1 h2 => KS_in h1 h2⟩, ⟨w0_rng, fun k hk => ?_⟩, fun k hk => ?_⟩
  · exact ha _ (List.mem_map_of_mem (f := FW G (adW V V1 M S T qd qo)) hk)
  · have h1 : adW V V1 M S T qd qo k ∈ (XW G V V1 K K1 f f1 M S T g qd qo).map Prod.fst := by
      rw [e]
      exact List.mem_map_of_mem hk
    obtain ⟨q, hq, he⟩ := List.mem_map.mp h1
    show A (adW V V1 M S T qd qo k)
    rw [← he]
    exact hd.2 q hq
