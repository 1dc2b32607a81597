/-! the reference: the way, the share, the digest -/
def rwi (w : Mm) (M a : Nat) (acc : Nat) : Nat → Nat
  | 0 => acc
  | n + 1 => if ((M / 2 ^ a % 2 : Nat) : Int) = 1 ∧ rhears w 4 a n then rwi w M a acc n ||| 2 ^ n else rwi w M a acc n
def rwo (w : Mm) (M V : Nat) : Nat → Nat
  | 0 => M
  | n + 1 => rwi w M n (rwo w M V n) V
theorem rwi_lt {w : Mm} {M a acc : Nat} (h : acc < 2 ^ 8) : ∀ n, n ≤ 8 → rwi w M a acc n < 2 ^ 8
  | 0, _ => h
  | n + 1, hn => by
    have ih := rwi_lt (w := w) (M := M) (a := a) h n (by omega)
    unfold rwi
    split
    · exact Nat.or_lt_two_pow ih (Nat.pow_lt_pow_right (by decide) (by omega))
    · exact ih
theorem rwo_lt {w : Mm} {M V : Nat} (hM : M < 2 ^ 8) (hv : V ≤ 8) : ∀ n, rwo w M V n < 2 ^ 8
  | 0 => hM
  | n + 1 => rwi_lt (rwo_lt hM hv n) V hv
def rwm (w : Mm) (V v : Nat) : Nat → Nat
  | 0 => 2 ^ v
  | k + 1 => rwo w (rwm w V v k) V V
theorem rwm_lt {w : Mm} {V v : Nat} (hv : v < 8) (hV : V ≤ 8) : ∀ k, rwm w V v k < 2 ^ 8
  | 0 => Nat.pow_lt_pow_right (by decide) hv
  | k + 1 => rwo_lt (rwm_lt hv hV k) hV _
theorem rcnt_R {w : Mm} {a : Nat} (hr : rng w) (hw : inR (rcw w (w (3, 0, 0) 1).toNat)) (hp : inR (rprs w 4)) (hv : 0 ≤ w (3, 0, 0) 1 ∧ w (3, 0, 0) 1 ≤ 8) : inR (rcnt w a) := by
  have h := rcd_b (w := w) (w (3, 0, 0) 1).toNat
  unfold rcnt
  split <;> first | exact hr _ _ | exact hw | exact hp | exact ⟨by omega, by omega⟩
theorem rvtold_R {w : Mm} {v : Int} {a : Nat} (hr : rng w) (hp : 0 ≤ w (3, 0, 0) 2 ∧ w (3, 0, 0) 2 ≤ 12) : inR (rvtold w v a) := by
  have h := rvk_b (w := w) (v := v) (w (3, 0, 0) 2).toNat
  unfold rvtold rvt
  split <;> first | exact hr _ _ | exact bI_inR _ | exact ⟨by omega, by omega⟩
def rdgV (W w : Mm) (v : Nat) (d : Int64) : Int64 := dg (dg (dg (dg d (fun a => rvtold W (v : Int) a) 10) (fun _ => ((rlast W 4 (v : Int) (w (4, 0, 0) 2).toNat : Nat) : Int)) 1) (fun k => w (4, 0, 5) (5 * v + k)) (w (4, 0, 4) v).toNat) (fun p => w (4, 0, 6) (12 * v + p)) (w (3, 0, 0) 2).toNat
def rdgL (W w : Mm) (d : Int64) : Nat → Int64
  | 0 => d
  | v + 1 => rdgV W w v (rdgL W w d v)
def rdgX (W w : Mm) : Int64 := rdgL W w (dg (dg 769 (fun a => rcnt W a) 8) (fun p => w (3, 0, 6) p) (w (3, 0, 0) 2).toNat) (w (3, 0, 0) 1).toNat
theorem rdgL_z {W w : Mm} {d : Int64} : rdgL W w d 0 = d := rfl
theorem rdgL_s {W w : Mm} {d : Int64} {n : Nat} : rdgL W w d (n + 1) = rdgV W w n (rdgL W w d n) := rfl
