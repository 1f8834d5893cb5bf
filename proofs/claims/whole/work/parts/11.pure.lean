section ZT
variable {p : Program} {l : Launch} {e : Env} {R : Room} {s : State} {m : MethodId} {args : Array Value} {below : List Frame} {meth : Method} {c : Code} {H : Heap} {locs : List Loc} {cells slots : Nat} {Q : State → Prop} {pc : Nat} {ls : Array Slot} {rest : List Value}
theorem zk_top {v v' : Value} (h : v = v') (k : W p l e R s m args below meth c H locs cells slots Q (F0 m pc ls (v' :: rest))) : W p l e R s m args below meth c H locs cells slots Q (F0 m pc ls (v :: rest)) := h ▸ k
end ZT
theorem zk_arr_some {f : Nat → Option Nat} {i a : Nat} (hi : i < 2 ^ 31) (h : f i = some a) : va_rf (f (nI i).toNatClampNeg) = .ref a := by rw [nI_clamp hi, h]; rfl
theorem zk_arr_none {f : Nat → Option Nat} {i : Nat} (hi : i < 2 ^ 31) (h : f i = none) : va_rf (f (nI i).toNatClampNeg) = .null := by rw [nI_clamp hi, h]; rfl
theorem zk_arr_l {f : Nat → Int64} {i : Nat} (hi : i < 2 ^ 31) : Value.long (f (nI i).toNatClampNeg) = .long (f i) := by rw [nI_clamp hi]
theorem zk_arr_i {f : Nat → Int32} {i : Nat} (hi : i < 2 ^ 31) : Value.int (f (nI i).toNatClampNeg) = .int (f i) := by rw [nI_clamp hi]
/-- an index below n, or none -/
def zs_ix (n : Nat) (x : Int32) : Option Nat := if ¬ x < 0 ∧ x < nI n then some x.toNatClampNeg else none
theorem zs_ix_neg {n : Nat} {x : Int32} (h : x < 0) : zs_ix n x = none := if_neg (fun q => q.1 h)
theorem zs_ix_ge {n m : Nat} {x : Int32} (hn : n ≤ m) (hm : m < 2 ^ 31) (h : nI m ≤ x) : zs_ix n x = none := if_neg (fun q => by
  have h1 := Int32.lt_of_le_of_lt h q.2
  exact nI_nlt hn hm h1)
theorem zs_ix_nI {n j : Nat} (hn : n < 2 ^ 31) (hj : j < 2 ^ 31) : zs_ix n (nI j) = if j < n then some j else none := by
  unfold zs_ix
  by_cases h : j < n
  · rw [if_pos ⟨nI_pos hj, nI_lt h hn⟩, if_pos h, nI_clamp hj]
  · rw [if_neg (fun q => nI_nlt (Nat.not_lt.mp h) hj q.2), if_neg h]
theorem zs_ix_some {n j : Nat} {x : Int32} (hn : n < 2 ^ 31) (h : zs_ix n x = some j) : j < n ∧ x = nI j := by
  rcases pk_ix x hn with q | q | ⟨k, q1, q2⟩
  · rw [zs_ix_neg q] at h; cases h
  · rw [zs_ix_ge (Nat.le_refl _) hn q] at h; cases h
  · rw [q2, zs_ix_nI hn (by omega), if_pos q1] at h
    cases h
    exact ⟨q1, q2⟩
/-- a party that is not the house -/
def zs_cx (n : Nat) (x : Int32) : Option Nat := if x = 0 then none else zs_ix n x
theorem zs_cx_some {n j : Nat} {x : Int32} (hn : n < 2 ^ 31) (h : zs_cx n x = some j) : j < n ∧ x = nI j ∧ j ≠ 0 := by
  unfold zs_cx at h
  split at h
  · cases h
  · rename_i hx
    obtain ⟨h1, h2⟩ := zs_ix_some hn h
    exact ⟨h1, h2, fun e => hx (by rw [h2, e]; rfl)⟩
abbrev zs_isD (d : Int64) : Prop := 0 ≤ d ∧ d ≤ 100000
abbrev zs_isN (n : Int64) : Prop := 1 ≤ n ∧ n ≤ 100000
theorem zs_nsum_add {f h : Nat → Nat} (n : Nat) : zs_nsum (fun i => f i + h i) n = zs_nsum f n + zs_nsum h n := by
  induction n with
  | zero => rfl
  | succ n ih => show zs_nsum _ n + (f n + h n) = (zs_nsum f n + f n) + (zs_nsum h n + h n); rw [ih]; omega
theorem zs_nsum_at {x v : Nat} : ∀ (n : Nat), zs_nsum (fun p => if x = p then v else 0) n = if x < n then v else 0 := by
  intro n
  induction n with
  | zero => rfl
  | succ n ih =>
    show zs_nsum _ n + (if x = n then v else 0) = _
    rw [ih]
    by_cases h1 : x = n
    · rw [if_neg (by omega), if_pos h1, if_pos (by omega)]; omega
    · by_cases h2 : x < n
      · rw [if_pos h2, if_neg h1, if_pos (by omega)]; rfl
      · rw [if_neg h2, if_neg h1, if_neg (by omega)]
theorem zs_nsum_swap {lp : Nat → Nat} {b : Nat → Nat} {P : Nat} : ∀ (n : Nat), (∀ i, i < n → lp i < P) → zs_nsum (fun p => zs_nsum (fun i => if lp i = p then b i else 0) n) P = zs_nsum b n := by
  intro n
  induction n with
  | zero => intro _; exact (zs_nsum_to (a := 0) (Nat.zero_le _) (fun _ _ _ => rfl))
  | succ n ih =>
    intro h
    have e : zs_nsum (fun p => zs_nsum (fun i => if lp i = p then b i else 0) (n + 1)) P = zs_nsum (fun p => zs_nsum (fun i => if lp i = p then b i else 0) n + (if lp n = p then b n else 0)) P := rfl
    rw [e, zs_nsum_add, ih (fun i hi => h i (by omega)), zs_nsum_at, if_pos (h n (Nat.lt_succ_self n))]
    rfl
theorem zs_sum_add {f h : Nat → Int64} (n : Nat) : zs_sum (fun i => f i + h i) n = zs_sum f n + zs_sum h n := by
  induction n with
  | zero => rfl
  | succ n ih =>
    show zs_sum _ n + _ = (zs_sum f n + f n) + (zs_sum h n + h n)
    rw [ih, Int64.add_assoc, Int64.add_assoc, ← Int64.add_assoc (zs_sum h n), Int64.add_comm (zs_sum h n) (f n), Int64.add_assoc]
theorem zs_sum_at {x : Nat} {v : Int64} : ∀ (n : Nat), zs_sum (fun p => if x = p then v else 0) n = if x < n then v else 0 := by
  intro n
  induction n with
  | zero => rfl
  | succ n ih =>
    show zs_sum _ n + (if x = n then v else 0) = _
    rw [ih]
    by_cases h1 : x = n
    · rw [if_neg (by omega), if_pos h1, if_pos (by omega), Int64.zero_add]
    · by_cases h2 : x < n
      · rw [if_pos h2, if_neg h1, if_pos (by omega), Int64.add_zero]
      · rw [if_neg h2, if_neg h1, if_neg (by omega), Int64.add_zero]
theorem zs_sum_swap {lp : Nat → Nat} {b : Nat → Int64} {P : Nat} : ∀ (n : Nat), (∀ i, i < n → lp i < P) → zs_sum (fun p => zs_sum (fun i => if lp i = p then b i else 0) n) P = zs_sum b n := by
  intro n
  induction n with
  | zero => intro _; exact (zs_sum_to (a := 0) (Nat.zero_le _) (fun _ _ _ => rfl))
  | succ n ih =>
    intro h
    have e : zs_sum (fun p => zs_sum (fun i => if lp i = p then b i else 0) (n + 1)) P = zs_sum (fun p => zs_sum (fun i => if lp i = p then b i else 0) n + (if lp n = p then b n else 0)) P := rfl
    rw [e, zs_sum_add, ih (fun i hi => h i (by omega)), zs_sum_at, if_pos (h n (Nat.lt_succ_self n))]
    rfl
theorem zs_cnt_all {S : zs_S} (hI : zs_Il S) (hnp : zs_np S ≤ 24) : zs_nsum (fun p => if p < zs_np S then zs_cntp S p else 0) 24 = zs_cnt (zs_ll S) (zs_nl S) := by
  rw [zs_nsum_to (a := zs_np S) hnp (fun j h1 h2 => if_neg (by omega)), zs_cnt_nsum, ← zs_nsum_swap (lp := zs_lp S) (P := zs_np S) (zs_nl S) (fun i hi => (hI.1 i hi).1)]
  refine zs_nsum_congr (fun p hp => ?_)
  rw [if_pos hp]
  refine zs_nsum_congr (fun i _ => ?_)
  unfold zs_cpf
  by_cases h1 : zs_lp S i = p <;> by_cases h2 : 0 < zs_ll S i <;> simp [h1, h2]
/-- the change of party p's balance by the transfers up to day d -/
def zs_balf (S : zs_S) (p : Nat) (d : Int64) (i : Nat) : Int64 := if zs_td S i ≤ d then zs_chg S p i else 0
def zs_bal (S : zs_S) (p : Nat) (d : Int64) : Int64 := zs_sum (zs_balf S p d) (zs_nc S)
/-- whether the party has enough of the first i kinds for a lot of n -/
def zs_enough (S : zs_S) (p : Nat) (n : Int64) : Nat → Bool
  | 0 => true
  | k + 1 => zs_enough S p n k && decide ((zs_rs S k + n * zs_sh S k) / 10000 ≤ zs_has S p k)
theorem zs_enough_no {S : zs_S} {p : Nat} {n : Int64} {k : Nat} (h : ¬ (zs_rs S k + n * zs_sh S k) / 10000 ≤ zs_has S p k) : ∀ {m : Nat}, k < m → zs_enough S p n m = false := by
  intro m
  induction m with
  | zero => intro h; omega
  | succ m ih =>
    intro hk
    unfold zs_enough
    rcases Nat.eq_or_lt_of_le (Nat.le_of_lt_succ hk) with e | e
    · subst e; simp [h]
    · rw [ih e]; rfl
/-- a lot taken back, kind after kind: what is left in each layer, the rests, the worth -/
def zs_lot (S : zs_S) (p : Nat) (n : Int64) : Nat → (Nat → Int64) × (Nat → Int64) × Int64
  | 0 => (zs_ll S, zs_rs S, 0)
  | k + 1 => ((zs_take (zs_rs_ (zs_ll_ S (zs_lot S p n k).1) (zs_lot S p n k).2.1) p k (((zs_lot S p n k).2.1 k + n * zs_sh S k) / 10000) (zs_nl S)).1, vp_updL (zs_lot S p n k).2.1 k (((zs_lot S p n k).2.1 k + n * zs_sh S k) - ((zs_lot S p n k).2.1 k + n * zs_sh S k) / 10000 * 10000), (zs_lot S p n k).2.2 + (zs_take (zs_rs_ (zs_ll_ S (zs_lot S p n k).1) (zs_lot S p n k).2.1) p k (((zs_lot S p n k).2.1 k + n * zs_sh S k) / 10000) (zs_nl S)).2.2)
theorem zs_lot_step {S : zs_S} {p : Nat} {n : Int64} {k : Nat} {f h : Nat → Int64} {w : Int64} (e : (f, h, w) = zs_lot S p n k) : ((zs_take (zs_rs_ (zs_ll_ S f) h) p k ((h k + n * zs_sh S k) / 10000) (zs_nl S)).1, vp_updL h k ((h k + n * zs_sh S k) - (h k + n * zs_sh S k) / 10000 * 10000), w + (zs_take (zs_rs_ (zs_ll_ S f) h) p k ((h k + n * zs_sh S k) / 10000) (zs_nl S)).2.2) = zs_lot S p n (k + 1) := by
  simp only [zs_lot, ← e]
/-- the worth of what party p has, at the prices of day d -/
def zs_worthf (S : zs_S) (p : Nat) (d : Int64) (k : Nat) : Int64 := zs_has S p k * zs_pr S k d
def zs_worth (S : zs_S) (p : Nat) (d : Int64) : Int64 := zs_sum (zs_worthf S p d) (zs_nk S)
