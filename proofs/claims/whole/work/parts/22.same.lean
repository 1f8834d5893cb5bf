/-- S with other payers and takers -/
def zs_PT (S : zs_S) (P T : Nat → Nat) : zs_S := (zs_np S, zs_nk S, zs_nl S, zs_nc S, zs_ck S, zs_pn S, zs_pd S, zs_pc S, zs_sh S, zs_rs S, zs_lp S, zs_lk S, zs_ll S, zs_ld S, zs_lc S, P, T, zs_ta S, zs_td S)
theorem zs_D_np {S : zs_S} {P T : Nat → Nat} : zs_np (zs_PT S P T) = zs_np S := rfl
theorem zs_D_nk {S : zs_S} {P T : Nat → Nat} : zs_nk (zs_PT S P T) = zs_nk S := rfl
theorem zs_D_nl {S : zs_S} {P T : Nat → Nat} : zs_nl (zs_PT S P T) = zs_nl S := rfl
theorem zs_D_nc {S : zs_S} {P T : Nat → Nat} : zs_nc (zs_PT S P T) = zs_nc S := rfl
theorem zs_D_ck {S : zs_S} {P T : Nat → Nat} : zs_ck (zs_PT S P T) = zs_ck S := rfl
theorem zs_D_pn {S : zs_S} {P T : Nat → Nat} : zs_pn (zs_PT S P T) = zs_pn S := rfl
theorem zs_D_pd {S : zs_S} {P T : Nat → Nat} : zs_pd (zs_PT S P T) = zs_pd S := rfl
theorem zs_D_pc {S : zs_S} {P T : Nat → Nat} : zs_pc (zs_PT S P T) = zs_pc S := rfl
theorem zs_D_sh {S : zs_S} {P T : Nat → Nat} : zs_sh (zs_PT S P T) = zs_sh S := rfl
theorem zs_D_rs {S : zs_S} {P T : Nat → Nat} : zs_rs (zs_PT S P T) = zs_rs S := rfl
theorem zs_D_lp {S : zs_S} {P T : Nat → Nat} : zs_lp (zs_PT S P T) = zs_lp S := rfl
theorem zs_D_lk {S : zs_S} {P T : Nat → Nat} : zs_lk (zs_PT S P T) = zs_lk S := rfl
theorem zs_D_ll {S : zs_S} {P T : Nat → Nat} : zs_ll (zs_PT S P T) = zs_ll S := rfl
theorem zs_D_ld {S : zs_S} {P T : Nat → Nat} : zs_ld (zs_PT S P T) = zs_ld S := rfl
theorem zs_D_lc {S : zs_S} {P T : Nat → Nat} : zs_lc (zs_PT S P T) = zs_lc S := rfl
theorem zs_D_ta {S : zs_S} {P T : Nat → Nat} : zs_ta (zs_PT S P T) = zs_ta S := rfl
theorem zs_D_td {S : zs_S} {P T : Nat → Nat} : zs_td (zs_PT S P T) = zs_td S := rfl
theorem zs_D_tp {S : zs_S} {P T : Nat → Nat} : zs_tp (zs_PT S P T) = P := rfl
theorem zs_D_tt {S : zs_S} {P T : Nat → Nat} : zs_tt (zs_PT S P T) = T := rfl
theorem zs_D_pr {S : zs_S} {P T : Nat → Nat} (k : Nat) (d : Int64) : zs_pr (zs_PT S P T) k d = zs_pr S k d := rfl
theorem zs_D_has {S : zs_S} {P T : Nat → Nat} (p k : Nat) : zs_has (zs_PT S P T) p k = zs_has S p k := rfl
theorem zs_D_worth {S : zs_S} {P T : Nat → Nat} (p : Nat) (d : Int64) : zs_worth (zs_PT S P T) p d = zs_worth S p d := rfl
theorem zs_D_take {S : zs_S} {P T : Nat → Nat} (p k : Nat) (n : Int64) (i : Nat) : zs_take (zs_PT S P T) p k n i = zs_take S p k n i := zs_take_congr (S := zs_PT S P T) (S' := S) rfl rfl rfl rfl i
theorem zs_C_np {S : zs_S} {P T : Nat → Nat} (v : Nat) : zs_np_ (zs_PT S P T) v = zs_PT (zs_np_ S v) P T := rfl
theorem zs_C_nk {S : zs_S} {P T : Nat → Nat} (v : Nat) : zs_nk_ (zs_PT S P T) v = zs_PT (zs_nk_ S v) P T := rfl
theorem zs_C_pc {S : zs_S} {P T : Nat → Nat} (v : Nat → Int64) : zs_pc_ (zs_PT S P T) v = zs_PT (zs_pc_ S v) P T := rfl
theorem zs_C_sh {S : zs_S} {P T : Nat → Nat} (v : Nat → Int64) : zs_sh_ (zs_PT S P T) v = zs_PT (zs_sh_ S v) P T := rfl
theorem zs_C_rs {S : zs_S} {P T : Nat → Nat} (v : Nat → Int64) : zs_rs_ (zs_PT S P T) v = zs_PT (zs_rs_ S v) P T := rfl
theorem zs_C_ll {S : zs_S} {P T : Nat → Nat} (v : Nat → Int64) : zs_ll_ (zs_PT S P T) v = zs_PT (zs_ll_ S v) P T := rfl
theorem zs_C_addp {S : zs_S} {P T : Nat → Nat} (k : Nat) (d c : Int64) : zs_addp (zs_PT S P T) k d c = zs_PT (zs_addp S k d c) P T := rfl
theorem zs_C_lay {S : zs_S} {P T : Nat → Nat} (p k : Nat) (n d c : Int64) : zs_lay (zs_PT S P T) p k n d c = zs_PT (zs_lay S p k n d c) P T := rfl
theorem zs_C_mv {S : zs_S} {P T : Nat → Nat} (a b x y : Nat) (c d : Int64) : zs_mv (zs_PT S P T) x y c d = zs_PT (zs_mv S a b c d) (va_up P (zs_nc S) x) (va_up T (zs_nc S) y) := rfl
theorem zs_D_lot {S : zs_S} {P T : Nat → Nat} (p : Nat) (n : Int64) (i : Nat) : zs_lot (zs_PT S P T) p n i = zs_lot S p n i := by
  induction i with
  | zero => rfl
  | succ i ih => simp only [zs_lot, ih, zs_C_ll, zs_C_rs, zs_D_take, zs_D_nl, zs_D_sh]
theorem zs_D_enough {S : zs_S} {P T : Nat → Nat} (p : Nat) (n : Int64) (i : Nat) : zs_enough (zs_PT S P T) p n i = zs_enough S p n i := by
  induction i with
  | zero => rfl
  | succ i ih =>
    have e : ((zs_rs (zs_PT S P T) i + n * zs_sh (zs_PT S P T) i) / 10000 ≤ zs_has (zs_PT S P T) p i) = ((zs_rs S i + n * zs_sh S i) / 10000 ≤ zs_has S p i) := by rw [zs_D_rs, zs_D_sh, zs_D_has]
    unfold zs_enough
    rw [ih]
    congr 1
def zs_fs (w : Int64 → Bool) (v : Int64) (S : zs_S) (p q : Nat) (d : Int64) : Int32 × zs_S := ((if (if 0 < v then v else -v) / 2 = 0 then 0 else if 0 < v then 1 else -1), zs_mv S (if w v = true then p else q) (if w v = true then q else p) ((if 0 < v then v else -v) / 2) d)
theorem zs_fsettle_eq {w : Int64 → Bool} {S : zs_S} {x y m : Int32} {p q : Nat} (hx : zs_cx (zs_np S) x = some p) (hy : zs_cx (zs_np S) y = some q) : zs_fsettle w S x y m = if ¬ p = q ∧ zs_isD (Int32.toInt64 m * 30) ∧ zs_ck S ≤ Int32.toInt64 m * 30 then zs_fs w (zs_worth S p (Int32.toInt64 m * 30) - zs_worth S q (Int32.toInt64 m * 30)) S p q (Int32.toInt64 m * 30) else (-2, S) := by
  simp only [zs_fsettle, hx, hy]
  rfl
/-- the reference's state agrees with the class's, but for who pays whom nothing -/
def zs_E (S D : zs_S) : Prop := ∃ P T : Nat → Nat, D = zs_PT S P T ∧ ∀ i, i < zs_nc S → (zs_tp S i = P i ∧ zs_tt S i = T i) ∨ zs_ta S i = 0
def zs_E2 (a b : Int32 × zs_S) : Prop := b.1 = a.1 ∧ zs_E a.2 b.2
theorem zs_E2_ite {c : Prop} {i1 i2 : Decidable c} {a b a' b' : Int32 × zs_S} (h1 : c → zs_E2 a b) (h2 : ¬ c → zs_E2 a' b') : zs_E2 (@ite _ c i1 a a') (@ite _ c i2 b b') := by
  by_cases h : c
  · rw [if_pos h, if_pos h]; exact h1 h
  · rw [if_neg h, if_neg h]; exact h2 h
theorem zs_E_party {S D : zs_S} (h : zs_E S D) : zs_E2 (zs_fparty S) (zs_fparty D) := by
  obtain ⟨P, T, rfl, h⟩ := h
  simp only [zs_fparty, zs_D_np, zs_C_np]
  exact zs_E2_ite (fun _ => ⟨rfl, P, T, rfl, h⟩) (fun _ => ⟨rfl, P, T, rfl, h⟩)
theorem zs_E_kind {S D : zs_S} (h : zs_E S D) : zs_E2 (zs_fkind S) (zs_fkind D) := by
  obtain ⟨P, T, rfl, h⟩ := h
  simp only [zs_fkind, zs_D_nk, zs_C_nk]
  exact zs_E2_ite (fun _ => ⟨rfl, P, T, rfl, h⟩) (fun _ => ⟨rfl, P, T, rfl, h⟩)
theorem zs_E_price {S D : zs_S} (h : zs_E S D) (x : Int32) (d c : Int64) : zs_E2 (zs_fprice S x d c) (zs_fprice D x d c) := by
  obtain ⟨P, T, rfl, h⟩ := h
  cases hx : zs_ix (zs_nk S) x with
  | none => simp only [zs_fprice, zs_D_nk, hx]; exact ⟨rfl, P, T, rfl, h⟩
  | some k =>
    simp only [zs_fprice, zs_D_nk, hx]
    refine zs_E2_ite (fun _ => ?_) (fun _ => ⟨rfl, P, T, rfl, h⟩)
    simp only [zs_tell, zs_D_pd, zs_D_pn, zs_D_pc, zs_C_pc, zs_C_addp]
    exact zs_E2_ite (fun _ => ⟨rfl, P, T, rfl, h⟩) (fun _ => zs_E2_ite (fun _ => ⟨rfl, P, T, rfl, h⟩) (fun _ => ⟨rfl, P, T, rfl, h⟩))
theorem zs_E_mv {S : zs_S} {P T : Nat → Nat} (h : ∀ i, i < zs_nc S → (zs_tp S i = P i ∧ zs_tt S i = T i) ∨ zs_ta S i = 0) (x y x' y' : Nat) (c d : Int64) (hc : (x = x' ∧ y = y') ∨ c = 0) : zs_E (zs_mv S x y c d) (zs_mv (zs_PT S P T) x' y' c d) := by
  refine ⟨va_up P (zs_nc S) x', va_up T (zs_nc S) y', zs_C_mv x y x' y' c d, fun i hi => ?_⟩
  have hi' : i < zs_nc S + 1 := hi
  show (va_up (zs_tp S) (zs_nc S) x i = va_up P (zs_nc S) x' i ∧ va_up (zs_tt S) (zs_nc S) y i = va_up T (zs_nc S) y' i) ∨ vp_updL (zs_ta S) (zs_nc S) c i = 0
  by_cases q : i = zs_nc S
  · simp only [va_up, vp_updL, q, if_true]; exact hc
  · simp only [va_up, vp_updL, q, if_false]; exact h i (by omega)
theorem zs_E_out {S D : zs_S} (h : zs_E S D) (x y : Int32) (n d : Int64) : zs_E2 (zs_fout S x y n d) (zs_fout D x y n d) := by
  obtain ⟨P, T, rfl, h⟩ := h
  cases hx : zs_cx (zs_np S) x with
  | none => simp only [zs_fout, zs_D_np, hx]; exact ⟨rfl, P, T, rfl, h⟩
  | some p =>
    cases hy : zs_ix (zs_nk S) y with
    | none => simp only [zs_fout, zs_D_np, zs_D_nk, hx, hy]; exact ⟨rfl, P, T, rfl, h⟩
    | some k =>
      simp only [zs_fout, zs_D_np, zs_D_nk, zs_D_ck, zs_D_ll, zs_D_nl, zs_D_pr, zs_C_lay, hx, hy]
      exact zs_E2_ite (fun _ => ⟨rfl, zs_E_mv (S := zs_lay S p k n d (zs_pr S k d)) h _ _ _ _ _ _ (Or.inl ⟨rfl, rfl⟩)⟩) (fun _ => ⟨rfl, P, T, rfl, h⟩)
theorem zs_E_back {S D : zs_S} (h : zs_E S D) (x y : Int32) (n d : Int64) : zs_E2 (zs_fback S x y n d) (zs_fback D x y n d) := by
  obtain ⟨P, T, rfl, h⟩ := h
  cases hx : zs_cx (zs_np S) x with
  | none => simp only [zs_fback, zs_D_np, hx]; exact ⟨rfl, P, T, rfl, h⟩
  | some p =>
    cases hy : zs_ix (zs_nk S) y with
    | none => simp only [zs_fback, zs_D_np, zs_D_nk, hx, hy]; exact ⟨rfl, P, T, rfl, h⟩
    | some k =>
      simp only [zs_fback, zs_D_np, zs_D_nk, zs_D_ck, zs_D_nl, zs_D_take, zs_D_has, zs_C_ll, hx, hy]
      exact zs_E2_ite (fun _ => ⟨rfl, zs_E_mv (S := zs_ll_ S (zs_take S p k n (zs_nl S)).1) h _ _ _ _ _ _ (Or.inl ⟨rfl, rfl⟩)⟩) (fun _ => ⟨rfl, P, T, rfl, h⟩)
theorem zs_E_sampled {S D : zs_S} (h : zs_E S D) (x : Int32) (n d : Int64) : zs_E2 (zs_fsampled S x n d) (zs_fsampled D x n d) := by
  obtain ⟨P, T, rfl, h⟩ := h
  cases hx : zs_cx (zs_np S) x with
  | none => simp only [zs_fsampled, zs_D_np, hx]; exact ⟨rfl, P, T, rfl, h⟩
  | some p =>
    simp only [zs_fsampled, zs_D_np, zs_D_nk, zs_D_ck, zs_D_sh, zs_D_lot, zs_D_enough, zs_C_ll, zs_C_rs, hx]
    exact zs_E2_ite (fun _ => ⟨rfl, zs_E_mv (S := zs_rs_ (zs_ll_ S (zs_lot S p n (zs_nk S)).1) (zs_lot S p n (zs_nk S)).2.1) h _ _ _ _ _ _ (Or.inl ⟨rfl, rfl⟩)⟩) (fun _ => ⟨rfl, P, T, rfl, h⟩)
theorem zs_E_share {S D : zs_S} (h : zs_E S D) (x : Int32) (a b : Int64) : zs_E2 (zs_fshare S x a b) (zs_fshare D x a b) := by
  obtain ⟨P, T, rfl, h⟩ := h
  cases hx : zs_ix (zs_nk S) x with
  | none => simp only [zs_fshare, zs_D_nk, hx]; exact ⟨rfl, P, T, rfl, h⟩
  | some k =>
    simp only [zs_fshare, zs_D_nk, zs_D_sh, zs_C_sh, hx]
    exact zs_E2_ite (fun _ => ⟨rfl, P, T, rfl, h⟩) (fun _ => ⟨rfl, P, T, rfl, h⟩)
theorem zs_E_settle {S D : zs_S} (h : zs_E S D) (x y m : Int32) : zs_E2 (zs_fsettle (fun v => decide (0 < v)) S x y m) (zs_fsettle (fun v => decide (0 ≤ v)) D x y m) := by
  obtain ⟨P, T, rfl, h⟩ := h
  cases hx : zs_cx (zs_np S) x with
  | none => simp only [zs_fsettle, zs_D_np, hx]; exact ⟨rfl, P, T, rfl, h⟩
  | some p =>
    cases hy : zs_cx (zs_np S) y with
    | none => simp only [zs_fsettle, zs_D_np, hx, hy]; exact ⟨rfl, P, T, rfl, h⟩
    | some q =>
      rw [zs_fsettle_eq hx hy, zs_fsettle_eq (S := zs_PT S P T) hx hy]
      simp only [zs_D_ck, zs_D_worth]
      generalize zs_worth S p (Int32.toInt64 m * 30) - zs_worth S q (Int32.toInt64 m * 30) = v
      refine zs_E2_ite (fun _ => ⟨rfl, zs_E_mv h _ _ _ _ _ _ ?_⟩) (fun _ => ⟨rfl, P, T, rfl, h⟩)
      by_cases hv : v = 0
      · subst hv; exact Or.inr rfl
      · refine Or.inl ?_
        by_cases h0 : 0 < v
        · simp [h0, Int64.le_of_lt h0]
        · have h1 : ¬ 0 ≤ v := fun g => hv (Int64.le_antisymm (Int64.not_lt.mp h0) g)
          simp only [h0, h1, decide_false, Bool.false_eq_true, if_false]; exact ⟨trivial, trivial⟩
theorem zs_E_balance {S D : zs_S} (h : zs_E S D) (x : Int32) (d : Int64) : zs_fbalance D x d = zs_fbalance S x d := by
  obtain ⟨P, T, rfl, h⟩ := h
  cases hx : zs_ix (zs_np S) x with
  | none => simp only [zs_fbalance, zs_D_np, hx]
  | some p =>
    simp only [zs_fbalance, zs_D_np, hx]
    refine zs_sum_congr _ (fun i hi => ?_)
    show (if zs_td S i ≤ d then (if P i = p then -zs_ta S i else if T i = p then zs_ta S i else 0) else 0) = (if zs_td S i ≤ d then (if zs_tp S i = p then -zs_ta S i else if zs_tt S i = p then zs_ta S i else 0) else 0)
    rcases h i hi with g | g
    · rw [g.1, g.2]
    · rw [g]
      have e : ∀ (a b : Prop) [Decidable a] [Decidable b], (if a then -(0 : Int64) else if b then 0 else 0) = 0 := by
        intro a b _ _
        by_cases ha : a
        · rw [if_pos ha]; rfl
        · by_cases hb : b
          · rw [if_neg ha, if_pos hb]
          · rw [if_neg ha, if_neg hb]
      rw [e, e]
theorem zs_E_count {S D : zs_S} (h : zs_E S D) (x y : Int32) : zs_fcount D x y = zs_fcount S x y := by
  obtain ⟨P, T, rfl, h⟩ := h
  rfl
theorem zs_E_lost {S D : zs_S} (h : zs_E S D) (y m : Int32) : zs_flost D y m = zs_flost S y m := by
  obtain ⟨P, T, rfl, h⟩ := h
  rfl
theorem zs_E_rest {S D : zs_S} (h : zs_E S D) (y m : Int32) : zs_frest D y m = zs_frest S y m := by
  obtain ⟨P, T, rfl, h⟩ := h
  rfl
theorem zs_E_0 : zs_E zs_S0 zs_S0 := ⟨fun _ => 0, fun _ => 0, rfl, fun i _ => Or.inl ⟨rfl, rfl⟩⟩
-- the bounds are kept
theorem zs_I_fparty {S : zs_S} {n : Nat} (h : zs_I S n) : zs_I (zs_fparty S).2 (n + 1) := by
  unfold zs_fparty
  split
  · rename_i q; exact zs_I_mono (zs_I_np h q)
  · exact zs_I_mono h
theorem zs_I_fkind {S : zs_S} {n : Nat} (h : zs_I S n) : zs_I (zs_fkind S).2 (n + 1) := by
  unfold zs_fkind
  split
  · rename_i q; exact zs_I_mono (zs_I_nk h q)
  · exact zs_I_mono h
theorem zs_I_fprice {S : zs_S} {n : Nat} (h : zs_I S n) (x : Int32) (d c : Int64) : zs_I (zs_fprice S x d c).2 (n + 1) := by
  cases hx : zs_ix (zs_nk S) x with
  | none => simp only [zs_fprice, hx]; exact zs_I_mono h
  | some k =>
    simp only [zs_fprice, hx]
    split
    · rename_i q; exact zs_I_mono (zs_I_tell h (zs_ix_some (by have := h.1.2.2.1; omega) hx).1 c q.1)
    · exact zs_I_mono h
theorem zs_I_fout {S : zs_S} {n : Nat} (h : zs_I S n) (x y : Int32) (m d : Int64) : zs_I (zs_fout S x y m d).2 (n + 1) := by
  cases hx : zs_cx (zs_np S) x with
  | none => simp only [zs_fout, hx]; exact zs_I_mono h
  | some p =>
    cases hy : zs_ix (zs_nk S) y with
    | none => simp only [zs_fout, hx, hy]; exact zs_I_mono h
    | some k =>
      simp only [zs_fout, hx, hy]
      obtain ⟨hp, -, hp0⟩ := zs_cx_some (by have := h.1.2.1; omega) hx
      obtain ⟨hk, -⟩ := zs_ix_some (by have := h.1.2.2.1; omega) hy
      split
      · rename_i q
        exact zs_I_mv (zs_I_lay (zs_I_mono h) (Nat.lt_succ_of_le h.1.2.2.2.1) hp hk _ q.1 q.2.1.1 q.2.2) (Nat.lt_succ_of_le h.1.2.2.2.2.1) hp h.1.1 hp0 _ q.2.1.1
      · exact zs_I_mono h
theorem zs_I_fback {S : zs_S} {n : Nat} (h : zs_I S n) (x y : Int32) (m d : Int64) : zs_I (zs_fback S x y m d).2 (n + 1) := by
  cases hx : zs_cx (zs_np S) x with
  | none => simp only [zs_fback, hx]; exact zs_I_mono h
  | some p =>
    cases hy : zs_ix (zs_nk S) y with
    | none => simp only [zs_fback, hx, hy]; exact zs_I_mono h
    | some k =>
      simp only [zs_fback, hx, hy]
      obtain ⟨hp, -, hp0⟩ := zs_cx_some (by have := h.1.2.1; omega) hx
      split
      · rename_i q
        exact zs_I_mv (zs_I_ll (zs_I_mono h) (zs_take_dom (fun j hj => (h.2.2.1.1 j hj).2.2.2.2.1) (Int64.le_trans (by decide) q.1.1) _ (Nat.le_refl _)).1) (Nat.lt_succ_of_le h.1.2.2.2.2.1) h.1.1 hp (Ne.symm hp0) _ q.2.1.1
      · exact zs_I_mono h
theorem zs_I_fsampled {S : zs_S} {n : Nat} (h : zs_I S n) (x : Int32) (m d : Int64) : zs_I (zs_fsampled S x m d).2 (n + 1) := by
  cases hx : zs_cx (zs_np S) x with
  | none => simp only [zs_fsampled, hx]; exact zs_I_mono h
  | some p =>
    simp only [zs_fsampled, hx]
    obtain ⟨hp, -, hp0⟩ := zs_cx_some (by have := h.1.2.1; omega) hx
    split
    · rename_i q
      exact zs_I_mv (zs_I_lot (zs_I_mono h) q.1) (Nat.lt_succ_of_le h.1.2.2.2.2.1) h.1.1 hp (Ne.symm hp0) _ q.2.1.1
    · exact zs_I_mono h
theorem zs_quot {a b : Int64} (hb : 1 ≤ b ∧ b ≤ 10000) (ha : 0 ≤ a) (hab : a ≤ b) : 0 ≤ a * 10000 / b ∧ a * 10000 / b ≤ 10000 := by
  obtain ⟨a', a1, rfl⟩ := pk_lOf (Int64.not_lt.mpr ha)
  obtain ⟨b', b1, rfl⟩ := pk_lOf (Int64.not_lt.mpr (Int64.le_trans (by decide) hb.1) : ¬ b < 0)
  have e1 : 1 ≤ b' := (pk_lLE (by decide) b1).mp hb.1
  have e2 : b' ≤ 10000 := (pk_lLE b1 (by decide)).mp hb.2
  have e3 : a' ≤ b' := (pk_lLE a1 b1).mp hab
  rw [show (10000 : Int64) = lN 10000 from rfl, lN_mul, pk_lDiv (by omega) e1 b1]
  have e4 : a' * 10000 / b' ≤ 10000 := Nat.div_le_of_le_mul (Nat.mul_le_mul_right _ e3)
  exact ⟨by rw [zs_0le, pk_lT (Nat.lt_of_le_of_lt e4 (by decide))]; exact Int.natCast_nonneg _, (pk_lLE (Nat.lt_of_le_of_lt e4 (by decide)) (by decide)).mpr e4⟩
theorem zs_I_fshare {S : zs_S} {n : Nat} (h : zs_I S n) (x : Int32) (a b : Int64) : zs_I (zs_fshare S x a b).2 (n + 1) := by
  cases hx : zs_ix (zs_nk S) x with
  | none => simp only [zs_fshare, hx]; exact zs_I_mono h
  | some k =>
    simp only [zs_fshare, hx]
    split
    · rename_i q
      obtain ⟨g1, g2⟩ := zs_quot q.1 q.2.1 q.2.2.1
      exact zs_I_mono (zs_I_sh h (zs_ix_some (by have := h.1.2.2.1; omega) hx).1 g1 g2)
    · exact zs_I_mono h
theorem zs_I_fsettle {w : Int64 → Bool} {S : zs_S} {n : Nat} (h : zs_I S n) (x y m : Int32) : zs_I (zs_fsettle w S x y m).2 (n + 1) := by
  cases hx : zs_cx (zs_np S) x with
  | none => simp only [zs_fsettle, hx]; exact zs_I_mono h
  | some p =>
    cases hy : zs_cx (zs_np S) y with
    | none => simp only [zs_fsettle, hx, hy]; exact zs_I_mono h
    | some q =>
      simp only [zs_fsettle, hx, hy]
      obtain ⟨hp, -, -⟩ := zs_cx_some (by have := h.1.2.1; omega) hx
      obtain ⟨hq, -, -⟩ := zs_cx_some (by have := h.1.2.1; omega) hy
      split
      · rename_i g
        generalize zs_worth S p (Int32.toInt64 m * 30) - zs_worth S q (Int32.toInt64 m * 30) = v
        cases w v with
        | true => exact zs_I_mv (zs_I_mono h) (Nat.lt_succ_of_le h.1.2.2.2.2.1) hp hq g.1 _ g.2.1
        | false => exact zs_I_mv (zs_I_mono h) (Nat.lt_succ_of_le h.1.2.2.2.2.1) hq hp (Ne.symm g.1) _ g.2.1
      · exact zs_I_mono h
theorem zs_I_0 : zs_I zs_S0 0 := ⟨⟨Nat.le_refl _, by decide, Nat.zero_le _, Nat.le_refl _, Nat.le_refl _, by decide, by decide⟩, ⟨fun _ => Nat.zero_le _, fun _ _ => ⟨rfl, rfl, rfl⟩, fun _ => (by decide : (0 : Int64) ≤ 0 ∧ (0 : Int64) ≤ 10000 ∧ (0 : Int64) ≤ 0 ∧ (0 : Int64) < 10000), fun _ j hj => absurd hj (Nat.not_lt_zero j), fun _ i _ hi => absurd hi (Nat.not_lt_zero i)⟩, ⟨fun i hi => absurd hi (Nat.not_lt_zero i), by decide⟩, fun i hi => absurd hi (Nat.not_lt_zero i)⟩
