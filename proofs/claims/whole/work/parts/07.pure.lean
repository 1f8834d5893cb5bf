theorem zs_prev_congr {n : Nat} {f h : Nat → Nat} (e : ∀ k, k + 1 = n → f k = h k) : zs_prev n f = zs_prev n h := by
  cases n with
  | zero => rfl
  | succ k => show some (f k) = some (h k); rw [e k rfl]
theorem zs_map_congr {o : Option Nat} {f h : Nat → Nat} (e : ∀ i, o = some i → f i = h i) : o.map f = o.map h := by
  cases o with
  | none => rfl
  | some i => show some (f i) = some (h i); rw [e i rfl]
theorem zs_lst_some {lp : Nat → Nat} {p : Nat} : ∀ {n i : Nat}, zs_lst lp p n = some i → i < n ∧ lp i = p ∧ ∀ j, i < j → j < n → lp j ≠ p := by
  intro n
  induction n with
  | zero => intro i h; cases h
  | succ n ih =>
    intro i h
    unfold zs_lst at h
    split at h
    · rename_i he
      cases h
      exact ⟨Nat.lt_succ_self _, he, fun j h1 h2 => by omega⟩
    · rename_i hne
      obtain ⟨h1, h2, h3⟩ := ih h
      refine ⟨by omega, h2, fun j g1 g2 => ?_⟩
      rcases Nat.eq_or_lt_of_le (Nat.le_of_lt_succ g2) with q | q
      · rw [q]; exact hne
      · exact h3 j g1 q
theorem zs_lst_none {lp : Nat → Nat} {p : Nat} : ∀ {n : Nat}, zs_lst lp p n = none → ∀ j, j < n → lp j ≠ p := by
  intro n
  induction n with
  | zero => intro _ j h; omega
  | succ n ih =>
    intro h j hj
    unfold zs_lst at h
    split at h
    · cases h
    · rename_i hne
      rcases Nat.eq_or_lt_of_le (Nat.le_of_lt_succ hj) with q | q
      · rw [q]; exact hne
      · exact ih h j q
theorem zs_lst_of {lp : Nat → Nat} {p : Nat} : ∀ {n : Nat}, (∀ j, j < n → lp j ≠ p) → zs_lst lp p n = none := by
  intro n
  induction n with
  | zero => intro _; rfl
  | succ n ih =>
    intro h
    unfold zs_lst
    rw [if_neg (h n (Nat.lt_succ_self _))]
    exact ih (fun j hj => h j (by omega))
theorem zs_fst_of {lp : Nat → Nat} {p : Nat} : ∀ {n a : Nat}, (∀ j, a ≤ j → j < a + n → lp j ≠ p) → zs_fst lp p a n = none := by
  intro n
  induction n with
  | zero => intro a _; rfl
  | succ n ih =>
    intro a h
    unfold zs_fst
    rw [if_neg (h a (Nat.le_refl _) (by omega))]
    exact ih (fun j h1 h2 => h j (by omega) (by omega))
theorem zs_fst_snoc {lp lp' : Nat → Nat} {p : Nat} : ∀ {n a : Nat}, (∀ j, a ≤ j → j < a + n → lp' j = lp j) → zs_fst lp' p a (n + 1) = (match zs_fst lp p a n with | some i => some i | none => if lp' (a + n) = p then some (a + n) else none) := by
  intro n
  induction n with
  | zero => intro a _; rfl
  | succ n ih =>
    intro a h
    show (if lp' a = p then some a else zs_fst lp' p (a + 1) (n + 1)) = (match (if lp a = p then some a else zs_fst lp p (a + 1) n) with | some i => some i | none => _)
    rw [h a (Nat.le_refl _) (by omega)]
    by_cases hp : lp a = p
    · simp [hp]
    · rw [if_neg hp, if_neg hp, ih (fun j h1 h2 => h j (by omega) (by omega))]
      rw [show a + 1 + n = a + (n + 1) by omega]
theorem zs_lst_snoc {lp lp' : Nat → Nat} {p : Nat} : ∀ {n : Nat}, (∀ j, j < n → lp' j = lp j) → zs_lst lp' p n = zs_lst lp p n := by
  intro n
  induction n with
  | zero => intro _; rfl
  | succ n ih =>
    intro h
    unfold zs_lst
    rw [h n (Nat.lt_succ_self _), ih (fun j hj => h j (by omega))]
/-- what a cell refers to are labels of the state: a new label changes none of them -/
theorem zs_cont_Zup {g : zk_G} {X : zs_X} {Z : zs_Z} {n : Nat} (hI : zs_I X.1 n) {lab : zs_L} (hlab : ¬ zs_ok X lab) (a : Nat) (q : zs_L) (hq : zs_ok X q) : zs_cont g X (zs_Zup Z lab a) q = zs_cont g X Z q := by
  have key : ∀ r, zs_ok X r → zs_Zup Z lab a r = Z r := fun r hr => zs_Zup_n Z a (fun e => hlab (e ▸ hr))
  have hnp : 0 < zs_np X.1 := hI.1.1
  rcases q with ⟨t, i, b⟩
  match t with
  | 0 =>
    show (.inr (5, [.ref (zs_Zup Z lab a (3, 0, 0)), .ref (zs_Zup Z lab a (1, 0, 0)), .ref (zs_Zup Z lab a (2, 0, 0)), va_rf (zs_prev (zs_nc X.1) (fun i => zs_Zup Z lab a (7, i, 0))), _, _]) : va_E) = _
    rw [key (3, 0, 0) ⟨hnp, rfl⟩, key (1, 0, 0) ⟨rfl, rfl⟩, key (2, 0, 0) ⟨rfl, rfl⟩, zs_prev_congr (h := fun i => Z (7, i, 0)) (fun k hk => key (7, k, 0) ⟨by omega, rfl⟩)]
    rfl
  | 1 =>
    show zk_aP g 24 (fun p => if p < zs_np X.1 then some (zs_Zup Z lab a (3, p, 0)) else none) = zk_aP g 24 _
    congr 6
    funext p
    by_cases hp : p < zs_np X.1
    · rw [if_pos hp, if_pos hp, key (3, p, 0) ⟨hp, rfl⟩]
    · rw [if_neg hp, if_neg hp]
  | 2 =>
    show zk_aQ g 12 (fun p => if p < zs_nk X.1 then some (zs_Zup Z lab a (4, p, 0)) else none) = zk_aQ g 12 _
    congr 6
    funext p
    by_cases hp : p < zs_nk X.1
    · rw [if_pos hp, if_pos hp, key (4, p, 0) ⟨hp, rfl⟩]
    · rw [if_neg hp, if_neg hp]
  | 3 =>
    show (.inr (2, [va_rf ((zs_nx X.1 i 0).map (fun i => zs_Zup Z lab a (6, i, 0))), va_rf ((zs_lst (zs_lp X.1) i (zs_nl X.1)).map (fun i => zs_Zup Z lab a (6, i, 0)))]) : va_E) = _
    rw [zs_map_congr (h := fun i => Z (6, i, 0)) (fun j hj => key (6, j, 0) ⟨(zs_nx_some hj).2.1, rfl⟩), zs_map_congr (o := zs_lst _ _ _) (h := fun i => Z (6, i, 0)) (fun j hj => key (6, j, 0) ⟨(zs_lst_some hj).1, rfl⟩)]
    rfl
  | 4 =>
    obtain ⟨h1, -⟩ : i < zs_nk X.1 ∧ b = 0 := hq
    show (.inr (0, [va_rf (zs_prev (zs_pn X.1 i) (fun j => zs_Zup Z lab a (5, i, j))), _, _]) : va_E) = _
    rw [zs_prev_congr (h := fun j => Z (5, i, j)) (fun k hk => key (5, i, k) ⟨h1, by omega⟩)]
    rfl
  | 5 =>
    obtain ⟨h1, h2⟩ : i < zs_nk X.1 ∧ b < zs_pn X.1 i := hq
    show (.inr (3, [_, va_rf (zs_prev b (fun j => zs_Zup Z lab a (5, i, j))), _]) : va_E) = _
    rw [zs_prev_congr (h := fun j => Z (5, i, j)) (fun k hk => key (5, i, k) ⟨h1, by omega⟩)]
    rfl
  | 6 =>
    obtain ⟨h1, h2⟩ : i < zs_nl X.1 ∧ b = 0 := hq
    show (.inr (1, [.ref (zs_Zup Z lab a (4, zs_lk X.1 i, 0)), _, _, _, va_rf ((zs_nx X.1 (zs_lp X.1 i) (i + 1)).map (fun i => zs_Zup Z lab a (6, i, 0)))]) : va_E) = _
    rw [key (4, zs_lk X.1 i, 0) ⟨(hI.2.2.1.1 i h1).2.1, rfl⟩, zs_map_congr (h := fun i => Z (6, i, 0)) (fun j hj => key (6, j, 0) ⟨(zs_nx_some hj).2.1, rfl⟩)]
    rfl
  | 7 =>
    obtain ⟨h1, h2⟩ : i < zs_nc X.1 ∧ b = 0 := hq
    obtain ⟨t1, t2, -⟩ := hI.2.2.2 i h1
    show (.inr (4, [_, _, .ref (zs_Zup Z lab a (3, zs_tp X.1 i, 0)), .ref (zs_Zup Z lab a (3, zs_tt X.1 i, 0)), va_rf (zs_prev i (fun i => zs_Zup Z lab a (7, i, 0)))]) : va_E) = _
    rw [key (3, zs_tp X.1 i, 0) ⟨t1, rfl⟩, key (3, zs_tt X.1 i, 0) ⟨t2, rfl⟩, zs_prev_congr (h := fun i => Z (7, i, 0)) (fun k hk => key (7, k, 0) ⟨by omega, rfl⟩)]
    rfl
  | 8 =>
    obtain ⟨h1, h2⟩ : i < 16 ∧ b = 0 := hq
    show zs_mod g X.2.1 X.2.2 (zs_Zup Z lab a) i = zs_mod g X.2.1 X.2.2 Z i
    match i with
    | 0 =>
      have k8 : ∀ j, j < 16 → zs_Zup Z lab a (8, j, 0) = Z (8, j, 0) := fun j hj => key (8, j, 0) ⟨hj, rfl⟩
      simp only [zs_mod, k8 1 (by decide), k8 2 (by decide), k8 3 (by decide), k8 4 (by decide), k8 5 (by decide), k8 6 (by decide), k8 7 (by decide), k8 8 (by decide), k8 9 (by decide), k8 10 (by decide), k8 11 (by decide), k8 12 (by decide), k8 13 (by decide), k8 14 (by decide), k8 15 (by decide)]
    | 1 => rfl
    | 2 => rfl
    | 3 => rfl
    | 4 => rfl
    | 5 => rfl
    | 6 => rfl
    | 7 => rfl
    | 8 => rfl
    | 9 => rfl
    | 10 => rfl
    | 11 => rfl
    | 12 => rfl
    | 13 => rfl
    | 14 => rfl
    | n + 15 => rfl
  | n + 9 => rfl
theorem zs_R_party {g : zk_G} {X : zs_X} {Z : zs_Z} {M M' : zk_M} {n a : Nat} (hR : zs_R g X Z M) (hI : zs_I X.1 n) (ha : M a = none) (hM : ∀ b, b ≠ a → b ≠ Z (1, 0, 0) → M' b = M b) (h1 : M' (Z (1, 0, 0)) = some (zk_aP g 24 (va_up (fun p => if p < zs_np X.1 then some (Z (3, p, 0)) else none) (zs_np X.1) (some a)))) (h2 : M' a = some (.inr (2, [.null, .null]))) : zs_R g (zs_np_ X.1 (zs_np X.1 + 1), X.2) (zs_Zup Z (3, zs_np X.1, 0) a) M' := by
  have hlab : ¬ zs_ok X (3, zs_np X.1, 0) := fun h => Nat.lt_irrefl _ h.1
  refine zs_R_new (X' := (zs_np_ X.1 (zs_np X.1 + 1), X.2)) hR (3, zs_np X.1, 0) ha hlab ?_ [(1, 0, 0)] (fun b hb hw => hM b hb (hw _ (by simp))) ?_ ?_ ?_ ?_
  · intro q
    rcases q with ⟨t, i, b⟩
    match t with
    | 3 =>
      show (i < zs_np X.1 + 1 ∧ b = 0) ↔ (i < zs_np X.1 ∧ b = 0) ∨ (3, i, b) = (3, zs_np X.1, 0)
      simp only [Prod.mk.injEq, true_and]
      omega
    | 0 | 1 | 2 | 4 | 5 | 6 | 7 | 8 => exact ⟨fun h => Or.inl h, fun h => h.elim id (fun e => by simp at e)⟩
    | n + 9 => exact ⟨fun h => Or.inl h, fun h => h.elim id (fun e => by simp at e)⟩
  · intro q hq hn
    rw [← zs_cont_Zup hI hlab a q hq]
    rcases q with ⟨t, i, b⟩
    match t with
    | 1 =>
      obtain ⟨e1, e2⟩ : i = 0 ∧ b = 0 := hq
      subst e1; subst e2
      exact absurd (by simp) hn
    | 0 | 2 | 3 | 4 | 5 | 6 | 7 | 8 => rfl
    | n + 9 => rfl
  · intro q hq
    rw [List.mem_singleton.mp hq]
    exact ⟨rfl, rfl⟩
  · intro q hq hw
    rw [List.mem_singleton.mp hw, h1]
    show some (zk_aP g 24 _) = some (zk_aP g 24 (fun p => if p < zs_np X.1 + 1 then some (zs_Zup Z (3, zs_np X.1, 0) a (3, p, 0)) else none))
    congr 7
    funext p
    by_cases hp : p < zs_np X.1
    · have hne : p ≠ zs_np X.1 := by omega
      have : zs_Zup Z (3, zs_np X.1, 0) a (3, p, 0) = Z (3, p, 0) := zs_Zup_n Z a (by simp [hne])
      simp only [va_up, if_neg hne, if_pos hp, if_pos (Nat.lt_succ_of_lt hp), this]
    · by_cases he : p = zs_np X.1
      · subst he
        simp only [va_up, if_true, Nat.lt_succ_self, zs_Zup_s]
      · simp only [va_up, if_neg he, if_neg hp, if_neg (show ¬ p < zs_np X.1 + 1 by omega)]
  · rw [h2]
    show _ = some (.inr (2, [va_rf ((zs_nx X.1 (zs_np X.1) 0).map _), va_rf ((zs_lst (zs_lp X.1) (zs_np X.1) (zs_nl X.1)).map _)]) : va_E)
    have hno : ∀ j, j < zs_nl X.1 → zs_lp X.1 j ≠ zs_np X.1 := fun j hj => by have := (hI.2.2.1.1 j hj).1; omega
    rw [show zs_nx X.1 (zs_np X.1) 0 = none from zs_fst_of (fun j _ h => hno j (by omega)), zs_lst_of hno]
    rfl
theorem zs_R_kind {g : zk_G} {X : zs_X} {Z : zs_Z} {M M' : zk_M} {n a : Nat} (hR : zs_R g X Z M) (hI : zs_I X.1 n) (ha : M a = none) (hM : ∀ b, b ≠ a → b ≠ Z (2, 0, 0) → M' b = M b) (h1 : M' (Z (2, 0, 0)) = some (zk_aQ g 12 (va_up (fun p => if p < zs_nk X.1 then some (Z (4, p, 0)) else none) (zs_nk X.1) (some a)))) (h2 : M' a = some (.inr (0, [.null, .long 0, .long 0]))) : zs_R g (zs_nk_ X.1 (zs_nk X.1 + 1), X.2) (zs_Zup Z (4, zs_nk X.1, 0) a) M' := by
  have hlab : ¬ zs_ok X (4, zs_nk X.1, 0) := fun h => Nat.lt_irrefl _ h.1
  refine zs_R_new (X' := (zs_nk_ X.1 (zs_nk X.1 + 1), X.2)) hR (4, zs_nk X.1, 0) ha hlab ?_ [(2, 0, 0)] (fun b hb hw => hM b hb (hw _ (by simp))) ?_ ?_ ?_ ?_
  · intro q
    rcases q with ⟨t, i, b⟩
    match t with
    | 4 =>
      show (i < zs_nk X.1 + 1 ∧ b = 0) ↔ (i < zs_nk X.1 ∧ b = 0) ∨ (4, i, b) = (4, zs_nk X.1, 0)
      simp only [Prod.mk.injEq, true_and]
      omega
    | 5 =>
      refine ⟨fun h => Or.inl ?_, fun h => h.elim (fun h => ⟨Nat.lt_succ_of_lt h.1, h.2⟩) (fun e => by simp at e)⟩
      obtain ⟨h5, h6⟩ : i < zs_nk X.1 + 1 ∧ b < zs_pn X.1 i := h
      refine ⟨?_, h6⟩
      rcases Nat.eq_or_lt_of_le (Nat.le_of_lt_succ h5) with e | e
      · rw [(hI.2.1.2.1 i (by omega)).1] at h6
        omega
      · exact e
    | 0 | 1 | 2 | 3 | 6 | 7 | 8 => exact ⟨fun h => Or.inl h, fun h => h.elim id (fun e => by simp at e)⟩
    | n + 9 => exact ⟨fun h => Or.inl h, fun h => h.elim id (fun e => by simp at e)⟩
  · intro q hq hn
    rw [← zs_cont_Zup hI hlab a q hq]
    rcases q with ⟨t, i, b⟩
    match t with
    | 2 =>
      obtain ⟨e1, e2⟩ : i = 0 ∧ b = 0 := hq
      subst e1; subst e2
      exact absurd (by simp) hn
    | 0 | 1 | 3 | 4 | 5 | 6 | 7 | 8 => rfl
    | n + 9 => rfl
  · intro q hq
    rw [List.mem_singleton.mp hq]
    exact ⟨rfl, rfl⟩
  · intro q hq hw
    rw [List.mem_singleton.mp hw, h1]
    show some (zk_aQ g 12 _) = some (zk_aQ g 12 (fun p => if p < zs_nk X.1 + 1 then some (zs_Zup Z (4, zs_nk X.1, 0) a (4, p, 0)) else none))
    congr 7
    funext p
    by_cases hp : p < zs_nk X.1
    · have hne : p ≠ zs_nk X.1 := by omega
      have : zs_Zup Z (4, zs_nk X.1, 0) a (4, p, 0) = Z (4, p, 0) := zs_Zup_n Z a (by simp [hne])
      simp only [va_up, if_neg hne, if_pos hp, if_pos (Nat.lt_succ_of_lt hp), this]
    · by_cases he : p = zs_nk X.1
      · subst he
        simp only [va_up, if_true, Nat.lt_succ_self, zs_Zup_s]
      · simp only [va_up, if_neg he, if_neg hp, if_neg (show ¬ p < zs_nk X.1 + 1 by omega)]
  · rw [h2]
    show _ = some (.inr (0, [va_rf (zs_prev (zs_pn X.1 (zs_nk X.1)) _), .long (zs_sh X.1 (zs_nk X.1)), .long (zs_rs X.1 (zs_nk X.1))]) : va_E)
    obtain ⟨e1, e2, e3⟩ := hI.2.1.2.1 (zs_nk X.1) (Nat.le_refl _)
    rw [e1, e2, e3]
    rfl
def zs_addp (S : zs_S) (k : Nat) (d c : Int64) : zs_S := (zs_np S, zs_nk S, zs_nl S, zs_nc S, zs_ck S, va_up (zs_pn S) k (zs_pn S k + 1), vp_updL (zs_pd S) (20 * k + zs_pn S k) d, vp_updL (zs_pc S) (20 * k + zs_pn S k) c, zs_sh S, zs_rs S, zs_lp S, zs_lk S, zs_ll S, zs_ld S, zs_lc S, zs_tp S, zs_tt S, zs_ta S, zs_td S)
/-- a price: a new one of kind k -/
theorem zs_R_price {g : zk_G} {X : zs_X} {Z : zs_Z} {M M' : zk_M} {n a k : Nat} (hR : zs_R g X Z M) (hI : zs_I X.1 n) (hk : k < zs_nk X.1) (hp : zs_pn X.1 k < 20) (d c : Int64) (ha : M a = none) (hM : ∀ b, b ≠ a → b ≠ Z (4, k, 0) → M' b = M b) (h1 : M' (Z (4, k, 0)) = some (.inr (0, [.ref a, .long (zs_sh X.1 k), .long (zs_rs X.1 k)]))) (h2 : M' a = some (.inr (3, [.long d, va_rf (zs_prev (zs_pn X.1 k) (fun j => Z (5, k, j))), .long c]))) : zs_R g (zs_addp X.1 k d c, X.2) (zs_Zup Z (5, k, zs_pn X.1 k) a) M' := by
  have hlab : ¬ zs_ok X (5, k, zs_pn X.1 k) := fun h => Nat.lt_irrefl _ h.2
  have hkey : ∀ r, zs_ok X r → zs_Zup Z (5, k, zs_pn X.1 k) a r = Z r := fun r hr => zs_Zup_n Z a (fun e => hlab (e ▸ hr))
  refine zs_R_new (X' := (zs_addp X.1 k d c, X.2)) hR (5, k, zs_pn X.1 k) ha hlab ?_ [(4, k, 0)] (fun b hb hw => hM b hb (hw _ (by simp))) ?_ ?_ ?_ ?_
  · intro q
    rcases q with ⟨t, i, b⟩
    match t with
    | 5 =>
      show (i < zs_nk X.1 ∧ b < va_up (zs_pn X.1) k (zs_pn X.1 k + 1) i) ↔ (i < zs_nk X.1 ∧ b < zs_pn X.1 i) ∨ (5, i, b) = (5, k, zs_pn X.1 k)
      simp only [Prod.mk.injEq, true_and]
      by_cases he : i = k
      · subst he
        simp only [va_up, if_true, true_and]
        constructor
        · intro h; rcases Nat.eq_or_lt_of_le (Nat.le_of_lt_succ h.2) with e | e
          · exact Or.inr e
          · exact Or.inl ⟨h.1, e⟩
        · intro h; rcases h with h | h
          · exact ⟨h.1, Nat.lt_succ_of_lt h.2⟩
          · exact ⟨hk, by omega⟩
      · simp only [va_up, he, false_and, or_false, if_false]
    | 0 | 1 | 2 | 3 | 4 | 6 | 7 | 8 => exact ⟨fun h => Or.inl h, fun h => h.elim id (fun e => by simp at e)⟩
    | n + 9 => exact ⟨fun h => Or.inl h, fun h => h.elim id (fun e => by simp at e)⟩
  · intro q hq hn
    rw [← zs_cont_Zup hI hlab a q hq]
    rcases q with ⟨t, i, b⟩
    match t with
    | 4 =>
      obtain ⟨e1, e2⟩ : i < zs_nk X.1 ∧ b = 0 := hq
      subst e2
      have he : i ≠ k := fun e => hn (by rw [e]; simp)
      show (.inr (0, [va_rf (zs_prev (va_up (zs_pn X.1) k (zs_pn X.1 k + 1) i) _), _, _]) : va_E) = _
      rw [show va_up (zs_pn X.1) k (zs_pn X.1 k + 1) i = zs_pn X.1 i by simp [va_up, he]]
      rfl
    | 5 =>
      obtain ⟨e1, e2⟩ : i < zs_nk X.1 ∧ b < zs_pn X.1 i := hq
      have h5 := hI.2.1.1 i
      have he : 20 * i + b ≠ 20 * k + zs_pn X.1 k := fun e => by
        have e1 : i = k := by omega
        subst e1
        omega
      show (.inr (3, [.long (vp_updL (zs_pd X.1) (20 * k + zs_pn X.1 k) d (20 * i + b)), _, .long (vp_updL (zs_pc X.1) (20 * k + zs_pn X.1 k) c (20 * i + b))]) : va_E) = _
      rw [show vp_updL (zs_pd X.1) (20 * k + zs_pn X.1 k) d (20 * i + b) = zs_pd X.1 (20 * i + b) by simp [vp_updL, he], show vp_updL (zs_pc X.1) (20 * k + zs_pn X.1 k) c (20 * i + b) = zs_pc X.1 (20 * i + b) by simp [vp_updL, he]]
      rfl
    | 0 | 1 | 2 | 3 | 6 | 7 | 8 => rfl
    | n + 9 => rfl
  · intro q hq
    rw [List.mem_singleton.mp hq]
    exact ⟨hk, rfl⟩
  · intro q hq hw
    rw [List.mem_singleton.mp hw, h1]
    show _ = some (.inr (0, [va_rf (zs_prev (va_up (zs_pn X.1) k (zs_pn X.1 k + 1) k) (fun j => zs_Zup Z (5, k, zs_pn X.1 k) a (5, k, j))), _, _]) : va_E)
    rw [show va_up (zs_pn X.1) k (zs_pn X.1 k + 1) k = zs_pn X.1 k + 1 by simp [va_up]]
    show _ = some (.inr (0, [va_rf (some (zs_Zup Z (5, k, zs_pn X.1 k) a (5, k, zs_pn X.1 k))), _, _]) : va_E)
    rw [zs_Zup_s]
    rfl
  · rw [h2]
    show _ = some (.inr (3, [.long (vp_updL (zs_pd X.1) (20 * k + zs_pn X.1 k) d (20 * k + zs_pn X.1 k)), va_rf (zs_prev (zs_pn X.1 k) (fun j => zs_Zup Z (5, k, zs_pn X.1 k) a (5, k, j))), .long (vp_updL (zs_pc X.1) (20 * k + zs_pn X.1 k) c (20 * k + zs_pn X.1 k))]) : va_E)
    rw [show vp_updL (zs_pd X.1) (20 * k + zs_pn X.1 k) d (20 * k + zs_pn X.1 k) = d by simp [vp_updL], show vp_updL (zs_pc X.1) (20 * k + zs_pn X.1 k) c (20 * k + zs_pn X.1 k) = c by simp [vp_updL], zs_prev_congr (h := fun j => Z (5, k, j)) (fun j hj => hkey (5, k, j) ⟨hk, by omega⟩)]
/-- a transfer of c cents on day d, from party x to party y -/
def zs_mv (S : zs_S) (x y : Nat) (c d : Int64) : zs_S := (zs_np S, zs_nk S, zs_nl S, zs_nc S + 1, d, zs_pn S, zs_pd S, zs_pc S, zs_sh S, zs_rs S, zs_lp S, zs_lk S, zs_ll S, zs_ld S, zs_lc S, va_up (zs_tp S) (zs_nc S) x, va_up (zs_tt S) (zs_nc S) y, vp_updL (zs_ta S) (zs_nc S) c, vp_updL (zs_td S) (zs_nc S) d)
theorem zs_R_move {g : zk_G} {X : zs_X} {Z : zs_Z} {M M' : zk_M} {n a x y : Nat} (hR : zs_R g X Z M) (hI : zs_I X.1 n) (hx : x < zs_np X.1) (hy : y < zs_np X.1) (c d : Int64) (ha : M a = none) (hM : ∀ b, b ≠ a → b ≠ Z (0, 0, 0) → M' b = M b) (h1 : M' (Z (0, 0, 0)) = some (.inr (5, [.ref (Z (3, 0, 0)), .ref (Z (1, 0, 0)), .ref (Z (2, 0, 0)), .ref a, .int (nI (zs_nc X.1 + 1)), .long d]))) (h2 : M' a = some (.inr (4, [.long d, .long c, .ref (Z (3, x, 0)), .ref (Z (3, y, 0)), va_rf (zs_prev (zs_nc X.1) (fun i => Z (7, i, 0)))]))) : zs_R g (zs_mv X.1 x y c d, X.2) (zs_Zup Z (7, zs_nc X.1, 0) a) M' := by
  have hlab : ¬ zs_ok X (7, zs_nc X.1, 0) := fun h => Nat.lt_irrefl _ h.1
  have hkey : ∀ r, zs_ok X r → zs_Zup Z (7, zs_nc X.1, 0) a r = Z r := fun r hr => zs_Zup_n Z a (fun e => hlab (e ▸ hr))
  have hnp : 0 < zs_np X.1 := hI.1.1
  refine zs_R_new (X' := (zs_mv X.1 x y c d, X.2)) hR (7, zs_nc X.1, 0) ha hlab ?_ [(0, 0, 0)] (fun b hb hw => hM b hb (hw _ (by simp))) ?_ ?_ ?_ ?_
  · intro q
    rcases q with ⟨t, i, b⟩
    match t with
    | 7 =>
      show (i < zs_nc X.1 + 1 ∧ b = 0) ↔ (i < zs_nc X.1 ∧ b = 0) ∨ (7, i, b) = (7, zs_nc X.1, 0)
      simp only [Prod.mk.injEq, true_and]
      omega
    | 0 | 1 | 2 | 3 | 4 | 5 | 6 | 8 => exact ⟨fun h => Or.inl h, fun h => h.elim id (fun e => by simp at e)⟩
    | n + 9 => exact ⟨fun h => Or.inl h, fun h => h.elim id (fun e => by simp at e)⟩
  · intro q hq hn
    rw [← zs_cont_Zup hI hlab a q hq]
    rcases q with ⟨t, i, b⟩
    match t with
    | 0 =>
      obtain ⟨e1, e2⟩ : i = 0 ∧ b = 0 := hq
      subst e1; subst e2
      exact absurd (by simp) hn
    | 7 =>
      obtain ⟨e1, e2⟩ : i < zs_nc X.1 ∧ b = 0 := hq
      have he : i ≠ zs_nc X.1 := by omega
      show (.inr (4, [.long (vp_updL (zs_td X.1) (zs_nc X.1) d i), .long (vp_updL (zs_ta X.1) (zs_nc X.1) c i), .ref (zs_Zup Z (7, zs_nc X.1, 0) a (3, va_up (zs_tp X.1) (zs_nc X.1) x i, 0)), .ref (zs_Zup Z (7, zs_nc X.1, 0) a (3, va_up (zs_tt X.1) (zs_nc X.1) y i, 0)), _]) : va_E) = _
      rw [show vp_updL (zs_td X.1) (zs_nc X.1) d i = zs_td X.1 i by simp [vp_updL, he], show vp_updL (zs_ta X.1) (zs_nc X.1) c i = zs_ta X.1 i by simp [vp_updL, he], show va_up (zs_tp X.1) (zs_nc X.1) x i = zs_tp X.1 i by simp [va_up, he], show va_up (zs_tt X.1) (zs_nc X.1) y i = zs_tt X.1 i by simp [va_up, he]]
      rfl
    | 1 | 2 | 3 | 4 | 5 | 6 | 8 => rfl
    | n + 9 => rfl
  · intro q hq
    rw [List.mem_singleton.mp hq]
    exact ⟨rfl, rfl⟩
  · intro q hq hw
    rw [List.mem_singleton.mp hw, h1]
    show _ = some (.inr (5, [.ref (zs_Zup Z (7, zs_nc X.1, 0) a (3, 0, 0)), .ref (zs_Zup Z (7, zs_nc X.1, 0) a (1, 0, 0)), .ref (zs_Zup Z (7, zs_nc X.1, 0) a (2, 0, 0)), .ref (zs_Zup Z (7, zs_nc X.1, 0) a (7, zs_nc X.1, 0)), _, _]) : va_E)
    rw [hkey (3, 0, 0) ⟨hnp, rfl⟩, hkey (1, 0, 0) ⟨rfl, rfl⟩, hkey (2, 0, 0) ⟨rfl, rfl⟩, zs_Zup_s]
    rfl
  · rw [h2]
    show _ = some (.inr (4, [.long (vp_updL (zs_td X.1) (zs_nc X.1) d (zs_nc X.1)), .long (vp_updL (zs_ta X.1) (zs_nc X.1) c (zs_nc X.1)), .ref (zs_Zup Z (7, zs_nc X.1, 0) a (3, va_up (zs_tp X.1) (zs_nc X.1) x (zs_nc X.1), 0)), .ref (zs_Zup Z (7, zs_nc X.1, 0) a (3, va_up (zs_tt X.1) (zs_nc X.1) y (zs_nc X.1), 0)), va_rf (zs_prev (zs_nc X.1) (fun i => zs_Zup Z (7, zs_nc X.1, 0) a (7, i, 0)))]) : va_E)
    rw [show vp_updL (zs_td X.1) (zs_nc X.1) d (zs_nc X.1) = d by simp [vp_updL], show vp_updL (zs_ta X.1) (zs_nc X.1) c (zs_nc X.1) = c by simp [vp_updL], show va_up (zs_tp X.1) (zs_nc X.1) x (zs_nc X.1) = x by simp [va_up], show va_up (zs_tt X.1) (zs_nc X.1) y (zs_nc X.1) = y by simp [va_up], hkey (3, x, 0) ⟨hx, rfl⟩, hkey (3, y, 0) ⟨hy, rfl⟩, zs_prev_congr (h := fun i => Z (7, i, 0)) (fun j hj => hkey (7, j, 0) ⟨by omega, rfl⟩)]
/-- a layer of party p, kind k -/
def zs_lay (S : zs_S) (p k : Nat) (n d c : Int64) : zs_S := (zs_np S, zs_nk S, zs_nl S + 1, zs_nc S, zs_ck S, zs_pn S, zs_pd S, zs_pc S, zs_sh S, zs_rs S, va_up (zs_lp S) (zs_nl S) p, va_up (zs_lk S) (zs_nl S) k, vp_updL (zs_ll S) (zs_nl S) n, vp_updL (zs_ld S) (zs_nl S) d, vp_updL (zs_lc S) (zs_nl S) c, zs_tp S, zs_tt S, zs_ta S, zs_td S)
theorem zs_lay_nx {S : zs_S} {p k : Nat} {n d c : Int64} (q a : Nat) (h : a ≤ zs_nl S) : zs_nx (zs_lay S p k n d c) q a = (match zs_nx S q a with | some i => some i | none => if p = q then some (zs_nl S) else none) := by
  show zs_fst (va_up (zs_lp S) (zs_nl S) p) q a (zs_nl S + 1 - a) = _
  rw [show zs_nl S + 1 - a = (zs_nl S - a) + 1 by omega, zs_fst_snoc (lp := zs_lp S) (fun j h1 h2 => by simp [va_up, show j ≠ zs_nl S by omega]), show a + (zs_nl S - a) = zs_nl S by omega]
  simp only [va_up, if_true]
  rfl
theorem zs_lay_lst {S : zs_S} {p k : Nat} {n d c : Int64} (q : Nat) : zs_lst (zs_lp (zs_lay S p k n d c)) q (zs_nl (zs_lay S p k n d c)) = if p = q then some (zs_nl S) else zs_lst (zs_lp S) q (zs_nl S) := by
  show zs_lst (va_up (zs_lp S) (zs_nl S) p) q (zs_nl S + 1) = _
  show (if va_up (zs_lp S) (zs_nl S) p (zs_nl S) = q then some (zs_nl S) else zs_lst (va_up (zs_lp S) (zs_nl S) p) q (zs_nl S)) = _
  rw [show va_up (zs_lp S) (zs_nl S) p (zs_nl S) = p by simp [va_up], zs_lst_snoc (lp := zs_lp S) (fun j hj => by simp [va_up, show j ≠ zs_nl S by omega])]
theorem zs_R_lay {g : zk_G} {X : zs_X} {Z : zs_Z} {M M' : zk_M} {n a p k : Nat} (hR : zs_R g X Z M) (hI : zs_I X.1 n) (hp : p < zs_np X.1) (hk : k < zs_nk X.1) (m d c : Int64) (ha : M a = none) (hM : ∀ b, b ≠ a → b ≠ Z (3, p, 0) → (∀ i, zs_lst (zs_lp X.1) p (zs_nl X.1) = some i → b ≠ Z (6, i, 0)) → M' b = M b)
    (h1 : M' (Z (3, p, 0)) = some (.inr (2, [va_rf (match zs_lst (zs_lp X.1) p (zs_nl X.1) with | none => some a | some _ => (zs_nx X.1 p 0).map (fun i => Z (6, i, 0))), .ref a])))
    (h3 : ∀ i, zs_lst (zs_lp X.1) p (zs_nl X.1) = some i → M' (Z (6, i, 0)) = some (.inr (1, [.ref (Z (4, zs_lk X.1 i, 0)), .long (zs_ld X.1 i), .long (zs_lc X.1 i), .long (zs_ll X.1 i), .ref a])))
    (h2 : M' a = some (.inr (1, [.ref (Z (4, k, 0)), .long d, .long c, .long m, .null]))) : zs_R g (zs_lay X.1 p k m d c, X.2) (zs_Zup Z (6, zs_nl X.1, 0) a) M' := by
  have hlab : ¬ zs_ok X (6, zs_nl X.1, 0) := fun h => Nat.lt_irrefl _ h.1
  have hkey : ∀ r, zs_ok X r → zs_Zup Z (6, zs_nl X.1, 0) a r = Z r := fun r hr => zs_Zup_n Z a (fun e => hlab (e ▸ hr))
  refine zs_R_new (X' := (zs_lay X.1 p k m d c, X.2)) hR (6, zs_nl X.1, 0) ha hlab ?_ ((3, p, 0) :: (zs_lst (zs_lp X.1) p (zs_nl X.1)).toList.map (fun i => (6, i, 0))) (fun b hb hw => hM b hb (hw _ (by simp)) (fun i hi => hw _ (by simp [hi]))) ?_ ?_ ?_ ?_
  · intro q
    rcases q with ⟨t, i, b⟩
    match t with
    | 6 =>
      show (i < zs_nl X.1 + 1 ∧ b = 0) ↔ (i < zs_nl X.1 ∧ b = 0) ∨ (6, i, b) = (6, zs_nl X.1, 0)
      simp only [Prod.mk.injEq, true_and]
      omega
    | 0 | 1 | 2 | 3 | 4 | 5 | 7 | 8 => exact ⟨fun h => Or.inl h, fun h => h.elim id (fun e => by simp at e)⟩
    | n + 9 => exact ⟨fun h => Or.inl h, fun h => h.elim id (fun e => by simp at e)⟩
  · intro q hq hn
    rw [← zs_cont_Zup hI hlab a q hq]
    rcases q with ⟨t, i, b⟩
    match t with
    | 3 =>
      obtain ⟨e1, e2⟩ : i < zs_np X.1 ∧ b = 0 := hq
      subst e2
      have he : ¬ p = i := fun e => hn (by rw [e]; simp)
      show (.inr (2, [va_rf ((zs_nx (zs_lay X.1 p k m d c) i 0).map _), va_rf ((zs_lst (zs_lp (zs_lay X.1 p k m d c)) i (zs_nl (zs_lay X.1 p k m d c))).map _)]) : va_E) = _
      rw [zs_lay_nx i 0 (Nat.zero_le _), zs_lay_lst, if_neg he, if_neg he]
      cases hx : zs_nx X.1 i 0 with
      | none => show _ = (.inr (2, [va_rf ((zs_nx X.1 i 0).map _), _]) : va_E); rw [hx]
      | some j => show _ = (.inr (2, [va_rf ((zs_nx X.1 i 0).map _), _]) : va_E); rw [hx]
    | 6 =>
      obtain ⟨e1, e2⟩ : i < zs_nl X.1 ∧ b = 0 := hq
      subst e2
      have he : i ≠ zs_nl X.1 := by omega
      show (.inr (1, [.ref (zs_Zup Z (6, zs_nl X.1, 0) a (4, va_up (zs_lk X.1) (zs_nl X.1) k i, 0)), .long (vp_updL (zs_ld X.1) (zs_nl X.1) d i), .long (vp_updL (zs_lc X.1) (zs_nl X.1) c i), .long (vp_updL (zs_ll X.1) (zs_nl X.1) m i), va_rf ((zs_nx (zs_lay X.1 p k m d c) (va_up (zs_lp X.1) (zs_nl X.1) p i) (i + 1)).map _)]) : va_E) = (.inr (1, [.ref (zs_Zup Z (6, zs_nl X.1, 0) a (4, zs_lk X.1 i, 0)), .long (zs_ld X.1 i), .long (zs_lc X.1 i), .long (zs_ll X.1 i), va_rf ((zs_nx X.1 (zs_lp X.1 i) (i + 1)).map _)]) : va_E)
      rw [show vp_updL (zs_ld X.1) (zs_nl X.1) d i = zs_ld X.1 i by simp [vp_updL, he], show vp_updL (zs_lc X.1) (zs_nl X.1) c i = zs_lc X.1 i by simp [vp_updL, he], show vp_updL (zs_ll X.1) (zs_nl X.1) m i = zs_ll X.1 i by simp [vp_updL, he], show va_up (zs_lk X.1) (zs_nl X.1) k i = zs_lk X.1 i by simp [va_up, he], show va_up (zs_lp X.1) (zs_nl X.1) p i = zs_lp X.1 i by simp [va_up, he], zs_lay_nx _ (i + 1) (by omega)]
      cases hx : zs_nx X.1 (zs_lp X.1 i) (i + 1) with
      | some j => rfl
      | none =>
        have hpi : ¬ p = zs_lp X.1 i := fun e => by
          refine hn ?_
          have hl : zs_lst (zs_lp X.1) p (zs_nl X.1) = some i := by
            cases hl : zs_lst (zs_lp X.1) p (zs_nl X.1) with
            | none => exact absurd e.symm (zs_lst_none hl i e1)
            | some j =>
              obtain ⟨g1, g2, g3⟩ := zs_lst_some hl
              rcases Nat.lt_trichotomy j i with q | q | q
              · exact absurd e.symm (g3 i q e1)
              · rw [q]
              · exact absurd (g2.trans e) (zs_nx_none hx j q g1)
          simp [hl]
        simp only [if_neg hpi]
    | 0 | 1 | 2 | 4 | 5 | 7 | 8 => rfl
    | n + 9 => rfl
  · intro q hq
    rcases List.mem_cons.mp hq with h | h
    · rw [h]; exact ⟨hp, rfl⟩
    · obtain ⟨i, hi, rfl⟩ := List.mem_map.mp h
      exact ⟨(zs_lst_some (by simpa using hi)).1, rfl⟩
  · intro q hq hw
    rcases List.mem_cons.mp hw with h | h
    · rw [h, h1]
      show _ = some (.inr (2, [va_rf ((zs_nx (zs_lay X.1 p k m d c) p 0).map (fun i => zs_Zup Z (6, zs_nl X.1, 0) a (6, i, 0))), va_rf ((zs_lst (zs_lp (zs_lay X.1 p k m d c)) p (zs_nl (zs_lay X.1 p k m d c))).map (fun i => zs_Zup Z (6, zs_nl X.1, 0) a (6, i, 0)))]) : va_E)
      rw [zs_lay_nx p 0 (Nat.zero_le _), zs_lay_lst]
      simp only [if_true]
      cases hl : zs_lst (zs_lp X.1) p (zs_nl X.1) with
      | none =>
        rw [show zs_nx X.1 p 0 = none from zs_fst_of (fun j _ h => zs_lst_none hl j (by omega))]
        simp only [Option.map_some, zs_Zup_s]
        rfl
      | some j =>
        obtain ⟨g1, g2, g3⟩ := zs_lst_some hl
        cases hx : zs_nx X.1 p 0 with
        | none => exact absurd g2 (zs_nx_none hx j (Nat.zero_le _) g1)
        | some j2 =>
          simp only [Option.map_some, zs_Zup_s]
          rw [hkey (6, j2, 0) ⟨(zs_nx_some hx).2.1, rfl⟩]
          rfl
    · obtain ⟨i, hi, rfl⟩ := List.mem_map.mp h
      have hl : zs_lst (zs_lp X.1) p (zs_nl X.1) = some i := by simpa using hi
      obtain ⟨g1, g2, g3⟩ := zs_lst_some hl
      have he : i ≠ zs_nl X.1 := by omega
      rw [h3 i hl]
      show _ = some (.inr (1, [.ref (zs_Zup Z (6, zs_nl X.1, 0) a (4, va_up (zs_lk X.1) (zs_nl X.1) k i, 0)), .long (vp_updL (zs_ld X.1) (zs_nl X.1) d i), .long (vp_updL (zs_lc X.1) (zs_nl X.1) c i), .long (vp_updL (zs_ll X.1) (zs_nl X.1) m i), va_rf ((zs_nx (zs_lay X.1 p k m d c) (va_up (zs_lp X.1) (zs_nl X.1) p i) (i + 1)).map (fun i => zs_Zup Z (6, zs_nl X.1, 0) a (6, i, 0)))]) : va_E)
      rw [show vp_updL (zs_ld X.1) (zs_nl X.1) d i = zs_ld X.1 i by simp [vp_updL, he], show vp_updL (zs_lc X.1) (zs_nl X.1) c i = zs_lc X.1 i by simp [vp_updL, he], show vp_updL (zs_ll X.1) (zs_nl X.1) m i = zs_ll X.1 i by simp [vp_updL, he], show va_up (zs_lk X.1) (zs_nl X.1) k i = zs_lk X.1 i by simp [va_up, he], show va_up (zs_lp X.1) (zs_nl X.1) p i = p by simp [va_up, he, g2], zs_lay_nx _ (i + 1) (by omega), show zs_nx X.1 p (i + 1) = none from zs_fst_of (fun j h4 h5 => g3 j (by omega) (by omega)), hkey (4, zs_lk X.1 i, 0) ⟨(hI.2.2.1.1 i g1).2.1, rfl⟩]
      simp only [if_true, Option.map_some, zs_Zup_s]
      rfl
  · rw [h2]
    show _ = some (.inr (1, [.ref (zs_Zup Z (6, zs_nl X.1, 0) a (4, va_up (zs_lk X.1) (zs_nl X.1) k (zs_nl X.1), 0)), .long (vp_updL (zs_ld X.1) (zs_nl X.1) d (zs_nl X.1)), .long (vp_updL (zs_lc X.1) (zs_nl X.1) c (zs_nl X.1)), .long (vp_updL (zs_ll X.1) (zs_nl X.1) m (zs_nl X.1)), va_rf ((zs_nx (zs_lay X.1 p k m d c) (va_up (zs_lp X.1) (zs_nl X.1) p (zs_nl X.1)) (zs_nl X.1 + 1)).map _)]) : va_E)
    rw [show vp_updL (zs_ld X.1) (zs_nl X.1) d (zs_nl X.1) = d by simp [vp_updL], show vp_updL (zs_lc X.1) (zs_nl X.1) c (zs_nl X.1) = c by simp [vp_updL], show vp_updL (zs_ll X.1) (zs_nl X.1) m (zs_nl X.1) = m by simp [vp_updL], show va_up (zs_lk X.1) (zs_nl X.1) k (zs_nl X.1) = k by simp [va_up], show zs_nx (zs_lay X.1 p k m d c) (va_up (zs_lp X.1) (zs_nl X.1) p (zs_nl X.1)) (zs_nl X.1 + 1) = none from zs_fst_of (fun j h4 h5 => absurd h5 (by show ¬ j < zs_nl X.1 + 1 + (zs_nl X.1 + 1 - (zs_nl X.1 + 1)); omega)), hkey (4, k, 0) ⟨hk, rfl⟩]
    rfl
