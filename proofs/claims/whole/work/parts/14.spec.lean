theorem zs_b0 {P : Prop} [Decidable P] {r : Int32} (h : r = if P then 1 else 0) (e : r = 0) : ¬ P := fun q => by rw [h, if_pos q] at e; exact absurd e (by decide)
theorem zs_b1 {P : Prop} [Decidable P] {r : Int32} (h : r = if P then 1 else 0) (e : ¬ r = 0) : P := Decidable.byContradiction (fun q => e (by rw [h, if_neg q]))
theorem zs_R_fresh {g : zk_G} {X : zs_X} {Z : zs_Z} {M M' : zk_M} {a : Nat} (hR : zs_R g X Z M) (ha : M a = none) (h : ∀ b, b ≠ a → M' b = M b) : zs_R g X Z M' :=
  ⟨fun q hq => (h _ (zk_ne_none (hR.1 q hq) ha)).trans (hR.1 q hq), hR.2⟩
theorem zs_no {g : zk_G} {X : zs_X} {Z : zs_Z} {M : zk_M} {f : Int32 × zs_S} {v : Int32} (hR : zs_R g X Z M) (e : f = (v, X.1)) : v = f.1 ∧ zs_P g X Z (f.2, X.2) M := by
  rw [e]; exact ⟨rfl, Z, hR, fun _ _ => rfl⟩
theorem zs_yes {g : zk_G} {X : zs_X} {Z : zs_Z} {M : zk_M} {f : Int32 × zs_S} {v : Int32} {S : zs_S} (e : f = (v, S)) (h : zs_P g X Z (S, X.2) M) : v = f.1 ∧ zs_P g X Z (f.2, X.2) M := by
  rw [e]; exact ⟨rfl, h⟩
theorem zs_P_trans {g : zk_G} {X X1 X2 : zs_X} {Z Z1 : zs_Z} {u : zk_M} (h : zs_P g X1 Z1 X2 u) (hz : ∀ q, zs_ok X q → Z1 q = Z q) (hk : ∀ q, zs_ok X q → zs_ok X1 q) : zs_P g X Z X2 u := by
  obtain ⟨Z2, h1, h2⟩ := h
  exact ⟨Z2, h1, fun q hq => (h2 q (hk q hq)).trans (hz q hq)⟩
-- what each call answers and does, for either side
def zs_fparty (S : zs_S) : Int32 × zs_S := if zs_np S < 24 then (nI (zs_np S), zs_np_ S (zs_np S + 1)) else (-2, S)
def zs_fkind (S : zs_S) : Int32 × zs_S := if zs_nk S < 12 then (nI (zs_nk S), zs_nk_ S (zs_nk S + 1)) else (-2, S)
def zs_fprice (S : zs_S) (x : Int32) (d c : Int64) : Int32 × zs_S := match zs_ix (zs_nk S) x with
  | some k => if zs_isD d ∧ 0 ≤ c ∧ c ≤ 100000 then zs_tell S k d c else (0, S)
  | none => (0, S)
def zs_fout (S : zs_S) (x y : Int32) (n d : Int64) : Int32 × zs_S := match zs_cx (zs_np S) x with
  | none => (0, S)
  | some p => match zs_ix (zs_nk S) y with
    | none => (0, S)
    | some k => if zs_isN n ∧ (zs_isD d ∧ zs_ck S ≤ d) ∧ zs_cnt (zs_ll S) (zs_nl S) < 400 then (1, zs_mv (zs_lay S p k n d (zs_pr S k d)) p 0 (n * zs_pr S k d) d) else (0, S)
def zs_fback (S : zs_S) (x y : Int32) (n d : Int64) : Int32 × zs_S := match zs_cx (zs_np S) x with
  | none => (0, S)
  | some p => match zs_ix (zs_nk S) y with
    | none => (0, S)
    | some k => if zs_isN n ∧ (zs_isD d ∧ zs_ck S ≤ d) ∧ n ≤ zs_has S p k then (1, zs_mv (zs_ll_ S (zs_take S p k n (zs_nl S)).1) 0 p (zs_take S p k n (zs_nl S)).2.2 d) else (0, S)
def zs_fsampled (S : zs_S) (x : Int32) (n d : Int64) : Int32 × zs_S := match zs_cx (zs_np S) x with
  | none => (0, S)
  | some p => if zs_isN n ∧ (zs_isD d ∧ zs_ck S ≤ d) ∧ zs_sum (zs_sh S) (zs_nk S) = 10000 ∧ zs_enough S p n (zs_nk S) = true then (1, zs_mv (zs_rs_ (zs_ll_ S (zs_lot S p n (zs_nk S)).1) (zs_lot S p n (zs_nk S)).2.1) 0 p (zs_lot S p n (zs_nk S)).2.2 d) else (0, S)
def zs_fshare (S : zs_S) (x : Int32) (a b : Int64) : Int32 × zs_S := match zs_ix (zs_nk S) x with
  | none => (0, S)
  | some k => if (1 ≤ b ∧ b ≤ 10000) ∧ 0 ≤ a ∧ a ≤ b ∧ a * 10000 - a * 10000 / b * b = 0 then (1, zs_sh_ S (vp_updL (zs_sh S) k (a * 10000 / b))) else (0, S)
def zs_fbalance (S : zs_S) (x : Int32) (d : Int64) : Int64 := match zs_ix (zs_np S) x with
  | none => 0
  | some p => zs_bal S p d
def zs_fcount (S : zs_S) (x y : Int32) : Int64 := match zs_ix (zs_np S) x with
  | none => -1
  | some p => match zs_ix (zs_nk S) y with
    | none => -1
    | some k => zs_has S p k
def zs_lostf (S : zs_S) (k : Nat) (d : Int64) (i : Nat) : Int64 := if zs_lk S i = k ∧ zs_ld S i ≤ d then zs_ll S i else 0
def zs_flost (S : zs_S) (y m : Int32) : Int64 := match zs_ix (zs_nk S) y with
  | none => -1
  | some k => if m < 0 then -1 else zs_sum (zs_lostf S k (zs_ck S - Int32.toInt64 m * 30)) (zs_nl S)
/-- w: who pays when the worths are the same (nobody pays anything then) -/
def zs_fsettle (w : Int64 → Bool) (S : zs_S) (x y m : Int32) : Int32 × zs_S := match zs_cx (zs_np S) x with
  | none => (-2, S)
  | some p => match zs_cx (zs_np S) y with
    | none => (-2, S)
    | some q => if ¬ p = q ∧ zs_isD (Int32.toInt64 m * 30) ∧ zs_ck S ≤ Int32.toInt64 m * 30 then
        ((if (if 0 < zs_worth S p (Int32.toInt64 m * 30) - zs_worth S q (Int32.toInt64 m * 30) then zs_worth S p (Int32.toInt64 m * 30) - zs_worth S q (Int32.toInt64 m * 30) else -(zs_worth S p (Int32.toInt64 m * 30) - zs_worth S q (Int32.toInt64 m * 30))) / 2 = 0 then 0 else if 0 < zs_worth S p (Int32.toInt64 m * 30) - zs_worth S q (Int32.toInt64 m * 30) then 1 else -1),
          zs_mv S (if w (zs_worth S p (Int32.toInt64 m * 30) - zs_worth S q (Int32.toInt64 m * 30)) = true then p else q) (if w (zs_worth S p (Int32.toInt64 m * 30) - zs_worth S q (Int32.toInt64 m * 30)) = true then q else p) ((if 0 < zs_worth S p (Int32.toInt64 m * 30) - zs_worth S q (Int32.toInt64 m * 30) then zs_worth S p (Int32.toInt64 m * 30) - zs_worth S q (Int32.toInt64 m * 30) else -(zs_worth S p (Int32.toInt64 m * 30) - zs_worth S q (Int32.toInt64 m * 30))) / 2) (Int32.toInt64 m * 30))
      else (-2, S)
def zs_rn (S : zs_S) (k : Nat) : Nat := (zs_rs S k).toInt.toNat
def zs_frest (S : zs_S) (y part : Int32) : Int64 := match zs_ix (zs_nk S) y with
  | none => -1
  | some k => if part < 0 ∨ 1 < part then -1 else if part = 0 then lN (zs_rn S k / Nat.gcd 10000 (zs_rn S k)) else lN (10000 / Nat.gcd 10000 (zs_rn S k))
-- the bounds are kept
theorem zs_0le {x : Int64} : 0 ≤ x ↔ 0 ≤ x.toInt := by rw [Int64.le_iff_toInt_le]; rfl
theorem zs_sub_in {x y : Int64} (h0 : 0 ≤ y) (h : y ≤ x) : 0 ≤ x - y ∧ x - y ≤ x := by
  rw [Int64.le_iff_toInt_le] at h
  rw [zs_0le] at h0
  have e := Int64.toInt_sub x y
  have b1 := Int64.toInt_lt x
  have b2 := Int64.le_toInt x
  have : (x - y).toInt = x.toInt - y.toInt := by
    rw [e]
    exact Int.bmod_eq_of_le (by omega) (by omega)
  constructor
  · rw [zs_0le, this]; omega
  · rw [Int64.le_iff_toInt_le, this]; omega
/-- what is left in the layers is at most what was -/
def zs_dom (S : zs_S) (f : Nat → Int64) : Prop := ∀ j, j < zs_nl S → 0 ≤ f j ∧ f j ≤ zs_ll S j
theorem zs_take_dom {S : zs_S} {p k : Nat} {n : Int64} (h : ∀ j, j < zs_nl S → 0 ≤ zs_ll S j) (hn : 0 ≤ n) : ∀ (i : Nat), i ≤ zs_nl S → zs_dom S (zs_take S p k n i).1 ∧ 0 ≤ (zs_take S p k n i).2.1 := by
  intro i
  induction i with
  | zero => intro _; exact ⟨fun j hj => ⟨h j hj, Int64.le_refl _⟩, hn⟩
  | succ i ih =>
    intro hi
    obtain ⟨h1, h2⟩ := ih (by omega)
    by_cases hc : zs_lp S i = p ∧ zs_lk S i = k
    · rw [zs_take_pos (f := (zs_take S p k n i).1) (lf := (zs_take S p k n i).2.1) (wo := (zs_take S p k n i).2.2) rfl hc]
      generalize (zs_take S p k n i).1 = f at h1 ⊢
      generalize (zs_take S p k n i).2.1 = lf at h2 ⊢
      obtain ⟨g1, g2⟩ := h1 i (by omega)
      have ha : 0 ≤ (if f i < lf then f i else lf) ∧ (if f i < lf then f i else lf) ≤ f i ∧ (if f i < lf then f i else lf) ≤ lf := by
        by_cases q : f i < lf
        · rw [if_pos q]; exact ⟨g1, Int64.le_refl _, Int64.le_of_lt q⟩
        · rw [if_neg q]; exact ⟨h2, Int64.not_lt.mp q, Int64.le_refl _⟩
      generalize (if f i < lf then f i else lf) = a at ha ⊢
      refine ⟨fun j hj => ?_, (zs_sub_in ha.1 ha.2.2).1⟩
      show 0 ≤ vp_updL f i (f i - a) j ∧ vp_updL f i (f i - a) j ≤ _
      by_cases q : j = i
      · subst q
        have e : vp_updL f j (f j - a) j = f j - a := by simp [vp_updL]
        rw [e]
        obtain ⟨s1, s2⟩ := zs_sub_in ha.1 ha.2.1
        exact ⟨s1, Int64.le_trans s2 g2⟩
      · have e : vp_updL f i (f i - a) j = f j := by simp [vp_updL, q]
        rw [e]
        exact h1 j hj
    · rw [zs_take_neg hc]
      exact ⟨h1, h2⟩
theorem zs_cnt_le {f h : Nat → Int64} : ∀ {n : Nat}, (∀ j, j < n → f j ≤ h j) → zs_cnt f n ≤ zs_cnt h n := by
  intro n hh
  rw [zs_cnt_nsum, zs_cnt_nsum]
  refine zs_nsum_le (fun j hj => ?_)
  by_cases q : 0 < f j
  · rw [if_pos q, if_pos (Int64.lt_of_lt_of_le q (hh j hj))]; exact Nat.le_refl _
  · rw [if_neg q]; exact Nat.zero_le _
theorem zs_Il_ll {S : zs_S} (h : zs_Il S) {f : Nat → Int64} (hf : zs_dom S f) : zs_Il (zs_ll_ S f) :=
  ⟨fun i hi => by
    obtain ⟨a1, a2, a3, a4, a5, a6⟩ := h.1 i hi
    obtain ⟨b1, b2⟩ := hf i hi
    exact ⟨a1, a2, a3, a4, b1, Int64.le_trans b2 a6⟩, Nat.le_trans (zs_cnt_le (fun j hj => (hf j hj).2)) h.2⟩
theorem zs_I_ll {S : zs_S} {n : Nat} (h : zs_I S n) {f : Nat → Int64} (hf : zs_dom S f) : zs_I (zs_ll_ S f) n := ⟨h.1, h.2.1, zs_Il_ll h.2.2.1 hf, h.2.2.2⟩
theorem zs_I_mono {S : zs_S} {n : Nat} (h : zs_I S n) : zs_I S (n + 1) := ⟨⟨h.1.1, h.1.2.1, h.1.2.2.1, Nat.le_succ_of_le h.1.2.2.2.1, Nat.le_succ_of_le h.1.2.2.2.2.1, h.1.2.2.2.2.2⟩, h.2⟩
theorem zs_I_np {S : zs_S} {n : Nat} (h : zs_I S n) (hp : zs_np S < 24) : zs_I (zs_np_ S (zs_np S + 1)) n :=
  ⟨⟨Nat.succ_le_succ (Nat.zero_le _), hp, h.1.2.2⟩, h.2.1, ⟨fun i hi => by
    obtain ⟨a1, a2⟩ := h.2.2.1.1 i hi
    exact ⟨Nat.lt_succ_of_lt a1, a2⟩, h.2.2.1.2⟩, fun i hi => by
    obtain ⟨a1, a2, a3⟩ := h.2.2.2 i hi
    exact ⟨Nat.lt_succ_of_lt a1, Nat.lt_succ_of_lt a2, a3⟩⟩
theorem zs_I_nk {S : zs_S} {n : Nat} (h : zs_I S n) (hp : zs_nk S < 12) : zs_I (zs_nk_ S (zs_nk S + 1)) n :=
  ⟨⟨h.1.1, h.1.2.1, hp, h.1.2.2.2⟩, ⟨h.2.1.1, fun k hk => h.2.1.2.1 k (Nat.le_of_succ_le hk), h.2.1.2.2⟩, ⟨fun i hi => by
    obtain ⟨a1, a2, a3⟩ := h.2.2.1.1 i hi
    exact ⟨a1, Nat.lt_succ_of_lt a2, a3⟩, h.2.2.1.2⟩, h.2.2.2⟩
theorem zs_I_sh {S : zs_S} {n k : Nat} (h : zs_I S n) (hk : k < zs_nk S) {v : Int64} (h0 : 0 ≤ v) (h1 : v ≤ 10000) : zs_I (zs_sh_ S (vp_updL (zs_sh S) k v)) n :=
  ⟨h.1, ⟨h.2.1.1, fun j hj => by
    obtain ⟨a1, a2, a3⟩ := h.2.1.2.1 j hj
    refine ⟨a1, ?_, a3⟩
    show vp_updL (zs_sh S) k v j = 0
    have : j ≠ k := fun e => by rw [e] at hj; exact absurd hj (Nat.not_le.mpr hk)
    simp [vp_updL, this, a2], fun j => by
    obtain ⟨a1, a2, a3⟩ := h.2.1.2.2.1 j
    show 0 ≤ vp_updL (zs_sh S) k v j ∧ vp_updL (zs_sh S) k v j ≤ 10000 ∧ _
    by_cases q : j = k
    · have e : vp_updL (zs_sh S) k v j = v := by simp [vp_updL, q]
      rw [e]; exact ⟨h0, h1, a3⟩
    · have e : vp_updL (zs_sh S) k v j = zs_sh S j := by simp [vp_updL, q]
      rw [e]; exact ⟨a1, a2, a3⟩, h.2.1.2.2.2⟩, h.2.2⟩
theorem zs_I_mv {S : zs_S} {n x y : Nat} (h : zs_I S n) (hl : zs_nc S < n) (hx : x < zs_np S) (hy : y < zs_np S) (hxy : x ≠ y) (c : Int64) {d : Int64} (hd : zs_isD d) : zs_I (zs_mv S x y c d) n :=
  ⟨⟨h.1.1, h.1.2.1, h.1.2.2.1, h.1.2.2.2.1, hl, hd⟩, h.2.1, h.2.2.1, fun i hi => by
    show va_up (zs_tp S) (zs_nc S) x i < zs_np S ∧ va_up (zs_tt S) (zs_nc S) y i < zs_np S ∧ va_up (zs_tp S) (zs_nc S) x i ≠ va_up (zs_tt S) (zs_nc S) y i
    by_cases q : i = zs_nc S
    · have e1 : va_up (zs_tp S) (zs_nc S) x i = x := by simp [va_up, q]
      have e2 : va_up (zs_tt S) (zs_nc S) y i = y := by simp [va_up, q]
      rw [e1, e2]; exact ⟨hx, hy, hxy⟩
    · have e1 : va_up (zs_tp S) (zs_nc S) x i = zs_tp S i := by simp [va_up, q]
      have e2 : va_up (zs_tt S) (zs_nc S) y i = zs_tt S i := by simp [va_up, q]
      rw [e1, e2]
      have hi' : i < zs_nc S + 1 := hi
      exact h.2.2.2 i (by omega)⟩
theorem zs_cnt_congr {f h : Nat → Int64} {n : Nat} (e : ∀ j, j < n → f j = h j) : zs_cnt f n = zs_cnt h n := by
  rw [zs_cnt_nsum, zs_cnt_nsum]
  exact zs_nsum_congr (fun j hj => by rw [e j hj])
theorem zs_I_lay {S : zs_S} {n p k : Nat} (h : zs_I S n) (hl : zs_nl S < n) (hp : p < zs_np S) (hk : k < zs_nk S) {m d : Int64} (c : Int64) (hm : zs_isN m) (hd : zs_isD d) (hc : zs_cnt (zs_ll S) (zs_nl S) < 400) : zs_I (zs_lay S p k m d c) n :=
  ⟨⟨h.1.1, h.1.2.1, h.1.2.2.1, hl, h.1.2.2.2.2⟩, h.2.1, ⟨fun i hi => by
    show va_up (zs_lp S) (zs_nl S) p i < zs_np S ∧ va_up (zs_lk S) (zs_nl S) k i < zs_nk S ∧ 0 ≤ vp_updL (zs_ld S) (zs_nl S) d i ∧ vp_updL (zs_ld S) (zs_nl S) d i ≤ 100000 ∧ 0 ≤ vp_updL (zs_ll S) (zs_nl S) m i ∧ vp_updL (zs_ll S) (zs_nl S) m i ≤ 100000
    by_cases q : i = zs_nl S
    · simp only [va_up, vp_updL, q, if_true]
      exact ⟨hp, hk, hd.1, hd.2, Int64.le_trans (by decide) hm.1, hm.2⟩
    · simp only [va_up, vp_updL, q, if_false]
      have hi' : i < zs_nl S + 1 := hi
      exact h.2.2.1.1 i (by omega), by
    show zs_cnt (vp_updL (zs_ll S) (zs_nl S) m) (zs_nl S) + (if 0 < vp_updL (zs_ll S) (zs_nl S) m (zs_nl S) then 1 else 0) ≤ 400
    rw [zs_cnt_congr (h := zs_ll S) (fun j hj => by simp [vp_updL, show j ≠ zs_nl S by omega])]
    by_cases q : 0 < vp_updL (zs_ll S) (zs_nl S) m (zs_nl S)
    · rw [if_pos q]; omega
    · rw [if_neg q]; omega⟩, h.2.2.2⟩
theorem zs_at_no {q : Nat → Int64} {d : Int64} {b : Nat} : ∀ {n : Nat}, n ≤ b → ¬ zs_at q d b n < b → ∀ j, j < n → q j ≠ d := by
  intro n
  induction n with
  | zero => intro _ _ j hj; omega
  | succ n ih =>
    intro hb h j hj
    unfold zs_at at h
    split at h
    · omega
    · rename_i hne
      rcases Nat.eq_or_lt_of_le (Nat.le_of_lt_succ hj) with e | e
      · rw [e]; exact hne
      · exact ih (by omega) h j e
theorem zs_I_tell {S : zs_S} {n k : Nat} (h : zs_I S n) (hk : k < zs_nk S) {d : Int64} (c : Int64) (hd : zs_isD d) : zs_I (zs_tell S k d c).2 n := by
  unfold zs_tell
  split
  · exact ⟨h.1, h.2.1, h.2.2⟩
  · rename_i hno
    split
    · rename_i hlt
      refine ⟨h.1, ⟨fun j => ?_, fun j hj => ?_, h.2.1.2.2.1, fun j i hi => ?_, fun j a b ha hb e => ?_⟩, h.2.2⟩
      · show va_up (zs_pn S) k (zs_pn S k + 1) j ≤ 20
        by_cases q : j = k
        · simp only [va_up, q, if_true]; omega
        · simp only [va_up, q, if_false]; exact h.2.1.1 j
      · obtain ⟨a1, a2⟩ := h.2.1.2.1 j hj
        refine ⟨?_, a2⟩
        show va_up (zs_pn S) k (zs_pn S k + 1) j = 0
        have hj' : zs_nk S ≤ j := hj
        simp only [va_up, show j ≠ k by omega, if_false, a1]
      · have hi' : i < va_up (zs_pn S) k (zs_pn S k + 1) j := hi
        show 0 ≤ vp_updL (zs_pd S) (20 * k + zs_pn S k) d (20 * j + i)
        by_cases q : 20 * j + i = 20 * k + zs_pn S k
        · simp only [vp_updL, q, if_true]; exact hd.1
        · simp only [vp_updL, q, if_false]
          by_cases e : j = k
          · simp only [va_up, e, if_true] at hi'
            exact h.2.1.2.2.2.1 j i (by rw [e]; rw [e] at q; omega)
          · simp only [va_up, e, if_false] at hi'
            exact h.2.1.2.2.2.1 j i hi'
      · have ha' : a < va_up (zs_pn S) k (zs_pn S k + 1) j := ha
        have hb' : b < va_up (zs_pn S) k (zs_pn S k + 1) j := hb
        have e' : vp_updL (zs_pd S) (20 * k + zs_pn S k) d (20 * j + a) = vp_updL (zs_pd S) (20 * k + zs_pn S k) d (20 * j + b) := e
        have h20 := h.2.1.1 j
        by_cases ej : j = k
        · subst ej
          simp only [va_up, if_true] at ha' hb'
          have hno2 := zs_at_no (Nat.le_refl _) hno
          by_cases qa : a = zs_pn S j <;> by_cases qb : b = zs_pn S j
          · rw [qa, qb]
          · exfalso
            have q2 : 20 * j + b ≠ 20 * j + zs_pn S j := by omega
            simp only [vp_updL, qa, if_true, q2, if_false] at e'
            exact hno2 b (by omega) e'.symm
          · exfalso
            have q2 : 20 * j + a ≠ 20 * j + zs_pn S j := by omega
            simp only [vp_updL, qb, if_true, q2, if_false] at e'
            exact hno2 a (by omega) e'
          · have q1 : 20 * j + a ≠ 20 * j + zs_pn S j := by omega
            have q2 : 20 * j + b ≠ 20 * j + zs_pn S j := by omega
            simp only [vp_updL, q1, q2, if_false] at e'
            exact h.2.1.2.2.2.2 j a b (by omega) (by omega) e'
        · simp only [va_up, ej, if_false] at ha' hb'
          have h20k := h.2.1.1 k
          have q1 : 20 * j + a ≠ 20 * k + zs_pn S k := by omega
          have q2 : 20 * j + b ≠ 20 * k + zs_pn S k := by omega
          simp only [vp_updL, q1, q2, if_false] at e'
          exact h.2.1.2.2.2.2 j a b ha' hb' e'
    · exact h
/-- the parts of a lot of a kind: a number, and not too large -/
theorem zs_parts {r n s : Int64} (hr : 0 ≤ r ∧ r < 10000) (hn : zs_isN n) (hs : 0 ≤ s ∧ s ≤ 10000) : ∃ a : Nat, a < 2 ^ 62 ∧ r + n * s = lN a := by
  obtain ⟨r', r1, rfl⟩ := pk_lOf (Int64.not_lt.mpr hr.1)
  obtain ⟨n', n1, rfl⟩ := pk_lOf (Int64.not_lt.mpr (Int64.le_trans (by decide) hn.1) : ¬ n < 0)
  obtain ⟨s', s1, rfl⟩ := pk_lOf (Int64.not_lt.mpr hs.1)
  have e1 : r' < 10000 := (pk_lLT r1 (by decide)).mp hr.2
  have e2 : n' ≤ 100000 := (pk_lLE n1 (by decide)).mp hn.2
  have e3 : s' ≤ 10000 := (pk_lLE s1 (by decide)).mp hs.2
  refine ⟨r' + n' * s', ?_, by rw [lN_mul, lN_add]⟩
  have : n' * s' ≤ 100000 * 10000 := Nat.mul_le_mul e2 e3
  omega
theorem zs_lot_dom {S : zs_S} {p : Nat} {n : Int64} (hI : zs_Il S) (hJ : zs_Ik S) (hn : zs_isN n) : ∀ (k : Nat), zs_dom S (zs_lot S p n k).1 ∧ (∀ j, 0 ≤ (zs_lot S p n k).2.1 j ∧ (zs_lot S p n k).2.1 j < 10000) ∧ ∀ j, k ≤ j → (zs_lot S p n k).2.1 j = zs_rs S j := by
  intro k
  induction k with
  | zero => exact ⟨fun j hj => ⟨(hI.1 j hj).2.2.2.2.1, Int64.le_refl _⟩, fun j => (hJ.2.2.1 j).2.2, fun _ _ => rfl⟩
  | succ k ih =>
    obtain ⟨h1, h2, h3⟩ := ih
    rw [← zs_lot_step (f := (zs_lot S p n k).1) (h := (zs_lot S p n k).2.1) (w := (zs_lot S p n k).2.2) rfl]
    generalize (zs_lot S p n k).1 = f at h1 ⊢
    generalize (zs_lot S p n k).2.1 = h at h2 h3 ⊢
    obtain ⟨a, ha, ea⟩ := zs_parts (h2 k) hn ⟨(hJ.2.2.1 k).1, (hJ.2.2.1 k).2.1⟩
    have hq : (h k + n * zs_sh S k) / 10000 = lN (a / 10000) := by rw [ea]; exact pk_lDiv (b := 10000) (by omega) (by decide) (by decide)
    have hr : (h k + n * zs_sh S k) - (h k + n * zs_sh S k) / 10000 * 10000 = lN (a % 10000) := by rw [ea]; exact pk_lRem (b := 10000) (by omega) (by decide) (by decide)
    refine ⟨fun j hj => ?_, fun j => ?_, fun j hj => ?_⟩
    · have hd := (zs_take_dom (S := zs_rs_ (zs_ll_ S f) h) (p := p) (k := k) (n := (h k + n * zs_sh S k) / 10000) (fun j hj => (h1 j hj).1) (by rw [hq, zs_0le, pk_lT (by omega)]; omega) (zs_nl S) (Nat.le_refl _)).1 j hj
      exact ⟨hd.1, Int64.le_trans hd.2 (h1 j hj).2⟩
    · show 0 ≤ vp_updL h k _ j ∧ vp_updL h k _ j < 10000
      by_cases q : j = k
      · simp only [vp_updL, q, if_true, hr]
        exact ⟨by rw [zs_0le, pk_lT (by omega)]; omega, (pk_lLT (b := 10000) (by omega) (by decide)).mpr (Nat.mod_lt _ (by decide))⟩
      · simp only [vp_updL, q, if_false]
        exact h2 j
    · show vp_updL h k _ j = _
      simp only [vp_updL, show j ≠ k by omega, if_false]
      exact h3 j (by omega)
theorem zs_I_lot {S : zs_S} {p m : Nat} {n : Int64} (hI : zs_I S m) (hn : zs_isN n) : zs_I (zs_rs_ (zs_ll_ S (zs_lot S p n (zs_nk S)).1) (zs_lot S p n (zs_nk S)).2.1) m := by
  obtain ⟨h1, h2, h3⟩ := zs_lot_dom (p := p) hI.2.2.1 hI.2.1 hn (zs_nk S)
  have h4 := zs_I_ll hI h1
  exact ⟨h4.1, ⟨h4.2.1.1, fun k hk => by
    obtain ⟨a1, a2, a3⟩ := hI.2.1.2.1 k hk
    exact ⟨a1, a2, (h3 k hk).trans a3⟩, fun k => ⟨(hI.2.1.2.2.1 k).1, (hI.2.1.2.2.1 k).2.1, h2 k⟩, h4.2.1.2.2.2⟩, h4.2.2⟩
