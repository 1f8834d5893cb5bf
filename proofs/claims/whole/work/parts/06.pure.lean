theorem zs_R_write {g : zk_G} {X X' : zs_X} {Z : zs_Z} {M : zk_M} (hR : zs_R g X Z M) (lab : zs_L) (hlab : zs_ok X lab) (hok : ∀ q, zs_ok X' q ↔ zs_ok X q) (hc : ∀ q, zs_ok X q → q ≠ lab → zs_cont g X' Z q = zs_cont g X Z q) {e : va_E} (he : e = zs_cont g X' Z lab) : zs_R g X' Z (zk_up M (Z lab) e) := by
  refine ⟨fun q hq => ?_, fun q r hq hr => hR.2 q r ((hok q).mp hq) ((hok r).mp hr)⟩
  by_cases h : q = lab
  · rw [h, zk_up_s, he]
  · have hq' := (hok q).mp hq
    rw [zk_up_n _ _ (fun ez => h (hR.2 q lab hq' hlab ez)), hc q hq' h]
    exact hR.1 q hq'
/-- the address function with one more label -/
def zs_Zup (Z : zs_Z) (lab : zs_L) (a : Nat) : zs_Z := fun q => if q = lab then a else Z q
theorem zs_Zup_s (Z : zs_Z) (lab : zs_L) (a : Nat) : zs_Zup Z lab a lab = a := by simp [zs_Zup]
theorem zs_Zup_n (Z : zs_Z) {lab q : zs_L} (a : Nat) (h : q ≠ lab) : zs_Zup Z lab a q = Z q := by simp [zs_Zup, h]
/-- a new cell at a fresh address, and others written -/
theorem zs_R_new {g : zk_G} {X X' : zs_X} {Z : zs_Z} {M M' : zk_M} {a : Nat} (hR : zs_R g X Z M) (lab : zs_L) (ha : M a = none) (hlab : ¬ zs_ok X lab) (hok : ∀ q, zs_ok X' q ↔ zs_ok X q ∨ q = lab) (W0 : List zs_L) (hM : ∀ b, b ≠ a → (∀ q ∈ W0, b ≠ Z q) → M' b = M b) (hc : ∀ q, zs_ok X q → q ∉ W0 → zs_cont g X' (zs_Zup Z lab a) q = zs_cont g X Z q) (hW0 : ∀ q ∈ W0, zs_ok X q) (hw : ∀ q, zs_ok X q → q ∈ W0 → M' (Z q) = some (zs_cont g X' (zs_Zup Z lab a) q)) (hn : M' a = some (zs_cont g X' (zs_Zup Z lab a) lab)) : zs_R g X' (zs_Zup Z lab a) M' := by
  have hz : ∀ q, zs_ok X q → q ≠ lab := fun q hq e => hlab (e ▸ hq)
  have hza : ∀ q, zs_ok X q → Z q ≠ a := fun q hq e => by
    have := hR.1 q hq
    rw [e, ha] at this
    cases this
  refine ⟨fun q hq => ?_, fun q r hq hr e => ?_⟩
  · rcases (hok q).mp hq with h | h
    · rw [zs_Zup_n Z a (hz q h)]
      by_cases hm : q ∈ W0
      · exact hw q h hm
      · rw [hM _ (hza q h) (fun r hr e => hm (by rw [hR.2 q r h (hW0 r hr) e]; exact hr)), hc q h hm]
        exact hR.1 q h
    · rw [h, zs_Zup_s]
      exact hn
  · rcases (hok q).mp hq with h | h <;> rcases (hok r).mp hr with h' | h'
    · rw [zs_Zup_n Z a (hz q h), zs_Zup_n Z a (hz r h')] at e
      exact hR.2 q r h h' e
    · rw [h', zs_Zup_s, zs_Zup_n Z a (hz q h)] at e
      exact absurd e (hza q h)
    · rw [h, zs_Zup_s, zs_Zup_n Z a (hz r h')] at e
      exact absurd e.symm (hza r h')
    · rw [h, h']
theorem zs_R_ll {g : zk_G} {X : zs_X} {Z : zs_Z} {M : zk_M} (hR : zs_R g X Z M) {i : Nat} (hi : i < zs_nl X.1) (v : Int64) : zs_R g (zs_ll_ X.1 (vp_updL (zs_ll X.1) i v), X.2) Z (zk_up M (Z (6, i, 0)) (.inr (1, [.ref (Z (4, zs_lk X.1 i, 0)), .long (zs_ld X.1 i), .long (zs_lc X.1 i), .long v, va_rf ((zs_nx X.1 (zs_lp X.1 i) (i + 1)).map (fun i => Z (6, i, 0)))]))) := by
  refine zs_R_write (X' := (zs_ll_ X.1 (vp_updL (zs_ll X.1) i v), X.2)) hR (6, i, 0) ⟨hi, rfl⟩ (fun q => Iff.rfl) (fun q hq hne => ?_) ?_
  · rcases q with ⟨t, a, b⟩
    match t with
    | 0 => rfl
    | 1 => rfl
    | 2 => rfl
    | 3 => rfl
    | 4 => rfl
    | 5 => rfl
    | 6 =>
      obtain ⟨_, hb⟩ : a < zs_nl X.1 ∧ b = 0 := hq
      have ha : a ≠ i := fun e => hne (by rw [e, hb])
      have : vp_updL (zs_ll X.1) i v a = zs_ll X.1 a := by simp [vp_updL, ha]
      show (.inr (1, [_, _, _, .long (vp_updL (zs_ll X.1) i v a), _]) : va_E) = _
      rw [this]
      rfl
    | 7 => rfl
    | 8 => rfl
    | n + 9 => rfl
  · show _ = (.inr (1, [_, _, _, .long (vp_updL (zs_ll X.1) i v i), _]) : va_E)
    have : vp_updL (zs_ll X.1) i v i = v := by simp [vp_updL]
    rw [this]
    rfl
theorem zs_R_sh {g : zk_G} {X : zs_X} {Z : zs_Z} {M : zk_M} (hR : zs_R g X Z M) {k : Nat} (hk : k < zs_nk X.1) (v : Int64) : zs_R g (zs_sh_ X.1 (vp_updL (zs_sh X.1) k v), X.2) Z (zk_up M (Z (4, k, 0)) (.inr (0, [va_rf (zs_prev (zs_pn X.1 k) (fun j => Z (5, k, j))), .long v, .long (zs_rs X.1 k)]))) := by
  refine zs_R_write (X' := (zs_sh_ X.1 (vp_updL (zs_sh X.1) k v), X.2)) hR (4, k, 0) ⟨hk, rfl⟩ (fun q => Iff.rfl) (fun q hq hne => ?_) ?_
  · rcases q with ⟨t, a, b⟩
    match t with
    | 0 => rfl
    | 1 => rfl
    | 2 => rfl
    | 3 => rfl
    | 4 =>
      obtain ⟨_, hb⟩ : a < zs_nk X.1 ∧ b = 0 := hq
      have ha : a ≠ k := fun e => hne (by rw [e, hb])
      have : vp_updL (zs_sh X.1) k v a = zs_sh X.1 a := by simp [vp_updL, ha]
      show (.inr (0, [_, .long (vp_updL (zs_sh X.1) k v a), _]) : va_E) = _
      rw [this]
      rfl
    | 5 => rfl
    | 6 => rfl
    | 7 => rfl
    | 8 => rfl
    | n + 9 => rfl
  · show _ = (.inr (0, [_, .long (vp_updL (zs_sh X.1) k v k), _]) : va_E)
    have : vp_updL (zs_sh X.1) k v k = v := by simp [vp_updL]
    rw [this]
    rfl
theorem zs_R_rs {g : zk_G} {X : zs_X} {Z : zs_Z} {M : zk_M} (hR : zs_R g X Z M) {k : Nat} (hk : k < zs_nk X.1) (v : Int64) : zs_R g (zs_rs_ X.1 (vp_updL (zs_rs X.1) k v), X.2) Z (zk_up M (Z (4, k, 0)) (.inr (0, [va_rf (zs_prev (zs_pn X.1 k) (fun j => Z (5, k, j))), .long (zs_sh X.1 k), .long v]))) := by
  refine zs_R_write (X' := (zs_rs_ X.1 (vp_updL (zs_rs X.1) k v), X.2)) hR (4, k, 0) ⟨hk, rfl⟩ (fun q => Iff.rfl) (fun q hq hne => ?_) ?_
  · rcases q with ⟨t, a, b⟩
    match t with
    | 0 => rfl
    | 1 => rfl
    | 2 => rfl
    | 3 => rfl
    | 4 =>
      obtain ⟨_, hb⟩ : a < zs_nk X.1 ∧ b = 0 := hq
      have ha : a ≠ k := fun e => hne (by rw [e, hb])
      have : vp_updL (zs_rs X.1) k v a = zs_rs X.1 a := by simp [vp_updL, ha]
      show (.inr (0, [_, _, .long (vp_updL (zs_rs X.1) k v a)]) : va_E) = _
      rw [this]
      rfl
    | 5 => rfl
    | 6 => rfl
    | 7 => rfl
    | 8 => rfl
    | n + 9 => rfl
  · show _ = (.inr (0, [_, _, .long (vp_updL (zs_rs X.1) k v k)]) : va_E)
    have : vp_updL (zs_rs X.1) k v k = v := by simp [vp_updL]
    rw [this]
    rfl
theorem zs_R_pc {g : zk_G} {X : zs_X} {Z : zs_Z} {M : zk_M} (hR : zs_R g X Z M) (hI : zs_Ik X.1) {k j : Nat} (hk : k < zs_nk X.1) (hj : j < zs_pn X.1 k) (v : Int64) : zs_R g (zs_pc_ X.1 (vp_updL (zs_pc X.1) (20 * k + j) v), X.2) Z (zk_up M (Z (5, k, j)) (.inr (3, [.long (zs_pd X.1 (20 * k + j)), va_rf (zs_prev j (fun j => Z (5, k, j))), .long v]))) := by
  refine zs_R_write (X' := (zs_pc_ X.1 (vp_updL (zs_pc X.1) (20 * k + j) v), X.2)) hR (5, k, j) ⟨hk, hj⟩ (fun q => Iff.rfl) (fun q hq hne => ?_) ?_
  · rcases q with ⟨t, a, b⟩
    match t with
    | 0 => rfl
    | 1 => rfl
    | 2 => rfl
    | 3 => rfl
    | 4 => rfl
    | 5 =>
      obtain ⟨_, hb⟩ : a < zs_nk X.1 ∧ b < zs_pn X.1 a := hq
      have h1 := hI.1 a
      have h2 := hI.1 k
      have ha : 20 * a + b ≠ 20 * k + j := fun e => hne (by
        have e1 : a = k := by omega
        have e2 : b = j := by omega
        rw [e1, e2])
      have : vp_updL (zs_pc X.1) (20 * k + j) v (20 * a + b) = zs_pc X.1 (20 * a + b) := by simp [vp_updL, ha]
      show (.inr (3, [_, _, .long (vp_updL (zs_pc X.1) (20 * k + j) v (20 * a + b))]) : va_E) = _
      rw [this]
      rfl
    | 6 => rfl
    | 7 => rfl
    | 8 => rfl
    | n + 9 => rfl
  · show _ = (.inr (3, [_, _, .long (vp_updL (zs_pc X.1) (20 * k + j) v (20 * k + j))]) : va_E)
    have : vp_updL (zs_pc X.1) (20 * k + j) v (20 * k + j) = v := by simp [vp_updL]
    rw [this]
    rfl
/-- one row of the reference is written -/
theorem zs_R_mod {g : zk_G} {X : zs_X} {Z : zs_Z} {M : zk_M} (hR : zs_R g X Z M) (D : zs_S) (ps : Nat → Int64) (j : Nat) (hj : j < 16) (hc : ∀ i, i < 16 → i ≠ j → zs_mod g D ps Z i = zs_mod g X.2.1 X.2.2 Z i) {e : va_E} (he : e = zs_mod g D ps Z j) : zs_R g (X.1, D, ps) Z (zk_up M (Z (8, j, 0)) e) := by
  refine zs_R_write (X' := (X.1, D, ps)) hR (8, j, 0) ⟨hj, rfl⟩ (fun q => Iff.rfl) (fun q hq hne => ?_) he
  rcases q with ⟨t, a, b⟩
  match t with
  | 0 => rfl
  | 1 => rfl
  | 2 => rfl
  | 3 => rfl
  | 4 => rfl
  | 5 => rfl
  | 6 => rfl
  | 7 => rfl
  | 8 =>
  obtain ⟨h1, hb⟩ : a < 16 ∧ b = 0 := hq
  exact hc a h1 (fun e => hne (by rw [e, hb]))
  | n + 9 => rfl
