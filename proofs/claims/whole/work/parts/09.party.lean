/-- the same labels keep their cells -/
def zs_P (g : zk_G) (X : zs_X) (Z : zs_Z) (X' : zs_X) (u : zk_M) : Prop := ∃ Z', zs_R g X' Z' u ∧ ∀ q, zs_ok X q → Z' q = Z q
def zs_nsum (f : Nat → Nat) : Nat → Nat
  | 0 => 0
  | n + 1 => zs_nsum f n + f n
theorem zs_nsum_to {f : Nat → Nat} {a : Nat} : ∀ {b : Nat}, a ≤ b → (∀ j, a ≤ j → j < b → f j = 0) → zs_nsum f b = zs_nsum f a := by
  intro b
  induction b with
  | zero => intro h _; rw [Nat.le_zero.mp h]
  | succ b ih =>
    intro h hz
    rcases Nat.eq_or_lt_of_le h with q | q
    · rw [q]
    · show zs_nsum f b + f b = _
      rw [hz b (by omega) (by omega), ih (by omega) (fun j h1 h2 => hz j h1 (by omega))]
      rfl
theorem zs_nsum_step {f : Nat → Nat} {a i : Nat} (h : a ≤ i) (hz : ∀ j, a ≤ j → j < i → f j = 0) : zs_nsum f (i + 1) = zs_nsum f a + f i := by
  show zs_nsum f i + f i = _
  rw [zs_nsum_to h hz]
theorem zs_nsum_le {f h : Nat → Nat} : ∀ {n : Nat}, (∀ j, j < n → f j ≤ h j) → zs_nsum f n ≤ zs_nsum h n := by
  intro n
  induction n with
  | zero => intro _; exact Nat.le_refl _
  | succ n ih => intro hh; exact Nat.add_le_add (ih (fun j hj => hh j (by omega))) (hh n (by omega))
theorem zs_nsum_congr {f h : Nat → Nat} : ∀ {n : Nat}, (∀ j, j < n → f j = h j) → zs_nsum f n = zs_nsum h n := by
  intro n
  induction n with
  | zero => intro _; rfl
  | succ n ih => intro hh; show zs_nsum f n + f n = zs_nsum h n + h n; rw [ih (fun j hj => hh j (by omega)), hh n (by omega)]
theorem zs_nsum_one {f : Nat → Nat} : ∀ {n : Nat}, (∀ j, j < n → f j ≤ 1) → zs_nsum f n ≤ n := by
  intro n
  induction n with
  | zero => intro _; exact Nat.le_refl _
  | succ n ih => intro hh; exact Nat.add_le_add (ih (fun j hj => hh j (by omega))) (hh n (by omega))
theorem zs_cnt_nsum (ll : Nat → Int64) (n : Nat) : zs_cnt ll n = zs_nsum (fun i => if 0 < ll i then 1 else 0) n := by
  induction n with
  | zero => rfl
  | succ n ih => show zs_cnt ll n + _ = zs_nsum _ n + _; rw [ih]
def zs_cpf (S : zs_S) (p i : Nat) : Nat := if zs_lp S i = p ∧ 0 < zs_ll S i then 1 else 0
/-- the layers of party p that aren't empty -/
def zs_cntp (S : zs_S) (p : Nat) : Nat := zs_nsum (zs_cpf S p) (zs_nl S)
/-- n pieces of kind k taken from party p's layers, oldest first, after i layers: what is left in each, what is still wanting, the worth -/
def zs_take (S : zs_S) (p k : Nat) (n : Int64) : Nat → (Nat → Int64) × Int64 × Int64
  | 0 => (zs_ll S, n, 0)
  | i + 1 => if zs_lp S i = p ∧ zs_lk S i = k then (vp_updL (zs_take S p k n i).1 i ((zs_take S p k n i).1 i - (if (zs_take S p k n i).1 i < (zs_take S p k n i).2.1 then (zs_take S p k n i).1 i else (zs_take S p k n i).2.1)), (zs_take S p k n i).2.1 - (if (zs_take S p k n i).1 i < (zs_take S p k n i).2.1 then (zs_take S p k n i).1 i else (zs_take S p k n i).2.1), (zs_take S p k n i).2.2 + (if (zs_take S p k n i).1 i < (zs_take S p k n i).2.1 then (zs_take S p k n i).1 i else (zs_take S p k n i).2.1) * zs_lc S i) else zs_take S p k n i
theorem zs_take_pos {S : zs_S} {p k : Nat} {n : Int64} {i : Nat} {f : Nat → Int64} {lf wo : Int64} (e : zs_take S p k n i = (f, lf, wo)) (h : zs_lp S i = p ∧ zs_lk S i = k) : zs_take S p k n (i + 1) = (vp_updL f i (f i - (if f i < lf then f i else lf)), lf - (if f i < lf then f i else lf), wo + (if f i < lf then f i else lf) * zs_lc S i) := by
  simp only [zs_take, if_pos h, e]
theorem zs_take_neg {S : zs_S} {p k : Nat} {n : Int64} {i : Nat} (h : ¬ (zs_lp S i = p ∧ zs_lk S i = k)) : zs_take S p k n (i + 1) = zs_take S p k n i := if_neg h
theorem zs_take_to {S : zs_S} {p k : Nat} {n : Int64} {a : Nat} : ∀ {b : Nat}, a ≤ b → (∀ j, a ≤ j → j < b → zs_lp S j ≠ p) → zs_take S p k n b = zs_take S p k n a := by
  intro b
  induction b with
  | zero => intro h _; rw [Nat.le_zero.mp h]
  | succ b ih =>
    intro h hz
    rcases Nat.eq_or_lt_of_le h with q | q
    · rw [q]
    · have := hz b (by omega) (by omega)
      rw [zs_take_neg (fun e => this e.1)]
      exact ih (by omega) (fun j h1 h2 => hz j h1 (by omega))
theorem zs_take_hit {S : zs_S} {p k : Nat} {n : Int64} {a i : Nat} {f : Nat → Int64} {lf wo : Int64} (e : (f, lf, wo) = zs_take S p k n a) (h : a ≤ i) (hz : ∀ j, a ≤ j → j < i → zs_lp S j ≠ p) (h1 : zs_lp S i = p) (h2 : zs_lk S i = k) : (vp_updL f i (f i - (if f i < lf then f i else lf)), lf - (if f i < lf then f i else lf), wo + (if f i < lf then f i else lf) * zs_lc S i) = zs_take S p k n (i + 1) :=
  (zs_take_pos ((zs_take_to h hz).trans e.symm) ⟨h1, h2⟩).symm
theorem zs_take_miss {S : zs_S} {p k : Nat} {n : Int64} {a i : Nat} {f : Nat → Int64} {lf wo : Int64} (e : (f, lf, wo) = zs_take S p k n a) (h : a ≤ i) (hz : ∀ j, a ≤ j → j < i → zs_lp S j ≠ p) (h2 : ¬ zs_lk S i = k) : (f, lf, wo) = zs_take S p k n (i + 1) :=
  (e.trans (zs_take_to h hz).symm).trans (zs_take_neg (fun q => h2 q.2)).symm
theorem zs_nI_step (c : Nat) (b : Prop) [Decidable b] : nI c + nI (if b then 1 else 0) = nI (c + if b then 1 else 0) := nI_add _ _
def zs_best (q c : Nat → Int64) (d : Int64) (Q : Nat → Prop) (L C : Int64) : Prop := (L = -1 ∧ C = 0 ∧ ∀ j, Q j → ¬ q j ≤ d) ∨ ∃ j, Q j ∧ q j ≤ d ∧ L = q j ∧ C = c j ∧ ∀ i, Q i → q i ≤ d → q i ≤ q j
theorem zs_m1 {x : Int64} (h : 0 ≤ x) : -1 < x := by
  rw [Int64.le_iff_toInt_le] at h
  rw [Int64.lt_iff_toInt_lt]
  have h1 : (-1 : Int64).toInt = -1 := rfl
  have h2 : (0 : Int64).toInt = 0 := rfl
  omega
theorem zs_best_in {q c : Nat → Int64} {d : Int64} {Q Q' : Nat → Prop} {L C : Int64} (h : zs_best q c d Q L C) {j : Nat} (hQ : ∀ i, Q' i ↔ Q i ∨ i = j) (h1 : q j ≤ d) (h2 : L < q j) : zs_best q c d Q' (q j) (c j) := by
  refine Or.inr ⟨j, (hQ j).mpr (Or.inr rfl), h1, rfl, rfl, fun i hi hd => ?_⟩
  rcases (hQ i).mp hi with hi | hi
  · rcases h with ⟨_, _, h3⟩ | ⟨k, _, _, h4, _, h5⟩
    · exact absurd hd (h3 i hi)
    · have := h5 i hi hd
      rw [← h4] at this
      exact Int64.le_of_lt (Int64.lt_of_le_of_lt this h2)
  · rw [hi]; exact Int64.le_refl _
theorem zs_best_out {q c : Nat → Int64} {d : Int64} {Q Q' : Nat → Prop} {L C : Int64} (h : zs_best q c d Q L C) {j : Nat} (hQ : ∀ i, Q' i ↔ Q i ∨ i = j) (h0 : 0 ≤ q j) (h1 : ¬ (q j ≤ d ∧ L < q j)) : zs_best q c d Q' L C := by
  rcases h with ⟨e1, e2, h3⟩ | ⟨k, g1, g2, g3, g4, g5⟩
  · refine Or.inl ⟨e1, e2, fun i hi => ?_⟩
    rcases (hQ i).mp hi with hi | hi
    · exact h3 i hi
    · rw [hi]; exact fun hd => h1 ⟨hd, by rw [e1]; exact zs_m1 h0⟩
  · refine Or.inr ⟨k, (hQ k).mpr (Or.inl g1), g2, g3, g4, fun i hi hd => ?_⟩
    rcases (hQ i).mp hi with hi | hi
    · exact g5 i hi hd
    · rw [hi] at hd ⊢
      rw [← g3]
      exact Int64.not_lt.mp (fun q => h1 ⟨hd, q⟩)
theorem zs_best_one {q c : Nat → Int64} {d : Int64} {Q : Nat → Prop} {L C L' C' : Int64} (hq : ∀ i j, Q i → Q j → q i = q j → i = j) (h : zs_best q c d Q L C) (h' : zs_best q c d Q L' C') : C = C' := by
  rcases h with ⟨_, e2, h3⟩ | ⟨k, g1, g2, g3, g4, g5⟩ <;> rcases h' with ⟨_, e2', h3'⟩ | ⟨k', g1', g2', g3', g4', g5'⟩
  · rw [e2, e2']
  · exact absurd g2' (h3 k' g1')
  · exact absurd g2 (h3' k g1)
  · have : k = k' := hq k k' g1 g1' (Int64.le_antisymm (g5' k g1 g2) (g5 k' g1' g2'))
    rw [g4, g4', this]
/-- the reference's search of the price: ascending -/
def zs_po (q c : Nat → Int64) (d : Int64) : Nat → Int64 × Int64
  | 0 => (-1, 0)
  | n + 1 => if q n ≤ d ∧ (zs_po q c d n).1 < q n then (q n, c n) else zs_po q c d n
theorem zs_po_best {q c : Nat → Int64} {d : Int64} : ∀ {n : Nat}, (∀ j, j < n → 0 ≤ q j) → zs_best q c d (fun i => i < n) (zs_po q c d n).1 (zs_po q c d n).2 := by
  intro n
  induction n with
  | zero => intro _; exact Or.inl ⟨rfl, rfl, fun j hj => by omega⟩
  | succ n ih =>
    intro h
    have h1 := ih (fun j hj => h j (by omega))
    unfold zs_po
    split
    · rename_i hc
      exact zs_best_in h1 (fun i => by omega) hc.1 hc.2
    · rename_i hc
      exact zs_best_out h1 (fun i => by omega) (h n (by omega)) hc
/-- the price of kind k on day d -/
def zs_pr (S : zs_S) (k : Nat) (d : Int64) : Int64 := (zs_po (fun j => zs_pd S (20 * k + j)) (fun j => zs_pc S (20 * k + j)) d (zs_pn S k)).2
theorem zs_pr_of {S : zs_S} (hI : zs_Ik S) {k : Nat} {d L C : Int64} (h : zs_best (fun j => zs_pd S (20 * k + j)) (fun j => zs_pc S (20 * k + j)) d (fun i => i < zs_pn S k) L C) : C = zs_pr S k d :=
  zs_best_one (fun i j hi hj e => hI.2.2.2.2 k i j hi hj e) h (zs_po_best (fun j hj => hI.2.2.2.1 k j hj))
/-- the last place below n where q is d; b if there is none -/
def zs_at (q : Nat → Int64) (d : Int64) (b : Nat) : Nat → Nat
  | 0 => b
  | n + 1 => if q n = d then n else zs_at q d b n
theorem zs_at_lt {q : Nat → Int64} {d : Int64} {b : Nat} : ∀ {n : Nat}, zs_at q d b n = b ∨ zs_at q d b n < n := by
  intro n
  induction n with
  | zero => exact Or.inl rfl
  | succ n ih =>
    unfold zs_at
    split
    · exact Or.inr (Nat.lt_succ_self _)
    · rcases ih with h | h
      · exact Or.inl h
      · exact Or.inr (by omega)
/-- a price told: whether it is taken, and the state -/
def zs_tell (S : zs_S) (k : Nat) (d c : Int64) : Int32 × zs_S :=
  if zs_at (fun j => zs_pd S (20 * k + j)) d (zs_pn S k) (zs_pn S k) < zs_pn S k then (1, zs_pc_ S (vp_updL (zs_pc S) (20 * k + zs_at (fun j => zs_pd S (20 * k + j)) d (zs_pn S k) (zs_pn S k)) c))
  else if zs_pn S k < 20 then (1, zs_addp S k d c) else (0, S)
/-- what addLayer changes -/
def zs_alp (X : zs_X) (Z : zs_Z) (M : zk_M) (p a : Nat) (u : zk_M) : Prop := u (Z (3, p, 0)) = some (.inr (2, [va_rf (match zs_lst (zs_lp X.1) p (zs_nl X.1) with | none => some a | some _ => (zs_nx X.1 p 0).map (fun i => Z (6, i, 0))), .ref a])) ∧ (∀ i, zs_lst (zs_lp X.1) p (zs_nl X.1) = some i → u (Z (6, i, 0)) = some (.inr (1, [.ref (Z (4, zs_lk X.1 i, 0)), .long (zs_ld X.1 i), .long (zs_lc X.1 i), .long (zs_ll X.1 i), .ref a]))) ∧ ∀ b, b ≠ Z (3, p, 0) → (∀ i, zs_lst (zs_lp X.1) p (zs_nl X.1) = some i → b ≠ Z (6, i, 0)) → u b = M b
theorem inw_wsX2_layersInUse_1 : ∀ w ∈ u_ws RX1 TX1 5, w ∈ wsX2_layersInUse := by decide +kernel
theorem inw_wsX2_layersInUse_2 : ∀ w ∈ u_ws RX2 TX2 2, w ∈ wsX2_layersInUse := by decide +kernel
set_option maxHeartbeats 4000000 in
set_option maxRecDepth 100000 in
theorem zc_X2_layersInUse (l : Launch) {g : zk_G} {z : Nat} {M : zk_M} {X : zs_X} {Z : zs_Z} (hR : zs_R g X Z M) {p : Nat} (hp : p < zs_np X.1) : Met l yX2_layersInUse wsX2_layersInUse ({ frames := 0, cells := 0, slots := 0, locals := 0 } : Room) (va_Pc [.ref (Z (3, p, 0))] (zk_U g z M)) (vp_Si (fun r => r = nI (zs_cntp X.1 p))) 0 0 (fun _ => False) := by
  refine Met.ofW (cc := cX2_layersInUse) (maxL := 3) (ret := (some .int)) (by decide) rfl ?_
  intro P0 e0 s m0 args below meth c0 s₁ B hml hv
  obtain ⟨rfl, hH, hK, hN⟩ := hv
  have hx := B.exec
  have hb := B.bytes
  have hr := B.returns
  have hts := atoms_spec (ws := wsX2_layersInUse) B.pre
  have hown : s.vm.findClass RX2 = some m0.cls := findClass_of_methodNamed B.named
  have hlocks := B.notSynchronized
  have hl := lv_entry ([.ref (Z (3, p, 0))]) (n := 3) (Nat.le_of_ble_eq_true rfl)
  rw [lg_entry_eq]
  generalize (lg_sl ([.ref (Z (3, p, 0))]) ++ List.replicate (3 - (lg_sl ([.ref (Z (3, p, 0))])).length) Slot.unset).toArray = ls at hl ⊢
  have hl : lv_has ls 3 [(0, .ref (Z (3, p, 0)))] := hl
  have hP : M (Z (3, p, 0)) = some (.inr (2, [va_rf ((zs_nx X.1 p 0).map (fun i => Z (6, i, 0))), va_rf ((zs_lst (zs_lp X.1) p (zs_nl X.1)).map (fun i => Z (6, i, 0)))])) := hR.1 (3, p, 0) ⟨hp, rfl⟩
  refine lv_iconst (v := 0) hx hb dX2_layersInUse_0 (by decide) ?_
  refine lv_istore_n (lv' := [(1, .int 0), (0, .ref (Z (3, p, 0)))]) hx hb dX2_layersInUse_1 rfl hl (by decide) rfl (fun ls hl => ?_)
  refine lv_aload_n hx hb dX2_layersInUse_2 rfl (lv_at hl 1 rfl) ?_
  refine zk_get (ci := 2) (v := va_rf ((zs_nx X.1 p 0).map (fun i => Z (6, i, 0)))) (C := RX2) (T := TX2) (N := 2) hx hb hts inw_wsX2_layersInUse_2 hown hK hH hP rfl 0 (by decide) (hts (.fieldLink RX2 13 "KegDeposits$Party" "oldest" "LKegDeposits$Layer;") (by decide +kernel)) rfl dX2_layersInUse_3 ?_
  refine zk_astore_n (lv' := [(2, va_rf ((zs_nx X.1 p 0).map (fun i => Z (6, i, 0)))), (1, .int 0), (0, .ref (Z (3, p, 0)))]) hx hb dX2_layersInUse_6 rfl hl (by decide) rfl (fun ls hl => ?_)
  have loop : ∀ (n a : Nat) (acc : Int32) (ls : Array Slot), zs_nl X.1 - a < n → a ≤ zs_nl X.1 → acc = nI (zs_nsum (zs_cpf X.1 p) a) → lv_has ls 3 [(2, va_rf ((zs_nx X.1 p a).map (fun i => Z (6, i, 0)))), (1, .int acc), (0, .ref (Z (3, p, 0)))] → W P0 l e0 (headSpec wsX2_layersInUse ({ frames := 0, cells := 0, slots := 0, locals := 0 } : Room)).room s m0 ([.ref (Z (3, p, 0))] : List Value).toArray below meth c0 s.heap [] 0 0 (MQ below (vp_Si (fun r => r = nI (zs_cntp X.1 p))) ([.ref (Z (3, p, 0))] : List Value).toArray s 0 0 (fun _ => False)) (F0 m0 7 ls []) := by
    intro n
    induction n with
    | zero => intro a acc ls hn; omega
    | succ n ih =>
      intro a acc ls hn ha hacc hl
      cases hnx : zs_nx X.1 p a with
      | none =>
        rw [hnx] at hl
        have hl : lv_has ls 3 [(2, .null), (1, .int acc), (0, .ref (Z (3, p, 0)))] := hl
        refine lv_aload_nN hx hb dX2_layersInUse_7 rfl (lv_at hl 0 rfl) ?_
        refine lv_ifnullN (tgt := 31) hx hb dX2_layersInUse_8 (by decide) ?_
        refine lv_iload_n hx hb dX2_layersInUse_31 rfl (lv_at hl 1 rfl) ?_
        exact zk_zretS hx hb hr hlocks (by first | rfl | decide) (by rw [hacc]; unfold zs_cntp; rw [zs_nsum_to ha (fun j h1 h2 => by simp [zs_cpf, zs_nx_none hnx j h1 h2])]) dX2_layersInUse_32
      | some i =>
        obtain ⟨h1, h2, h3, h4⟩ := zs_nx_some hnx
        rw [hnx] at hl
        have hl : lv_has ls 3 [(2, .ref (Z (6, i, 0))), (1, .int acc), (0, .ref (Z (3, p, 0)))] := hl
        have hL : M (Z (6, i, 0)) = some (.inr (1, [.ref (Z (4, zs_lk X.1 i, 0)), .long (zs_ld X.1 i), .long (zs_lc X.1 i), .long (zs_ll X.1 i), va_rf ((zs_nx X.1 p (i + 1)).map (fun i => Z (6, i, 0)))])) := by rw [← h3]; exact hR.1 (6, i, 0) ⟨h2, rfl⟩
        have hs := zs_nsum_step (f := zs_cpf X.1 p) h1 (fun j g1 g2 => by simp [zs_cpf, h4 j g1 g2])
        refine lv_aload_n hx hb dX2_layersInUse_7 rfl (lv_at hl 0 rfl) ?_
        refine lv_ifnull hx hb dX2_layersInUse_8 ?_
        refine lv_aload_n hx hb dX2_layersInUse_11 rfl (lv_at hl 0 rfl) ?_
        refine zk_getN (ci := 1) (v := .long (zs_ll X.1 i)) (C := RX1) (T := TX1) (N := 5) hx hb hts inw_wsX2_layersInUse_1 hown hK hH hL rfl 3 (by decide) (zk_nf_8 hN) rfl dX2_layersInUse_12 ?_
        refine lv_lconst (v := 0) hx hb dX2_layersInUse_15 (by decide) ?_
        refine zk_lc_le (tgt := 23) hx hb dX2_layersInUse_16 dX2_layersInUse_17 (by decide) (fun h_16 => ?_) (fun h_16 => ?_)
        · skip
          have hz : ¬ 0 < zs_ll X.1 i := fun q => absurd h_16 (Int64.not_le.mpr q)
          refine lv_aload_n hx hb dX2_layersInUse_23 rfl (lv_at hl 0 rfl) ?_
          refine zk_getN (ci := 1) (v := va_rf ((zs_nx X.1 p (i + 1)).map (fun i => Z (6, i, 0)))) (C := RX1) (T := TX1) (N := 5) hx hb hts inw_wsX2_layersInUse_1 hown hK hH hL rfl 4 (by decide) (zk_nf_9 hN) rfl dX2_layersInUse_24 ?_
          refine zk_astore_n (lv' := [(2, va_rf ((zs_nx X.1 p (i + 1)).map (fun i => Z (6, i, 0)))), (1, .int acc), (0, .ref (Z (3, p, 0)))]) hx hb dX2_layersInUse_27 rfl hl (by decide) rfl (fun ls hl => ?_)
          refine lv_goto (tgt := 7) hx hb dX2_layersInUse_28 (by decide) ?_
          exact ih (i + 1) _ ls (by omega) (by omega) (by rw [hs, hacc]; simp [zs_cpf, hz]) (lv_sub hl [0, 1, 2] rfl)
        · skip
          have hz : 0 < zs_ll X.1 i := Int64.not_le.mp h_16
          refine lv_iinc (v := (acc + 1)) (lv' := [(1, .int (acc + 1)), (2, .ref (Z (6, i, 0))), (0, .ref (Z (3, p, 0)))]) hx hb dX2_layersInUse_20 hl (k := 1) rfl rfl (by decide) rfl (fun ls hl => ?_)
          refine lv_aload_n hx hb dX2_layersInUse_23 rfl (lv_at hl 1 rfl) ?_
          refine zk_getN (ci := 1) (v := va_rf ((zs_nx X.1 p (i + 1)).map (fun i => Z (6, i, 0)))) (C := RX1) (T := TX1) (N := 5) hx hb hts inw_wsX2_layersInUse_1 hown hK hH hL rfl 4 (by decide) (zk_nf_9 hN) rfl dX2_layersInUse_24 ?_
          refine zk_astore_n (lv' := [(2, va_rf ((zs_nx X.1 p (i + 1)).map (fun i => Z (6, i, 0)))), (1, .int (acc + 1)), (0, .ref (Z (3, p, 0)))]) hx hb dX2_layersInUse_27 rfl hl (by decide) rfl (fun ls hl => ?_)
          refine lv_goto (tgt := 7) hx hb dX2_layersInUse_28 (by decide) ?_
          exact ih (i + 1) _ ls (by omega) (by omega) (by rw [hs, hacc]; simp only [zs_cpf, h3, hz, and_self, if_true]; exact nI_add _ 1) (lv_sub hl [0, 1, 2] rfl)
  exact loop (zs_nl X.1 + 1) 0 0 ls (by omega) (by omega) rfl (lv_sub hl [0, 1, 2] rfl)

theorem inw_wsX2_giveBack_1 : ∀ w ∈ u_ws RX1 TX1 5, w ∈ wsX2_giveBack := by decide +kernel
theorem inw_wsX2_giveBack_2 : ∀ w ∈ u_ws RX2 TX2 2, w ∈ wsX2_giveBack := by decide +kernel
set_option maxHeartbeats 4000000 in
set_option maxRecDepth 100000 in
theorem zc_X2_giveBack (l : Launch) {g : zk_G} {z : Nat} {M : zk_M} {X : zs_X} {Z : zs_Z} (hR : zs_R g X Z M) (hI : ∀ i, i < zs_nl X.1 → zs_lk X.1 i < zs_nk X.1) {p k : Nat} (hp : p < zs_np X.1) (hk : k < zs_nk X.1) (num : Int64) : Met l yX2_giveBack wsX2_giveBack ({ frames := 1, cells := 0, slots := 0, locals := 20 } : Room) (va_Pc [.ref (Z (3, p, 0)), .ref (Z (4, k, 0)), .long num] (zk_U g z M)) (va_Ql (fun r u => r = (zs_take X.1 p k num (zs_nl X.1)).2.2 ∧ zs_R g (zs_ll_ X.1 (zs_take X.1 p k num (zs_nl X.1)).1, X.2) Z u) (zk_B g z) (fun q => z ≤ q)) 0 0 (fun q => z ≤ q) := by
  refine Met.ofW (cc := cX2_giveBack) (maxL := 11) (ret := (some .long)) (by decide) rfl ?_
  intro P0 e0 s m0 args below meth c0 s₁ B hml hv
  obtain ⟨rfl, hH, hK, hN⟩ := hv
  have hx := B.exec
  have hb := B.bytes
  have hr := B.returns
  have hts := atoms_spec (ws := wsX2_giveBack) B.pre
  have hown : s.vm.findClass RX2 = some m0.cls := findClass_of_methodNamed B.named
  have hlocks := B.notSynchronized
  have hS : va_S (fun q => z ≤ q) s.heap s.heap [] := va_S.rf
  have hl := lv_entry ([.ref (Z (3, p, 0)), .ref (Z (4, k, 0)), .long num]) (n := 11) (Nat.le_of_ble_eq_true rfl)
  rw [lg_entry_eq]
  generalize (lg_sl ([.ref (Z (3, p, 0)), .ref (Z (4, k, 0)), .long num]) ++ List.replicate (11 - (lg_sl ([.ref (Z (3, p, 0)), .ref (Z (4, k, 0)), .long num])).length) Slot.unset).toArray = ls at hl ⊢
  have hl : lv_has ls 11 [(0, .ref (Z (3, p, 0))), (1, .ref (Z (4, k, 0))), (2, .long num)] := hl
  have hP : M (Z (3, p, 0)) = some (.inr (2, [va_rf ((zs_nx X.1 p 0).map (fun i => Z (6, i, 0))), va_rf ((zs_lst (zs_lp X.1) p (zs_nl X.1)).map (fun i => Z (6, i, 0)))])) := hR.1 (3, p, 0) ⟨hp, rfl⟩
  refine lv_lload_n hx hb dX2_giveBack_0 rfl (lv_at hl 2 rfl) ?_
  refine lv_lstore (lv' := [(4, .long num), (0, .ref (Z (3, p, 0))), (1, .ref (Z (4, k, 0))), (2, .long num)]) hx hb dX2_giveBack_1 hl (by decide) rfl (fun ls hl => ?_)
  refine lv_lconst (v := 0) hx hb dX2_giveBack_3 (by decide) ?_
  refine lv_lstore (lv' := [(6, .long 0), (4, .long num), (0, .ref (Z (3, p, 0))), (1, .ref (Z (4, k, 0))), (2, .long num)]) hx hb dX2_giveBack_4 hl (by decide) rfl (fun ls hl => ?_)
  refine lv_aload_n hx hb dX2_giveBack_6 rfl (lv_at hl 2 rfl) ?_
  refine zk_get (ci := 2) (v := va_rf ((zs_nx X.1 p 0).map (fun i => Z (6, i, 0)))) (C := RX2) (T := TX2) (N := 2) hx hb hts inw_wsX2_giveBack_2 hown hK hH hP rfl 0 (by decide) (hts (.fieldLink RX2 13 "KegDeposits$Party" "oldest" "LKegDeposits$Layer;") (by decide +kernel)) rfl dX2_giveBack_7 ?_
  refine zk_astore (lv' := [(8, va_rf ((zs_nx X.1 p 0).map (fun i => Z (6, i, 0)))), (6, .long 0), (4, .long num), (0, .ref (Z (3, p, 0))), (1, .ref (Z (4, k, 0))), (2, .long num)]) hx hb dX2_giveBack_10 hl (by decide) rfl (fun ls hl => ?_)
  have loop : ∀ (n a : Nat) (f : Nat → Int64) (lf : Int64) (wo : Int64) (Mx : zk_M) (H : Heap) (locs : List Loc) (ls : Array Slot), zs_nl X.1 - a < n → a ≤ zs_nl X.1 → (f, lf, wo) = zs_take X.1 p k num a → zs_R g (zs_ll_ X.1 f, X.2) Z Mx → zk_H g z Mx H → va_S (fun q => z ≤ q) s.heap H locs → lv_has ls 11 [(8, va_rf ((zs_nx X.1 p a).map (fun i => Z (6, i, 0)))), (4, .long lf), (6, .long wo), (0, .ref (Z (3, p, 0))), (1, .ref (Z (4, k, 0)))] → W P0 l e0 (headSpec wsX2_giveBack ({ frames := 1, cells := 0, slots := 0, locals := 20 } : Room)).room s m0 ([.ref (Z (3, p, 0)), .ref (Z (4, k, 0)), .long num] : List Value).toArray below meth c0 H locs 0 0 (MQ below (va_Ql (fun r u => r = (zs_take X.1 p k num (zs_nl X.1)).2.2 ∧ zs_R g (zs_ll_ X.1 (zs_take X.1 p k num (zs_nl X.1)).1, X.2) Z u) (zk_B g z) (fun q => z ≤ q)) ([.ref (Z (3, p, 0)), .ref (Z (4, k, 0)), .long num] : List Value).toArray s 0 0 (fun q => z ≤ q)) (F0 m0 12 ls []) := by
    intro n
    induction n with
    | zero => intro a f lf wo Mx H locs ls hn; omega
    | succ n ih =>
      intro a f lf wo Mx H locs ls hn ha he hRx hH hS hl
      cases hnx : zs_nx X.1 p a with
      | none =>
        rw [hnx] at hl
        have hl : lv_has ls 11 [(8, .null), (4, .long lf), (6, .long wo), (0, .ref (Z (3, p, 0))), (1, .ref (Z (4, k, 0)))] := hl
        refine lv_aloadN hx hb dX2_giveBack_12 (lv_at hl 0 rfl) ?_
        refine lv_ifnullN (tgt := 80) hx hb dX2_giveBack_14 (by decide) ?_
        refine lv_lload hx hb dX2_giveBack_80 (lv_at hl 2 rfl) ?_
        exact zk_lret hx hb hr hlocks hH hS (by decide) (by decide) (by rw [zs_take_to ha (fun j h1 h2 => zs_nx_none hnx j h1 h2), ← he]; exact ⟨rfl, hRx⟩) dX2_giveBack_82
      | some i =>
        obtain ⟨h1, h2, h3, h4⟩ := zs_nx_some hnx
        rw [hnx] at hl
        have hl : lv_has ls 11 [(8, .ref (Z (6, i, 0))), (4, .long lf), (6, .long wo), (0, .ref (Z (3, p, 0))), (1, .ref (Z (4, k, 0)))] := hl
        have hL : Mx (Z (6, i, 0)) = some (.inr (1, [.ref (Z (4, zs_lk X.1 i, 0)), .long (zs_ld X.1 i), .long (zs_lc X.1 i), .long (f i), va_rf ((zs_nx X.1 p (i + 1)).map (fun i => Z (6, i, 0)))])) := by rw [← h3]; exact hRx.1 (6, i, 0) ⟨h2, rfl⟩
        refine lv_aload hx hb dX2_giveBack_12 (lv_at hl 0 rfl) ?_
        refine lv_ifnull hx hb dX2_giveBack_14 ?_
        refine lv_aload hx hb dX2_giveBack_17 (lv_at hl 0 rfl) ?_
        refine zk_getN (ci := 1) (v := .ref (Z (4, zs_lk X.1 i, 0))) (C := RX1) (T := TX1) (N := 5) hx hb hts inw_wsX2_giveBack_1 hown hK hH hL rfl 0 (by decide) (zk_nf_5 hN) rfl dX2_giveBack_19 ?_
        refine lv_aload_n hx hb dX2_giveBack_22 rfl (lv_at hl 4 rfl) ?_
        refine lv_acmp_ne (rx := (some (Z (4, zs_lk X.1 i, 0)))) (ry := (some (Z (4, k, 0)))) (tgt := 70) hx hb dX2_giveBack_23 (by decide) (fun h_23 => ?_) (fun h_23 => ?_)
        · skip
          have hkk : ¬ zs_lk X.1 i = k := fun q => h_23 (by rw [q])
          refine lv_aload hx hb dX2_giveBack_70 (lv_at hl 0 rfl) ?_
          refine zk_getN (ci := 1) (v := va_rf ((zs_nx X.1 p (i + 1)).map (fun i => Z (6, i, 0)))) (C := RX1) (T := TX1) (N := 5) hx hb hts inw_wsX2_giveBack_1 hown hK hH hL rfl 4 (by decide) (zk_nf_9 hN) rfl dX2_giveBack_72 ?_
          refine zk_astore (lv' := [(8, va_rf ((zs_nx X.1 p (i + 1)).map (fun i => Z (6, i, 0)))), (4, .long lf), (6, .long wo), (0, .ref (Z (3, p, 0))), (1, .ref (Z (4, k, 0)))]) hx hb dX2_giveBack_75 hl (by decide) rfl (fun ls hl => ?_)
          refine lv_goto (tgt := 12) hx hb dX2_giveBack_77 (by decide) ?_
          exact ih (i + 1) _ _ _ _ _ _ ls (by omega) (by omega) (zs_take_miss he h1 h4 hkk) hRx hH hS (lv_sub hl [0, 1, 2, 3, 4] rfl)
        · skip
          have hkk : zs_lk X.1 i = k := by have := hR.2 (4, zs_lk X.1 i, 0) (4, k, 0) ⟨hI i h2, rfl⟩ ⟨hk, rfl⟩ (Option.some.inj h_23); simpa using this
          refine lv_lload hx hb dX2_giveBack_26 (lv_at hl 1 rfl) ?_
          refine lv_aload hx hb dX2_giveBack_28 (lv_at hl 0 rfl) ?_
          refine zk_getN (ci := 1) (v := .long (f i)) (C := RX1) (T := TX1) (N := 5) hx hb hts inw_wsX2_giveBack_1 hown hK hH hL rfl 3 (by decide) (zk_nf_8 hN) rfl dX2_giveBack_30 ?_
          refine va_mmin_long hx hb (hml.trans hl.1.symm) hown (hts (.methodLink RX2 32 Lib.MathLoose.min_long.x) (by decide +kernel)) (hts (.static Lib.MathLoose.min_long.x) (by decide +kernel)) (hts (.initialized "java/lang/Math") (by decide +kernel)) (hts (.code Lib.MathLoose.min_long.x Lib.MathLoose.min_long.code 4 (some .long)) (by decide +kernel)) (Nat.le_of_ble_eq_true rfl) (Nat.le_of_ble_eq_true rfl) (Nat.le_of_ble_eq_true rfl) (Nat.le_of_ble_eq_true rfl) dX2_giveBack_33 ?_
          refine lv_lstore (lv' := [(9, .long (if f i < lf then f i else lf)), (8, .ref (Z (6, i, 0))), (4, .long lf), (6, .long wo), (0, .ref (Z (3, p, 0))), (1, .ref (Z (4, k, 0)))]) hx hb dX2_giveBack_36 hl (by decide) rfl (fun ls hl => ?_)
          refine lv_aload hx hb dX2_giveBack_38 (lv_at hl 1 rfl) ?_
          refine lv_dup hx hb dX2_giveBack_40 rfl ?_
          refine zk_getN (ci := 1) (v := .long (f i)) (C := RX1) (T := TX1) (N := 5) hx hb hts inw_wsX2_giveBack_1 hown hK hH hL rfl 3 (by decide) (zk_nf_8 hN) rfl dX2_giveBack_41 ?_
          refine lv_lload hx hb dX2_giveBack_44 (lv_at hl 0 rfl) ?_
          refine lv_lsub hx hb dX2_giveBack_46 ?_
          refine zk_putN (ci := 1) (v := .long (f i - (if f i < lf then f i else lf))) (C := RX1) (T := TX1) (N := 5) hx hb hts inw_wsX2_giveBack_1 tyX1 tyX1_ok nmX1 hown hK hH hS hL rfl 3 (by decide) (zk_nf_8 hN) rfl rfl rfl (Nat.le_of_ble_eq_true rfl) dX2_giveBack_47 (fun H locs hH hS => ?_)
          obtain ⟨M_47, eM_47⟩ : ∃ w_0 : zk_M, w_0 = zk_up Mx (Z (6, i, 0)) (.inr (1, [.ref (Z (4, zs_lk X.1 i, 0)), .long (zs_ld X.1 i), .long (zs_lc X.1 i), .long (f i - (if f i < lf then f i else lf)), va_rf ((zs_nx X.1 p (i + 1)).map (fun i => Z (6, i, 0)))])) := ⟨_, rfl⟩
          have hH : zk_H g z M_47 H := by rw [eM_47]; exact hH
          have e_47 : M_47 (Z (6, i, 0)) = some (.inr (1, [.ref (Z (4, zs_lk X.1 i, 0)), .long (zs_ld X.1 i), .long (zs_lc X.1 i), .long (f i - (if f i < lf then f i else lf)), va_rf ((zs_nx X.1 p (i + 1)).map (fun i => Z (6, i, 0)))])) := by rw [eM_47]; exact zk_up_s _ _ _
          refine lv_lload hx hb dX2_giveBack_50 (lv_at hl 2 rfl) ?_
          refine lv_lload hx hb dX2_giveBack_52 (lv_at hl 0 rfl) ?_
          refine lv_lsub hx hb dX2_giveBack_54 ?_
          refine lv_lstore (lv' := [(4, .long (lf - (if f i < lf then f i else lf))), (9, .long (if f i < lf then f i else lf)), (8, .ref (Z (6, i, 0))), (6, .long wo), (0, .ref (Z (3, p, 0))), (1, .ref (Z (4, k, 0)))]) hx hb dX2_giveBack_55 hl (by decide) rfl (fun ls hl => ?_)
          refine lv_lload hx hb dX2_giveBack_57 (lv_at hl 3 rfl) ?_
          refine lv_lload hx hb dX2_giveBack_59 (lv_at hl 1 rfl) ?_
          refine lv_aload hx hb dX2_giveBack_61 (lv_at hl 2 rfl) ?_
          refine zk_getN (ci := 1) (v := .long (zs_lc X.1 i)) (C := RX1) (T := TX1) (N := 5) hx hb hts inw_wsX2_giveBack_1 hown hK hH e_47 rfl 2 (by decide) (zk_nf_7 hN) rfl dX2_giveBack_63 ?_
          refine lv_lmul hx hb dX2_giveBack_66 ?_
          refine lv_ladd hx hb dX2_giveBack_67 ?_
          refine lv_lstore (lv' := [(6, .long (wo + ((if f i < lf then f i else lf) * zs_lc X.1 i))), (4, .long (lf - (if f i < lf then f i else lf))), (9, .long (if f i < lf then f i else lf)), (8, .ref (Z (6, i, 0))), (0, .ref (Z (3, p, 0))), (1, .ref (Z (4, k, 0)))]) hx hb dX2_giveBack_68 hl (by decide) rfl (fun ls hl => ?_)
          refine lv_aload hx hb dX2_giveBack_70 (lv_at hl 3 rfl) ?_
          refine zk_getN (ci := 1) (v := va_rf ((zs_nx X.1 p (i + 1)).map (fun i => Z (6, i, 0)))) (C := RX1) (T := TX1) (N := 5) hx hb hts inw_wsX2_giveBack_1 hown hK hH e_47 rfl 4 (by decide) (zk_nf_9 hN) rfl dX2_giveBack_72 ?_
          refine zk_astore (lv' := [(8, va_rf ((zs_nx X.1 p (i + 1)).map (fun i => Z (6, i, 0)))), (6, .long (wo + ((if f i < lf then f i else lf) * zs_lc X.1 i))), (4, .long (lf - (if f i < lf then f i else lf))), (9, .long (if f i < lf then f i else lf)), (0, .ref (Z (3, p, 0))), (1, .ref (Z (4, k, 0)))]) hx hb dX2_giveBack_75 hl (by decide) rfl (fun ls hl => ?_)
          refine lv_goto (tgt := 12) hx hb dX2_giveBack_77 (by decide) ?_
          exact ih (i + 1) _ _ _ _ _ _ ls (by omega) (by omega) (zs_take_hit he h1 h4 h3 hkk) (by rw [eM_47, ← h3]; exact zs_R_ll hRx h2 _) hH hS (lv_sub hl [0, 2, 1, 4, 5] rfl)
  exact loop (zs_nl X.1 + 1) 0 _ _ _ _ _ _ ls (by omega) (by omega) rfl hR hH hS (lv_sub hl [0, 2, 1, 3, 4] rfl)

theorem inw_wsX2_addLayer_1 : ∀ w ∈ u_ws RX1 TX1 5, w ∈ wsX2_addLayer := by decide +kernel
theorem inw_wsX2_addLayer_2 : ∀ w ∈ u_ws RX2 TX2 2, w ∈ wsX2_addLayer := by decide +kernel
set_option maxHeartbeats 4000000 in
set_option maxRecDepth 100000 in
theorem zc_X2_addLayer (l : Launch) {g : zk_G} {z : Nat} {M : zk_M} {X : zs_X} {Z : zs_Z} (hR : zs_R g X Z M) {p a : Nat} (hp : p < zs_np X.1) : Met l yX2_addLayer wsX2_addLayer ({ frames := 0, cells := 0, slots := 0, locals := 0 } : Room) (va_Pc [.ref (Z (3, p, 0)), .ref a] (zk_U g z M)) (va_Qv (fun u => zs_alp X Z M p a u) (zk_B g z) (fun q => z ≤ q)) 0 0 (fun q => z ≤ q) := by
  refine Met.ofW (cc := cX2_addLayer) (maxL := 2) (ret := none) (by decide) rfl ?_
  intro P0 e0 s m0 args below meth c0 s₁ B hml hv
  obtain ⟨rfl, hH, hK, hN⟩ := hv
  have hx := B.exec
  have hb := B.bytes
  have hr := B.returns
  have hts := atoms_spec (ws := wsX2_addLayer) B.pre
  have hown : s.vm.findClass RX2 = some m0.cls := findClass_of_methodNamed B.named
  have hlocks := B.notSynchronized
  have hS : va_S (fun q => z ≤ q) s.heap s.heap [] := va_S.rf
  have hl := lv_entry ([.ref (Z (3, p, 0)), .ref a]) (n := 2) (Nat.le_of_ble_eq_true rfl)
  rw [lg_entry_eq]
  generalize (lg_sl ([.ref (Z (3, p, 0)), .ref a]) ++ List.replicate (2 - (lg_sl ([.ref (Z (3, p, 0)), .ref a])).length) Slot.unset).toArray = ls at hl ⊢
  have hl : lv_has ls 2 [(0, .ref (Z (3, p, 0))), (1, .ref a)] := hl
  have hP : M (Z (3, p, 0)) = some (.inr (2, [va_rf ((zs_nx X.1 p 0).map (fun i => Z (6, i, 0))), va_rf ((zs_lst (zs_lp X.1) p (zs_nl X.1)).map (fun i => Z (6, i, 0)))])) := hR.1 (3, p, 0) ⟨hp, rfl⟩
  cases hlst : zs_lst (zs_lp X.1) p (zs_nl X.1) with
  | none =>
    rw [hlst, show zs_nx X.1 p 0 = none from zs_fst_of (fun j _ h => zs_lst_none hlst j (by omega))] at hP
    refine lv_aload_n hx hb dX2_addLayer_0 rfl (lv_at hl 0 rfl) ?_
    refine zk_get (ci := 2) (v := .null) (C := RX2) (T := TX2) (N := 2) hx hb hts inw_wsX2_addLayer_2 hown hK hH hP rfl 1 (by decide) (hts (.fieldLink RX2 7 "KegDeposits$Party" "newest" "LKegDeposits$Layer;") (by decide +kernel)) rfl dX2_addLayer_1 ?_
    refine lv_ifnonnullN hx hb dX2_addLayer_4 ?_
    refine lv_aload_n hx hb dX2_addLayer_7 rfl (lv_at hl 0 rfl) ?_
    refine lv_aload_n hx hb dX2_addLayer_8 rfl (lv_at hl 1 rfl) ?_
    refine zk_put (ci := 2) (v := .ref a) (C := RX2) (T := TX2) (N := 2) hx hb hts inw_wsX2_addLayer_2 tyX2 tyX2_ok nmX2 hown hK hH hS hP rfl 0 (by decide) (hts (.fieldLink RX2 13 "KegDeposits$Party" "oldest" "LKegDeposits$Layer;") (by decide +kernel)) rfl rfl rfl (Nat.le_of_ble_eq_true rfl) dX2_addLayer_9 (fun H locs hH hS => ?_)
    obtain ⟨M_9, eM_9⟩ : ∃ w_0 : zk_M, w_0 = zk_up M (Z (3, p, 0)) (.inr (2, [.ref a, .null])) := ⟨_, rfl⟩
    have hH : zk_H g z M_9 H := by rw [eM_9]; exact hH
    have e_9 : M_9 (Z (3, p, 0)) = some (.inr (2, [.ref a, .null])) := by rw [eM_9]; exact zk_up_s _ _ _
    refine lv_goto (tgt := 23) hx hb dX2_addLayer_12 (by decide) ?_
    refine lv_aload_n hx hb dX2_addLayer_23 rfl (lv_at hl 0 rfl) ?_
    refine lv_aload_n hx hb dX2_addLayer_24 rfl (lv_at hl 1 rfl) ?_
    refine zk_put (ci := 2) (v := .ref a) (C := RX2) (T := TX2) (N := 2) hx hb hts inw_wsX2_addLayer_2 tyX2 tyX2_ok nmX2 hown hK hH hS e_9 rfl 1 (by decide) (hts (.fieldLink RX2 7 "KegDeposits$Party" "newest" "LKegDeposits$Layer;") (by decide +kernel)) rfl rfl rfl (Nat.le_of_ble_eq_true rfl) dX2_addLayer_25 (fun H locs hH hS => ?_)
    obtain ⟨M_25, eM_25⟩ : ∃ w_0 : zk_M, w_0 = zk_up M_9 (Z (3, p, 0)) (.inr (2, [.ref a, .ref a])) := ⟨_, rfl⟩
    have hH : zk_H g z M_25 H := by rw [eM_25]; exact hH
    have e_25 : M_25 (Z (3, p, 0)) = some (.inr (2, [.ref a, .ref a])) := by rw [eM_25]; exact zk_up_s _ _ _
    exact zk_vret hx hb hr hlocks hH hS (by decide) (by decide) (And.intro (by rw [hlst]; exact e_25) (And.intro (fun i hi => by rw [hlst] at hi; cases hi) (fun b hb _ => by rw [eM_25, zk_up_n _ _ hb, eM_9, zk_up_n _ _ hb]))) dX2_addLayer_28
  | some i =>
    obtain ⟨i1, i2, i3⟩ := zs_lst_some hlst
    rw [hlst] at hP
    have hL : M (Z (6, i, 0)) = some (.inr (1, [.ref (Z (4, zs_lk X.1 i, 0)), .long (zs_ld X.1 i), .long (zs_lc X.1 i), .long (zs_ll X.1 i), va_rf ((zs_nx X.1 (zs_lp X.1 i) (i + 1)).map (fun i => Z (6, i, 0)))])) := hR.1 (6, i, 0) ⟨i1, rfl⟩
    refine lv_aload_n hx hb dX2_addLayer_0 rfl (lv_at hl 0 rfl) ?_
    refine zk_get (ci := 2) (v := .ref (Z (6, i, 0))) (C := RX2) (T := TX2) (N := 2) hx hb hts inw_wsX2_addLayer_2 hown hK hH hP rfl 1 (by decide) (hts (.fieldLink RX2 7 "KegDeposits$Party" "newest" "LKegDeposits$Layer;") (by decide +kernel)) rfl dX2_addLayer_1 ?_
    refine lv_ifnonnull (tgt := 15) hx hb dX2_addLayer_4 (by decide) ?_
    refine lv_aload_n hx hb dX2_addLayer_15 rfl (lv_at hl 0 rfl) ?_
    refine zk_get (ci := 2) (v := .ref (Z (6, i, 0))) (C := RX2) (T := TX2) (N := 2) hx hb hts inw_wsX2_addLayer_2 hown hK hH hP rfl 1 (by decide) (hts (.fieldLink RX2 7 "KegDeposits$Party" "newest" "LKegDeposits$Layer;") (by decide +kernel)) rfl dX2_addLayer_16 ?_
    refine lv_aload_n hx hb dX2_addLayer_19 rfl (lv_at hl 1 rfl) ?_
    refine zk_putN (ci := 1) (v := .ref a) (C := RX1) (T := TX1) (N := 5) hx hb hts inw_wsX2_addLayer_1 tyX1 tyX1_ok nmX1 hown hK hH hS hL rfl 4 (by decide) (zk_nf_9 hN) rfl rfl rfl (Nat.le_of_ble_eq_true rfl) dX2_addLayer_20 (fun H locs hH hS => ?_)
    obtain ⟨M_20, eM_20⟩ : ∃ w_0 : zk_M, w_0 = zk_up M (Z (6, i, 0)) (.inr (1, [.ref (Z (4, zs_lk X.1 i, 0)), .long (zs_ld X.1 i), .long (zs_lc X.1 i), .long (zs_ll X.1 i), .ref a])) := ⟨_, rfl⟩
    have hH : zk_H g z M_20 H := by rw [eM_20]; exact hH
    have f_20_0 : M_20 (Z (3, p, 0)) = some (.inr (2, [va_rf ((zs_nx X.1 p 0).map (fun i => Z (6, i, 0))), .ref (Z (6, i, 0))])) := by rw [eM_20, zk_up_n _ _ (zk_ne hP hL (by simp))]; exact hP
    have e_20 : M_20 (Z (6, i, 0)) = some (.inr (1, [.ref (Z (4, zs_lk X.1 i, 0)), .long (zs_ld X.1 i), .long (zs_lc X.1 i), .long (zs_ll X.1 i), .ref a])) := by rw [eM_20]; exact zk_up_s _ _ _
    refine lv_aload_n hx hb dX2_addLayer_23 rfl (lv_at hl 0 rfl) ?_
    refine lv_aload_n hx hb dX2_addLayer_24 rfl (lv_at hl 1 rfl) ?_
    refine zk_put (ci := 2) (v := .ref a) (C := RX2) (T := TX2) (N := 2) hx hb hts inw_wsX2_addLayer_2 tyX2 tyX2_ok nmX2 hown hK hH hS f_20_0 rfl 1 (by decide) (hts (.fieldLink RX2 7 "KegDeposits$Party" "newest" "LKegDeposits$Layer;") (by decide +kernel)) rfl rfl rfl (Nat.le_of_ble_eq_true rfl) dX2_addLayer_25 (fun H locs hH hS => ?_)
    obtain ⟨M_25, eM_25⟩ : ∃ w_0 : zk_M, w_0 = zk_up M_20 (Z (3, p, 0)) (.inr (2, [va_rf ((zs_nx X.1 p 0).map (fun i => Z (6, i, 0))), .ref a])) := ⟨_, rfl⟩
    have hH : zk_H g z M_25 H := by rw [eM_25]; exact hH
    have f_25_0 : M_25 (Z (6, i, 0)) = some (.inr (1, [.ref (Z (4, zs_lk X.1 i, 0)), .long (zs_ld X.1 i), .long (zs_lc X.1 i), .long (zs_ll X.1 i), .ref a])) := by rw [eM_25, zk_up_n _ _ (zk_ne e_20 f_20_0 (by simp))]; exact e_20
    have e_25 : M_25 (Z (3, p, 0)) = some (.inr (2, [va_rf ((zs_nx X.1 p 0).map (fun i => Z (6, i, 0))), .ref a])) := by rw [eM_25]; exact zk_up_s _ _ _
    exact zk_vret hx hb hr hlocks hH hS (by decide) (by decide) (And.intro (by rw [hlst]; exact e_25) (And.intro (fun j hj => by rw [hlst] at hj; cases hj; exact f_25_0) (fun b hb h6 => by rw [eM_25, zk_up_n _ _ hb, eM_20, zk_up_n _ _ (h6 i hlst)]))) dX2_addLayer_28
