theorem zs_i0 {o : Option Nat} {r : Int32} (h : r = if o = none then 0 else 1) (e : r = 0) : o = none := Decidable.byContradiction (fun q => by
  rw [h, if_neg q] at e
  exact absurd e (by decide))
theorem zs_i1 {o : Option Nat} {r : Int32} (h : r = if o = none then 0 else 1) (e : ¬ r = 0) : ∃ p, o = some p := by
  cases o with
  | none => exact absurd (by rw [h]; rfl) e
  | some p => exact ⟨p, rfl⟩
theorem zs_at_hit {q : Nat → Int64} {d : Int64} {b n : Nat} (h : q n = d) : n = zs_at q d b (n + 1) := (if_pos h).symm
theorem zs_at_mis {q : Nat → Int64} {d : Int64} {b n a : Nat} (e : a = zs_at q d b n) (h : ¬ q n = d) : a = zs_at q d b (n + 1) := e.trans (if_neg h).symm
theorem zs_at_eq {q : Nat → Int64} {d : Int64} {b : Nat} : ∀ {n : Nat}, zs_at q d b n = b ∨ (zs_at q d b n < n ∧ q (zs_at q d b n) = d) := by
  intro n
  induction n with
  | zero => exact Or.inl rfl
  | succ n ih =>
    by_cases h : q n = d
    · rw [← zs_at_hit (b := b) h]; exact Or.inr ⟨Nat.lt_succ_self _, h⟩
    · rw [← zs_at_mis (b := b) rfl h]
      rcases ih with g | g
      · exact Or.inl g
      · exact Or.inr ⟨Nat.lt_succ_of_lt g.1, g.2⟩
theorem zs_va_same {f : Nat → Nat} {k : Nat} : va_up f k (f k) = f := by
  funext i
  by_cases h : i = k
  · subst h; simp [va_up]
  · simp [va_up, h]
theorem zs_updL_same {f : Nat → Int64} {k : Nat} {x : Int64} (e : f k = x) : vp_updL f k x = f := by
  funext i
  by_cases h : i = k
  · subst h; simp [vp_updL, e]
  · simp [vp_updL, h]
theorem zs_tell_old {S : zs_S} {k a : Nat} {d c : Int64} (ha : a = zs_at (fun j => zs_pd S (20 * k + j)) d (zs_pn S k) (zs_pn S k)) (hap : ¬ a = zs_pn S k) : zs_tell S k d c = (1, (zs_np S, zs_nk S, zs_nl S, zs_nc S, zs_ck S, va_up (zs_pn S) k (zs_pn S k), vp_updL (zs_pd S) (20 * k + a) d, vp_updL (zs_pc S) (20 * k + a) c, zs_sh S, zs_rs S, zs_lp S, zs_lk S, zs_ll S, zs_ld S, zs_lc S, zs_tp S, zs_tt S, zs_ta S, zs_td S)) := by
  rcases zs_at_eq (q := fun j => zs_pd S (20 * k + j)) (d := d) (b := zs_pn S k) (n := zs_pn S k) with g | g
  · exact absurd (ha.trans g) hap
  · rw [← ha] at g
    unfold zs_tell
    rw [← ha, if_pos g.1, zs_va_same, zs_updL_same g.2]
    rfl
theorem zs_tell_new {S : zs_S} {k a : Nat} {d c : Int64} (ha : a = zs_at (fun j => zs_pd S (20 * k + j)) d (zs_pn S k) (zs_pn S k)) (hap : a = zs_pn S k) (h20 : a < 20) : zs_tell S k d c = (1, (zs_np S, zs_nk S, zs_nl S, zs_nc S, zs_ck S, va_up (zs_pn S) k (zs_pn S k + 1), vp_updL (zs_pd S) (20 * k + a) d, vp_updL (zs_pc S) (20 * k + a) c, zs_sh S, zs_rs S, zs_lp S, zs_lk S, zs_ll S, zs_ld S, zs_lc S, zs_tp S, zs_tt S, zs_ta S, zs_td S)) := by
  unfold zs_tell
  rw [← ha, if_neg (by omega), if_pos (by omega), hap]
  rfl
theorem zs_tell_full {S : zs_S} {k a : Nat} {d c : Int64} (ha : a = zs_at (fun j => zs_pd S (20 * k + j)) d (zs_pn S k) (zs_pn S k)) (hpk : zs_pn S k ≤ 20) (h20 : a = 20) : zs_tell S k d c = (0, S) := by
  rcases zs_at_lt (q := fun j => zs_pd S (20 * k + j)) (d := d) (b := zs_pn S k) (n := zs_pn S k) with g | g
  · rw [← ha] at g
    unfold zs_tell
    rw [← ha, if_neg (by omega), if_neg (by omega)]
  · rw [← ha] at g; omega
theorem zs_fout_no {S : zs_S} {x y : Int32} {n d : Int64} (h : ¬ zs_mc S x n d) : zs_fout S x y n d = (0, S) := by
  unfold zs_fout
  cases hxp : zs_cx (zs_np S) x with
  | none => rfl
  | some p =>
    cases hy : zs_ix (zs_nk S) y with
    | none => rfl
    | some k => exact if_neg (fun q => h ⟨by rw [hxp]; simp, q.1, q.2.1.1, q.2.1.2⟩)
theorem zs_fback_no {S : zs_S} {x y : Int32} {n d : Int64} (h : ¬ zs_mc S x n d) : zs_fback S x y n d = (0, S) := by
  unfold zs_fback
  cases hxp : zs_cx (zs_np S) x with
  | none => rfl
  | some p =>
    cases hy : zs_ix (zs_nk S) y with
    | none => rfl
    | some k => exact if_neg (fun q => h ⟨by rw [hxp]; simp, q.1, q.2.1.1, q.2.1.2⟩)
theorem zs_fsampled_no {S : zs_S} {x : Int32} {n d : Int64} (h : ¬ zs_mc S x n d) : zs_fsampled S x n d = (0, S) := by
  unfold zs_fsampled
  cases hxp : zs_cx (zs_np S) x with
  | none => rfl
  | some p => exact if_neg (fun q => h ⟨by rw [hxp]; simp, q.1, q.2.1.1, q.2.1.2⟩)
theorem zs_fsettle_no {w : Int64 → Bool} {S : zs_S} {x y m : Int32} (hnp : zs_np S ≤ 24) (h : zs_cx (zs_np S) x = none ∨ zs_cx (zs_np S) y = none ∨ x = y ∨ ¬ (zs_isD (Int32.toInt64 m * 30) ∧ zs_ck S ≤ Int32.toInt64 m * 30)) : zs_fsettle w S x y m = (-2, S) := by
  unfold zs_fsettle
  cases hxp : zs_cx (zs_np S) x with
  | none => rfl
  | some p =>
    cases hy : zs_cx (zs_np S) y with
    | none => rfl
    | some q =>
      refine if_neg (fun g => ?_)
      rcases h with h | h | h | h
      · rw [hxp] at h; cases h
      · rw [hy] at h; cases h
      · rw [h, hy] at hxp; cases hxp; exact g.1 rfl
      · exact h g.2
theorem zs_cx_of {n p : Nat} {x : Int32} (h : zs_ix n x = some p) (h0 : ¬ x = 0) : zs_cx n x = some p := (if_neg h0).trans h
theorem zs_half0 {df : Int64} (h : 0 ≤ df) : (if 0 < df then df else -df) = df := by
  by_cases q : 0 < df
  · rw [if_pos q]
  · have : df = 0 := Int64.le_antisymm (Int64.not_lt.mp q) h
    rw [if_neg q, this]; rfl
theorem zs_half1 {df : Int64} (h : ¬ 0 ≤ df) : (if 0 < df then df else -df) = -df := if_neg (fun q => h (Int64.le_of_lt q))
theorem zs_pos0 {df : Int64} (h : 0 ≤ df) (h2 : ¬ df / 2 = 0) : 0 < df := by
  rcases Decidable.em (0 < df) with q | q
  · exact q
  · have : df = 0 := Int64.le_antisymm (Int64.not_lt.mp q) h
    exact absurd (by rw [this]; rfl) h2
theorem zs_lost_iff {ck ld : Int64} {m : Int32} (h0 : 0 ≤ ck ∧ ck ≤ 100000) (h1 : 0 ≤ ld ∧ ld ≤ 100000) (hm : ¬ m < 0) : ck - ld < Int32.toInt64 m * 30 ↔ ¬ ld ≤ ck - Int32.toInt64 m * 30 := by
  obtain ⟨j, hj, rfl⟩ := nI_of hm
  obtain ⟨c, c1, rfl⟩ := pk_lOf (Int64.not_lt.mpr h0.1)
  obtain ⟨e, e1, rfl⟩ := pk_lOf (Int64.not_lt.mpr h1.1)
  have c2 : c ≤ 100000 := (pk_lLE c1 (by decide)).mp h0.2
  have e2 : e ≤ 100000 := (pk_lLE e1 (by decide)).mp h1.2
  rw [nI_l hj, show (30 : Int64) = lN 30 from rfl, lN_mul, Int64.lt_iff_toInt_lt, Int64.le_iff_toInt_le, Int64.toInt_sub, Int64.toInt_sub, pk_lT (by omega), pk_lT (by omega), pk_lT (by omega)]
  rw [Int.bmod_eq_of_le (by omega) (by omega), Int.bmod_eq_of_le (by omega) (by omega)]
  omega
theorem inw_wsX6_party_6 : ∀ w ∈ u_ws RX6 TX6 20, w ∈ wsX6_party := by decide +kernel
set_option maxHeartbeats 4000000 in
set_option maxRecDepth 100000 in
theorem zc_X6_party (l : Launch) {g : zk_G} {z : Nat} {M : zk_M} {X : zs_X} {Z : zs_Z} {n : Nat} (hR : zs_R g X Z M) (hI : zs_I X.2.1 n) (hn : n ≤ 512) : Met l yX6_party wsX6_party ({ frames := 0, cells := 0, slots := 0, locals := 0 } : Room) (va_Pc [.ref (Z (8, 0, 0))] (zk_U g z M)) (va_Qi (fun r u => r = (zs_fparty X.2.1).1 ∧ zs_Q g X Z (zs_fparty X.2.1).2 u) (zk_B g z) (fun q => z ≤ q)) 0 0 (fun q => z ≤ q) := by
  refine Met.ofW (cc := cX6_party) (maxL := 1) (ret := (some .int)) (by decide) rfl ?_
  intro P0 e0 s m0 args below meth c0 s₁ B hml hv
  obtain ⟨rfl, hH, hK, hN⟩ := hv
  have hx := B.exec
  have hb := B.bytes
  have hr := B.returns
  have hts := atoms_spec (ws := wsX6_party) B.pre
  have hown : s.vm.findClass RX6 = some m0.cls := findClass_of_methodNamed B.named
  have hlocks := B.notSynchronized
  have hS : va_S (fun q => z ≤ q) s.heap s.heap [] := va_S.rf
  have hl := lv_entry ([.ref (Z (8, 0, 0))]) (n := 1) (Nat.le_of_ble_eq_true rfl)
  rw [lg_entry_eq]
  generalize (lg_sl ([.ref (Z (8, 0, 0))]) ++ List.replicate (1 - (lg_sl ([.ref (Z (8, 0, 0))])).length) Slot.unset).toArray = ls at hl ⊢
  have hl : lv_has ls 1 [(0, .ref (Z (8, 0, 0)))] := hl
  have hnp : zs_np X.2.1 ≤ 24 := hI.1.2.1
  have hnk : zs_nk X.2.1 ≤ 12 := hI.1.2.2.1
  have hl1 : zs_nl X.2.1 ≤ 512 := Nat.le_trans hI.1.2.2.2.1 hn
  have hl2 : zs_nl X.2.1 ≤ 4100 := by omega
  have hc1 : zs_nc X.2.1 ≤ 512 := Nat.le_trans hI.1.2.2.2.2.1 hn
  have hbb : ∀ i, i < zs_nl X.2.1 → zs_lp X.2.1 i < 2 ^ 31 ∧ zs_lk X.2.1 i < 2 ^ 31 := fun i hi => by
    obtain ⟨a1, a2, -⟩ := hI.2.2.1.1 i hi
    omega
  refine lv_aload_n hx hb dX6_party_0 rfl (lv_at hl 0 rfl) ?_
  refine zk_get (ci := 6) (v := .int (nI (zs_np X.2.1))) (C := RX6) (T := TX6) (N := 20) hx hb hts inw_wsX6_party_6 hown hK hH (hR.1 (8, 0, 0) ⟨by decide, rfl⟩) rfl 0 (by decide) (hts (.fieldLink RX6 7 "KegDepositsModel" "parties" "I") (by decide +kernel)) rfl dX6_party_1 ?_
  refine lv_bipush (v := 24) hx hb dX6_party_4 (by decide) ?_
  refine lv_icmp_ne (tgt := 12) hx hb dX6_party_6 (by decide) (fun h_6 => ?_) (fun h_6 => ?_)
  · skip
    refine lv_aload_n hx hb dX6_party_12 rfl (lv_at hl 0 rfl) ?_
    refine lv_dup hx hb dX6_party_13 rfl ?_
    refine zk_get (ci := 6) (v := .int (nI (zs_np X.2.1))) (C := RX6) (T := TX6) (N := 20) hx hb hts inw_wsX6_party_6 hown hK hH (hR.1 (8, 0, 0) ⟨by decide, rfl⟩) rfl 0 (by decide) (hts (.fieldLink RX6 7 "KegDepositsModel" "parties" "I") (by decide +kernel)) rfl dX6_party_14 ?_
    refine lv_iconst (v := 1) hx hb dX6_party_17 (by decide) ?_
    refine lv_iadd hx hb dX6_party_18 ?_
    refine zk_top (v' := .int (nI (zs_np X.2.1 + 1))) (by rw [nI_1]) ?_
    refine zk_put (ci := 6) (v := .int (nI (zs_np X.2.1 + 1))) (C := RX6) (T := TX6) (N := 20) hx hb hts inw_wsX6_party_6 tyX6 tyX6_ok nmX6 hown hK hH hS (hR.1 (8, 0, 0) ⟨by decide, rfl⟩) rfl 0 (by decide) (hts (.fieldLink RX6 7 "KegDepositsModel" "parties" "I") (by decide +kernel)) rfl rfl rfl (Nat.le_of_ble_eq_true rfl) dX6_party_19 (fun H locs hH hS => ?_)
    obtain ⟨M_19, eM_19⟩ : ∃ w_0 : zk_M, w_0 = zk_up M (Z (8, 0, 0)) (.inr (6, [.int (nI (zs_np X.2.1 + 1)), .int (nI (zs_nk X.2.1)), .long (zs_ck X.2.1), .ref (Z (8, 1, 0)), .ref (Z (8, 2, 0)), .ref (Z (8, 3, 0)), .ref (Z (8, 4, 0)), .ref (Z (8, 5, 0)), .ref (Z (8, 6, 0)), .int (nI (zs_nl X.2.1)), .ref (Z (8, 7, 0)), .ref (Z (8, 8, 0)), .ref (Z (8, 9, 0)), .ref (Z (8, 10, 0)), .ref (Z (8, 11, 0)), .int (nI (zs_nc X.2.1)), .ref (Z (8, 12, 0)), .ref (Z (8, 13, 0)), .ref (Z (8, 14, 0)), .ref (Z (8, 15, 0))])) := ⟨_, rfl⟩
    have hH : zk_H g z M_19 H := by rw [eM_19]; exact hH
    have hR_19 : zs_R g ((X.1, ((zs_np X.2.1 + 1), zs_nk X.2.1, zs_nl X.2.1, zs_nc X.2.1, zs_ck X.2.1, zs_pn X.2.1, zs_pd X.2.1, zs_pc X.2.1, zs_sh X.2.1, zs_rs X.2.1, zs_lp X.2.1, zs_lk X.2.1, zs_ll X.2.1, zs_ld X.2.1, zs_lc X.2.1, zs_tp X.2.1, zs_tt X.2.1, zs_ta X.2.1, zs_td X.2.1), X.2.2) : zs_X) Z M_19 := by rw [eM_19]; exact zs_Rm_np (X := X) hR (zs_np X.2.1 + 1)
    refine lv_aload_n hx hb dX6_party_22 rfl (lv_at hl 0 rfl) ?_
    refine zk_get (ci := 6) (v := .int (nI ((zs_np X.2.1 + 1)))) (C := RX6) (T := TX6) (N := 20) hx hb hts inw_wsX6_party_6 hown hK hH (hR_19.1 (8, 0, 0) ⟨by decide, rfl⟩) rfl 0 (by decide) (hts (.fieldLink RX6 7 "KegDepositsModel" "parties" "I") (by decide +kernel)) rfl dX6_party_23 ?_
    refine lv_iconst (v := 1) hx hb dX6_party_26 (by decide) ?_
    refine lv_isub hx hb dX6_party_27 ?_
    refine zk_top (v' := .int (nI (zs_np X.2.1))) (by rw [nI_pred]) ?_
    exact zk_zret hx hb hr hlocks (by first | rfl | decide) hH hS (by decide) (by decide) (zs_qyes (by have e : ¬ zs_np X.2.1 = 24 := fun q => h_6 (by rw [q]; rfl); unfold zs_fparty; exact if_pos (by omega)) ⟨_, hR_19⟩) dX6_party_28
  · skip
    refine lv_bipush (v := (-2)) hx hb dX6_party_9 (by decide) ?_
    exact zk_zret hx hb hr hlocks (by first | rfl | decide) hH hS (by decide) (by decide) (zs_qno hR (by have e := (nI_eq (a := zs_np X.2.1) (b := 24) (by omega) (by decide)).mp h_6; unfold zs_fparty; exact if_neg (by omega))) dX6_party_11

theorem inw_wsX6_kind_6 : ∀ w ∈ u_ws RX6 TX6 20, w ∈ wsX6_kind := by decide +kernel
set_option maxHeartbeats 4000000 in
set_option maxRecDepth 100000 in
theorem zc_X6_kind (l : Launch) {g : zk_G} {z : Nat} {M : zk_M} {X : zs_X} {Z : zs_Z} {n : Nat} (hR : zs_R g X Z M) (hI : zs_I X.2.1 n) (hn : n ≤ 512) : Met l yX6_kind wsX6_kind ({ frames := 0, cells := 0, slots := 0, locals := 0 } : Room) (va_Pc [.ref (Z (8, 0, 0))] (zk_U g z M)) (va_Qi (fun r u => r = (zs_fkind X.2.1).1 ∧ zs_Q g X Z (zs_fkind X.2.1).2 u) (zk_B g z) (fun q => z ≤ q)) 0 0 (fun q => z ≤ q) := by
  refine Met.ofW (cc := cX6_kind) (maxL := 1) (ret := (some .int)) (by decide) rfl ?_
  intro P0 e0 s m0 args below meth c0 s₁ B hml hv
  obtain ⟨rfl, hH, hK, hN⟩ := hv
  have hx := B.exec
  have hb := B.bytes
  have hr := B.returns
  have hts := atoms_spec (ws := wsX6_kind) B.pre
  have hown : s.vm.findClass RX6 = some m0.cls := findClass_of_methodNamed B.named
  have hlocks := B.notSynchronized
  have hS : va_S (fun q => z ≤ q) s.heap s.heap [] := va_S.rf
  have hl := lv_entry ([.ref (Z (8, 0, 0))]) (n := 1) (Nat.le_of_ble_eq_true rfl)
  rw [lg_entry_eq]
  generalize (lg_sl ([.ref (Z (8, 0, 0))]) ++ List.replicate (1 - (lg_sl ([.ref (Z (8, 0, 0))])).length) Slot.unset).toArray = ls at hl ⊢
  have hl : lv_has ls 1 [(0, .ref (Z (8, 0, 0)))] := hl
  have hnp : zs_np X.2.1 ≤ 24 := hI.1.2.1
  have hnk : zs_nk X.2.1 ≤ 12 := hI.1.2.2.1
  have hl1 : zs_nl X.2.1 ≤ 512 := Nat.le_trans hI.1.2.2.2.1 hn
  have hl2 : zs_nl X.2.1 ≤ 4100 := by omega
  have hc1 : zs_nc X.2.1 ≤ 512 := Nat.le_trans hI.1.2.2.2.2.1 hn
  have hbb : ∀ i, i < zs_nl X.2.1 → zs_lp X.2.1 i < 2 ^ 31 ∧ zs_lk X.2.1 i < 2 ^ 31 := fun i hi => by
    obtain ⟨a1, a2, -⟩ := hI.2.2.1.1 i hi
    omega
  refine lv_aload_n hx hb dX6_kind_0 rfl (lv_at hl 0 rfl) ?_
  refine zk_get (ci := 6) (v := .int (nI (zs_nk X.2.1))) (C := RX6) (T := TX6) (N := 20) hx hb hts inw_wsX6_kind_6 hown hK hH (hR.1 (8, 0, 0) ⟨by decide, rfl⟩) rfl 1 (by decide) (hts (.fieldLink RX6 60 "KegDepositsModel" "kinds" "I") (by decide +kernel)) rfl dX6_kind_1 ?_
  refine lv_bipush (v := 12) hx hb dX6_kind_4 (by decide) ?_
  refine lv_icmp_ne (tgt := 12) hx hb dX6_kind_6 (by decide) (fun h_6 => ?_) (fun h_6 => ?_)
  · skip
    refine lv_aload_n hx hb dX6_kind_12 rfl (lv_at hl 0 rfl) ?_
    refine lv_dup hx hb dX6_kind_13 rfl ?_
    refine zk_get (ci := 6) (v := .int (nI (zs_nk X.2.1))) (C := RX6) (T := TX6) (N := 20) hx hb hts inw_wsX6_kind_6 hown hK hH (hR.1 (8, 0, 0) ⟨by decide, rfl⟩) rfl 1 (by decide) (hts (.fieldLink RX6 60 "KegDepositsModel" "kinds" "I") (by decide +kernel)) rfl dX6_kind_14 ?_
    refine lv_iconst (v := 1) hx hb dX6_kind_17 (by decide) ?_
    refine lv_iadd hx hb dX6_kind_18 ?_
    refine zk_top (v' := .int (nI (zs_nk X.2.1 + 1))) (by rw [nI_1]) ?_
    refine zk_put (ci := 6) (v := .int (nI (zs_nk X.2.1 + 1))) (C := RX6) (T := TX6) (N := 20) hx hb hts inw_wsX6_kind_6 tyX6 tyX6_ok nmX6 hown hK hH hS (hR.1 (8, 0, 0) ⟨by decide, rfl⟩) rfl 1 (by decide) (hts (.fieldLink RX6 60 "KegDepositsModel" "kinds" "I") (by decide +kernel)) rfl rfl rfl (Nat.le_of_ble_eq_true rfl) dX6_kind_19 (fun H locs hH hS => ?_)
    obtain ⟨M_19, eM_19⟩ : ∃ w_0 : zk_M, w_0 = zk_up M (Z (8, 0, 0)) (.inr (6, [.int (nI (zs_np X.2.1)), .int (nI (zs_nk X.2.1 + 1)), .long (zs_ck X.2.1), .ref (Z (8, 1, 0)), .ref (Z (8, 2, 0)), .ref (Z (8, 3, 0)), .ref (Z (8, 4, 0)), .ref (Z (8, 5, 0)), .ref (Z (8, 6, 0)), .int (nI (zs_nl X.2.1)), .ref (Z (8, 7, 0)), .ref (Z (8, 8, 0)), .ref (Z (8, 9, 0)), .ref (Z (8, 10, 0)), .ref (Z (8, 11, 0)), .int (nI (zs_nc X.2.1)), .ref (Z (8, 12, 0)), .ref (Z (8, 13, 0)), .ref (Z (8, 14, 0)), .ref (Z (8, 15, 0))])) := ⟨_, rfl⟩
    have hH : zk_H g z M_19 H := by rw [eM_19]; exact hH
    have hR_19 : zs_R g ((X.1, (zs_np X.2.1, (zs_nk X.2.1 + 1), zs_nl X.2.1, zs_nc X.2.1, zs_ck X.2.1, zs_pn X.2.1, zs_pd X.2.1, zs_pc X.2.1, zs_sh X.2.1, zs_rs X.2.1, zs_lp X.2.1, zs_lk X.2.1, zs_ll X.2.1, zs_ld X.2.1, zs_lc X.2.1, zs_tp X.2.1, zs_tt X.2.1, zs_ta X.2.1, zs_td X.2.1), X.2.2) : zs_X) Z M_19 := by rw [eM_19]; exact zs_Rm_nk (X := X) hR (zs_nk X.2.1 + 1)
    refine lv_aload_n hx hb dX6_kind_22 rfl (lv_at hl 0 rfl) ?_
    refine zk_get (ci := 6) (v := .int (nI ((zs_nk X.2.1 + 1)))) (C := RX6) (T := TX6) (N := 20) hx hb hts inw_wsX6_kind_6 hown hK hH (hR_19.1 (8, 0, 0) ⟨by decide, rfl⟩) rfl 1 (by decide) (hts (.fieldLink RX6 60 "KegDepositsModel" "kinds" "I") (by decide +kernel)) rfl dX6_kind_23 ?_
    refine lv_iconst (v := 1) hx hb dX6_kind_26 (by decide) ?_
    refine lv_isub hx hb dX6_kind_27 ?_
    refine zk_top (v' := .int (nI (zs_nk X.2.1))) (by rw [nI_pred]) ?_
    exact zk_zret hx hb hr hlocks (by first | rfl | decide) hH hS (by decide) (by decide) (zs_qyes (by have e : ¬ zs_nk X.2.1 = 12 := fun q => h_6 (by rw [q]; rfl); unfold zs_fkind; exact if_pos (by omega)) ⟨_, hR_19⟩) dX6_kind_28
  · skip
    refine lv_bipush (v := (-2)) hx hb dX6_kind_9 (by decide) ?_
    exact zk_zret hx hb hr hlocks (by first | rfl | decide) hH hS (by decide) (by decide) (zs_qno hR (by have e := (nI_eq (a := zs_nk X.2.1) (b := 12) (by omega) (by decide)).mp h_6; unfold zs_fkind; exact if_neg (by omega))) dX6_kind_11

theorem inw_wsX6_price_6 : ∀ w ∈ u_ws RX6 TX6 20, w ∈ wsX6_price := by decide +kernel
set_option maxHeartbeats 4000000 in
set_option maxRecDepth 100000 in
theorem zc_X6_price (l : Launch) {g : zk_G} {z : Nat} {M : zk_M} {X : zs_X} {Z : zs_Z} {n : Nat} (hR : zs_R g X Z M) (hI : zs_I X.2.1 n) (hn : n ≤ 512) (y : Int32) (d c : Int64) : Met l yX6_price wsX6_price ({ frames := 1, cells := 0, slots := 0, locals := 21 } : Room) (va_Pc [.ref (Z (8, 0, 0)), .int y, .long d, .long c] (zk_U g z M)) (va_Qi (fun r u => r = (zs_fprice X.2.1 y d c).1 ∧ zs_Q g X Z (zs_fprice X.2.1 y d c).2 u) (zk_B g z) (fun q => z ≤ q)) 0 0 (fun q => z ≤ q) := by
  refine Met.ofW (cc := cX6_price) (maxL := 8) (ret := (some .boolean)) (by decide) rfl ?_
  intro P0 e0 s m0 args below meth c0 s₁ B hml hv
  obtain ⟨rfl, hH, hK, hN⟩ := hv
  have hx := B.exec
  have hb := B.bytes
  have hr := B.returns
  have hts := atoms_spec (ws := wsX6_price) B.pre
  have hown : s.vm.findClass RX6 = some m0.cls := findClass_of_methodNamed B.named
  have hlocks := B.notSynchronized
  have hS : va_S (fun q => z ≤ q) s.heap s.heap [] := va_S.rf
  have hl := lv_entry ([.ref (Z (8, 0, 0)), .int y, .long d, .long c]) (n := 8) (Nat.le_of_ble_eq_true rfl)
  rw [lg_entry_eq]
  generalize (lg_sl ([.ref (Z (8, 0, 0)), .int y, .long d, .long c]) ++ List.replicate (8 - (lg_sl ([.ref (Z (8, 0, 0)), .int y, .long d, .long c])).length) Slot.unset).toArray = ls at hl ⊢
  have hl : lv_has ls 8 [(0, .ref (Z (8, 0, 0))), (1, .int y), (2, .long d), (4, .long c)] := hl
  have hnp : zs_np X.2.1 ≤ 24 := hI.1.2.1
  have hnk : zs_nk X.2.1 ≤ 12 := hI.1.2.2.1
  have hl1 : zs_nl X.2.1 ≤ 512 := Nat.le_trans hI.1.2.2.2.1 hn
  have hl2 : zs_nl X.2.1 ≤ 4100 := by omega
  have hc1 : zs_nc X.2.1 ≤ 512 := Nat.le_trans hI.1.2.2.2.2.1 hn
  have hbb : ∀ i, i < zs_nl X.2.1 → zs_lp X.2.1 i < 2 ^ 31 ∧ zs_lk X.2.1 i < 2 ^ 31 := fun i hi => by
    obtain ⟨a1, a2, -⟩ := hI.2.2.1.1 i hi
    omega
  refine lv_aload_n hx hb dX6_price_0 rfl (lv_at hl 0 rfl) ?_
  refine lv_iload_n hx hb dX6_price_1 rfl (lv_at hl 1 rfl) ?_
  refine vp_callSi (W.runV (As := [.int y]) (rest := []) ⟨hx, hb, hml, hown, hts⟩ (zc_X6_isKind l hR y) (cwV 1 hts gX6_price_X6_isKind rfl rfl rfl (by decide +kernel) ⟨Nat.le_of_ble_eq_true rfl, Nat.le_of_ble_eq_true rfl⟩) (zk_preV hH hK hN (hR.1 (8, 0, 0) ⟨by decide, rfl⟩) rfl) rfl rfl hl.1 rfl (lv_room (Nat.le_of_ble_eq_true rfl)) dX6_price_2 ⟨(Nat.le_of_ble_eq_true rfl), (Nat.le_of_ble_eq_true rfl)⟩) (fun r_2 hr_2 => ?_)
  refine lv_if_eq (tgt := 31) hx hb dX6_price_5 (by decide) (fun h_5 => ?_) (fun h_5 => ?_)
  · skip
    have hy : zs_ix (zs_nk X.2.1) y = none := zs_i0 hr_2 h_5
    refine lv_iconst (v := 0) hx hb dX6_price_31 (by decide) ?_
    exact zk_zret hx hb hr hlocks (by first | rfl | decide) hH hS (by decide) (by decide) (zs_qno hR (by simp only [zs_fprice, hy])) dX6_price_32
  · skip
    obtain ⟨k, hy⟩ := zs_i1 hr_2 h_5
    obtain ⟨hk, ey⟩ := zs_ix_some (by omega) hy
    subst ey
    refine lv_lload_n hx hb dX6_price_8 rfl (lv_at hl 2 rfl) ?_
    refine vp_callSi (W.runS (As := [.long d]) (rest := []) ⟨hx, hb, hml, hown, hts⟩ (zc_X6_isDay l d) (va_cwS 1 hts gX6_price_X6_isDay rfl rfl rfl (by decide +kernel) ⟨Nat.le_of_ble_eq_true rfl, Nat.le_of_ble_eq_true rfl⟩) (zk_preS hH hK hN) rfl rfl hl.1 rfl (lv_room (Nat.le_of_ble_eq_true rfl)) dX6_price_9 ⟨(Nat.le_of_ble_eq_true rfl), (Nat.le_of_ble_eq_true rfl)⟩) (fun r_9 hr_9 => ?_)
    refine lv_if_eq (tgt := 31) hx hb dX6_price_12 (by decide) (fun h_12 => ?_) (fun h_12 => ?_)
    · skip
      have hd : ¬ zs_isD d := zs_b0 hr_9 h_12
      refine lv_iconst (v := 0) hx hb dX6_price_31 (by decide) ?_
      exact zk_zret hx hb hr hlocks (by first | rfl | decide) hH hS (by decide) (by decide) (zs_qno hR (by simp only [zs_fprice, hy]; exact if_neg (fun q => hd q.1))) dX6_price_32
    · skip
      have hd : zs_isD d := zs_b1 hr_9 h_12
      refine lv_lload hx hb dX6_price_15 (lv_at hl 3 rfl) ?_
      refine lv_lconst (v := 0) hx hb dX6_price_17 (by decide) ?_
      refine zk_lc_lt (tgt := 31) hx hb dX6_price_18 dX6_price_19 (by decide) (fun h_18 => ?_) (fun h_18 => ?_)
      · skip
        refine lv_iconst (v := 0) hx hb dX6_price_31 (by decide) ?_
        exact zk_zret hx hb hr hlocks (by first | rfl | decide) hH hS (by decide) (by decide) (zs_qno hR (by simp only [zs_fprice, hy]; exact if_neg (fun q => absurd h_18 (Int64.not_lt.mpr q.2.1)))) dX6_price_32
      · skip
        refine lv_lload hx hb dX6_price_22 (lv_at hl 3 rfl) ?_
        refine lv_ldc2 (v := 100000) hx hb hown (hts (.constantLong RX6 63 (100000)) (by decide +kernel)) dX6_price_24 ?_
        refine zk_lc_le (tgt := 33) hx hb dX6_price_27 dX6_price_28 (by decide) (fun h_27 => ?_) (fun h_27 => ?_)
        · skip
          have hcc : zs_isD d ∧ 0 ≤ c ∧ c ≤ 100000 := ⟨hd, Int64.not_lt.mp h_18, h_27⟩
          have hpk := hI.2.1.1 k
          refine lv_aload_n hx hb dX6_price_33 rfl (lv_at hl 0 rfl) ?_
          refine zk_get (ci := 6) (v := .ref (Z (8, 3, 0))) (C := RX6) (T := TX6) (N := 20) hx hb hts inw_wsX6_price_6 hown hK hH (hR.1 (8, 0, 0) ⟨by decide, rfl⟩) rfl 5 (by decide) (hts (.fieldLink RX6 20 "KegDepositsModel" "prices" "[I") (by decide +kernel)) rfl dX6_price_34 ?_
          refine lv_iload_n hx hb dX6_price_37 rfl (lv_at hl 1 rfl) ?_
          refine zk_iald hx hb hK hH (hR.1 (8, 3, 0) ⟨by decide, rfl⟩) (vp_in_nI (show k < 12 by omega) (by decide)) dX6_price_38 ?_
          refine zk_top (v' := .int (nI (zs_pn X.2.1 k))) (zk_arr_i (f := fun i => nI (zs_pn X.2.1 i)) (i := k) (by omega)) ?_
          refine lv_istore (lv' := [(6, .int (nI (zs_pn X.2.1 k))), (0, .ref (Z (8, 0, 0))), (1, .int (nI k)), (2, .long d), (4, .long c)]) hx hb dX6_price_39 hl (by decide) rfl (fun ls hl => ?_)
          refine lv_iconst (v := 0) hx hb dX6_price_41 (by decide) ?_
          refine lv_istore (lv' := [(7, .int 0), (6, .int (nI (zs_pn X.2.1 k))), (0, .ref (Z (8, 0, 0))), (1, .int (nI k)), (2, .long d), (4, .long c)]) hx hb dX6_price_42 hl (by decide) rfl (fun ls hl => ?_)
          have loop_44 : ∀ (n i : Nat) (a : Nat) (ls : Array Slot), zs_pn X.2.1 k - i < n → i ≤ zs_pn X.2.1 k → a = zs_at (fun j => zs_pd X.2.1 (20 * k + j)) d (zs_pn X.2.1 k) i →  lv_has ls 8 [(7, .int (nI i)), (6, .int (nI a)), (0, .ref (Z (8, 0, 0))), (1, .int (nI k)), (2, .long d), (4, .long c)] → W P0 l e0 (headSpec wsX6_price ({ frames := 1, cells := 0, slots := 0, locals := 21 } : Room)).room s m0 ([.ref (Z (8, 0, 0)), .int (nI k), .long d, .long c] : List Value).toArray below meth c0 s.heap [] 0 0 (MQ below (va_Qi (fun r u => r = (zs_fprice X.2.1 (nI k) d c).1 ∧ zs_Q g X Z (zs_fprice X.2.1 (nI k) d c).2 u) (zk_B g z) (fun q => z ≤ q)) ([.ref (Z (8, 0, 0)), .int (nI k), .long d, .long c] : List Value).toArray s 0 0 (fun q => z ≤ q)) (F0 m0 44 ls []) := by
            intro n
            induction n with
            | zero => intro i a ls hn hi; omega
            | succ n ih =>
              intro i a ls hn hi ha hl
              refine lv_iload hx hb dX6_price_44 (lv_at hl 0 rfl) ?_
              refine lv_aload_n hx hb dX6_price_46 rfl (lv_at hl 2 rfl) ?_
              refine zk_get (ci := 6) (v := .ref (Z (8, 3, 0))) (C := RX6) (T := TX6) (N := 20) hx hb hts inw_wsX6_price_6 hown hK hH (hR.1 (8, 0, 0) ⟨by decide, rfl⟩) rfl 5 (by decide) (hts (.fieldLink RX6 20 "KegDepositsModel" "prices" "[I") (by decide +kernel)) rfl dX6_price_47 ?_
              refine lv_iload_n hx hb dX6_price_50 rfl (lv_at hl 3 rfl) ?_
              refine zk_iald hx hb hK hH (hR.1 (8, 3, 0) ⟨by decide, rfl⟩) (vp_in_nI (show k < 12 by omega) (by decide)) dX6_price_51 ?_
              refine zk_top (v' := .int (nI (zs_pn X.2.1 k))) (zk_arr_i (f := fun i => nI (zs_pn X.2.1 i)) (i := k) (by omega)) ?_
              refine lv_icmp_ge (tgt := 87) hx hb dX6_price_52 (by decide) (fun h_52 => ?_) (fun h_52 => ?_)
              · skip
                have hiN : i = zs_pn X.2.1 k := by have := (nI_leI (a := zs_pn X.2.1 k) (b := i) (by omega) (by omega)).mp h_52; omega
                rw [hiN] at ha
                have ha20 : a ≤ 20 := by
                  rcases zs_at_lt (q := (fun j => zs_pd X.2.1 (20 * k + j))) (d := d) (b := zs_pn X.2.1 k) (n := zs_pn X.2.1 k) with g | g <;> rw [← ha] at g <;> omega
                refine lv_iload hx hb dX6_price_87 (lv_at hl 1 rfl) ?_
                refine lv_bipush (v := 20) hx hb dX6_price_89 (by decide) ?_
                refine lv_icmp_ne (tgt := 96) hx hb dX6_price_91 (by decide) (fun h_91 => ?_) (fun h_91 => ?_)
                · skip
                  have hlt : a < 20 := by have e : ¬ a = 20 := fun q => h_91 (by rw [q]; rfl); omega
                  refine lv_aload_n hx hb dX6_price_96 rfl (lv_at hl 2 rfl) ?_
                  refine zk_get (ci := 6) (v := .ref (Z (8, 1, 0))) (C := RX6) (T := TX6) (N := 20) hx hb hts inw_wsX6_price_6 hown hK hH (hR.1 (8, 0, 0) ⟨by decide, rfl⟩) rfl 3 (by decide) (hts (.fieldLink RX6 13 "KegDepositsModel" "priceDays" "[J") (by decide +kernel)) rfl dX6_price_97 ?_
                  refine lv_bipush (v := 20) hx hb dX6_price_100 (by decide) ?_
                  refine lv_iload_n hx hb dX6_price_102 rfl (lv_at hl 3 rfl) ?_
                  refine lv_imul hx hb dX6_price_103 ?_
                  refine lv_iload hx hb dX6_price_104 (lv_at hl 1 rfl) ?_
                  refine lv_iadd hx hb dX6_price_106 ?_
                  refine zk_top (v' := .int (nI (20 * k + a))) (by rw [zs_i20]) ?_
                  refine lv_lload_n hx hb dX6_price_107 rfl (lv_at hl 4 rfl) ?_
                  refine zk_last hx hb hK hH hS (hR.1 (8, 1, 0) ⟨by decide, rfl⟩) (vp_in_nI (show 20 * k + a < 240 by omega) (by decide)) dX6_price_108 (fun H locs hH hS => ?_)
                  have hH := zk_H_c (e' := zk_aJ g 240 (vp_updL (zs_pd X.2.1) (20 * k + a) d)) (congrArg (zk_aJ g 240) (show vp_updL (zs_pd X.2.1) (Int32.toNatClampNeg (nI (20 * k + a))) d = (vp_updL (zs_pd X.2.1) (20 * k + a) d) from (zs_updL (by omega)))) hH
                  obtain ⟨M_108, eM_108⟩ : ∃ w_0 : zk_M, w_0 = zk_up M (Z (8, 1, 0)) (zk_aJ g 240 (vp_updL (zs_pd X.2.1) (20 * k + a) d)) := ⟨_, rfl⟩
                  have hH : zk_H g z M_108 H := by rw [eM_108]; exact hH
                  have hR_108 : zs_R g ((X.1, (zs_np X.2.1, zs_nk X.2.1, zs_nl X.2.1, zs_nc X.2.1, zs_ck X.2.1, zs_pn X.2.1, (vp_updL (zs_pd X.2.1) (20 * k + a) d), zs_pc X.2.1, zs_sh X.2.1, zs_rs X.2.1, zs_lp X.2.1, zs_lk X.2.1, zs_ll X.2.1, zs_ld X.2.1, zs_lc X.2.1, zs_tp X.2.1, zs_tt X.2.1, zs_ta X.2.1, zs_td X.2.1), X.2.2) : zs_X) Z M_108 := by rw [eM_108]; exact zs_Rm_pd (X := X) hR (vp_updL (zs_pd X.2.1) (20 * k + a) d)
                  refine lv_aload_n hx hb dX6_price_109 rfl (lv_at hl 2 rfl) ?_
                  refine zk_get (ci := 6) (v := .ref (Z (8, 2, 0))) (C := RX6) (T := TX6) (N := 20) hx hb hts inw_wsX6_price_6 hown hK hH (hR_108.1 (8, 0, 0) ⟨by decide, rfl⟩) rfl 4 (by decide) (hts (.fieldLink RX6 17 "KegDepositsModel" "priceCents" "[J") (by decide +kernel)) rfl dX6_price_110 ?_
                  refine lv_bipush (v := 20) hx hb dX6_price_113 (by decide) ?_
                  refine lv_iload_n hx hb dX6_price_115 rfl (lv_at hl 3 rfl) ?_
                  refine lv_imul hx hb dX6_price_116 ?_
                  refine lv_iload hx hb dX6_price_117 (lv_at hl 1 rfl) ?_
                  refine lv_iadd hx hb dX6_price_119 ?_
                  refine zk_top (v' := .int (nI (20 * k + a))) (by rw [zs_i20]) ?_
                  refine lv_lload hx hb dX6_price_120 (lv_at hl 5 rfl) ?_
                  refine zk_last hx hb hK hH hS (hR_108.1 (8, 2, 0) ⟨by decide, rfl⟩) (vp_in_nI (show 20 * k + a < 240 by omega) (by decide)) dX6_price_122 (fun H locs hH hS => ?_)
                  have hH := zk_H_c (e' := zk_aJ g 240 (vp_updL (zs_pc X.2.1) (20 * k + a) c)) (congrArg (zk_aJ g 240) (show vp_updL (zs_pc X.2.1) (Int32.toNatClampNeg (nI (20 * k + a))) c = (vp_updL (zs_pc X.2.1) (20 * k + a) c) from (zs_updL (by omega)))) hH
                  obtain ⟨M_122, eM_122⟩ : ∃ w_0 : zk_M, w_0 = zk_up M_108 (Z (8, 2, 0)) (zk_aJ g 240 (vp_updL (zs_pc X.2.1) (20 * k + a) c)) := ⟨_, rfl⟩
                  have hH : zk_H g z M_122 H := by rw [eM_122]; exact hH
                  have hR_122 : zs_R g ((X.1, (zs_np X.2.1, zs_nk X.2.1, zs_nl X.2.1, zs_nc X.2.1, zs_ck X.2.1, zs_pn X.2.1, (vp_updL (zs_pd X.2.1) (20 * k + a) d), (vp_updL (zs_pc X.2.1) (20 * k + a) c), zs_sh X.2.1, zs_rs X.2.1, zs_lp X.2.1, zs_lk X.2.1, zs_ll X.2.1, zs_ld X.2.1, zs_lc X.2.1, zs_tp X.2.1, zs_tt X.2.1, zs_ta X.2.1, zs_td X.2.1), X.2.2) : zs_X) Z M_122 := by rw [eM_122]; exact zs_Rm_pc (X := ((X.1, (zs_np X.2.1, zs_nk X.2.1, zs_nl X.2.1, zs_nc X.2.1, zs_ck X.2.1, zs_pn X.2.1, (vp_updL (zs_pd X.2.1) (20 * k + a) d), zs_pc X.2.1, zs_sh X.2.1, zs_rs X.2.1, zs_lp X.2.1, zs_lk X.2.1, zs_ll X.2.1, zs_ld X.2.1, zs_lc X.2.1, zs_tp X.2.1, zs_tt X.2.1, zs_ta X.2.1, zs_td X.2.1), X.2.2) : zs_X)) hR_108 (vp_updL (zs_pc X.2.1) (20 * k + a) c)
                  refine lv_aload_n hx hb dX6_price_123 rfl (lv_at hl 2 rfl) ?_
                  refine zk_get (ci := 6) (v := .ref (Z (8, 3, 0))) (C := RX6) (T := TX6) (N := 20) hx hb hts inw_wsX6_price_6 hown hK hH (hR_122.1 (8, 0, 0) ⟨by decide, rfl⟩) rfl 5 (by decide) (hts (.fieldLink RX6 20 "KegDepositsModel" "prices" "[I") (by decide +kernel)) rfl dX6_price_124 ?_
                  refine lv_iload_n hx hb dX6_price_127 rfl (lv_at hl 3 rfl) ?_
                  refine lv_dup2_11 hx hb dX6_price_128 rfl rfl ?_
                  refine zk_iald hx hb hK hH (hR_122.1 (8, 3, 0) ⟨by decide, rfl⟩) (vp_in_nI (show k < 12 by omega) (by decide)) dX6_price_129 ?_
                  refine zk_top (v' := .int (nI (zs_pn X.2.1 k))) (zk_arr_i (f := fun i => nI (zs_pn X.2.1 i)) (i := k) (by omega)) ?_
                  refine lv_iload hx hb dX6_price_130 (lv_at hl 1 rfl) ?_
                  refine lv_aload_n hx hb dX6_price_132 rfl (lv_at hl 2 rfl) ?_
                  refine zk_get (ci := 6) (v := .ref (Z (8, 3, 0))) (C := RX6) (T := TX6) (N := 20) hx hb hts inw_wsX6_price_6 hown hK hH (hR_122.1 (8, 0, 0) ⟨by decide, rfl⟩) rfl 5 (by decide) (hts (.fieldLink RX6 20 "KegDepositsModel" "prices" "[I") (by decide +kernel)) rfl dX6_price_133 ?_
                  refine lv_iload_n hx hb dX6_price_136 rfl (lv_at hl 3 rfl) ?_
                  refine zk_iald hx hb hK hH (hR_122.1 (8, 3, 0) ⟨by decide, rfl⟩) (vp_in_nI (show k < 12 by omega) (by decide)) dX6_price_137 ?_
                  refine zk_top (v' := .int (nI (zs_pn X.2.1 k))) (zk_arr_i (f := fun i => nI (zs_pn X.2.1 i)) (i := k) (by omega)) ?_
                  refine lv_icmp_ne (tgt := 145) hx hb dX6_price_138 (by decide) (fun h_138 => ?_) (fun h_138 => ?_)
                  · skip
                    refine lv_iconst (v := 0) hx hb dX6_price_145 (by decide) ?_
                    refine lv_iadd hx hb dX6_price_146 ?_
                    refine zk_top (v' := .int (nI (zs_pn X.2.1 k))) (by rw [Int32.add_zero]) ?_
                    refine zk_iast hx hb hK hH hS (hR_122.1 (8, 3, 0) ⟨by decide, rfl⟩) (vp_in_nI (show k < 12 by omega) (by decide)) dX6_price_147 (fun H locs hH hS => ?_)
                    have hH := zk_H_c (e' := zk_aI g 12 (fun i => nI ((va_up (zs_pn X.2.1) k (zs_pn X.2.1 k)) i))) (congrArg (zk_aI g 12) (show upd (fun i => nI ((zs_pn X.2.1) i)) (Int32.toNatClampNeg (nI k)) (nI (zs_pn X.2.1 k)) = (fun i => nI ((va_up (zs_pn X.2.1) k (zs_pn X.2.1 k)) i)) from (zs_updI (by omega)))) hH
                    obtain ⟨M_147, eM_147⟩ : ∃ w_0 : zk_M, w_0 = zk_up M_122 (Z (8, 3, 0)) (zk_aI g 12 (fun i => nI ((va_up (zs_pn X.2.1) k (zs_pn X.2.1 k)) i))) := ⟨_, rfl⟩
                    have hH : zk_H g z M_147 H := by rw [eM_147]; exact hH
                    have hR_147 : zs_R g ((X.1, (zs_np X.2.1, zs_nk X.2.1, zs_nl X.2.1, zs_nc X.2.1, zs_ck X.2.1, (va_up (zs_pn X.2.1) k (zs_pn X.2.1 k)), (vp_updL (zs_pd X.2.1) (20 * k + a) d), (vp_updL (zs_pc X.2.1) (20 * k + a) c), zs_sh X.2.1, zs_rs X.2.1, zs_lp X.2.1, zs_lk X.2.1, zs_ll X.2.1, zs_ld X.2.1, zs_lc X.2.1, zs_tp X.2.1, zs_tt X.2.1, zs_ta X.2.1, zs_td X.2.1), X.2.2) : zs_X) Z M_147 := by rw [eM_147]; exact zs_Rm_pn (X := ((X.1, (zs_np X.2.1, zs_nk X.2.1, zs_nl X.2.1, zs_nc X.2.1, zs_ck X.2.1, zs_pn X.2.1, (vp_updL (zs_pd X.2.1) (20 * k + a) d), (vp_updL (zs_pc X.2.1) (20 * k + a) c), zs_sh X.2.1, zs_rs X.2.1, zs_lp X.2.1, zs_lk X.2.1, zs_ll X.2.1, zs_ld X.2.1, zs_lc X.2.1, zs_tp X.2.1, zs_tt X.2.1, zs_ta X.2.1, zs_td X.2.1), X.2.2) : zs_X)) hR_122 (va_up (zs_pn X.2.1) k (zs_pn X.2.1 k))
                    refine lv_iconst (v := 1) hx hb dX6_price_148 (by decide) ?_
                    exact zk_zret hx hb hr hlocks (by first | rfl | decide) hH hS (by decide) (by decide) (zs_qyes (by simp only [zs_fprice, hy]; rw [if_pos hcc]; exact zs_tell_old ha (fun q => h_138 (by rw [q]))) ⟨_, hR_147⟩) dX6_price_149
                  · skip
                    refine lv_iconst (v := 1) hx hb dX6_price_141 (by decide) ?_
                    refine lv_goto (tgt := 146) hx hb dX6_price_142 (by decide) ?_
                    refine lv_iadd hx hb dX6_price_146 ?_
                    refine zk_top (v' := .int (nI (zs_pn X.2.1 k + 1))) (by rw [nI_1]) ?_
                    refine zk_iast hx hb hK hH hS (hR_122.1 (8, 3, 0) ⟨by decide, rfl⟩) (vp_in_nI (show k < 12 by omega) (by decide)) dX6_price_147 (fun H locs hH hS => ?_)
                    have hH := zk_H_c (e' := zk_aI g 12 (fun i => nI ((va_up (zs_pn X.2.1) k (zs_pn X.2.1 k + 1)) i))) (congrArg (zk_aI g 12) (show upd (fun i => nI ((zs_pn X.2.1) i)) (Int32.toNatClampNeg (nI k)) (nI (zs_pn X.2.1 k + 1)) = (fun i => nI ((va_up (zs_pn X.2.1) k (zs_pn X.2.1 k + 1)) i)) from (zs_updI (by omega)))) hH
                    obtain ⟨M_147, eM_147⟩ : ∃ w_0 : zk_M, w_0 = zk_up M_122 (Z (8, 3, 0)) (zk_aI g 12 (fun i => nI ((va_up (zs_pn X.2.1) k (zs_pn X.2.1 k + 1)) i))) := ⟨_, rfl⟩
                    have hH : zk_H g z M_147 H := by rw [eM_147]; exact hH
                    have hR_147 : zs_R g ((X.1, (zs_np X.2.1, zs_nk X.2.1, zs_nl X.2.1, zs_nc X.2.1, zs_ck X.2.1, (va_up (zs_pn X.2.1) k (zs_pn X.2.1 k + 1)), (vp_updL (zs_pd X.2.1) (20 * k + a) d), (vp_updL (zs_pc X.2.1) (20 * k + a) c), zs_sh X.2.1, zs_rs X.2.1, zs_lp X.2.1, zs_lk X.2.1, zs_ll X.2.1, zs_ld X.2.1, zs_lc X.2.1, zs_tp X.2.1, zs_tt X.2.1, zs_ta X.2.1, zs_td X.2.1), X.2.2) : zs_X) Z M_147 := by rw [eM_147]; exact zs_Rm_pn (X := ((X.1, (zs_np X.2.1, zs_nk X.2.1, zs_nl X.2.1, zs_nc X.2.1, zs_ck X.2.1, zs_pn X.2.1, (vp_updL (zs_pd X.2.1) (20 * k + a) d), (vp_updL (zs_pc X.2.1) (20 * k + a) c), zs_sh X.2.1, zs_rs X.2.1, zs_lp X.2.1, zs_lk X.2.1, zs_ll X.2.1, zs_ld X.2.1, zs_lc X.2.1, zs_tp X.2.1, zs_tt X.2.1, zs_ta X.2.1, zs_td X.2.1), X.2.2) : zs_X)) hR_122 (va_up (zs_pn X.2.1) k (zs_pn X.2.1 k + 1))
                    refine lv_iconst (v := 1) hx hb dX6_price_148 (by decide) ?_
                    exact zk_zret hx hb hr hlocks (by first | rfl | decide) hH hS (by decide) (by decide) (zs_qyes (by simp only [zs_fprice, hy]; rw [if_pos hcc]; exact zs_tell_new ha ((nI_eq (by omega) (by omega)).mp h_138) hlt) ⟨_, hR_147⟩) dX6_price_149
                · skip
                  refine lv_iconst (v := 0) hx hb dX6_price_94 (by decide) ?_
                  exact zk_zret hx hb hr hlocks (by first | rfl | decide) hH hS (by decide) (by decide) (zs_qno hR (by simp only [zs_fprice, hy]; rw [if_pos hcc]; exact zs_tell_full ha hpk ((nI_eq (b := 20) (by omega) (by decide)).mp h_91))) dX6_price_95
              · skip
                have hiN : i < zs_pn X.2.1 k := Nat.lt_of_not_le (fun q => h_52 ((nI_leI (a := zs_pn X.2.1 k) (b := i) (by omega) (by omega)).mpr q))
                refine lv_aload_n hx hb dX6_price_55 rfl (lv_at hl 2 rfl) ?_
                refine zk_get (ci := 6) (v := .ref (Z (8, 1, 0))) (C := RX6) (T := TX6) (N := 20) hx hb hts inw_wsX6_price_6 hown hK hH (hR.1 (8, 0, 0) ⟨by decide, rfl⟩) rfl 3 (by decide) (hts (.fieldLink RX6 13 "KegDepositsModel" "priceDays" "[J") (by decide +kernel)) rfl dX6_price_56 ?_
                refine lv_bipush (v := 20) hx hb dX6_price_59 (by decide) ?_
                refine lv_iload_n hx hb dX6_price_61 rfl (lv_at hl 3 rfl) ?_
                refine lv_imul hx hb dX6_price_62 ?_
                refine lv_iload hx hb dX6_price_63 (lv_at hl 0 rfl) ?_
                refine lv_iadd hx hb dX6_price_65 ?_
                refine zk_top (v' := .int (nI (20 * k + i))) (by rw [zs_i20]) ?_
                refine zk_lald hx hb hK hH (hR.1 (8, 1, 0) ⟨by decide, rfl⟩) (vp_in_nI (show 20 * k + i < 240 by omega) (by decide)) dX6_price_66 ?_
                refine zk_top (v' := .long (zs_pd X.2.1 (20 * k + i))) (zk_arr_l (f := zs_pd X.2.1) (i := 20 * k + i) (by omega)) ?_
                refine lv_lload_n hx hb dX6_price_67 rfl (lv_at hl 4 rfl) ?_
                refine zk_lc_ne (tgt := 77) hx hb dX6_price_68 dX6_price_69 (by decide) (fun h_68 => ?_) (fun h_68 => ?_)
                · skip
                  refine lv_iload hx hb dX6_price_77 (lv_at hl 1 rfl) ?_
                  refine lv_istore (lv' := [(6, .int (nI a)), (7, .int (nI i)), (0, .ref (Z (8, 0, 0))), (1, .int (nI k)), (2, .long d), (4, .long c)]) hx hb dX6_price_79 hl (by decide) rfl (fun ls hl => ?_)
                  refine lv_iinc (v := nI (i + 1)) (lv' := [(7, .int (nI (i + 1))), (6, .int (nI a)), (0, .ref (Z (8, 0, 0))), (1, .int (nI k)), (2, .long d), (4, .long c)]) hx hb dX6_price_81 hl (k := 1) rfl (nI_1 i) (by decide) rfl (fun ls hl => ?_)
                  refine lv_goto (tgt := 44) hx hb dX6_price_84 (by decide) ?_
                  exact ih (i + 1) a ls (by omega) (by omega) (zs_at_mis (q := (fun j => zs_pd X.2.1 (20 * k + j))) ha h_68) (lv_sub hl [0, 1, 2, 3, 4, 5] rfl)
                · skip
                  refine lv_iload hx hb dX6_price_72 (lv_at hl 0 rfl) ?_
                  refine lv_goto (tgt := 79) hx hb dX6_price_74 (by decide) ?_
                  refine lv_istore (lv' := [(6, .int (nI i)), (7, .int (nI i)), (0, .ref (Z (8, 0, 0))), (1, .int (nI k)), (2, .long d), (4, .long c)]) hx hb dX6_price_79 hl (by decide) rfl (fun ls hl => ?_)
                  refine lv_iinc (v := nI (i + 1)) (lv' := [(7, .int (nI (i + 1))), (6, .int (nI i)), (0, .ref (Z (8, 0, 0))), (1, .int (nI k)), (2, .long d), (4, .long c)]) hx hb dX6_price_81 hl (k := 1) rfl (nI_1 i) (by decide) rfl (fun ls hl => ?_)
                  refine lv_goto (tgt := 44) hx hb dX6_price_84 (by decide) ?_
                  exact ih (i + 1) i ls (by omega) (by omega) (zs_at_hit (q := (fun j => zs_pd X.2.1 (20 * k + j))) h_68) (lv_sub hl [0, 1, 2, 3, 4, 5] rfl)
          exact loop_44 (zs_pn X.2.1 k + 1) 0 _ ls (by omega) (Nat.zero_le _) rfl (lv_sub hl [0, 1, 2, 3, 4, 5] rfl)
        · skip
          refine lv_iconst (v := 0) hx hb dX6_price_31 (by decide) ?_
          exact zk_zret hx hb hr hlocks (by first | rfl | decide) hH hS (by decide) (by decide) (zs_qno hR (by simp only [zs_fprice, hy]; exact if_neg (fun q => h_27 q.2.2))) dX6_price_32

theorem inw_wsX6_out_6 : ∀ w ∈ u_ws RX6 TX6 20, w ∈ wsX6_out := by decide +kernel
set_option maxHeartbeats 4000000 in
set_option maxRecDepth 100000 in
theorem zc_X6_out (l : Launch) {g : zk_G} {z : Nat} {M : zk_M} {X : zs_X} {Z : zs_Z} {n : Nat} (hR : zs_R g X Z M) (hI : zs_I X.2.1 n) (hn : n ≤ 512) (hnl : zs_nl X.2.1 < n) (x y : Int32) (num d : Int64) : Met l yX6_out wsX6_out ({ frames := 2, cells := 0, slots := 0, locals := 46 } : Room) (va_Pc [.ref (Z (8, 0, 0)), .int x, .int y, .long num, .long d] (zk_U g z M)) (va_Qi (fun r u => r = (zs_fout X.2.1 x y num d).1 ∧ zs_Q g X Z (zs_fout X.2.1 x y num d).2 u) (zk_B g z) (fun q => z ≤ q)) 0 0 (fun q => z ≤ q) := by
  refine Met.ofW (cc := cX6_out) (maxL := 9) (ret := (some .boolean)) (by decide) rfl ?_
  intro P0 e0 s m0 args below meth c0 s₁ B hml hv
  obtain ⟨rfl, hH, hK, hN⟩ := hv
  have hx := B.exec
  have hb := B.bytes
  have hr := B.returns
  have hts := atoms_spec (ws := wsX6_out) B.pre
  have hown : s.vm.findClass RX6 = some m0.cls := findClass_of_methodNamed B.named
  have hlocks := B.notSynchronized
  have hS : va_S (fun q => z ≤ q) s.heap s.heap [] := va_S.rf
  have hl := lv_entry ([.ref (Z (8, 0, 0)), .int x, .int y, .long num, .long d]) (n := 9) (Nat.le_of_ble_eq_true rfl)
  rw [lg_entry_eq]
  generalize (lg_sl ([.ref (Z (8, 0, 0)), .int x, .int y, .long num, .long d]) ++ List.replicate (9 - (lg_sl ([.ref (Z (8, 0, 0)), .int x, .int y, .long num, .long d])).length) Slot.unset).toArray = ls at hl ⊢
  have hl : lv_has ls 9 [(0, .ref (Z (8, 0, 0))), (1, .int x), (2, .int y), (3, .long num), (5, .long d)] := hl
  have hnp : zs_np X.2.1 ≤ 24 := hI.1.2.1
  have hnk : zs_nk X.2.1 ≤ 12 := hI.1.2.2.1
  have hl1 : zs_nl X.2.1 ≤ 512 := Nat.le_trans hI.1.2.2.2.1 hn
  have hl2 : zs_nl X.2.1 ≤ 4100 := by omega
  have hc1 : zs_nc X.2.1 ≤ 512 := Nat.le_trans hI.1.2.2.2.2.1 hn
  have hbb : ∀ i, i < zs_nl X.2.1 → zs_lp X.2.1 i < 2 ^ 31 ∧ zs_lk X.2.1 i < 2 ^ 31 := fun i hi => by
    obtain ⟨a1, a2, -⟩ := hI.2.2.1.1 i hi
    omega
  refine lv_aload_n hx hb dX6_out_0 rfl (lv_at hl 0 rfl) ?_
  refine lv_iload_n hx hb dX6_out_1 rfl (lv_at hl 1 rfl) ?_
  refine lv_lload_n hx hb dX6_out_2 rfl (lv_at hl 3 rfl) ?_
  refine lv_lload hx hb dX6_out_3 (lv_at hl 4 rfl) ?_
  refine vp_callSi (W.runV (As := [.int x, .long num, .long d]) (rest := []) ⟨hx, hb, hml, hown, hts⟩ (zc_X6_mayCome l hR hnp x num d) (cwV 3 hts gX6_out_X6_mayCome rfl rfl rfl (by decide +kernel) ⟨Nat.le_of_ble_eq_true rfl, Nat.le_of_ble_eq_true rfl⟩) (zk_preV hH hK hN (hR.1 (8, 0, 0) ⟨by decide, rfl⟩) rfl) rfl rfl hl.1 rfl (lv_room (Nat.le_of_ble_eq_true rfl)) dX6_out_5 ⟨(Nat.le_of_ble_eq_true rfl), (Nat.le_of_ble_eq_true rfl)⟩) (fun r_5 hr_5 => ?_)
  refine lv_if_eq (tgt := 19) hx hb dX6_out_8 (by decide) (fun h_8 => ?_) (fun h_8 => ?_)
  · skip
    have hmc : ¬ zs_mc X.2.1 x num d := zs_b0 hr_5 h_8
    refine lv_iconst (v := 0) hx hb dX6_out_19 (by decide) ?_
    exact zk_zret hx hb hr hlocks (by first | rfl | decide) hH hS (by decide) (by decide) (zs_qno hR (zs_fout_no hmc)) dX6_out_20
  · skip
    obtain ⟨hxn, hnum, hd, hck⟩ : zs_mc X.2.1 x num d := zs_b1 hr_5 h_8
    obtain ⟨p, hxp⟩ := Option.ne_none_iff_exists'.mp hxn
    obtain ⟨hp, ex, hp0⟩ := zs_cx_some (by omega) hxp
    subst ex
    refine lv_aload_n hx hb dX6_out_11 rfl (lv_at hl 0 rfl) ?_
    refine lv_iload_n hx hb dX6_out_12 rfl (lv_at hl 2 rfl) ?_
    refine vp_callSi (W.runV (As := [.int y]) (rest := []) ⟨hx, hb, hml, hown, hts⟩ (zc_X6_isKind l hR y) (cwV 1 hts gX6_out_X6_isKind rfl rfl rfl (by decide +kernel) ⟨Nat.le_of_ble_eq_true rfl, Nat.le_of_ble_eq_true rfl⟩) (zk_preV hH hK hN (hR.1 (8, 0, 0) ⟨by decide, rfl⟩) rfl) rfl rfl hl.1 rfl (lv_room (Nat.le_of_ble_eq_true rfl)) dX6_out_13 ⟨(Nat.le_of_ble_eq_true rfl), (Nat.le_of_ble_eq_true rfl)⟩) (fun r_13 hr_13 => ?_)
    refine lv_if_ne (tgt := 21) hx hb dX6_out_16 (by decide) (fun h_16 => ?_) (fun h_16 => ?_)
    · skip
      obtain ⟨k, hy⟩ := zs_i1 hr_13 h_16
      obtain ⟨hk, ey⟩ := zs_ix_some (by omega) hy
      subst ey
      refine lv_iconst (v := 0) hx hb dX6_out_21 (by decide) ?_
      refine lv_istore (lv' := [(7, .int 0), (0, .ref (Z (8, 0, 0))), (1, .int (nI p)), (2, .int (nI k)), (3, .long num), (5, .long d)]) hx hb dX6_out_22 hl (by decide) rfl (fun ls hl => ?_)
      refine lv_iconst (v := 0) hx hb dX6_out_24 (by decide) ?_
      refine lv_istore (lv' := [(8, .int 0), (7, .int 0), (0, .ref (Z (8, 0, 0))), (1, .int (nI p)), (2, .int (nI k)), (3, .long num), (5, .long d)]) hx hb dX6_out_25 hl (by decide) rfl (fun ls hl => ?_)
      have loop_27 : ∀ (n i : Nat) (acc : Int32) (ls : Array Slot), zs_nl X.2.1 - i < n → i ≤ zs_nl X.2.1 → acc = nI (zs_cnt (zs_ll X.2.1) i) →  lv_has ls 9 [(8, .int (nI i)), (7, .int acc), (0, .ref (Z (8, 0, 0))), (1, .int (nI p)), (2, .int (nI k)), (3, .long num), (5, .long d)] → W P0 l e0 (headSpec wsX6_out ({ frames := 2, cells := 0, slots := 0, locals := 46 } : Room)).room s m0 ([.ref (Z (8, 0, 0)), .int (nI p), .int (nI k), .long num, .long d] : List Value).toArray below meth c0 s.heap [] 0 0 (MQ below (va_Qi (fun r u => r = (zs_fout X.2.1 (nI p) (nI k) num d).1 ∧ zs_Q g X Z (zs_fout X.2.1 (nI p) (nI k) num d).2 u) (zk_B g z) (fun q => z ≤ q)) ([.ref (Z (8, 0, 0)), .int (nI p), .int (nI k), .long num, .long d] : List Value).toArray s 0 0 (fun q => z ≤ q)) (F0 m0 27 ls []) := by
        intro n
        induction n with
        | zero => intro i acc ls hn hi; omega
        | succ n ih =>
          intro i acc ls hn hi hacc hl
          refine lv_iload hx hb dX6_out_27 (lv_at hl 0 rfl) ?_
          refine lv_aload_n hx hb dX6_out_29 rfl (lv_at hl 2 rfl) ?_
          refine zk_get (ci := 6) (v := .int (nI (zs_nl X.2.1))) (C := RX6) (T := TX6) (N := 20) hx hb hts inw_wsX6_out_6 hown hK hH (hR.1 (8, 0, 0) ⟨by decide, rfl⟩) rfl 9 (by decide) (hts (.fieldLink RX6 89 "KegDepositsModel" "layers" "I") (by decide +kernel)) rfl dX6_out_30 ?_
          refine lv_icmp_ge (tgt := 64) hx hb dX6_out_33 (by decide) (fun h_33 => ?_) (fun h_33 => ?_)
          · skip
            have hiN : i = zs_nl X.2.1 := by have := (nI_leI (a := zs_nl X.2.1) (b := i) (by omega) (by omega)).mp h_33; omega
            rw [hiN] at hacc
            have h400 := hI.2.2.1.2
            refine lv_iload hx hb dX6_out_64 (lv_at hl 1 rfl) ?_
            refine lv_sipush (v := 400) hx hb dX6_out_66 (by decide) ?_
            refine lv_icmp_ne (tgt := 74) hx hb dX6_out_69 (by decide) (fun h_69 => ?_) (fun h_69 => ?_)
            · skip
              have hcn : zs_cnt (zs_ll X.2.1) (zs_nl X.2.1) < 400 := by have e : ¬ zs_cnt (zs_ll X.2.1) (zs_nl X.2.1) = 400 := fun q => h_69 (by rw [hacc, q]; rfl); omega
              refine lv_aload_n hx hb dX6_out_74 rfl (lv_at hl 2 rfl) ?_
              refine lv_lload hx hb dX6_out_75 (lv_at hl 6 rfl) ?_
              refine zk_put (ci := 6) (v := .long d) (C := RX6) (T := TX6) (N := 20) hx hb hts inw_wsX6_out_6 tyX6 tyX6_ok nmX6 hown hK hH hS (hR.1 (8, 0, 0) ⟨by decide, rfl⟩) rfl 2 (by decide) (hts (.fieldLink RX6 81 "KegDepositsModel" "clock" "J") (by decide +kernel)) rfl rfl rfl (Nat.le_of_ble_eq_true rfl) dX6_out_77 (fun H locs hH hS => ?_)
              obtain ⟨M_77, eM_77⟩ : ∃ w_0 : zk_M, w_0 = zk_up M (Z (8, 0, 0)) (.inr (6, [.int (nI (zs_np X.2.1)), .int (nI (zs_nk X.2.1)), .long d, .ref (Z (8, 1, 0)), .ref (Z (8, 2, 0)), .ref (Z (8, 3, 0)), .ref (Z (8, 4, 0)), .ref (Z (8, 5, 0)), .ref (Z (8, 6, 0)), .int (nI (zs_nl X.2.1)), .ref (Z (8, 7, 0)), .ref (Z (8, 8, 0)), .ref (Z (8, 9, 0)), .ref (Z (8, 10, 0)), .ref (Z (8, 11, 0)), .int (nI (zs_nc X.2.1)), .ref (Z (8, 12, 0)), .ref (Z (8, 13, 0)), .ref (Z (8, 14, 0)), .ref (Z (8, 15, 0))])) := ⟨_, rfl⟩
              have hH : zk_H g z M_77 H := by rw [eM_77]; exact hH
              have hR_77 : zs_R g ((X.1, (zs_np X.2.1, zs_nk X.2.1, zs_nl X.2.1, zs_nc X.2.1, d, zs_pn X.2.1, zs_pd X.2.1, zs_pc X.2.1, zs_sh X.2.1, zs_rs X.2.1, zs_lp X.2.1, zs_lk X.2.1, zs_ll X.2.1, zs_ld X.2.1, zs_lc X.2.1, zs_tp X.2.1, zs_tt X.2.1, zs_ta X.2.1, zs_td X.2.1), X.2.2) : zs_X) Z M_77 := by rw [eM_77]; exact zs_Rm_ck (X := X) hR d
              refine lv_aload_n hx hb dX6_out_80 rfl (lv_at hl 2 rfl) ?_
              refine zk_get (ci := 6) (v := .ref (Z (8, 7, 0))) (C := RX6) (T := TX6) (N := 20) hx hb hts inw_wsX6_out_6 hown hK hH (hR_77.1 (8, 0, 0) ⟨by decide, rfl⟩) rfl 10 (by decide) (hts (.fieldLink RX6 33 "KegDepositsModel" "layerParty" "[I") (by decide +kernel)) rfl dX6_out_81 ?_
              refine lv_aload_n hx hb dX6_out_84 rfl (lv_at hl 2 rfl) ?_
              refine zk_get (ci := 6) (v := .int (nI (zs_nl X.2.1))) (C := RX6) (T := TX6) (N := 20) hx hb hts inw_wsX6_out_6 hown hK hH (hR_77.1 (8, 0, 0) ⟨by decide, rfl⟩) rfl 9 (by decide) (hts (.fieldLink RX6 89 "KegDepositsModel" "layers" "I") (by decide +kernel)) rfl dX6_out_85 ?_
              refine lv_iload_n hx hb dX6_out_88 rfl (lv_at hl 3 rfl) ?_
              refine zk_iast hx hb hK hH hS (hR_77.1 (8, 7, 0) ⟨by decide, rfl⟩) (vp_in_nI (show zs_nl X.2.1 < 4100 by omega) (by decide)) dX6_out_89 (fun H locs hH hS => ?_)
              have hH := zk_H_c (e' := zk_aI g 4100 (fun i => nI ((va_up (zs_lp X.2.1) (zs_nl X.2.1) p) i))) (congrArg (zk_aI g 4100) (show upd (fun i => nI ((zs_lp X.2.1) i)) (Int32.toNatClampNeg (nI (zs_nl X.2.1))) (nI p) = (fun i => nI ((va_up (zs_lp X.2.1) (zs_nl X.2.1) p) i)) from (zs_updI (by omega)))) hH
              obtain ⟨M_89, eM_89⟩ : ∃ w_0 : zk_M, w_0 = zk_up M_77 (Z (8, 7, 0)) (zk_aI g 4100 (fun i => nI ((va_up (zs_lp X.2.1) (zs_nl X.2.1) p) i))) := ⟨_, rfl⟩
              have hH : zk_H g z M_89 H := by rw [eM_89]; exact hH
              have hR_89 : zs_R g ((X.1, (zs_np X.2.1, zs_nk X.2.1, zs_nl X.2.1, zs_nc X.2.1, d, zs_pn X.2.1, zs_pd X.2.1, zs_pc X.2.1, zs_sh X.2.1, zs_rs X.2.1, (va_up (zs_lp X.2.1) (zs_nl X.2.1) p), zs_lk X.2.1, zs_ll X.2.1, zs_ld X.2.1, zs_lc X.2.1, zs_tp X.2.1, zs_tt X.2.1, zs_ta X.2.1, zs_td X.2.1), X.2.2) : zs_X) Z M_89 := by rw [eM_89]; exact zs_Rm_lp (X := ((X.1, (zs_np X.2.1, zs_nk X.2.1, zs_nl X.2.1, zs_nc X.2.1, d, zs_pn X.2.1, zs_pd X.2.1, zs_pc X.2.1, zs_sh X.2.1, zs_rs X.2.1, zs_lp X.2.1, zs_lk X.2.1, zs_ll X.2.1, zs_ld X.2.1, zs_lc X.2.1, zs_tp X.2.1, zs_tt X.2.1, zs_ta X.2.1, zs_td X.2.1), X.2.2) : zs_X)) hR_77 (va_up (zs_lp X.2.1) (zs_nl X.2.1) p)
              refine lv_aload_n hx hb dX6_out_90 rfl (lv_at hl 2 rfl) ?_
              refine zk_get (ci := 6) (v := .ref (Z (8, 8, 0))) (C := RX6) (T := TX6) (N := 20) hx hb hts inw_wsX6_out_6 hown hK hH (hR_89.1 (8, 0, 0) ⟨by decide, rfl⟩) rfl 11 (by decide) (hts (.fieldLink RX6 36 "KegDepositsModel" "layerKind" "[I") (by decide +kernel)) rfl dX6_out_91 ?_
              refine lv_aload_n hx hb dX6_out_94 rfl (lv_at hl 2 rfl) ?_
              refine zk_get (ci := 6) (v := .int (nI (zs_nl X.2.1))) (C := RX6) (T := TX6) (N := 20) hx hb hts inw_wsX6_out_6 hown hK hH (hR_89.1 (8, 0, 0) ⟨by decide, rfl⟩) rfl 9 (by decide) (hts (.fieldLink RX6 89 "KegDepositsModel" "layers" "I") (by decide +kernel)) rfl dX6_out_95 ?_
              refine lv_iload_n hx hb dX6_out_98 rfl (lv_at hl 4 rfl) ?_
              refine zk_iast hx hb hK hH hS (hR_89.1 (8, 8, 0) ⟨by decide, rfl⟩) (vp_in_nI (show zs_nl X.2.1 < 4100 by omega) (by decide)) dX6_out_99 (fun H locs hH hS => ?_)
              have hH := zk_H_c (e' := zk_aI g 4100 (fun i => nI ((va_up (zs_lk X.2.1) (zs_nl X.2.1) k) i))) (congrArg (zk_aI g 4100) (show upd (fun i => nI ((zs_lk X.2.1) i)) (Int32.toNatClampNeg (nI (zs_nl X.2.1))) (nI k) = (fun i => nI ((va_up (zs_lk X.2.1) (zs_nl X.2.1) k) i)) from (zs_updI (by omega)))) hH
              obtain ⟨M_99, eM_99⟩ : ∃ w_0 : zk_M, w_0 = zk_up M_89 (Z (8, 8, 0)) (zk_aI g 4100 (fun i => nI ((va_up (zs_lk X.2.1) (zs_nl X.2.1) k) i))) := ⟨_, rfl⟩
              have hH : zk_H g z M_99 H := by rw [eM_99]; exact hH
              have hR_99 : zs_R g ((X.1, (zs_np X.2.1, zs_nk X.2.1, zs_nl X.2.1, zs_nc X.2.1, d, zs_pn X.2.1, zs_pd X.2.1, zs_pc X.2.1, zs_sh X.2.1, zs_rs X.2.1, (va_up (zs_lp X.2.1) (zs_nl X.2.1) p), (va_up (zs_lk X.2.1) (zs_nl X.2.1) k), zs_ll X.2.1, zs_ld X.2.1, zs_lc X.2.1, zs_tp X.2.1, zs_tt X.2.1, zs_ta X.2.1, zs_td X.2.1), X.2.2) : zs_X) Z M_99 := by rw [eM_99]; exact zs_Rm_lk (X := ((X.1, (zs_np X.2.1, zs_nk X.2.1, zs_nl X.2.1, zs_nc X.2.1, d, zs_pn X.2.1, zs_pd X.2.1, zs_pc X.2.1, zs_sh X.2.1, zs_rs X.2.1, (va_up (zs_lp X.2.1) (zs_nl X.2.1) p), zs_lk X.2.1, zs_ll X.2.1, zs_ld X.2.1, zs_lc X.2.1, zs_tp X.2.1, zs_tt X.2.1, zs_ta X.2.1, zs_td X.2.1), X.2.2) : zs_X)) hR_89 (va_up (zs_lk X.2.1) (zs_nl X.2.1) k)
              refine lv_aload_n hx hb dX6_out_100 rfl (lv_at hl 2 rfl) ?_
              refine zk_get (ci := 6) (v := .ref (Z (8, 9, 0))) (C := RX6) (T := TX6) (N := 20) hx hb hts inw_wsX6_out_6 hown hK hH (hR_99.1 (8, 0, 0) ⟨by decide, rfl⟩) rfl 12 (by decide) (hts (.fieldLink RX6 39 "KegDepositsModel" "layerLeft" "[J") (by decide +kernel)) rfl dX6_out_101 ?_
              refine lv_aload_n hx hb dX6_out_104 rfl (lv_at hl 2 rfl) ?_
              refine zk_get (ci := 6) (v := .int (nI (zs_nl X.2.1))) (C := RX6) (T := TX6) (N := 20) hx hb hts inw_wsX6_out_6 hown hK hH (hR_99.1 (8, 0, 0) ⟨by decide, rfl⟩) rfl 9 (by decide) (hts (.fieldLink RX6 89 "KegDepositsModel" "layers" "I") (by decide +kernel)) rfl dX6_out_105 ?_
              refine lv_lload_n hx hb dX6_out_108 rfl (lv_at hl 5 rfl) ?_
              refine zk_last hx hb hK hH hS (hR_99.1 (8, 9, 0) ⟨by decide, rfl⟩) (vp_in_nI (show zs_nl X.2.1 < 4100 by omega) (by decide)) dX6_out_109 (fun H locs hH hS => ?_)
              have hH := zk_H_c (e' := zk_aJ g 4100 (vp_updL (zs_ll X.2.1) (zs_nl X.2.1) num)) (congrArg (zk_aJ g 4100) (show vp_updL (zs_ll X.2.1) (Int32.toNatClampNeg (nI (zs_nl X.2.1))) num = (vp_updL (zs_ll X.2.1) (zs_nl X.2.1) num) from (zs_updL (by omega)))) hH
              obtain ⟨M_109, eM_109⟩ : ∃ w_0 : zk_M, w_0 = zk_up M_99 (Z (8, 9, 0)) (zk_aJ g 4100 (vp_updL (zs_ll X.2.1) (zs_nl X.2.1) num)) := ⟨_, rfl⟩
              have hH : zk_H g z M_109 H := by rw [eM_109]; exact hH
              have hR_109 : zs_R g ((X.1, (zs_np X.2.1, zs_nk X.2.1, zs_nl X.2.1, zs_nc X.2.1, d, zs_pn X.2.1, zs_pd X.2.1, zs_pc X.2.1, zs_sh X.2.1, zs_rs X.2.1, (va_up (zs_lp X.2.1) (zs_nl X.2.1) p), (va_up (zs_lk X.2.1) (zs_nl X.2.1) k), (vp_updL (zs_ll X.2.1) (zs_nl X.2.1) num), zs_ld X.2.1, zs_lc X.2.1, zs_tp X.2.1, zs_tt X.2.1, zs_ta X.2.1, zs_td X.2.1), X.2.2) : zs_X) Z M_109 := by rw [eM_109]; exact zs_Rm_ll (X := ((X.1, (zs_np X.2.1, zs_nk X.2.1, zs_nl X.2.1, zs_nc X.2.1, d, zs_pn X.2.1, zs_pd X.2.1, zs_pc X.2.1, zs_sh X.2.1, zs_rs X.2.1, (va_up (zs_lp X.2.1) (zs_nl X.2.1) p), (va_up (zs_lk X.2.1) (zs_nl X.2.1) k), zs_ll X.2.1, zs_ld X.2.1, zs_lc X.2.1, zs_tp X.2.1, zs_tt X.2.1, zs_ta X.2.1, zs_td X.2.1), X.2.2) : zs_X)) hR_99 (vp_updL (zs_ll X.2.1) (zs_nl X.2.1) num)
              refine lv_aload_n hx hb dX6_out_110 rfl (lv_at hl 2 rfl) ?_
              refine zk_get (ci := 6) (v := .ref (Z (8, 10, 0))) (C := RX6) (T := TX6) (N := 20) hx hb hts inw_wsX6_out_6 hown hK hH (hR_109.1 (8, 0, 0) ⟨by decide, rfl⟩) rfl 13 (by decide) (hts (.fieldLink RX6 42 "KegDepositsModel" "layerDay" "[J") (by decide +kernel)) rfl dX6_out_111 ?_
              refine lv_aload_n hx hb dX6_out_114 rfl (lv_at hl 2 rfl) ?_
              refine zk_get (ci := 6) (v := .int (nI (zs_nl X.2.1))) (C := RX6) (T := TX6) (N := 20) hx hb hts inw_wsX6_out_6 hown hK hH (hR_109.1 (8, 0, 0) ⟨by decide, rfl⟩) rfl 9 (by decide) (hts (.fieldLink RX6 89 "KegDepositsModel" "layers" "I") (by decide +kernel)) rfl dX6_out_115 ?_
              refine lv_lload hx hb dX6_out_118 (lv_at hl 6 rfl) ?_
              refine zk_last hx hb hK hH hS (hR_109.1 (8, 10, 0) ⟨by decide, rfl⟩) (vp_in_nI (show zs_nl X.2.1 < 4100 by omega) (by decide)) dX6_out_120 (fun H locs hH hS => ?_)
              have hH := zk_H_c (e' := zk_aJ g 4100 (vp_updL (zs_ld X.2.1) (zs_nl X.2.1) d)) (congrArg (zk_aJ g 4100) (show vp_updL (zs_ld X.2.1) (Int32.toNatClampNeg (nI (zs_nl X.2.1))) d = (vp_updL (zs_ld X.2.1) (zs_nl X.2.1) d) from (zs_updL (by omega)))) hH
              obtain ⟨M_120, eM_120⟩ : ∃ w_0 : zk_M, w_0 = zk_up M_109 (Z (8, 10, 0)) (zk_aJ g 4100 (vp_updL (zs_ld X.2.1) (zs_nl X.2.1) d)) := ⟨_, rfl⟩
              have hH : zk_H g z M_120 H := by rw [eM_120]; exact hH
              have hR_120 : zs_R g ((X.1, (zs_np X.2.1, zs_nk X.2.1, zs_nl X.2.1, zs_nc X.2.1, d, zs_pn X.2.1, zs_pd X.2.1, zs_pc X.2.1, zs_sh X.2.1, zs_rs X.2.1, (va_up (zs_lp X.2.1) (zs_nl X.2.1) p), (va_up (zs_lk X.2.1) (zs_nl X.2.1) k), (vp_updL (zs_ll X.2.1) (zs_nl X.2.1) num), (vp_updL (zs_ld X.2.1) (zs_nl X.2.1) d), zs_lc X.2.1, zs_tp X.2.1, zs_tt X.2.1, zs_ta X.2.1, zs_td X.2.1), X.2.2) : zs_X) Z M_120 := by rw [eM_120]; exact zs_Rm_ld (X := ((X.1, (zs_np X.2.1, zs_nk X.2.1, zs_nl X.2.1, zs_nc X.2.1, d, zs_pn X.2.1, zs_pd X.2.1, zs_pc X.2.1, zs_sh X.2.1, zs_rs X.2.1, (va_up (zs_lp X.2.1) (zs_nl X.2.1) p), (va_up (zs_lk X.2.1) (zs_nl X.2.1) k), (vp_updL (zs_ll X.2.1) (zs_nl X.2.1) num), zs_ld X.2.1, zs_lc X.2.1, zs_tp X.2.1, zs_tt X.2.1, zs_ta X.2.1, zs_td X.2.1), X.2.2) : zs_X)) hR_109 (vp_updL (zs_ld X.2.1) (zs_nl X.2.1) d)
              refine lv_aload_n hx hb dX6_out_121 rfl (lv_at hl 2 rfl) ?_
              refine zk_get (ci := 6) (v := .ref (Z (8, 11, 0))) (C := RX6) (T := TX6) (N := 20) hx hb hts inw_wsX6_out_6 hown hK hH (hR_120.1 (8, 0, 0) ⟨by decide, rfl⟩) rfl 14 (by decide) (hts (.fieldLink RX6 45 "KegDepositsModel" "layerPrice" "[J") (by decide +kernel)) rfl dX6_out_122 ?_
              refine lv_aload_n hx hb dX6_out_125 rfl (lv_at hl 2 rfl) ?_
              refine zk_get (ci := 6) (v := .int (nI (zs_nl X.2.1))) (C := RX6) (T := TX6) (N := 20) hx hb hts inw_wsX6_out_6 hown hK hH (hR_120.1 (8, 0, 0) ⟨by decide, rfl⟩) rfl 9 (by decide) (hts (.fieldLink RX6 89 "KegDepositsModel" "layers" "I") (by decide +kernel)) rfl dX6_out_126 ?_
              refine lv_aload_n hx hb dX6_out_129 rfl (lv_at hl 2 rfl) ?_
              refine lv_iload_n hx hb dX6_out_130 rfl (lv_at hl 4 rfl) ?_
              refine lv_lload hx hb dX6_out_131 (lv_at hl 6 rfl) ?_
              refine vp_callSl (W.runV (As := [.int (nI k), .long d]) (rest := [.int (nI (zs_nl X.2.1)), .ref (Z (8, 11, 0))]) ⟨hx, hb, hml, hown, hts⟩ (zc_X6_priceOn l (X := ((X.1, (zs_np X.2.1, zs_nk X.2.1, zs_nl X.2.1, zs_nc X.2.1, d, zs_pn X.2.1, zs_pd X.2.1, zs_pc X.2.1, zs_sh X.2.1, zs_rs X.2.1, (va_up (zs_lp X.2.1) (zs_nl X.2.1) p), (va_up (zs_lk X.2.1) (zs_nl X.2.1) k), (vp_updL (zs_ll X.2.1) (zs_nl X.2.1) num), (vp_updL (zs_ld X.2.1) (zs_nl X.2.1) d), zs_lc X.2.1, zs_tp X.2.1, zs_tt X.2.1, zs_ta X.2.1, zs_td X.2.1), X.2.2) : zs_X)) hR_120 (k := k) (by omega) (hI.2.1.1 k) d) (cwV 2 hts gX6_out_X6_priceOn rfl rfl rfl (by decide +kernel) ⟨Nat.le_of_ble_eq_true rfl, Nat.le_of_ble_eq_true rfl⟩) (zk_preV hH hK hN (hR_120.1 (8, 0, 0) ⟨by decide, rfl⟩) rfl) rfl rfl hl.1 rfl (lv_room (Nat.le_of_ble_eq_true rfl)) dX6_out_133 ⟨(Nat.le_of_ble_eq_true rfl), (Nat.le_of_ble_eq_true rfl)⟩) (fun r_133 hr_133 => ?_)
              have hr_133 : r_133 = zs_pr X.2.1 k d := hr_133
              subst hr_133
              refine zk_last hx hb hK hH hS (hR_120.1 (8, 11, 0) ⟨by decide, rfl⟩) (vp_in_nI (show zs_nl X.2.1 < 4100 by omega) (by decide)) dX6_out_136 (fun H locs hH hS => ?_)
              have hH := zk_H_c (e' := zk_aJ g 4100 (vp_updL (zs_lc X.2.1) (zs_nl X.2.1) (zs_pr X.2.1 k d))) (congrArg (zk_aJ g 4100) (show vp_updL (zs_lc X.2.1) (Int32.toNatClampNeg (nI (zs_nl X.2.1))) (zs_pr X.2.1 k d) = (vp_updL (zs_lc X.2.1) (zs_nl X.2.1) (zs_pr X.2.1 k d)) from (zs_updL (by omega)))) hH
              obtain ⟨M_136, eM_136⟩ : ∃ w_0 : zk_M, w_0 = zk_up M_120 (Z (8, 11, 0)) (zk_aJ g 4100 (vp_updL (zs_lc X.2.1) (zs_nl X.2.1) (zs_pr X.2.1 k d))) := ⟨_, rfl⟩
              have hH : zk_H g z M_136 H := by rw [eM_136]; exact hH
              have hR_136 : zs_R g ((X.1, (zs_np X.2.1, zs_nk X.2.1, zs_nl X.2.1, zs_nc X.2.1, d, zs_pn X.2.1, zs_pd X.2.1, zs_pc X.2.1, zs_sh X.2.1, zs_rs X.2.1, (va_up (zs_lp X.2.1) (zs_nl X.2.1) p), (va_up (zs_lk X.2.1) (zs_nl X.2.1) k), (vp_updL (zs_ll X.2.1) (zs_nl X.2.1) num), (vp_updL (zs_ld X.2.1) (zs_nl X.2.1) d), (vp_updL (zs_lc X.2.1) (zs_nl X.2.1) (zs_pr X.2.1 k d)), zs_tp X.2.1, zs_tt X.2.1, zs_ta X.2.1, zs_td X.2.1), X.2.2) : zs_X) Z M_136 := by rw [eM_136]; exact zs_Rm_lc (X := ((X.1, (zs_np X.2.1, zs_nk X.2.1, zs_nl X.2.1, zs_nc X.2.1, d, zs_pn X.2.1, zs_pd X.2.1, zs_pc X.2.1, zs_sh X.2.1, zs_rs X.2.1, (va_up (zs_lp X.2.1) (zs_nl X.2.1) p), (va_up (zs_lk X.2.1) (zs_nl X.2.1) k), (vp_updL (zs_ll X.2.1) (zs_nl X.2.1) num), (vp_updL (zs_ld X.2.1) (zs_nl X.2.1) d), zs_lc X.2.1, zs_tp X.2.1, zs_tt X.2.1, zs_ta X.2.1, zs_td X.2.1), X.2.2) : zs_X)) hR_120 (vp_updL (zs_lc X.2.1) (zs_nl X.2.1) (zs_pr X.2.1 k d))
              refine lv_aload_n hx hb dX6_out_137 rfl (lv_at hl 2 rfl) ?_
              refine lv_iload_n hx hb dX6_out_138 rfl (lv_at hl 3 rfl) ?_
              refine lv_iconst (v := 0) hx hb dX6_out_139 (by decide) ?_
              refine zk_top (v' := .int (nI 0)) (by rw [nI_0]) ?_
              refine lv_lload_n hx hb dX6_out_140 rfl (lv_at hl 5 rfl) ?_
              refine lv_aload_n hx hb dX6_out_141 rfl (lv_at hl 2 rfl) ?_
              refine zk_get (ci := 6) (v := .ref (Z (8, 11, 0))) (C := RX6) (T := TX6) (N := 20) hx hb hts inw_wsX6_out_6 hown hK hH (hR_136.1 (8, 0, 0) ⟨by decide, rfl⟩) rfl 14 (by decide) (hts (.fieldLink RX6 45 "KegDepositsModel" "layerPrice" "[J") (by decide +kernel)) rfl dX6_out_142 ?_
              refine lv_aload_n hx hb dX6_out_145 rfl (lv_at hl 2 rfl) ?_
              refine zk_get (ci := 6) (v := .int (nI (zs_nl X.2.1))) (C := RX6) (T := TX6) (N := 20) hx hb hts inw_wsX6_out_6 hown hK hH (hR_136.1 (8, 0, 0) ⟨by decide, rfl⟩) rfl 9 (by decide) (hts (.fieldLink RX6 89 "KegDepositsModel" "layers" "I") (by decide +kernel)) rfl dX6_out_146 ?_
              refine zk_lald hx hb hK hH (hR_136.1 (8, 11, 0) ⟨by decide, rfl⟩) (vp_in_nI (show zs_nl X.2.1 < 4100 by omega) (by decide)) dX6_out_149 ?_
              refine zk_top (v' := .long (zs_pr X.2.1 k d)) (by rw [nI_clamp (by omega)]; show Value.long (vp_updL (zs_lc X.2.1) (zs_nl X.2.1) (zs_pr X.2.1 k d) (zs_nl X.2.1)) = _; simp [vp_updL]) ?_
              refine lv_lmul hx hb dX6_out_150 ?_
              refine lv_lload hx hb dX6_out_151 (lv_at hl 6 rfl) ?_
              refine zk_callv (va_runV (As := [.int (nI p), .int (nI 0), .long (num * zs_pr X.2.1 k d), .long d]) (rest := []) ⟨hx, hb, hml, hown, hts⟩ (zc_X6_move l (X := ((X.1, (zs_np X.2.1, zs_nk X.2.1, zs_nl X.2.1, zs_nc X.2.1, d, zs_pn X.2.1, zs_pd X.2.1, zs_pc X.2.1, zs_sh X.2.1, zs_rs X.2.1, (va_up (zs_lp X.2.1) (zs_nl X.2.1) p), (va_up (zs_lk X.2.1) (zs_nl X.2.1) k), (vp_updL (zs_ll X.2.1) (zs_nl X.2.1) num), (vp_updL (zs_ld X.2.1) (zs_nl X.2.1) d), (vp_updL (zs_lc X.2.1) (zs_nl X.2.1) (zs_pr X.2.1 k d)), zs_tp X.2.1, zs_tt X.2.1, zs_ta X.2.1, zs_td X.2.1), X.2.2) : zs_X)) hR_136 (show zs_nc X.2.1 < 4100 by omega) p 0 (num * zs_pr X.2.1 k d) d) (cwV 4 hts gX6_out_X6_move rfl rfl rfl (by decide +kernel) ⟨Nat.le_of_ble_eq_true rfl, Nat.le_of_ble_eq_true rfl⟩) (zk_preV hH hK hN (hR_136.1 (8, 0, 0) ⟨by decide, rfl⟩) rfl) rfl rfl hl.1 rfl (lv_room (Nat.le_of_ble_eq_true rfl)) dX6_out_153 ⟨(Nat.le_of_ble_eq_true rfl), (Nat.le_of_ble_eq_true rfl)⟩) hS (fun u_153 H locs hH hr_153 hS => ?_)
              have hR_153 : zs_R g ((X.1, (zs_np X.2.1, zs_nk X.2.1, zs_nl X.2.1, (zs_nc X.2.1 + 1), d, zs_pn X.2.1, zs_pd X.2.1, zs_pc X.2.1, zs_sh X.2.1, zs_rs X.2.1, (va_up (zs_lp X.2.1) (zs_nl X.2.1) p), (va_up (zs_lk X.2.1) (zs_nl X.2.1) k), (vp_updL (zs_ll X.2.1) (zs_nl X.2.1) num), (vp_updL (zs_ld X.2.1) (zs_nl X.2.1) d), (vp_updL (zs_lc X.2.1) (zs_nl X.2.1) (zs_pr X.2.1 k d)), (va_up (zs_tp X.2.1) (zs_nc X.2.1) p), (va_up (zs_tt X.2.1) (zs_nc X.2.1) 0), (vp_updL (zs_ta X.2.1) (zs_nc X.2.1) (num * zs_pr X.2.1 k d)), (vp_updL (zs_td X.2.1) (zs_nc X.2.1) d)), X.2.2) : zs_X) Z u_153 := hr_153
              refine lv_aload_n hx hb dX6_out_156 rfl (lv_at hl 2 rfl) ?_
              refine lv_dup hx hb dX6_out_157 rfl ?_
              refine zk_get (ci := 6) (v := .int (nI (zs_nl X.2.1))) (C := RX6) (T := TX6) (N := 20) hx hb hts inw_wsX6_out_6 hown hK hH (hR_153.1 (8, 0, 0) ⟨by decide, rfl⟩) rfl 9 (by decide) (hts (.fieldLink RX6 89 "KegDepositsModel" "layers" "I") (by decide +kernel)) rfl dX6_out_158 ?_
              refine lv_iconst (v := 1) hx hb dX6_out_161 (by decide) ?_
              refine lv_iadd hx hb dX6_out_162 ?_
              refine zk_top (v' := .int (nI (zs_nl X.2.1 + 1))) (by rw [nI_1]) ?_
              refine zk_put (ci := 6) (v := .int (nI (zs_nl X.2.1 + 1))) (C := RX6) (T := TX6) (N := 20) hx hb hts inw_wsX6_out_6 tyX6 tyX6_ok nmX6 hown hK hH hS (hR_153.1 (8, 0, 0) ⟨by decide, rfl⟩) rfl 9 (by decide) (hts (.fieldLink RX6 89 "KegDepositsModel" "layers" "I") (by decide +kernel)) rfl rfl rfl (Nat.le_of_ble_eq_true rfl) dX6_out_163 (fun H locs hH hS => ?_)
              obtain ⟨M_163, eM_163⟩ : ∃ w_0 : zk_M, w_0 = zk_up u_153 (Z (8, 0, 0)) (.inr (6, [.int (nI (zs_np X.2.1)), .int (nI (zs_nk X.2.1)), .long d, .ref (Z (8, 1, 0)), .ref (Z (8, 2, 0)), .ref (Z (8, 3, 0)), .ref (Z (8, 4, 0)), .ref (Z (8, 5, 0)), .ref (Z (8, 6, 0)), .int (nI (zs_nl X.2.1 + 1)), .ref (Z (8, 7, 0)), .ref (Z (8, 8, 0)), .ref (Z (8, 9, 0)), .ref (Z (8, 10, 0)), .ref (Z (8, 11, 0)), .int (nI ((zs_nc X.2.1 + 1))), .ref (Z (8, 12, 0)), .ref (Z (8, 13, 0)), .ref (Z (8, 14, 0)), .ref (Z (8, 15, 0))])) := ⟨_, rfl⟩
              have hH : zk_H g z M_163 H := by rw [eM_163]; exact hH
              have hR_163 : zs_R g ((X.1, (zs_np X.2.1, zs_nk X.2.1, (zs_nl X.2.1 + 1), (zs_nc X.2.1 + 1), d, zs_pn X.2.1, zs_pd X.2.1, zs_pc X.2.1, zs_sh X.2.1, zs_rs X.2.1, (va_up (zs_lp X.2.1) (zs_nl X.2.1) p), (va_up (zs_lk X.2.1) (zs_nl X.2.1) k), (vp_updL (zs_ll X.2.1) (zs_nl X.2.1) num), (vp_updL (zs_ld X.2.1) (zs_nl X.2.1) d), (vp_updL (zs_lc X.2.1) (zs_nl X.2.1) (zs_pr X.2.1 k d)), (va_up (zs_tp X.2.1) (zs_nc X.2.1) p), (va_up (zs_tt X.2.1) (zs_nc X.2.1) 0), (vp_updL (zs_ta X.2.1) (zs_nc X.2.1) (num * zs_pr X.2.1 k d)), (vp_updL (zs_td X.2.1) (zs_nc X.2.1) d)), X.2.2) : zs_X) Z M_163 := by rw [eM_163]; exact zs_Rm_nl (X := ((X.1, (zs_np X.2.1, zs_nk X.2.1, zs_nl X.2.1, (zs_nc X.2.1 + 1), d, zs_pn X.2.1, zs_pd X.2.1, zs_pc X.2.1, zs_sh X.2.1, zs_rs X.2.1, (va_up (zs_lp X.2.1) (zs_nl X.2.1) p), (va_up (zs_lk X.2.1) (zs_nl X.2.1) k), (vp_updL (zs_ll X.2.1) (zs_nl X.2.1) num), (vp_updL (zs_ld X.2.1) (zs_nl X.2.1) d), (vp_updL (zs_lc X.2.1) (zs_nl X.2.1) (zs_pr X.2.1 k d)), (va_up (zs_tp X.2.1) (zs_nc X.2.1) p), (va_up (zs_tt X.2.1) (zs_nc X.2.1) 0), (vp_updL (zs_ta X.2.1) (zs_nc X.2.1) (num * zs_pr X.2.1 k d)), (vp_updL (zs_td X.2.1) (zs_nc X.2.1) d)), X.2.2) : zs_X)) hR_153 (zs_nl X.2.1 + 1)
              refine lv_iconst (v := 1) hx hb dX6_out_166 (by decide) ?_
              exact zk_zret hx hb hr hlocks (by first | rfl | decide) hH hS (by decide) (by decide) (zs_qyes (S := zs_mv (zs_lay X.2.1 p k num d (zs_pr X.2.1 k d)) p 0 (num * zs_pr X.2.1 k d) d) (by simp only [zs_fout, hxp, hy]; exact if_pos ⟨hnum, ⟨hd, hck⟩, hcn⟩) ⟨_, hR_163⟩) dX6_out_167
            · skip
              have hcn : ¬ zs_cnt (zs_ll X.2.1) (zs_nl X.2.1) < 400 := by have e := (nI_eq (b := 400) (by omega) (by decide)).mp (hacc.symm.trans h_69); omega
              refine lv_iconst (v := 0) hx hb dX6_out_72 (by decide) ?_
              exact zk_zret hx hb hr hlocks (by first | rfl | decide) hH hS (by decide) (by decide) (zs_qno hR (by simp only [zs_fout, hxp, hy]; exact if_neg (fun q => hcn q.2.2))) dX6_out_73
          · skip
            have hiN : i < zs_nl X.2.1 := Nat.lt_of_not_le (fun q => h_33 ((nI_leI (a := zs_nl X.2.1) (b := i) (by omega) (by omega)).mpr q))
            refine lv_iload hx hb dX6_out_36 (lv_at hl 1 rfl) ?_
            refine lv_aload_n hx hb dX6_out_38 rfl (lv_at hl 2 rfl) ?_
            refine zk_get (ci := 6) (v := .ref (Z (8, 9, 0))) (C := RX6) (T := TX6) (N := 20) hx hb hts inw_wsX6_out_6 hown hK hH (hR.1 (8, 0, 0) ⟨by decide, rfl⟩) rfl 12 (by decide) (hts (.fieldLink RX6 39 "KegDepositsModel" "layerLeft" "[J") (by decide +kernel)) rfl dX6_out_39 ?_
            refine lv_iload hx hb dX6_out_42 (lv_at hl 0 rfl) ?_
            refine zk_lald hx hb hK hH (hR.1 (8, 9, 0) ⟨by decide, rfl⟩) (vp_in_nI (show i < 4100 by omega) (by decide)) dX6_out_44 ?_
            refine zk_top (v' := .long (zs_ll X.2.1 i)) (zk_arr_l (f := zs_ll X.2.1) (i := i) (by omega)) ?_
            refine lv_lconst (v := 0) hx hb dX6_out_45 (by decide) ?_
            refine zk_lc_le (tgt := 54) hx hb dX6_out_46 dX6_out_47 (by decide) (fun h_46 => ?_) (fun h_46 => ?_)
            · skip
              refine lv_iconst (v := 0) hx hb dX6_out_54 (by decide) ?_
              refine lv_iadd hx hb dX6_out_55 ?_
              refine lv_istore (lv' := [(7, .int (acc + 0)), (8, .int (nI i)), (0, .ref (Z (8, 0, 0))), (1, .int (nI p)), (2, .int (nI k)), (3, .long num), (5, .long d)]) hx hb dX6_out_56 hl (by decide) rfl (fun ls hl => ?_)
              refine lv_iinc (v := nI (i + 1)) (lv' := [(8, .int (nI (i + 1))), (7, .int (acc + 0)), (0, .ref (Z (8, 0, 0))), (1, .int (nI p)), (2, .int (nI k)), (3, .long num), (5, .long d)]) hx hb dX6_out_58 hl (k := 1) rfl (nI_1 i) (by decide) rfl (fun ls hl => ?_)
              refine lv_goto (tgt := 27) hx hb dX6_out_61 (by decide) ?_
              exact ih (i + 1) _ ls (by omega) (by omega) (by rw [hacc]; show _ = nI (zs_cnt (zs_ll X.2.1) i + if 0 < zs_ll X.2.1 i then 1 else 0); rw [if_neg (Int64.not_lt.mpr h_46)]; exact Int32.add_zero _) (lv_sub hl [0, 1, 2, 3, 4, 5, 6] rfl)
            · skip
              refine lv_iconst (v := 1) hx hb dX6_out_50 (by decide) ?_
              refine lv_goto (tgt := 55) hx hb dX6_out_51 (by decide) ?_
              refine lv_iadd hx hb dX6_out_55 ?_
              refine lv_istore (lv' := [(7, .int (acc + 1)), (8, .int (nI i)), (0, .ref (Z (8, 0, 0))), (1, .int (nI p)), (2, .int (nI k)), (3, .long num), (5, .long d)]) hx hb dX6_out_56 hl (by decide) rfl (fun ls hl => ?_)
              refine lv_iinc (v := nI (i + 1)) (lv' := [(8, .int (nI (i + 1))), (7, .int (acc + 1)), (0, .ref (Z (8, 0, 0))), (1, .int (nI p)), (2, .int (nI k)), (3, .long num), (5, .long d)]) hx hb dX6_out_58 hl (k := 1) rfl (nI_1 i) (by decide) rfl (fun ls hl => ?_)
              refine lv_goto (tgt := 27) hx hb dX6_out_61 (by decide) ?_
              exact ih (i + 1) _ ls (by omega) (by omega) (by rw [hacc]; show _ = nI (zs_cnt (zs_ll X.2.1) i + if 0 < zs_ll X.2.1 i then 1 else 0); rw [if_pos (Int64.not_le.mp h_46)]; exact nI_1 _) (lv_sub hl [0, 1, 2, 3, 4, 5, 6] rfl)
      exact loop_27 (zs_nl X.2.1 + 1) 0 0 ls (by omega) (Nat.zero_le _) rfl (lv_sub hl [0, 1, 2, 3, 4, 5, 6] rfl)
    · skip
      have hy : zs_ix (zs_nk X.2.1) y = none := zs_i0 hr_13 h_16
      refine lv_iconst (v := 0) hx hb dX6_out_19 (by decide) ?_
      exact zk_zret hx hb hr hlocks (by first | rfl | decide) hH hS (by decide) (by decide) (zs_qno hR (by simp only [zs_fout, hxp, hy])) dX6_out_20

theorem inw_wsX6_back_6 : ∀ w ∈ u_ws RX6 TX6 20, w ∈ wsX6_back := by decide +kernel
set_option maxHeartbeats 4000000 in
set_option maxRecDepth 100000 in
theorem zc_X6_back (l : Launch) {g : zk_G} {z : Nat} {M : zk_M} {X : zs_X} {Z : zs_Z} {n : Nat} (hR : zs_R g X Z M) (hI : zs_I X.2.1 n) (hn : n ≤ 512) (hnc : zs_nc X.2.1 < n) (x y : Int32) (num d : Int64) : Met l yX6_back wsX6_back ({ frames := 2, cells := 0, slots := 0, locals := 46 } : Room) (va_Pc [.ref (Z (8, 0, 0)), .int x, .int y, .long num, .long d] (zk_U g z M)) (va_Qi (fun r u => r = (zs_fback X.2.1 x y num d).1 ∧ zs_Q g X Z (zs_fback X.2.1 x y num d).2 u) (zk_B g z) (fun q => z ≤ q)) 0 0 (fun q => z ≤ q) := by
  refine Met.ofW (cc := cX6_back) (maxL := 7) (ret := (some .boolean)) (by decide) rfl ?_
  intro P0 e0 s m0 args below meth c0 s₁ B hml hv
  obtain ⟨rfl, hH, hK, hN⟩ := hv
  have hx := B.exec
  have hb := B.bytes
  have hr := B.returns
  have hts := atoms_spec (ws := wsX6_back) B.pre
  have hown : s.vm.findClass RX6 = some m0.cls := findClass_of_methodNamed B.named
  have hlocks := B.notSynchronized
  have hS : va_S (fun q => z ≤ q) s.heap s.heap [] := va_S.rf
  have hl := lv_entry ([.ref (Z (8, 0, 0)), .int x, .int y, .long num, .long d]) (n := 7) (Nat.le_of_ble_eq_true rfl)
  rw [lg_entry_eq]
  generalize (lg_sl ([.ref (Z (8, 0, 0)), .int x, .int y, .long num, .long d]) ++ List.replicate (7 - (lg_sl ([.ref (Z (8, 0, 0)), .int x, .int y, .long num, .long d])).length) Slot.unset).toArray = ls at hl ⊢
  have hl : lv_has ls 7 [(0, .ref (Z (8, 0, 0))), (1, .int x), (2, .int y), (3, .long num), (5, .long d)] := hl
  have hnp : zs_np X.2.1 ≤ 24 := hI.1.2.1
  have hnk : zs_nk X.2.1 ≤ 12 := hI.1.2.2.1
  have hl1 : zs_nl X.2.1 ≤ 512 := Nat.le_trans hI.1.2.2.2.1 hn
  have hl2 : zs_nl X.2.1 ≤ 4100 := by omega
  have hc1 : zs_nc X.2.1 ≤ 512 := Nat.le_trans hI.1.2.2.2.2.1 hn
  have hbb : ∀ i, i < zs_nl X.2.1 → zs_lp X.2.1 i < 2 ^ 31 ∧ zs_lk X.2.1 i < 2 ^ 31 := fun i hi => by
    obtain ⟨a1, a2, -⟩ := hI.2.2.1.1 i hi
    omega
  refine lv_aload_n hx hb dX6_back_0 rfl (lv_at hl 0 rfl) ?_
  refine lv_iload_n hx hb dX6_back_1 rfl (lv_at hl 1 rfl) ?_
  refine lv_lload_n hx hb dX6_back_2 rfl (lv_at hl 3 rfl) ?_
  refine lv_lload hx hb dX6_back_3 (lv_at hl 4 rfl) ?_
  refine vp_callSi (W.runV (As := [.int x, .long num, .long d]) (rest := []) ⟨hx, hb, hml, hown, hts⟩ (zc_X6_mayCome l hR hnp x num d) (cwV 3 hts gX6_back_X6_mayCome rfl rfl rfl (by decide +kernel) ⟨Nat.le_of_ble_eq_true rfl, Nat.le_of_ble_eq_true rfl⟩) (zk_preV hH hK hN (hR.1 (8, 0, 0) ⟨by decide, rfl⟩) rfl) rfl rfl hl.1 rfl (lv_room (Nat.le_of_ble_eq_true rfl)) dX6_back_5 ⟨(Nat.le_of_ble_eq_true rfl), (Nat.le_of_ble_eq_true rfl)⟩) (fun r_5 hr_5 => ?_)
  refine lv_if_eq (tgt := 30) hx hb dX6_back_8 (by decide) (fun h_8 => ?_) (fun h_8 => ?_)
  · skip
    have hmc : ¬ zs_mc X.2.1 x num d := zs_b0 hr_5 h_8
    refine lv_iconst (v := 0) hx hb dX6_back_30 (by decide) ?_
    exact zk_zret hx hb hr hlocks (by first | rfl | decide) hH hS (by decide) (by decide) (zs_qno hR (zs_fback_no hmc)) dX6_back_31
  · skip
    obtain ⟨hxn, hnum, hd, hck⟩ : zs_mc X.2.1 x num d := zs_b1 hr_5 h_8
    obtain ⟨p, hxp⟩ := Option.ne_none_iff_exists'.mp hxn
    obtain ⟨hp, ex, hp0⟩ := zs_cx_some (by omega) hxp
    subst ex
    refine lv_aload_n hx hb dX6_back_11 rfl (lv_at hl 0 rfl) ?_
    refine lv_iload_n hx hb dX6_back_12 rfl (lv_at hl 2 rfl) ?_
    refine vp_callSi (W.runV (As := [.int y]) (rest := []) ⟨hx, hb, hml, hown, hts⟩ (zc_X6_isKind l hR y) (cwV 1 hts gX6_back_X6_isKind rfl rfl rfl (by decide +kernel) ⟨Nat.le_of_ble_eq_true rfl, Nat.le_of_ble_eq_true rfl⟩) (zk_preV hH hK hN (hR.1 (8, 0, 0) ⟨by decide, rfl⟩) rfl) rfl rfl hl.1 rfl (lv_room (Nat.le_of_ble_eq_true rfl)) dX6_back_13 ⟨(Nat.le_of_ble_eq_true rfl), (Nat.le_of_ble_eq_true rfl)⟩) (fun r_13 hr_13 => ?_)
    refine lv_if_eq (tgt := 30) hx hb dX6_back_16 (by decide) (fun h_16 => ?_) (fun h_16 => ?_)
    · skip
      have hy : zs_ix (zs_nk X.2.1) y = none := zs_i0 hr_13 h_16
      refine lv_iconst (v := 0) hx hb dX6_back_30 (by decide) ?_
      exact zk_zret hx hb hr hlocks (by first | rfl | decide) hH hS (by decide) (by decide) (zs_qno hR (by simp only [zs_fback, hxp, hy])) dX6_back_31
    · skip
      obtain ⟨k, hy⟩ := zs_i1 hr_13 h_16
      obtain ⟨hk, ey⟩ := zs_ix_some (by omega) hy
      subst ey
      refine lv_aload_n hx hb dX6_back_19 rfl (lv_at hl 0 rfl) ?_
      refine lv_iload_n hx hb dX6_back_20 rfl (lv_at hl 1 rfl) ?_
      refine lv_iload_n hx hb dX6_back_21 rfl (lv_at hl 2 rfl) ?_
      refine vp_callSl (W.runV (As := [.int (nI p), .int (nI k)]) (rest := []) ⟨hx, hb, hml, hown, hts⟩ (zc_X6_has l hR hl2 hbb (p := p) (k := k) (by omega) (by omega)) (cwV 2 hts gX6_back_X6_has rfl rfl rfl (by decide +kernel) ⟨Nat.le_of_ble_eq_true rfl, Nat.le_of_ble_eq_true rfl⟩) (zk_preV hH hK hN (hR.1 (8, 0, 0) ⟨by decide, rfl⟩) rfl) rfl rfl hl.1 rfl (lv_room (Nat.le_of_ble_eq_true rfl)) dX6_back_22 ⟨(Nat.le_of_ble_eq_true rfl), (Nat.le_of_ble_eq_true rfl)⟩) (fun r_22 hr_22 => ?_)
      refine lv_lload_n hx hb dX6_back_25 rfl (lv_at hl 3 rfl) ?_
      refine zk_lc_ge (tgt := 32) hx hb dX6_back_26 dX6_back_27 (by decide) (fun h_26 => ?_) (fun h_26 => ?_)
      · skip
        have hen : num ≤ zs_has X.2.1 p k := by rw [← hr_22]; exact h_26
        refine lv_aload_n hx hb dX6_back_32 rfl (lv_at hl 0 rfl) ?_
        refine lv_lload hx hb dX6_back_33 (lv_at hl 4 rfl) ?_
        refine zk_put (ci := 6) (v := .long d) (C := RX6) (T := TX6) (N := 20) hx hb hts inw_wsX6_back_6 tyX6 tyX6_ok nmX6 hown hK hH hS (hR.1 (8, 0, 0) ⟨by decide, rfl⟩) rfl 2 (by decide) (hts (.fieldLink RX6 81 "KegDepositsModel" "clock" "J") (by decide +kernel)) rfl rfl rfl (Nat.le_of_ble_eq_true rfl) dX6_back_35 (fun H locs hH hS => ?_)
        obtain ⟨M_35, eM_35⟩ : ∃ w_0 : zk_M, w_0 = zk_up M (Z (8, 0, 0)) (.inr (6, [.int (nI (zs_np X.2.1)), .int (nI (zs_nk X.2.1)), .long d, .ref (Z (8, 1, 0)), .ref (Z (8, 2, 0)), .ref (Z (8, 3, 0)), .ref (Z (8, 4, 0)), .ref (Z (8, 5, 0)), .ref (Z (8, 6, 0)), .int (nI (zs_nl X.2.1)), .ref (Z (8, 7, 0)), .ref (Z (8, 8, 0)), .ref (Z (8, 9, 0)), .ref (Z (8, 10, 0)), .ref (Z (8, 11, 0)), .int (nI (zs_nc X.2.1)), .ref (Z (8, 12, 0)), .ref (Z (8, 13, 0)), .ref (Z (8, 14, 0)), .ref (Z (8, 15, 0))])) := ⟨_, rfl⟩
        have hH : zk_H g z M_35 H := by rw [eM_35]; exact hH
        have hR_35 : zs_R g ((X.1, (zs_np X.2.1, zs_nk X.2.1, zs_nl X.2.1, zs_nc X.2.1, d, zs_pn X.2.1, zs_pd X.2.1, zs_pc X.2.1, zs_sh X.2.1, zs_rs X.2.1, zs_lp X.2.1, zs_lk X.2.1, zs_ll X.2.1, zs_ld X.2.1, zs_lc X.2.1, zs_tp X.2.1, zs_tt X.2.1, zs_ta X.2.1, zs_td X.2.1), X.2.2) : zs_X) Z M_35 := by rw [eM_35]; exact zs_Rm_ck (X := X) hR d
        refine lv_aload_n hx hb dX6_back_38 rfl (lv_at hl 0 rfl) ?_
        refine lv_iconst (v := 0) hx hb dX6_back_39 (by decide) ?_
        refine zk_top (v' := .int (nI 0)) (by rw [nI_0]) ?_
        refine lv_iload_n hx hb dX6_back_40 rfl (lv_at hl 1 rfl) ?_
        refine lv_aload_n hx hb dX6_back_41 rfl (lv_at hl 0 rfl) ?_
        refine lv_iload_n hx hb dX6_back_42 rfl (lv_at hl 1 rfl) ?_
        refine lv_iload_n hx hb dX6_back_43 rfl (lv_at hl 2 rfl) ?_
        refine lv_lload_n hx hb dX6_back_44 rfl (lv_at hl 3 rfl) ?_
        refine zk_calll (va_runV (As := [.int (nI p), .int (nI k), .long num]) (rest := [.int (nI p), .int (nI 0), .ref (Z (8, 0, 0))]) ⟨hx, hb, hml, hown, hts⟩ (zc_X6_take l (X := ((X.1, (zs_np X.2.1, zs_nk X.2.1, zs_nl X.2.1, zs_nc X.2.1, d, zs_pn X.2.1, zs_pd X.2.1, zs_pc X.2.1, zs_sh X.2.1, zs_rs X.2.1, zs_lp X.2.1, zs_lk X.2.1, zs_ll X.2.1, zs_ld X.2.1, zs_lc X.2.1, zs_tp X.2.1, zs_tt X.2.1, zs_ta X.2.1, zs_td X.2.1), X.2.2) : zs_X)) hR_35 hl2 hbb (p := p) (k := k) (by omega) (by omega) (num)) (cwV 3 hts gX6_back_X6_take rfl rfl rfl (by decide +kernel) ⟨Nat.le_of_ble_eq_true rfl, Nat.le_of_ble_eq_true rfl⟩) (zk_preV hH hK hN (hR_35.1 (8, 0, 0) ⟨by decide, rfl⟩) rfl) rfl rfl hl.1 rfl (lv_room (Nat.le_of_ble_eq_true rfl)) dX6_back_45 ⟨(Nat.le_of_ble_eq_true rfl), (Nat.le_of_ble_eq_true rfl)⟩) hS (fun r_45 u_45 H locs hH hr_45 hS => ?_)
        obtain ⟨hr_45, hR_45⟩ : r_45 = (zs_take X.2.1 p k num (zs_nl X.2.1)).2.2 ∧ zs_R g ((X.1, (zs_np X.2.1, zs_nk X.2.1, zs_nl X.2.1, zs_nc X.2.1, d, zs_pn X.2.1, zs_pd X.2.1, zs_pc X.2.1, zs_sh X.2.1, zs_rs X.2.1, zs_lp X.2.1, zs_lk X.2.1, (zs_take X.2.1 p k num (zs_nl X.2.1)).1, zs_ld X.2.1, zs_lc X.2.1, zs_tp X.2.1, zs_tt X.2.1, zs_ta X.2.1, zs_td X.2.1), X.2.2) : zs_X) Z u_45 := by
          have e : zs_take (zs_np X.2.1, zs_nk X.2.1, zs_nl X.2.1, zs_nc X.2.1, d, zs_pn X.2.1, zs_pd X.2.1, zs_pc X.2.1, zs_sh X.2.1, zs_rs X.2.1, zs_lp X.2.1, zs_lk X.2.1, zs_ll X.2.1, zs_ld X.2.1, zs_lc X.2.1, zs_tp X.2.1, zs_tt X.2.1, zs_ta X.2.1, zs_td X.2.1) p k (num) (zs_nl X.2.1) = zs_take X.2.1 p k num (zs_nl X.2.1) := zs_take_congr (S := (zs_np X.2.1, zs_nk X.2.1, zs_nl X.2.1, zs_nc X.2.1, d, zs_pn X.2.1, zs_pd X.2.1, zs_pc X.2.1, zs_sh X.2.1, zs_rs X.2.1, zs_lp X.2.1, zs_lk X.2.1, zs_ll X.2.1, zs_ld X.2.1, zs_lc X.2.1, zs_tp X.2.1, zs_tt X.2.1, zs_ta X.2.1, zs_td X.2.1)) (S' := X.2.1) rfl rfl rfl rfl _
          rw [← e]
          exact hr_45
        subst hr_45
        refine lv_lload hx hb dX6_back_48 (lv_at hl 4 rfl) ?_
        refine zk_callv (va_runV (As := [.int (nI 0), .int (nI p), .long ((zs_take X.2.1 p k num (zs_nl X.2.1)).2.2), .long d]) (rest := []) ⟨hx, hb, hml, hown, hts⟩ (zc_X6_move l (X := ((X.1, (zs_np X.2.1, zs_nk X.2.1, zs_nl X.2.1, zs_nc X.2.1, d, zs_pn X.2.1, zs_pd X.2.1, zs_pc X.2.1, zs_sh X.2.1, zs_rs X.2.1, zs_lp X.2.1, zs_lk X.2.1, (zs_take X.2.1 p k num (zs_nl X.2.1)).1, zs_ld X.2.1, zs_lc X.2.1, zs_tp X.2.1, zs_tt X.2.1, zs_ta X.2.1, zs_td X.2.1), X.2.2) : zs_X)) hR_45 (show zs_nc X.2.1 < 4100 by omega) 0 p ((zs_take X.2.1 p k num (zs_nl X.2.1)).2.2) d) (cwV 4 hts gX6_back_X6_move rfl rfl rfl (by decide +kernel) ⟨Nat.le_of_ble_eq_true rfl, Nat.le_of_ble_eq_true rfl⟩) (zk_preV hH hK hN (hR_45.1 (8, 0, 0) ⟨by decide, rfl⟩) rfl) rfl rfl hl.1 rfl (lv_room (Nat.le_of_ble_eq_true rfl)) dX6_back_50 ⟨(Nat.le_of_ble_eq_true rfl), (Nat.le_of_ble_eq_true rfl)⟩) hS (fun u_50 H locs hH hr_50 hS => ?_)
        have hR_50 : zs_R g ((X.1, (zs_np X.2.1, zs_nk X.2.1, zs_nl X.2.1, (zs_nc X.2.1 + 1), d, zs_pn X.2.1, zs_pd X.2.1, zs_pc X.2.1, zs_sh X.2.1, zs_rs X.2.1, zs_lp X.2.1, zs_lk X.2.1, (zs_take X.2.1 p k num (zs_nl X.2.1)).1, zs_ld X.2.1, zs_lc X.2.1, (va_up (zs_tp X.2.1) (zs_nc X.2.1) 0), (va_up (zs_tt X.2.1) (zs_nc X.2.1) p), (vp_updL (zs_ta X.2.1) (zs_nc X.2.1) ((zs_take X.2.1 p k num (zs_nl X.2.1)).2.2)), (vp_updL (zs_td X.2.1) (zs_nc X.2.1) d)), X.2.2) : zs_X) Z u_50 := hr_50
        refine lv_iconst (v := 1) hx hb dX6_back_53 (by decide) ?_
        exact zk_zret hx hb hr hlocks (by first | rfl | decide) hH hS (by decide) (by decide) (zs_qyes (S := zs_mv (zs_ll_ X.2.1 (zs_take X.2.1 p k num (zs_nl X.2.1)).1) 0 p (zs_take X.2.1 p k num (zs_nl X.2.1)).2.2 d) (by simp only [zs_fback, hxp, hy]; exact if_pos ⟨hnum, ⟨hd, hck⟩, hen⟩) ⟨_, hR_50⟩) dX6_back_54
      · skip
        have hen : ¬ num ≤ zs_has X.2.1 p k := by rw [← hr_22]; exact h_26
        refine lv_iconst (v := 0) hx hb dX6_back_30 (by decide) ?_
        exact zk_zret hx hb hr hlocks (by first | rfl | decide) hH hS (by decide) (by decide) (zs_qno hR (by simp only [zs_fback, hxp, hy]; exact if_neg (fun q => hen q.2.2))) dX6_back_31

theorem inw_wsX6_sampled_6 : ∀ w ∈ u_ws RX6 TX6 20, w ∈ wsX6_sampled := by decide +kernel
set_option maxHeartbeats 4000000 in
set_option maxRecDepth 100000 in
theorem zc_X6_sampled (l : Launch) {g : zk_G} {z : Nat} {M : zk_M} {X : zs_X} {Z : zs_Z} {n : Nat} (hR : zs_R g X Z M) (hI : zs_I X.2.1 n) (hn : n ≤ 512) (hnc : zs_nc X.2.1 < n) (x : Int32) (num d : Int64) : Met l yX6_sampled wsX6_sampled ({ frames := 2, cells := 0, slots := 0, locals := 46 } : Room) (va_Pc [.ref (Z (8, 0, 0)), .int x, .long num, .long d] (zk_U g z M)) (va_Qi (fun r u => r = (zs_fsampled X.2.1 x num d).1 ∧ zs_Q g X Z (zs_fsampled X.2.1 x num d).2 u) (zk_B g z) (fun q => z ≤ q)) 0 0 (fun q => z ≤ q) := by
  refine Met.ofW (cc := cX6_sampled) (maxL := 12) (ret := (some .boolean)) (by decide) rfl ?_
  intro P0 e0 s m0 args below meth c0 s₁ B hml hv
  obtain ⟨rfl, hH, hK, hN⟩ := hv
  have hx := B.exec
  have hb := B.bytes
  have hr := B.returns
  have hts := atoms_spec (ws := wsX6_sampled) B.pre
  have hown : s.vm.findClass RX6 = some m0.cls := findClass_of_methodNamed B.named
  have hlocks := B.notSynchronized
  have hS : va_S (fun q => z ≤ q) s.heap s.heap [] := va_S.rf
  have hl := lv_entry ([.ref (Z (8, 0, 0)), .int x, .long num, .long d]) (n := 12) (Nat.le_of_ble_eq_true rfl)
  rw [lg_entry_eq]
  generalize (lg_sl ([.ref (Z (8, 0, 0)), .int x, .long num, .long d]) ++ List.replicate (12 - (lg_sl ([.ref (Z (8, 0, 0)), .int x, .long num, .long d])).length) Slot.unset).toArray = ls at hl ⊢
  have hl : lv_has ls 12 [(0, .ref (Z (8, 0, 0))), (1, .int x), (2, .long num), (4, .long d)] := hl
  have hnp : zs_np X.2.1 ≤ 24 := hI.1.2.1
  have hnk : zs_nk X.2.1 ≤ 12 := hI.1.2.2.1
  have hl1 : zs_nl X.2.1 ≤ 512 := Nat.le_trans hI.1.2.2.2.1 hn
  have hl2 : zs_nl X.2.1 ≤ 4100 := by omega
  have hc1 : zs_nc X.2.1 ≤ 512 := Nat.le_trans hI.1.2.2.2.2.1 hn
  have hbb : ∀ i, i < zs_nl X.2.1 → zs_lp X.2.1 i < 2 ^ 31 ∧ zs_lk X.2.1 i < 2 ^ 31 := fun i hi => by
    obtain ⟨a1, a2, -⟩ := hI.2.2.1.1 i hi
    omega
  refine lv_aload_n hx hb dX6_sampled_0 rfl (lv_at hl 0 rfl) ?_
  refine lv_iload_n hx hb dX6_sampled_1 rfl (lv_at hl 1 rfl) ?_
  refine lv_lload_n hx hb dX6_sampled_2 rfl (lv_at hl 2 rfl) ?_
  refine lv_lload hx hb dX6_sampled_3 (lv_at hl 3 rfl) ?_
  refine vp_callSi (W.runV (As := [.int x, .long num, .long d]) (rest := []) ⟨hx, hb, hml, hown, hts⟩ (zc_X6_mayCome l hR hnp x num d) (cwV 3 hts gX6_sampled_X6_mayCome rfl rfl rfl (by decide +kernel) ⟨Nat.le_of_ble_eq_true rfl, Nat.le_of_ble_eq_true rfl⟩) (zk_preV hH hK hN (hR.1 (8, 0, 0) ⟨by decide, rfl⟩) rfl) rfl rfl hl.1 rfl (lv_room (Nat.le_of_ble_eq_true rfl)) dX6_sampled_5 ⟨(Nat.le_of_ble_eq_true rfl), (Nat.le_of_ble_eq_true rfl)⟩) (fun r_5 hr_5 => ?_)
  refine lv_if_ne (tgt := 13) hx hb dX6_sampled_8 (by decide) (fun h_8 => ?_) (fun h_8 => ?_)
  · skip
    obtain ⟨hxn, hnum, hd, hck⟩ : zs_mc X.2.1 x num d := zs_b1 hr_5 h_8
    obtain ⟨p, hxp⟩ := Option.ne_none_iff_exists'.mp hxn
    obtain ⟨hp, ex, hp0⟩ := zs_cx_some (by omega) hxp
    subst ex
    refine lv_lconst (v := 0) hx hb dX6_sampled_13 (by decide) ?_
    refine lv_lstore (lv' := [(6, .long 0), (0, .ref (Z (8, 0, 0))), (1, .int (nI p)), (2, .long num), (4, .long d)]) hx hb dX6_sampled_14 hl (by decide) rfl (fun ls hl => ?_)
    refine lv_iconst (v := 1) hx hb dX6_sampled_16 (by decide) ?_
    refine lv_istore (lv' := [(8, .int 1), (6, .long 0), (0, .ref (Z (8, 0, 0))), (1, .int (nI p)), (2, .long num), (4, .long d)]) hx hb dX6_sampled_17 hl (by decide) rfl (fun ls hl => ?_)
    refine lv_iconst (v := 0) hx hb dX6_sampled_19 (by decide) ?_
    refine lv_istore (lv' := [(9, .int 0), (8, .int 1), (6, .long 0), (0, .ref (Z (8, 0, 0))), (1, .int (nI p)), (2, .long num), (4, .long d)]) hx hb dX6_sampled_20 hl (by decide) rfl (fun ls hl => ?_)
    have loop_22 : ∀ (n i : Nat) (acc : Int64) (en : Int32) (f : Nat → Int64) (Mx : zk_M) (H : Heap) (locs : List Loc) (ls : Array Slot), zs_nk X.2.1 - i < n → i ≤ zs_nk X.2.1 → acc = zs_sum (zs_sh X.2.1) i → en = (if zs_enough X.2.1 p num i = true then 1 else 0) → (∀ j, j < i → f j = (zs_rs X.2.1 j + num * zs_sh X.2.1 j) / 10000) → zs_R g (X.1, X.2.1, f) Z Mx → zk_H g z Mx H → va_S (fun q => z ≤ q) s.heap H locs →  lv_has ls 12 [(9, .int (nI i)), (6, .long acc), (8, .int en), (0, .ref (Z (8, 0, 0))), (1, .int (nI p)), (2, .long num), (4, .long d)] → W P0 l e0 (headSpec wsX6_sampled ({ frames := 2, cells := 0, slots := 0, locals := 46 } : Room)).room s m0 ([.ref (Z (8, 0, 0)), .int (nI p), .long num, .long d] : List Value).toArray below meth c0 H locs 0 0 (MQ below (va_Qi (fun r u => r = (zs_fsampled X.2.1 (nI p) num d).1 ∧ zs_Q g X Z (zs_fsampled X.2.1 (nI p) num d).2 u) (zk_B g z) (fun q => z ≤ q)) ([.ref (Z (8, 0, 0)), .int (nI p), .long num, .long d] : List Value).toArray s 0 0 (fun q => z ≤ q)) (F0 m0 22 ls []) := by
      intro n
      induction n with
      | zero => intro i acc en f Mx H locs ls hn hi; omega
      | succ n ih =>
        intro i acc en f Mx H locs ls hn hi hacc hen hf hRx hH hS hl
        refine lv_iload hx hb dX6_sampled_22 (lv_at hl 0 rfl) ?_
        refine lv_aload_n hx hb dX6_sampled_24 rfl (lv_at hl 3 rfl) ?_
        refine zk_get (ci := 6) (v := .int (nI (zs_nk X.2.1))) (C := RX6) (T := TX6) (N := 20) hx hb hts inw_wsX6_sampled_6 hown hK hH (hRx.1 (8, 0, 0) ⟨by decide, rfl⟩) rfl 1 (by decide) (hts (.fieldLink RX6 60 "KegDepositsModel" "kinds" "I") (by decide +kernel)) rfl dX6_sampled_25 ?_
        refine lv_icmp_ge (tgt := 107) hx hb dX6_sampled_28 (by decide) (fun h_28 => ?_) (fun h_28 => ?_)
        · skip
          have hiN : i = zs_nk X.2.1 := by have := (nI_leI (a := zs_nk X.2.1) (b := i) (by omega) (by omega)).mp h_28; omega
          rw [hiN] at hacc hen hf
          refine lv_lload hx hb dX6_sampled_107 (lv_at hl 1 rfl) ?_
          refine lv_ldc2 (v := 10000) hx hb hown (hts (.constantLong RX6 108 (10000)) (by decide +kernel)) dX6_sampled_109 ?_
          refine zk_lc_ne (tgt := 121) hx hb dX6_sampled_112 dX6_sampled_113 (by decide) (fun h_112 => ?_) (fun h_112 => ?_)
          · skip
            refine lv_iconst (v := 0) hx hb dX6_sampled_121 (by decide) ?_
            exact zk_zret hx hb hr hlocks (by first | rfl | decide) hH hS (by decide) (by decide) (zs_qyes (S := X.2.1) (by simp only [zs_fsampled, hxp]; exact if_neg (fun q => h_112 (hacc.trans q.2.2.1))) ⟨_, hRx⟩) dX6_sampled_122
          · skip
            refine lv_iload hx hb dX6_sampled_116 (lv_at hl 2 rfl) ?_
            refine lv_if_ne (tgt := 123) hx hb dX6_sampled_118 (by decide) (fun h_118 => ?_) (fun h_118 => ?_)
            · skip
              have hen : zs_enough X.2.1 p num (zs_nk X.2.1) = true := zs_b1 hen h_118
              have hone : zs_sum (zs_sh X.2.1) (zs_nk X.2.1) = 10000 := hacc.symm.trans h_112
              refine lv_aload_n hx hb dX6_sampled_123 rfl (lv_at hl 3 rfl) ?_
              refine lv_lload hx hb dX6_sampled_124 (lv_at hl 6 rfl) ?_
              refine zk_put (ci := 6) (v := .long d) (C := RX6) (T := TX6) (N := 20) hx hb hts inw_wsX6_sampled_6 tyX6 tyX6_ok nmX6 hown hK hH hS (hRx.1 (8, 0, 0) ⟨by decide, rfl⟩) rfl 2 (by decide) (hts (.fieldLink RX6 81 "KegDepositsModel" "clock" "J") (by decide +kernel)) rfl rfl rfl (Nat.le_of_ble_eq_true rfl) dX6_sampled_126 (fun H locs hH hS => ?_)
              obtain ⟨M_126, eM_126⟩ : ∃ w_0 : zk_M, w_0 = zk_up Mx (Z (8, 0, 0)) (.inr (6, [.int (nI (zs_np X.2.1)), .int (nI (zs_nk X.2.1)), .long d, .ref (Z (8, 1, 0)), .ref (Z (8, 2, 0)), .ref (Z (8, 3, 0)), .ref (Z (8, 4, 0)), .ref (Z (8, 5, 0)), .ref (Z (8, 6, 0)), .int (nI (zs_nl X.2.1)), .ref (Z (8, 7, 0)), .ref (Z (8, 8, 0)), .ref (Z (8, 9, 0)), .ref (Z (8, 10, 0)), .ref (Z (8, 11, 0)), .int (nI (zs_nc X.2.1)), .ref (Z (8, 12, 0)), .ref (Z (8, 13, 0)), .ref (Z (8, 14, 0)), .ref (Z (8, 15, 0))])) := ⟨_, rfl⟩
              have hH : zk_H g z M_126 H := by rw [eM_126]; exact hH
              have hR_126 : zs_R g ((X.1, (zs_np X.2.1, zs_nk X.2.1, zs_nl X.2.1, zs_nc X.2.1, d, zs_pn X.2.1, zs_pd X.2.1, zs_pc X.2.1, zs_sh X.2.1, zs_rs X.2.1, zs_lp X.2.1, zs_lk X.2.1, zs_ll X.2.1, zs_ld X.2.1, zs_lc X.2.1, zs_tp X.2.1, zs_tt X.2.1, zs_ta X.2.1, zs_td X.2.1), f) : zs_X) Z M_126 := by rw [eM_126]; exact zs_Rm_ck (X := ((X.1, X.2.1, f) : zs_X)) hRx d
              refine lv_lconst (v := 0) hx hb dX6_sampled_129 (by decide) ?_
              refine lv_lstore (lv' := [(9, .long 0), (6, .long acc), (8, .int en), (0, .ref (Z (8, 0, 0))), (1, .int (nI p)), (2, .long num), (4, .long d)]) hx hb dX6_sampled_130 hl (by decide) rfl (fun ls hl => ?_)
              refine lv_iconst (v := 0) hx hb dX6_sampled_132 (by decide) ?_
              refine lv_istore (lv' := [(11, .int 0), (9, .long 0), (6, .long acc), (8, .int en), (0, .ref (Z (8, 0, 0))), (1, .int (nI p)), (2, .long num), (4, .long d)]) hx hb dX6_sampled_133 hl (by decide) rfl (fun ls hl => ?_)
              have loop_135 : ∀ (n i : Nat) (f2 : Nat → Int64) (h : Nat → Int64) (wo : Int64) (My : zk_M) (H : Heap) (locs : List Loc) (ls : Array Slot), zs_nk X.2.1 - i < n → i ≤ zs_nk X.2.1 → (f2, h, wo) = zs_lot X.2.1 p num i → zs_R g (X.1, (zs_np X.2.1, zs_nk X.2.1, zs_nl X.2.1, zs_nc X.2.1, d, zs_pn X.2.1, zs_pd X.2.1, zs_pc X.2.1, zs_sh X.2.1, h, zs_lp X.2.1, zs_lk X.2.1, f2, zs_ld X.2.1, zs_lc X.2.1, zs_tp X.2.1, zs_tt X.2.1, zs_ta X.2.1, zs_td X.2.1), f) Z My → zk_H g z My H → va_S (fun q => z ≤ q) s.heap H locs →  lv_has ls 12 [(11, .int (nI i)), (9, .long wo), (0, .ref (Z (8, 0, 0))), (1, .int (nI p)), (2, .long num), (4, .long d)] → W P0 l e0 (headSpec wsX6_sampled ({ frames := 2, cells := 0, slots := 0, locals := 46 } : Room)).room s m0 ([.ref (Z (8, 0, 0)), .int (nI p), .long num, .long d] : List Value).toArray below meth c0 H locs 0 0 (MQ below (va_Qi (fun r u => r = (zs_fsampled X.2.1 (nI p) num d).1 ∧ zs_Q g X Z (zs_fsampled X.2.1 (nI p) num d).2 u) (zk_B g z) (fun q => z ≤ q)) ([.ref (Z (8, 0, 0)), .int (nI p), .long num, .long d] : List Value).toArray s 0 0 (fun q => z ≤ q)) (F0 m0 135 ls []) := by
                intro n
                induction n with
                | zero => intro i f2 h wo My H locs ls hn hi; omega
                | succ n ih =>
                  intro i f2 h wo My H locs ls hn hi he hRy hH hS hl
                  have hhi : h i = zs_rs X.2.1 i := by have e := zs_lot_rs (S := X.2.1) (p := p) (n := num) (Nat.le_refl i); rw [← he] at e; exact e
                  refine lv_iload hx hb dX6_sampled_135 (lv_at hl 0 rfl) ?_
                  refine lv_aload_n hx hb dX6_sampled_137 rfl (lv_at hl 2 rfl) ?_
                  refine zk_get (ci := 6) (v := .int (nI (zs_nk X.2.1))) (C := RX6) (T := TX6) (N := 20) hx hb hts inw_wsX6_sampled_6 hown hK hH (hRy.1 (8, 0, 0) ⟨by decide, rfl⟩) rfl 1 (by decide) (hts (.fieldLink RX6 60 "KegDepositsModel" "kinds" "I") (by decide +kernel)) rfl dX6_sampled_138 ?_
                  refine lv_icmp_ge (tgt := 197) hx hb dX6_sampled_141 (by decide) (fun h_141 => ?_) (fun h_141 => ?_)
                  · skip
                    have hiN : i = zs_nk X.2.1 := by have := (nI_leI (a := zs_nk X.2.1) (b := i) (by omega) (by omega)).mp h_141; omega
                    rw [hiN] at he
                    refine lv_aload_n hx hb dX6_sampled_197 rfl (lv_at hl 2 rfl) ?_
                    refine lv_iconst (v := 0) hx hb dX6_sampled_198 (by decide) ?_
                    refine zk_top (v' := .int (nI 0)) (by rw [nI_0]) ?_
                    refine lv_iload_n hx hb dX6_sampled_199 rfl (lv_at hl 3 rfl) ?_
                    refine lv_lload hx hb dX6_sampled_200 (lv_at hl 1 rfl) ?_
                    refine lv_lload hx hb dX6_sampled_202 (lv_at hl 5 rfl) ?_
                    refine zk_callv (va_runV (As := [.int (nI 0), .int (nI p), .long wo, .long d]) (rest := []) ⟨hx, hb, hml, hown, hts⟩ (zc_X6_move l (X := ((X.1, (zs_np X.2.1, zs_nk X.2.1, zs_nl X.2.1, zs_nc X.2.1, d, zs_pn X.2.1, zs_pd X.2.1, zs_pc X.2.1, zs_sh X.2.1, h, zs_lp X.2.1, zs_lk X.2.1, f2, zs_ld X.2.1, zs_lc X.2.1, zs_tp X.2.1, zs_tt X.2.1, zs_ta X.2.1, zs_td X.2.1), f) : zs_X)) hRy (show zs_nc X.2.1 < 4100 by omega) 0 p wo d) (cwV 4 hts gX6_sampled_X6_move rfl rfl rfl (by decide +kernel) ⟨Nat.le_of_ble_eq_true rfl, Nat.le_of_ble_eq_true rfl⟩) (zk_preV hH hK hN (hRy.1 (8, 0, 0) ⟨by decide, rfl⟩) rfl) rfl rfl hl.1 rfl (lv_room (Nat.le_of_ble_eq_true rfl)) dX6_sampled_204 ⟨(Nat.le_of_ble_eq_true rfl), (Nat.le_of_ble_eq_true rfl)⟩) hS (fun u_204 H locs hH hr_204 hS => ?_)
                    have hR_204 : zs_R g ((X.1, (zs_np X.2.1, zs_nk X.2.1, zs_nl X.2.1, (zs_nc X.2.1 + 1), d, zs_pn X.2.1, zs_pd X.2.1, zs_pc X.2.1, zs_sh X.2.1, h, zs_lp X.2.1, zs_lk X.2.1, f2, zs_ld X.2.1, zs_lc X.2.1, (va_up (zs_tp X.2.1) (zs_nc X.2.1) 0), (va_up (zs_tt X.2.1) (zs_nc X.2.1) p), (vp_updL (zs_ta X.2.1) (zs_nc X.2.1) wo), (vp_updL (zs_td X.2.1) (zs_nc X.2.1) d)), f) : zs_X) Z u_204 := hr_204
                    refine lv_iconst (v := 1) hx hb dX6_sampled_207 (by decide) ?_
                    exact zk_zret hx hb hr hlocks (by first | rfl | decide) hH hS (by decide) (by decide) (by
                      have e1 : f2 = (zs_lot X.2.1 p num (zs_nk X.2.1)).1 := by rw [← he]
                      have e2 : h = (zs_lot X.2.1 p num (zs_nk X.2.1)).2.1 := by rw [← he]
                      have e3 : wo = (zs_lot X.2.1 p num (zs_nk X.2.1)).2.2 := by rw [← he]
                      rw [e1, e2, e3] at hR_204
                      exact zs_qyes (S := zs_mv (zs_rs_ (zs_ll_ X.2.1 (zs_lot X.2.1 p num (zs_nk X.2.1)).1) (zs_lot X.2.1 p num (zs_nk X.2.1)).2.1) 0 p (zs_lot X.2.1 p num (zs_nk X.2.1)).2.2 d) (by simp only [zs_fsampled, hxp]; exact if_pos ⟨hnum, ⟨hd, hck⟩, hone, hen⟩) ⟨_, hR_204⟩) dX6_sampled_208
                  · skip
                    have hiN : i < zs_nk X.2.1 := Nat.lt_of_not_le (fun q => h_141 ((nI_leI (a := zs_nk X.2.1) (b := i) (by omega) (by omega)).mpr q))
                    refine lv_aload_n hx hb dX6_sampled_144 rfl (lv_at hl 2 rfl) ?_
                    refine zk_get (ci := 6) (v := .ref (Z (8, 5, 0))) (C := RX6) (T := TX6) (N := 20) hx hb hts inw_wsX6_sampled_6 hown hK hH (hRy.1 (8, 0, 0) ⟨by decide, rfl⟩) rfl 7 (by decide) (hts (.fieldLink RX6 27 "KegDepositsModel" "rests" "[J") (by decide +kernel)) rfl dX6_sampled_145 ?_
                    refine lv_iload hx hb dX6_sampled_148 (lv_at hl 0 rfl) ?_
                    refine lv_aload_n hx hb dX6_sampled_150 rfl (lv_at hl 2 rfl) ?_
                    refine zk_get (ci := 6) (v := .ref (Z (8, 5, 0))) (C := RX6) (T := TX6) (N := 20) hx hb hts inw_wsX6_sampled_6 hown hK hH (hRy.1 (8, 0, 0) ⟨by decide, rfl⟩) rfl 7 (by decide) (hts (.fieldLink RX6 27 "KegDepositsModel" "rests" "[J") (by decide +kernel)) rfl dX6_sampled_151 ?_
                    refine lv_iload hx hb dX6_sampled_154 (lv_at hl 0 rfl) ?_
                    refine zk_lald hx hb hK hH (hRy.1 (8, 5, 0) ⟨by decide, rfl⟩) (vp_in_nI (show i < 12 by omega) (by decide)) dX6_sampled_156 ?_
                    refine zk_top (v' := .long (h i)) (zk_arr_l (f := h) (i := i) (by omega)) ?_
                    refine lv_lload_n hx hb dX6_sampled_157 rfl (lv_at hl 4 rfl) ?_
                    refine lv_aload_n hx hb dX6_sampled_158 rfl (lv_at hl 2 rfl) ?_
                    refine zk_get (ci := 6) (v := .ref (Z (8, 4, 0))) (C := RX6) (T := TX6) (N := 20) hx hb hts inw_wsX6_sampled_6 hown hK hH (hRy.1 (8, 0, 0) ⟨by decide, rfl⟩) rfl 6 (by decide) (hts (.fieldLink RX6 24 "KegDepositsModel" "shares" "[J") (by decide +kernel)) rfl dX6_sampled_159 ?_
                    refine lv_iload hx hb dX6_sampled_162 (lv_at hl 0 rfl) ?_
                    refine zk_lald hx hb hK hH (hRy.1 (8, 4, 0) ⟨by decide, rfl⟩) (vp_in_nI (show i < 12 by omega) (by decide)) dX6_sampled_164 ?_
                    refine zk_top (v' := .long (zs_sh X.2.1 i)) (zk_arr_l (f := zs_sh X.2.1) (i := i) (by omega)) ?_
                    refine lv_lmul hx hb dX6_sampled_165 ?_
                    refine lv_ladd hx hb dX6_sampled_166 ?_
                    refine lv_ldc2 (v := 10000) hx hb hown (hts (.constantLong RX6 108 (10000)) (by decide +kernel)) dX6_sampled_167 ?_
                    refine lv_lrem hx hb dX6_sampled_170 (by decide) ?_
                    refine zk_last hx hb hK hH hS (hRy.1 (8, 5, 0) ⟨by decide, rfl⟩) (vp_in_nI (show i < 12 by omega) (by decide)) dX6_sampled_171 (fun H locs hH hS => ?_)
                    have hH := zk_H_c (e' := zk_aJ g 12 (vp_updL h i (h i + num * zs_sh X.2.1 i - (h i + num * zs_sh X.2.1 i) / 10000 * 10000))) (congrArg (zk_aJ g 12) (show vp_updL h (Int32.toNatClampNeg (nI i)) (h i + num * zs_sh X.2.1 i - (h i + num * zs_sh X.2.1 i) / 10000 * 10000) = (vp_updL h i (h i + num * zs_sh X.2.1 i - (h i + num * zs_sh X.2.1 i) / 10000 * 10000)) from (zs_updL (by omega)))) hH
                    obtain ⟨M_171, eM_171⟩ : ∃ w_0 : zk_M, w_0 = zk_up My (Z (8, 5, 0)) (zk_aJ g 12 (vp_updL h i (h i + num * zs_sh X.2.1 i - (h i + num * zs_sh X.2.1 i) / 10000 * 10000))) := ⟨_, rfl⟩
                    have hH : zk_H g z M_171 H := by rw [eM_171]; exact hH
                    have hR_171 : zs_R g ((X.1, (zs_np X.2.1, zs_nk X.2.1, zs_nl X.2.1, zs_nc X.2.1, d, zs_pn X.2.1, zs_pd X.2.1, zs_pc X.2.1, zs_sh X.2.1, (vp_updL h i (h i + num * zs_sh X.2.1 i - (h i + num * zs_sh X.2.1 i) / 10000 * 10000)), zs_lp X.2.1, zs_lk X.2.1, f2, zs_ld X.2.1, zs_lc X.2.1, zs_tp X.2.1, zs_tt X.2.1, zs_ta X.2.1, zs_td X.2.1), f) : zs_X) Z M_171 := by rw [eM_171]; exact zs_Rm_rs (X := ((X.1, (zs_np X.2.1, zs_nk X.2.1, zs_nl X.2.1, zs_nc X.2.1, d, zs_pn X.2.1, zs_pd X.2.1, zs_pc X.2.1, zs_sh X.2.1, h, zs_lp X.2.1, zs_lk X.2.1, f2, zs_ld X.2.1, zs_lc X.2.1, zs_tp X.2.1, zs_tt X.2.1, zs_ta X.2.1, zs_td X.2.1), f) : zs_X)) hRy (vp_updL h i (h i + num * zs_sh X.2.1 i - (h i + num * zs_sh X.2.1 i) / 10000 * 10000))
                    refine lv_lload hx hb dX6_sampled_172 (lv_at hl 1 rfl) ?_
                    refine lv_aload_n hx hb dX6_sampled_174 rfl (lv_at hl 2 rfl) ?_
                    refine lv_iload_n hx hb dX6_sampled_175 rfl (lv_at hl 3 rfl) ?_
                    refine lv_iload hx hb dX6_sampled_176 (lv_at hl 0 rfl) ?_
                    refine lv_aload_n hx hb dX6_sampled_178 rfl (lv_at hl 2 rfl) ?_
                    refine zk_get (ci := 6) (v := .ref (Z (8, 6, 0))) (C := RX6) (T := TX6) (N := 20) hx hb hts inw_wsX6_sampled_6 hown hK hH (hR_171.1 (8, 0, 0) ⟨by decide, rfl⟩) rfl 8 (by decide) (hts (.fieldLink RX6 30 "KegDepositsModel" "pieces" "[J") (by decide +kernel)) rfl dX6_sampled_179 ?_
                    refine lv_iload hx hb dX6_sampled_182 (lv_at hl 0 rfl) ?_
                    refine zk_lald hx hb hK hH (hR_171.1 (8, 6, 0) ⟨by decide, rfl⟩) (vp_in_nI (show i < 12 by omega) (by decide)) dX6_sampled_184 ?_
                    refine zk_top (v' := .long ((h i + num * zs_sh X.2.1 i) / 10000)) (by rw [nI_clamp (by omega)]; show Value.long (f i) = _; rw [hf i hiN, ← hhi]) ?_
                    refine zk_calll (va_runV (As := [.int (nI p), .int (nI i), .long ((h i + num * zs_sh X.2.1 i) / 10000)]) (rest := [.long wo]) ⟨hx, hb, hml, hown, hts⟩ (zc_X6_take l (X := ((X.1, (zs_np X.2.1, zs_nk X.2.1, zs_nl X.2.1, zs_nc X.2.1, d, zs_pn X.2.1, zs_pd X.2.1, zs_pc X.2.1, zs_sh X.2.1, (vp_updL h i (h i + num * zs_sh X.2.1 i - (h i + num * zs_sh X.2.1 i) / 10000 * 10000)), zs_lp X.2.1, zs_lk X.2.1, f2, zs_ld X.2.1, zs_lc X.2.1, zs_tp X.2.1, zs_tt X.2.1, zs_ta X.2.1, zs_td X.2.1), f) : zs_X)) hR_171 hl2 hbb (p := p) (k := i) (by omega) (by omega) (((h i + num * zs_sh X.2.1 i) / 10000))) (cwV 3 hts gX6_sampled_X6_take rfl rfl rfl (by decide +kernel) ⟨Nat.le_of_ble_eq_true rfl, Nat.le_of_ble_eq_true rfl⟩) (zk_preV hH hK hN (hR_171.1 (8, 0, 0) ⟨by decide, rfl⟩) rfl) rfl rfl hl.1 rfl (lv_room (Nat.le_of_ble_eq_true rfl)) dX6_sampled_185 ⟨(Nat.le_of_ble_eq_true rfl), (Nat.le_of_ble_eq_true rfl)⟩) hS (fun r_185 u_185 H locs hH hr_185 hS => ?_)
                    obtain ⟨hr_185, hR_185⟩ : r_185 = (zs_take (zs_rs_ (zs_ll_ X.2.1 f2) h) p i ((h i + num * zs_sh X.2.1 i) / 10000) (zs_nl X.2.1)).2.2 ∧ zs_R g ((X.1, (zs_np X.2.1, zs_nk X.2.1, zs_nl X.2.1, zs_nc X.2.1, d, zs_pn X.2.1, zs_pd X.2.1, zs_pc X.2.1, zs_sh X.2.1, (vp_updL h i (h i + num * zs_sh X.2.1 i - (h i + num * zs_sh X.2.1 i) / 10000 * 10000)), zs_lp X.2.1, zs_lk X.2.1, (zs_take (zs_rs_ (zs_ll_ X.2.1 f2) h) p i ((h i + num * zs_sh X.2.1 i) / 10000) (zs_nl X.2.1)).1, zs_ld X.2.1, zs_lc X.2.1, zs_tp X.2.1, zs_tt X.2.1, zs_ta X.2.1, zs_td X.2.1), f) : zs_X) Z u_185 := by
                      have e : zs_take (zs_np X.2.1, zs_nk X.2.1, zs_nl X.2.1, zs_nc X.2.1, d, zs_pn X.2.1, zs_pd X.2.1, zs_pc X.2.1, zs_sh X.2.1, (vp_updL h i (h i + num * zs_sh X.2.1 i - (h i + num * zs_sh X.2.1 i) / 10000 * 10000)), zs_lp X.2.1, zs_lk X.2.1, f2, zs_ld X.2.1, zs_lc X.2.1, zs_tp X.2.1, zs_tt X.2.1, zs_ta X.2.1, zs_td X.2.1) p i (((h i + num * zs_sh X.2.1 i) / 10000)) (zs_nl X.2.1) = zs_take (zs_rs_ (zs_ll_ X.2.1 f2) h) p i ((h i + num * zs_sh X.2.1 i) / 10000) (zs_nl X.2.1) := zs_take_congr (S := (zs_np X.2.1, zs_nk X.2.1, zs_nl X.2.1, zs_nc X.2.1, d, zs_pn X.2.1, zs_pd X.2.1, zs_pc X.2.1, zs_sh X.2.1, (vp_updL h i (h i + num * zs_sh X.2.1 i - (h i + num * zs_sh X.2.1 i) / 10000 * 10000)), zs_lp X.2.1, zs_lk X.2.1, f2, zs_ld X.2.1, zs_lc X.2.1, zs_tp X.2.1, zs_tt X.2.1, zs_ta X.2.1, zs_td X.2.1)) (S' := (zs_rs_ (zs_ll_ X.2.1 f2) h)) rfl rfl rfl rfl _
                      rw [← e]
                      exact hr_185
                    subst hr_185
                    refine lv_ladd hx hb dX6_sampled_188 ?_
                    refine lv_lstore (lv' := [(9, .long (wo + (zs_take (zs_rs_ (zs_ll_ X.2.1 f2) h) p i ((h i + num * zs_sh X.2.1 i) / 10000) (zs_nl X.2.1)).2.2)), (11, .int (nI i)), (0, .ref (Z (8, 0, 0))), (1, .int (nI p)), (2, .long num), (4, .long d)]) hx hb dX6_sampled_189 hl (by decide) rfl (fun ls hl => ?_)
                    refine lv_iinc (v := nI (i + 1)) (lv' := [(11, .int (nI (i + 1))), (9, .long (wo + (zs_take (zs_rs_ (zs_ll_ X.2.1 f2) h) p i ((h i + num * zs_sh X.2.1 i) / 10000) (zs_nl X.2.1)).2.2)), (0, .ref (Z (8, 0, 0))), (1, .int (nI p)), (2, .long num), (4, .long d)]) hx hb dX6_sampled_191 hl (k := 1) rfl (nI_1 i) (by decide) rfl (fun ls hl => ?_)
                    refine lv_goto (tgt := 135) hx hb dX6_sampled_194 (by decide) ?_
                    exact ih (i + 1) (zs_take (zs_rs_ (zs_ll_ X.2.1 f2) h) p i ((h i + num * zs_sh X.2.1 i) / 10000) (zs_nl X.2.1)).1 (vp_updL h i (h i + num * zs_sh X.2.1 i - (h i + num * zs_sh X.2.1 i) / 10000 * 10000)) _ _ _ _ ls (by omega) (by omega) (zs_lot_step he) hR_185 hH hS (lv_sub hl [0, 1, 2, 3, 4, 5] rfl)
              exact loop_135 (zs_nk X.2.1 + 1) 0 _ _ _ _ _ _ ls (by omega) (Nat.zero_le _) rfl hR_126 hH hS (lv_sub hl [0, 1, 4, 5, 6, 7] rfl)
            · skip
              have hne : ¬ zs_enough X.2.1 p num (zs_nk X.2.1) = true := zs_b0 hen h_118
              refine lv_iconst (v := 0) hx hb dX6_sampled_121 (by decide) ?_
              exact zk_zret hx hb hr hlocks (by first | rfl | decide) hH hS (by decide) (by decide) (zs_qyes (S := X.2.1) (by simp only [zs_fsampled, hxp]; exact if_neg (fun q => hne q.2.2.2)) ⟨_, hRx⟩) dX6_sampled_122
        · skip
          have hiN : i < zs_nk X.2.1 := Nat.lt_of_not_le (fun q => h_28 ((nI_leI (a := zs_nk X.2.1) (b := i) (by omega) (by omega)).mpr q))
          refine lv_lload hx hb dX6_sampled_31 (lv_at hl 1 rfl) ?_
          refine lv_aload_n hx hb dX6_sampled_33 rfl (lv_at hl 3 rfl) ?_
          refine zk_get (ci := 6) (v := .ref (Z (8, 4, 0))) (C := RX6) (T := TX6) (N := 20) hx hb hts inw_wsX6_sampled_6 hown hK hH (hRx.1 (8, 0, 0) ⟨by decide, rfl⟩) rfl 6 (by decide) (hts (.fieldLink RX6 24 "KegDepositsModel" "shares" "[J") (by decide +kernel)) rfl dX6_sampled_34 ?_
          refine lv_iload hx hb dX6_sampled_37 (lv_at hl 0 rfl) ?_
          refine zk_lald hx hb hK hH (hRx.1 (8, 4, 0) ⟨by decide, rfl⟩) (vp_in_nI (show i < 12 by omega) (by decide)) dX6_sampled_39 ?_
          refine zk_top (v' := .long (zs_sh X.2.1 i)) (zk_arr_l (f := zs_sh X.2.1) (i := i) (by omega)) ?_
          refine lv_ladd hx hb dX6_sampled_40 ?_
          refine lv_lstore (lv' := [(6, .long (acc + zs_sh X.2.1 i)), (9, .int (nI i)), (8, .int en), (0, .ref (Z (8, 0, 0))), (1, .int (nI p)), (2, .long num), (4, .long d)]) hx hb dX6_sampled_41 hl (by decide) rfl (fun ls hl => ?_)
          refine lv_aload_n hx hb dX6_sampled_43 rfl (lv_at hl 3 rfl) ?_
          refine zk_get (ci := 6) (v := .ref (Z (8, 6, 0))) (C := RX6) (T := TX6) (N := 20) hx hb hts inw_wsX6_sampled_6 hown hK hH (hRx.1 (8, 0, 0) ⟨by decide, rfl⟩) rfl 8 (by decide) (hts (.fieldLink RX6 30 "KegDepositsModel" "pieces" "[J") (by decide +kernel)) rfl dX6_sampled_44 ?_
          refine lv_iload hx hb dX6_sampled_47 (lv_at hl 1 rfl) ?_
          refine lv_aload_n hx hb dX6_sampled_49 rfl (lv_at hl 3 rfl) ?_
          refine zk_get (ci := 6) (v := .ref (Z (8, 5, 0))) (C := RX6) (T := TX6) (N := 20) hx hb hts inw_wsX6_sampled_6 hown hK hH (hRx.1 (8, 0, 0) ⟨by decide, rfl⟩) rfl 7 (by decide) (hts (.fieldLink RX6 27 "KegDepositsModel" "rests" "[J") (by decide +kernel)) rfl dX6_sampled_50 ?_
          refine lv_iload hx hb dX6_sampled_53 (lv_at hl 1 rfl) ?_
          refine zk_lald hx hb hK hH (hRx.1 (8, 5, 0) ⟨by decide, rfl⟩) (vp_in_nI (show i < 12 by omega) (by decide)) dX6_sampled_55 ?_
          refine zk_top (v' := .long (zs_rs X.2.1 i)) (zk_arr_l (f := zs_rs X.2.1) (i := i) (by omega)) ?_
          refine lv_lload_n hx hb dX6_sampled_56 rfl (lv_at hl 5 rfl) ?_
          refine lv_aload_n hx hb dX6_sampled_57 rfl (lv_at hl 3 rfl) ?_
          refine zk_get (ci := 6) (v := .ref (Z (8, 4, 0))) (C := RX6) (T := TX6) (N := 20) hx hb hts inw_wsX6_sampled_6 hown hK hH (hRx.1 (8, 0, 0) ⟨by decide, rfl⟩) rfl 6 (by decide) (hts (.fieldLink RX6 24 "KegDepositsModel" "shares" "[J") (by decide +kernel)) rfl dX6_sampled_58 ?_
          refine lv_iload hx hb dX6_sampled_61 (lv_at hl 1 rfl) ?_
          refine zk_lald hx hb hK hH (hRx.1 (8, 4, 0) ⟨by decide, rfl⟩) (vp_in_nI (show i < 12 by omega) (by decide)) dX6_sampled_63 ?_
          refine zk_top (v' := .long (zs_sh X.2.1 i)) (zk_arr_l (f := zs_sh X.2.1) (i := i) (by omega)) ?_
          refine lv_lmul hx hb dX6_sampled_64 ?_
          refine lv_ladd hx hb dX6_sampled_65 ?_
          refine lv_ldc2 (v := 10000) hx hb hown (hts (.constantLong RX6 108 (10000)) (by decide +kernel)) dX6_sampled_66 ?_
          refine lv_ldiv hx hb dX6_sampled_69 (by decide) ?_
          refine zk_last hx hb hK hH hS (hRx.1 (8, 6, 0) ⟨by decide, rfl⟩) (vp_in_nI (show i < 12 by omega) (by decide)) dX6_sampled_70 (fun H locs hH hS => ?_)
          have hH := zk_H_c (e' := zk_aJ g 12 (vp_updL f i ((zs_rs X.2.1 i + num * zs_sh X.2.1 i) / 10000))) (congrArg (zk_aJ g 12) (show vp_updL f (Int32.toNatClampNeg (nI i)) ((zs_rs X.2.1 i + num * zs_sh X.2.1 i) / 10000) = (vp_updL f i ((zs_rs X.2.1 i + num * zs_sh X.2.1 i) / 10000)) from (zs_updL (by omega)))) hH
          obtain ⟨M_70, eM_70⟩ : ∃ w_0 : zk_M, w_0 = zk_up Mx (Z (8, 6, 0)) (zk_aJ g 12 (vp_updL f i ((zs_rs X.2.1 i + num * zs_sh X.2.1 i) / 10000))) := ⟨_, rfl⟩
          have hH : zk_H g z M_70 H := by rw [eM_70]; exact hH
          have hR_70 : zs_R g ((X.1, (zs_np X.2.1, zs_nk X.2.1, zs_nl X.2.1, zs_nc X.2.1, zs_ck X.2.1, zs_pn X.2.1, zs_pd X.2.1, zs_pc X.2.1, zs_sh X.2.1, zs_rs X.2.1, zs_lp X.2.1, zs_lk X.2.1, zs_ll X.2.1, zs_ld X.2.1, zs_lc X.2.1, zs_tp X.2.1, zs_tt X.2.1, zs_ta X.2.1, zs_td X.2.1), (vp_updL f i ((zs_rs X.2.1 i + num * zs_sh X.2.1 i) / 10000))) : zs_X) Z M_70 := by rw [eM_70]; exact zs_Rm_ps (X := ((X.1, X.2.1, f) : zs_X)) hRx (vp_updL f i ((zs_rs X.2.1 i + num * zs_sh X.2.1 i) / 10000))
          refine lv_iload hx hb dX6_sampled_71 (lv_at hl 2 rfl) ?_
          refine lv_if_eq (tgt := 98) hx hb dX6_sampled_73 (by decide) (fun h_73 => ?_) (fun h_73 => ?_)
          · skip
            have hno : ¬ zs_enough X.2.1 p num i = true := zs_b0 hen h_73
            refine lv_iconst (v := 0) hx hb dX6_sampled_98 (by decide) ?_
            refine lv_istore (lv' := [(8, .int 0), (6, .long (acc + zs_sh X.2.1 i)), (9, .int (nI i)), (0, .ref (Z (8, 0, 0))), (1, .int (nI p)), (2, .long num), (4, .long d)]) hx hb dX6_sampled_99 hl (by decide) rfl (fun ls hl => ?_)
            refine lv_iinc (v := nI (i + 1)) (lv' := [(9, .int (nI (i + 1))), (8, .int 0), (6, .long (acc + zs_sh X.2.1 i)), (0, .ref (Z (8, 0, 0))), (1, .int (nI p)), (2, .long num), (4, .long d)]) hx hb dX6_sampled_101 hl (k := 2) rfl (nI_1 i) (by decide) rfl (fun ls hl => ?_)
            refine lv_goto (tgt := 22) hx hb dX6_sampled_104 (by decide) ?_
            exact ih (i + 1) _ _ (vp_updL f i ((zs_rs X.2.1 i + num * zs_sh X.2.1 i) / 10000)) _ _ _ ls (by omega) (by omega) (by rw [hacc]; rfl) (by rw [if_neg (by simp [zs_enough, hno])]) (fun j hj => by
              by_cases q : j = i
              · subst q; simp [vp_updL]
              · simp only [vp_updL, q, if_false]; exact hf j (by omega)) hR_70 hH hS (lv_sub hl [0, 2, 1, 3, 4, 5, 6] rfl)
          · skip
            have hyes : zs_enough X.2.1 p num i = true := zs_b1 hen h_73
            refine lv_aload_n hx hb dX6_sampled_76 rfl (lv_at hl 3 rfl) ?_
            refine lv_iload_n hx hb dX6_sampled_77 rfl (lv_at hl 4 rfl) ?_
            refine lv_iload hx hb dX6_sampled_78 (lv_at hl 1 rfl) ?_
            refine vp_callSl (W.runV (As := [.int (nI p), .int (nI i)]) (rest := []) ⟨hx, hb, hml, hown, hts⟩ (zc_X6_has l (X := ((X.1, (zs_np X.2.1, zs_nk X.2.1, zs_nl X.2.1, zs_nc X.2.1, zs_ck X.2.1, zs_pn X.2.1, zs_pd X.2.1, zs_pc X.2.1, zs_sh X.2.1, zs_rs X.2.1, zs_lp X.2.1, zs_lk X.2.1, zs_ll X.2.1, zs_ld X.2.1, zs_lc X.2.1, zs_tp X.2.1, zs_tt X.2.1, zs_ta X.2.1, zs_td X.2.1), (vp_updL f i ((zs_rs X.2.1 i + num * zs_sh X.2.1 i) / 10000))) : zs_X)) hR_70 hl2 hbb (p := p) (k := i) (by omega) (by omega)) (cwV 2 hts gX6_sampled_X6_has rfl rfl rfl (by decide +kernel) ⟨Nat.le_of_ble_eq_true rfl, Nat.le_of_ble_eq_true rfl⟩) (zk_preV hH hK hN (hR_70.1 (8, 0, 0) ⟨by decide, rfl⟩) rfl) rfl rfl hl.1 rfl (lv_room (Nat.le_of_ble_eq_true rfl)) dX6_sampled_80 ⟨(Nat.le_of_ble_eq_true rfl), (Nat.le_of_ble_eq_true rfl)⟩) (fun r_80 hr_80 => ?_)
            have hr_80 : r_80 = zs_has X.2.1 p i := hr_80
            subst hr_80
            refine lv_aload_n hx hb dX6_sampled_83 rfl (lv_at hl 3 rfl) ?_
            refine zk_get (ci := 6) (v := .ref (Z (8, 6, 0))) (C := RX6) (T := TX6) (N := 20) hx hb hts inw_wsX6_sampled_6 hown hK hH (hR_70.1 (8, 0, 0) ⟨by decide, rfl⟩) rfl 8 (by decide) (hts (.fieldLink RX6 30 "KegDepositsModel" "pieces" "[J") (by decide +kernel)) rfl dX6_sampled_84 ?_
            refine lv_iload hx hb dX6_sampled_87 (lv_at hl 1 rfl) ?_
            refine zk_lald hx hb hK hH (hR_70.1 (8, 6, 0) ⟨by decide, rfl⟩) (vp_in_nI (show i < 12 by omega) (by decide)) dX6_sampled_89 ?_
            refine zk_top (v' := .long ((zs_rs X.2.1 i + num * zs_sh X.2.1 i) / 10000)) (by rw [nI_clamp (by omega)]; show Value.long (vp_updL f i ((zs_rs X.2.1 i + num * zs_sh X.2.1 i) / 10000) i) = _; simp [vp_updL]) ?_
            refine zk_lc_lt (tgt := 98) hx hb dX6_sampled_90 dX6_sampled_91 (by decide) (fun h_90 => ?_) (fun h_90 => ?_)
            · skip
              refine lv_iconst (v := 0) hx hb dX6_sampled_98 (by decide) ?_
              refine lv_istore (lv' := [(8, .int 0), (6, .long (acc + zs_sh X.2.1 i)), (9, .int (nI i)), (0, .ref (Z (8, 0, 0))), (1, .int (nI p)), (2, .long num), (4, .long d)]) hx hb dX6_sampled_99 hl (by decide) rfl (fun ls hl => ?_)
              refine lv_iinc (v := nI (i + 1)) (lv' := [(9, .int (nI (i + 1))), (8, .int 0), (6, .long (acc + zs_sh X.2.1 i)), (0, .ref (Z (8, 0, 0))), (1, .int (nI p)), (2, .long num), (4, .long d)]) hx hb dX6_sampled_101 hl (k := 2) rfl (nI_1 i) (by decide) rfl (fun ls hl => ?_)
              refine lv_goto (tgt := 22) hx hb dX6_sampled_104 (by decide) ?_
              exact ih (i + 1) _ _ (vp_updL f i ((zs_rs X.2.1 i + num * zs_sh X.2.1 i) / 10000)) _ _ _ ls (by omega) (by omega) (by rw [hacc]; rfl) (by rw [if_neg (by simp [zs_enough, h_90])]) (fun j hj => by
                by_cases q : j = i
                · subst q; simp [vp_updL]
                · simp only [vp_updL, q, if_false]; exact hf j (by omega)) hR_70 hH hS (lv_sub hl [0, 2, 1, 3, 4, 5, 6] rfl)
            · skip
              refine lv_iconst (v := 1) hx hb dX6_sampled_94 (by decide) ?_
              refine lv_goto (tgt := 99) hx hb dX6_sampled_95 (by decide) ?_
              refine lv_istore (lv' := [(8, .int 1), (6, .long (acc + zs_sh X.2.1 i)), (9, .int (nI i)), (0, .ref (Z (8, 0, 0))), (1, .int (nI p)), (2, .long num), (4, .long d)]) hx hb dX6_sampled_99 hl (by decide) rfl (fun ls hl => ?_)
              refine lv_iinc (v := nI (i + 1)) (lv' := [(9, .int (nI (i + 1))), (8, .int 1), (6, .long (acc + zs_sh X.2.1 i)), (0, .ref (Z (8, 0, 0))), (1, .int (nI p)), (2, .long num), (4, .long d)]) hx hb dX6_sampled_101 hl (k := 2) rfl (nI_1 i) (by decide) rfl (fun ls hl => ?_)
              refine lv_goto (tgt := 22) hx hb dX6_sampled_104 (by decide) ?_
              exact ih (i + 1) _ _ (vp_updL f i ((zs_rs X.2.1 i + num * zs_sh X.2.1 i) / 10000)) _ _ _ ls (by omega) (by omega) (by rw [hacc]; rfl) (by rw [if_pos (by simp [zs_enough, hyes, Int64.not_lt.mp h_90])]) (fun j hj => by
                by_cases q : j = i
                · subst q; simp [vp_updL]
                · simp only [vp_updL, q, if_false]; exact hf j (by omega)) hR_70 hH hS (lv_sub hl [0, 2, 1, 3, 4, 5, 6] rfl)
    exact loop_22 (zs_nk X.2.1 + 1) 0 _ _ _ _ _ _ ls (by omega) (Nat.zero_le _) rfl rfl (fun j hj => absurd hj (Nat.not_lt_zero _)) hR hH hS (lv_sub hl [0, 2, 1, 3, 4, 5, 6] rfl)
  · skip
    have hmc : ¬ zs_mc X.2.1 x num d := zs_b0 hr_5 h_8
    refine lv_iconst (v := 0) hx hb dX6_sampled_11 (by decide) ?_
    exact zk_zret hx hb hr hlocks (by first | rfl | decide) hH hS (by decide) (by decide) (zs_qno hR (zs_fsampled_no hmc)) dX6_sampled_12

theorem inw_wsX6_share_6 : ∀ w ∈ u_ws RX6 TX6 20, w ∈ wsX6_share := by decide +kernel
set_option maxHeartbeats 4000000 in
set_option maxRecDepth 100000 in
theorem zc_X6_share (l : Launch) {g : zk_G} {z : Nat} {M : zk_M} {X : zs_X} {Z : zs_Z} {n : Nat} (hR : zs_R g X Z M) (hI : zs_I X.2.1 n) (hn : n ≤ 512) (y : Int32) (a b : Int64) : Met l yX6_share wsX6_share ({ frames := 1, cells := 0, slots := 0, locals := 21 } : Room) (va_Pc [.ref (Z (8, 0, 0)), .int y, .long a, .long b] (zk_U g z M)) (va_Qi (fun r u => r = (zs_fshare X.2.1 y a b).1 ∧ zs_Q g X Z (zs_fshare X.2.1 y a b).2 u) (zk_B g z) (fun q => z ≤ q)) 0 0 (fun q => z ≤ q) := by
  refine Met.ofW (cc := cX6_share) (maxL := 6) (ret := (some .boolean)) (by decide) rfl ?_
  intro P0 e0 s m0 args below meth c0 s₁ B hml hv
  obtain ⟨rfl, hH, hK, hN⟩ := hv
  have hx := B.exec
  have hb := B.bytes
  have hr := B.returns
  have hts := atoms_spec (ws := wsX6_share) B.pre
  have hown : s.vm.findClass RX6 = some m0.cls := findClass_of_methodNamed B.named
  have hlocks := B.notSynchronized
  have hS : va_S (fun q => z ≤ q) s.heap s.heap [] := va_S.rf
  have hl := lv_entry ([.ref (Z (8, 0, 0)), .int y, .long a, .long b]) (n := 6) (Nat.le_of_ble_eq_true rfl)
  rw [lg_entry_eq]
  generalize (lg_sl ([.ref (Z (8, 0, 0)), .int y, .long a, .long b]) ++ List.replicate (6 - (lg_sl ([.ref (Z (8, 0, 0)), .int y, .long a, .long b])).length) Slot.unset).toArray = ls at hl ⊢
  have hl : lv_has ls 6 [(0, .ref (Z (8, 0, 0))), (1, .int y), (2, .long a), (4, .long b)] := hl
  have hnp : zs_np X.2.1 ≤ 24 := hI.1.2.1
  have hnk : zs_nk X.2.1 ≤ 12 := hI.1.2.2.1
  have hl1 : zs_nl X.2.1 ≤ 512 := Nat.le_trans hI.1.2.2.2.1 hn
  have hl2 : zs_nl X.2.1 ≤ 4100 := by omega
  have hc1 : zs_nc X.2.1 ≤ 512 := Nat.le_trans hI.1.2.2.2.2.1 hn
  have hbb : ∀ i, i < zs_nl X.2.1 → zs_lp X.2.1 i < 2 ^ 31 ∧ zs_lk X.2.1 i < 2 ^ 31 := fun i hi => by
    obtain ⟨a1, a2, -⟩ := hI.2.2.1.1 i hi
    omega
  refine lv_aload_n hx hb dX6_share_0 rfl (lv_at hl 0 rfl) ?_
  refine lv_iload_n hx hb dX6_share_1 rfl (lv_at hl 1 rfl) ?_
  refine vp_callSi (W.runV (As := [.int y]) (rest := []) ⟨hx, hb, hml, hown, hts⟩ (zc_X6_isKind l hR y) (cwV 1 hts gX6_share_X6_isKind rfl rfl rfl (by decide +kernel) ⟨Nat.le_of_ble_eq_true rfl, Nat.le_of_ble_eq_true rfl⟩) (zk_preV hH hK hN (hR.1 (8, 0, 0) ⟨by decide, rfl⟩) rfl) rfl rfl hl.1 rfl (lv_room (Nat.le_of_ble_eq_true rfl)) dX6_share_2 ⟨(Nat.le_of_ble_eq_true rfl), (Nat.le_of_ble_eq_true rfl)⟩) (fun r_2 hr_2 => ?_)
  refine lv_if_eq (tgt := 50) hx hb dX6_share_5 (by decide) (fun h_5 => ?_) (fun h_5 => ?_)
  · skip
    have hy : zs_ix (zs_nk X.2.1) y = none := zs_i0 hr_2 h_5
    refine lv_iconst (v := 0) hx hb dX6_share_50 (by decide) ?_
    exact zk_zret hx hb hr hlocks (by first | rfl | decide) hH hS (by decide) (by decide) (zs_qno hR (by simp only [zs_fshare, hy])) dX6_share_51
  · skip
    obtain ⟨k, hy⟩ := zs_i1 hr_2 h_5
    obtain ⟨hk, ey⟩ := zs_ix_some (by omega) hy
    subst ey
    refine lv_lload hx hb dX6_share_8 (lv_at hl 3 rfl) ?_
    refine lv_lconst (v := 1) hx hb dX6_share_10 (by decide) ?_
    refine zk_lc_lt (tgt := 50) hx hb dX6_share_11 dX6_share_12 (by decide) (fun h_11 => ?_) (fun h_11 => ?_)
    · skip
      refine lv_iconst (v := 0) hx hb dX6_share_50 (by decide) ?_
      exact zk_zret hx hb hr hlocks (by first | rfl | decide) hH hS (by decide) (by decide) (zs_qno hR (by simp only [zs_fshare, hy]; exact if_neg (fun q => absurd h_11 (Int64.not_lt.mpr q.1.1)))) dX6_share_51
    · skip
      refine lv_lload hx hb dX6_share_15 (lv_at hl 3 rfl) ?_
      refine lv_ldc2 (v := 10000) hx hb hown (hts (.constantLong RX6 108 (10000)) (by decide +kernel)) dX6_share_17 ?_
      refine zk_lc_gt (tgt := 50) hx hb dX6_share_20 dX6_share_21 (by decide) (fun h_20 => ?_) (fun h_20 => ?_)
      · skip
        refine lv_iconst (v := 0) hx hb dX6_share_50 (by decide) ?_
        exact zk_zret hx hb hr hlocks (by first | rfl | decide) hH hS (by decide) (by decide) (zs_qno hR (by simp only [zs_fshare, hy]; exact if_neg (fun q => absurd h_20 (Int64.not_lt.mpr q.1.2)))) dX6_share_51
      · skip
        refine lv_lload_n hx hb dX6_share_24 rfl (lv_at hl 2 rfl) ?_
        refine lv_lconst (v := 0) hx hb dX6_share_25 (by decide) ?_
        refine zk_lc_lt (tgt := 50) hx hb dX6_share_26 dX6_share_27 (by decide) (fun h_26 => ?_) (fun h_26 => ?_)
        · skip
          refine lv_iconst (v := 0) hx hb dX6_share_50 (by decide) ?_
          exact zk_zret hx hb hr hlocks (by first | rfl | decide) hH hS (by decide) (by decide) (zs_qno hR (by simp only [zs_fshare, hy]; exact if_neg (fun q => absurd h_26 (Int64.not_lt.mpr q.2.1)))) dX6_share_51
        · skip
          refine lv_lload_n hx hb dX6_share_30 rfl (lv_at hl 2 rfl) ?_
          refine lv_lload hx hb dX6_share_31 (lv_at hl 3 rfl) ?_
          refine zk_lc_gt (tgt := 50) hx hb dX6_share_33 dX6_share_34 (by decide) (fun h_33 => ?_) (fun h_33 => ?_)
          · skip
            refine lv_iconst (v := 0) hx hb dX6_share_50 (by decide) ?_
            exact zk_zret hx hb hr hlocks (by first | rfl | decide) hH hS (by decide) (by decide) (zs_qno hR (by simp only [zs_fshare, hy]; exact if_neg (fun q => absurd h_33 (Int64.not_lt.mpr q.2.2.1)))) dX6_share_51
          · skip
            refine lv_lload_n hx hb dX6_share_37 rfl (lv_at hl 2 rfl) ?_
            refine lv_ldc2 (v := 10000) hx hb hown (hts (.constantLong RX6 108 (10000)) (by decide +kernel)) dX6_share_38 ?_
            refine lv_lmul hx hb dX6_share_41 ?_
            refine lv_lload hx hb dX6_share_42 (lv_at hl 3 rfl) ?_
            refine lv_lrem hx hb dX6_share_44 (fun q => h_11 (by rw [q]; decide)) ?_
            refine lv_lconst (v := 0) hx hb dX6_share_45 (by decide) ?_
            refine zk_lc_eq (tgt := 52) hx hb dX6_share_46 dX6_share_47 (by decide) (fun h_46 => ?_) (fun h_46 => ?_)
            · skip
              refine lv_aload_n hx hb dX6_share_52 rfl (lv_at hl 0 rfl) ?_
              refine zk_get (ci := 6) (v := .ref (Z (8, 4, 0))) (C := RX6) (T := TX6) (N := 20) hx hb hts inw_wsX6_share_6 hown hK hH (hR.1 (8, 0, 0) ⟨by decide, rfl⟩) rfl 6 (by decide) (hts (.fieldLink RX6 24 "KegDepositsModel" "shares" "[J") (by decide +kernel)) rfl dX6_share_53 ?_
              refine lv_iload_n hx hb dX6_share_56 rfl (lv_at hl 1 rfl) ?_
              refine lv_lload_n hx hb dX6_share_57 rfl (lv_at hl 2 rfl) ?_
              refine lv_ldc2 (v := 10000) hx hb hown (hts (.constantLong RX6 108 (10000)) (by decide +kernel)) dX6_share_58 ?_
              refine lv_lmul hx hb dX6_share_61 ?_
              refine lv_lload hx hb dX6_share_62 (lv_at hl 3 rfl) ?_
              refine lv_ldiv hx hb dX6_share_64 (fun q => h_11 (by rw [q]; decide)) ?_
              refine zk_last hx hb hK hH hS (hR.1 (8, 4, 0) ⟨by decide, rfl⟩) (vp_in_nI (show k < 12 by omega) (by decide)) dX6_share_65 (fun H locs hH hS => ?_)
              have hH := zk_H_c (e' := zk_aJ g 12 (vp_updL (zs_sh X.2.1) k ((a * 10000) / b))) (congrArg (zk_aJ g 12) (show vp_updL (zs_sh X.2.1) (Int32.toNatClampNeg (nI k)) ((a * 10000) / b) = (vp_updL (zs_sh X.2.1) k ((a * 10000) / b)) from (zs_updL (by omega)))) hH
              obtain ⟨M_65, eM_65⟩ : ∃ w_0 : zk_M, w_0 = zk_up M (Z (8, 4, 0)) (zk_aJ g 12 (vp_updL (zs_sh X.2.1) k ((a * 10000) / b))) := ⟨_, rfl⟩
              have hH : zk_H g z M_65 H := by rw [eM_65]; exact hH
              have hR_65 : zs_R g ((X.1, (zs_np X.2.1, zs_nk X.2.1, zs_nl X.2.1, zs_nc X.2.1, zs_ck X.2.1, zs_pn X.2.1, zs_pd X.2.1, zs_pc X.2.1, (vp_updL (zs_sh X.2.1) k ((a * 10000) / b)), zs_rs X.2.1, zs_lp X.2.1, zs_lk X.2.1, zs_ll X.2.1, zs_ld X.2.1, zs_lc X.2.1, zs_tp X.2.1, zs_tt X.2.1, zs_ta X.2.1, zs_td X.2.1), X.2.2) : zs_X) Z M_65 := by rw [eM_65]; exact zs_Rm_sh (X := X) hR (vp_updL (zs_sh X.2.1) k ((a * 10000) / b))
              refine lv_iconst (v := 1) hx hb dX6_share_66 (by decide) ?_
              exact zk_zret hx hb hr hlocks (by first | rfl | decide) hH hS (by decide) (by decide) (zs_qyes (S := zs_sh_ X.2.1 (vp_updL (zs_sh X.2.1) k (a * 10000 / b))) (by simp only [zs_fshare, hy]; exact if_pos ⟨⟨Int64.not_lt.mp h_11, Int64.not_lt.mp h_20⟩, Int64.not_lt.mp h_26, Int64.not_lt.mp h_33, h_46⟩) ⟨_, hR_65⟩) dX6_share_67
            · skip
              refine lv_iconst (v := 0) hx hb dX6_share_50 (by decide) ?_
              exact zk_zret hx hb hr hlocks (by first | rfl | decide) hH hS (by decide) (by decide) (zs_qno hR (by simp only [zs_fshare, hy]; exact if_neg (fun q => h_46 q.2.2.2))) dX6_share_51

theorem inw_wsX6_balance_6 : ∀ w ∈ u_ws RX6 TX6 20, w ∈ wsX6_balance := by decide +kernel
set_option maxHeartbeats 4000000 in
set_option maxRecDepth 100000 in
theorem zc_X6_balance (l : Launch) {g : zk_G} {z : Nat} {M : zk_M} {X : zs_X} {Z : zs_Z} {n : Nat} (hR : zs_R g X Z M) (hI : zs_I X.2.1 n) (hn : n ≤ 512) (x : Int32) (d : Int64) : Met l yX6_balance wsX6_balance ({ frames := 1, cells := 0, slots := 0, locals := 21 } : Room) (va_Pc [.ref (Z (8, 0, 0)), .int x, .long d] (zk_U g z M)) (vp_Sl (fun r => r = zs_fbalance X.2.1 x d)) 0 0 (fun _ => False) := by
  refine Met.ofW (cc := cX6_balance) (maxL := 7) (ret := (some .long)) (by decide) rfl ?_
  intro P0 e0 s m0 args below meth c0 s₁ B hml hv
  obtain ⟨rfl, hH, hK, hN⟩ := hv
  have hx := B.exec
  have hb := B.bytes
  have hr := B.returns
  have hts := atoms_spec (ws := wsX6_balance) B.pre
  have hown : s.vm.findClass RX6 = some m0.cls := findClass_of_methodNamed B.named
  have hlocks := B.notSynchronized
  have hl := lv_entry ([.ref (Z (8, 0, 0)), .int x, .long d]) (n := 7) (Nat.le_of_ble_eq_true rfl)
  rw [lg_entry_eq]
  generalize (lg_sl ([.ref (Z (8, 0, 0)), .int x, .long d]) ++ List.replicate (7 - (lg_sl ([.ref (Z (8, 0, 0)), .int x, .long d])).length) Slot.unset).toArray = ls at hl ⊢
  have hl : lv_has ls 7 [(0, .ref (Z (8, 0, 0))), (1, .int x), (2, .long d)] := hl
  have hnp : zs_np X.2.1 ≤ 24 := hI.1.2.1
  have hnk : zs_nk X.2.1 ≤ 12 := hI.1.2.2.1
  have hl1 : zs_nl X.2.1 ≤ 512 := Nat.le_trans hI.1.2.2.2.1 hn
  have hl2 : zs_nl X.2.1 ≤ 4100 := by omega
  have hc1 : zs_nc X.2.1 ≤ 512 := Nat.le_trans hI.1.2.2.2.2.1 hn
  have hbb : ∀ i, i < zs_nl X.2.1 → zs_lp X.2.1 i < 2 ^ 31 ∧ zs_lk X.2.1 i < 2 ^ 31 := fun i hi => by
    obtain ⟨a1, a2, -⟩ := hI.2.2.1.1 i hi
    omega
  cases hxp : zs_ix (zs_np X.2.1) x with
  | none =>
    refine lv_lconst (v := 0) hx hb dX6_balance_0 (by decide) ?_
    refine lv_lstore (lv' := [(4, .long 0), (0, .ref (Z (8, 0, 0))), (1, .int x), (2, .long d)]) hx hb dX6_balance_1 hl (by decide) rfl (fun ls hl => ?_)
    refine lv_iconst (v := 0) hx hb dX6_balance_3 (by decide) ?_
    refine lv_istore (lv' := [(6, .int 0), (4, .long 0), (0, .ref (Z (8, 0, 0))), (1, .int x), (2, .long d)]) hx hb dX6_balance_4 hl (by decide) rfl (fun ls hl => ?_)
    have loop_6 : ∀ (n i : Nat) (acc : Int64) (ls : Array Slot), zs_nc X.2.1 - i < n → i ≤ zs_nc X.2.1 → acc = 0 →  lv_has ls 7 [(6, .int (nI i)), (4, .long acc), (0, .ref (Z (8, 0, 0))), (1, .int x), (2, .long d)] → W P0 l e0 (headSpec wsX6_balance ({ frames := 1, cells := 0, slots := 0, locals := 21 } : Room)).room s m0 ([.ref (Z (8, 0, 0)), .int x, .long d] : List Value).toArray below meth c0 s.heap [] 0 0 (MQ below (vp_Sl (fun r => r = zs_fbalance X.2.1 x d)) ([.ref (Z (8, 0, 0)), .int x, .long d] : List Value).toArray s 0 0 (fun _ => False)) (F0 m0 6 ls []) := by
      intro n
      induction n with
      | zero => intro i acc ls hn hi; omega
      | succ n ih =>
        intro i acc ls hn hi hacc hl
        refine lv_iload hx hb dX6_balance_6 (lv_at hl 0 rfl) ?_
        refine lv_aload_n hx hb dX6_balance_8 rfl (lv_at hl 2 rfl) ?_
        refine zk_get (ci := 6) (v := .int (nI (zs_nc X.2.1))) (C := RX6) (T := TX6) (N := 20) hx hb hts inw_wsX6_balance_6 hown hK hH (hR.1 (8, 0, 0) ⟨by decide, rfl⟩) rfl 15 (by decide) (hts (.fieldLink RX6 75 "KegDepositsModel" "changes" "I") (by decide +kernel)) rfl dX6_balance_9 ?_
        refine lv_icmp_ge (tgt := 95) hx hb dX6_balance_12 (by decide) (fun h_12 => ?_) (fun h_12 => ?_)
        · skip
          have hiN : i = zs_nc X.2.1 := by have := (nI_leI (a := zs_nc X.2.1) (b := i) (by omega) (by omega)).mp h_12; omega
          refine lv_lload hx hb dX6_balance_95 (lv_at hl 1 rfl) ?_
          exact zk_lretS hx hb hr hlocks (by rw [hacc]; simp only [zs_fbalance, hxp]) dX6_balance_97
        · skip
          have hiN : i < zs_nc X.2.1 := Nat.lt_of_not_le (fun q => h_12 ((nI_leI (a := zs_nc X.2.1) (b := i) (by omega) (by omega)).mpr q))
          refine lv_aload_n hx hb dX6_balance_15 rfl (lv_at hl 2 rfl) ?_
          refine zk_get (ci := 6) (v := .ref (Z (8, 15, 0))) (C := RX6) (T := TX6) (N := 20) hx hb hts inw_wsX6_balance_6 hown hK hH (hR.1 (8, 0, 0) ⟨by decide, rfl⟩) rfl 19 (by decide) (hts (.fieldLink RX6 57 "KegDepositsModel" "changeDays" "[J") (by decide +kernel)) rfl dX6_balance_16 ?_
          refine lv_iload hx hb dX6_balance_19 (lv_at hl 0 rfl) ?_
          refine zk_lald hx hb hK hH (hR.1 (8, 15, 0) ⟨by decide, rfl⟩) (vp_in_nI (show i < 4100 by omega) (by decide)) dX6_balance_21 ?_
          refine zk_top (v' := .long (zs_td X.2.1 i)) (zk_arr_l (f := zs_td X.2.1) (i := i) (by omega)) ?_
          refine lv_lload_n hx hb dX6_balance_22 rfl (lv_at hl 4 rfl) ?_
          refine zk_lc_gt (tgt := 89) hx hb dX6_balance_23 dX6_balance_24 (by decide) (fun h_23 => ?_) (fun h_23 => ?_)
          · skip
            have hdd : ¬ zs_td X.2.1 i ≤ d := Int64.not_le.mpr h_23
            refine lv_iinc (v := nI (i + 1)) (lv' := [(6, .int (nI (i + 1))), (4, .long acc), (0, .ref (Z (8, 0, 0))), (1, .int x), (2, .long d)]) hx hb dX6_balance_89 hl (k := 0) rfl (nI_1 i) (by decide) rfl (fun ls hl => ?_)
            refine lv_goto (tgt := 6) hx hb dX6_balance_92 (by decide) ?_
            exact ih (i + 1) _ ls (by omega) (by omega) hacc (lv_sub hl [0, 1, 2, 3, 4] rfl)
          · skip
            have hdd : zs_td X.2.1 i ≤ d := Int64.not_lt.mp h_23
            refine lv_aload_n hx hb dX6_balance_27 rfl (lv_at hl 2 rfl) ?_
            refine lv_iload_n hx hb dX6_balance_28 rfl (lv_at hl 3 rfl) ?_
            refine vp_callSi (W.runV (As := [.int x]) (rest := []) ⟨hx, hb, hml, hown, hts⟩ (zc_X6_isParty l hR x) (cwV 1 hts gX6_balance_X6_isParty rfl rfl rfl (by decide +kernel) ⟨Nat.le_of_ble_eq_true rfl, Nat.le_of_ble_eq_true rfl⟩) (zk_preV hH hK hN (hR.1 (8, 0, 0) ⟨by decide, rfl⟩) rfl) rfl rfl hl.1 rfl (lv_room (Nat.le_of_ble_eq_true rfl)) dX6_balance_29 ⟨(Nat.le_of_ble_eq_true rfl), (Nat.le_of_ble_eq_true rfl)⟩) (fun r_29 hr_29 => ?_)
            refine lv_if_eq (tgt := 89) hx hb dX6_balance_32 (by decide) (fun h_32 => ?_) (fun h_32 => ?_)
            · skip
              refine lv_iinc (v := nI (i + 1)) (lv' := [(6, .int (nI (i + 1))), (4, .long acc), (0, .ref (Z (8, 0, 0))), (1, .int x), (2, .long d)]) hx hb dX6_balance_89 hl (k := 0) rfl (nI_1 i) (by decide) rfl (fun ls hl => ?_)
              refine lv_goto (tgt := 6) hx hb dX6_balance_92 (by decide) ?_
              exact ih (i + 1) _ ls (by omega) (by omega) hacc (lv_sub hl [0, 1, 2, 3, 4] rfl)
            · skip
              exact absurd (by rw [hr_29, if_pos hxp]) h_32
    exact loop_6 (zs_nc X.2.1 + 1) 0 0 ls (by omega) (Nat.zero_le _) rfl (lv_sub hl [0, 1, 2, 3, 4] rfl)
  | some p =>
    obtain ⟨hp, ex⟩ := zs_ix_some (by omega) hxp
    subst ex
    refine lv_lconst (v := 0) hx hb dX6_balance_0 (by decide) ?_
    refine lv_lstore (lv' := [(4, .long 0), (0, .ref (Z (8, 0, 0))), (1, .int (nI p)), (2, .long d)]) hx hb dX6_balance_1 hl (by decide) rfl (fun ls hl => ?_)
    refine lv_iconst (v := 0) hx hb dX6_balance_3 (by decide) ?_
    refine lv_istore (lv' := [(6, .int 0), (4, .long 0), (0, .ref (Z (8, 0, 0))), (1, .int (nI p)), (2, .long d)]) hx hb dX6_balance_4 hl (by decide) rfl (fun ls hl => ?_)
    have loop_6 : ∀ (n i : Nat) (acc : Int64) (ls : Array Slot), zs_nc X.2.1 - i < n → i ≤ zs_nc X.2.1 → acc = zs_sum (zs_balf X.2.1 p d) i →  lv_has ls 7 [(6, .int (nI i)), (4, .long acc), (0, .ref (Z (8, 0, 0))), (1, .int (nI p)), (2, .long d)] → W P0 l e0 (headSpec wsX6_balance ({ frames := 1, cells := 0, slots := 0, locals := 21 } : Room)).room s m0 ([.ref (Z (8, 0, 0)), .int (nI p), .long d] : List Value).toArray below meth c0 s.heap [] 0 0 (MQ below (vp_Sl (fun r => r = zs_fbalance X.2.1 (nI p) d)) ([.ref (Z (8, 0, 0)), .int (nI p), .long d] : List Value).toArray s 0 0 (fun _ => False)) (F0 m0 6 ls []) := by
      intro n
      induction n with
      | zero => intro i acc ls hn hi; omega
      | succ n ih =>
        intro i acc ls hn hi hacc hl
        refine lv_iload hx hb dX6_balance_6 (lv_at hl 0 rfl) ?_
        refine lv_aload_n hx hb dX6_balance_8 rfl (lv_at hl 2 rfl) ?_
        refine zk_get (ci := 6) (v := .int (nI (zs_nc X.2.1))) (C := RX6) (T := TX6) (N := 20) hx hb hts inw_wsX6_balance_6 hown hK hH (hR.1 (8, 0, 0) ⟨by decide, rfl⟩) rfl 15 (by decide) (hts (.fieldLink RX6 75 "KegDepositsModel" "changes" "I") (by decide +kernel)) rfl dX6_balance_9 ?_
        refine lv_icmp_ge (tgt := 95) hx hb dX6_balance_12 (by decide) (fun h_12 => ?_) (fun h_12 => ?_)
        · skip
          have hiN : i = zs_nc X.2.1 := by have := (nI_leI (a := zs_nc X.2.1) (b := i) (by omega) (by omega)).mp h_12; omega
          refine lv_lload hx hb dX6_balance_95 (lv_at hl 1 rfl) ?_
          exact zk_lretS hx hb hr hlocks (by rw [hacc, hiN]; simp only [zs_fbalance, hxp]; rfl) dX6_balance_97
        · skip
          have hiN : i < zs_nc X.2.1 := Nat.lt_of_not_le (fun q => h_12 ((nI_leI (a := zs_nc X.2.1) (b := i) (by omega) (by omega)).mpr q))
          refine lv_aload_n hx hb dX6_balance_15 rfl (lv_at hl 2 rfl) ?_
          refine zk_get (ci := 6) (v := .ref (Z (8, 15, 0))) (C := RX6) (T := TX6) (N := 20) hx hb hts inw_wsX6_balance_6 hown hK hH (hR.1 (8, 0, 0) ⟨by decide, rfl⟩) rfl 19 (by decide) (hts (.fieldLink RX6 57 "KegDepositsModel" "changeDays" "[J") (by decide +kernel)) rfl dX6_balance_16 ?_
          refine lv_iload hx hb dX6_balance_19 (lv_at hl 0 rfl) ?_
          refine zk_lald hx hb hK hH (hR.1 (8, 15, 0) ⟨by decide, rfl⟩) (vp_in_nI (show i < 4100 by omega) (by decide)) dX6_balance_21 ?_
          refine zk_top (v' := .long (zs_td X.2.1 i)) (zk_arr_l (f := zs_td X.2.1) (i := i) (by omega)) ?_
          refine lv_lload_n hx hb dX6_balance_22 rfl (lv_at hl 4 rfl) ?_
          refine zk_lc_gt (tgt := 89) hx hb dX6_balance_23 dX6_balance_24 (by decide) (fun h_23 => ?_) (fun h_23 => ?_)
          · skip
            have hdd : ¬ zs_td X.2.1 i ≤ d := Int64.not_le.mpr h_23
            refine lv_iinc (v := nI (i + 1)) (lv' := [(6, .int (nI (i + 1))), (4, .long acc), (0, .ref (Z (8, 0, 0))), (1, .int (nI p)), (2, .long d)]) hx hb dX6_balance_89 hl (k := 0) rfl (nI_1 i) (by decide) rfl (fun ls hl => ?_)
            refine lv_goto (tgt := 6) hx hb dX6_balance_92 (by decide) ?_
            exact ih (i + 1) _ ls (by omega) (by omega) (by rw [hacc]; show _ = zs_sum (zs_balf X.2.1 p d) i + zs_balf X.2.1 p d i; rw [show zs_balf X.2.1 p d i = 0 from if_neg hdd, Int64.add_zero]) (lv_sub hl [0, 1, 2, 3, 4] rfl)
          · skip
            have hdd : zs_td X.2.1 i ≤ d := Int64.not_lt.mp h_23
            refine lv_aload_n hx hb dX6_balance_27 rfl (lv_at hl 2 rfl) ?_
            refine lv_iload_n hx hb dX6_balance_28 rfl (lv_at hl 3 rfl) ?_
            refine vp_callSi (W.runV (As := [.int (nI p)]) (rest := []) ⟨hx, hb, hml, hown, hts⟩ (zc_X6_isParty l hR (nI p)) (cwV 1 hts gX6_balance_X6_isParty rfl rfl rfl (by decide +kernel) ⟨Nat.le_of_ble_eq_true rfl, Nat.le_of_ble_eq_true rfl⟩) (zk_preV hH hK hN (hR.1 (8, 0, 0) ⟨by decide, rfl⟩) rfl) rfl rfl hl.1 rfl (lv_room (Nat.le_of_ble_eq_true rfl)) dX6_balance_29 ⟨(Nat.le_of_ble_eq_true rfl), (Nat.le_of_ble_eq_true rfl)⟩) (fun r_29 hr_29 => ?_)
            refine lv_if_eq (tgt := 89) hx hb dX6_balance_32 (by decide) (fun h_32 => ?_) (fun h_32 => ?_)
            · skip
              exact absurd h_32 (by rw [hr_29, if_neg (by rw [hxp]; simp)]; decide)
            · skip
              obtain ⟨t1, t2, t3⟩ := hI.2.2.2 i hiN
              refine lv_lload hx hb dX6_balance_35 (lv_at hl 1 rfl) ?_
              refine lv_aload_n hx hb dX6_balance_37 rfl (lv_at hl 2 rfl) ?_
              refine zk_get (ci := 6) (v := .ref (Z (8, 12, 0))) (C := RX6) (T := TX6) (N := 20) hx hb hts inw_wsX6_balance_6 hown hK hH (hR.1 (8, 0, 0) ⟨by decide, rfl⟩) rfl 16 (by decide) (hts (.fieldLink RX6 48 "KegDepositsModel" "gains" "[I") (by decide +kernel)) rfl dX6_balance_38 ?_
              refine lv_iload hx hb dX6_balance_41 (lv_at hl 0 rfl) ?_
              refine zk_iald hx hb hK hH (hR.1 (8, 12, 0) ⟨by decide, rfl⟩) (vp_in_nI (show i < 4100 by omega) (by decide)) dX6_balance_43 ?_
              refine zk_top (v' := .int (nI (zs_tt X.2.1 i))) (zk_arr_i (f := fun i => nI (zs_tt X.2.1 i)) (i := i) (by omega)) ?_
              refine lv_iload_n hx hb dX6_balance_44 rfl (lv_at hl 3 rfl) ?_
              refine lv_icmp_ne (tgt := 58) hx hb dX6_balance_45 (by decide) (fun h_45 => ?_) (fun h_45 => ?_)
              · skip
                have htt : ¬ zs_tt X.2.1 i = p := fun q => h_45 (by rw [q])
                refine lv_lconst (v := 0) hx hb dX6_balance_58 (by decide) ?_
                refine lv_ladd hx hb dX6_balance_59 ?_
                refine lv_lstore (lv' := [(4, .long (acc + 0)), (6, .int (nI i)), (0, .ref (Z (8, 0, 0))), (1, .int (nI p)), (2, .long d)]) hx hb dX6_balance_60 hl (by decide) rfl (fun ls hl => ?_)
                refine lv_lload hx hb dX6_balance_62 (lv_at hl 0 rfl) ?_
                refine lv_aload_n hx hb dX6_balance_64 rfl (lv_at hl 2 rfl) ?_
                refine zk_get (ci := 6) (v := .ref (Z (8, 13, 0))) (C := RX6) (T := TX6) (N := 20) hx hb hts inw_wsX6_balance_6 hown hK hH (hR.1 (8, 0, 0) ⟨by decide, rfl⟩) rfl 17 (by decide) (hts (.fieldLink RX6 51 "KegDepositsModel" "loses" "[I") (by decide +kernel)) rfl dX6_balance_65 ?_
                refine lv_iload hx hb dX6_balance_68 (lv_at hl 1 rfl) ?_
                refine zk_iald hx hb hK hH (hR.1 (8, 13, 0) ⟨by decide, rfl⟩) (vp_in_nI (show i < 4100 by omega) (by decide)) dX6_balance_70 ?_
                refine zk_top (v' := .int (nI (zs_tp X.2.1 i))) (zk_arr_i (f := fun i => nI (zs_tp X.2.1 i)) (i := i) (by omega)) ?_
                refine lv_iload_n hx hb dX6_balance_71 rfl (lv_at hl 3 rfl) ?_
                refine lv_icmp_ne (tgt := 85) hx hb dX6_balance_72 (by decide) (fun h_72 => ?_) (fun h_72 => ?_)
                · skip
                  have htp : ¬ zs_tp X.2.1 i = p := fun q => h_72 (by rw [q])
                  refine lv_lconst (v := 0) hx hb dX6_balance_85 (by decide) ?_
                  refine lv_lsub hx hb dX6_balance_86 ?_
                  refine lv_lstore (lv' := [(4, .long ((acc + 0) - 0)), (6, .int (nI i)), (0, .ref (Z (8, 0, 0))), (1, .int (nI p)), (2, .long d)]) hx hb dX6_balance_87 hl (by decide) rfl (fun ls hl => ?_)
                  refine lv_iinc (v := nI (i + 1)) (lv' := [(6, .int (nI (i + 1))), (4, .long ((acc + 0) - 0)), (0, .ref (Z (8, 0, 0))), (1, .int (nI p)), (2, .long d)]) hx hb dX6_balance_89 hl (k := 1) rfl (nI_1 i) (by decide) rfl (fun ls hl => ?_)
                  refine lv_goto (tgt := 6) hx hb dX6_balance_92 (by decide) ?_
                  exact ih (i + 1) _ ls (by omega) (by omega) (by rw [hacc]; show _ = zs_sum (zs_balf X.2.1 p d) i + zs_balf X.2.1 p d i; rw [show zs_balf X.2.1 p d i = 0 from by simp [zs_balf, zs_chg, hdd, htt, htp]]; simp) (lv_sub hl [0, 1, 2, 3, 4] rfl)
                · skip
                  have htp : zs_tp X.2.1 i = p := (nI_eq (by omega) (by omega)).mp h_72
                  refine lv_aload_n hx hb dX6_balance_75 rfl (lv_at hl 2 rfl) ?_
                  refine zk_get (ci := 6) (v := .ref (Z (8, 14, 0))) (C := RX6) (T := TX6) (N := 20) hx hb hts inw_wsX6_balance_6 hown hK hH (hR.1 (8, 0, 0) ⟨by decide, rfl⟩) rfl 18 (by decide) (hts (.fieldLink RX6 54 "KegDepositsModel" "amounts" "[J") (by decide +kernel)) rfl dX6_balance_76 ?_
                  refine lv_iload hx hb dX6_balance_79 (lv_at hl 1 rfl) ?_
                  refine zk_lald hx hb hK hH (hR.1 (8, 14, 0) ⟨by decide, rfl⟩) (vp_in_nI (show i < 4100 by omega) (by decide)) dX6_balance_81 ?_
                  refine zk_top (v' := .long (zs_ta X.2.1 i)) (zk_arr_l (f := zs_ta X.2.1) (i := i) (by omega)) ?_
                  refine lv_goto (tgt := 86) hx hb dX6_balance_82 (by decide) ?_
                  refine lv_lsub hx hb dX6_balance_86 ?_
                  refine lv_lstore (lv' := [(4, .long ((acc + 0) - zs_ta X.2.1 i)), (6, .int (nI i)), (0, .ref (Z (8, 0, 0))), (1, .int (nI p)), (2, .long d)]) hx hb dX6_balance_87 hl (by decide) rfl (fun ls hl => ?_)
                  refine lv_iinc (v := nI (i + 1)) (lv' := [(6, .int (nI (i + 1))), (4, .long ((acc + 0) - zs_ta X.2.1 i)), (0, .ref (Z (8, 0, 0))), (1, .int (nI p)), (2, .long d)]) hx hb dX6_balance_89 hl (k := 1) rfl (nI_1 i) (by decide) rfl (fun ls hl => ?_)
                  refine lv_goto (tgt := 6) hx hb dX6_balance_92 (by decide) ?_
                  exact ih (i + 1) _ ls (by omega) (by omega) (by rw [hacc]; show _ = zs_sum (zs_balf X.2.1 p d) i + zs_balf X.2.1 p d i; rw [show zs_balf X.2.1 p d i = -zs_ta X.2.1 i from by simp [zs_balf, zs_chg, hdd, htp], Int64.add_zero, Int64.sub_eq_add_neg]) (lv_sub hl [0, 1, 2, 3, 4] rfl)
              · skip
                have htt : zs_tt X.2.1 i = p := (nI_eq (by omega) (by omega)).mp h_45
                refine lv_aload_n hx hb dX6_balance_48 rfl (lv_at hl 2 rfl) ?_
                refine zk_get (ci := 6) (v := .ref (Z (8, 14, 0))) (C := RX6) (T := TX6) (N := 20) hx hb hts inw_wsX6_balance_6 hown hK hH (hR.1 (8, 0, 0) ⟨by decide, rfl⟩) rfl 18 (by decide) (hts (.fieldLink RX6 54 "KegDepositsModel" "amounts" "[J") (by decide +kernel)) rfl dX6_balance_49 ?_
                refine lv_iload hx hb dX6_balance_52 (lv_at hl 0 rfl) ?_
                refine zk_lald hx hb hK hH (hR.1 (8, 14, 0) ⟨by decide, rfl⟩) (vp_in_nI (show i < 4100 by omega) (by decide)) dX6_balance_54 ?_
                refine zk_top (v' := .long (zs_ta X.2.1 i)) (zk_arr_l (f := zs_ta X.2.1) (i := i) (by omega)) ?_
                refine lv_goto (tgt := 59) hx hb dX6_balance_55 (by decide) ?_
                refine lv_ladd hx hb dX6_balance_59 ?_
                refine lv_lstore (lv' := [(4, .long (acc + zs_ta X.2.1 i)), (6, .int (nI i)), (0, .ref (Z (8, 0, 0))), (1, .int (nI p)), (2, .long d)]) hx hb dX6_balance_60 hl (by decide) rfl (fun ls hl => ?_)
                refine lv_lload hx hb dX6_balance_62 (lv_at hl 0 rfl) ?_
                refine lv_aload_n hx hb dX6_balance_64 rfl (lv_at hl 2 rfl) ?_
                refine zk_get (ci := 6) (v := .ref (Z (8, 13, 0))) (C := RX6) (T := TX6) (N := 20) hx hb hts inw_wsX6_balance_6 hown hK hH (hR.1 (8, 0, 0) ⟨by decide, rfl⟩) rfl 17 (by decide) (hts (.fieldLink RX6 51 "KegDepositsModel" "loses" "[I") (by decide +kernel)) rfl dX6_balance_65 ?_
                refine lv_iload hx hb dX6_balance_68 (lv_at hl 1 rfl) ?_
                refine zk_iald hx hb hK hH (hR.1 (8, 13, 0) ⟨by decide, rfl⟩) (vp_in_nI (show i < 4100 by omega) (by decide)) dX6_balance_70 ?_
                refine zk_top (v' := .int (nI (zs_tp X.2.1 i))) (zk_arr_i (f := fun i => nI (zs_tp X.2.1 i)) (i := i) (by omega)) ?_
                refine lv_iload_n hx hb dX6_balance_71 rfl (lv_at hl 3 rfl) ?_
                refine lv_icmp_ne (tgt := 85) hx hb dX6_balance_72 (by decide) (fun h_72 => ?_) (fun h_72 => ?_)
                · skip
                  have htp : ¬ zs_tp X.2.1 i = p := fun q => h_72 (by rw [q])
                  refine lv_lconst (v := 0) hx hb dX6_balance_85 (by decide) ?_
                  refine lv_lsub hx hb dX6_balance_86 ?_
                  refine lv_lstore (lv' := [(4, .long ((acc + zs_ta X.2.1 i) - 0)), (6, .int (nI i)), (0, .ref (Z (8, 0, 0))), (1, .int (nI p)), (2, .long d)]) hx hb dX6_balance_87 hl (by decide) rfl (fun ls hl => ?_)
                  refine lv_iinc (v := nI (i + 1)) (lv' := [(6, .int (nI (i + 1))), (4, .long ((acc + zs_ta X.2.1 i) - 0)), (0, .ref (Z (8, 0, 0))), (1, .int (nI p)), (2, .long d)]) hx hb dX6_balance_89 hl (k := 1) rfl (nI_1 i) (by decide) rfl (fun ls hl => ?_)
                  refine lv_goto (tgt := 6) hx hb dX6_balance_92 (by decide) ?_
                  exact ih (i + 1) _ ls (by omega) (by omega) (by rw [hacc]; show _ = zs_sum (zs_balf X.2.1 p d) i + zs_balf X.2.1 p d i; rw [show zs_balf X.2.1 p d i = zs_ta X.2.1 i from by simp [zs_balf, zs_chg, hdd, htt, htp]]; simp) (lv_sub hl [0, 1, 2, 3, 4] rfl)
                · skip
                  have htp : zs_tp X.2.1 i = p := (nI_eq (by omega) (by omega)).mp h_72
                  refine lv_aload_n hx hb dX6_balance_75 rfl (lv_at hl 2 rfl) ?_
                  refine zk_get (ci := 6) (v := .ref (Z (8, 14, 0))) (C := RX6) (T := TX6) (N := 20) hx hb hts inw_wsX6_balance_6 hown hK hH (hR.1 (8, 0, 0) ⟨by decide, rfl⟩) rfl 18 (by decide) (hts (.fieldLink RX6 54 "KegDepositsModel" "amounts" "[J") (by decide +kernel)) rfl dX6_balance_76 ?_
                  refine lv_iload hx hb dX6_balance_79 (lv_at hl 1 rfl) ?_
                  refine zk_lald hx hb hK hH (hR.1 (8, 14, 0) ⟨by decide, rfl⟩) (vp_in_nI (show i < 4100 by omega) (by decide)) dX6_balance_81 ?_
                  refine zk_top (v' := .long (zs_ta X.2.1 i)) (zk_arr_l (f := zs_ta X.2.1) (i := i) (by omega)) ?_
                  refine lv_goto (tgt := 86) hx hb dX6_balance_82 (by decide) ?_
                  refine lv_lsub hx hb dX6_balance_86 ?_
                  refine lv_lstore (lv' := [(4, .long ((acc + zs_ta X.2.1 i) - zs_ta X.2.1 i)), (6, .int (nI i)), (0, .ref (Z (8, 0, 0))), (1, .int (nI p)), (2, .long d)]) hx hb dX6_balance_87 hl (by decide) rfl (fun ls hl => ?_)
                  refine lv_iinc (v := nI (i + 1)) (lv' := [(6, .int (nI (i + 1))), (4, .long ((acc + zs_ta X.2.1 i) - zs_ta X.2.1 i)), (0, .ref (Z (8, 0, 0))), (1, .int (nI p)), (2, .long d)]) hx hb dX6_balance_89 hl (k := 1) rfl (nI_1 i) (by decide) rfl (fun ls hl => ?_)
                  refine lv_goto (tgt := 6) hx hb dX6_balance_92 (by decide) ?_
                  exact ih (i + 1) _ ls (by omega) (by omega) (by rw [hacc]; show _ = zs_sum (zs_balf X.2.1 p d) i + zs_balf X.2.1 p d i; exact absurd (htp.trans htt.symm) t3) (lv_sub hl [0, 1, 2, 3, 4] rfl)
    exact loop_6 (zs_nc X.2.1 + 1) 0 0 ls (by omega) (Nat.zero_le _) rfl (lv_sub hl [0, 1, 2, 3, 4] rfl)

set_option maxHeartbeats 4000000 in
set_option maxRecDepth 100000 in
theorem zc_X6_count (l : Launch) {g : zk_G} {z : Nat} {M : zk_M} {X : zs_X} {Z : zs_Z} {n : Nat} (hR : zs_R g X Z M) (hI : zs_I X.2.1 n) (hn : n ≤ 512) (x y : Int32) : Met l yX6_count wsX6_count ({ frames := 1, cells := 0, slots := 0, locals := 25 } : Room) (va_Pc [.ref (Z (8, 0, 0)), .int x, .int y] (zk_U g z M)) (vp_Sl (fun r => r = zs_fcount X.2.1 x y)) 0 0 (fun _ => False) := by
  refine Met.ofW (cc := cX6_count) (maxL := 3) (ret := (some .long)) (by decide) rfl ?_
  intro P0 e0 s m0 args below meth c0 s₁ B hml hv
  obtain ⟨rfl, hH, hK, hN⟩ := hv
  have hx := B.exec
  have hb := B.bytes
  have hr := B.returns
  have hts := atoms_spec (ws := wsX6_count) B.pre
  have hown : s.vm.findClass RX6 = some m0.cls := findClass_of_methodNamed B.named
  have hlocks := B.notSynchronized
  have hl := lv_entry ([.ref (Z (8, 0, 0)), .int x, .int y]) (n := 3) (Nat.le_of_ble_eq_true rfl)
  rw [lg_entry_eq]
  generalize (lg_sl ([.ref (Z (8, 0, 0)), .int x, .int y]) ++ List.replicate (3 - (lg_sl ([.ref (Z (8, 0, 0)), .int x, .int y])).length) Slot.unset).toArray = ls at hl ⊢
  have hl : lv_has ls 3 [(0, .ref (Z (8, 0, 0))), (1, .int x), (2, .int y)] := hl
  have hnp : zs_np X.2.1 ≤ 24 := hI.1.2.1
  have hnk : zs_nk X.2.1 ≤ 12 := hI.1.2.2.1
  have hl1 : zs_nl X.2.1 ≤ 512 := Nat.le_trans hI.1.2.2.2.1 hn
  have hl2 : zs_nl X.2.1 ≤ 4100 := by omega
  have hc1 : zs_nc X.2.1 ≤ 512 := Nat.le_trans hI.1.2.2.2.2.1 hn
  have hbb : ∀ i, i < zs_nl X.2.1 → zs_lp X.2.1 i < 2 ^ 31 ∧ zs_lk X.2.1 i < 2 ^ 31 := fun i hi => by
    obtain ⟨a1, a2, -⟩ := hI.2.2.1.1 i hi
    omega
  refine lv_aload_n hx hb dX6_count_0 rfl (lv_at hl 0 rfl) ?_
  refine lv_iload_n hx hb dX6_count_1 rfl (lv_at hl 1 rfl) ?_
  refine vp_callSi (W.runV (As := [.int x]) (rest := []) ⟨hx, hb, hml, hown, hts⟩ (zc_X6_isParty l hR x) (cwV 1 hts gX6_count_X6_isParty rfl rfl rfl (by decide +kernel) ⟨Nat.le_of_ble_eq_true rfl, Nat.le_of_ble_eq_true rfl⟩) (zk_preV hH hK hN (hR.1 (8, 0, 0) ⟨by decide, rfl⟩) rfl) rfl rfl hl.1 rfl (lv_room (Nat.le_of_ble_eq_true rfl)) dX6_count_2 ⟨(Nat.le_of_ble_eq_true rfl), (Nat.le_of_ble_eq_true rfl)⟩) (fun r_2 hr_2 => ?_)
  refine lv_if_eq (tgt := 25) hx hb dX6_count_5 (by decide) (fun h_5 => ?_) (fun h_5 => ?_)
  · skip
    have hxp : zs_ix (zs_np X.2.1) x = none := zs_i0 hr_2 h_5
    refine lv_ldc2 (v := (-1)) hx hb hown (hts (.constantLong RX6 73 (-1)) (by decide +kernel)) dX6_count_25 ?_
    exact zk_lretS hx hb hr hlocks (by simp only [zs_fcount, hxp]) dX6_count_28
  · skip
    obtain ⟨p, hxp⟩ := zs_i1 hr_2 h_5
    obtain ⟨hp, ex⟩ := zs_ix_some (by omega) hxp
    subst ex
    refine lv_aload_n hx hb dX6_count_8 rfl (lv_at hl 0 rfl) ?_
    refine lv_iload_n hx hb dX6_count_9 rfl (lv_at hl 2 rfl) ?_
    refine vp_callSi (W.runV (As := [.int y]) (rest := []) ⟨hx, hb, hml, hown, hts⟩ (zc_X6_isKind l hR y) (cwV 1 hts gX6_count_X6_isKind rfl rfl rfl (by decide +kernel) ⟨Nat.le_of_ble_eq_true rfl, Nat.le_of_ble_eq_true rfl⟩) (zk_preV hH hK hN (hR.1 (8, 0, 0) ⟨by decide, rfl⟩) rfl) rfl rfl hl.1 rfl (lv_room (Nat.le_of_ble_eq_true rfl)) dX6_count_10 ⟨(Nat.le_of_ble_eq_true rfl), (Nat.le_of_ble_eq_true rfl)⟩) (fun r_10 hr_10 => ?_)
    refine lv_if_eq (tgt := 25) hx hb dX6_count_13 (by decide) (fun h_13 => ?_) (fun h_13 => ?_)
    · skip
      have hy : zs_ix (zs_nk X.2.1) y = none := zs_i0 hr_10 h_13
      refine lv_ldc2 (v := (-1)) hx hb hown (hts (.constantLong RX6 73 (-1)) (by decide +kernel)) dX6_count_25 ?_
      exact zk_lretS hx hb hr hlocks (by simp only [zs_fcount, hxp, hy]) dX6_count_28
    · skip
      obtain ⟨k, hy⟩ := zs_i1 hr_10 h_13
      obtain ⟨hk, ey⟩ := zs_ix_some (by omega) hy
      subst ey
      refine lv_aload_n hx hb dX6_count_16 rfl (lv_at hl 0 rfl) ?_
      refine lv_iload_n hx hb dX6_count_17 rfl (lv_at hl 1 rfl) ?_
      refine lv_iload_n hx hb dX6_count_18 rfl (lv_at hl 2 rfl) ?_
      refine vp_callSl (W.runV (As := [.int (nI p), .int (nI k)]) (rest := []) ⟨hx, hb, hml, hown, hts⟩ (zc_X6_has l hR hl2 hbb (p := p) (k := k) (by omega) (by omega)) (cwV 2 hts gX6_count_X6_has rfl rfl rfl (by decide +kernel) ⟨Nat.le_of_ble_eq_true rfl, Nat.le_of_ble_eq_true rfl⟩) (zk_preV hH hK hN (hR.1 (8, 0, 0) ⟨by decide, rfl⟩) rfl) rfl rfl hl.1 rfl (lv_room (Nat.le_of_ble_eq_true rfl)) dX6_count_19 ⟨(Nat.le_of_ble_eq_true rfl), (Nat.le_of_ble_eq_true rfl)⟩) (fun r_19 hr_19 => ?_)
      refine lv_goto (tgt := 28) hx hb dX6_count_22 (by decide) ?_
      exact zk_lretS hx hb hr hlocks (by simp only [zs_fcount, hxp, hy]; exact hr_19) dX6_count_28

theorem inw_wsX6_lost_6 : ∀ w ∈ u_ws RX6 TX6 20, w ∈ wsX6_lost := by decide +kernel
set_option maxHeartbeats 4000000 in
set_option maxRecDepth 100000 in
theorem zc_X6_lost (l : Launch) {g : zk_G} {z : Nat} {M : zk_M} {X : zs_X} {Z : zs_Z} {n : Nat} (hR : zs_R g X Z M) (hI : zs_I X.2.1 n) (hn : n ≤ 512) (y mo : Int32) : Met l yX6_lost wsX6_lost ({ frames := 1, cells := 0, slots := 0, locals := 21 } : Room) (va_Pc [.ref (Z (8, 0, 0)), .int y, .int mo] (zk_U g z M)) (vp_Sl (fun r => r = zs_flost X.2.1 y mo)) 0 0 (fun _ => False) := by
  refine Met.ofW (cc := cX6_lost) (maxL := 6) (ret := (some .long)) (by decide) rfl ?_
  intro P0 e0 s m0 args below meth c0 s₁ B hml hv
  obtain ⟨rfl, hH, hK, hN⟩ := hv
  have hx := B.exec
  have hb := B.bytes
  have hr := B.returns
  have hts := atoms_spec (ws := wsX6_lost) B.pre
  have hown : s.vm.findClass RX6 = some m0.cls := findClass_of_methodNamed B.named
  have hlocks := B.notSynchronized
  have hl := lv_entry ([.ref (Z (8, 0, 0)), .int y, .int mo]) (n := 6) (Nat.le_of_ble_eq_true rfl)
  rw [lg_entry_eq]
  generalize (lg_sl ([.ref (Z (8, 0, 0)), .int y, .int mo]) ++ List.replicate (6 - (lg_sl ([.ref (Z (8, 0, 0)), .int y, .int mo])).length) Slot.unset).toArray = ls at hl ⊢
  have hl : lv_has ls 6 [(0, .ref (Z (8, 0, 0))), (1, .int y), (2, .int mo)] := hl
  have hnp : zs_np X.2.1 ≤ 24 := hI.1.2.1
  have hnk : zs_nk X.2.1 ≤ 12 := hI.1.2.2.1
  have hl1 : zs_nl X.2.1 ≤ 512 := Nat.le_trans hI.1.2.2.2.1 hn
  have hl2 : zs_nl X.2.1 ≤ 4100 := by omega
  have hc1 : zs_nc X.2.1 ≤ 512 := Nat.le_trans hI.1.2.2.2.2.1 hn
  have hbb : ∀ i, i < zs_nl X.2.1 → zs_lp X.2.1 i < 2 ^ 31 ∧ zs_lk X.2.1 i < 2 ^ 31 := fun i hi => by
    obtain ⟨a1, a2, -⟩ := hI.2.2.1.1 i hi
    omega
  refine lv_aload_n hx hb dX6_lost_0 rfl (lv_at hl 0 rfl) ?_
  refine lv_iload_n hx hb dX6_lost_1 rfl (lv_at hl 1 rfl) ?_
  refine vp_callSi (W.runV (As := [.int y]) (rest := []) ⟨hx, hb, hml, hown, hts⟩ (zc_X6_isKind l hR y) (cwV 1 hts gX6_lost_X6_isKind rfl rfl rfl (by decide +kernel) ⟨Nat.le_of_ble_eq_true rfl, Nat.le_of_ble_eq_true rfl⟩) (zk_preV hH hK hN (hR.1 (8, 0, 0) ⟨by decide, rfl⟩) rfl) rfl rfl hl.1 rfl (lv_room (Nat.le_of_ble_eq_true rfl)) dX6_lost_2 ⟨(Nat.le_of_ble_eq_true rfl), (Nat.le_of_ble_eq_true rfl)⟩) (fun r_2 hr_2 => ?_)
  refine lv_if_eq (tgt := 12) hx hb dX6_lost_5 (by decide) (fun h_5 => ?_) (fun h_5 => ?_)
  · skip
    have hy : zs_ix (zs_nk X.2.1) y = none := zs_i0 hr_2 h_5
    refine lv_ldc2 (v := (-1)) hx hb hown (hts (.constantLong RX6 73 (-1)) (by decide +kernel)) dX6_lost_12 ?_
    exact zk_lretS hx hb hr hlocks (by simp only [zs_flost, hy]) dX6_lost_15
  · skip
    obtain ⟨k, hy⟩ := zs_i1 hr_2 h_5
    obtain ⟨hk, ey⟩ := zs_ix_some (by omega) hy
    subst ey
    refine lv_iload_n hx hb dX6_lost_8 rfl (lv_at hl 2 rfl) ?_
    refine lv_if_ge (tgt := 16) hx hb dX6_lost_9 (by decide) (fun h_9 => ?_) (fun h_9 => ?_)
    · skip
      have hmo : ¬ mo < 0 := Int32.not_lt.mpr h_9
      refine lv_lconst (v := 0) hx hb dX6_lost_16 (by decide) ?_
      refine lv_lstore_n (lv' := [(3, .long 0), (0, .ref (Z (8, 0, 0))), (1, .int (nI k)), (2, .int mo)]) hx hb dX6_lost_17 rfl hl (by decide) rfl (fun ls hl => ?_)
      refine lv_iconst (v := 0) hx hb dX6_lost_18 (by decide) ?_
      refine lv_istore (lv' := [(5, .int 0), (3, .long 0), (0, .ref (Z (8, 0, 0))), (1, .int (nI k)), (2, .int mo)]) hx hb dX6_lost_19 hl (by decide) rfl (fun ls hl => ?_)
      have loop_21 : ∀ (n i : Nat) (acc : Int64) (ls : Array Slot), zs_nl X.2.1 - i < n → i ≤ zs_nl X.2.1 → acc = zs_sum (zs_lostf X.2.1 k (zs_ck X.2.1 - Int32.toInt64 mo * 30)) i →  lv_has ls 6 [(5, .int (nI i)), (3, .long acc), (0, .ref (Z (8, 0, 0))), (1, .int (nI k)), (2, .int mo)] → W P0 l e0 (headSpec wsX6_lost ({ frames := 1, cells := 0, slots := 0, locals := 21 } : Room)).room s m0 ([.ref (Z (8, 0, 0)), .int (nI k), .int mo] : List Value).toArray below meth c0 s.heap [] 0 0 (MQ below (vp_Sl (fun r => r = zs_flost X.2.1 (nI k) mo)) ([.ref (Z (8, 0, 0)), .int (nI k), .int mo] : List Value).toArray s 0 0 (fun _ => False)) (F0 m0 21 ls []) := by
        intro n
        induction n with
        | zero => intro i acc ls hn hi; omega
        | succ n ih =>
          intro i acc ls hn hi hacc hl
          refine lv_iload hx hb dX6_lost_21 (lv_at hl 0 rfl) ?_
          refine lv_aload_n hx hb dX6_lost_23 rfl (lv_at hl 2 rfl) ?_
          refine zk_get (ci := 6) (v := .int (nI (zs_nl X.2.1))) (C := RX6) (T := TX6) (N := 20) hx hb hts inw_wsX6_lost_6 hown hK hH (hR.1 (8, 0, 0) ⟨by decide, rfl⟩) rfl 9 (by decide) (hts (.fieldLink RX6 89 "KegDepositsModel" "layers" "I") (by decide +kernel)) rfl dX6_lost_24 ?_
          refine lv_icmp_ge (tgt := 83) hx hb dX6_lost_27 (by decide) (fun h_27 => ?_) (fun h_27 => ?_)
          · skip
            have hiN : i = zs_nl X.2.1 := by have := (nI_leI (a := zs_nl X.2.1) (b := i) (by omega) (by omega)).mp h_27; omega
            refine lv_lload_n hx hb dX6_lost_83 rfl (lv_at hl 1 rfl) ?_
            exact zk_lretS hx hb hr hlocks (by rw [hacc, hiN]; simp only [zs_flost, hy]; rw [if_neg hmo]) dX6_lost_84
          · skip
            have hiN : i < zs_nl X.2.1 := Nat.lt_of_not_le (fun q => h_27 ((nI_leI (a := zs_nl X.2.1) (b := i) (by omega) (by omega)).mpr q))
            refine lv_lload_n hx hb dX6_lost_30 rfl (lv_at hl 1 rfl) ?_
            refine lv_aload_n hx hb dX6_lost_31 rfl (lv_at hl 2 rfl) ?_
            refine zk_get (ci := 6) (v := .ref (Z (8, 8, 0))) (C := RX6) (T := TX6) (N := 20) hx hb hts inw_wsX6_lost_6 hown hK hH (hR.1 (8, 0, 0) ⟨by decide, rfl⟩) rfl 11 (by decide) (hts (.fieldLink RX6 36 "KegDepositsModel" "layerKind" "[I") (by decide +kernel)) rfl dX6_lost_32 ?_
            refine lv_iload hx hb dX6_lost_35 (lv_at hl 0 rfl) ?_
            refine zk_iald hx hb hK hH (hR.1 (8, 8, 0) ⟨by decide, rfl⟩) (vp_in_nI (show i < 4100 by omega) (by decide)) dX6_lost_37 ?_
            refine zk_top (v' := .int (nI (zs_lk X.2.1 i))) (zk_arr_i (f := fun i => nI (zs_lk X.2.1 i)) (i := i) (by omega)) ?_
            refine lv_iload_n hx hb dX6_lost_38 rfl (lv_at hl 3 rfl) ?_
            refine lv_icmp_ne (tgt := 74) hx hb dX6_lost_39 (by decide) (fun h_39 => ?_) (fun h_39 => ?_)
            · skip
              have hkk : ¬ zs_lk X.2.1 i = k := fun q => h_39 (by rw [q])
              refine lv_lconst (v := 0) hx hb dX6_lost_74 (by decide) ?_
              refine lv_ladd hx hb dX6_lost_75 ?_
              refine lv_lstore_n (lv' := [(3, .long (acc + 0)), (5, .int (nI i)), (0, .ref (Z (8, 0, 0))), (1, .int (nI k)), (2, .int mo)]) hx hb dX6_lost_76 rfl hl (by decide) rfl (fun ls hl => ?_)
              refine lv_iinc (v := nI (i + 1)) (lv' := [(5, .int (nI (i + 1))), (3, .long (acc + 0)), (0, .ref (Z (8, 0, 0))), (1, .int (nI k)), (2, .int mo)]) hx hb dX6_lost_77 hl (k := 1) rfl (nI_1 i) (by decide) rfl (fun ls hl => ?_)
              refine lv_goto (tgt := 21) hx hb dX6_lost_80 (by decide) ?_
              exact ih (i + 1) _ ls (by omega) (by omega) (by rw [hacc]; show _ = zs_sum (zs_lostf X.2.1 k (zs_ck X.2.1 - Int32.toInt64 mo * 30)) i + zs_lostf X.2.1 k (zs_ck X.2.1 - Int32.toInt64 mo * 30) i; rw [show zs_lostf X.2.1 k (zs_ck X.2.1 - Int32.toInt64 mo * 30) i = 0 from if_neg (fun q => hkk q.1)]) (lv_sub hl [0, 1, 2, 3, 4] rfl)
            · skip
              have hkk : zs_lk X.2.1 i = k := (nI_eq (hbb i hiN).2 (by omega)).mp h_39
              have hli := zs_lost_iff (m := mo) hI.1.2.2.2.2.2 ⟨(hI.2.2.1.1 i hiN).2.2.1, (hI.2.2.1.1 i hiN).2.2.2.1⟩ hmo
              refine lv_aload_n hx hb dX6_lost_42 rfl (lv_at hl 2 rfl) ?_
              refine zk_get (ci := 6) (v := .long (zs_ck X.2.1)) (C := RX6) (T := TX6) (N := 20) hx hb hts inw_wsX6_lost_6 hown hK hH (hR.1 (8, 0, 0) ⟨by decide, rfl⟩) rfl 2 (by decide) (hts (.fieldLink RX6 81 "KegDepositsModel" "clock" "J") (by decide +kernel)) rfl dX6_lost_43 ?_
              refine lv_aload_n hx hb dX6_lost_46 rfl (lv_at hl 2 rfl) ?_
              refine zk_get (ci := 6) (v := .ref (Z (8, 10, 0))) (C := RX6) (T := TX6) (N := 20) hx hb hts inw_wsX6_lost_6 hown hK hH (hR.1 (8, 0, 0) ⟨by decide, rfl⟩) rfl 13 (by decide) (hts (.fieldLink RX6 42 "KegDepositsModel" "layerDay" "[J") (by decide +kernel)) rfl dX6_lost_47 ?_
              refine lv_iload hx hb dX6_lost_50 (lv_at hl 0 rfl) ?_
              refine zk_lald hx hb hK hH (hR.1 (8, 10, 0) ⟨by decide, rfl⟩) (vp_in_nI (show i < 4100 by omega) (by decide)) dX6_lost_52 ?_
              refine zk_top (v' := .long (zs_ld X.2.1 i)) (zk_arr_l (f := zs_ld X.2.1) (i := i) (by omega)) ?_
              refine lv_lsub hx hb dX6_lost_53 ?_
              refine lv_iload_n hx hb dX6_lost_54 rfl (lv_at hl 4 rfl) ?_
              refine lv_i2l (v := (Int32.toInt64 mo)) hx hb dX6_lost_55 rfl ?_
              refine lv_ldc2 (v := 30) hx hb hown (hts (.constantLong RX6 110 (30)) (by decide +kernel)) dX6_lost_56 ?_
              refine lv_lmul hx hb dX6_lost_59 ?_
              refine zk_lc_lt (tgt := 74) hx hb dX6_lost_60 dX6_lost_61 (by decide) (fun h_60 => ?_) (fun h_60 => ?_)
              · skip
                have hdd : ¬ zs_ld X.2.1 i ≤ (zs_ck X.2.1 - Int32.toInt64 mo * 30) := hli.mp h_60
                refine lv_lconst (v := 0) hx hb dX6_lost_74 (by decide) ?_
                refine lv_ladd hx hb dX6_lost_75 ?_
                refine lv_lstore_n (lv' := [(3, .long (acc + 0)), (5, .int (nI i)), (0, .ref (Z (8, 0, 0))), (1, .int (nI k)), (2, .int mo)]) hx hb dX6_lost_76 rfl hl (by decide) rfl (fun ls hl => ?_)
                refine lv_iinc (v := nI (i + 1)) (lv' := [(5, .int (nI (i + 1))), (3, .long (acc + 0)), (0, .ref (Z (8, 0, 0))), (1, .int (nI k)), (2, .int mo)]) hx hb dX6_lost_77 hl (k := 1) rfl (nI_1 i) (by decide) rfl (fun ls hl => ?_)
                refine lv_goto (tgt := 21) hx hb dX6_lost_80 (by decide) ?_
                exact ih (i + 1) _ ls (by omega) (by omega) (by rw [hacc]; show _ = zs_sum (zs_lostf X.2.1 k (zs_ck X.2.1 - Int32.toInt64 mo * 30)) i + zs_lostf X.2.1 k (zs_ck X.2.1 - Int32.toInt64 mo * 30) i; rw [show zs_lostf X.2.1 k (zs_ck X.2.1 - Int32.toInt64 mo * 30) i = 0 from if_neg (fun q => hdd q.2)]) (lv_sub hl [0, 1, 2, 3, 4] rfl)
              · skip
                have hdd : zs_ld X.2.1 i ≤ (zs_ck X.2.1 - Int32.toInt64 mo * 30) := Decidable.not_not.mp (fun q => h_60 (hli.mpr q))
                refine lv_aload_n hx hb dX6_lost_64 rfl (lv_at hl 2 rfl) ?_
                refine zk_get (ci := 6) (v := .ref (Z (8, 9, 0))) (C := RX6) (T := TX6) (N := 20) hx hb hts inw_wsX6_lost_6 hown hK hH (hR.1 (8, 0, 0) ⟨by decide, rfl⟩) rfl 12 (by decide) (hts (.fieldLink RX6 39 "KegDepositsModel" "layerLeft" "[J") (by decide +kernel)) rfl dX6_lost_65 ?_
                refine lv_iload hx hb dX6_lost_68 (lv_at hl 0 rfl) ?_
                refine zk_lald hx hb hK hH (hR.1 (8, 9, 0) ⟨by decide, rfl⟩) (vp_in_nI (show i < 4100 by omega) (by decide)) dX6_lost_70 ?_
                refine zk_top (v' := .long (zs_ll X.2.1 i)) (zk_arr_l (f := zs_ll X.2.1) (i := i) (by omega)) ?_
                refine lv_goto (tgt := 75) hx hb dX6_lost_71 (by decide) ?_
                refine lv_ladd hx hb dX6_lost_75 ?_
                refine lv_lstore_n (lv' := [(3, .long (acc + zs_ll X.2.1 i)), (5, .int (nI i)), (0, .ref (Z (8, 0, 0))), (1, .int (nI k)), (2, .int mo)]) hx hb dX6_lost_76 rfl hl (by decide) rfl (fun ls hl => ?_)
                refine lv_iinc (v := nI (i + 1)) (lv' := [(5, .int (nI (i + 1))), (3, .long (acc + zs_ll X.2.1 i)), (0, .ref (Z (8, 0, 0))), (1, .int (nI k)), (2, .int mo)]) hx hb dX6_lost_77 hl (k := 1) rfl (nI_1 i) (by decide) rfl (fun ls hl => ?_)
                refine lv_goto (tgt := 21) hx hb dX6_lost_80 (by decide) ?_
                exact ih (i + 1) _ ls (by omega) (by omega) (by rw [hacc]; show _ = zs_sum (zs_lostf X.2.1 k (zs_ck X.2.1 - Int32.toInt64 mo * 30)) i + zs_lostf X.2.1 k (zs_ck X.2.1 - Int32.toInt64 mo * 30) i; rw [show zs_lostf X.2.1 k (zs_ck X.2.1 - Int32.toInt64 mo * 30) i = zs_ll X.2.1 i from if_pos ⟨hkk, hdd⟩]) (lv_sub hl [0, 1, 2, 3, 4] rfl)
      exact loop_21 (zs_nl X.2.1 + 1) 0 0 ls (by omega) (Nat.zero_le _) rfl (lv_sub hl [0, 1, 2, 3, 4] rfl)
    · skip
      refine lv_ldc2 (v := (-1)) hx hb hown (hts (.constantLong RX6 73 (-1)) (by decide +kernel)) dX6_lost_12 ?_
      exact zk_lretS hx hb hr hlocks (by simp only [zs_flost, hy]; rw [if_pos (Int32.not_le.mp h_9)]) dX6_lost_15

theorem inw_wsX6_settle_6 : ∀ w ∈ u_ws RX6 TX6 20, w ∈ wsX6_settle := by decide +kernel
set_option maxHeartbeats 4000000 in
set_option maxRecDepth 100000 in
theorem zc_X6_settle (l : Launch) {g : zk_G} {z : Nat} {M : zk_M} {X : zs_X} {Z : zs_Z} {n : Nat} (hR : zs_R g X Z M) (hI : zs_I X.2.1 n) (hn : n ≤ 512) (hnc : zs_nc X.2.1 < n) (x y mo : Int32) : Met l yX6_settle wsX6_settle ({ frames := 2, cells := 0, slots := 0, locals := 56 } : Room) (va_Pc [.ref (Z (8, 0, 0)), .int x, .int y, .int mo] (zk_U g z M)) (va_Qi (fun r u => r = (zs_fsettle (fun v => decide (0 ≤ v)) X.2.1 x y mo).1 ∧ zs_Q g X Z (zs_fsettle (fun v => decide (0 ≤ v)) X.2.1 x y mo).2 u) (zk_B g z) (fun q => z ≤ q)) 0 0 (fun q => z ≤ q) := by
  refine Met.ofW (cc := cX6_settle) (maxL := 10) (ret := (some .int)) (by decide) rfl ?_
  intro P0 e0 s m0 args below meth c0 s₁ B hml hv
  obtain ⟨rfl, hH, hK, hN⟩ := hv
  have hx := B.exec
  have hb := B.bytes
  have hr := B.returns
  have hts := atoms_spec (ws := wsX6_settle) B.pre
  have hown : s.vm.findClass RX6 = some m0.cls := findClass_of_methodNamed B.named
  have hlocks := B.notSynchronized
  have hS : va_S (fun q => z ≤ q) s.heap s.heap [] := va_S.rf
  have hl := lv_entry ([.ref (Z (8, 0, 0)), .int x, .int y, .int mo]) (n := 10) (Nat.le_of_ble_eq_true rfl)
  rw [lg_entry_eq]
  generalize (lg_sl ([.ref (Z (8, 0, 0)), .int x, .int y, .int mo]) ++ List.replicate (10 - (lg_sl ([.ref (Z (8, 0, 0)), .int x, .int y, .int mo])).length) Slot.unset).toArray = ls at hl ⊢
  have hl : lv_has ls 10 [(0, .ref (Z (8, 0, 0))), (1, .int x), (2, .int y), (3, .int mo)] := hl
  have hnp : zs_np X.2.1 ≤ 24 := hI.1.2.1
  have hnk : zs_nk X.2.1 ≤ 12 := hI.1.2.2.1
  have hl1 : zs_nl X.2.1 ≤ 512 := Nat.le_trans hI.1.2.2.2.1 hn
  have hl2 : zs_nl X.2.1 ≤ 4100 := by omega
  have hc1 : zs_nc X.2.1 ≤ 512 := Nat.le_trans hI.1.2.2.2.2.1 hn
  have hbb : ∀ i, i < zs_nl X.2.1 → zs_lp X.2.1 i < 2 ^ 31 ∧ zs_lk X.2.1 i < 2 ^ 31 := fun i hi => by
    obtain ⟨a1, a2, -⟩ := hI.2.2.1.1 i hi
    omega
  refine lv_iload_n hx hb dX6_settle_0 rfl (lv_at hl 3 rfl) ?_
  refine lv_i2l (v := (Int32.toInt64 mo)) hx hb dX6_settle_1 rfl ?_
  refine lv_ldc2 (v := 30) hx hb hown (hts (.constantLong RX6 110 (30)) (by decide +kernel)) dX6_settle_2 ?_
  refine lv_lmul hx hb dX6_settle_5 ?_
  refine lv_lstore (lv' := [(4, .long ((Int32.toInt64 mo) * 30)), (0, .ref (Z (8, 0, 0))), (1, .int x), (2, .int y), (3, .int mo)]) hx hb dX6_settle_6 hl (by decide) rfl (fun ls hl => ?_)
  refine lv_aload_n hx hb dX6_settle_8 rfl (lv_at hl 1 rfl) ?_
  refine lv_iload_n hx hb dX6_settle_9 rfl (lv_at hl 2 rfl) ?_
  refine vp_callSi (W.runV (As := [.int x]) (rest := []) ⟨hx, hb, hml, hown, hts⟩ (zc_X6_isParty l hR x) (cwV 1 hts gX6_settle_X6_isParty rfl rfl rfl (by decide +kernel) ⟨Nat.le_of_ble_eq_true rfl, Nat.le_of_ble_eq_true rfl⟩) (zk_preV hH hK hN (hR.1 (8, 0, 0) ⟨by decide, rfl⟩) rfl) rfl rfl hl.1 rfl (lv_room (Nat.le_of_ble_eq_true rfl)) dX6_settle_10 ⟨(Nat.le_of_ble_eq_true rfl), (Nat.le_of_ble_eq_true rfl)⟩) (fun r_10 hr_10 => ?_)
  refine lv_if_eq (tgt := 55) hx hb dX6_settle_13 (by decide) (fun h_13 => ?_) (fun h_13 => ?_)
  · skip
    have why : zs_cx (zs_np X.2.1) x = none ∨ zs_cx (zs_np X.2.1) y = none ∨ x = y ∨ ¬ (zs_isD (Int32.toInt64 mo * 30) ∧ zs_ck X.2.1 ≤ (Int32.toInt64 mo * 30)) := Or.inl (zs_cx_none (zs_i0 hr_10 h_13))
    refine lv_bipush (v := (-2)) hx hb dX6_settle_55 (by decide) ?_
    exact zk_zret hx hb hr hlocks (by first | rfl | decide) hH hS (by decide) (by decide) (zs_qno hR (zs_fsettle_no hnp why)) dX6_settle_57
  · skip
    refine lv_aload_n hx hb dX6_settle_16 rfl (lv_at hl 1 rfl) ?_
    refine lv_iload_n hx hb dX6_settle_17 rfl (lv_at hl 3 rfl) ?_
    refine vp_callSi (W.runV (As := [.int y]) (rest := []) ⟨hx, hb, hml, hown, hts⟩ (zc_X6_isParty l hR y) (cwV 1 hts gX6_settle_X6_isParty rfl rfl rfl (by decide +kernel) ⟨Nat.le_of_ble_eq_true rfl, Nat.le_of_ble_eq_true rfl⟩) (zk_preV hH hK hN (hR.1 (8, 0, 0) ⟨by decide, rfl⟩) rfl) rfl rfl hl.1 rfl (lv_room (Nat.le_of_ble_eq_true rfl)) dX6_settle_18 ⟨(Nat.le_of_ble_eq_true rfl), (Nat.le_of_ble_eq_true rfl)⟩) (fun r_18 hr_18 => ?_)
    refine lv_if_eq (tgt := 55) hx hb dX6_settle_21 (by decide) (fun h_21 => ?_) (fun h_21 => ?_)
    · skip
      have why : zs_cx (zs_np X.2.1) x = none ∨ zs_cx (zs_np X.2.1) y = none ∨ x = y ∨ ¬ (zs_isD (Int32.toInt64 mo * 30) ∧ zs_ck X.2.1 ≤ (Int32.toInt64 mo * 30)) := Or.inr (Or.inl (zs_cx_none (zs_i0 hr_18 h_21)))
      refine lv_bipush (v := (-2)) hx hb dX6_settle_55 (by decide) ?_
      exact zk_zret hx hb hr hlocks (by first | rfl | decide) hH hS (by decide) (by decide) (zs_qno hR (zs_fsettle_no hnp why)) dX6_settle_57
    · skip
      refine lv_iload_n hx hb dX6_settle_24 rfl (lv_at hl 2 rfl) ?_
      refine lv_if_eq (tgt := 55) hx hb dX6_settle_25 (by decide) (fun h_25 => ?_) (fun h_25 => ?_)
      · skip
        have why : zs_cx (zs_np X.2.1) x = none ∨ zs_cx (zs_np X.2.1) y = none ∨ x = y ∨ ¬ (zs_isD (Int32.toInt64 mo * 30) ∧ zs_ck X.2.1 ≤ (Int32.toInt64 mo * 30)) := Or.inl (if_pos h_25)
        refine lv_bipush (v := (-2)) hx hb dX6_settle_55 (by decide) ?_
        exact zk_zret hx hb hr hlocks (by first | rfl | decide) hH hS (by decide) (by decide) (zs_qno hR (zs_fsettle_no hnp why)) dX6_settle_57
      · skip
        refine lv_iload_n hx hb dX6_settle_28 rfl (lv_at hl 3 rfl) ?_
        refine lv_if_eq (tgt := 55) hx hb dX6_settle_29 (by decide) (fun h_29 => ?_) (fun h_29 => ?_)
        · skip
          have why : zs_cx (zs_np X.2.1) x = none ∨ zs_cx (zs_np X.2.1) y = none ∨ x = y ∨ ¬ (zs_isD (Int32.toInt64 mo * 30) ∧ zs_ck X.2.1 ≤ (Int32.toInt64 mo * 30)) := Or.inr (Or.inl (if_pos h_29))
          refine lv_bipush (v := (-2)) hx hb dX6_settle_55 (by decide) ?_
          exact zk_zret hx hb hr hlocks (by first | rfl | decide) hH hS (by decide) (by decide) (zs_qno hR (zs_fsettle_no hnp why)) dX6_settle_57
        · skip
          refine lv_iload_n hx hb dX6_settle_32 rfl (lv_at hl 2 rfl) ?_
          refine lv_iload_n hx hb dX6_settle_33 rfl (lv_at hl 3 rfl) ?_
          refine lv_icmp_eq (tgt := 55) hx hb dX6_settle_34 (by decide) (fun h_34 => ?_) (fun h_34 => ?_)
          · skip
            have why : zs_cx (zs_np X.2.1) x = none ∨ zs_cx (zs_np X.2.1) y = none ∨ x = y ∨ ¬ (zs_isD (Int32.toInt64 mo * 30) ∧ zs_ck X.2.1 ≤ (Int32.toInt64 mo * 30)) := Or.inr (Or.inr (Or.inl h_34))
            refine lv_bipush (v := (-2)) hx hb dX6_settle_55 (by decide) ?_
            exact zk_zret hx hb hr hlocks (by first | rfl | decide) hH hS (by decide) (by decide) (zs_qno hR (zs_fsettle_no hnp why)) dX6_settle_57
          · skip
            refine lv_lload hx hb dX6_settle_37 (lv_at hl 0 rfl) ?_
            refine vp_callSi (W.runS (As := [.long ((Int32.toInt64 mo) * 30)]) (rest := []) ⟨hx, hb, hml, hown, hts⟩ (zc_X6_isDay l (Int32.toInt64 mo * 30)) (va_cwS 1 hts gX6_settle_X6_isDay rfl rfl rfl (by decide +kernel) ⟨Nat.le_of_ble_eq_true rfl, Nat.le_of_ble_eq_true rfl⟩) (zk_preS hH hK hN) rfl rfl hl.1 rfl (lv_room (Nat.le_of_ble_eq_true rfl)) dX6_settle_39 ⟨(Nat.le_of_ble_eq_true rfl), (Nat.le_of_ble_eq_true rfl)⟩) (fun r_39 hr_39 => ?_)
            refine lv_if_eq (tgt := 55) hx hb dX6_settle_42 (by decide) (fun h_42 => ?_) (fun h_42 => ?_)
            · skip
              have why : zs_cx (zs_np X.2.1) x = none ∨ zs_cx (zs_np X.2.1) y = none ∨ x = y ∨ ¬ (zs_isD (Int32.toInt64 mo * 30) ∧ zs_ck X.2.1 ≤ (Int32.toInt64 mo * 30)) := Or.inr (Or.inr (Or.inr (fun q => zs_b0 hr_39 h_42 q.1)))
              refine lv_bipush (v := (-2)) hx hb dX6_settle_55 (by decide) ?_
              exact zk_zret hx hb hr hlocks (by first | rfl | decide) hH hS (by decide) (by decide) (zs_qno hR (zs_fsettle_no hnp why)) dX6_settle_57
            · skip
              refine lv_lload hx hb dX6_settle_45 (lv_at hl 0 rfl) ?_
              refine lv_aload_n hx hb dX6_settle_47 rfl (lv_at hl 1 rfl) ?_
              refine zk_get (ci := 6) (v := .long (zs_ck X.2.1)) (C := RX6) (T := TX6) (N := 20) hx hb hts inw_wsX6_settle_6 hown hK hH (hR.1 (8, 0, 0) ⟨by decide, rfl⟩) rfl 2 (by decide) (hts (.fieldLink RX6 81 "KegDepositsModel" "clock" "J") (by decide +kernel)) rfl dX6_settle_48 ?_
              refine zk_lc_ge (tgt := 58) hx hb dX6_settle_51 dX6_settle_52 (by decide) (fun h_51 => ?_) (fun h_51 => ?_)
              · skip
                have hmay : zs_isD (Int32.toInt64 mo * 30) ∧ zs_ck X.2.1 ≤ (Int32.toInt64 mo * 30) := ⟨zs_b1 hr_39 h_42, h_51⟩
                obtain ⟨p, hxp⟩ := zs_i1 hr_10 h_13
                obtain ⟨q, hy⟩ := zs_i1 hr_18 h_21
                have hxp := zs_cx_of hxp h_25
                have hy := zs_cx_of hy h_29
                obtain ⟨hp, ex, hp0⟩ := zs_cx_some (by omega) hxp
                obtain ⟨hq, ey, hq0⟩ := zs_cx_some (by omega) hy
                have hpq : ¬ p = q := fun e => h_34 (by rw [ex, ey, e])
                subst ex
                subst ey
                refine lv_aload_n hx hb dX6_settle_58 rfl (lv_at hl 1 rfl) ?_
                refine lv_lload hx hb dX6_settle_59 (lv_at hl 0 rfl) ?_
                refine zk_put (ci := 6) (v := .long ((Int32.toInt64 mo) * 30)) (C := RX6) (T := TX6) (N := 20) hx hb hts inw_wsX6_settle_6 tyX6 tyX6_ok nmX6 hown hK hH hS (hR.1 (8, 0, 0) ⟨by decide, rfl⟩) rfl 2 (by decide) (hts (.fieldLink RX6 81 "KegDepositsModel" "clock" "J") (by decide +kernel)) rfl rfl rfl (Nat.le_of_ble_eq_true rfl) dX6_settle_61 (fun H locs hH hS => ?_)
                obtain ⟨M_61, eM_61⟩ : ∃ w_0 : zk_M, w_0 = zk_up M (Z (8, 0, 0)) (.inr (6, [.int (nI (zs_np X.2.1)), .int (nI (zs_nk X.2.1)), .long ((Int32.toInt64 mo) * 30), .ref (Z (8, 1, 0)), .ref (Z (8, 2, 0)), .ref (Z (8, 3, 0)), .ref (Z (8, 4, 0)), .ref (Z (8, 5, 0)), .ref (Z (8, 6, 0)), .int (nI (zs_nl X.2.1)), .ref (Z (8, 7, 0)), .ref (Z (8, 8, 0)), .ref (Z (8, 9, 0)), .ref (Z (8, 10, 0)), .ref (Z (8, 11, 0)), .int (nI (zs_nc X.2.1)), .ref (Z (8, 12, 0)), .ref (Z (8, 13, 0)), .ref (Z (8, 14, 0)), .ref (Z (8, 15, 0))])) := ⟨_, rfl⟩
                have hH : zk_H g z M_61 H := by rw [eM_61]; exact hH
                have hR_61 : zs_R g ((X.1, (zs_np X.2.1, zs_nk X.2.1, zs_nl X.2.1, zs_nc X.2.1, ((Int32.toInt64 mo) * 30), zs_pn X.2.1, zs_pd X.2.1, zs_pc X.2.1, zs_sh X.2.1, zs_rs X.2.1, zs_lp X.2.1, zs_lk X.2.1, zs_ll X.2.1, zs_ld X.2.1, zs_lc X.2.1, zs_tp X.2.1, zs_tt X.2.1, zs_ta X.2.1, zs_td X.2.1), X.2.2) : zs_X) Z M_61 := by rw [eM_61]; exact zs_Rm_ck (X := X) hR ((Int32.toInt64 mo) * 30)
                refine lv_aload_n hx hb dX6_settle_64 rfl (lv_at hl 1 rfl) ?_
                refine lv_iload_n hx hb dX6_settle_65 rfl (lv_at hl 2 rfl) ?_
                refine lv_lload hx hb dX6_settle_66 (lv_at hl 0 rfl) ?_
                refine vp_callSl (W.runV (As := [.int (nI p), .long ((Int32.toInt64 mo) * 30)]) (rest := []) ⟨hx, hb, hml, hown, hts⟩ (zc_X6_worth l (X := ((X.1, (zs_np X.2.1, zs_nk X.2.1, zs_nl X.2.1, zs_nc X.2.1, ((Int32.toInt64 mo) * 30), zs_pn X.2.1, zs_pd X.2.1, zs_pc X.2.1, zs_sh X.2.1, zs_rs X.2.1, zs_lp X.2.1, zs_lk X.2.1, zs_ll X.2.1, zs_ld X.2.1, zs_lc X.2.1, zs_tp X.2.1, zs_tt X.2.1, zs_ta X.2.1, zs_td X.2.1), X.2.2) : zs_X)) hR_61 hl2 hbb hnk hI.2.1.1 (p := p) (by omega) (Int32.toInt64 mo * 30)) (cwV 2 hts gX6_settle_X6_worth rfl rfl rfl (by decide +kernel) ⟨Nat.le_of_ble_eq_true rfl, Nat.le_of_ble_eq_true rfl⟩) (zk_preV hH hK hN (hR_61.1 (8, 0, 0) ⟨by decide, rfl⟩) rfl) rfl rfl hl.1 rfl (lv_room (Nat.le_of_ble_eq_true rfl)) dX6_settle_68 ⟨(Nat.le_of_ble_eq_true rfl), (Nat.le_of_ble_eq_true rfl)⟩) (fun r_68 hr_68 => ?_)
                have hr_68 : r_68 = zs_worth X.2.1 p (Int32.toInt64 mo * 30) := hr_68
                subst hr_68
                refine lv_aload_n hx hb dX6_settle_71 rfl (lv_at hl 1 rfl) ?_
                refine lv_iload_n hx hb dX6_settle_72 rfl (lv_at hl 3 rfl) ?_
                refine lv_lload hx hb dX6_settle_73 (lv_at hl 0 rfl) ?_
                refine vp_callSl (W.runV (As := [.int (nI q), .long ((Int32.toInt64 mo) * 30)]) (rest := [.long (zs_worth X.2.1 p (Int32.toInt64 mo * 30))]) ⟨hx, hb, hml, hown, hts⟩ (zc_X6_worth l (X := ((X.1, (zs_np X.2.1, zs_nk X.2.1, zs_nl X.2.1, zs_nc X.2.1, ((Int32.toInt64 mo) * 30), zs_pn X.2.1, zs_pd X.2.1, zs_pc X.2.1, zs_sh X.2.1, zs_rs X.2.1, zs_lp X.2.1, zs_lk X.2.1, zs_ll X.2.1, zs_ld X.2.1, zs_lc X.2.1, zs_tp X.2.1, zs_tt X.2.1, zs_ta X.2.1, zs_td X.2.1), X.2.2) : zs_X)) hR_61 hl2 hbb hnk hI.2.1.1 (p := q) (by omega) (Int32.toInt64 mo * 30)) (cwV 2 hts gX6_settle_X6_worth rfl rfl rfl (by decide +kernel) ⟨Nat.le_of_ble_eq_true rfl, Nat.le_of_ble_eq_true rfl⟩) (zk_preV hH hK hN (hR_61.1 (8, 0, 0) ⟨by decide, rfl⟩) rfl) rfl rfl hl.1 rfl (lv_room (Nat.le_of_ble_eq_true rfl)) dX6_settle_75 ⟨(Nat.le_of_ble_eq_true rfl), (Nat.le_of_ble_eq_true rfl)⟩) (fun r_75 hr_75 => ?_)
                have hr_75 : r_75 = zs_worth X.2.1 q (Int32.toInt64 mo * 30) := hr_75
                subst hr_75
                refine lv_lsub hx hb dX6_settle_78 ?_
                refine lv_topl (fun df edf => ?_)
                refine lv_lstore (lv' := [(6, .long df), (4, .long ((Int32.toInt64 mo) * 30)), (0, .ref (Z (8, 0, 0))), (1, .int (nI p)), (2, .int (nI q)), (3, .int mo)]) hx hb dX6_settle_79 hl (by decide) rfl (fun ls hl => ?_)
                refine lv_lload hx hb dX6_settle_81 (lv_at hl 0 rfl) ?_
                refine lv_lconst (v := 0) hx hb dX6_settle_83 (by decide) ?_
                refine zk_lc_ge (tgt := 94) hx hb dX6_settle_84 dX6_settle_85 (by decide) (fun h_84 => ?_) (fun h_84 => ?_)
                · skip
                  refine lv_lload hx hb dX6_settle_94 (lv_at hl 0 rfl) ?_
                  refine lv_ldc2 (v := 2) hx hb hown (hts (.constantLong RX6 115 (2)) (by decide +kernel)) dX6_settle_96 ?_
                  refine lv_ldiv hx hb dX6_settle_99 (by decide) ?_
                  refine lv_topl (fun ha eha => ?_)
                  refine lv_lstore (lv' := [(8, .long ha), (6, .long df), (4, .long ((Int32.toInt64 mo) * 30)), (0, .ref (Z (8, 0, 0))), (1, .int (nI p)), (2, .int (nI q)), (3, .int mo)]) hx hb dX6_settle_100 hl (by decide) rfl (fun ls hl => ?_)
                  refine lv_aload_n hx hb dX6_settle_102 rfl (lv_at hl 3 rfl) ?_
                  refine lv_lload hx hb dX6_settle_103 (lv_at hl 1 rfl) ?_
                  refine lv_lconst (v := 0) hx hb dX6_settle_105 (by decide) ?_
                  refine zk_lc_ge (tgt := 114) hx hb dX6_settle_106 dX6_settle_107 (by decide) (fun h_106 => ?_) (fun h_106 => ?_)
                  · skip
                    refine lv_iload_n hx hb dX6_settle_114 rfl (lv_at hl 4 rfl) ?_
                    refine lv_lload hx hb dX6_settle_115 (lv_at hl 1 rfl) ?_
                    refine lv_lconst (v := 0) hx hb dX6_settle_117 (by decide) ?_
                    refine zk_lc_ge (tgt := 126) hx hb dX6_settle_118 dX6_settle_119 (by decide) (fun h_118 => ?_) (fun h_118 => ?_)
                    · skip
                      refine lv_iload_n hx hb dX6_settle_126 rfl (lv_at hl 5 rfl) ?_
                      refine lv_lload hx hb dX6_settle_127 (lv_at hl 0 rfl) ?_
                      refine lv_lload hx hb dX6_settle_129 (lv_at hl 2 rfl) ?_
                      refine zk_callv (va_runV (As := [.int (nI p), .int (nI q), .long ha, .long ((Int32.toInt64 mo) * 30)]) (rest := []) ⟨hx, hb, hml, hown, hts⟩ (zc_X6_move l (X := ((X.1, (zs_np X.2.1, zs_nk X.2.1, zs_nl X.2.1, zs_nc X.2.1, ((Int32.toInt64 mo) * 30), zs_pn X.2.1, zs_pd X.2.1, zs_pc X.2.1, zs_sh X.2.1, zs_rs X.2.1, zs_lp X.2.1, zs_lk X.2.1, zs_ll X.2.1, zs_ld X.2.1, zs_lc X.2.1, zs_tp X.2.1, zs_tt X.2.1, zs_ta X.2.1, zs_td X.2.1), X.2.2) : zs_X)) hR_61 (show zs_nc X.2.1 < 4100 by omega) p q ha (Int32.toInt64 mo * 30)) (cwV 4 hts gX6_settle_X6_move rfl rfl rfl (by decide +kernel) ⟨Nat.le_of_ble_eq_true rfl, Nat.le_of_ble_eq_true rfl⟩) (zk_preV hH hK hN (hR_61.1 (8, 0, 0) ⟨by decide, rfl⟩) rfl) rfl rfl hl.1 rfl (lv_room (Nat.le_of_ble_eq_true rfl)) dX6_settle_131 ⟨(Nat.le_of_ble_eq_true rfl), (Nat.le_of_ble_eq_true rfl)⟩) hS (fun u_131 H locs hH hr_131 hS => ?_)
                      have hR_131 : zs_R g ((X.1, (zs_np X.2.1, zs_nk X.2.1, zs_nl X.2.1, (zs_nc X.2.1 + 1), ((Int32.toInt64 mo) * 30), zs_pn X.2.1, zs_pd X.2.1, zs_pc X.2.1, zs_sh X.2.1, zs_rs X.2.1, zs_lp X.2.1, zs_lk X.2.1, zs_ll X.2.1, zs_ld X.2.1, zs_lc X.2.1, (va_up (zs_tp X.2.1) (zs_nc X.2.1) p), (va_up (zs_tt X.2.1) (zs_nc X.2.1) q), (vp_updL (zs_ta X.2.1) (zs_nc X.2.1) ha), (vp_updL (zs_td X.2.1) (zs_nc X.2.1) (Int32.toInt64 mo * 30))), X.2.2) : zs_X) Z u_131 := hr_131
                      refine lv_lload hx hb dX6_settle_134 (lv_at hl 0 rfl) ?_
                      refine lv_lconst (v := 0) hx hb dX6_settle_136 (by decide) ?_
                      refine zk_lc_ne (tgt := 145) hx hb dX6_settle_137 dX6_settle_138 (by decide) (fun h_137 => ?_) (fun h_137 => ?_)
                      · skip
                        refine lv_lload hx hb dX6_settle_145 (lv_at hl 1 rfl) ?_
                        refine lv_lconst (v := 0) hx hb dX6_settle_147 (by decide) ?_
                        refine zk_lc_ge (tgt := 156) hx hb dX6_settle_148 dX6_settle_149 (by decide) (fun h_148 => ?_) (fun h_148 => ?_)
                        · skip
                          refine lv_iconst (v := 1) hx hb dX6_settle_156 (by decide) ?_
                          exact zk_zret hx hb hr hlocks (by first | rfl | decide) hH hS (by decide) (by decide) (by have hpos : 0 < df := zs_pos0 h_84 (fun q => h_137 (by rw [eha]; exact q)); exact zs_qyes (S := zs_mv X.2.1 p q ha (Int32.toInt64 mo * 30)) (by simp only [zs_fsettle, hxp, hy]; rw [if_pos ⟨hpq, hmay⟩, ← edf, zs_half0 h_84, ← eha]; simp only [hpos, h_137, h_84, decide_true, decide_false, if_true, if_false, Bool.false_eq_true]) ⟨_, hR_131⟩) dX6_settle_157
                        · skip
                          exact absurd h_84 h_148
                      · skip
                        refine lv_iconst (v := 0) hx hb dX6_settle_141 (by decide) ?_
                        refine lv_goto (tgt := 157) hx hb dX6_settle_142 (by decide) ?_
                        exact zk_zret hx hb hr hlocks (by first | rfl | decide) hH hS (by decide) (by decide) (by exact zs_qyes (S := zs_mv X.2.1 p q ha (Int32.toInt64 mo * 30)) (by simp only [zs_fsettle, hxp, hy]; rw [if_pos ⟨hpq, hmay⟩, ← edf, zs_half0 h_84, ← eha]; simp only [h_137, h_84, decide_true, decide_false, if_true, if_false, Bool.false_eq_true]) ⟨_, hR_131⟩) dX6_settle_157
                    · skip
                      exact absurd h_84 h_118
                  · skip
                    exact absurd h_84 h_106
                · skip
                  refine lv_lload hx hb dX6_settle_88 (lv_at hl 0 rfl) ?_
                  refine lv_lneg hx hb dX6_settle_90 ?_
                  refine lv_goto (tgt := 96) hx hb dX6_settle_91 (by decide) ?_
                  refine lv_ldc2 (v := 2) hx hb hown (hts (.constantLong RX6 115 (2)) (by decide +kernel)) dX6_settle_96 ?_
                  refine lv_ldiv hx hb dX6_settle_99 (by decide) ?_
                  refine lv_topl (fun ha eha => ?_)
                  refine lv_lstore (lv' := [(8, .long ha), (6, .long df), (4, .long ((Int32.toInt64 mo) * 30)), (0, .ref (Z (8, 0, 0))), (1, .int (nI p)), (2, .int (nI q)), (3, .int mo)]) hx hb dX6_settle_100 hl (by decide) rfl (fun ls hl => ?_)
                  refine lv_aload_n hx hb dX6_settle_102 rfl (lv_at hl 3 rfl) ?_
                  refine lv_lload hx hb dX6_settle_103 (lv_at hl 1 rfl) ?_
                  refine lv_lconst (v := 0) hx hb dX6_settle_105 (by decide) ?_
                  refine zk_lc_ge (tgt := 114) hx hb dX6_settle_106 dX6_settle_107 (by decide) (fun h_106 => ?_) (fun h_106 => ?_)
                  · skip
                    exact absurd h_106 h_84
                  · skip
                    refine lv_iload_n hx hb dX6_settle_110 rfl (lv_at hl 5 rfl) ?_
                    refine lv_goto (tgt := 115) hx hb dX6_settle_111 (by decide) ?_
                    refine lv_lload hx hb dX6_settle_115 (lv_at hl 1 rfl) ?_
                    refine lv_lconst (v := 0) hx hb dX6_settle_117 (by decide) ?_
                    refine zk_lc_ge (tgt := 126) hx hb dX6_settle_118 dX6_settle_119 (by decide) (fun h_118 => ?_) (fun h_118 => ?_)
                    · skip
                      exact absurd h_118 h_84
                    · skip
                      refine lv_iload_n hx hb dX6_settle_122 rfl (lv_at hl 4 rfl) ?_
                      refine lv_goto (tgt := 127) hx hb dX6_settle_123 (by decide) ?_
                      refine lv_lload hx hb dX6_settle_127 (lv_at hl 0 rfl) ?_
                      refine lv_lload hx hb dX6_settle_129 (lv_at hl 2 rfl) ?_
                      refine zk_callv (va_runV (As := [.int (nI q), .int (nI p), .long ha, .long ((Int32.toInt64 mo) * 30)]) (rest := []) ⟨hx, hb, hml, hown, hts⟩ (zc_X6_move l (X := ((X.1, (zs_np X.2.1, zs_nk X.2.1, zs_nl X.2.1, zs_nc X.2.1, ((Int32.toInt64 mo) * 30), zs_pn X.2.1, zs_pd X.2.1, zs_pc X.2.1, zs_sh X.2.1, zs_rs X.2.1, zs_lp X.2.1, zs_lk X.2.1, zs_ll X.2.1, zs_ld X.2.1, zs_lc X.2.1, zs_tp X.2.1, zs_tt X.2.1, zs_ta X.2.1, zs_td X.2.1), X.2.2) : zs_X)) hR_61 (show zs_nc X.2.1 < 4100 by omega) q p ha (Int32.toInt64 mo * 30)) (cwV 4 hts gX6_settle_X6_move rfl rfl rfl (by decide +kernel) ⟨Nat.le_of_ble_eq_true rfl, Nat.le_of_ble_eq_true rfl⟩) (zk_preV hH hK hN (hR_61.1 (8, 0, 0) ⟨by decide, rfl⟩) rfl) rfl rfl hl.1 rfl (lv_room (Nat.le_of_ble_eq_true rfl)) dX6_settle_131 ⟨(Nat.le_of_ble_eq_true rfl), (Nat.le_of_ble_eq_true rfl)⟩) hS (fun u_131 H locs hH hr_131 hS => ?_)
                      have hR_131 : zs_R g ((X.1, (zs_np X.2.1, zs_nk X.2.1, zs_nl X.2.1, (zs_nc X.2.1 + 1), ((Int32.toInt64 mo) * 30), zs_pn X.2.1, zs_pd X.2.1, zs_pc X.2.1, zs_sh X.2.1, zs_rs X.2.1, zs_lp X.2.1, zs_lk X.2.1, zs_ll X.2.1, zs_ld X.2.1, zs_lc X.2.1, (va_up (zs_tp X.2.1) (zs_nc X.2.1) q), (va_up (zs_tt X.2.1) (zs_nc X.2.1) p), (vp_updL (zs_ta X.2.1) (zs_nc X.2.1) ha), (vp_updL (zs_td X.2.1) (zs_nc X.2.1) (Int32.toInt64 mo * 30))), X.2.2) : zs_X) Z u_131 := hr_131
                      refine lv_lload hx hb dX6_settle_134 (lv_at hl 0 rfl) ?_
                      refine lv_lconst (v := 0) hx hb dX6_settle_136 (by decide) ?_
                      refine zk_lc_ne (tgt := 145) hx hb dX6_settle_137 dX6_settle_138 (by decide) (fun h_137 => ?_) (fun h_137 => ?_)
                      · skip
                        refine lv_lload hx hb dX6_settle_145 (lv_at hl 1 rfl) ?_
                        refine lv_lconst (v := 0) hx hb dX6_settle_147 (by decide) ?_
                        refine zk_lc_ge (tgt := 156) hx hb dX6_settle_148 dX6_settle_149 (by decide) (fun h_148 => ?_) (fun h_148 => ?_)
                        · skip
                          exact absurd h_148 h_84
                        · skip
                          refine lv_iconst (v := (-1)) hx hb dX6_settle_152 (by decide) ?_
                          refine lv_goto (tgt := 157) hx hb dX6_settle_153 (by decide) ?_
                          exact zk_zret hx hb hr hlocks (by first | rfl | decide) hH hS (by decide) (by decide) (by have hpos : ¬ 0 < df := fun q => h_84 (Int64.le_of_lt q); exact zs_qyes (S := zs_mv X.2.1 q p ha (Int32.toInt64 mo * 30)) (by simp only [zs_fsettle, hxp, hy]; rw [if_pos ⟨hpq, hmay⟩, ← edf, zs_half1 h_84, ← eha]; simp only [hpos, h_137, h_84, decide_true, decide_false, if_true, if_false, Bool.false_eq_true]) ⟨_, hR_131⟩) dX6_settle_157
                      · skip
                        refine lv_iconst (v := 0) hx hb dX6_settle_141 (by decide) ?_
                        refine lv_goto (tgt := 157) hx hb dX6_settle_142 (by decide) ?_
                        exact zk_zret hx hb hr hlocks (by first | rfl | decide) hH hS (by decide) (by decide) (by have hpos : ¬ 0 < df := fun q => h_84 (Int64.le_of_lt q); exact zs_qyes (S := zs_mv X.2.1 q p ha (Int32.toInt64 mo * 30)) (by simp only [zs_fsettle, hxp, hy]; rw [if_pos ⟨hpq, hmay⟩, ← edf, zs_half1 h_84, ← eha]; simp only [hpos, h_137, h_84, decide_true, decide_false, if_true, if_false, Bool.false_eq_true]) ⟨_, hR_131⟩) dX6_settle_157
              · skip
                have why : zs_cx (zs_np X.2.1) x = none ∨ zs_cx (zs_np X.2.1) y = none ∨ x = y ∨ ¬ (zs_isD (Int32.toInt64 mo * 30) ∧ zs_ck X.2.1 ≤ (Int32.toInt64 mo * 30)) := Or.inr (Or.inr (Or.inr (fun q => h_51 q.2)))
                refine lv_bipush (v := (-2)) hx hb dX6_settle_55 (by decide) ?_
                exact zk_zret hx hb hr hlocks (by first | rfl | decide) hH hS (by decide) (by decide) (zs_qno hR (zs_fsettle_no hnp why)) dX6_settle_57

theorem inw_wsX6_rest_6 : ∀ w ∈ u_ws RX6 TX6 20, w ∈ wsX6_rest := by decide +kernel
set_option maxHeartbeats 4000000 in
set_option maxRecDepth 100000 in
theorem zc_X6_rest (l : Launch) {g : zk_G} {z : Nat} {M : zk_M} {X : zs_X} {Z : zs_Z} {n : Nat} (hR : zs_R g X Z M) (hI : zs_I X.2.1 n) (hn : n ≤ 512) (y part : Int32) : Met l yX6_rest wsX6_rest ({ frames := 1, cells := 0, slots := 0, locals := 21 } : Room) (va_Pc [.ref (Z (8, 0, 0)), .int y, .int part] (zk_U g z M)) (vp_Sl (fun r => r = zs_frest X.2.1 y part)) 0 0 (fun _ => False) := by
  refine Met.ofW (cc := cX6_rest) (maxL := 9) (ret := (some .long)) (by decide) rfl ?_
  intro P0 e0 s m0 args below meth c0 s₁ B hml hv
  obtain ⟨rfl, hH, hK, hN⟩ := hv
  have hx := B.exec
  have hb := B.bytes
  have hr := B.returns
  have hts := atoms_spec (ws := wsX6_rest) B.pre
  have hown : s.vm.findClass RX6 = some m0.cls := findClass_of_methodNamed B.named
  have hlocks := B.notSynchronized
  have hl := lv_entry ([.ref (Z (8, 0, 0)), .int y, .int part]) (n := 9) (Nat.le_of_ble_eq_true rfl)
  rw [lg_entry_eq]
  generalize (lg_sl ([.ref (Z (8, 0, 0)), .int y, .int part]) ++ List.replicate (9 - (lg_sl ([.ref (Z (8, 0, 0)), .int y, .int part])).length) Slot.unset).toArray = ls at hl ⊢
  have hl : lv_has ls 9 [(0, .ref (Z (8, 0, 0))), (1, .int y), (2, .int part)] := hl
  have hnp : zs_np X.2.1 ≤ 24 := hI.1.2.1
  have hnk : zs_nk X.2.1 ≤ 12 := hI.1.2.2.1
  have hl1 : zs_nl X.2.1 ≤ 512 := Nat.le_trans hI.1.2.2.2.1 hn
  have hl2 : zs_nl X.2.1 ≤ 4100 := by omega
  have hc1 : zs_nc X.2.1 ≤ 512 := Nat.le_trans hI.1.2.2.2.2.1 hn
  have hbb : ∀ i, i < zs_nl X.2.1 → zs_lp X.2.1 i < 2 ^ 31 ∧ zs_lk X.2.1 i < 2 ^ 31 := fun i hi => by
    obtain ⟨a1, a2, -⟩ := hI.2.2.1.1 i hi
    omega
  refine lv_aload_n hx hb dX6_rest_0 rfl (lv_at hl 0 rfl) ?_
  refine lv_iload_n hx hb dX6_rest_1 rfl (lv_at hl 1 rfl) ?_
  refine vp_callSi (W.runV (As := [.int y]) (rest := []) ⟨hx, hb, hml, hown, hts⟩ (zc_X6_isKind l hR y) (cwV 1 hts gX6_rest_X6_isKind rfl rfl rfl (by decide +kernel) ⟨Nat.le_of_ble_eq_true rfl, Nat.le_of_ble_eq_true rfl⟩) (zk_preV hH hK hN (hR.1 (8, 0, 0) ⟨by decide, rfl⟩) rfl) rfl rfl hl.1 rfl (lv_room (Nat.le_of_ble_eq_true rfl)) dX6_rest_2 ⟨(Nat.le_of_ble_eq_true rfl), (Nat.le_of_ble_eq_true rfl)⟩) (fun r_2 hr_2 => ?_)
  refine lv_if_eq (tgt := 17) hx hb dX6_rest_5 (by decide) (fun h_5 => ?_) (fun h_5 => ?_)
  · skip
    have hy : zs_ix (zs_nk X.2.1) y = none := zs_i0 hr_2 h_5
    refine lv_ldc2 (v := (-1)) hx hb hown (hts (.constantLong RX6 73 (-1)) (by decide +kernel)) dX6_rest_17 ?_
    exact zk_lretS hx hb hr hlocks (by simp only [zs_frest, hy]) dX6_rest_20
  · skip
    obtain ⟨k, hy⟩ := zs_i1 hr_2 h_5
    obtain ⟨hk, ey⟩ := zs_ix_some (by omega) hy
    subst ey
    refine lv_iload_n hx hb dX6_rest_8 rfl (lv_at hl 2 rfl) ?_
    refine lv_if_lt (tgt := 17) hx hb dX6_rest_9 (by decide) (fun h_9 => ?_) (fun h_9 => ?_)
    · skip
      refine lv_ldc2 (v := (-1)) hx hb hown (hts (.constantLong RX6 73 (-1)) (by decide +kernel)) dX6_rest_17 ?_
      exact zk_lretS hx hb hr hlocks (by simp only [zs_frest, hy]; rw [if_pos (Or.inl h_9)]) dX6_rest_20
    · skip
      refine lv_iload_n hx hb dX6_rest_12 rfl (lv_at hl 2 rfl) ?_
      refine lv_iconst (v := 1) hx hb dX6_rest_13 (by decide) ?_
      refine lv_icmp_le (tgt := 21) hx hb dX6_rest_14 (by decide) (fun h_14 => ?_) (fun h_14 => ?_)
      · skip
        obtain ⟨b0, b1⟩ := (hI.2.1.2.2.1 k).2.2
        have hrn : zs_rs X.2.1 k = lN (zs_rn X.2.1 k) ∧ zs_rn X.2.1 k < 10000 := zs_rn_of b0 b1
        refine lv_ldc2 (v := 10000) hx hb hown (hts (.constantLong RX6 108 (10000)) (by decide +kernel)) dX6_rest_21 ?_
        refine lv_lstore_n (lv' := [(3, .long 10000), (0, .ref (Z (8, 0, 0))), (1, .int (nI k)), (2, .int part)]) hx hb dX6_rest_24 rfl hl (by decide) rfl (fun ls hl => ?_)
        refine lv_aload_n hx hb dX6_rest_25 rfl (lv_at hl 1 rfl) ?_
        refine zk_get (ci := 6) (v := .ref (Z (8, 5, 0))) (C := RX6) (T := TX6) (N := 20) hx hb hts inw_wsX6_rest_6 hown hK hH (hR.1 (8, 0, 0) ⟨by decide, rfl⟩) rfl 7 (by decide) (hts (.fieldLink RX6 27 "KegDepositsModel" "rests" "[J") (by decide +kernel)) rfl dX6_rest_26 ?_
        refine lv_iload_n hx hb dX6_rest_29 rfl (lv_at hl 2 rfl) ?_
        refine zk_lald hx hb hK hH (hR.1 (8, 5, 0) ⟨by decide, rfl⟩) (vp_in_nI (show k < 12 by omega) (by decide)) dX6_rest_30 ?_
        refine zk_top (v' := .long (lN (zs_rn X.2.1 k))) (by rw [nI_clamp (by omega), hrn.1]) ?_
        refine lv_lstore (lv' := [(5, .long (lN (zs_rn X.2.1 k))), (3, .long 10000), (0, .ref (Z (8, 0, 0))), (1, .int (nI k)), (2, .int part)]) hx hb dX6_rest_31 hl (by decide) rfl (fun ls hl => ?_)
        have loop : ∀ (n x y : Nat) (ls : Array Slot), y < n → 0 < x → x ≤ 10000 → y ≤ 10000 → Nat.gcd x y = Nat.gcd 10000 (zs_rn X.2.1 k) → lv_has ls 9 [(3, .long (lN x)), (5, .long (lN y)), (0, .ref (Z (8, 0, 0))), (1, .int (nI k)), (2, .int part)] → W P0 l e0 (headSpec wsX6_rest ({ frames := 1, cells := 0, slots := 0, locals := 21 } : Room)).room s m0 ([.ref (Z (8, 0, 0)), .int (nI k), .int part] : List Value).toArray below meth c0 s.heap [] 0 0 (MQ below (vp_Sl (fun r => r = zs_frest X.2.1 (nI k) part)) ([.ref (Z (8, 0, 0)), .int (nI k), .int part] : List Value).toArray s 0 0 (fun _ => False)) (F0 m0 33 ls []) := by
          intro n
          induction n with
          | zero => intro x y ls hn; omega
          | succ n ih =>
            intro x y ls hn hx0 hx1 hy1 hg hl
            refine lv_lload hx hb dX6_rest_33 (lv_at hl 1 rfl) ?_
            refine lv_lconst (v := 0) hx hb dX6_rest_35 (by decide) ?_
            refine zk_lc_le (tgt := 56) hx hb dX6_rest_36 dX6_rest_37 (by decide) (fun h_36 => ?_) (fun h_36 => ?_)
            · skip
              have hy0 : y = 0 := Nat.le_zero.mp ((lN_le (b := 0) (by omega) (by decide)).mp h_36)
              have hxg : x = Nat.gcd 10000 (zs_rn X.2.1 k) := by rw [← hg, hy0, Nat.gcd_zero_right]
              refine lv_iload_n hx hb dX6_rest_56 rfl (lv_at hl 4 rfl) ?_
              refine lv_if_ne (tgt := 71) hx hb dX6_rest_57 (by decide) (fun h_57 => ?_) (fun h_57 => ?_)
              · skip
                refine lv_ldc2 (v := 10000) hx hb hown (hts (.constantLong RX6 108 (10000)) (by decide +kernel)) dX6_rest_71 ?_
                refine lv_lload_n hx hb dX6_rest_74 rfl (lv_at hl 0 rfl) ?_
                refine lv_ldiv hx hb dX6_rest_75 (fun q => absurd ((lN_eq (b := 0) (by omega) (by decide)).mp q) (by omega)) ?_
                exact zk_lretS hx hb hr hlocks (by simp only [zs_frest, hy]; rw [if_neg (fun q => q.elim (fun q => absurd q h_9) (fun q => absurd h_14 (Int32.not_le.mpr q))), if_neg h_57, ← hxg]; exact pk_lDiv (a := 10000) (by omega) hx0 (by omega)) dX6_rest_76
              · skip
                refine lv_aload_n hx hb dX6_rest_60 rfl (lv_at hl 2 rfl) ?_
                refine zk_get (ci := 6) (v := .ref (Z (8, 5, 0))) (C := RX6) (T := TX6) (N := 20) hx hb hts inw_wsX6_rest_6 hown hK hH (hR.1 (8, 0, 0) ⟨by decide, rfl⟩) rfl 7 (by decide) (hts (.fieldLink RX6 27 "KegDepositsModel" "rests" "[J") (by decide +kernel)) rfl dX6_rest_61 ?_
                refine lv_iload_n hx hb dX6_rest_64 rfl (lv_at hl 3 rfl) ?_
                refine zk_lald hx hb hK hH (hR.1 (8, 5, 0) ⟨by decide, rfl⟩) (vp_in_nI (show k < 12 by omega) (by decide)) dX6_rest_65 ?_
                refine zk_top (v' := .long (lN (zs_rn X.2.1 k))) (by rw [nI_clamp (by omega), hrn.1]) ?_
                refine lv_lload_n hx hb dX6_rest_66 rfl (lv_at hl 0 rfl) ?_
                refine lv_ldiv hx hb dX6_rest_67 (fun q => absurd ((lN_eq (b := 0) (by omega) (by decide)).mp q) (by omega)) ?_
                refine lv_goto (tgt := 76) hx hb dX6_rest_68 (by decide) ?_
                exact zk_lretS hx hb hr hlocks (by simp only [zs_frest, hy]; rw [if_neg (fun q => q.elim (fun q => absurd q h_9) (fun q => absurd h_14 (Int32.not_le.mpr q))), if_pos h_57, ← hxg]; exact pk_lDiv (by omega) hx0 (by omega)) dX6_rest_76
            · skip
              have hy0 : 0 < y := Nat.pos_of_ne_zero (fun q => h_36 (by rw [q]; decide))
              have hmod := Nat.mod_lt x hy0
              refine lv_lload_n hx hb dX6_rest_40 rfl (lv_at hl 0 rfl) ?_
              refine lv_lload hx hb dX6_rest_41 (lv_at hl 1 rfl) ?_
              refine lv_lrem hx hb dX6_rest_43 (fun q => absurd ((lN_eq (b := 0) (by omega) (by decide)).mp q) (by omega)) ?_
              refine zk_top (v' := .long (lN (x % y))) (by rw [pk_lRem (by omega) hy0 (by omega)]) ?_
              refine lv_lstore (lv' := [(7, .long (lN (x % y))), (3, .long (lN x)), (5, .long (lN y)), (0, .ref (Z (8, 0, 0))), (1, .int (nI k)), (2, .int part)]) hx hb dX6_rest_44 hl (by decide) rfl (fun ls hl => ?_)
              refine lv_lload hx hb dX6_rest_46 (lv_at hl 2 rfl) ?_
              refine lv_lstore_n (lv' := [(3, .long (lN y)), (7, .long (lN (x % y))), (5, .long (lN y)), (0, .ref (Z (8, 0, 0))), (1, .int (nI k)), (2, .int part)]) hx hb dX6_rest_48 rfl hl (by decide) rfl (fun ls hl => ?_)
              refine lv_lload hx hb dX6_rest_49 (lv_at hl 1 rfl) ?_
              refine lv_lstore (lv' := [(5, .long (lN (x % y))), (3, .long (lN y)), (7, .long (lN (x % y))), (0, .ref (Z (8, 0, 0))), (1, .int (nI k)), (2, .int part)]) hx hb dX6_rest_51 hl (by decide) rfl (fun ls hl => ?_)
              refine lv_goto (tgt := 33) hx hb dX6_rest_53 (by decide) ?_
              exact ih y (x % y) ls (by omega) hy0 hy1 (by omega) (by rw [← hg, Nat.gcd_comm x y, Nat.gcd_rec y x, Nat.gcd_comm]) (lv_sub hl [1, 0, 3, 4, 5] rfl)
        exact loop (zs_rn X.2.1 k + 1) 10000 (zs_rn X.2.1 k) ls (by omega) (by omega) (by omega) (by omega) rfl (lv_sub hl [1, 0, 2, 3, 4] rfl)
      · skip
        refine lv_ldc2 (v := (-1)) hx hb hown (hts (.constantLong RX6 73 (-1)) (by decide +kernel)) dX6_rest_17 ?_
        exact zk_lretS hx hb hr hlocks (by simp only [zs_frest, hy]; rw [if_pos (Or.inr (Int32.not_le.mp h_14))]) dX6_rest_20

set_option maxHeartbeats 4000000 in
set_option maxRecDepth 100000 in
theorem zc_X6_sum (l : Launch) {g : zk_G} {z : Nat} {M : zk_M} {X : zs_X} {Z : zs_Z} {n : Nat} (hR : zs_R g X Z M) (hI : zs_I X.2.1 n) (hn : n ≤ 512) (d : Int64) : Met l yX6_sum wsX6_sum ({ frames := 0, cells := 0, slots := 0, locals := 0 } : Room) (va_Pc [.ref (Z (8, 0, 0)), .long d] (zk_U g z M)) (vp_Sl (fun r => r = 0)) 0 0 (fun _ => False) := by
  refine Met.ofW (cc := cX6_sum) (maxL := 3) (ret := (some .long)) (by decide) rfl ?_
  intro P0 e0 s m0 args below meth c0 s₁ B hml hv
  obtain ⟨rfl, hH, hK, hN⟩ := hv
  have hx := B.exec
  have hb := B.bytes
  have hr := B.returns
  have hts := atoms_spec (ws := wsX6_sum) B.pre
  have hown : s.vm.findClass RX6 = some m0.cls := findClass_of_methodNamed B.named
  have hlocks := B.notSynchronized
  have hl := lv_entry ([.ref (Z (8, 0, 0)), .long d]) (n := 3) (Nat.le_of_ble_eq_true rfl)
  rw [lg_entry_eq]
  generalize (lg_sl ([.ref (Z (8, 0, 0)), .long d]) ++ List.replicate (3 - (lg_sl ([.ref (Z (8, 0, 0)), .long d])).length) Slot.unset).toArray = ls at hl ⊢
  have hl : lv_has ls 3 [(0, .ref (Z (8, 0, 0))), (1, .long d)] := hl
  have hnp : zs_np X.2.1 ≤ 24 := hI.1.2.1
  have hnk : zs_nk X.2.1 ≤ 12 := hI.1.2.2.1
  have hl1 : zs_nl X.2.1 ≤ 512 := Nat.le_trans hI.1.2.2.2.1 hn
  have hl2 : zs_nl X.2.1 ≤ 4100 := by omega
  have hc1 : zs_nc X.2.1 ≤ 512 := Nat.le_trans hI.1.2.2.2.2.1 hn
  have hbb : ∀ i, i < zs_nl X.2.1 → zs_lp X.2.1 i < 2 ^ 31 ∧ zs_lk X.2.1 i < 2 ^ 31 := fun i hi => by
    obtain ⟨a1, a2, -⟩ := hI.2.2.1.1 i hi
    omega
  refine lv_lconst (v := 0) hx hb dX6_sum_0 (by decide) ?_
  exact zk_lretS hx hb hr hlocks rfl dX6_sum_1
