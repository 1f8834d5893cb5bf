theorem zs_tell01 (S : zs_S) (k : Nat) (d c : Int64) : (zs_tell S k d c).1 = 0 ∨ (zs_tell S k d c).1 = 1 := by
  unfold zs_tell
  split
  · exact Or.inr rfl
  · split
    · exact Or.inr rfl
    · exact Or.inl rfl
set_option maxHeartbeats 4000000 in
set_option maxRecDepth 100000 in
theorem zc_X5_balance (l : Launch) {g : zk_G} {z : Nat} {M : zk_M} {X : zs_X} {Z : zs_Z} {n : Nat} (hR : zs_R g X Z M) (hI : zs_I X.1 n) (x : Int32) (d : Int64) : Met l yX5_balance wsX5_balance ({ frames := 2, cells := 0, slots := 0, locals := 47 } : Room) (va_Pc [.ref (Z (0, 0, 0)), .int x, .long d] (zk_U g z M)) (vp_Sl (fun r => r = zs_fbalance X.1 x d)) 0 0 (fun _ => False) := by
  refine Met.ofW (cc := cX5_balance) (maxL := 5) (ret := (some .long)) (by decide) rfl ?_
  intro P0 e0 s m0 args below meth c0 s₁ B hml hv
  obtain ⟨rfl, hH, hK, hN⟩ := hv
  have hx := B.exec
  have hb := B.bytes
  have hr := B.returns
  have hts := atoms_spec (ws := wsX5_balance) B.pre
  have hown : s.vm.findClass RX5 = some m0.cls := findClass_of_methodNamed B.named
  have hlocks := B.notSynchronized
  have hl := lv_entry ([.ref (Z (0, 0, 0)), .int x, .long d]) (n := 5) (Nat.le_of_ble_eq_true rfl)
  rw [lg_entry_eq]
  generalize (lg_sl ([.ref (Z (0, 0, 0)), .int x, .long d]) ++ List.replicate (5 - (lg_sl ([.ref (Z (0, 0, 0)), .int x, .long d])).length) Slot.unset).toArray = ls at hl ⊢
  have hl : lv_has ls 5 [(0, .ref (Z (0, 0, 0))), (1, .int x), (2, .long d)] := hl
  have hO : M (Z (0, 0, 0)) = some (.inr (5, [.ref (Z (3, 0, 0)), .ref (Z (1, 0, 0)), .ref (Z (2, 0, 0)), va_rf (zs_prev (zs_nc X.1) (fun i => Z (7, i, 0))), .int (nI (zs_nc X.1)), .long (zs_ck X.1)])) := hR.1 (0, 0, 0) ⟨rfl, rfl⟩
  refine lv_aload_n hx hb dX5_balance_0 rfl (lv_at hl 0 rfl) ?_
  refine lv_iload_n hx hb dX5_balance_1 rfl (lv_at hl 1 rfl) ?_
  refine va_csq (W.runV (As := [.int x]) (rest := []) ⟨hx, hb, hml, hown, hts⟩ (zc_X5_partyAt l hR hI.1.2.1 x) (cwV 1 hts gX5_balance_X5_partyAt rfl rfl rfl (by decide +kernel) ⟨Nat.le_of_ble_eq_true rfl, Nat.le_of_ble_eq_true rfl⟩) (zk_preV hH hK hN hO rfl) rfl rfl hl.1 rfl (lv_room (Nat.le_of_ble_eq_true rfl)) dX5_balance_2 ⟨(Nat.le_of_ble_eq_true rfl), (Nat.le_of_ble_eq_true rfl)⟩) (fun r_2 hr_2 => ?_)
  cases hx_2 : zs_ix (zs_np X.1) x with
  | none =>
    refine zk_top (v' := .null) (by rw [hr_2, hx_2]; rfl) ?_
    refine lv_astoreN (lv' := [(4, .null), (0, .ref (Z (0, 0, 0))), (1, .int x), (2, .long d)]) hx hb dX5_balance_5 hl (by decide) rfl (fun ls hl => ?_)
    refine lv_aloadN hx hb dX5_balance_7 (lv_at hl 0 rfl) ?_
    refine lv_ifnonnullN hx hb dX5_balance_9 ?_
    refine lv_lconst (v := 0) hx hb dX5_balance_12 (by decide) ?_
    refine lv_goto (tgt := 23) hx hb dX5_balance_13 (by decide) ?_
    exact zk_lretS hx hb hr hlocks (by simp only [zs_fbalance, hx_2]) dX5_balance_23
  | some p =>
    refine zk_top (v' := .ref (Z (3, p, 0))) (by rw [hr_2, hx_2]; rfl) ?_
    obtain ⟨hp, ex_p⟩ := zs_ix_some (by have := hI.1.2.1; have := hI.1.2.2.1; omega) hx_2
    refine lv_astore (lv' := [(4, .ref (Z (3, p, 0))), (0, .ref (Z (0, 0, 0))), (1, .int x), (2, .long d)]) hx hb dX5_balance_5 hl (by decide) rfl (fun ls hl => ?_)
    refine lv_aload hx hb dX5_balance_7 (lv_at hl 0 rfl) ?_
    refine lv_ifnonnull (tgt := 16) hx hb dX5_balance_9 (by decide) ?_
    refine lv_aload_n hx hb dX5_balance_16 rfl (lv_at hl 1 rfl) ?_
    refine lv_aload hx hb dX5_balance_17 (lv_at hl 0 rfl) ?_
    refine lv_lload_n hx hb dX5_balance_19 rfl (lv_at hl 3 rfl) ?_
    refine vp_callSl (W.runV (As := [.ref (Z (3, p, 0)), .long d]) (rest := []) ⟨hx, hb, hml, hown, hts⟩ (zc_X5_balanceOf l hR hI.2.2.2 hp d) (cwV 2 hts gX5_balance_X5_balanceOf rfl rfl rfl (by decide +kernel) ⟨Nat.le_of_ble_eq_true rfl, Nat.le_of_ble_eq_true rfl⟩) (zk_preV hH hK hN hO rfl) rfl rfl hl.1 rfl (lv_room (Nat.le_of_ble_eq_true rfl)) dX5_balance_20 ⟨(Nat.le_of_ble_eq_true rfl), (Nat.le_of_ble_eq_true rfl)⟩) (fun r_20 hr_20 => ?_)
    exact zk_lretS hx hb hr hlocks (by simp only [zs_fbalance, hx_2]; exact hr_20) dX5_balance_23

set_option maxHeartbeats 4000000 in
set_option maxRecDepth 100000 in
theorem zc_X5_count (l : Launch) {g : zk_G} {z : Nat} {M : zk_M} {X : zs_X} {Z : zs_Z} {n : Nat} (hR : zs_R g X Z M) (hI : zs_I X.1 n) (x y : Int32) : Met l yX5_count wsX5_count ({ frames := 1, cells := 0, slots := 0, locals := 26 } : Room) (va_Pc [.ref (Z (0, 0, 0)), .int x, .int y] (zk_U g z M)) (vp_Sl (fun r => r = zs_fcount X.1 x y)) 0 0 (fun _ => False) := by
  refine Met.ofW (cc := cX5_count) (maxL := 5) (ret := (some .long)) (by decide) rfl ?_
  intro P0 e0 s m0 args below meth c0 s₁ B hml hv
  obtain ⟨rfl, hH, hK, hN⟩ := hv
  have hx := B.exec
  have hb := B.bytes
  have hr := B.returns
  have hts := atoms_spec (ws := wsX5_count) B.pre
  have hown : s.vm.findClass RX5 = some m0.cls := findClass_of_methodNamed B.named
  have hlocks := B.notSynchronized
  have hl := lv_entry ([.ref (Z (0, 0, 0)), .int x, .int y]) (n := 5) (Nat.le_of_ble_eq_true rfl)
  rw [lg_entry_eq]
  generalize (lg_sl ([.ref (Z (0, 0, 0)), .int x, .int y]) ++ List.replicate (5 - (lg_sl ([.ref (Z (0, 0, 0)), .int x, .int y])).length) Slot.unset).toArray = ls at hl ⊢
  have hl : lv_has ls 5 [(0, .ref (Z (0, 0, 0))), (1, .int x), (2, .int y)] := hl
  have hO : M (Z (0, 0, 0)) = some (.inr (5, [.ref (Z (3, 0, 0)), .ref (Z (1, 0, 0)), .ref (Z (2, 0, 0)), va_rf (zs_prev (zs_nc X.1) (fun i => Z (7, i, 0))), .int (nI (zs_nc X.1)), .long (zs_ck X.1)])) := hR.1 (0, 0, 0) ⟨rfl, rfl⟩
  refine lv_aload_n hx hb dX5_count_0 rfl (lv_at hl 0 rfl) ?_
  refine lv_iload_n hx hb dX5_count_1 rfl (lv_at hl 1 rfl) ?_
  refine va_csq (W.runV (As := [.int x]) (rest := []) ⟨hx, hb, hml, hown, hts⟩ (zc_X5_partyAt l hR hI.1.2.1 x) (cwV 1 hts gX5_count_X5_partyAt rfl rfl rfl (by decide +kernel) ⟨Nat.le_of_ble_eq_true rfl, Nat.le_of_ble_eq_true rfl⟩) (zk_preV hH hK hN hO rfl) rfl rfl hl.1 rfl (lv_room (Nat.le_of_ble_eq_true rfl)) dX5_count_2 ⟨(Nat.le_of_ble_eq_true rfl), (Nat.le_of_ble_eq_true rfl)⟩) (fun r_2 hr_2 => ?_)
  cases hx_2 : zs_ix (zs_np X.1) x with
  | none =>
    refine zk_top (v' := .null) (by rw [hr_2, hx_2]; rfl) ?_
    refine lv_astore_nN (lv' := [(3, .null), (0, .ref (Z (0, 0, 0))), (1, .int x), (2, .int y)]) hx hb dX5_count_5 rfl hl (by decide) rfl (fun ls hl => ?_)
    refine lv_aload_n hx hb dX5_count_6 rfl (lv_at hl 1 rfl) ?_
    refine lv_iload_n hx hb dX5_count_7 rfl (lv_at hl 3 rfl) ?_
    refine va_csq (W.runV (As := [.int y]) (rest := []) ⟨hx, hb, hml, hown, hts⟩ (zc_X5_kindAt l hR hI.1.2.2.1 y) (cwV 1 hts gX5_count_X5_kindAt rfl rfl rfl (by decide +kernel) ⟨Nat.le_of_ble_eq_true rfl, Nat.le_of_ble_eq_true rfl⟩) (zk_preV hH hK hN hO rfl) rfl rfl hl.1 rfl (lv_room (Nat.le_of_ble_eq_true rfl)) dX5_count_8 ⟨(Nat.le_of_ble_eq_true rfl), (Nat.le_of_ble_eq_true rfl)⟩) (fun r_8 hr_8 => ?_)
    refine zk_astore (lv' := [(4, va_rf r_8), (3, .null), (0, .ref (Z (0, 0, 0))), (1, .int x), (2, .int y)]) hx hb dX5_count_11 hl (by decide) rfl (fun ls hl => ?_)
    refine lv_aload_nN hx hb dX5_count_13 rfl (lv_at hl 1 rfl) ?_
    refine lv_ifnullN (tgt := 22) hx hb dX5_count_14 (by decide) ?_
    refine lv_ldc2 (v := (-1)) hx hb hown (hts (.constantLong RX5 103 (-1)) (by decide +kernel)) dX5_count_22 ?_
    refine lv_goto (tgt := 37) hx hb dX5_count_25 (by decide) ?_
    exact zk_lretS hx hb hr hlocks (by simp only [zs_fcount, hx_2]) dX5_count_37
  | some p =>
    refine zk_top (v' := .ref (Z (3, p, 0))) (by rw [hr_2, hx_2]; rfl) ?_
    obtain ⟨hp, ex_p⟩ := zs_ix_some (by have := hI.1.2.1; have := hI.1.2.2.1; omega) hx_2
    refine lv_astore_n (lv' := [(3, .ref (Z (3, p, 0))), (0, .ref (Z (0, 0, 0))), (1, .int x), (2, .int y)]) hx hb dX5_count_5 rfl hl (by decide) rfl (fun ls hl => ?_)
    refine lv_aload_n hx hb dX5_count_6 rfl (lv_at hl 1 rfl) ?_
    refine lv_iload_n hx hb dX5_count_7 rfl (lv_at hl 3 rfl) ?_
    refine va_csq (W.runV (As := [.int y]) (rest := []) ⟨hx, hb, hml, hown, hts⟩ (zc_X5_kindAt l hR hI.1.2.2.1 y) (cwV 1 hts gX5_count_X5_kindAt rfl rfl rfl (by decide +kernel) ⟨Nat.le_of_ble_eq_true rfl, Nat.le_of_ble_eq_true rfl⟩) (zk_preV hH hK hN hO rfl) rfl rfl hl.1 rfl (lv_room (Nat.le_of_ble_eq_true rfl)) dX5_count_8 ⟨(Nat.le_of_ble_eq_true rfl), (Nat.le_of_ble_eq_true rfl)⟩) (fun r_8 hr_8 => ?_)
    cases hx_8 : zs_ix (zs_nk X.1) y with
    | none =>
      refine zk_top (v' := .null) (by rw [hr_8, hx_8]; rfl) ?_
      refine lv_astoreN (lv' := [(4, .null), (3, .ref (Z (3, p, 0))), (0, .ref (Z (0, 0, 0))), (1, .int x), (2, .int y)]) hx hb dX5_count_11 hl (by decide) rfl (fun ls hl => ?_)
      refine lv_aload_n hx hb dX5_count_13 rfl (lv_at hl 1 rfl) ?_
      refine lv_ifnull hx hb dX5_count_14 ?_
      refine lv_aloadN hx hb dX5_count_17 (lv_at hl 0 rfl) ?_
      refine lv_ifnonnullN hx hb dX5_count_19 ?_
      refine lv_ldc2 (v := (-1)) hx hb hown (hts (.constantLong RX5 103 (-1)) (by decide +kernel)) dX5_count_22 ?_
      refine lv_goto (tgt := 37) hx hb dX5_count_25 (by decide) ?_
      exact zk_lretS hx hb hr hlocks (by simp only [zs_fcount, hx_2, hx_8]) dX5_count_37
    | some k =>
      refine zk_top (v' := .ref (Z (4, k, 0))) (by rw [hr_8, hx_8]; rfl) ?_
      obtain ⟨hk, ex_k⟩ := zs_ix_some (by have := hI.1.2.1; have := hI.1.2.2.1; omega) hx_8
      refine lv_astore (lv' := [(4, .ref (Z (4, k, 0))), (3, .ref (Z (3, p, 0))), (0, .ref (Z (0, 0, 0))), (1, .int x), (2, .int y)]) hx hb dX5_count_11 hl (by decide) rfl (fun ls hl => ?_)
      refine lv_aload_n hx hb dX5_count_13 rfl (lv_at hl 1 rfl) ?_
      refine lv_ifnull hx hb dX5_count_14 ?_
      refine lv_aload hx hb dX5_count_17 (lv_at hl 0 rfl) ?_
      refine lv_ifnonnull (tgt := 28) hx hb dX5_count_19 (by decide) ?_
      refine lv_aload_n hx hb dX5_count_28 rfl (lv_at hl 1 rfl) ?_
      refine lv_aload hx hb dX5_count_29 (lv_at hl 0 rfl) ?_
      refine lv_ldc2 (v := 100000) hx hb hown (hts (.constantLong RX5 35 (100000)) (by decide +kernel)) dX5_count_31 ?_
      refine vp_callSl (W.runV (As := [.ref (Z (4, k, 0)), .long 100000]) (rest := []) ⟨hx, hb, hml, hown, hts⟩ (zc_X2_piecesUpTo l hR (fun i hi => (hI.2.2.1.1 i hi).2.1) hp hk 100000) (cwV 2 hts gX5_count_X2_piecesUpTo rfl rfl rfl (by decide +kernel) ⟨Nat.le_of_ble_eq_true rfl, Nat.le_of_ble_eq_true rfl⟩) (zk_preV hH hK hN (hR.1 (3, p, 0) ⟨hp, rfl⟩) rfl) rfl rfl hl.1 rfl (lv_room (Nat.le_of_ble_eq_true rfl)) dX5_count_34 ⟨(Nat.le_of_ble_eq_true rfl), (Nat.le_of_ble_eq_true rfl)⟩) (fun r_34 hr_34 => ?_)
      exact zk_lretS hx hb hr hlocks (by simp only [zs_fcount, hx_2, hx_8]; rw [hr_34]; exact zs_pup_has hI.2.2.1 p k) dX5_count_37

set_option maxHeartbeats 4000000 in
set_option maxRecDepth 100000 in
theorem zc_X5_price (l : Launch) {g : zk_G} {z : Nat} {M : zk_M} {X : zs_X} {Z : zs_Z} {n : Nat} (hR : zs_R g X Z M) (hI : zs_I X.1 n) (x : Int32) (d c : Int64) : Met l yX5_price wsX5_price ({ frames := 3, cells := 1, slots := 3, locals := 63 } : Room) (va_Pc [.ref (Z (0, 0, 0)), .int x, .long d, .long c] (zk_U g z M)) (va_Qi (fun r u => r = (zs_fprice X.1 x d c).1 ∧ zs_P g X Z ((zs_fprice X.1 x d c).2, X.2) u) (zk_B g z) (fun q => z ≤ q)) 1 3 (fun q => z ≤ q) := by
  refine Met.ofW (cc := cX5_price) (maxL := 7) (ret := (some .boolean)) (by decide) rfl ?_
  intro P0 e0 s m0 args below meth c0 s₁ B hml hv
  obtain ⟨rfl, hH, hK, hN⟩ := hv
  have hx := B.exec
  have hb := B.bytes
  have hr := B.returns
  have hts := atoms_spec (ws := wsX5_price) B.pre
  have hown : s.vm.findClass RX5 = some m0.cls := findClass_of_methodNamed B.named
  have hlocks := B.notSynchronized
  have hS : va_S (fun q => z ≤ q) s.heap s.heap [] := va_S.rf
  have hl := lv_entry ([.ref (Z (0, 0, 0)), .int x, .long d, .long c]) (n := 7) (Nat.le_of_ble_eq_true rfl)
  rw [lg_entry_eq]
  generalize (lg_sl ([.ref (Z (0, 0, 0)), .int x, .long d, .long c]) ++ List.replicate (7 - (lg_sl ([.ref (Z (0, 0, 0)), .int x, .long d, .long c])).length) Slot.unset).toArray = ls at hl ⊢
  have hl : lv_has ls 7 [(0, .ref (Z (0, 0, 0))), (1, .int x), (2, .long d), (4, .long c)] := hl
  have hO : M (Z (0, 0, 0)) = some (.inr (5, [.ref (Z (3, 0, 0)), .ref (Z (1, 0, 0)), .ref (Z (2, 0, 0)), va_rf (zs_prev (zs_nc X.1) (fun i => Z (7, i, 0))), .int (nI (zs_nc X.1)), .long (zs_ck X.1)])) := hR.1 (0, 0, 0) ⟨rfl, rfl⟩
  refine lv_aload_n hx hb dX5_price_0 rfl (lv_at hl 0 rfl) ?_
  refine lv_iload_n hx hb dX5_price_1 rfl (lv_at hl 1 rfl) ?_
  refine va_csq (W.runV (As := [.int x]) (rest := []) ⟨hx, hb, hml, hown, hts⟩ (zc_X5_kindAt l hR hI.1.2.2.1 x) (cwV 1 hts gX5_price_X5_kindAt rfl rfl rfl (by decide +kernel) ⟨Nat.le_of_ble_eq_true rfl, Nat.le_of_ble_eq_true rfl⟩) (zk_preV hH hK hN hO rfl) rfl rfl hl.1 rfl (lv_room (Nat.le_of_ble_eq_true rfl)) dX5_price_2 ⟨(Nat.le_of_ble_eq_true rfl), (Nat.le_of_ble_eq_true rfl)⟩) (fun r_2 hr_2 => ?_)
  cases hx_2 : zs_ix (zs_nk X.1) x with
  | none =>
    refine zk_top (v' := .null) (by rw [hr_2, hx_2]; rfl) ?_
    refine lv_astoreN (lv' := [(6, .null), (0, .ref (Z (0, 0, 0))), (1, .int x), (2, .long d), (4, .long c)]) hx hb dX5_price_5 hl (by decide) rfl (fun ls hl => ?_)
    refine lv_aloadN hx hb dX5_price_7 (lv_at hl 0 rfl) ?_
    refine lv_ifnullN (tgt := 35) hx hb dX5_price_9 (by decide) ?_
    refine lv_iconst (v := 0) hx hb dX5_price_35 (by decide) ?_
    exact zk_zret hx hb hr hlocks (by first | rfl | decide) hH hS (by decide) (by decide) (zs_no hR (by simp only [zs_fprice, hx_2])) dX5_price_36
  | some k =>
    refine zk_top (v' := .ref (Z (4, k, 0))) (by rw [hr_2, hx_2]; rfl) ?_
    obtain ⟨hk, ex_k⟩ := zs_ix_some (by have := hI.1.2.1; have := hI.1.2.2.1; omega) hx_2
    refine lv_astore (lv' := [(6, .ref (Z (4, k, 0))), (0, .ref (Z (0, 0, 0))), (1, .int x), (2, .long d), (4, .long c)]) hx hb dX5_price_5 hl (by decide) rfl (fun ls hl => ?_)
    refine lv_aload hx hb dX5_price_7 (lv_at hl 0 rfl) ?_
    refine lv_ifnull hx hb dX5_price_9 ?_
    refine lv_lload_n hx hb dX5_price_12 rfl (lv_at hl 3 rfl) ?_
    refine vp_callSi (W.runS (As := [.long d]) (rest := []) ⟨hx, hb, hml, hown, hts⟩ (zc_X5_isDay l d) (va_cwS 1 hts gX5_price_X5_isDay rfl rfl rfl (by decide +kernel) ⟨Nat.le_of_ble_eq_true rfl, Nat.le_of_ble_eq_true rfl⟩) (zk_preS hH hK hN) rfl rfl hl.1 rfl (lv_room (Nat.le_of_ble_eq_true rfl)) dX5_price_13 ⟨(Nat.le_of_ble_eq_true rfl), (Nat.le_of_ble_eq_true rfl)⟩) (fun r_13 hr_13 => ?_)
    refine lv_if_eq (tgt := 35) hx hb dX5_price_16 (by decide) (fun h_16 => ?_) (fun h_16 => ?_)
    · skip
      have hd : ¬ (zs_isD d) := zs_b0 hr_13 h_16
      refine lv_iconst (v := 0) hx hb dX5_price_35 (by decide) ?_
      exact zk_zret hx hb hr hlocks (by first | rfl | decide) hH hS (by decide) (by decide) (zs_no hR (by simp only [zs_fprice, hx_2]; exact if_neg (fun q => hd q.1))) dX5_price_36
    · skip
      have hd : zs_isD d := zs_b1 hr_13 h_16
      refine lv_lload hx hb dX5_price_19 (lv_at hl 4 rfl) ?_
      refine lv_lconst (v := 0) hx hb dX5_price_21 (by decide) ?_
      refine zk_lc_lt (tgt := 35) hx hb dX5_price_22 dX5_price_23 (by decide) (fun h_22 => ?_) (fun h_22 => ?_)
      · skip
        refine lv_iconst (v := 0) hx hb dX5_price_35 (by decide) ?_
        exact zk_zret hx hb hr hlocks (by first | rfl | decide) hH hS (by decide) (by decide) (zs_no hR (by simp only [zs_fprice, hx_2]; exact if_neg (fun q => absurd h_22 (Int64.not_lt.mpr q.2.1)))) dX5_price_36
      · skip
        refine lv_lload hx hb dX5_price_26 (lv_at hl 4 rfl) ?_
        refine lv_ldc2 (v := 100000) hx hb hown (hts (.constantLong RX5 35 (100000)) (by decide +kernel)) dX5_price_28 ?_
        refine zk_lc_le (tgt := 37) hx hb dX5_price_31 dX5_price_32 (by decide) (fun h_31 => ?_) (fun h_31 => ?_)
        · skip
          refine lv_aload hx hb dX5_price_37 (lv_at hl 0 rfl) ?_
          refine lv_lload_n hx hb dX5_price_39 rfl (lv_at hl 3 rfl) ?_
          refine lv_lload hx hb dX5_price_40 (lv_at hl 4 rfl) ?_
          refine zk_calli (va_runV (As := [.long d, .long c]) (rest := []) ⟨hx, hb, hml, hown, hts⟩ (zc_X0_tellPrice l hR hI hk d c) (cwV 2 hts gX5_price_X0_tellPrice rfl rfl rfl (by decide +kernel) ⟨Nat.le_of_ble_eq_true rfl, Nat.le_of_ble_eq_true rfl⟩) (zk_preV hH hK hN (hR.1 (4, k, 0) ⟨hk, rfl⟩) rfl) rfl rfl hl.1 rfl (lv_room (Nat.le_of_ble_eq_true rfl)) dX5_price_42 ⟨(Nat.le_of_ble_eq_true rfl), (Nat.le_of_ble_eq_true rfl)⟩) hS (fun r_42 u_42 H locs hH hr_42 hS => ?_)
          exact zk_zret hx hb hr hlocks (by rcases zs_tell01 X.1 k d c with q | q <;> rw [hr_42.1, q] <;> rfl) hH hS (by decide) (by decide) (by simp only [zs_fprice, hx_2]; rw [if_pos ⟨hd, Int64.not_lt.mp h_22, h_31⟩]; exact hr_42) dX5_price_45
        · skip
          refine lv_iconst (v := 0) hx hb dX5_price_35 (by decide) ?_
          exact zk_zret hx hb hr hlocks (by first | rfl | decide) hH hS (by decide) (by decide) (zs_no hR (by simp only [zs_fprice, hx_2]; exact if_neg (fun q => h_31 q.2.2))) dX5_price_36

theorem inw_wsX5_share_0 : ∀ w ∈ u_ws RX0 TX0 3, w ∈ wsX5_share := by decide +kernel
set_option maxHeartbeats 4000000 in
set_option maxRecDepth 100000 in
theorem zc_X5_share (l : Launch) {g : zk_G} {z : Nat} {M : zk_M} {X : zs_X} {Z : zs_Z} {n : Nat} (hR : zs_R g X Z M) (hI : zs_I X.1 n) (x : Int32) (a b : Int64) : Met l yX5_share wsX5_share ({ frames := 1, cells := 0, slots := 0, locals := 21 } : Room) (va_Pc [.ref (Z (0, 0, 0)), .int x, .long a, .long b] (zk_U g z M)) (va_Qi (fun r u => r = (zs_fshare X.1 x a b).1 ∧ zs_P g X Z ((zs_fshare X.1 x a b).2, X.2) u) (zk_B g z) (fun q => z ≤ q)) 0 0 (fun q => z ≤ q) := by
  refine Met.ofW (cc := cX5_share) (maxL := 7) (ret := (some .boolean)) (by decide) rfl ?_
  intro P0 e0 s m0 args below meth c0 s₁ B hml hv
  obtain ⟨rfl, hH, hK, hN⟩ := hv
  have hx := B.exec
  have hb := B.bytes
  have hr := B.returns
  have hts := atoms_spec (ws := wsX5_share) B.pre
  have hown : s.vm.findClass RX5 = some m0.cls := findClass_of_methodNamed B.named
  have hlocks := B.notSynchronized
  have hS : va_S (fun q => z ≤ q) s.heap s.heap [] := va_S.rf
  have hl := lv_entry ([.ref (Z (0, 0, 0)), .int x, .long a, .long b]) (n := 7) (Nat.le_of_ble_eq_true rfl)
  rw [lg_entry_eq]
  generalize (lg_sl ([.ref (Z (0, 0, 0)), .int x, .long a, .long b]) ++ List.replicate (7 - (lg_sl ([.ref (Z (0, 0, 0)), .int x, .long a, .long b])).length) Slot.unset).toArray = ls at hl ⊢
  have hl : lv_has ls 7 [(0, .ref (Z (0, 0, 0))), (1, .int x), (2, .long a), (4, .long b)] := hl
  have hO : M (Z (0, 0, 0)) = some (.inr (5, [.ref (Z (3, 0, 0)), .ref (Z (1, 0, 0)), .ref (Z (2, 0, 0)), va_rf (zs_prev (zs_nc X.1) (fun i => Z (7, i, 0))), .int (nI (zs_nc X.1)), .long (zs_ck X.1)])) := hR.1 (0, 0, 0) ⟨rfl, rfl⟩
  refine lv_aload_n hx hb dX5_share_0 rfl (lv_at hl 0 rfl) ?_
  refine lv_iload_n hx hb dX5_share_1 rfl (lv_at hl 1 rfl) ?_
  refine va_csq (W.runV (As := [.int x]) (rest := []) ⟨hx, hb, hml, hown, hts⟩ (zc_X5_kindAt l hR hI.1.2.2.1 x) (cwV 1 hts gX5_share_X5_kindAt rfl rfl rfl (by decide +kernel) ⟨Nat.le_of_ble_eq_true rfl, Nat.le_of_ble_eq_true rfl⟩) (zk_preV hH hK hN hO rfl) rfl rfl hl.1 rfl (lv_room (Nat.le_of_ble_eq_true rfl)) dX5_share_2 ⟨(Nat.le_of_ble_eq_true rfl), (Nat.le_of_ble_eq_true rfl)⟩) (fun r_2 hr_2 => ?_)
  cases hx_2 : zs_ix (zs_nk X.1) x with
  | none =>
    refine zk_top (v' := .null) (by rw [hr_2, hx_2]; rfl) ?_
    refine lv_astoreN (lv' := [(6, .null), (0, .ref (Z (0, 0, 0))), (1, .int x), (2, .long a), (4, .long b)]) hx hb dX5_share_5 hl (by decide) rfl (fun ls hl => ?_)
    refine lv_aloadN hx hb dX5_share_7 (lv_at hl 0 rfl) ?_
    refine lv_ifnullN (tgt := 54) hx hb dX5_share_9 (by decide) ?_
    refine lv_iconst (v := 0) hx hb dX5_share_54 (by decide) ?_
    exact zk_zret hx hb hr hlocks (by first | rfl | decide) hH hS (by decide) (by decide) (zs_no hR (by simp only [zs_fshare, hx_2])) dX5_share_55
  | some k =>
    refine zk_top (v' := .ref (Z (4, k, 0))) (by rw [hr_2, hx_2]; rfl) ?_
    obtain ⟨hk, ex_k⟩ := zs_ix_some (by have := hI.1.2.1; have := hI.1.2.2.1; omega) hx_2
    refine lv_astore (lv' := [(6, .ref (Z (4, k, 0))), (0, .ref (Z (0, 0, 0))), (1, .int x), (2, .long a), (4, .long b)]) hx hb dX5_share_5 hl (by decide) rfl (fun ls hl => ?_)
    refine lv_aload hx hb dX5_share_7 (lv_at hl 0 rfl) ?_
    refine lv_ifnull hx hb dX5_share_9 ?_
    refine lv_lload hx hb dX5_share_12 (lv_at hl 4 rfl) ?_
    refine lv_lconst (v := 1) hx hb dX5_share_14 (by decide) ?_
    refine zk_lc_lt (tgt := 54) hx hb dX5_share_15 dX5_share_16 (by decide) (fun h_15 => ?_) (fun h_15 => ?_)
    · skip
      refine lv_iconst (v := 0) hx hb dX5_share_54 (by decide) ?_
      exact zk_zret hx hb hr hlocks (by first | rfl | decide) hH hS (by decide) (by decide) (zs_no hR (by simp only [zs_fshare, hx_2]; exact if_neg (fun q => absurd h_15 (Int64.not_lt.mpr q.1.1)))) dX5_share_55
    · skip
      refine lv_lload hx hb dX5_share_19 (lv_at hl 4 rfl) ?_
      refine lv_ldc2 (v := 10000) hx hb hown (hts (.constantLong RX5 91 (10000)) (by decide +kernel)) dX5_share_21 ?_
      refine zk_lc_gt (tgt := 54) hx hb dX5_share_24 dX5_share_25 (by decide) (fun h_24 => ?_) (fun h_24 => ?_)
      · skip
        refine lv_iconst (v := 0) hx hb dX5_share_54 (by decide) ?_
        exact zk_zret hx hb hr hlocks (by first | rfl | decide) hH hS (by decide) (by decide) (zs_no hR (by simp only [zs_fshare, hx_2]; exact if_neg (fun q => absurd h_24 (Int64.not_lt.mpr q.1.2)))) dX5_share_55
      · skip
        refine lv_lload_n hx hb dX5_share_28 rfl (lv_at hl 3 rfl) ?_
        refine lv_lconst (v := 0) hx hb dX5_share_29 (by decide) ?_
        refine zk_lc_lt (tgt := 54) hx hb dX5_share_30 dX5_share_31 (by decide) (fun h_30 => ?_) (fun h_30 => ?_)
        · skip
          refine lv_iconst (v := 0) hx hb dX5_share_54 (by decide) ?_
          exact zk_zret hx hb hr hlocks (by first | rfl | decide) hH hS (by decide) (by decide) (zs_no hR (by simp only [zs_fshare, hx_2]; exact if_neg (fun q => absurd h_30 (Int64.not_lt.mpr q.2.1)))) dX5_share_55
        · skip
          refine lv_lload_n hx hb dX5_share_34 rfl (lv_at hl 3 rfl) ?_
          refine lv_lload hx hb dX5_share_35 (lv_at hl 4 rfl) ?_
          refine zk_lc_gt (tgt := 54) hx hb dX5_share_37 dX5_share_38 (by decide) (fun h_37 => ?_) (fun h_37 => ?_)
          · skip
            refine lv_iconst (v := 0) hx hb dX5_share_54 (by decide) ?_
            exact zk_zret hx hb hr hlocks (by first | rfl | decide) hH hS (by decide) (by decide) (zs_no hR (by simp only [zs_fshare, hx_2]; exact if_neg (fun q => absurd h_37 (Int64.not_lt.mpr q.2.2.1)))) dX5_share_55
          · skip
            refine lv_lload_n hx hb dX5_share_41 rfl (lv_at hl 3 rfl) ?_
            refine lv_ldc2 (v := 10000) hx hb hown (hts (.constantLong RX5 91 (10000)) (by decide +kernel)) dX5_share_42 ?_
            refine lv_lmul hx hb dX5_share_45 ?_
            refine lv_lload hx hb dX5_share_46 (lv_at hl 4 rfl) ?_
            refine lv_lrem hx hb dX5_share_48 (fun q => h_15 (by rw [q]; decide)) ?_
            refine lv_lconst (v := 0) hx hb dX5_share_49 (by decide) ?_
            refine zk_lc_eq (tgt := 56) hx hb dX5_share_50 dX5_share_51 (by decide) (fun h_50 => ?_) (fun h_50 => ?_)
            · skip
              have hK0 : M (Z (4, k, 0)) = some (.inr (0, [va_rf (zs_prev (zs_pn X.1 k) (fun j => Z (5, k, j))), .long (zs_sh X.1 k), .long (zs_rs X.1 k)])) := hR.1 (4, k, 0) ⟨hk, rfl⟩
              refine lv_aload hx hb dX5_share_56 (lv_at hl 0 rfl) ?_
              refine lv_lload_n hx hb dX5_share_58 rfl (lv_at hl 3 rfl) ?_
              refine lv_ldc2 (v := 10000) hx hb hown (hts (.constantLong RX5 91 (10000)) (by decide +kernel)) dX5_share_59 ?_
              refine lv_lmul hx hb dX5_share_62 ?_
              refine lv_lload hx hb dX5_share_63 (lv_at hl 4 rfl) ?_
              refine lv_ldiv hx hb dX5_share_65 (fun q => h_15 (by rw [q]; decide)) ?_
              refine zk_putN (ci := 0) (v := .long ((a * 10000) / b)) (C := RX0) (T := TX0) (N := 3) hx hb hts inw_wsX5_share_0 tyX0 tyX0_ok nmX0 hown hK hH hS hK0 rfl 1 (by decide) (zk_nf_0 hN) rfl rfl rfl (Nat.le_of_ble_eq_true rfl) dX5_share_66 (fun H locs hH hS => ?_)
              obtain ⟨M_66, eM_66⟩ : ∃ w_0 : zk_M, w_0 = zk_up M (Z (4, k, 0)) (.inr (0, [va_rf (zs_prev (zs_pn X.1 k) (fun j => Z (5, k, j))), .long ((a * 10000) / b), .long (zs_rs X.1 k)])) := ⟨_, rfl⟩
              have hH : zk_H g z M_66 H := by rw [eM_66]; exact hH
              have f_66_0 : M_66 (Z (0, 0, 0)) = some (.inr (5, [.ref (Z (3, 0, 0)), .ref (Z (1, 0, 0)), .ref (Z (2, 0, 0)), va_rf (zs_prev (zs_nc X.1) (fun i => Z (7, i, 0))), .int (nI (zs_nc X.1)), .long (zs_ck X.1)])) := by rw [eM_66, zk_up_n _ _ (zk_ne hO hK0 (by simp))]; exact hO
              have e_66 : M_66 (Z (4, k, 0)) = some (.inr (0, [va_rf (zs_prev (zs_pn X.1 k) (fun j => Z (5, k, j))), .long ((a * 10000) / b), .long (zs_rs X.1 k)])) := by rw [eM_66]; exact zk_up_s _ _ _
              refine lv_iconst (v := 1) hx hb dX5_share_69 (by decide) ?_
              exact zk_zret hx hb hr hlocks (by first | rfl | decide) hH hS (by decide) (by decide) (zs_yes (by simp only [zs_fshare, hx_2]; exact if_pos ⟨⟨Int64.not_lt.mp h_15, Int64.not_lt.mp h_24⟩, Int64.not_lt.mp h_30, Int64.not_lt.mp h_37, h_50⟩) ⟨Z, by rw [eM_66]; exact zs_R_sh hR hk _, fun _ _ => rfl⟩) dX5_share_70
            · skip
              refine lv_iconst (v := 0) hx hb dX5_share_54 (by decide) ?_
              exact zk_zret hx hb hr hlocks (by first | rfl | decide) hH hS (by decide) (by decide) (zs_no hR (by simp only [zs_fshare, hx_2]; exact if_neg (fun q => h_50 q.2.2.2))) dX5_share_55

theorem inw_wsX5_back_5 : ∀ w ∈ u_ws RX5 TX5 6, w ∈ wsX5_back := by decide +kernel
set_option maxHeartbeats 4000000 in
set_option maxRecDepth 100000 in
theorem zc_X5_back (l : Launch) {g : zk_G} {z : Nat} {M : zk_M} {X : zs_X} {Z : zs_Z} {n : Nat} (hR : zs_R g X Z M) (hI : zs_I X.1 n) (hn : zs_nc X.1 < 512) (x y : Int32) (num d : Int64) : Met l yX5_back wsX5_back ({ frames := 3, cells := 1, slots := 5, locals := 65 } : Room) (va_Pc [.ref (Z (0, 0, 0)), .int x, .int y, .long num, .long d] (zk_U g z M)) (va_Qi (fun r u => r = (zs_fback X.1 x y num d).1 ∧ zs_P g X Z ((zs_fback X.1 x y num d).2, X.2) u) (zk_B g z) (fun q => z ≤ q)) 1 5 (fun q => z ≤ q) := by
  refine Met.ofW (cc := cX5_back) (maxL := 9) (ret := (some .boolean)) (by decide) rfl ?_
  intro P0 e0 s m0 args below meth c0 s₁ B hml hv
  obtain ⟨rfl, hH, hK, hN⟩ := hv
  have hx := B.exec
  have hb := B.bytes
  have hr := B.returns
  have hts := atoms_spec (ws := wsX5_back) B.pre
  have hown : s.vm.findClass RX5 = some m0.cls := findClass_of_methodNamed B.named
  have hlocks := B.notSynchronized
  have hS : va_S (fun q => z ≤ q) s.heap s.heap [] := va_S.rf
  have hl := lv_entry ([.ref (Z (0, 0, 0)), .int x, .int y, .long num, .long d]) (n := 9) (Nat.le_of_ble_eq_true rfl)
  rw [lg_entry_eq]
  generalize (lg_sl ([.ref (Z (0, 0, 0)), .int x, .int y, .long num, .long d]) ++ List.replicate (9 - (lg_sl ([.ref (Z (0, 0, 0)), .int x, .int y, .long num, .long d])).length) Slot.unset).toArray = ls at hl ⊢
  have hl : lv_has ls 9 [(0, .ref (Z (0, 0, 0))), (1, .int x), (2, .int y), (3, .long num), (5, .long d)] := hl
  have hO : M (Z (0, 0, 0)) = some (.inr (5, [.ref (Z (3, 0, 0)), .ref (Z (1, 0, 0)), .ref (Z (2, 0, 0)), va_rf (zs_prev (zs_nc X.1) (fun i => Z (7, i, 0))), .int (nI (zs_nc X.1)), .long (zs_ck X.1)])) := hR.1 (0, 0, 0) ⟨rfl, rfl⟩
  refine lv_aload_n hx hb dX5_back_0 rfl (lv_at hl 0 rfl) ?_
  refine lv_iload_n hx hb dX5_back_1 rfl (lv_at hl 1 rfl) ?_
  refine va_csq (W.runV (As := [.int x]) (rest := []) ⟨hx, hb, hml, hown, hts⟩ (zc_X5_customerAt l hR hI.1.2.1 x) (cwV 1 hts gX5_back_X5_customerAt rfl rfl rfl (by decide +kernel) ⟨Nat.le_of_ble_eq_true rfl, Nat.le_of_ble_eq_true rfl⟩) (zk_preV hH hK hN hO rfl) rfl rfl hl.1 rfl (lv_room (Nat.le_of_ble_eq_true rfl)) dX5_back_2 ⟨(Nat.le_of_ble_eq_true rfl), (Nat.le_of_ble_eq_true rfl)⟩) (fun r_2 hr_2 => ?_)
  cases hx_2 : zs_cx (zs_np X.1) x with
  | none =>
    refine zk_top (v' := .null) (by rw [hr_2, hx_2]; rfl) ?_
    refine lv_astoreN (lv' := [(7, .null), (0, .ref (Z (0, 0, 0))), (1, .int x), (2, .int y), (3, .long num), (5, .long d)]) hx hb dX5_back_5 hl (by decide) rfl (fun ls hl => ?_)
    refine lv_aload_n hx hb dX5_back_7 rfl (lv_at hl 1 rfl) ?_
    refine lv_iload_n hx hb dX5_back_8 rfl (lv_at hl 3 rfl) ?_
    refine va_csq (W.runV (As := [.int y]) (rest := []) ⟨hx, hb, hml, hown, hts⟩ (zc_X5_kindAt l hR hI.1.2.2.1 y) (cwV 1 hts gX5_back_X5_kindAt rfl rfl rfl (by decide +kernel) ⟨Nat.le_of_ble_eq_true rfl, Nat.le_of_ble_eq_true rfl⟩) (zk_preV hH hK hN hO rfl) rfl rfl hl.1 rfl (lv_room (Nat.le_of_ble_eq_true rfl)) dX5_back_9 ⟨(Nat.le_of_ble_eq_true rfl), (Nat.le_of_ble_eq_true rfl)⟩) (fun r_9 hr_9 => ?_)
    refine zk_astore (lv' := [(8, va_rf r_9), (7, .null), (0, .ref (Z (0, 0, 0))), (1, .int x), (2, .int y), (3, .long num), (5, .long d)]) hx hb dX5_back_12 hl (by decide) rfl (fun ls hl => ?_)
    refine lv_aloadN hx hb dX5_back_14 (lv_at hl 1 rfl) ?_
    refine lv_ifnullN (tgt := 55) hx hb dX5_back_16 (by decide) ?_
    refine lv_iconst (v := 0) hx hb dX5_back_55 (by decide) ?_
    exact zk_zret hx hb hr hlocks (by first | rfl | decide) hH hS (by decide) (by decide) (zs_no hR (by simp only [zs_fback, hx_2])) dX5_back_56
  | some p =>
    refine zk_top (v' := .ref (Z (3, p, 0))) (by rw [hr_2, hx_2]; rfl) ?_
    obtain ⟨hp, ex_p, hz_p⟩ := zs_cx_some (by have := hI.1.2.1; omega) hx_2
    refine lv_astore (lv' := [(7, .ref (Z (3, p, 0))), (0, .ref (Z (0, 0, 0))), (1, .int x), (2, .int y), (3, .long num), (5, .long d)]) hx hb dX5_back_5 hl (by decide) rfl (fun ls hl => ?_)
    refine lv_aload_n hx hb dX5_back_7 rfl (lv_at hl 1 rfl) ?_
    refine lv_iload_n hx hb dX5_back_8 rfl (lv_at hl 3 rfl) ?_
    refine va_csq (W.runV (As := [.int y]) (rest := []) ⟨hx, hb, hml, hown, hts⟩ (zc_X5_kindAt l hR hI.1.2.2.1 y) (cwV 1 hts gX5_back_X5_kindAt rfl rfl rfl (by decide +kernel) ⟨Nat.le_of_ble_eq_true rfl, Nat.le_of_ble_eq_true rfl⟩) (zk_preV hH hK hN hO rfl) rfl rfl hl.1 rfl (lv_room (Nat.le_of_ble_eq_true rfl)) dX5_back_9 ⟨(Nat.le_of_ble_eq_true rfl), (Nat.le_of_ble_eq_true rfl)⟩) (fun r_9 hr_9 => ?_)
    cases hx_9 : zs_ix (zs_nk X.1) y with
    | none =>
      refine zk_top (v' := .null) (by rw [hr_9, hx_9]; rfl) ?_
      refine lv_astoreN (lv' := [(8, .null), (7, .ref (Z (3, p, 0))), (0, .ref (Z (0, 0, 0))), (1, .int x), (2, .int y), (3, .long num), (5, .long d)]) hx hb dX5_back_12 hl (by decide) rfl (fun ls hl => ?_)
      refine lv_aload hx hb dX5_back_14 (lv_at hl 1 rfl) ?_
      refine lv_ifnull hx hb dX5_back_16 ?_
      refine lv_aloadN hx hb dX5_back_19 (lv_at hl 0 rfl) ?_
      refine lv_ifnullN (tgt := 55) hx hb dX5_back_21 (by decide) ?_
      refine lv_iconst (v := 0) hx hb dX5_back_55 (by decide) ?_
      exact zk_zret hx hb hr hlocks (by first | rfl | decide) hH hS (by decide) (by decide) (zs_no hR (by simp only [zs_fback, hx_2, hx_9])) dX5_back_56
    | some k =>
      refine zk_top (v' := .ref (Z (4, k, 0))) (by rw [hr_9, hx_9]; rfl) ?_
      obtain ⟨hk, ex_k⟩ := zs_ix_some (by have := hI.1.2.1; have := hI.1.2.2.1; omega) hx_9
      refine lv_astore (lv' := [(8, .ref (Z (4, k, 0))), (7, .ref (Z (3, p, 0))), (0, .ref (Z (0, 0, 0))), (1, .int x), (2, .int y), (3, .long num), (5, .long d)]) hx hb dX5_back_12 hl (by decide) rfl (fun ls hl => ?_)
      refine lv_aload hx hb dX5_back_14 (lv_at hl 1 rfl) ?_
      refine lv_ifnull hx hb dX5_back_16 ?_
      refine lv_aload hx hb dX5_back_19 (lv_at hl 0 rfl) ?_
      refine lv_ifnull hx hb dX5_back_21 ?_
      refine lv_lload_n hx hb dX5_back_24 rfl (lv_at hl 5 rfl) ?_
      refine vp_callSi (W.runS (As := [.long num]) (rest := []) ⟨hx, hb, hml, hown, hts⟩ (zc_X5_isNumber l num) (va_cwS 1 hts gX5_back_X5_isNumber rfl rfl rfl (by decide +kernel) ⟨Nat.le_of_ble_eq_true rfl, Nat.le_of_ble_eq_true rfl⟩) (zk_preS hH hK hN) rfl rfl hl.1 rfl (lv_room (Nat.le_of_ble_eq_true rfl)) dX5_back_25 ⟨(Nat.le_of_ble_eq_true rfl), (Nat.le_of_ble_eq_true rfl)⟩) (fun r_25 hr_25 => ?_)
      refine lv_if_eq (tgt := 55) hx hb dX5_back_28 (by decide) (fun h_28 => ?_) (fun h_28 => ?_)
      · skip
        have hnum : ¬ (zs_isN num) := zs_b0 hr_25 h_28
        refine lv_iconst (v := 0) hx hb dX5_back_55 (by decide) ?_
        exact zk_zret hx hb hr hlocks (by first | rfl | decide) hH hS (by decide) (by decide) (zs_no hR (by simp only [zs_fback, hx_2, hx_9]; exact if_neg (fun q => hnum q.1))) dX5_back_56
      · skip
        have hnum : zs_isN num := zs_b1 hr_25 h_28
        refine lv_aload_n hx hb dX5_back_31 rfl (lv_at hl 2 rfl) ?_
        refine lv_lload hx hb dX5_back_32 (lv_at hl 6 rfl) ?_
        refine vp_callSi (W.runV (As := [.long d]) (rest := []) ⟨hx, hb, hml, hown, hts⟩ (zc_X5_mayMoveOn l hR hn d) (cwV 1 hts gX5_back_X5_mayMoveOn rfl rfl rfl (by decide +kernel) ⟨Nat.le_of_ble_eq_true rfl, Nat.le_of_ble_eq_true rfl⟩) (zk_preV hH hK hN hO rfl) rfl rfl hl.1 rfl (lv_room (Nat.le_of_ble_eq_true rfl)) dX5_back_34 ⟨(Nat.le_of_ble_eq_true rfl), (Nat.le_of_ble_eq_true rfl)⟩) (fun r_34 hr_34 => ?_)
        refine lv_if_eq (tgt := 55) hx hb dX5_back_37 (by decide) (fun h_37 => ?_) (fun h_37 => ?_)
        · skip
          have hmay : ¬ (zs_isD d ∧ zs_ck X.1 ≤ d) := zs_b0 hr_34 h_37
          refine lv_iconst (v := 0) hx hb dX5_back_55 (by decide) ?_
          exact zk_zret hx hb hr hlocks (by first | rfl | decide) hH hS (by decide) (by decide) (zs_no hR (by simp only [zs_fback, hx_2, hx_9]; exact if_neg (fun q => hmay q.2.1))) dX5_back_56
        · skip
          have hmay : zs_isD d ∧ zs_ck X.1 ≤ d := zs_b1 hr_34 h_37
          refine lv_aload hx hb dX5_back_40 (lv_at hl 1 rfl) ?_
          refine lv_aload hx hb dX5_back_42 (lv_at hl 0 rfl) ?_
          refine lv_ldc2 (v := 100000) hx hb hown (hts (.constantLong RX5 35 (100000)) (by decide +kernel)) dX5_back_44 ?_
          refine vp_callSl (W.runV (As := [.ref (Z (4, k, 0)), .long 100000]) (rest := []) ⟨hx, hb, hml, hown, hts⟩ (zc_X2_piecesUpTo l hR (fun i hi => (hI.2.2.1.1 i hi).2.1) hp hk 100000) (cwV 2 hts gX5_back_X2_piecesUpTo rfl rfl rfl (by decide +kernel) ⟨Nat.le_of_ble_eq_true rfl, Nat.le_of_ble_eq_true rfl⟩) (zk_preV hH hK hN (hR.1 (3, p, 0) ⟨hp, rfl⟩) rfl) rfl rfl hl.1 rfl (lv_room (Nat.le_of_ble_eq_true rfl)) dX5_back_47 ⟨(Nat.le_of_ble_eq_true rfl), (Nat.le_of_ble_eq_true rfl)⟩) (fun r_47 hr_47 => ?_)
          refine lv_lload_n hx hb dX5_back_50 rfl (lv_at hl 5 rfl) ?_
          refine zk_lc_ge (tgt := 57) hx hb dX5_back_51 dX5_back_52 (by decide) (fun h_51 => ?_) (fun h_51 => ?_)
          · skip
            have hen : num ≤ zs_has X.1 p k := by rw [hr_47, zs_pup_has hI.2.2.1] at h_51; exact h_51
            refine lv_aload_n hx hb dX5_back_57 rfl (lv_at hl 2 rfl) ?_
            refine lv_lload hx hb dX5_back_58 (lv_at hl 6 rfl) ?_
            refine lv_aload hx hb dX5_back_60 (lv_at hl 1 rfl) ?_
            refine lv_aload hx hb dX5_back_62 (lv_at hl 0 rfl) ?_
            refine lv_lload_n hx hb dX5_back_64 rfl (lv_at hl 5 rfl) ?_
            refine zk_calll (va_runV (As := [.ref (Z (4, k, 0)), .long num]) (rest := [.long d, .ref (Z (0, 0, 0))]) ⟨hx, hb, hml, hown, hts⟩ (zc_X2_giveBack l hR (fun i hi => (hI.2.2.1.1 i hi).2.1) hp hk num) (cwV 2 hts gX5_back_X2_giveBack rfl rfl rfl (by decide +kernel) ⟨Nat.le_of_ble_eq_true rfl, Nat.le_of_ble_eq_true rfl⟩) (zk_preV hH hK hN (hR.1 (3, p, 0) ⟨hp, rfl⟩) rfl) rfl rfl hl.1 rfl (lv_room (Nat.le_of_ble_eq_true rfl)) dX5_back_65 ⟨(Nat.le_of_ble_eq_true rfl), (Nat.le_of_ble_eq_true rfl)⟩) hS (fun r_65 u_65 H locs hH hr_65 hS => ?_)
            obtain ⟨hr_65, hR2⟩ := hr_65
            subst hr_65
            have hO2 : u_65 (Z (0, 0, 0)) = some (.inr (5, [.ref (Z (3, 0, 0)), .ref (Z (1, 0, 0)), .ref (Z (2, 0, 0)), va_rf (zs_prev (zs_nc X.1) (fun i => Z (7, i, 0))), .int (nI (zs_nc X.1)), .long (zs_ck X.1)])) := hR2.1 (0, 0, 0) ⟨rfl, rfl⟩
            refine lv_aload_n hx hb dX5_back_68 rfl (lv_at hl 2 rfl) ?_
            refine zk_get (ci := 5) (v := .ref (Z (3, 0, 0))) (C := RX5) (T := TX5) (N := 6) hx hb hts inw_wsX5_back_5 hown hK hH hO2 rfl 0 (by decide) (hts (.fieldLink RX5 10 "KegDeposits" "house" "LKegDeposits$Party;") (by decide +kernel)) rfl dX5_back_69 ?_
            refine lv_aload hx hb dX5_back_72 (lv_at hl 1 rfl) ?_
            refine zk_callv (va_runV (As := [.long d, .long ((zs_take X.1 p k num (zs_nl X.1)).2.2), .ref (Z (3, 0, 0)), .ref (Z (3, p, 0))]) (rest := []) ⟨hx, hb, hml, hown, hts⟩ (zc_X5_move l (X := (zs_ll_ X.1 (zs_take X.1 p k num (zs_nl X.1)).1, X.2)) hR2 (zs_I_ll hI (zs_take_dom (fun j hj => (hI.2.2.1.1 j hj).2.2.2.2.1) (Int64.le_trans (by decide) hnum.1) _ (Nat.le_refl _)).1) (x := 0) (y := p) hI.1.1 hp d (zs_take X.1 p k num (zs_nl X.1)).2.2) (cwV 4 hts gX5_back_X5_move rfl rfl rfl (by decide +kernel) ⟨Nat.le_of_ble_eq_true rfl, Nat.le_of_ble_eq_true rfl⟩) (zk_preV hH hK hN hO2 rfl) rfl rfl hl.1 rfl (lv_room (Nat.le_of_ble_eq_true rfl)) dX5_back_74 ⟨(Nat.le_of_ble_eq_true rfl), (Nat.le_of_ble_eq_true rfl)⟩) hS (fun u_74 H locs hH hr_74 hS => ?_)
            refine lv_iconst (v := 1) hx hb dX5_back_77 (by decide) ?_
            exact zk_zret hx hb hr hlocks (by first | rfl | decide) hH hS (by decide) (by decide) (zs_yes (by simp only [zs_fback, hx_2, hx_9]; exact if_pos ⟨hnum, hmay, hen⟩) (zs_P_trans hr_74 (fun _ _ => rfl) (fun _ h => h))) dX5_back_78
          · skip
            have hen : ¬ num ≤ zs_has X.1 p k := by rw [hr_47, zs_pup_has hI.2.2.1] at h_51; exact h_51
            refine lv_iconst (v := 0) hx hb dX5_back_55 (by decide) ?_
            exact zk_zret hx hb hr hlocks (by first | rfl | decide) hH hS (by decide) (by decide) (zs_no hR (by simp only [zs_fback, hx_2, hx_9]; exact if_neg (fun q => hen q.2.2))) dX5_back_56

theorem inw_wsX5_sampled_5 : ∀ w ∈ u_ws RX5 TX5 6, w ∈ wsX5_sampled := by decide +kernel
set_option maxHeartbeats 4000000 in
set_option maxRecDepth 100000 in
theorem zc_X5_sampled (l : Launch) {g : zk_G} {z : Nat} {M : zk_M} {X : zs_X} {Z : zs_Z} {n : Nat} (hR : zs_R g X Z M) (hI : zs_I X.1 n) (hn : zs_nc X.1 < 512) (x : Int32) (num d : Int64) : Met l yX5_sampled wsX5_sampled ({ frames := 3, cells := 1, slots := 5, locals := 79 } : Room) (va_Pc [.ref (Z (0, 0, 0)), .int x, .long num, .long d] (zk_U g z M)) (va_Qi (fun r u => r = (zs_fsampled X.1 x num d).1 ∧ zs_P g X Z ((zs_fsampled X.1 x num d).2, X.2) u) (zk_B g z) (fun q => z ≤ q)) 1 5 (fun q => z ≤ q) := by
  refine Met.ofW (cc := cX5_sampled) (maxL := 7) (ret := (some .boolean)) (by decide) rfl ?_
  intro P0 e0 s m0 args below meth c0 s₁ B hml hv
  obtain ⟨rfl, hH, hK, hN⟩ := hv
  have hx := B.exec
  have hb := B.bytes
  have hr := B.returns
  have hts := atoms_spec (ws := wsX5_sampled) B.pre
  have hown : s.vm.findClass RX5 = some m0.cls := findClass_of_methodNamed B.named
  have hlocks := B.notSynchronized
  have hS : va_S (fun q => z ≤ q) s.heap s.heap [] := va_S.rf
  have hl := lv_entry ([.ref (Z (0, 0, 0)), .int x, .long num, .long d]) (n := 7) (Nat.le_of_ble_eq_true rfl)
  rw [lg_entry_eq]
  generalize (lg_sl ([.ref (Z (0, 0, 0)), .int x, .long num, .long d]) ++ List.replicate (7 - (lg_sl ([.ref (Z (0, 0, 0)), .int x, .long num, .long d])).length) Slot.unset).toArray = ls at hl ⊢
  have hl : lv_has ls 7 [(0, .ref (Z (0, 0, 0))), (1, .int x), (2, .long num), (4, .long d)] := hl
  have hO : M (Z (0, 0, 0)) = some (.inr (5, [.ref (Z (3, 0, 0)), .ref (Z (1, 0, 0)), .ref (Z (2, 0, 0)), va_rf (zs_prev (zs_nc X.1) (fun i => Z (7, i, 0))), .int (nI (zs_nc X.1)), .long (zs_ck X.1)])) := hR.1 (0, 0, 0) ⟨rfl, rfl⟩
  refine lv_aload_n hx hb dX5_sampled_0 rfl (lv_at hl 0 rfl) ?_
  refine lv_iload_n hx hb dX5_sampled_1 rfl (lv_at hl 1 rfl) ?_
  refine va_csq (W.runV (As := [.int x]) (rest := []) ⟨hx, hb, hml, hown, hts⟩ (zc_X5_customerAt l hR hI.1.2.1 x) (cwV 1 hts gX5_sampled_X5_customerAt rfl rfl rfl (by decide +kernel) ⟨Nat.le_of_ble_eq_true rfl, Nat.le_of_ble_eq_true rfl⟩) (zk_preV hH hK hN hO rfl) rfl rfl hl.1 rfl (lv_room (Nat.le_of_ble_eq_true rfl)) dX5_sampled_2 ⟨(Nat.le_of_ble_eq_true rfl), (Nat.le_of_ble_eq_true rfl)⟩) (fun r_2 hr_2 => ?_)
  cases hx_2 : zs_cx (zs_np X.1) x with
  | none =>
    refine zk_top (v' := .null) (by rw [hr_2, hx_2]; rfl) ?_
    refine lv_astoreN (lv' := [(6, .null), (0, .ref (Z (0, 0, 0))), (1, .int x), (2, .long num), (4, .long d)]) hx hb dX5_sampled_5 hl (by decide) rfl (fun ls hl => ?_)
    refine lv_aloadN hx hb dX5_sampled_7 (lv_at hl 0 rfl) ?_
    refine lv_ifnullN (tgt := 45) hx hb dX5_sampled_9 (by decide) ?_
    refine lv_iconst (v := 0) hx hb dX5_sampled_45 (by decide) ?_
    exact zk_zret hx hb hr hlocks (by first | rfl | decide) hH hS (by decide) (by decide) (zs_no hR (by simp only [zs_fsampled, hx_2])) dX5_sampled_46
  | some p =>
    refine zk_top (v' := .ref (Z (3, p, 0))) (by rw [hr_2, hx_2]; rfl) ?_
    obtain ⟨hp, ex_p, hz_p⟩ := zs_cx_some (by have := hI.1.2.1; omega) hx_2
    refine lv_astore (lv' := [(6, .ref (Z (3, p, 0))), (0, .ref (Z (0, 0, 0))), (1, .int x), (2, .long num), (4, .long d)]) hx hb dX5_sampled_5 hl (by decide) rfl (fun ls hl => ?_)
    refine lv_aload hx hb dX5_sampled_7 (lv_at hl 0 rfl) ?_
    refine lv_ifnull hx hb dX5_sampled_9 ?_
    refine lv_lload_n hx hb dX5_sampled_12 rfl (lv_at hl 3 rfl) ?_
    refine vp_callSi (W.runS (As := [.long num]) (rest := []) ⟨hx, hb, hml, hown, hts⟩ (zc_X5_isNumber l num) (va_cwS 1 hts gX5_sampled_X5_isNumber rfl rfl rfl (by decide +kernel) ⟨Nat.le_of_ble_eq_true rfl, Nat.le_of_ble_eq_true rfl⟩) (zk_preS hH hK hN) rfl rfl hl.1 rfl (lv_room (Nat.le_of_ble_eq_true rfl)) dX5_sampled_13 ⟨(Nat.le_of_ble_eq_true rfl), (Nat.le_of_ble_eq_true rfl)⟩) (fun r_13 hr_13 => ?_)
    refine lv_if_eq (tgt := 45) hx hb dX5_sampled_16 (by decide) (fun h_16 => ?_) (fun h_16 => ?_)
    · skip
      have hnum : ¬ (zs_isN num) := zs_b0 hr_13 h_16
      refine lv_iconst (v := 0) hx hb dX5_sampled_45 (by decide) ?_
      exact zk_zret hx hb hr hlocks (by first | rfl | decide) hH hS (by decide) (by decide) (zs_no hR (by simp only [zs_fsampled, hx_2]; exact if_neg (fun q => hnum q.1))) dX5_sampled_46
    · skip
      have hnum : zs_isN num := zs_b1 hr_13 h_16
      refine lv_aload_n hx hb dX5_sampled_19 rfl (lv_at hl 1 rfl) ?_
      refine lv_lload hx hb dX5_sampled_20 (lv_at hl 4 rfl) ?_
      refine vp_callSi (W.runV (As := [.long d]) (rest := []) ⟨hx, hb, hml, hown, hts⟩ (zc_X5_mayMoveOn l hR hn d) (cwV 1 hts gX5_sampled_X5_mayMoveOn rfl rfl rfl (by decide +kernel) ⟨Nat.le_of_ble_eq_true rfl, Nat.le_of_ble_eq_true rfl⟩) (zk_preV hH hK hN hO rfl) rfl rfl hl.1 rfl (lv_room (Nat.le_of_ble_eq_true rfl)) dX5_sampled_22 ⟨(Nat.le_of_ble_eq_true rfl), (Nat.le_of_ble_eq_true rfl)⟩) (fun r_22 hr_22 => ?_)
      refine lv_if_eq (tgt := 45) hx hb dX5_sampled_25 (by decide) (fun h_25 => ?_) (fun h_25 => ?_)
      · skip
        have hmay : ¬ (zs_isD d ∧ zs_ck X.1 ≤ d) := zs_b0 hr_22 h_25
        refine lv_iconst (v := 0) hx hb dX5_sampled_45 (by decide) ?_
        exact zk_zret hx hb hr hlocks (by first | rfl | decide) hH hS (by decide) (by decide) (zs_no hR (by simp only [zs_fsampled, hx_2]; exact if_neg (fun q => hmay q.2.1))) dX5_sampled_46
      · skip
        have hmay : zs_isD d ∧ zs_ck X.1 ≤ d := zs_b1 hr_22 h_25
        refine lv_aload_n hx hb dX5_sampled_28 rfl (lv_at hl 1 rfl) ?_
        refine vp_callSi (W.runV (As := []) (rest := []) ⟨hx, hb, hml, hown, hts⟩ (zc_X5_sharesMakeOne l hR hI.2.1 hI.1.2.2.1) (cwV 0 hts gX5_sampled_X5_sharesMakeOne rfl rfl rfl (by decide +kernel) ⟨Nat.le_of_ble_eq_true rfl, Nat.le_of_ble_eq_true rfl⟩) (zk_preV hH hK hN hO rfl) rfl rfl hl.1 rfl (lv_room (Nat.le_of_ble_eq_true rfl)) dX5_sampled_29 ⟨(Nat.le_of_ble_eq_true rfl), (Nat.le_of_ble_eq_true rfl)⟩) (fun r_29 hr_29 => ?_)
        refine lv_if_eq (tgt := 45) hx hb dX5_sampled_32 (by decide) (fun h_32 => ?_) (fun h_32 => ?_)
        · skip
          have hone : ¬ (zs_sum (zs_sh X.1) (zs_nk X.1) = 10000) := zs_b0 hr_29 h_32
          refine lv_iconst (v := 0) hx hb dX5_sampled_45 (by decide) ?_
          exact zk_zret hx hb hr hlocks (by first | rfl | decide) hH hS (by decide) (by decide) (zs_no hR (by simp only [zs_fsampled, hx_2]; exact if_neg (fun q => hone q.2.2.1))) dX5_sampled_46
        · skip
          have hone : zs_sum (zs_sh X.1) (zs_nk X.1) = 10000 := zs_b1 hr_29 h_32
          refine lv_aload_n hx hb dX5_sampled_35 rfl (lv_at hl 1 rfl) ?_
          refine lv_aload hx hb dX5_sampled_36 (lv_at hl 0 rfl) ?_
          refine lv_lload_n hx hb dX5_sampled_38 rfl (lv_at hl 3 rfl) ?_
          refine vp_callSi (W.runV (As := [.ref (Z (3, p, 0)), .long num]) (rest := []) ⟨hx, hb, hml, hown, hts⟩ (zc_X5_hasLot l hR hI.2.2.1 hI.1.2.2.1 hp num) (cwV 2 hts gX5_sampled_X5_hasLot rfl rfl rfl (by decide +kernel) ⟨Nat.le_of_ble_eq_true rfl, Nat.le_of_ble_eq_true rfl⟩) (zk_preV hH hK hN hO rfl) rfl rfl hl.1 rfl (lv_room (Nat.le_of_ble_eq_true rfl)) dX5_sampled_39 ⟨(Nat.le_of_ble_eq_true rfl), (Nat.le_of_ble_eq_true rfl)⟩) (fun r_39 hr_39 => ?_)
          refine lv_if_ne (tgt := 47) hx hb dX5_sampled_42 (by decide) (fun h_42 => ?_) (fun h_42 => ?_)
          · skip
            have hen : zs_enough X.1 p num (zs_nk X.1) = true := zs_b1 hr_39 h_42
            refine lv_aload_n hx hb dX5_sampled_47 rfl (lv_at hl 1 rfl) ?_
            refine lv_lload hx hb dX5_sampled_48 (lv_at hl 4 rfl) ?_
            refine lv_aload_n hx hb dX5_sampled_50 rfl (lv_at hl 1 rfl) ?_
            refine lv_aload hx hb dX5_sampled_51 (lv_at hl 0 rfl) ?_
            refine lv_lload_n hx hb dX5_sampled_53 rfl (lv_at hl 3 rfl) ?_
            refine zk_calll (va_runV (As := [.ref (Z (3, p, 0)), .long num]) (rest := [.long d, .ref (Z (0, 0, 0))]) ⟨hx, hb, hml, hown, hts⟩ (zc_X5_giveBackLot l hR hI.2.2.1 hI.1.2.2.1 hp num) (cwV 2 hts gX5_sampled_X5_giveBackLot rfl rfl rfl (by decide +kernel) ⟨Nat.le_of_ble_eq_true rfl, Nat.le_of_ble_eq_true rfl⟩) (zk_preV hH hK hN hO rfl) rfl rfl hl.1 rfl (lv_room (Nat.le_of_ble_eq_true rfl)) dX5_sampled_54 ⟨(Nat.le_of_ble_eq_true rfl), (Nat.le_of_ble_eq_true rfl)⟩) hS (fun r_54 u_54 H locs hH hr_54 hS => ?_)
            obtain ⟨hr_54, hR2⟩ := hr_54
            subst hr_54
            have hO2 : u_54 (Z (0, 0, 0)) = some (.inr (5, [.ref (Z (3, 0, 0)), .ref (Z (1, 0, 0)), .ref (Z (2, 0, 0)), va_rf (zs_prev (zs_nc X.1) (fun i => Z (7, i, 0))), .int (nI (zs_nc X.1)), .long (zs_ck X.1)])) := hR2.1 (0, 0, 0) ⟨rfl, rfl⟩
            refine lv_aload_n hx hb dX5_sampled_57 rfl (lv_at hl 1 rfl) ?_
            refine zk_get (ci := 5) (v := .ref (Z (3, 0, 0))) (C := RX5) (T := TX5) (N := 6) hx hb hts inw_wsX5_sampled_5 hown hK hH hO2 rfl 0 (by decide) (hts (.fieldLink RX5 10 "KegDeposits" "house" "LKegDeposits$Party;") (by decide +kernel)) rfl dX5_sampled_58 ?_
            refine lv_aload hx hb dX5_sampled_61 (lv_at hl 0 rfl) ?_
            refine zk_callv (va_runV (As := [.long d, .long ((zs_lot X.1 p num (zs_nk X.1)).2.2), .ref (Z (3, 0, 0)), .ref (Z (3, p, 0))]) (rest := []) ⟨hx, hb, hml, hown, hts⟩ (zc_X5_move l (X := (zs_rs_ (zs_ll_ X.1 (zs_lot X.1 p num (zs_nk X.1)).1) (zs_lot X.1 p num (zs_nk X.1)).2.1, X.2)) hR2 (zs_I_lot hI hnum) (x := 0) (y := p) hI.1.1 hp d (zs_lot X.1 p num (zs_nk X.1)).2.2) (cwV 4 hts gX5_sampled_X5_move rfl rfl rfl (by decide +kernel) ⟨Nat.le_of_ble_eq_true rfl, Nat.le_of_ble_eq_true rfl⟩) (zk_preV hH hK hN hO2 rfl) rfl rfl hl.1 rfl (lv_room (Nat.le_of_ble_eq_true rfl)) dX5_sampled_63 ⟨(Nat.le_of_ble_eq_true rfl), (Nat.le_of_ble_eq_true rfl)⟩) hS (fun u_63 H locs hH hr_63 hS => ?_)
            refine lv_iconst (v := 1) hx hb dX5_sampled_66 (by decide) ?_
            exact zk_zret hx hb hr hlocks (by first | rfl | decide) hH hS (by decide) (by decide) (zs_yes (by simp only [zs_fsampled, hx_2]; exact if_pos ⟨hnum, hmay, hone, hen⟩) (zs_P_trans hr_63 (fun _ _ => rfl) (fun _ h => h))) dX5_sampled_67
          · skip
            have hen : ¬ (zs_enough X.1 p num (zs_nk X.1) = true) := zs_b0 hr_39 h_42
            refine lv_iconst (v := 0) hx hb dX5_sampled_45 (by decide) ?_
            exact zk_zret hx hb hr hlocks (by first | rfl | decide) hH hS (by decide) (by decide) (zs_no hR (by simp only [zs_fsampled, hx_2]; exact if_neg (fun q => hen q.2.2.2))) dX5_sampled_46
