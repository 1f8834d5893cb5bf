theorem inw_wsX5_partyAt_5 : ∀ w ∈ u_ws RX5 TX5 6, w ∈ wsX5_partyAt := by decide +kernel
set_option maxHeartbeats 4000000 in
set_option maxRecDepth 100000 in
theorem zc_X5_partyAt (l : Launch) {g : zk_G} {z : Nat} {M : zk_M} {X : zs_X} {Z : zs_Z} (hR : zs_R g X Z M) (hnp : zs_np X.1 ≤ 24) (x : Int32) : Met l yX5_partyAt wsX5_partyAt ({ frames := 0, cells := 0, slots := 0, locals := 0 } : Room) (va_Pc [.ref (Z (0, 0, 0)), .int x] (zk_U g z M)) (va_Sq (fun r => r = (zs_ix (zs_np X.1) x).map (fun j => Z (3, j, 0)))) 0 0 (fun _ => False) := by
  refine Met.ofW (cc := cX5_partyAt) (maxL := 2) (ret := (some (.object "KegDeposits$Party"))) (by decide) rfl ?_
  intro P0 e0 s m0 args below meth c0 s₁ B hml hv
  obtain ⟨rfl, hH, hK, hN⟩ := hv
  have hx := B.exec
  have hb := B.bytes
  have hr := B.returns
  have hts := atoms_spec (ws := wsX5_partyAt) B.pre
  have hown : s.vm.findClass RX5 = some m0.cls := findClass_of_methodNamed B.named
  have hlocks := B.notSynchronized
  have hl := lv_entry ([.ref (Z (0, 0, 0)), .int x]) (n := 2) (Nat.le_of_ble_eq_true rfl)
  rw [lg_entry_eq]
  generalize (lg_sl ([.ref (Z (0, 0, 0)), .int x]) ++ List.replicate (2 - (lg_sl ([.ref (Z (0, 0, 0)), .int x])).length) Slot.unset).toArray = ls at hl ⊢
  have hl : lv_has ls 2 [(0, .ref (Z (0, 0, 0))), (1, .int x)] := hl
  have hO : M (Z (0, 0, 0)) = some (.inr (5, [.ref (Z (3, 0, 0)), .ref (Z (1, 0, 0)), .ref (Z (2, 0, 0)), va_rf (zs_prev (zs_nc X.1) (fun i => Z (7, i, 0))), .int (nI (zs_nc X.1)), .long (zs_ck X.1)])) := hR.1 (0, 0, 0) ⟨rfl, rfl⟩
  have hPA : M (Z (1, 0, 0)) = some (zk_aP g 24 (fun p => if p < zs_np X.1 then some (Z (3, p, 0)) else none)) := hR.1 (1, 0, 0) ⟨rfl, rfl⟩
  refine lv_iload_n hx hb dX5_partyAt_0 rfl (lv_at hl 1 rfl) ?_
  refine lv_if_lt (tgt := 22) hx hb dX5_partyAt_1 (by decide) (fun h_1 => ?_) (fun h_1 => ?_)
  · skip
    refine lv_null hx hb dX5_partyAt_22 ?_
    exact zk_aretS (r := none) hx hb hr hlocks (by rw [zs_ix_neg h_1]; rfl) dX5_partyAt_23
  · skip
    refine lv_iload_n hx hb dX5_partyAt_4 rfl (lv_at hl 1 rfl) ?_
    refine lv_aload_n hx hb dX5_partyAt_5 rfl (lv_at hl 0 rfl) ?_
    refine zk_get (ci := 5) (v := .ref (Z (1, 0, 0))) (C := RX5) (T := TX5) (N := 6) hx hb hts inw_wsX5_partyAt_5 hown hK hH hO rfl 1 (by decide) (hts (.fieldLink RX5 16 "KegDeposits" "parties" "[LKegDeposits$Party;") (by decide +kernel)) rfl dX5_partyAt_6 ?_
    refine zk_alen (v := 24) hx hb hK hH 2 hPA rfl rfl dX5_partyAt_9 ?_
    refine lv_icmp_ge (tgt := 22) hx hb dX5_partyAt_10 (by decide) (fun h_10 => ?_) (fun h_10 => ?_)
    · skip
      refine lv_null hx hb dX5_partyAt_22 ?_
      exact zk_aretS (r := none) hx hb hr hlocks (by rw [zs_ix_ge (m := 24) hnp (by decide) h_10]; rfl) dX5_partyAt_23
    · skip
      obtain ⟨j, hj, rfl⟩ : ∃ j : Nat, j < 24 ∧ x = nI j := by
        rcases pk_ix x (n := 24) (by decide) with q | q | q
        · exact absurd q h_1
        · exact absurd q h_10
        · exact q
      refine lv_aload_n hx hb dX5_partyAt_13 rfl (lv_at hl 0 rfl) ?_
      refine zk_get (ci := 5) (v := .ref (Z (1, 0, 0))) (C := RX5) (T := TX5) (N := 6) hx hb hts inw_wsX5_partyAt_5 hown hK hH hO rfl 1 (by decide) (hts (.fieldLink RX5 16 "KegDeposits" "parties" "[LKegDeposits$Party;") (by decide +kernel)) rfl dX5_partyAt_14 ?_
      refine lv_iload_n hx hb dX5_partyAt_17 rfl (lv_at hl 1 rfl) ?_
      refine zk_aldP hx hb hK hH hPA (vp_in_nI hj (by decide)) dX5_partyAt_18 ?_
      refine zk_top (v' := va_rf ((fun p => if p < zs_np X.1 then some (Z (3, p, 0)) else none) j)) (by rw [nI_clamp (show j < 2 ^ 31 by omega)]) ?_
      refine lv_goto (tgt := 23) hx hb dX5_partyAt_19 (by decide) ?_
      exact zk_aretS (r := ((fun p => if p < zs_np X.1 then some (Z (3, p, 0)) else none) j)) hx hb hr hlocks (by rw [zs_ix_nI (by omega) (by omega)]; by_cases q : j < zs_np X.1 <;> simp [q]) dX5_partyAt_23

theorem inw_wsX5_kindAt_5 : ∀ w ∈ u_ws RX5 TX5 6, w ∈ wsX5_kindAt := by decide +kernel
set_option maxHeartbeats 4000000 in
set_option maxRecDepth 100000 in
theorem zc_X5_kindAt (l : Launch) {g : zk_G} {z : Nat} {M : zk_M} {X : zs_X} {Z : zs_Z} (hR : zs_R g X Z M) (hnp : zs_nk X.1 ≤ 12) (x : Int32) : Met l yX5_kindAt wsX5_kindAt ({ frames := 0, cells := 0, slots := 0, locals := 0 } : Room) (va_Pc [.ref (Z (0, 0, 0)), .int x] (zk_U g z M)) (va_Sq (fun r => r = (zs_ix (zs_nk X.1) x).map (fun j => Z (4, j, 0)))) 0 0 (fun _ => False) := by
  refine Met.ofW (cc := cX5_kindAt) (maxL := 2) (ret := (some (.object "KegDeposits$Kind"))) (by decide) rfl ?_
  intro P0 e0 s m0 args below meth c0 s₁ B hml hv
  obtain ⟨rfl, hH, hK, hN⟩ := hv
  have hx := B.exec
  have hb := B.bytes
  have hr := B.returns
  have hts := atoms_spec (ws := wsX5_kindAt) B.pre
  have hown : s.vm.findClass RX5 = some m0.cls := findClass_of_methodNamed B.named
  have hlocks := B.notSynchronized
  have hl := lv_entry ([.ref (Z (0, 0, 0)), .int x]) (n := 2) (Nat.le_of_ble_eq_true rfl)
  rw [lg_entry_eq]
  generalize (lg_sl ([.ref (Z (0, 0, 0)), .int x]) ++ List.replicate (2 - (lg_sl ([.ref (Z (0, 0, 0)), .int x])).length) Slot.unset).toArray = ls at hl ⊢
  have hl : lv_has ls 2 [(0, .ref (Z (0, 0, 0))), (1, .int x)] := hl
  have hO : M (Z (0, 0, 0)) = some (.inr (5, [.ref (Z (3, 0, 0)), .ref (Z (1, 0, 0)), .ref (Z (2, 0, 0)), va_rf (zs_prev (zs_nc X.1) (fun i => Z (7, i, 0))), .int (nI (zs_nc X.1)), .long (zs_ck X.1)])) := hR.1 (0, 0, 0) ⟨rfl, rfl⟩
  have hKA : M (Z (2, 0, 0)) = some (zk_aQ g 12 (fun k => if k < zs_nk X.1 then some (Z (4, k, 0)) else none)) := hR.1 (2, 0, 0) ⟨rfl, rfl⟩
  refine lv_iload_n hx hb dX5_kindAt_0 rfl (lv_at hl 1 rfl) ?_
  refine lv_if_lt (tgt := 22) hx hb dX5_kindAt_1 (by decide) (fun h_1 => ?_) (fun h_1 => ?_)
  · skip
    refine lv_null hx hb dX5_kindAt_22 ?_
    exact zk_aretS (r := none) hx hb hr hlocks (by rw [zs_ix_neg h_1]; rfl) dX5_kindAt_23
  · skip
    refine lv_iload_n hx hb dX5_kindAt_4 rfl (lv_at hl 1 rfl) ?_
    refine lv_aload_n hx hb dX5_kindAt_5 rfl (lv_at hl 0 rfl) ?_
    refine zk_get (ci := 5) (v := .ref (Z (2, 0, 0))) (C := RX5) (T := TX5) (N := 6) hx hb hts inw_wsX5_kindAt_5 hown hK hH hO rfl 2 (by decide) (hts (.fieldLink RX5 22 "KegDeposits" "kinds" "[LKegDeposits$Kind;") (by decide +kernel)) rfl dX5_kindAt_6 ?_
    refine zk_alen (v := 12) hx hb hK hH 3 hKA rfl rfl dX5_kindAt_9 ?_
    refine lv_icmp_ge (tgt := 22) hx hb dX5_kindAt_10 (by decide) (fun h_10 => ?_) (fun h_10 => ?_)
    · skip
      refine lv_null hx hb dX5_kindAt_22 ?_
      exact zk_aretS (r := none) hx hb hr hlocks (by rw [zs_ix_ge (m := 12) hnp (by decide) h_10]; rfl) dX5_kindAt_23
    · skip
      obtain ⟨j, hj, rfl⟩ : ∃ j : Nat, j < 12 ∧ x = nI j := by
        rcases pk_ix x (n := 12) (by decide) with q | q | q
        · exact absurd q h_1
        · exact absurd q h_10
        · exact q
      refine lv_aload_n hx hb dX5_kindAt_13 rfl (lv_at hl 0 rfl) ?_
      refine zk_get (ci := 5) (v := .ref (Z (2, 0, 0))) (C := RX5) (T := TX5) (N := 6) hx hb hts inw_wsX5_kindAt_5 hown hK hH hO rfl 2 (by decide) (hts (.fieldLink RX5 22 "KegDeposits" "kinds" "[LKegDeposits$Kind;") (by decide +kernel)) rfl dX5_kindAt_14 ?_
      refine lv_iload_n hx hb dX5_kindAt_17 rfl (lv_at hl 1 rfl) ?_
      refine zk_aldQ hx hb hK hH hKA (vp_in_nI hj (by decide)) dX5_kindAt_18 ?_
      refine zk_top (v' := va_rf ((fun k => if k < zs_nk X.1 then some (Z (4, k, 0)) else none) j)) (by rw [nI_clamp (show j < 2 ^ 31 by omega)]) ?_
      refine lv_goto (tgt := 23) hx hb dX5_kindAt_19 (by decide) ?_
      exact zk_aretS (r := ((fun k => if k < zs_nk X.1 then some (Z (4, k, 0)) else none) j)) hx hb hr hlocks (by rw [zs_ix_nI (by omega) (by omega)]; by_cases q : j < zs_nk X.1 <;> simp [q]) dX5_kindAt_23

set_option maxHeartbeats 4000000 in
set_option maxRecDepth 100000 in
theorem zc_X5_customerAt (l : Launch) {g : zk_G} {z : Nat} {M : zk_M} {X : zs_X} {Z : zs_Z} (hR : zs_R g X Z M) (hnp : zs_np X.1 ≤ 24) (x : Int32) : Met l yX5_customerAt wsX5_customerAt ({ frames := 1, cells := 0, slots := 0, locals := 21 } : Room) (va_Pc [.ref (Z (0, 0, 0)), .int x] (zk_U g z M)) (va_Sq (fun r => r = (zs_cx (zs_np X.1) x).map (fun j => Z (3, j, 0)))) 0 0 (fun _ => False) := by
  refine Met.ofW (cc := cX5_customerAt) (maxL := 2) (ret := (some (.object "KegDeposits$Party"))) (by decide) rfl ?_
  intro P0 e0 s m0 args below meth c0 s₁ B hml hv
  obtain ⟨rfl, hH, hK, hN⟩ := hv
  have hx := B.exec
  have hb := B.bytes
  have hr := B.returns
  have hts := atoms_spec (ws := wsX5_customerAt) B.pre
  have hown : s.vm.findClass RX5 = some m0.cls := findClass_of_methodNamed B.named
  have hlocks := B.notSynchronized
  have hl := lv_entry ([.ref (Z (0, 0, 0)), .int x]) (n := 2) (Nat.le_of_ble_eq_true rfl)
  rw [lg_entry_eq]
  generalize (lg_sl ([.ref (Z (0, 0, 0)), .int x]) ++ List.replicate (2 - (lg_sl ([.ref (Z (0, 0, 0)), .int x])).length) Slot.unset).toArray = ls at hl ⊢
  have hl : lv_has ls 2 [(0, .ref (Z (0, 0, 0))), (1, .int x)] := hl
  have hO : M (Z (0, 0, 0)) = some (.inr (5, [.ref (Z (3, 0, 0)), .ref (Z (1, 0, 0)), .ref (Z (2, 0, 0)), va_rf (zs_prev (zs_nc X.1) (fun i => Z (7, i, 0))), .int (nI (zs_nc X.1)), .long (zs_ck X.1)])) := hR.1 (0, 0, 0) ⟨rfl, rfl⟩
  refine lv_iload_n hx hb dX5_customerAt_0 rfl (lv_at hl 1 rfl) ?_
  refine lv_if_ne (tgt := 8) hx hb dX5_customerAt_1 (by decide) (fun h_1 => ?_) (fun h_1 => ?_)
  · skip
    refine lv_aload_n hx hb dX5_customerAt_8 rfl (lv_at hl 0 rfl) ?_
    refine lv_iload_n hx hb dX5_customerAt_9 rfl (lv_at hl 1 rfl) ?_
    refine va_csq (W.runV (As := [.int x]) (rest := []) ⟨hx, hb, hml, hown, hts⟩ (zc_X5_partyAt l hR hnp x) (cwV 1 hts gX5_customerAt_X5_partyAt rfl rfl rfl (by decide +kernel) ⟨Nat.le_of_ble_eq_true rfl, Nat.le_of_ble_eq_true rfl⟩) (zk_preV hH hK hN hO rfl) rfl rfl hl.1 rfl (lv_room (Nat.le_of_ble_eq_true rfl)) dX5_customerAt_10 ⟨(Nat.le_of_ble_eq_true rfl), (Nat.le_of_ble_eq_true rfl)⟩) (fun r_10 hr_10 => ?_)
    exact zk_aretS (r := r_10) hx hb hr hlocks (by rw [hr_10, show zs_cx (zs_np X.1) x = zs_ix (zs_np X.1) x from if_neg h_1]) dX5_customerAt_13
  · skip
    refine lv_null hx hb dX5_customerAt_4 ?_
    refine lv_goto (tgt := 13) hx hb dX5_customerAt_5 (by decide) ?_
    exact zk_aretS (r := none) hx hb hr hlocks (by rw [show zs_cx (zs_np X.1) x = none from if_pos h_1]; rfl) dX5_customerAt_13

set_option maxHeartbeats 4000000 in
set_option maxRecDepth 100000 in
theorem zc_X5_isDay (l : Launch) {g : zk_G} {z : Nat} {M : zk_M} (x : Int64) : Met l yX5_isDay wsX5_isDay ({ frames := 0, cells := 0, slots := 0, locals := 0 } : Room) (va_Pc [.long x] (zk_U g z M)) (vp_Si (fun r => r = if zs_isD x then 1 else 0)) 0 0 (fun _ => False) := by
  refine Met.ofW (cc := cX5_isDay) (maxL := 2) (ret := (some .boolean)) (by decide) rfl ?_
  intro P0 e0 s m0 args below meth c0 s₁ B hml hv
  obtain ⟨rfl, hH, hK, hN⟩ := hv
  have hx := B.exec
  have hb := B.bytes
  have hr := B.returns
  have hts := atoms_spec (ws := wsX5_isDay) B.pre
  have hown : s.vm.findClass RX5 = some m0.cls := findClass_of_methodNamed B.named
  have hlocks := B.notSynchronized
  have hl := lv_entry ([.long x]) (n := 2) (Nat.le_of_ble_eq_true rfl)
  rw [lg_entry_eq]
  generalize (lg_sl ([.long x]) ++ List.replicate (2 - (lg_sl ([.long x])).length) Slot.unset).toArray = ls at hl ⊢
  have hl : lv_has ls 2 [(0, .long x)] := hl
  refine lv_lload_n hx hb dX5_isDay_0 rfl (lv_at hl 0 rfl) ?_
  refine lv_lconst (v := 0) hx hb dX5_isDay_1 (by decide) ?_
  refine zk_lc_lt (tgt := 18) hx hb dX5_isDay_2 dX5_isDay_3 (by decide) (fun h_2 => ?_) (fun h_2 => ?_)
  · skip
    refine lv_iconst (v := 0) hx hb dX5_isDay_18 (by decide) ?_
    exact zk_zretS hx hb hr hlocks (by first | rfl | decide) (if_neg (fun q => absurd h_2 (Int64.not_lt.mpr q.1))).symm dX5_isDay_19
  · skip
    refine lv_lload_n hx hb dX5_isDay_6 rfl (lv_at hl 0 rfl) ?_
    refine lv_ldc2 (v := 100000) hx hb hown (hts (.constantLong RX5 35 (100000)) (by decide +kernel)) dX5_isDay_7 ?_
    refine zk_lc_gt (tgt := 18) hx hb dX5_isDay_10 dX5_isDay_11 (by decide) (fun h_10 => ?_) (fun h_10 => ?_)
    · skip
      refine lv_iconst (v := 0) hx hb dX5_isDay_18 (by decide) ?_
      exact zk_zretS hx hb hr hlocks (by first | rfl | decide) (if_neg (fun q => absurd h_10 (Int64.not_lt.mpr q.2))).symm dX5_isDay_19
    · skip
      refine lv_iconst (v := 1) hx hb dX5_isDay_14 (by decide) ?_
      refine lv_goto (tgt := 19) hx hb dX5_isDay_15 (by decide) ?_
      exact zk_zretS hx hb hr hlocks (by first | rfl | decide) (if_pos ⟨Int64.not_lt.mp h_2, Int64.not_lt.mp h_10⟩).symm dX5_isDay_19

set_option maxHeartbeats 4000000 in
set_option maxRecDepth 100000 in
theorem zc_X5_isNumber (l : Launch) {g : zk_G} {z : Nat} {M : zk_M} (x : Int64) : Met l yX5_isNumber wsX5_isNumber ({ frames := 0, cells := 0, slots := 0, locals := 0 } : Room) (va_Pc [.long x] (zk_U g z M)) (vp_Si (fun r => r = if zs_isN x then 1 else 0)) 0 0 (fun _ => False) := by
  refine Met.ofW (cc := cX5_isNumber) (maxL := 2) (ret := (some .boolean)) (by decide) rfl ?_
  intro P0 e0 s m0 args below meth c0 s₁ B hml hv
  obtain ⟨rfl, hH, hK, hN⟩ := hv
  have hx := B.exec
  have hb := B.bytes
  have hr := B.returns
  have hts := atoms_spec (ws := wsX5_isNumber) B.pre
  have hown : s.vm.findClass RX5 = some m0.cls := findClass_of_methodNamed B.named
  have hlocks := B.notSynchronized
  have hl := lv_entry ([.long x]) (n := 2) (Nat.le_of_ble_eq_true rfl)
  rw [lg_entry_eq]
  generalize (lg_sl ([.long x]) ++ List.replicate (2 - (lg_sl ([.long x])).length) Slot.unset).toArray = ls at hl ⊢
  have hl : lv_has ls 2 [(0, .long x)] := hl
  refine lv_lload_n hx hb dX5_isNumber_0 rfl (lv_at hl 0 rfl) ?_
  refine lv_lconst (v := 1) hx hb dX5_isNumber_1 (by decide) ?_
  refine zk_lc_lt (tgt := 18) hx hb dX5_isNumber_2 dX5_isNumber_3 (by decide) (fun h_2 => ?_) (fun h_2 => ?_)
  · skip
    refine lv_iconst (v := 0) hx hb dX5_isNumber_18 (by decide) ?_
    exact zk_zretS hx hb hr hlocks (by first | rfl | decide) (if_neg (fun q => absurd h_2 (Int64.not_lt.mpr q.1))).symm dX5_isNumber_19
  · skip
    refine lv_lload_n hx hb dX5_isNumber_6 rfl (lv_at hl 0 rfl) ?_
    refine lv_ldc2 (v := 100000) hx hb hown (hts (.constantLong RX5 35 (100000)) (by decide +kernel)) dX5_isNumber_7 ?_
    refine zk_lc_gt (tgt := 18) hx hb dX5_isNumber_10 dX5_isNumber_11 (by decide) (fun h_10 => ?_) (fun h_10 => ?_)
    · skip
      refine lv_iconst (v := 0) hx hb dX5_isNumber_18 (by decide) ?_
      exact zk_zretS hx hb hr hlocks (by first | rfl | decide) (if_neg (fun q => absurd h_10 (Int64.not_lt.mpr q.2))).symm dX5_isNumber_19
    · skip
      refine lv_iconst (v := 1) hx hb dX5_isNumber_14 (by decide) ?_
      refine lv_goto (tgt := 19) hx hb dX5_isNumber_15 (by decide) ?_
      exact zk_zretS hx hb hr hlocks (by first | rfl | decide) (if_pos ⟨Int64.not_lt.mp h_2, Int64.not_lt.mp h_10⟩).symm dX5_isNumber_19

theorem inw_wsX5_mayMoveOn_5 : ∀ w ∈ u_ws RX5 TX5 6, w ∈ wsX5_mayMoveOn := by decide +kernel
set_option maxHeartbeats 4000000 in
set_option maxRecDepth 100000 in
theorem zc_X5_mayMoveOn (l : Launch) {g : zk_G} {z : Nat} {M : zk_M} {X : zs_X} {Z : zs_Z} (hR : zs_R g X Z M) (hn : zs_nc X.1 < 512) (d : Int64) : Met l yX5_mayMoveOn wsX5_mayMoveOn ({ frames := 1, cells := 0, slots := 0, locals := 21 } : Room) (va_Pc [.ref (Z (0, 0, 0)), .long d] (zk_U g z M)) (vp_Si (fun r => r = if zs_isD d ∧ zs_ck X.1 ≤ d then 1 else 0)) 0 0 (fun _ => False) := by
  refine Met.ofW (cc := cX5_mayMoveOn) (maxL := 3) (ret := (some .boolean)) (by decide) rfl ?_
  intro P0 e0 s m0 args below meth c0 s₁ B hml hv
  obtain ⟨rfl, hH, hK, hN⟩ := hv
  have hx := B.exec
  have hb := B.bytes
  have hr := B.returns
  have hts := atoms_spec (ws := wsX5_mayMoveOn) B.pre
  have hown : s.vm.findClass RX5 = some m0.cls := findClass_of_methodNamed B.named
  have hlocks := B.notSynchronized
  have hl := lv_entry ([.ref (Z (0, 0, 0)), .long d]) (n := 3) (Nat.le_of_ble_eq_true rfl)
  rw [lg_entry_eq]
  generalize (lg_sl ([.ref (Z (0, 0, 0)), .long d]) ++ List.replicate (3 - (lg_sl ([.ref (Z (0, 0, 0)), .long d])).length) Slot.unset).toArray = ls at hl ⊢
  have hl : lv_has ls 3 [(0, .ref (Z (0, 0, 0))), (1, .long d)] := hl
  have hO : M (Z (0, 0, 0)) = some (.inr (5, [.ref (Z (3, 0, 0)), .ref (Z (1, 0, 0)), .ref (Z (2, 0, 0)), va_rf (zs_prev (zs_nc X.1) (fun i => Z (7, i, 0))), .int (nI (zs_nc X.1)), .long (zs_ck X.1)])) := hR.1 (0, 0, 0) ⟨rfl, rfl⟩
  refine lv_lload_n hx hb dX5_mayMoveOn_0 rfl (lv_at hl 1 rfl) ?_
  refine vp_callSi (W.runS (As := [.long d]) (rest := []) ⟨hx, hb, hml, hown, hts⟩ (zc_X5_isDay l d) (va_cwS 1 hts gX5_mayMoveOn_X5_isDay rfl rfl rfl (by decide +kernel) ⟨Nat.le_of_ble_eq_true rfl, Nat.le_of_ble_eq_true rfl⟩) (zk_preS hH hK hN) rfl rfl hl.1 rfl (lv_room (Nat.le_of_ble_eq_true rfl)) dX5_mayMoveOn_1 ⟨(Nat.le_of_ble_eq_true rfl), (Nat.le_of_ble_eq_true rfl)⟩) (fun r_1 hr_1 => ?_)
  refine lv_if_eq (tgt := 30) hx hb dX5_mayMoveOn_4 (by decide) (fun h_4 => ?_) (fun h_4 => ?_)
  · skip
    have hd : ¬ zs_isD d := fun q => by rw [hr_1, if_pos q] at h_4; exact absurd h_4 (by decide)
    refine lv_iconst (v := 0) hx hb dX5_mayMoveOn_30 (by decide) ?_
    exact zk_zretS hx hb hr hlocks (by first | rfl | decide) (if_neg (fun q => hd q.1)).symm dX5_mayMoveOn_31
  · skip
    have hd : zs_isD d := Decidable.byContradiction (fun q => h_4 (by rw [hr_1, if_neg q]))
    refine lv_lload_n hx hb dX5_mayMoveOn_7 rfl (lv_at hl 1 rfl) ?_
    refine lv_aload_n hx hb dX5_mayMoveOn_8 rfl (lv_at hl 0 rfl) ?_
    refine zk_get (ci := 5) (v := .long (zs_ck X.1)) (C := RX5) (T := TX5) (N := 6) hx hb hts inw_wsX5_mayMoveOn_5 hown hK hH hO rfl 5 (by decide) (hts (.fieldLink RX5 105 "KegDeposits" "clock" "J") (by decide +kernel)) rfl dX5_mayMoveOn_9 ?_
    refine zk_lc_lt (tgt := 30) hx hb dX5_mayMoveOn_12 dX5_mayMoveOn_13 (by decide) (fun h_12 => ?_) (fun h_12 => ?_)
    · skip
      refine lv_iconst (v := 0) hx hb dX5_mayMoveOn_30 (by decide) ?_
      exact zk_zretS hx hb hr hlocks (by first | rfl | decide) (if_neg (fun q => absurd h_12 (Int64.not_lt.mpr q.2))).symm dX5_mayMoveOn_31
    · skip
      refine lv_aload_n hx hb dX5_mayMoveOn_16 rfl (lv_at hl 0 rfl) ?_
      refine zk_get (ci := 5) (v := .int (nI (zs_nc X.1))) (C := RX5) (T := TX5) (N := 6) hx hb hts inw_wsX5_mayMoveOn_5 hown hK hH hO rfl 4 (by decide) (hts (.fieldLink RX5 127 "KegDeposits" "movesDone" "I") (by decide +kernel)) rfl dX5_mayMoveOn_17 ?_
      refine lv_sipush (v := 512) hx hb dX5_mayMoveOn_20 (by decide) ?_
      refine lv_icmp_ge (tgt := 30) hx hb dX5_mayMoveOn_23 (by decide) (fun h_23 => ?_) (fun h_23 => ?_)
      · skip
        exact absurd h_23 (nI_ge hn (by decide))
      · skip
        refine lv_iconst (v := 1) hx hb dX5_mayMoveOn_26 (by decide) ?_
        refine lv_goto (tgt := 31) hx hb dX5_mayMoveOn_27 (by decide) ?_
        exact zk_zretS hx hb hr hlocks (by first | rfl | decide) (if_pos ⟨hd, Int64.not_lt.mp h_12⟩).symm dX5_mayMoveOn_31

theorem inw_wsX5_move_4 : ∀ w ∈ u_ws RX4 TX4 5, w ∈ wsX5_move := by decide +kernel
theorem inw_wsX5_move_5 : ∀ w ∈ u_ws RX5 TX5 6, w ∈ wsX5_move := by decide +kernel
set_option maxHeartbeats 4000000 in
set_option maxRecDepth 100000 in
theorem zc_X5_move (l : Launch) {g : zk_G} {z : Nat} {M : zk_M} {X : zs_X} {Z : zs_Z} {n : Nat} (hR : zs_R g X Z M) (hI : zs_I X.1 n) {x y : Nat} (hx0 : x < zs_np X.1) (hy0 : y < zs_np X.1) (d c : Int64) : Met l yX5_move wsX5_move ({ frames := 2, cells := 1, slots := 5, locals := 39 } : Room) (va_Pc [.ref (Z (0, 0, 0)), .long d, .long c, .ref (Z (3, x, 0)), .ref (Z (3, y, 0))] (zk_U g z M)) (va_Qv (fun u => zs_P g X Z (zs_mv X.1 x y c d, X.2) u) (zk_B g z) (fun q => z ≤ q)) 1 5 (fun q => z ≤ q) := by
  refine Met.ofW (cc := cX5_move) (maxL := 7) (ret := none) (by decide) rfl ?_
  intro P0 e0 s m0 args below meth c0 s₁ B hml hv
  obtain ⟨rfl, hH, hK, hN⟩ := hv
  have hx := B.exec
  have hb := B.bytes
  have hr := B.returns
  have hts := atoms_spec (ws := wsX5_move) B.pre
  have hown : s.vm.findClass RX5 = some m0.cls := findClass_of_methodNamed B.named
  have hlocks := B.notSynchronized
  have hS : va_S (fun q => z ≤ q) s.heap s.heap [] := va_S.rf
  have hl := lv_entry ([.ref (Z (0, 0, 0)), .long d, .long c, .ref (Z (3, x, 0)), .ref (Z (3, y, 0))]) (n := 7) (Nat.le_of_ble_eq_true rfl)
  rw [lg_entry_eq]
  generalize (lg_sl ([.ref (Z (0, 0, 0)), .long d, .long c, .ref (Z (3, x, 0)), .ref (Z (3, y, 0))]) ++ List.replicate (7 - (lg_sl ([.ref (Z (0, 0, 0)), .long d, .long c, .ref (Z (3, x, 0)), .ref (Z (3, y, 0))])).length) Slot.unset).toArray = ls at hl ⊢
  have hl : lv_has ls 7 [(0, .ref (Z (0, 0, 0))), (1, .long d), (3, .long c), (5, .ref (Z (3, x, 0))), (6, .ref (Z (3, y, 0)))] := hl
  have hO : M (Z (0, 0, 0)) = some (.inr (5, [.ref (Z (3, 0, 0)), .ref (Z (1, 0, 0)), .ref (Z (2, 0, 0)), va_rf (zs_prev (zs_nc X.1) (fun i => Z (7, i, 0))), .int (nI (zs_nc X.1)), .long (zs_ck X.1)])) := hR.1 (0, 0, 0) ⟨rfl, rfl⟩
  refine lv_aload_n hx hb dX5_move_0 rfl (lv_at hl 0 rfl) ?_
  refine zk_new (ci := 4) (fs := [.long 0, .long 0, .null, .null, .null]) (C := RX4) (T := TX4) (N := 5) hx hb hts inw_wsX5_move_4 tyX4 tyX4_ok hown (hts (.classLink RX5 131 RX4) (by decide +kernel)) (hts (.instantiable RX4 5) (by decide +kernel)) (hts (.initialized RX4) (by decide +kernel)) hK hH hS rfl (fun j hj => by rcases (show j = 0 ∨ j = 1 ∨ j = 2 ∨ j = 3 ∨ j = 4 by omega) with rfl | rfl | rfl | rfl | rfl <;> rfl) (Nat.le_of_ble_eq_true rfl) (Nat.le_of_ble_eq_true rfl) dX5_move_1 (fun q_1 H hf_1 hH hS => ?_)
  obtain ⟨M_1, eM_1⟩ : ∃ w_0 : zk_M, w_0 = zk_up M q_1 (.inr (4, [.long 0, .long 0, .null, .null, .null])) := ⟨_, rfl⟩
  have hH : zk_H g z M_1 H := by rw [eM_1]; exact hH
  have f_1_0 : M_1 (Z (0, 0, 0)) = some (.inr (5, [.ref (Z (3, 0, 0)), .ref (Z (1, 0, 0)), .ref (Z (2, 0, 0)), va_rf (zs_prev (zs_nc X.1) (fun i => Z (7, i, 0))), .int (nI (zs_nc X.1)), .long (zs_ck X.1)])) := by rw [eM_1, zk_up_n _ _ (zk_ne_none hO hf_1)]; exact hO
  have e_1 : M_1 q_1 = some (.inr (4, [.long 0, .long 0, .null, .null, .null])) := by rw [eM_1]; exact zk_up_s _ _ _
  refine lv_dup hx hb dX5_move_4 rfl ?_
  refine lv_lload_n hx hb dX5_move_5 rfl (lv_at hl 1 rfl) ?_
  refine lv_lload_n hx hb dX5_move_6 rfl (lv_at hl 2 rfl) ?_
  refine lv_aload hx hb dX5_move_7 (lv_at hl 3 rfl) ?_
  refine lv_aload hx hb dX5_move_9 (lv_at hl 4 rfl) ?_
  refine lv_aload_n hx hb dX5_move_11 rfl (lv_at hl 0 rfl) ?_
  refine zk_get (ci := 5) (v := va_rf (zs_prev (zs_nc X.1) (fun i => Z (7, i, 0)))) (C := RX5) (T := TX5) (N := 6) hx hb hts inw_wsX5_move_5 hown hK hH f_1_0 rfl 3 (by decide) (hts (.fieldLink RX5 133 "KegDeposits" "latestTransfer" "LKegDeposits$Transfer;") (by decide +kernel)) rfl dX5_move_12 ?_
  refine zk_callv (va_runI (As := [.long d, .long c, .ref (Z (3, x, 0)), .ref (Z (3, y, 0)), va_rf (zs_prev (zs_nc X.1) (fun i => Z (7, i, 0)))]) (rest := [.ref q_1, .ref (Z (0, 0, 0))]) ⟨hx, hb, hml, hown, hts⟩ (zc_X4_init l d c (zs_prev (zs_nc X.1) (fun i => Z (7, i, 0))) e_1) (cwI 5 hts gX5_move_X4_init rfl rfl rfl (hts (.initialized RX4) (by decide +kernel)) (hts (.methodLink RX5 137 yX4_init) (by decide +kernel)) (hts (.instanceMethod yX4_init) (by decide +kernel)) rfl (by decide +kernel) ⟨Nat.le_of_ble_eq_true rfl, Nat.le_of_ble_eq_true rfl⟩) (zk_preS hH hK hN) rfl rfl hl.1 rfl (lv_room (Nat.le_of_ble_eq_true rfl)) dX5_move_15 ⟨(Nat.le_of_ble_eq_true rfl), (Nat.le_of_ble_eq_true rfl)⟩) hS (fun u_15 H locs hH hr_15 hS => ?_)
  have f_15 : u_15 (Z (0, 0, 0)) = some (.inr (5, [.ref (Z (3, 0, 0)), .ref (Z (1, 0, 0)), .ref (Z (2, 0, 0)), va_rf (zs_prev (zs_nc X.1) (fun i => Z (7, i, 0))), .int (nI (zs_nc X.1)), .long (zs_ck X.1)])) := (hr_15.2 _ (zk_ne_none hO hf_1)).trans f_1_0
  refine zk_put (ci := 5) (v := .ref q_1) (C := RX5) (T := TX5) (N := 6) hx hb hts inw_wsX5_move_5 tyX5 tyX5_ok nmX5 hown hK hH hS f_15 rfl 3 (by decide) (hts (.fieldLink RX5 133 "KegDeposits" "latestTransfer" "LKegDeposits$Transfer;") (by decide +kernel)) rfl rfl rfl (Nat.le_of_ble_eq_true rfl) dX5_move_18 (fun H locs hH hS => ?_)
  obtain ⟨M_18, eM_18⟩ : ∃ w_0 : zk_M, w_0 = zk_up u_15 (Z (0, 0, 0)) (.inr (5, [.ref (Z (3, 0, 0)), .ref (Z (1, 0, 0)), .ref (Z (2, 0, 0)), .ref q_1, .int (nI (zs_nc X.1)), .long (zs_ck X.1)])) := ⟨_, rfl⟩
  have hH : zk_H g z M_18 H := by rw [eM_18]; exact hH
  have f_18_0 : M_18 q_1 = some (.inr (4, [.long d, .long c, .ref (Z (3, x, 0)), .ref (Z (3, y, 0)), va_rf (zs_prev (zs_nc X.1) (fun i => Z (7, i, 0)))])) := by rw [eM_18, zk_up_n _ _ (zk_ne hr_15.1 f_15 (by simp))]; exact hr_15.1
  have e_18 : M_18 (Z (0, 0, 0)) = some (.inr (5, [.ref (Z (3, 0, 0)), .ref (Z (1, 0, 0)), .ref (Z (2, 0, 0)), .ref q_1, .int (nI (zs_nc X.1)), .long (zs_ck X.1)])) := by rw [eM_18]; exact zk_up_s _ _ _
  refine lv_aload_n hx hb dX5_move_21 rfl (lv_at hl 0 rfl) ?_
  refine lv_dup hx hb dX5_move_22 rfl ?_
  refine zk_get (ci := 5) (v := .int (nI (zs_nc X.1))) (C := RX5) (T := TX5) (N := 6) hx hb hts inw_wsX5_move_5 hown hK hH e_18 rfl 4 (by decide) (hts (.fieldLink RX5 127 "KegDeposits" "movesDone" "I") (by decide +kernel)) rfl dX5_move_23 ?_
  refine lv_iconst (v := 1) hx hb dX5_move_26 (by decide) ?_
  refine lv_iadd hx hb dX5_move_27 ?_
  refine zk_put (ci := 5) (v := .int (nI (zs_nc X.1) + 1)) (C := RX5) (T := TX5) (N := 6) hx hb hts inw_wsX5_move_5 tyX5 tyX5_ok nmX5 hown hK hH hS e_18 rfl 4 (by decide) (hts (.fieldLink RX5 127 "KegDeposits" "movesDone" "I") (by decide +kernel)) rfl rfl rfl (Nat.le_of_ble_eq_true rfl) dX5_move_28 (fun H locs hH hS => ?_)
  obtain ⟨M_28, eM_28⟩ : ∃ w_0 : zk_M, w_0 = zk_up M_18 (Z (0, 0, 0)) (.inr (5, [.ref (Z (3, 0, 0)), .ref (Z (1, 0, 0)), .ref (Z (2, 0, 0)), .ref q_1, .int (nI (zs_nc X.1) + 1), .long (zs_ck X.1)])) := ⟨_, rfl⟩
  have hH : zk_H g z M_28 H := by rw [eM_28]; exact hH
  have f_28_0 : M_28 q_1 = some (.inr (4, [.long d, .long c, .ref (Z (3, x, 0)), .ref (Z (3, y, 0)), va_rf (zs_prev (zs_nc X.1) (fun i => Z (7, i, 0)))])) := by rw [eM_28, zk_up_n _ _ (zk_ne f_18_0 e_18 (by simp))]; exact f_18_0
  have e_28 : M_28 (Z (0, 0, 0)) = some (.inr (5, [.ref (Z (3, 0, 0)), .ref (Z (1, 0, 0)), .ref (Z (2, 0, 0)), .ref q_1, .int (nI (zs_nc X.1) + 1), .long (zs_ck X.1)])) := by rw [eM_28]; exact zk_up_s _ _ _
  refine lv_aload_n hx hb dX5_move_31 rfl (lv_at hl 0 rfl) ?_
  refine lv_lload_n hx hb dX5_move_32 rfl (lv_at hl 1 rfl) ?_
  refine zk_put (ci := 5) (v := .long d) (C := RX5) (T := TX5) (N := 6) hx hb hts inw_wsX5_move_5 tyX5 tyX5_ok nmX5 hown hK hH hS e_28 rfl 5 (by decide) (hts (.fieldLink RX5 105 "KegDeposits" "clock" "J") (by decide +kernel)) rfl rfl rfl (Nat.le_of_ble_eq_true rfl) dX5_move_33 (fun H locs hH hS => ?_)
  obtain ⟨M_33, eM_33⟩ : ∃ w_0 : zk_M, w_0 = zk_up M_28 (Z (0, 0, 0)) (.inr (5, [.ref (Z (3, 0, 0)), .ref (Z (1, 0, 0)), .ref (Z (2, 0, 0)), .ref q_1, .int (nI (zs_nc X.1) + 1), .long d])) := ⟨_, rfl⟩
  have hH : zk_H g z M_33 H := by rw [eM_33]; exact hH
  have f_33_0 : M_33 q_1 = some (.inr (4, [.long d, .long c, .ref (Z (3, x, 0)), .ref (Z (3, y, 0)), va_rf (zs_prev (zs_nc X.1) (fun i => Z (7, i, 0)))])) := by rw [eM_33, zk_up_n _ _ (zk_ne f_28_0 e_28 (by simp))]; exact f_28_0
  have e_33 : M_33 (Z (0, 0, 0)) = some (.inr (5, [.ref (Z (3, 0, 0)), .ref (Z (1, 0, 0)), .ref (Z (2, 0, 0)), .ref q_1, .int (nI (zs_nc X.1) + 1), .long d])) := by rw [eM_33]; exact zk_up_s _ _ _
  exact zk_vret hx hb hr hlocks hH hS (by decide) (by decide) ⟨_, zs_R_move hR hI hx0 hy0 c d hf_1 (fun b h1 h2 => by rw [eM_33, zk_up_n _ _ h2, eM_28, zk_up_n _ _ h2, eM_18, zk_up_n _ _ h2, hr_15.2 b h1, eM_1, zk_up_n _ _ h1]) (e_33.trans (by rw [← nI_1])) f_33_0, fun q hq => zs_Zup_n Z _ (fun e => absurd (e ▸ hq : zs_ok X (7, zs_nc X.1, 0)).1 (Nat.lt_irrefl _))⟩ dX5_move_36

theorem inw_wsX5_balanceOf_4 : ∀ w ∈ u_ws RX4 TX4 5, w ∈ wsX5_balanceOf := by decide +kernel
theorem inw_wsX5_balanceOf_5 : ∀ w ∈ u_ws RX5 TX5 6, w ∈ wsX5_balanceOf := by decide +kernel
set_option maxHeartbeats 4000000 in
set_option maxRecDepth 100000 in
theorem zc_X5_balanceOf (l : Launch) {g : zk_G} {z : Nat} {M : zk_M} {X : zs_X} {Z : zs_Z} (hR : zs_R g X Z M) (hI : zs_It X.1) {p : Nat} (hp : p < zs_np X.1) (d : Int64) : Met l yX5_balanceOf wsX5_balanceOf ({ frames := 1, cells := 0, slots := 0, locals := 21 } : Room) (va_Pc [.ref (Z (0, 0, 0)), .ref (Z (3, p, 0)), .long d] (zk_U g z M)) (vp_Sl (fun r => r = zs_bal X.1 p d)) 0 0 (fun _ => False) := by
  refine Met.ofW (cc := cX5_balanceOf) (maxL := 7) (ret := (some .long)) (by decide) rfl ?_
  intro P0 e0 s m0 args below meth c0 s₁ B hml hv
  obtain ⟨rfl, hH, hK, hN⟩ := hv
  have hx := B.exec
  have hb := B.bytes
  have hr := B.returns
  have hts := atoms_spec (ws := wsX5_balanceOf) B.pre
  have hown : s.vm.findClass RX5 = some m0.cls := findClass_of_methodNamed B.named
  have hlocks := B.notSynchronized
  have hl := lv_entry ([.ref (Z (0, 0, 0)), .ref (Z (3, p, 0)), .long d]) (n := 7) (Nat.le_of_ble_eq_true rfl)
  rw [lg_entry_eq]
  generalize (lg_sl ([.ref (Z (0, 0, 0)), .ref (Z (3, p, 0)), .long d]) ++ List.replicate (7 - (lg_sl ([.ref (Z (0, 0, 0)), .ref (Z (3, p, 0)), .long d])).length) Slot.unset).toArray = ls at hl ⊢
  have hl : lv_has ls 7 [(0, .ref (Z (0, 0, 0))), (1, .ref (Z (3, p, 0))), (2, .long d)] := hl
  have hO : M (Z (0, 0, 0)) = some (.inr (5, [.ref (Z (3, 0, 0)), .ref (Z (1, 0, 0)), .ref (Z (2, 0, 0)), va_rf (zs_prev (zs_nc X.1) (fun i => Z (7, i, 0))), .int (nI (zs_nc X.1)), .long (zs_ck X.1)])) := hR.1 (0, 0, 0) ⟨rfl, rfl⟩
  refine lv_lconst (v := 0) hx hb dX5_balanceOf_0 (by decide) ?_
  refine lv_lstore (lv' := [(4, .long 0), (0, .ref (Z (0, 0, 0))), (1, .ref (Z (3, p, 0))), (2, .long d)]) hx hb dX5_balanceOf_1 hl (by decide) rfl (fun ls hl => ?_)
  refine lv_aload_n hx hb dX5_balanceOf_3 rfl (lv_at hl 1 rfl) ?_
  refine zk_get (ci := 5) (v := va_rf (zs_prev (zs_nc X.1) (fun i => Z (7, i, 0)))) (C := RX5) (T := TX5) (N := 6) hx hb hts inw_wsX5_balanceOf_5 hown hK hH hO rfl 3 (by decide) (hts (.fieldLink RX5 133 "KegDeposits" "latestTransfer" "LKegDeposits$Transfer;") (by decide +kernel)) rfl dX5_balanceOf_4 ?_
  refine zk_astore (lv' := [(6, va_rf (zs_prev (zs_nc X.1) (fun i => Z (7, i, 0)))), (4, .long 0), (0, .ref (Z (0, 0, 0))), (1, .ref (Z (3, p, 0))), (2, .long d)]) hx hb dX5_balanceOf_7 hl (by decide) rfl (fun ls hl => ?_)
  have loop : ∀ (a : Nat) (acc : Int64) (ls : Array Slot), a ≤ zs_nc X.1 → acc + zs_sum (zs_balf X.1 p d) a = zs_bal X.1 p d → lv_has ls 7 [(6, va_rf (zs_prev a (fun i => Z (7, i, 0)))), (4, .long acc), (0, .ref (Z (0, 0, 0))), (1, .ref (Z (3, p, 0))), (2, .long d)] → W P0 l e0 (headSpec wsX5_balanceOf ({ frames := 1, cells := 0, slots := 0, locals := 21 } : Room)).room s m0 ([.ref (Z (0, 0, 0)), .ref (Z (3, p, 0)), .long d] : List Value).toArray below meth c0 s.heap [] 0 0 (MQ below (vp_Sl (fun r => r = zs_bal X.1 p d)) ([.ref (Z (0, 0, 0)), .ref (Z (3, p, 0)), .long d] : List Value).toArray s 0 0 (fun _ => False)) (F0 m0 9 ls []) := by
    intro a
    induction a with
    | zero =>
      intro acc ls ha hacc hl
      have hl : lv_has ls 7 [(6, .null), (4, .long acc), (0, .ref (Z (0, 0, 0))), (1, .ref (Z (3, p, 0))), (2, .long d)] := hl
      refine lv_aloadN hx hb dX5_balanceOf_9 (lv_at hl 0 rfl) ?_
      refine lv_ifnullN (tgt := 45) hx hb dX5_balanceOf_11 (by decide) ?_
      refine lv_lload hx hb dX5_balanceOf_45 (lv_at hl 1 rfl) ?_
      exact zk_lretS hx hb hr hlocks (by rw [← hacc]; exact (Int64.add_zero _).symm) dX5_balanceOf_47
    | succ j ih =>
      intro acc ls ha hacc hl
      have hl : lv_has ls 7 [(6, .ref (Z (7, j, 0))), (4, .long acc), (0, .ref (Z (0, 0, 0))), (1, .ref (Z (3, p, 0))), (2, .long d)] := hl
      have hL : M (Z (7, j, 0)) = some (.inr (4, [.long (zs_td X.1 j), .long (zs_ta X.1 j), .ref (Z (3, zs_tp X.1 j, 0)), .ref (Z (3, zs_tt X.1 j, 0)), va_rf (zs_prev j (fun i => Z (7, i, 0)))])) := hR.1 (7, j, 0) ⟨by omega, rfl⟩
      have hs : acc + (zs_sum (zs_balf X.1 p d) j + zs_balf X.1 p d j) = zs_bal X.1 p d := hacc
      refine lv_aload hx hb dX5_balanceOf_9 (lv_at hl 0 rfl) ?_
      refine lv_ifnull hx hb dX5_balanceOf_11 ?_
      refine lv_aload hx hb dX5_balanceOf_14 (lv_at hl 0 rfl) ?_
      refine zk_getN (ci := 4) (v := .long (zs_td X.1 j)) (C := RX4) (T := TX4) (N := 5) hx hb hts inw_wsX5_balanceOf_4 hown hK hH hL rfl 0 (by decide) (zk_nf_10 hN) rfl dX5_balanceOf_16 ?_
      refine lv_lload_n hx hb dX5_balanceOf_19 rfl (lv_at hl 4 rfl) ?_
      refine zk_lc_gt (tgt := 35) hx hb dX5_balanceOf_20 dX5_balanceOf_21 (by decide) (fun h_20 => ?_) (fun h_20 => ?_)
      · skip
        refine lv_aload hx hb dX5_balanceOf_35 (lv_at hl 0 rfl) ?_
        refine zk_getN (ci := 4) (v := va_rf (zs_prev j (fun i => Z (7, i, 0)))) (C := RX4) (T := TX4) (N := 5) hx hb hts inw_wsX5_balanceOf_4 hown hK hH hL rfl 4 (by decide) (zk_nf_11 hN) rfl dX5_balanceOf_37 ?_
        refine zk_astore (lv' := [(6, va_rf (zs_prev j (fun i => Z (7, i, 0)))), (4, .long acc), (0, .ref (Z (0, 0, 0))), (1, .ref (Z (3, p, 0))), (2, .long d)]) hx hb dX5_balanceOf_40 hl (by decide) rfl (fun ls hl => ?_)
        refine lv_goto (tgt := 9) hx hb dX5_balanceOf_42 (by decide) ?_
        exact ih _ ls (by omega) (by rw [← hs, show zs_balf X.1 p d j = 0 from if_neg (fun q => absurd h_20 (Int64.not_lt.mpr q)), Int64.add_zero]) (lv_sub hl [0, 1, 2, 3, 4] rfl)
      · skip
        refine lv_lload hx hb dX5_balanceOf_24 (lv_at hl 1 rfl) ?_
        refine lv_aload hx hb dX5_balanceOf_26 (lv_at hl 0 rfl) ?_
        refine lv_aload_n hx hb dX5_balanceOf_28 rfl (lv_at hl 3 rfl) ?_
        refine vp_callSl (W.runV (As := [.ref (Z (3, p, 0))]) (rest := [.long acc]) ⟨hx, hb, hml, hown, hts⟩ (zc_X4_changeOf l hR hI (i := j) (by omega) hp) (cwV 1 hts gX5_balanceOf_X4_changeOf rfl rfl rfl (by decide +kernel) ⟨Nat.le_of_ble_eq_true rfl, Nat.le_of_ble_eq_true rfl⟩) (zk_preV hH hK hN hL rfl) rfl rfl hl.1 rfl (lv_room (Nat.le_of_ble_eq_true rfl)) dX5_balanceOf_29 ⟨(Nat.le_of_ble_eq_true rfl), (Nat.le_of_ble_eq_true rfl)⟩) (fun r_29 hr_29 => ?_)
        refine lv_ladd hx hb dX5_balanceOf_32 ?_
        refine lv_lstore (lv' := [(4, .long (acc + r_29)), (6, .ref (Z (7, j, 0))), (0, .ref (Z (0, 0, 0))), (1, .ref (Z (3, p, 0))), (2, .long d)]) hx hb dX5_balanceOf_33 hl (by decide) rfl (fun ls hl => ?_)
        refine lv_aload hx hb dX5_balanceOf_35 (lv_at hl 1 rfl) ?_
        refine zk_getN (ci := 4) (v := va_rf (zs_prev j (fun i => Z (7, i, 0)))) (C := RX4) (T := TX4) (N := 5) hx hb hts inw_wsX5_balanceOf_4 hown hK hH hL rfl 4 (by decide) (zk_nf_11 hN) rfl dX5_balanceOf_37 ?_
        refine zk_astore (lv' := [(6, va_rf (zs_prev j (fun i => Z (7, i, 0)))), (4, .long (acc + r_29)), (0, .ref (Z (0, 0, 0))), (1, .ref (Z (3, p, 0))), (2, .long d)]) hx hb dX5_balanceOf_40 hl (by decide) rfl (fun ls hl => ?_)
        refine lv_goto (tgt := 9) hx hb dX5_balanceOf_42 (by decide) ?_
        exact ih _ ls (by omega) (by rw [← hs, hr_29, show zs_balf X.1 p d j = zs_chg X.1 p j from if_pos (Int64.not_lt.mp h_20), Int64.add_assoc, Int64.add_comm (zs_chg X.1 p j)]) (lv_sub hl [0, 1, 2, 3, 4] rfl)
  exact loop (zs_nc X.1) 0 ls (Nat.le_refl _) (Int64.zero_add _) (lv_sub hl [0, 1, 2, 3, 4] rfl)
