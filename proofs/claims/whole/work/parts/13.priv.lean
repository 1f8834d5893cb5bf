theorem inw_wsX5_layersInUse_5 : ∀ w ∈ u_ws RX5 TX5 6, w ∈ wsX5_layersInUse := by decide +kernel
set_option maxHeartbeats 4000000 in
set_option maxRecDepth 100000 in
theorem zc_X5_layersInUse (l : Launch) {g : zk_G} {z : Nat} {M : zk_M} {X : zs_X} {Z : zs_Z} (hR : zs_R g X Z M) (hI : zs_Il X.1) (hnp : zs_np X.1 ≤ 24) : Met l yX5_layersInUse wsX5_layersInUse ({ frames := 1, cells := 0, slots := 0, locals := 22 } : Room) (va_Pc [.ref (Z (0, 0, 0))] (zk_U g z M)) (vp_Si (fun r => r = nI (zs_cnt (zs_ll X.1) (zs_nl X.1)))) 0 0 (fun _ => False) := by
  refine Met.ofW (cc := cX5_layersInUse) (maxL := 4) (ret := (some .int)) (by decide) rfl ?_
  intro P0 e0 s m0 args below meth c0 s₁ B hml hv
  obtain ⟨rfl, hH, hK, hN⟩ := hv
  have hx := B.exec
  have hb := B.bytes
  have hr := B.returns
  have hts := atoms_spec (ws := wsX5_layersInUse) B.pre
  have hown : s.vm.findClass RX5 = some m0.cls := findClass_of_methodNamed B.named
  have hlocks := B.notSynchronized
  have hl := lv_entry ([.ref (Z (0, 0, 0))]) (n := 4) (Nat.le_of_ble_eq_true rfl)
  rw [lg_entry_eq]
  generalize (lg_sl ([.ref (Z (0, 0, 0))]) ++ List.replicate (4 - (lg_sl ([.ref (Z (0, 0, 0))])).length) Slot.unset).toArray = ls at hl ⊢
  have hl : lv_has ls 4 [(0, .ref (Z (0, 0, 0)))] := hl
  have hO : M (Z (0, 0, 0)) = some (.inr (5, [.ref (Z (3, 0, 0)), .ref (Z (1, 0, 0)), .ref (Z (2, 0, 0)), va_rf (zs_prev (zs_nc X.1) (fun i => Z (7, i, 0))), .int (nI (zs_nc X.1)), .long (zs_ck X.1)])) := hR.1 (0, 0, 0) ⟨rfl, rfl⟩
  have hPA : M (Z (1, 0, 0)) = some (zk_aP g 24 (fun p => if p < zs_np X.1 then some (Z (3, p, 0)) else none)) := hR.1 (1, 0, 0) ⟨rfl, rfl⟩
  refine lv_iconst (v := 0) hx hb dX5_layersInUse_0 (by decide) ?_
  refine lv_istore_n (lv' := [(1, .int 0), (0, .ref (Z (0, 0, 0)))]) hx hb dX5_layersInUse_1 rfl hl (by decide) rfl (fun ls hl => ?_)
  refine lv_iconst (v := 0) hx hb dX5_layersInUse_2 (by decide) ?_
  refine lv_istore_n (lv' := [(2, .int 0), (1, .int 0), (0, .ref (Z (0, 0, 0)))]) hx hb dX5_layersInUse_3 rfl hl (by decide) rfl (fun ls hl => ?_)
  have loop : ∀ (n i : Nat) (acc : Int32) (ls : Array Slot), 24 - i < n → i ≤ 24 → acc = nI (zs_nsum (fun p => if p < zs_np X.1 then zs_cntp X.1 p else 0) i) →  lv_has ls 4 [(2, .int (nI i)), (1, .int acc), (0, .ref (Z (0, 0, 0)))] → W P0 l e0 (headSpec wsX5_layersInUse ({ frames := 1, cells := 0, slots := 0, locals := 22 } : Room)).room s m0 ([.ref (Z (0, 0, 0))] : List Value).toArray below meth c0 s.heap [] 0 0 (MQ below (vp_Si (fun r => r = nI (zs_cnt (zs_ll X.1) (zs_nl X.1)))) ([.ref (Z (0, 0, 0))] : List Value).toArray s 0 0 (fun _ => False)) (F0 m0 4 ls []) := by
    intro n
    induction n with
    | zero => intro i acc ls hn; omega
    | succ n ih =>
      intro i acc ls hn hi hacc hl
      refine lv_iload_n hx hb dX5_layersInUse_4 rfl (lv_at hl 0 rfl) ?_
      refine lv_aload_n hx hb dX5_layersInUse_5 rfl (lv_at hl 2 rfl) ?_
      refine zk_get (ci := 5) (v := .ref (Z (1, 0, 0))) (C := RX5) (T := TX5) (N := 6) hx hb hts inw_wsX5_layersInUse_5 hown hK hH hO rfl 1 (by decide) (hts (.fieldLink RX5 16 "KegDeposits" "parties" "[LKegDeposits$Party;") (by decide +kernel)) rfl dX5_layersInUse_6 ?_
      refine zk_alen (v := 24) hx hb hK hH 2 hPA rfl rfl dX5_layersInUse_9 ?_
      refine lv_icmp_ge (tgt := 37) hx hb dX5_layersInUse_10 (by decide) (fun h_10 => ?_) (fun h_10 => ?_)
      · skip
        have hiN : i = 24 := by have := (nI_leI (a := 24) (b := i) (by decide) (by omega)).mp h_10; omega
        refine lv_iload_n hx hb dX5_layersInUse_37 rfl (lv_at hl 1 rfl) ?_
        exact zk_zretS hx hb hr hlocks (by first | rfl | decide) (by rw [hacc, hiN, zs_cnt_all hI hnp]) dX5_layersInUse_38
      · skip
        have hiN : i < 24 := Nat.lt_of_not_le (fun q => h_10 ((nI_leI (a := 24) (b := i) (by decide) (by omega)).mpr q))
        refine lv_aload_n hx hb dX5_layersInUse_13 rfl (lv_at hl 2 rfl) ?_
        refine zk_get (ci := 5) (v := .ref (Z (1, 0, 0))) (C := RX5) (T := TX5) (N := 6) hx hb hts inw_wsX5_layersInUse_5 hown hK hH hO rfl 1 (by decide) (hts (.fieldLink RX5 16 "KegDeposits" "parties" "[LKegDeposits$Party;") (by decide +kernel)) rfl dX5_layersInUse_14 ?_
        refine lv_iload_n hx hb dX5_layersInUse_17 rfl (lv_at hl 0 rfl) ?_
        refine zk_aldP hx hb hK hH hPA (vp_in_nI hiN (by decide)) dX5_layersInUse_18 ?_
        by_cases hpi : i < zs_np X.1
        · skip
          refine zk_top (v' := .ref (Z (3, i, 0))) (zk_arr_some (f := (fun p => if p < zs_np X.1 then some (Z (3, p, 0)) else none)) (by omega) (if_pos hpi)) ?_
          refine lv_astore_n (lv' := [(3, .ref (Z (3, i, 0))), (2, .int (nI i)), (1, .int acc), (0, .ref (Z (0, 0, 0)))]) hx hb dX5_layersInUse_19 rfl hl (by decide) rfl (fun ls hl => ?_)
          refine lv_aload_n hx hb dX5_layersInUse_20 rfl (lv_at hl 0 rfl) ?_
          refine lv_ifnull hx hb dX5_layersInUse_21 ?_
          refine lv_iload_n hx hb dX5_layersInUse_24 rfl (lv_at hl 2 rfl) ?_
          refine lv_aload_n hx hb dX5_layersInUse_25 rfl (lv_at hl 0 rfl) ?_
          refine vp_callSi (W.runV (As := []) (rest := [.int acc]) ⟨hx, hb, hml, hown, hts⟩ (zc_X2_layersInUse l hR hpi) (cwV 0 hts gX5_layersInUse_X2_layersInUse rfl rfl rfl (by decide +kernel) ⟨Nat.le_of_ble_eq_true rfl, Nat.le_of_ble_eq_true rfl⟩) (zk_preV hH hK hN (hR.1 (3, i, 0) ⟨hpi, rfl⟩) rfl) rfl rfl hl.1 rfl (lv_room (Nat.le_of_ble_eq_true rfl)) dX5_layersInUse_26 ⟨(Nat.le_of_ble_eq_true rfl), (Nat.le_of_ble_eq_true rfl)⟩) (fun r_26 hr_26 => ?_)
          refine lv_iadd hx hb dX5_layersInUse_29 ?_
          refine lv_istore_n (lv' := [(1, .int (acc + r_26)), (3, .ref (Z (3, i, 0))), (2, .int (nI i)), (0, .ref (Z (0, 0, 0)))]) hx hb dX5_layersInUse_30 rfl hl (by decide) rfl (fun ls hl => ?_)
          refine lv_iinc (v := nI (i + 1)) (lv' := [(2, .int (nI (i + 1))), (1, .int (acc + r_26)), (3, .ref (Z (3, i, 0))), (0, .ref (Z (0, 0, 0)))]) hx hb dX5_layersInUse_31 hl (k := 2) rfl (nI_1 i) (by decide) rfl (fun ls hl => ?_)
          refine lv_goto (tgt := 4) hx hb dX5_layersInUse_34 (by decide) ?_
          exact ih (i + 1) _ ls (by omega) (by omega) (by rw [hacc, hr_26, nI_add]; exact congrArg nI (congrArg (zs_nsum (fun p => if p < zs_np X.1 then zs_cntp X.1 p else 0) i + ·) (if_pos hpi).symm)) (lv_sub hl [0, 1, 3] rfl)
        · skip
          refine zk_top (v' := .null) (zk_arr_none (f := (fun p => if p < zs_np X.1 then some (Z (3, p, 0)) else none)) (by omega) (if_neg hpi)) ?_
          refine lv_astore_nN (lv' := [(3, .null), (2, .int (nI i)), (1, .int acc), (0, .ref (Z (0, 0, 0)))]) hx hb dX5_layersInUse_19 rfl hl (by decide) rfl (fun ls hl => ?_)
          refine lv_aload_nN hx hb dX5_layersInUse_20 rfl (lv_at hl 0 rfl) ?_
          refine lv_ifnullN (tgt := 31) hx hb dX5_layersInUse_21 (by decide) ?_
          refine lv_iinc (v := nI (i + 1)) (lv' := [(2, .int (nI (i + 1))), (3, .null), (1, .int acc), (0, .ref (Z (0, 0, 0)))]) hx hb dX5_layersInUse_31 hl (k := 1) rfl (nI_1 i) (by decide) rfl (fun ls hl => ?_)
          refine lv_goto (tgt := 4) hx hb dX5_layersInUse_34 (by decide) ?_
          exact ih (i + 1) _ ls (by omega) (by omega) (by rw [hacc]; show _ = nI (zs_nsum (fun p => if p < zs_np X.1 then zs_cntp X.1 p else 0) i + (if i < zs_np X.1 then zs_cntp X.1 i else 0)); rw [if_neg hpi]; rfl) (lv_sub hl [0, 2, 3] rfl)
  exact loop 25 0 0 ls (by omega) (by omega) rfl (lv_sub hl [0, 1, 2] rfl)

theorem inw_wsX5_sharesMakeOne_0 : ∀ w ∈ u_ws RX0 TX0 3, w ∈ wsX5_sharesMakeOne := by decide +kernel
theorem inw_wsX5_sharesMakeOne_5 : ∀ w ∈ u_ws RX5 TX5 6, w ∈ wsX5_sharesMakeOne := by decide +kernel
set_option maxHeartbeats 4000000 in
set_option maxRecDepth 100000 in
theorem zc_X5_sharesMakeOne (l : Launch) {g : zk_G} {z : Nat} {M : zk_M} {X : zs_X} {Z : zs_Z} (hR : zs_R g X Z M) (hI : zs_Ik X.1) (hnk : zs_nk X.1 ≤ 12) : Met l yX5_sharesMakeOne wsX5_sharesMakeOne ({ frames := 0, cells := 0, slots := 0, locals := 0 } : Room) (va_Pc [.ref (Z (0, 0, 0))] (zk_U g z M)) (vp_Si (fun r => r = if zs_sum (zs_sh X.1) (zs_nk X.1) = 10000 then 1 else 0)) 0 0 (fun _ => False) := by
  refine Met.ofW (cc := cX5_sharesMakeOne) (maxL := 5) (ret := (some .boolean)) (by decide) rfl ?_
  intro P0 e0 s m0 args below meth c0 s₁ B hml hv
  obtain ⟨rfl, hH, hK, hN⟩ := hv
  have hx := B.exec
  have hb := B.bytes
  have hr := B.returns
  have hts := atoms_spec (ws := wsX5_sharesMakeOne) B.pre
  have hown : s.vm.findClass RX5 = some m0.cls := findClass_of_methodNamed B.named
  have hlocks := B.notSynchronized
  have hl := lv_entry ([.ref (Z (0, 0, 0))]) (n := 5) (Nat.le_of_ble_eq_true rfl)
  rw [lg_entry_eq]
  generalize (lg_sl ([.ref (Z (0, 0, 0))]) ++ List.replicate (5 - (lg_sl ([.ref (Z (0, 0, 0))])).length) Slot.unset).toArray = ls at hl ⊢
  have hl : lv_has ls 5 [(0, .ref (Z (0, 0, 0)))] := hl
  have hO : M (Z (0, 0, 0)) = some (.inr (5, [.ref (Z (3, 0, 0)), .ref (Z (1, 0, 0)), .ref (Z (2, 0, 0)), va_rf (zs_prev (zs_nc X.1) (fun i => Z (7, i, 0))), .int (nI (zs_nc X.1)), .long (zs_ck X.1)])) := hR.1 (0, 0, 0) ⟨rfl, rfl⟩
  have hKA : M (Z (2, 0, 0)) = some (zk_aQ g 12 (fun k => if k < zs_nk X.1 then some (Z (4, k, 0)) else none)) := hR.1 (2, 0, 0) ⟨rfl, rfl⟩
  refine lv_lconst (v := 0) hx hb dX5_sharesMakeOne_0 (by decide) ?_
  refine lv_lstore_n (lv' := [(1, .long 0), (0, .ref (Z (0, 0, 0)))]) hx hb dX5_sharesMakeOne_1 rfl hl (by decide) rfl (fun ls hl => ?_)
  refine lv_iconst (v := 0) hx hb dX5_sharesMakeOne_2 (by decide) ?_
  refine lv_istore_n (lv' := [(3, .int 0), (1, .long 0), (0, .ref (Z (0, 0, 0)))]) hx hb dX5_sharesMakeOne_3 rfl hl (by decide) rfl (fun ls hl => ?_)
  have loop : ∀ (n i : Nat) (acc : Int64) (ls : Array Slot), 12 - i < n → i ≤ 12 → acc = zs_sum (zs_sh X.1) i →  lv_has ls 5 [(3, .int (nI i)), (1, .long acc), (0, .ref (Z (0, 0, 0)))] → W P0 l e0 (headSpec wsX5_sharesMakeOne ({ frames := 0, cells := 0, slots := 0, locals := 0 } : Room)).room s m0 ([.ref (Z (0, 0, 0))] : List Value).toArray below meth c0 s.heap [] 0 0 (MQ below (vp_Si (fun r => r = if zs_sum (zs_sh X.1) (zs_nk X.1) = 10000 then 1 else 0)) ([.ref (Z (0, 0, 0))] : List Value).toArray s 0 0 (fun _ => False)) (F0 m0 4 ls []) := by
    intro n
    induction n with
    | zero => intro i acc ls hn; omega
    | succ n ih =>
      intro i acc ls hn hi hacc hl
      refine lv_iload_n hx hb dX5_sharesMakeOne_4 rfl (lv_at hl 0 rfl) ?_
      refine lv_aload_n hx hb dX5_sharesMakeOne_5 rfl (lv_at hl 2 rfl) ?_
      refine zk_get (ci := 5) (v := .ref (Z (2, 0, 0))) (C := RX5) (T := TX5) (N := 6) hx hb hts inw_wsX5_sharesMakeOne_5 hown hK hH hO rfl 2 (by decide) (hts (.fieldLink RX5 22 "KegDeposits" "kinds" "[LKegDeposits$Kind;") (by decide +kernel)) rfl dX5_sharesMakeOne_6 ?_
      refine zk_alen (v := 12) hx hb hK hH 3 hKA rfl rfl dX5_sharesMakeOne_9 ?_
      refine lv_icmp_ge (tgt := 40) hx hb dX5_sharesMakeOne_10 (by decide) (fun h_10 => ?_) (fun h_10 => ?_)
      · skip
        have hiN : i = 12 := by have := (nI_leI (a := 12) (b := i) (by decide) (by omega)).mp h_10; omega
        have hs : acc = zs_sum (zs_sh X.1) (zs_nk X.1) := by rw [hacc, hiN]; exact zs_sum_to hnk (fun j h1 h2 => (hI.2.1 j h1).2.1)
        refine lv_lload_n hx hb dX5_sharesMakeOne_40 rfl (lv_at hl 1 rfl) ?_
        refine lv_ldc2 (v := 10000) hx hb hown (hts (.constantLong RX5 91 (10000)) (by decide +kernel)) dX5_sharesMakeOne_41 ?_
        refine zk_lc_ne (tgt := 52) hx hb dX5_sharesMakeOne_44 dX5_sharesMakeOne_45 (by decide) (fun h_44 => ?_) (fun h_44 => ?_)
        · skip
          refine lv_iconst (v := 0) hx hb dX5_sharesMakeOne_52 (by decide) ?_
          exact zk_zretS hx hb hr hlocks (by first | rfl | decide) (if_neg (fun q => h_44 (hs.trans q))).symm dX5_sharesMakeOne_53
        · skip
          refine lv_iconst (v := 1) hx hb dX5_sharesMakeOne_48 (by decide) ?_
          refine lv_goto (tgt := 53) hx hb dX5_sharesMakeOne_49 (by decide) ?_
          exact zk_zretS hx hb hr hlocks (by first | rfl | decide) (if_pos (hs.symm.trans h_44)).symm dX5_sharesMakeOne_53
      · skip
        have hiN : i < 12 := Nat.lt_of_not_le (fun q => h_10 ((nI_leI (a := 12) (b := i) (by decide) (by omega)).mpr q))
        refine lv_aload_n hx hb dX5_sharesMakeOne_13 rfl (lv_at hl 2 rfl) ?_
        refine zk_get (ci := 5) (v := .ref (Z (2, 0, 0))) (C := RX5) (T := TX5) (N := 6) hx hb hts inw_wsX5_sharesMakeOne_5 hown hK hH hO rfl 2 (by decide) (hts (.fieldLink RX5 22 "KegDeposits" "kinds" "[LKegDeposits$Kind;") (by decide +kernel)) rfl dX5_sharesMakeOne_14 ?_
        refine lv_iload_n hx hb dX5_sharesMakeOne_17 rfl (lv_at hl 0 rfl) ?_
        refine zk_aldQ hx hb hK hH hKA (vp_in_nI hiN (by decide)) dX5_sharesMakeOne_18 ?_
        by_cases hpi : i < zs_nk X.1
        · skip
          refine zk_top (v' := .ref (Z (4, i, 0))) (zk_arr_some (f := (fun k => if k < zs_nk X.1 then some (Z (4, k, 0)) else none)) (by omega) (if_pos hpi)) ?_
          have hKi : M (Z (4, i, 0)) = some (.inr (0, [va_rf (zs_prev (zs_pn X.1 i) (fun j => Z (5, i, j))), .long (zs_sh X.1 i), .long (zs_rs X.1 i)])) := hR.1 (4, i, 0) ⟨hpi, rfl⟩
          refine lv_astore (lv' := [(4, .ref (Z (4, i, 0))), (3, .int (nI i)), (1, .long acc), (0, .ref (Z (0, 0, 0)))]) hx hb dX5_sharesMakeOne_19 hl (by decide) rfl (fun ls hl => ?_)
          refine lv_aload hx hb dX5_sharesMakeOne_21 (lv_at hl 0 rfl) ?_
          refine lv_ifnull hx hb dX5_sharesMakeOne_23 ?_
          refine lv_lload_n hx hb dX5_sharesMakeOne_26 rfl (lv_at hl 2 rfl) ?_
          refine lv_aload hx hb dX5_sharesMakeOne_27 (lv_at hl 0 rfl) ?_
          refine zk_getN (ci := 0) (v := .long (zs_sh X.1 i)) (C := RX0) (T := TX0) (N := 3) hx hb hts inw_wsX5_sharesMakeOne_0 hown hK hH hKi rfl 1 (by decide) (zk_nf_0 hN) rfl dX5_sharesMakeOne_29 ?_
          refine lv_ladd hx hb dX5_sharesMakeOne_32 ?_
          refine lv_lstore_n (lv' := [(1, .long (acc + zs_sh X.1 i)), (4, .ref (Z (4, i, 0))), (3, .int (nI i)), (0, .ref (Z (0, 0, 0)))]) hx hb dX5_sharesMakeOne_33 rfl hl (by decide) rfl (fun ls hl => ?_)
          refine lv_iinc (v := nI (i + 1)) (lv' := [(3, .int (nI (i + 1))), (1, .long (acc + zs_sh X.1 i)), (4, .ref (Z (4, i, 0))), (0, .ref (Z (0, 0, 0)))]) hx hb dX5_sharesMakeOne_34 hl (k := 2) rfl (nI_1 i) (by decide) rfl (fun ls hl => ?_)
          refine lv_goto (tgt := 4) hx hb dX5_sharesMakeOne_37 (by decide) ?_
          exact ih (i + 1) _ ls (by omega) (by omega) (by rw [hacc]; rfl) (lv_sub hl [0, 1, 3] rfl)
        · skip
          refine zk_top (v' := .null) (zk_arr_none (f := (fun k => if k < zs_nk X.1 then some (Z (4, k, 0)) else none)) (by omega) (if_neg hpi)) ?_
          refine lv_astoreN (lv' := [(4, .null), (3, .int (nI i)), (1, .long acc), (0, .ref (Z (0, 0, 0)))]) hx hb dX5_sharesMakeOne_19 hl (by decide) rfl (fun ls hl => ?_)
          refine lv_aloadN hx hb dX5_sharesMakeOne_21 (lv_at hl 0 rfl) ?_
          refine lv_ifnullN (tgt := 34) hx hb dX5_sharesMakeOne_23 (by decide) ?_
          refine lv_iinc (v := nI (i + 1)) (lv' := [(3, .int (nI (i + 1))), (4, .null), (1, .long acc), (0, .ref (Z (0, 0, 0)))]) hx hb dX5_sharesMakeOne_34 hl (k := 1) rfl (nI_1 i) (by decide) rfl (fun ls hl => ?_)
          refine lv_goto (tgt := 4) hx hb dX5_sharesMakeOne_37 (by decide) ?_
          exact ih (i + 1) _ ls (by omega) (by omega) (by rw [hacc]; show _ = zs_sum (zs_sh X.1) i + zs_sh X.1 i; rw [(hI.2.1 i (Nat.not_lt.mp hpi)).2.1, Int64.add_zero]) (lv_sub hl [0, 2, 3] rfl)
  exact loop 13 0 0 ls (by omega) (by omega) rfl (lv_sub hl [0, 1, 2] rfl)

theorem inw_wsX5_hasLot_5 : ∀ w ∈ u_ws RX5 TX5 6, w ∈ wsX5_hasLot := by decide +kernel
set_option maxHeartbeats 4000000 in
set_option maxRecDepth 100000 in
theorem zc_X5_hasLot (l : Launch) {g : zk_G} {z : Nat} {M : zk_M} {X : zs_X} {Z : zs_Z} (hR : zs_R g X Z M) (hI : zs_Il X.1) (hnk : zs_nk X.1 ≤ 12) {p : Nat} (hp : p < zs_np X.1) (num : Int64) : Met l yX5_hasLot wsX5_hasLot ({ frames := 1, cells := 0, slots := 0, locals := 26 } : Room) (va_Pc [.ref (Z (0, 0, 0)), .ref (Z (3, p, 0)), .long num] (zk_U g z M)) (vp_Si (fun r => r = if zs_enough X.1 p num (zs_nk X.1) = true then 1 else 0)) 0 0 (fun _ => False) := by
  refine Met.ofW (cc := cX5_hasLot) (maxL := 6) (ret := (some .boolean)) (by decide) rfl ?_
  intro P0 e0 s m0 args below meth c0 s₁ B hml hv
  obtain ⟨rfl, hH, hK, hN⟩ := hv
  have hx := B.exec
  have hb := B.bytes
  have hr := B.returns
  have hts := atoms_spec (ws := wsX5_hasLot) B.pre
  have hown : s.vm.findClass RX5 = some m0.cls := findClass_of_methodNamed B.named
  have hlocks := B.notSynchronized
  have hl := lv_entry ([.ref (Z (0, 0, 0)), .ref (Z (3, p, 0)), .long num]) (n := 6) (Nat.le_of_ble_eq_true rfl)
  rw [lg_entry_eq]
  generalize (lg_sl ([.ref (Z (0, 0, 0)), .ref (Z (3, p, 0)), .long num]) ++ List.replicate (6 - (lg_sl ([.ref (Z (0, 0, 0)), .ref (Z (3, p, 0)), .long num])).length) Slot.unset).toArray = ls at hl ⊢
  have hl : lv_has ls 6 [(0, .ref (Z (0, 0, 0))), (1, .ref (Z (3, p, 0))), (2, .long num)] := hl
  have hO : M (Z (0, 0, 0)) = some (.inr (5, [.ref (Z (3, 0, 0)), .ref (Z (1, 0, 0)), .ref (Z (2, 0, 0)), va_rf (zs_prev (zs_nc X.1) (fun i => Z (7, i, 0))), .int (nI (zs_nc X.1)), .long (zs_ck X.1)])) := hR.1 (0, 0, 0) ⟨rfl, rfl⟩
  have hKA : M (Z (2, 0, 0)) = some (zk_aQ g 12 (fun k => if k < zs_nk X.1 then some (Z (4, k, 0)) else none)) := hR.1 (2, 0, 0) ⟨rfl, rfl⟩
  refine lv_iconst (v := 0) hx hb dX5_hasLot_0 (by decide) ?_
  refine lv_istore (lv' := [(4, .int 0), (0, .ref (Z (0, 0, 0))), (1, .ref (Z (3, p, 0))), (2, .long num)]) hx hb dX5_hasLot_1 hl (by decide) rfl (fun ls hl => ?_)
  have loop : ∀ (n i : Nat)  (ls : Array Slot), 12 - i < n → i ≤ 12 → zs_enough X.1 p num (min i (zs_nk X.1)) = true →  lv_has ls 6 [(4, .int (nI i)), (0, .ref (Z (0, 0, 0))), (1, .ref (Z (3, p, 0))), (2, .long num)] → W P0 l e0 (headSpec wsX5_hasLot ({ frames := 1, cells := 0, slots := 0, locals := 26 } : Room)).room s m0 ([.ref (Z (0, 0, 0)), .ref (Z (3, p, 0)), .long num] : List Value).toArray below meth c0 s.heap [] 0 0 (MQ below (vp_Si (fun r => r = if zs_enough X.1 p num (zs_nk X.1) = true then 1 else 0)) ([.ref (Z (0, 0, 0)), .ref (Z (3, p, 0)), .long num] : List Value).toArray s 0 0 (fun _ => False)) (F0 m0 3 ls []) := by
    intro n
    induction n with
    | zero => intro i  ls hn; omega
    | succ n ih =>
      intro i  ls hn hi hen hl
      refine lv_iload hx hb dX5_hasLot_3 (lv_at hl 0 rfl) ?_
      refine lv_aload_n hx hb dX5_hasLot_5 rfl (lv_at hl 1 rfl) ?_
      refine zk_get (ci := 5) (v := .ref (Z (2, 0, 0))) (C := RX5) (T := TX5) (N := 6) hx hb hts inw_wsX5_hasLot_5 hown hK hH hO rfl 2 (by decide) (hts (.fieldLink RX5 22 "KegDeposits" "kinds" "[LKegDeposits$Kind;") (by decide +kernel)) rfl dX5_hasLot_6 ?_
      refine zk_alen (v := 12) hx hb hK hH 3 hKA rfl rfl dX5_hasLot_9 ?_
      refine lv_icmp_ge (tgt := 58) hx hb dX5_hasLot_10 (by decide) (fun h_10 => ?_) (fun h_10 => ?_)
      · skip
        have hiN : i = 12 := by have := (nI_leI (a := 12) (b := i) (by decide) (by omega)).mp h_10; omega
        refine lv_iconst (v := 1) hx hb dX5_hasLot_58 (by decide) ?_
        exact zk_zretS hx hb hr hlocks (by first | rfl | decide) (by rw [if_pos (by rw [hiN, Nat.min_eq_right hnk] at hen; exact hen)]) dX5_hasLot_59
      · skip
        have hiN : i < 12 := Nat.lt_of_not_le (fun q => h_10 ((nI_leI (a := 12) (b := i) (by decide) (by omega)).mpr q))
        refine lv_aload_n hx hb dX5_hasLot_13 rfl (lv_at hl 1 rfl) ?_
        refine zk_get (ci := 5) (v := .ref (Z (2, 0, 0))) (C := RX5) (T := TX5) (N := 6) hx hb hts inw_wsX5_hasLot_5 hown hK hH hO rfl 2 (by decide) (hts (.fieldLink RX5 22 "KegDeposits" "kinds" "[LKegDeposits$Kind;") (by decide +kernel)) rfl dX5_hasLot_14 ?_
        refine lv_iload hx hb dX5_hasLot_17 (lv_at hl 0 rfl) ?_
        refine zk_aldQ hx hb hK hH hKA (vp_in_nI hiN (by decide)) dX5_hasLot_19 ?_
        by_cases hpi : i < zs_nk X.1
        · skip
          refine zk_top (v' := .ref (Z (4, i, 0))) (zk_arr_some (f := (fun k => if k < zs_nk X.1 then some (Z (4, k, 0)) else none)) (by omega) (if_pos hpi)) ?_
          refine lv_astore (lv' := [(5, .ref (Z (4, i, 0))), (4, .int (nI i)), (0, .ref (Z (0, 0, 0))), (1, .ref (Z (3, p, 0))), (2, .long num)]) hx hb dX5_hasLot_20 hl (by decide) rfl (fun ls hl => ?_)
          refine lv_aload hx hb dX5_hasLot_22 (lv_at hl 0 rfl) ?_
          refine lv_ifnull hx hb dX5_hasLot_24 ?_
          refine lv_aload_n hx hb dX5_hasLot_27 rfl (lv_at hl 3 rfl) ?_
          refine lv_aload hx hb dX5_hasLot_28 (lv_at hl 0 rfl) ?_
          refine lv_ldc2 (v := 100000) hx hb hown (hts (.constantLong RX5 35 (100000)) (by decide +kernel)) dX5_hasLot_30 ?_
          refine vp_callSl (W.runV (As := [.ref (Z (4, i, 0)), .long 100000]) (rest := []) ⟨hx, hb, hml, hown, hts⟩ (zc_X2_piecesUpTo l hR (fun i hi => (hI.1 i hi).2.1) hp hpi 100000) (cwV 2 hts gX5_hasLot_X2_piecesUpTo rfl rfl rfl (by decide +kernel) ⟨Nat.le_of_ble_eq_true rfl, Nat.le_of_ble_eq_true rfl⟩) (zk_preV hH hK hN (hR.1 (3, p, 0) ⟨hp, rfl⟩) rfl) rfl rfl hl.1 rfl (lv_room (Nat.le_of_ble_eq_true rfl)) dX5_hasLot_33 ⟨(Nat.le_of_ble_eq_true rfl), (Nat.le_of_ble_eq_true rfl)⟩) (fun r_33 hr_33 => ?_)
          refine lv_aload hx hb dX5_hasLot_36 (lv_at hl 0 rfl) ?_
          refine lv_lload_n hx hb dX5_hasLot_38 rfl (lv_at hl 4 rfl) ?_
          refine vp_callSl (W.runV (As := [.long num]) (rest := [.long r_33]) ⟨hx, hb, hml, hown, hts⟩ (zc_X0_partsOfLot l hR hpi num) (cwV 1 hts gX5_hasLot_X0_partsOfLot rfl rfl rfl (by decide +kernel) ⟨Nat.le_of_ble_eq_true rfl, Nat.le_of_ble_eq_true rfl⟩) (zk_preV hH hK hN (hR.1 (4, i, 0) ⟨hpi, rfl⟩) rfl) rfl rfl hl.1 rfl (lv_room (Nat.le_of_ble_eq_true rfl)) dX5_hasLot_39 ⟨(Nat.le_of_ble_eq_true rfl), (Nat.le_of_ble_eq_true rfl)⟩) (fun r_39 hr_39 => ?_)
          refine lv_ldc2 (v := 10000) hx hb hown (hts (.constantLong RX5 91 (10000)) (by decide +kernel)) dX5_hasLot_42 ?_
          refine lv_ldiv hx hb dX5_hasLot_45 (by decide) ?_
          refine zk_lc_ge (tgt := 52) hx hb dX5_hasLot_46 dX5_hasLot_47 (by decide) (fun h_46 => ?_) (fun h_46 => ?_)
          · skip
            refine lv_iinc (v := nI (i + 1)) (lv' := [(4, .int (nI (i + 1))), (5, .ref (Z (4, i, 0))), (0, .ref (Z (0, 0, 0))), (1, .ref (Z (3, p, 0))), (2, .long num)]) hx hb dX5_hasLot_52 hl (k := 1) rfl (nI_1 i) (by decide) rfl (fun ls hl => ?_)
            refine lv_goto (tgt := 3) hx hb dX5_hasLot_55 (by decide) ?_
            exact ih (i + 1) ls (by omega) (by omega) (by rw [hr_33, zs_pup_has hI, hr_39] at h_46; rw [Nat.min_eq_left (by omega)] at hen ⊢; simp [zs_enough, hen, h_46]) (lv_sub hl [0, 2, 3, 4] rfl)
          · skip
            have hno : ¬ (zs_rs X.1 i + num * zs_sh X.1 i) / 10000 ≤ zs_has X.1 p i := by rw [hr_33, zs_pup_has hI, hr_39] at h_46; exact h_46
            refine lv_iconst (v := 0) hx hb dX5_hasLot_50 (by decide) ?_
            exact zk_zretS hx hb hr hlocks (by first | rfl | decide) (by rw [if_neg (by rw [zs_enough_no hno hpi]; decide)]) dX5_hasLot_51
        · skip
          refine zk_top (v' := .null) (zk_arr_none (f := (fun k => if k < zs_nk X.1 then some (Z (4, k, 0)) else none)) (by omega) (if_neg hpi)) ?_
          refine lv_astoreN (lv' := [(5, .null), (4, .int (nI i)), (0, .ref (Z (0, 0, 0))), (1, .ref (Z (3, p, 0))), (2, .long num)]) hx hb dX5_hasLot_20 hl (by decide) rfl (fun ls hl => ?_)
          refine lv_aloadN hx hb dX5_hasLot_22 (lv_at hl 0 rfl) ?_
          refine lv_ifnullN (tgt := 52) hx hb dX5_hasLot_24 (by decide) ?_
          refine lv_iinc (v := nI (i + 1)) (lv' := [(4, .int (nI (i + 1))), (5, .null), (0, .ref (Z (0, 0, 0))), (1, .ref (Z (3, p, 0))), (2, .long num)]) hx hb dX5_hasLot_52 hl (k := 1) rfl (nI_1 i) (by decide) rfl (fun ls hl => ?_)
          refine lv_goto (tgt := 3) hx hb dX5_hasLot_55 (by decide) ?_
          exact ih (i + 1) ls (by omega) (by omega) (by rw [Nat.min_eq_right (by omega)] at hen ⊢; exact hen) (lv_sub hl [0, 2, 3, 4] rfl)
  exact loop 13 0  ls (by omega) (by omega) (by rw [Nat.zero_min]; rfl) (lv_sub hl [0, 1, 2, 3] rfl)

theorem inw_wsX5_worthOf_5 : ∀ w ∈ u_ws RX5 TX5 6, w ∈ wsX5_worthOf := by decide +kernel
set_option maxHeartbeats 4000000 in
set_option maxRecDepth 100000 in
theorem zc_X5_worthOf (l : Launch) {g : zk_G} {z : Nat} {M : zk_M} {X : zs_X} {Z : zs_Z} (hR : zs_R g X Z M) (hI : zs_Il X.1) (hJ : zs_Ik X.1) (hnk : zs_nk X.1 ≤ 12) {p : Nat} (hp : p < zs_np X.1) (d : Int64) : Met l yX5_worthOf wsX5_worthOf ({ frames := 1, cells := 0, slots := 0, locals := 27 } : Room) (va_Pc [.ref (Z (0, 0, 0)), .ref (Z (3, p, 0)), .long d] (zk_U g z M)) (vp_Sl (fun r => r = zs_worth X.1 p d)) 0 0 (fun _ => False) := by
  refine Met.ofW (cc := cX5_worthOf) (maxL := 8) (ret := (some .long)) (by decide) rfl ?_
  intro P0 e0 s m0 args below meth c0 s₁ B hml hv
  obtain ⟨rfl, hH, hK, hN⟩ := hv
  have hx := B.exec
  have hb := B.bytes
  have hr := B.returns
  have hts := atoms_spec (ws := wsX5_worthOf) B.pre
  have hown : s.vm.findClass RX5 = some m0.cls := findClass_of_methodNamed B.named
  have hlocks := B.notSynchronized
  have hl := lv_entry ([.ref (Z (0, 0, 0)), .ref (Z (3, p, 0)), .long d]) (n := 8) (Nat.le_of_ble_eq_true rfl)
  rw [lg_entry_eq]
  generalize (lg_sl ([.ref (Z (0, 0, 0)), .ref (Z (3, p, 0)), .long d]) ++ List.replicate (8 - (lg_sl ([.ref (Z (0, 0, 0)), .ref (Z (3, p, 0)), .long d])).length) Slot.unset).toArray = ls at hl ⊢
  have hl : lv_has ls 8 [(0, .ref (Z (0, 0, 0))), (1, .ref (Z (3, p, 0))), (2, .long d)] := hl
  have hO : M (Z (0, 0, 0)) = some (.inr (5, [.ref (Z (3, 0, 0)), .ref (Z (1, 0, 0)), .ref (Z (2, 0, 0)), va_rf (zs_prev (zs_nc X.1) (fun i => Z (7, i, 0))), .int (nI (zs_nc X.1)), .long (zs_ck X.1)])) := hR.1 (0, 0, 0) ⟨rfl, rfl⟩
  have hKA : M (Z (2, 0, 0)) = some (zk_aQ g 12 (fun k => if k < zs_nk X.1 then some (Z (4, k, 0)) else none)) := hR.1 (2, 0, 0) ⟨rfl, rfl⟩
  refine lv_lconst (v := 0) hx hb dX5_worthOf_0 (by decide) ?_
  refine lv_lstore (lv' := [(4, .long 0), (0, .ref (Z (0, 0, 0))), (1, .ref (Z (3, p, 0))), (2, .long d)]) hx hb dX5_worthOf_1 hl (by decide) rfl (fun ls hl => ?_)
  refine lv_iconst (v := 0) hx hb dX5_worthOf_3 (by decide) ?_
  refine lv_istore (lv' := [(6, .int 0), (4, .long 0), (0, .ref (Z (0, 0, 0))), (1, .ref (Z (3, p, 0))), (2, .long d)]) hx hb dX5_worthOf_4 hl (by decide) rfl (fun ls hl => ?_)
  have loop : ∀ (n i : Nat) (acc : Int64) (ls : Array Slot), 12 - i < n → i ≤ 12 → acc = zs_sum (zs_worthf X.1 p d) (min i (zs_nk X.1)) →  lv_has ls 8 [(6, .int (nI i)), (4, .long acc), (0, .ref (Z (0, 0, 0))), (1, .ref (Z (3, p, 0))), (2, .long d)] → W P0 l e0 (headSpec wsX5_worthOf ({ frames := 1, cells := 0, slots := 0, locals := 27 } : Room)).room s m0 ([.ref (Z (0, 0, 0)), .ref (Z (3, p, 0)), .long d] : List Value).toArray below meth c0 s.heap [] 0 0 (MQ below (vp_Sl (fun r => r = zs_worth X.1 p d)) ([.ref (Z (0, 0, 0)), .ref (Z (3, p, 0)), .long d] : List Value).toArray s 0 0 (fun _ => False)) (F0 m0 6 ls []) := by
    intro n
    induction n with
    | zero => intro i acc ls hn; omega
    | succ n ih =>
      intro i acc ls hn hi hacc hl
      refine lv_iload hx hb dX5_worthOf_6 (lv_at hl 0 rfl) ?_
      refine lv_aload_n hx hb dX5_worthOf_8 rfl (lv_at hl 2 rfl) ?_
      refine zk_get (ci := 5) (v := .ref (Z (2, 0, 0))) (C := RX5) (T := TX5) (N := 6) hx hb hts inw_wsX5_worthOf_5 hown hK hH hO rfl 2 (by decide) (hts (.fieldLink RX5 22 "KegDeposits" "kinds" "[LKegDeposits$Kind;") (by decide +kernel)) rfl dX5_worthOf_9 ?_
      refine zk_alen (v := 12) hx hb hK hH 3 hKA rfl rfl dX5_worthOf_12 ?_
      refine lv_icmp_ge (tgt := 57) hx hb dX5_worthOf_13 (by decide) (fun h_13 => ?_) (fun h_13 => ?_)
      · skip
        have hiN : i = 12 := by have := (nI_leI (a := 12) (b := i) (by decide) (by omega)).mp h_13; omega
        refine lv_lload hx hb dX5_worthOf_57 (lv_at hl 1 rfl) ?_
        exact zk_lretS hx hb hr hlocks (by rw [hacc, hiN, Nat.min_eq_right hnk]; rfl) dX5_worthOf_59
      · skip
        have hiN : i < 12 := Nat.lt_of_not_le (fun q => h_13 ((nI_leI (a := 12) (b := i) (by decide) (by omega)).mpr q))
        refine lv_aload_n hx hb dX5_worthOf_16 rfl (lv_at hl 2 rfl) ?_
        refine zk_get (ci := 5) (v := .ref (Z (2, 0, 0))) (C := RX5) (T := TX5) (N := 6) hx hb hts inw_wsX5_worthOf_5 hown hK hH hO rfl 2 (by decide) (hts (.fieldLink RX5 22 "KegDeposits" "kinds" "[LKegDeposits$Kind;") (by decide +kernel)) rfl dX5_worthOf_17 ?_
        refine lv_iload hx hb dX5_worthOf_20 (lv_at hl 0 rfl) ?_
        refine zk_aldQ hx hb hK hH hKA (vp_in_nI hiN (by decide)) dX5_worthOf_22 ?_
        by_cases hpi : i < zs_nk X.1
        · skip
          refine zk_top (v' := .ref (Z (4, i, 0))) (zk_arr_some (f := (fun k => if k < zs_nk X.1 then some (Z (4, k, 0)) else none)) (by omega) (if_pos hpi)) ?_
          refine lv_astore (lv' := [(7, .ref (Z (4, i, 0))), (6, .int (nI i)), (4, .long acc), (0, .ref (Z (0, 0, 0))), (1, .ref (Z (3, p, 0))), (2, .long d)]) hx hb dX5_worthOf_23 hl (by decide) rfl (fun ls hl => ?_)
          refine lv_aload hx hb dX5_worthOf_25 (lv_at hl 0 rfl) ?_
          refine lv_ifnull hx hb dX5_worthOf_27 ?_
          refine lv_lload hx hb dX5_worthOf_30 (lv_at hl 2 rfl) ?_
          refine lv_aload_n hx hb dX5_worthOf_32 rfl (lv_at hl 4 rfl) ?_
          refine lv_aload hx hb dX5_worthOf_33 (lv_at hl 0 rfl) ?_
          refine lv_ldc2 (v := 100000) hx hb hown (hts (.constantLong RX5 35 (100000)) (by decide +kernel)) dX5_worthOf_35 ?_
          refine vp_callSl (W.runV (As := [.ref (Z (4, i, 0)), .long 100000]) (rest := [.long acc]) ⟨hx, hb, hml, hown, hts⟩ (zc_X2_piecesUpTo l hR (fun i hi => (hI.1 i hi).2.1) hp hpi 100000) (cwV 2 hts gX5_worthOf_X2_piecesUpTo rfl rfl rfl (by decide +kernel) ⟨Nat.le_of_ble_eq_true rfl, Nat.le_of_ble_eq_true rfl⟩) (zk_preV hH hK hN (hR.1 (3, p, 0) ⟨hp, rfl⟩) rfl) rfl rfl hl.1 rfl (lv_room (Nat.le_of_ble_eq_true rfl)) dX5_worthOf_38 ⟨(Nat.le_of_ble_eq_true rfl), (Nat.le_of_ble_eq_true rfl)⟩) (fun r_38 hr_38 => ?_)
          refine lv_aload hx hb dX5_worthOf_41 (lv_at hl 0 rfl) ?_
          refine lv_lload_n hx hb dX5_worthOf_43 rfl (lv_at hl 5 rfl) ?_
          refine vp_callSl (W.runV (As := [.long d]) (rest := [.long r_38, .long acc]) ⟨hx, hb, hml, hown, hts⟩ (zc_X0_priceOn l hR hJ hpi d) (cwV 1 hts gX5_worthOf_X0_priceOn rfl rfl rfl (by decide +kernel) ⟨Nat.le_of_ble_eq_true rfl, Nat.le_of_ble_eq_true rfl⟩) (zk_preV hH hK hN (hR.1 (4, i, 0) ⟨hpi, rfl⟩) rfl) rfl rfl hl.1 rfl (lv_room (Nat.le_of_ble_eq_true rfl)) dX5_worthOf_44 ⟨(Nat.le_of_ble_eq_true rfl), (Nat.le_of_ble_eq_true rfl)⟩) (fun r_44 hr_44 => ?_)
          refine lv_lmul hx hb dX5_worthOf_47 ?_
          refine lv_ladd hx hb dX5_worthOf_48 ?_
          refine lv_lstore (lv' := [(4, .long (acc + (r_38 * r_44))), (7, .ref (Z (4, i, 0))), (6, .int (nI i)), (0, .ref (Z (0, 0, 0))), (1, .ref (Z (3, p, 0))), (2, .long d)]) hx hb dX5_worthOf_49 hl (by decide) rfl (fun ls hl => ?_)
          refine lv_iinc (v := nI (i + 1)) (lv' := [(6, .int (nI (i + 1))), (4, .long (acc + (r_38 * r_44))), (7, .ref (Z (4, i, 0))), (0, .ref (Z (0, 0, 0))), (1, .ref (Z (3, p, 0))), (2, .long d)]) hx hb dX5_worthOf_51 hl (k := 2) rfl (nI_1 i) (by decide) rfl (fun ls hl => ?_)
          refine lv_goto (tgt := 6) hx hb dX5_worthOf_54 (by decide) ?_
          exact ih (i + 1) _ ls (by omega) (by omega) (by rw [hacc, hr_38, hr_44, zs_pup_has hI, Nat.min_eq_left (by omega), Nat.min_eq_left (by omega)]; rfl) (lv_sub hl [0, 1, 3, 4, 5] rfl)
        · skip
          refine zk_top (v' := .null) (zk_arr_none (f := (fun k => if k < zs_nk X.1 then some (Z (4, k, 0)) else none)) (by omega) (if_neg hpi)) ?_
          refine lv_astoreN (lv' := [(7, .null), (6, .int (nI i)), (4, .long acc), (0, .ref (Z (0, 0, 0))), (1, .ref (Z (3, p, 0))), (2, .long d)]) hx hb dX5_worthOf_23 hl (by decide) rfl (fun ls hl => ?_)
          refine lv_aloadN hx hb dX5_worthOf_25 (lv_at hl 0 rfl) ?_
          refine lv_ifnullN (tgt := 51) hx hb dX5_worthOf_27 (by decide) ?_
          refine lv_iinc (v := nI (i + 1)) (lv' := [(6, .int (nI (i + 1))), (7, .null), (4, .long acc), (0, .ref (Z (0, 0, 0))), (1, .ref (Z (3, p, 0))), (2, .long d)]) hx hb dX5_worthOf_51 hl (k := 1) rfl (nI_1 i) (by decide) rfl (fun ls hl => ?_)
          refine lv_goto (tgt := 6) hx hb dX5_worthOf_54 (by decide) ?_
          exact ih (i + 1) _ ls (by omega) (by omega) (by rw [hacc, Nat.min_eq_right (by omega), Nat.min_eq_right (by omega)]) (lv_sub hl [0, 2, 3, 4, 5] rfl)
  exact loop 13 0 0 ls (by omega) (by omega) (by rw [Nat.zero_min]; rfl) (lv_sub hl [0, 1, 2, 3, 4] rfl)

theorem inw_wsX5_giveBackLot_0 : ∀ w ∈ u_ws RX0 TX0 3, w ∈ wsX5_giveBackLot := by decide +kernel
theorem inw_wsX5_giveBackLot_5 : ∀ w ∈ u_ws RX5 TX5 6, w ∈ wsX5_giveBackLot := by decide +kernel
set_option maxHeartbeats 4000000 in
set_option maxRecDepth 100000 in
theorem zc_X5_giveBackLot (l : Launch) {g : zk_G} {z : Nat} {M : zk_M} {X : zs_X} {Z : zs_Z} (hR : zs_R g X Z M) (hI : zs_Il X.1) (hnk : zs_nk X.1 ≤ 12) {p : Nat} (hp : p < zs_np X.1) (num : Int64) : Met l yX5_giveBackLot wsX5_giveBackLot ({ frames := 2, cells := 0, slots := 0, locals := 50 } : Room) (va_Pc [.ref (Z (0, 0, 0)), .ref (Z (3, p, 0)), .long num] (zk_U g z M)) (va_Ql (fun r u => r = (zs_lot X.1 p num (zs_nk X.1)).2.2 ∧ zs_R g (zs_rs_ (zs_ll_ X.1 (zs_lot X.1 p num (zs_nk X.1)).1) (zs_lot X.1 p num (zs_nk X.1)).2.1, X.2) Z u) (zk_B g z) (fun q => z ≤ q)) 0 0 (fun q => z ≤ q) := by
  refine Met.ofW (cc := cX5_giveBackLot) (maxL := 10) (ret := (some .long)) (by decide) rfl ?_
  intro P0 e0 s m0 args below meth c0 s₁ B hml hv
  obtain ⟨rfl, hH, hK, hN⟩ := hv
  have hx := B.exec
  have hb := B.bytes
  have hr := B.returns
  have hts := atoms_spec (ws := wsX5_giveBackLot) B.pre
  have hown : s.vm.findClass RX5 = some m0.cls := findClass_of_methodNamed B.named
  have hlocks := B.notSynchronized
  have hS : va_S (fun q => z ≤ q) s.heap s.heap [] := va_S.rf
  have hl := lv_entry ([.ref (Z (0, 0, 0)), .ref (Z (3, p, 0)), .long num]) (n := 10) (Nat.le_of_ble_eq_true rfl)
  rw [lg_entry_eq]
  generalize (lg_sl ([.ref (Z (0, 0, 0)), .ref (Z (3, p, 0)), .long num]) ++ List.replicate (10 - (lg_sl ([.ref (Z (0, 0, 0)), .ref (Z (3, p, 0)), .long num])).length) Slot.unset).toArray = ls at hl ⊢
  have hl : lv_has ls 10 [(0, .ref (Z (0, 0, 0))), (1, .ref (Z (3, p, 0))), (2, .long num)] := hl
  have hO : M (Z (0, 0, 0)) = some (.inr (5, [.ref (Z (3, 0, 0)), .ref (Z (1, 0, 0)), .ref (Z (2, 0, 0)), va_rf (zs_prev (zs_nc X.1) (fun i => Z (7, i, 0))), .int (nI (zs_nc X.1)), .long (zs_ck X.1)])) := hR.1 (0, 0, 0) ⟨rfl, rfl⟩
  have hKA : M (Z (2, 0, 0)) = some (zk_aQ g 12 (fun k => if k < zs_nk X.1 then some (Z (4, k, 0)) else none)) := hR.1 (2, 0, 0) ⟨rfl, rfl⟩
  refine lv_lconst (v := 0) hx hb dX5_giveBackLot_0 (by decide) ?_
  refine lv_lstore (lv' := [(4, .long 0), (0, .ref (Z (0, 0, 0))), (1, .ref (Z (3, p, 0))), (2, .long num)]) hx hb dX5_giveBackLot_1 hl (by decide) rfl (fun ls hl => ?_)
  refine lv_iconst (v := 0) hx hb dX5_giveBackLot_3 (by decide) ?_
  refine lv_istore (lv' := [(6, .int 0), (4, .long 0), (0, .ref (Z (0, 0, 0))), (1, .ref (Z (3, p, 0))), (2, .long num)]) hx hb dX5_giveBackLot_4 hl (by decide) rfl (fun ls hl => ?_)
  have loop : ∀ (n i : Nat) (f : Nat → Int64) (h : Nat → Int64) (wo : Int64) (Mx : zk_M) (H : Heap) (locs : List Loc) (ls : Array Slot), 12 - i < n → i ≤ 12 → (f, h, wo) = zs_lot X.1 p num (min i (zs_nk X.1)) → zs_R g (zs_rs_ (zs_ll_ X.1 f) h, X.2) Z Mx → zk_H g z Mx H → va_S (fun q => z ≤ q) s.heap H locs →  lv_has ls 10 [(6, .int (nI i)), (4, .long wo), (0, .ref (Z (0, 0, 0))), (1, .ref (Z (3, p, 0))), (2, .long num)] → W P0 l e0 (headSpec wsX5_giveBackLot ({ frames := 2, cells := 0, slots := 0, locals := 50 } : Room)).room s m0 ([.ref (Z (0, 0, 0)), .ref (Z (3, p, 0)), .long num] : List Value).toArray below meth c0 H locs 0 0 (MQ below (va_Ql (fun r u => r = (zs_lot X.1 p num (zs_nk X.1)).2.2 ∧ zs_R g (zs_rs_ (zs_ll_ X.1 (zs_lot X.1 p num (zs_nk X.1)).1) (zs_lot X.1 p num (zs_nk X.1)).2.1, X.2) Z u) (zk_B g z) (fun q => z ≤ q)) ([.ref (Z (0, 0, 0)), .ref (Z (3, p, 0)), .long num] : List Value).toArray s 0 0 (fun q => z ≤ q)) (F0 m0 6 ls []) := by
    intro n
    induction n with
    | zero => intro i f h wo Mx H locs ls hn; omega
    | succ n ih =>
      intro i f h wo Mx H locs ls hn hi he hRx hH hS hl
      have hO : Mx (Z (0, 0, 0)) = some (.inr (5, [.ref (Z (3, 0, 0)), .ref (Z (1, 0, 0)), .ref (Z (2, 0, 0)), va_rf (zs_prev (zs_nc X.1) (fun i => Z (7, i, 0))), .int (nI (zs_nc X.1)), .long (zs_ck X.1)])) := hRx.1 (0, 0, 0) ⟨rfl, rfl⟩
      have hKA : Mx (Z (2, 0, 0)) = some (zk_aQ g 12 (fun k => if k < zs_nk X.1 then some (Z (4, k, 0)) else none)) := hRx.1 (2, 0, 0) ⟨rfl, rfl⟩
      refine lv_iload hx hb dX5_giveBackLot_6 (lv_at hl 0 rfl) ?_
      refine lv_aload_n hx hb dX5_giveBackLot_8 rfl (lv_at hl 2 rfl) ?_
      refine zk_get (ci := 5) (v := .ref (Z (2, 0, 0))) (C := RX5) (T := TX5) (N := 6) hx hb hts inw_wsX5_giveBackLot_5 hown hK hH hO rfl 2 (by decide) (hts (.fieldLink RX5 22 "KegDeposits" "kinds" "[LKegDeposits$Kind;") (by decide +kernel)) rfl dX5_giveBackLot_9 ?_
      refine zk_alen (v := 12) hx hb hK hH 3 hKA rfl rfl dX5_giveBackLot_12 ?_
      refine lv_icmp_ge (tgt := 72) hx hb dX5_giveBackLot_13 (by decide) (fun h_13 => ?_) (fun h_13 => ?_)
      · skip
        have hiN : i = 12 := by have := (nI_leI (a := 12) (b := i) (by decide) (by omega)).mp h_13; omega
        refine lv_lload hx hb dX5_giveBackLot_72 (lv_at hl 1 rfl) ?_
        exact zk_lret hx hb hr hlocks hH hS (by decide) (by decide) (by rw [hiN, Nat.min_eq_right hnk] at he; rw [← he]; exact ⟨rfl, hRx⟩) dX5_giveBackLot_74
      · skip
        have hiN : i < 12 := Nat.lt_of_not_le (fun q => h_13 ((nI_leI (a := 12) (b := i) (by decide) (by omega)).mpr q))
        refine lv_aload_n hx hb dX5_giveBackLot_16 rfl (lv_at hl 2 rfl) ?_
        refine zk_get (ci := 5) (v := .ref (Z (2, 0, 0))) (C := RX5) (T := TX5) (N := 6) hx hb hts inw_wsX5_giveBackLot_5 hown hK hH hO rfl 2 (by decide) (hts (.fieldLink RX5 22 "KegDeposits" "kinds" "[LKegDeposits$Kind;") (by decide +kernel)) rfl dX5_giveBackLot_17 ?_
        refine lv_iload hx hb dX5_giveBackLot_20 (lv_at hl 0 rfl) ?_
        refine zk_aldQ hx hb hK hH hKA (vp_in_nI hiN (by decide)) dX5_giveBackLot_22 ?_
        by_cases hpi : i < zs_nk X.1
        · skip
          refine zk_top (v' := .ref (Z (4, i, 0))) (zk_arr_some (f := (fun k => if k < zs_nk X.1 then some (Z (4, k, 0)) else none)) (by omega) (if_pos hpi)) ?_
          refine lv_astore (lv' := [(7, .ref (Z (4, i, 0))), (6, .int (nI i)), (4, .long wo), (0, .ref (Z (0, 0, 0))), (1, .ref (Z (3, p, 0))), (2, .long num)]) hx hb dX5_giveBackLot_23 hl (by decide) rfl (fun ls hl => ?_)
          refine lv_aload hx hb dX5_giveBackLot_25 (lv_at hl 0 rfl) ?_
          refine lv_ifnull hx hb dX5_giveBackLot_27 ?_
          refine lv_aload hx hb dX5_giveBackLot_30 (lv_at hl 0 rfl) ?_
          refine lv_lload_n hx hb dX5_giveBackLot_32 rfl (lv_at hl 5 rfl) ?_
          refine vp_callSl (W.runV (As := [.long num]) (rest := []) ⟨hx, hb, hml, hown, hts⟩ (zc_X0_partsOfLot l hRx hpi num) (cwV 1 hts gX5_giveBackLot_X0_partsOfLot rfl rfl rfl (by decide +kernel) ⟨Nat.le_of_ble_eq_true rfl, Nat.le_of_ble_eq_true rfl⟩) (zk_preV hH hK hN (hRx.1 (4, i, 0) ⟨hpi, rfl⟩) rfl) rfl rfl hl.1 rfl (lv_room (Nat.le_of_ble_eq_true rfl)) dX5_giveBackLot_33 ⟨(Nat.le_of_ble_eq_true rfl), (Nat.le_of_ble_eq_true rfl)⟩) (fun r_33 hr_33 => ?_)
          have hr_33 : r_33 = h i + num * zs_sh X.1 i := hr_33
          subst hr_33
          refine lv_lstore (lv' := [(8, .long (h i + num * zs_sh X.1 i)), (7, .ref (Z (4, i, 0))), (6, .int (nI i)), (4, .long wo), (0, .ref (Z (0, 0, 0))), (1, .ref (Z (3, p, 0))), (2, .long num)]) hx hb dX5_giveBackLot_36 hl (by decide) rfl (fun ls hl => ?_)
          refine lv_lload hx hb dX5_giveBackLot_38 (lv_at hl 3 rfl) ?_
          refine lv_aload_n hx hb dX5_giveBackLot_40 rfl (lv_at hl 5 rfl) ?_
          refine lv_aload hx hb dX5_giveBackLot_41 (lv_at hl 1 rfl) ?_
          refine lv_lload hx hb dX5_giveBackLot_43 (lv_at hl 0 rfl) ?_
          refine lv_ldc2 (v := 10000) hx hb hown (hts (.constantLong RX5 91 (10000)) (by decide +kernel)) dX5_giveBackLot_45 ?_
          refine lv_ldiv hx hb dX5_giveBackLot_48 (by decide) ?_
          refine zk_calll (va_runV (As := [.ref (Z (4, i, 0)), .long ((h i + num * zs_sh X.1 i) / 10000)]) (rest := [.long wo]) ⟨hx, hb, hml, hown, hts⟩ (zc_X2_giveBack l (X := (zs_rs_ (zs_ll_ X.1 f) h, X.2)) hRx (fun j hj => (hI.1 j hj).2.1) hp hpi ((h i + num * zs_sh X.1 i) / 10000)) (cwV 2 hts gX5_giveBackLot_X2_giveBack rfl rfl rfl (by decide +kernel) ⟨Nat.le_of_ble_eq_true rfl, Nat.le_of_ble_eq_true rfl⟩) (zk_preV hH hK hN (hRx.1 (3, p, 0) ⟨hp, rfl⟩) rfl) rfl rfl hl.1 rfl (lv_room (Nat.le_of_ble_eq_true rfl)) dX5_giveBackLot_49 ⟨(Nat.le_of_ble_eq_true rfl), (Nat.le_of_ble_eq_true rfl)⟩) hS (fun r_49 u_49 H locs hH hr_49 hS => ?_)
          obtain ⟨hr_49, hRy⟩ := hr_49
          have hKi : u_49 (Z (4, i, 0)) = some (.inr (0, [va_rf (zs_prev (zs_pn X.1 i) (fun j => Z (5, i, j))), .long (zs_sh X.1 i), .long (h i)])) := hRy.1 (4, i, 0) ⟨hpi, rfl⟩
          refine lv_ladd hx hb dX5_giveBackLot_52 ?_
          refine lv_lstore (lv' := [(4, .long (wo + r_49)), (8, .long (h i + num * zs_sh X.1 i)), (7, .ref (Z (4, i, 0))), (6, .int (nI i)), (0, .ref (Z (0, 0, 0))), (1, .ref (Z (3, p, 0))), (2, .long num)]) hx hb dX5_giveBackLot_53 hl (by decide) rfl (fun ls hl => ?_)
          refine lv_aload hx hb dX5_giveBackLot_55 (lv_at hl 2 rfl) ?_
          refine lv_lload hx hb dX5_giveBackLot_57 (lv_at hl 1 rfl) ?_
          refine lv_ldc2 (v := 10000) hx hb hown (hts (.constantLong RX5 91 (10000)) (by decide +kernel)) dX5_giveBackLot_59 ?_
          refine lv_lrem hx hb dX5_giveBackLot_62 (by decide) ?_
          refine zk_putN (ci := 0) (v := .long ((h i + num * zs_sh X.1 i) - (h i + num * zs_sh X.1 i) / 10000 * 10000)) (C := RX0) (T := TX0) (N := 3) hx hb hts inw_wsX5_giveBackLot_0 tyX0 tyX0_ok nmX0 hown hK hH hS hKi rfl 2 (by decide) (zk_nf_1 hN) rfl rfl rfl (Nat.le_of_ble_eq_true rfl) dX5_giveBackLot_63 (fun H locs hH hS => ?_)
          obtain ⟨M_63, eM_63⟩ : ∃ w_0 : zk_M, w_0 = zk_up u_49 (Z (4, i, 0)) (.inr (0, [va_rf (zs_prev (zs_pn X.1 i) (fun j => Z (5, i, j))), .long (zs_sh X.1 i), .long ((h i + num * zs_sh X.1 i) - (h i + num * zs_sh X.1 i) / 10000 * 10000)])) := ⟨_, rfl⟩
          have hH : zk_H g z M_63 H := by rw [eM_63]; exact hH
          have e_63 : M_63 (Z (4, i, 0)) = some (.inr (0, [va_rf (zs_prev (zs_pn X.1 i) (fun j => Z (5, i, j))), .long (zs_sh X.1 i), .long ((h i + num * zs_sh X.1 i) - (h i + num * zs_sh X.1 i) / 10000 * 10000)])) := by rw [eM_63]; exact zk_up_s _ _ _
          refine lv_iinc (v := nI (i + 1)) (lv' := [(6, .int (nI (i + 1))), (4, .long (wo + r_49)), (8, .long (h i + num * zs_sh X.1 i)), (7, .ref (Z (4, i, 0))), (0, .ref (Z (0, 0, 0))), (1, .ref (Z (3, p, 0))), (2, .long num)]) hx hb dX5_giveBackLot_66 hl (k := 3) rfl (nI_1 i) (by decide) rfl (fun ls hl => ?_)
          refine lv_goto (tgt := 6) hx hb dX5_giveBackLot_69 (by decide) ?_
          exact ih (i + 1) (zs_take (zs_rs_ (zs_ll_ X.1 f) h) p i ((h i + num * zs_sh X.1 i) / 10000) (zs_nl X.1)).1 (vp_updL h i (h i + num * zs_sh X.1 i - (h i + num * zs_sh X.1 i) / 10000 * 10000)) _ _ _ _ ls (by omega) (by omega) (by rw [Nat.min_eq_left (by omega)] at he ⊢; rw [hr_49]; exact zs_lot_step he) (by rw [eM_63]; exact zs_R_rs hRy hpi _) hH hS (lv_sub hl [0, 1, 4, 5, 6] rfl)
        · skip
          refine zk_top (v' := .null) (zk_arr_none (f := (fun k => if k < zs_nk X.1 then some (Z (4, k, 0)) else none)) (by omega) (if_neg hpi)) ?_
          refine lv_astoreN (lv' := [(7, .null), (6, .int (nI i)), (4, .long wo), (0, .ref (Z (0, 0, 0))), (1, .ref (Z (3, p, 0))), (2, .long num)]) hx hb dX5_giveBackLot_23 hl (by decide) rfl (fun ls hl => ?_)
          refine lv_aloadN hx hb dX5_giveBackLot_25 (lv_at hl 0 rfl) ?_
          refine lv_ifnullN (tgt := 66) hx hb dX5_giveBackLot_27 (by decide) ?_
          refine lv_iinc (v := nI (i + 1)) (lv' := [(6, .int (nI (i + 1))), (7, .null), (4, .long wo), (0, .ref (Z (0, 0, 0))), (1, .ref (Z (3, p, 0))), (2, .long num)]) hx hb dX5_giveBackLot_66 hl (k := 1) rfl (nI_1 i) (by decide) rfl (fun ls hl => ?_)
          refine lv_goto (tgt := 6) hx hb dX5_giveBackLot_69 (by decide) ?_
          exact ih (i + 1) _ _ _ _ _ _ ls (by omega) (by omega) (by rw [Nat.min_eq_right (by omega)] at he ⊢; exact he) hRx hH hS (lv_sub hl [0, 2, 3, 4, 5] rfl)
  exact loop 13 0 _ _ _ _ _ _ ls (by omega) (by omega) (by rw [Nat.zero_min]; rfl) hR hH hS (lv_sub hl [0, 1, 2, 3, 4] rfl)
