set_option maxHeartbeats 4000000 in
set_option maxRecDepth 100000 in
theorem zc_X5_settle (l : Launch) {g : zk_G} {z : Nat} {M : zk_M} {X : zs_X} {Z : zs_Z} {n : Nat} (hR : zs_R g X Z M) (hI : zs_I X.1 n) (hn : zs_nc X.1 < 512) (x y mo : Int32) : Met l yX5_settle wsX5_settle ({ frames := 3, cells := 1, slots := 5, locals := 65 } : Room) (va_Pc [.ref (Z (0, 0, 0)), .int x, .int y, .int mo] (zk_U g z M)) (va_Qi (fun r u => r = (zs_fsettle (fun v => decide (0 < v)) X.1 x y mo).1 ∧ zs_P g X Z ((zs_fsettle (fun v => decide (0 < v)) X.1 x y mo).2, X.2) u) (zk_B g z) (fun q => z ≤ q)) 1 5 (fun q => z ≤ q) := by
  refine Met.ofW (cc := cX5_settle) (maxL := 13) (ret := (some .int)) (by decide) rfl ?_
  intro P0 e0 s m0 args below meth c0 s₁ B hml hv
  obtain ⟨rfl, hH, hK, hN⟩ := hv
  have hx := B.exec
  have hb := B.bytes
  have hr := B.returns
  have hts := atoms_spec (ws := wsX5_settle) B.pre
  have hown : s.vm.findClass RX5 = some m0.cls := findClass_of_methodNamed B.named
  have hlocks := B.notSynchronized
  have hS : va_S (fun q => z ≤ q) s.heap s.heap [] := va_S.rf
  have hl := lv_entry ([.ref (Z (0, 0, 0)), .int x, .int y, .int mo]) (n := 13) (Nat.le_of_ble_eq_true rfl)
  rw [lg_entry_eq]
  generalize (lg_sl ([.ref (Z (0, 0, 0)), .int x, .int y, .int mo]) ++ List.replicate (13 - (lg_sl ([.ref (Z (0, 0, 0)), .int x, .int y, .int mo])).length) Slot.unset).toArray = ls at hl ⊢
  have hl : lv_has ls 13 [(0, .ref (Z (0, 0, 0))), (1, .int x), (2, .int y), (3, .int mo)] := hl
  have hO : M (Z (0, 0, 0)) = some (.inr (5, [.ref (Z (3, 0, 0)), .ref (Z (1, 0, 0)), .ref (Z (2, 0, 0)), va_rf (zs_prev (zs_nc X.1) (fun i => Z (7, i, 0))), .int (nI (zs_nc X.1)), .long (zs_ck X.1)])) := hR.1 (0, 0, 0) ⟨rfl, rfl⟩
  refine lv_aload_n hx hb dX5_settle_0 rfl (lv_at hl 0 rfl) ?_
  refine lv_iload_n hx hb dX5_settle_1 rfl (lv_at hl 1 rfl) ?_
  refine va_csq (W.runV (As := [.int x]) (rest := []) ⟨hx, hb, hml, hown, hts⟩ (zc_X5_customerAt l hR hI.1.2.1 x) (cwV 1 hts gX5_settle_X5_customerAt rfl rfl rfl (by decide +kernel) ⟨Nat.le_of_ble_eq_true rfl, Nat.le_of_ble_eq_true rfl⟩) (zk_preV hH hK hN hO rfl) rfl rfl hl.1 rfl (lv_room (Nat.le_of_ble_eq_true rfl)) dX5_settle_2 ⟨(Nat.le_of_ble_eq_true rfl), (Nat.le_of_ble_eq_true rfl)⟩) (fun r_2 hr_2 => ?_)
  cases hx_2 : zs_cx (zs_np X.1) x with
  | none =>
    refine zk_top (v' := .null) (by rw [hr_2, hx_2]; rfl) ?_
    refine lv_astoreN (lv' := [(4, .null), (0, .ref (Z (0, 0, 0))), (1, .int x), (2, .int y), (3, .int mo)]) hx hb dX5_settle_5 hl (by decide) rfl (fun ls hl => ?_)
    refine lv_aload_n hx hb dX5_settle_7 rfl (lv_at hl 1 rfl) ?_
    refine lv_iload_n hx hb dX5_settle_8 rfl (lv_at hl 3 rfl) ?_
    refine va_csq (W.runV (As := [.int y]) (rest := []) ⟨hx, hb, hml, hown, hts⟩ (zc_X5_customerAt l hR hI.1.2.1 y) (cwV 1 hts gX5_settle_X5_customerAt rfl rfl rfl (by decide +kernel) ⟨Nat.le_of_ble_eq_true rfl, Nat.le_of_ble_eq_true rfl⟩) (zk_preV hH hK hN hO rfl) rfl rfl hl.1 rfl (lv_room (Nat.le_of_ble_eq_true rfl)) dX5_settle_9 ⟨(Nat.le_of_ble_eq_true rfl), (Nat.le_of_ble_eq_true rfl)⟩) (fun r_9 hr_9 => ?_)
    cases r_9 with
    | none =>
      refine lv_astoreN (lv' := [(5, .null), (4, .null), (0, .ref (Z (0, 0, 0))), (1, .int x), (2, .int y), (3, .int mo)]) hx hb dX5_settle_12 hl (by decide) rfl (fun ls hl => ?_)
      refine lv_iload_n hx hb dX5_settle_14 rfl (lv_at hl 5 rfl) ?_
      refine lv_i2l (v := (Int32.toInt64 mo)) hx hb dX5_settle_15 rfl ?_
      refine lv_ldc2 (v := 30) hx hb hown (hts (.constantLong RX5 108 (30)) (by decide +kernel)) dX5_settle_16 ?_
      refine lv_lmul hx hb dX5_settle_19 ?_
      refine lv_lstore (lv' := [(6, .long ((Int32.toInt64 mo) * 30)), (5, .null), (4, .null), (0, .ref (Z (0, 0, 0))), (1, .int x), (2, .int y), (3, .int mo)]) hx hb dX5_settle_20 hl (by decide) rfl (fun ls hl => ?_)
      refine lv_aloadN hx hb dX5_settle_22 (lv_at hl 2 rfl) ?_
      refine lv_ifnullN (tgt := 48) hx hb dX5_settle_24 (by decide) ?_
      refine lv_bipush (v := (-2)) hx hb dX5_settle_48 (by decide) ?_
      exact zk_zret hx hb hr hlocks (by first | rfl | decide) hH hS (by decide) (by decide) (zs_no hR (by simp only [zs_fsettle, hx_2])) dX5_settle_50
    | some v9 =>
      refine lv_astore (lv' := [(5, .ref v9), (4, .null), (0, .ref (Z (0, 0, 0))), (1, .int x), (2, .int y), (3, .int mo)]) hx hb dX5_settle_12 hl (by decide) rfl (fun ls hl => ?_)
      refine lv_iload_n hx hb dX5_settle_14 rfl (lv_at hl 5 rfl) ?_
      refine lv_i2l (v := (Int32.toInt64 mo)) hx hb dX5_settle_15 rfl ?_
      refine lv_ldc2 (v := 30) hx hb hown (hts (.constantLong RX5 108 (30)) (by decide +kernel)) dX5_settle_16 ?_
      refine lv_lmul hx hb dX5_settle_19 ?_
      refine lv_lstore (lv' := [(6, .long ((Int32.toInt64 mo) * 30)), (5, .ref v9), (4, .null), (0, .ref (Z (0, 0, 0))), (1, .int x), (2, .int y), (3, .int mo)]) hx hb dX5_settle_20 hl (by decide) rfl (fun ls hl => ?_)
      refine lv_aloadN hx hb dX5_settle_22 (lv_at hl 2 rfl) ?_
      refine lv_ifnullN (tgt := 48) hx hb dX5_settle_24 (by decide) ?_
      refine lv_bipush (v := (-2)) hx hb dX5_settle_48 (by decide) ?_
      exact zk_zret hx hb hr hlocks (by first | rfl | decide) hH hS (by decide) (by decide) (zs_no hR (by simp only [zs_fsettle, hx_2])) dX5_settle_50
  | some p =>
    refine zk_top (v' := .ref (Z (3, p, 0))) (by rw [hr_2, hx_2]; rfl) ?_
    obtain ⟨hp, ex_p, hz_p⟩ := zs_cx_some (by have := hI.1.2.1; omega) hx_2
    refine lv_astore (lv' := [(4, .ref (Z (3, p, 0))), (0, .ref (Z (0, 0, 0))), (1, .int x), (2, .int y), (3, .int mo)]) hx hb dX5_settle_5 hl (by decide) rfl (fun ls hl => ?_)
    refine lv_aload_n hx hb dX5_settle_7 rfl (lv_at hl 1 rfl) ?_
    refine lv_iload_n hx hb dX5_settle_8 rfl (lv_at hl 3 rfl) ?_
    refine va_csq (W.runV (As := [.int y]) (rest := []) ⟨hx, hb, hml, hown, hts⟩ (zc_X5_customerAt l hR hI.1.2.1 y) (cwV 1 hts gX5_settle_X5_customerAt rfl rfl rfl (by decide +kernel) ⟨Nat.le_of_ble_eq_true rfl, Nat.le_of_ble_eq_true rfl⟩) (zk_preV hH hK hN hO rfl) rfl rfl hl.1 rfl (lv_room (Nat.le_of_ble_eq_true rfl)) dX5_settle_9 ⟨(Nat.le_of_ble_eq_true rfl), (Nat.le_of_ble_eq_true rfl)⟩) (fun r_9 hr_9 => ?_)
    cases hx_9 : zs_cx (zs_np X.1) y with
    | none =>
      refine zk_top (v' := .null) (by rw [hr_9, hx_9]; rfl) ?_
      refine lv_astoreN (lv' := [(5, .null), (4, .ref (Z (3, p, 0))), (0, .ref (Z (0, 0, 0))), (1, .int x), (2, .int y), (3, .int mo)]) hx hb dX5_settle_12 hl (by decide) rfl (fun ls hl => ?_)
      refine lv_iload_n hx hb dX5_settle_14 rfl (lv_at hl 5 rfl) ?_
      refine lv_i2l (v := (Int32.toInt64 mo)) hx hb dX5_settle_15 rfl ?_
      refine lv_ldc2 (v := 30) hx hb hown (hts (.constantLong RX5 108 (30)) (by decide +kernel)) dX5_settle_16 ?_
      refine lv_lmul hx hb dX5_settle_19 ?_
      refine lv_lstore (lv' := [(6, .long ((Int32.toInt64 mo) * 30)), (5, .null), (4, .ref (Z (3, p, 0))), (0, .ref (Z (0, 0, 0))), (1, .int x), (2, .int y), (3, .int mo)]) hx hb dX5_settle_20 hl (by decide) rfl (fun ls hl => ?_)
      refine lv_aload hx hb dX5_settle_22 (lv_at hl 2 rfl) ?_
      refine lv_ifnull hx hb dX5_settle_24 ?_
      refine lv_aloadN hx hb dX5_settle_27 (lv_at hl 1 rfl) ?_
      refine lv_ifnullN (tgt := 48) hx hb dX5_settle_29 (by decide) ?_
      refine lv_bipush (v := (-2)) hx hb dX5_settle_48 (by decide) ?_
      exact zk_zret hx hb hr hlocks (by first | rfl | decide) hH hS (by decide) (by decide) (zs_no hR (by simp only [zs_fsettle, hx_2, hx_9])) dX5_settle_50
    | some q =>
      refine zk_top (v' := .ref (Z (3, q, 0))) (by rw [hr_9, hx_9]; rfl) ?_
      obtain ⟨hq, ex_q, hz_q⟩ := zs_cx_some (by have := hI.1.2.1; omega) hx_9
      refine lv_astore (lv' := [(5, .ref (Z (3, q, 0))), (4, .ref (Z (3, p, 0))), (0, .ref (Z (0, 0, 0))), (1, .int x), (2, .int y), (3, .int mo)]) hx hb dX5_settle_12 hl (by decide) rfl (fun ls hl => ?_)
      refine lv_iload_n hx hb dX5_settle_14 rfl (lv_at hl 5 rfl) ?_
      refine lv_i2l (v := (Int32.toInt64 mo)) hx hb dX5_settle_15 rfl ?_
      refine lv_ldc2 (v := 30) hx hb hown (hts (.constantLong RX5 108 (30)) (by decide +kernel)) dX5_settle_16 ?_
      refine lv_lmul hx hb dX5_settle_19 ?_
      refine lv_lstore (lv' := [(6, .long ((Int32.toInt64 mo) * 30)), (5, .ref (Z (3, q, 0))), (4, .ref (Z (3, p, 0))), (0, .ref (Z (0, 0, 0))), (1, .int x), (2, .int y), (3, .int mo)]) hx hb dX5_settle_20 hl (by decide) rfl (fun ls hl => ?_)
      refine lv_aload hx hb dX5_settle_22 (lv_at hl 2 rfl) ?_
      refine lv_ifnull hx hb dX5_settle_24 ?_
      refine lv_aload hx hb dX5_settle_27 (lv_at hl 1 rfl) ?_
      refine lv_ifnull hx hb dX5_settle_29 ?_
      refine lv_aload hx hb dX5_settle_32 (lv_at hl 2 rfl) ?_
      refine lv_aload hx hb dX5_settle_34 (lv_at hl 1 rfl) ?_
      refine lv_acmp_eq (rx := (some (Z (3, p, 0)))) (ry := (some (Z (3, q, 0)))) (tgt := 48) hx hb dX5_settle_36 (by decide) (fun h_36 => ?_) (fun h_36 => ?_)
      · skip
        have hpq : p = q := by have := hR.2 (3, p, 0) (3, q, 0) ⟨hp, rfl⟩ ⟨hq, rfl⟩ (Option.some.inj h_36); simpa using this
        refine lv_bipush (v := (-2)) hx hb dX5_settle_48 (by decide) ?_
        exact zk_zret hx hb hr hlocks (by first | rfl | decide) hH hS (by decide) (by decide) (zs_no hR (by simp only [zs_fsettle, hx_2, hx_9]; exact if_neg (fun e => e.1 hpq))) dX5_settle_50
      · skip
        have hpq : ¬ p = q := fun e => h_36 (by rw [e])
        refine lv_aload_n hx hb dX5_settle_39 rfl (lv_at hl 3 rfl) ?_
        refine lv_lload hx hb dX5_settle_40 (lv_at hl 0 rfl) ?_
        refine vp_callSi (W.runV (As := [.long ((Int32.toInt64 mo) * 30)]) (rest := []) ⟨hx, hb, hml, hown, hts⟩ (zc_X5_mayMoveOn l hR hn (Int32.toInt64 mo * 30)) (cwV 1 hts gX5_settle_X5_mayMoveOn rfl rfl rfl (by decide +kernel) ⟨Nat.le_of_ble_eq_true rfl, Nat.le_of_ble_eq_true rfl⟩) (zk_preV hH hK hN hO rfl) rfl rfl hl.1 rfl (lv_room (Nat.le_of_ble_eq_true rfl)) dX5_settle_42 ⟨(Nat.le_of_ble_eq_true rfl), (Nat.le_of_ble_eq_true rfl)⟩) (fun r_42 hr_42 => ?_)
        refine lv_if_ne (tgt := 51) hx hb dX5_settle_45 (by decide) (fun h_45 => ?_) (fun h_45 => ?_)
        · skip
          have hmay : zs_isD (Int32.toInt64 mo * 30) ∧ zs_ck X.1 ≤ (Int32.toInt64 mo * 30) := zs_b1 hr_42 h_45
          refine lv_aload_n hx hb dX5_settle_51 rfl (lv_at hl 3 rfl) ?_
          refine lv_aload hx hb dX5_settle_52 (lv_at hl 2 rfl) ?_
          refine lv_lload hx hb dX5_settle_54 (lv_at hl 0 rfl) ?_
          refine vp_callSl (W.runV (As := [.ref (Z (3, p, 0)), .long ((Int32.toInt64 mo) * 30)]) (rest := []) ⟨hx, hb, hml, hown, hts⟩ (zc_X5_worthOf l hR hI.2.2.1 hI.2.1 hI.1.2.2.1 hp (Int32.toInt64 mo * 30)) (cwV 2 hts gX5_settle_X5_worthOf rfl rfl rfl (by decide +kernel) ⟨Nat.le_of_ble_eq_true rfl, Nat.le_of_ble_eq_true rfl⟩) (zk_preV hH hK hN hO rfl) rfl rfl hl.1 rfl (lv_room (Nat.le_of_ble_eq_true rfl)) dX5_settle_56 ⟨(Nat.le_of_ble_eq_true rfl), (Nat.le_of_ble_eq_true rfl)⟩) (fun r_56 hr_56 => ?_)
          subst hr_56
          refine lv_aload_n hx hb dX5_settle_59 rfl (lv_at hl 3 rfl) ?_
          refine lv_aload hx hb dX5_settle_60 (lv_at hl 1 rfl) ?_
          refine lv_lload hx hb dX5_settle_62 (lv_at hl 0 rfl) ?_
          refine vp_callSl (W.runV (As := [.ref (Z (3, q, 0)), .long ((Int32.toInt64 mo) * 30)]) (rest := [.long (zs_worth X.1 p (Int32.toInt64 mo * 30))]) ⟨hx, hb, hml, hown, hts⟩ (zc_X5_worthOf l hR hI.2.2.1 hI.2.1 hI.1.2.2.1 hq (Int32.toInt64 mo * 30)) (cwV 2 hts gX5_settle_X5_worthOf rfl rfl rfl (by decide +kernel) ⟨Nat.le_of_ble_eq_true rfl, Nat.le_of_ble_eq_true rfl⟩) (zk_preV hH hK hN hO rfl) rfl rfl hl.1 rfl (lv_room (Nat.le_of_ble_eq_true rfl)) dX5_settle_64 ⟨(Nat.le_of_ble_eq_true rfl), (Nat.le_of_ble_eq_true rfl)⟩) (fun r_64 hr_64 => ?_)
          subst hr_64
          refine lv_lsub hx hb dX5_settle_67 ?_
          refine lv_topl (fun df edf => ?_)
          refine lv_lstore (lv' := [(8, .long df), (6, .long ((Int32.toInt64 mo) * 30)), (5, .ref (Z (3, q, 0))), (4, .ref (Z (3, p, 0))), (0, .ref (Z (0, 0, 0))), (1, .int x), (2, .int y), (3, .int mo)]) hx hb dX5_settle_68 hl (by decide) rfl (fun ls hl => ?_)
          refine lv_lload hx hb dX5_settle_70 (lv_at hl 0 rfl) ?_
          refine lv_lconst (v := 0) hx hb dX5_settle_72 (by decide) ?_
          refine zk_lc_le (tgt := 81) hx hb dX5_settle_73 dX5_settle_74 (by decide) (fun h_73 => ?_) (fun h_73 => ?_)
          · skip
            refine lv_iconst (v := 0) hx hb dX5_settle_81 (by decide) ?_
            refine lv_istore (lv' := [(10, .int 0), (8, .long df), (6, .long ((Int32.toInt64 mo) * 30)), (5, .ref (Z (3, q, 0))), (4, .ref (Z (3, p, 0))), (0, .ref (Z (0, 0, 0))), (1, .int x), (2, .int y), (3, .int mo)]) hx hb dX5_settle_82 hl (by decide) rfl (fun ls hl => ?_)
            refine lv_lload hx hb dX5_settle_84 (lv_at hl 1 rfl) ?_
            refine va_mabs_long hx hb (hml.trans hl.1.symm) hown (hts (.methodLink RX5 113 Lib.MathLoose.abs_long.x) (by decide +kernel)) (hts (.static Lib.MathLoose.abs_long.x) (by decide +kernel)) (hts (.initialized "java/lang/Math") (by decide +kernel)) (hts (.code Lib.MathLoose.abs_long.x Lib.MathLoose.abs_long.code 2 (some .long)) (by decide +kernel)) (Nat.le_of_ble_eq_true rfl) (Nat.le_of_ble_eq_true rfl) (Nat.le_of_ble_eq_true rfl) (Nat.le_of_ble_eq_true rfl) dX5_settle_86 ?_
            refine lv_ldc2 (v := 2) hx hb hown (hts (.constantLong RX5 118 (2)) (by decide +kernel)) dX5_settle_89 ?_
            refine lv_ldiv hx hb dX5_settle_92 (by decide) ?_
            refine lv_topl (fun ha eha => ?_)
            refine lv_lstore (lv' := [(11, .long ha), (10, .int 0), (8, .long df), (6, .long ((Int32.toInt64 mo) * 30)), (5, .ref (Z (3, q, 0))), (4, .ref (Z (3, p, 0))), (0, .ref (Z (0, 0, 0))), (1, .int x), (2, .int y), (3, .int mo)]) hx hb dX5_settle_93 hl (by decide) rfl (fun ls hl => ?_)
            refine lv_aload_n hx hb dX5_settle_95 rfl (lv_at hl 6 rfl) ?_
            refine lv_lload hx hb dX5_settle_96 (lv_at hl 3 rfl) ?_
            refine lv_lload hx hb dX5_settle_98 (lv_at hl 0 rfl) ?_
            refine lv_iload hx hb dX5_settle_100 (lv_at hl 1 rfl) ?_
            refine lv_if_eq (tgt := 110) hx hb dX5_settle_102 (by decide) (fun h_102 => ?_) (fun h_102 => ?_)
            · skip
              refine lv_aload hx hb dX5_settle_110 (lv_at hl 4 rfl) ?_
              refine lv_iload hx hb dX5_settle_112 (lv_at hl 1 rfl) ?_
              refine lv_if_eq (tgt := 122) hx hb dX5_settle_114 (by decide) (fun h_114 => ?_) (fun h_114 => ?_)
              · skip
                refine lv_aload hx hb dX5_settle_122 (lv_at hl 5 rfl) ?_
                refine zk_callv (va_runV (As := [.long ((Int32.toInt64 mo) * 30), .long ha, .ref (Z (3, q, 0)), .ref (Z (3, p, 0))]) (rest := []) ⟨hx, hb, hml, hown, hts⟩ (zc_X5_move l hR hI hq hp (Int32.toInt64 mo * 30) ha) (cwV 4 hts gX5_settle_X5_move rfl rfl rfl (by decide +kernel) ⟨Nat.le_of_ble_eq_true rfl, Nat.le_of_ble_eq_true rfl⟩) (zk_preV hH hK hN hO rfl) rfl rfl hl.1 rfl (lv_room (Nat.le_of_ble_eq_true rfl)) dX5_settle_124 ⟨(Nat.le_of_ble_eq_true rfl), (Nat.le_of_ble_eq_true rfl)⟩) hS (fun u_124 H locs hH hr_124 hS => ?_)
                refine lv_lload hx hb dX5_settle_127 (lv_at hl 0 rfl) ?_
                refine lv_lconst (v := 0) hx hb dX5_settle_129 (by decide) ?_
                refine zk_lc_ne (tgt := 136) hx hb dX5_settle_130 dX5_settle_131 (by decide) (fun h_130 => ?_) (fun h_130 => ?_)
                · skip
                  refine lv_iload hx hb dX5_settle_136 (lv_at hl 1 rfl) ?_
                  refine lv_if_eq (tgt := 145) hx hb dX5_settle_138 (by decide) (fun h_138 => ?_) (fun h_138 => ?_)
                  · skip
                    refine lv_iconst (v := (-1)) hx hb dX5_settle_145 (by decide) ?_
                    exact zk_zret hx hb hr hlocks (by first | rfl | decide) hH hS (by decide) (by decide) (by have hpos : ¬ 0 < df := Int64.not_lt.mpr h_73; have hdec : decide (0 < df) = false := decide_eq_false hpos; exact zs_yes (by simp only [zs_fsettle, hx_2, hx_9]; rw [if_pos ⟨hpq, hmay⟩, ← edf, ← eha]; simp only [hpos, h_130, decide_true, decide_false, if_true, if_false, Bool.false_eq_true]) hr_124) dX5_settle_146
                  · skip
                    exact absurd h_138 (by decide)
                · skip
                  refine lv_iconst (v := 0) hx hb dX5_settle_134 (by decide) ?_
                  exact zk_zret hx hb hr hlocks (by first | rfl | decide) hH hS (by decide) (by decide) (by have hpos : ¬ 0 < df := Int64.not_lt.mpr h_73; have hdec : decide (0 < df) = false := decide_eq_false hpos; exact zs_yes (by simp only [zs_fsettle, hx_2, hx_9]; rw [if_pos ⟨hpq, hmay⟩, ← edf, ← eha]; simp only [hpos, h_130, decide_true, decide_false, if_true, if_false, Bool.false_eq_true]) hr_124) dX5_settle_135
              · skip
                exact absurd h_114 (by decide)
            · skip
              exact absurd h_102 (by decide)
          · skip
            refine lv_iconst (v := 1) hx hb dX5_settle_77 (by decide) ?_
            refine lv_goto (tgt := 82) hx hb dX5_settle_78 (by decide) ?_
            refine lv_istore (lv' := [(10, .int 1), (8, .long df), (6, .long ((Int32.toInt64 mo) * 30)), (5, .ref (Z (3, q, 0))), (4, .ref (Z (3, p, 0))), (0, .ref (Z (0, 0, 0))), (1, .int x), (2, .int y), (3, .int mo)]) hx hb dX5_settle_82 hl (by decide) rfl (fun ls hl => ?_)
            refine lv_lload hx hb dX5_settle_84 (lv_at hl 1 rfl) ?_
            refine va_mabs_long hx hb (hml.trans hl.1.symm) hown (hts (.methodLink RX5 113 Lib.MathLoose.abs_long.x) (by decide +kernel)) (hts (.static Lib.MathLoose.abs_long.x) (by decide +kernel)) (hts (.initialized "java/lang/Math") (by decide +kernel)) (hts (.code Lib.MathLoose.abs_long.x Lib.MathLoose.abs_long.code 2 (some .long)) (by decide +kernel)) (Nat.le_of_ble_eq_true rfl) (Nat.le_of_ble_eq_true rfl) (Nat.le_of_ble_eq_true rfl) (Nat.le_of_ble_eq_true rfl) dX5_settle_86 ?_
            refine lv_ldc2 (v := 2) hx hb hown (hts (.constantLong RX5 118 (2)) (by decide +kernel)) dX5_settle_89 ?_
            refine lv_ldiv hx hb dX5_settle_92 (by decide) ?_
            refine lv_topl (fun ha eha => ?_)
            refine lv_lstore (lv' := [(11, .long ha), (10, .int 1), (8, .long df), (6, .long ((Int32.toInt64 mo) * 30)), (5, .ref (Z (3, q, 0))), (4, .ref (Z (3, p, 0))), (0, .ref (Z (0, 0, 0))), (1, .int x), (2, .int y), (3, .int mo)]) hx hb dX5_settle_93 hl (by decide) rfl (fun ls hl => ?_)
            refine lv_aload_n hx hb dX5_settle_95 rfl (lv_at hl 6 rfl) ?_
            refine lv_lload hx hb dX5_settle_96 (lv_at hl 3 rfl) ?_
            refine lv_lload hx hb dX5_settle_98 (lv_at hl 0 rfl) ?_
            refine lv_iload hx hb dX5_settle_100 (lv_at hl 1 rfl) ?_
            refine lv_if_eq (tgt := 110) hx hb dX5_settle_102 (by decide) (fun h_102 => ?_) (fun h_102 => ?_)
            · skip
              exact absurd h_102 (by decide)
            · skip
              refine lv_aload hx hb dX5_settle_105 (lv_at hl 5 rfl) ?_
              refine lv_goto (tgt := 112) hx hb dX5_settle_107 (by decide) ?_
              refine lv_iload hx hb dX5_settle_112 (lv_at hl 1 rfl) ?_
              refine lv_if_eq (tgt := 122) hx hb dX5_settle_114 (by decide) (fun h_114 => ?_) (fun h_114 => ?_)
              · skip
                exact absurd h_114 (by decide)
              · skip
                refine lv_aload hx hb dX5_settle_117 (lv_at hl 4 rfl) ?_
                refine lv_goto (tgt := 124) hx hb dX5_settle_119 (by decide) ?_
                refine zk_callv (va_runV (As := [.long ((Int32.toInt64 mo) * 30), .long ha, .ref (Z (3, p, 0)), .ref (Z (3, q, 0))]) (rest := []) ⟨hx, hb, hml, hown, hts⟩ (zc_X5_move l hR hI hp hq (Int32.toInt64 mo * 30) ha) (cwV 4 hts gX5_settle_X5_move rfl rfl rfl (by decide +kernel) ⟨Nat.le_of_ble_eq_true rfl, Nat.le_of_ble_eq_true rfl⟩) (zk_preV hH hK hN hO rfl) rfl rfl hl.1 rfl (lv_room (Nat.le_of_ble_eq_true rfl)) dX5_settle_124 ⟨(Nat.le_of_ble_eq_true rfl), (Nat.le_of_ble_eq_true rfl)⟩) hS (fun u_124 H locs hH hr_124 hS => ?_)
                refine lv_lload hx hb dX5_settle_127 (lv_at hl 0 rfl) ?_
                refine lv_lconst (v := 0) hx hb dX5_settle_129 (by decide) ?_
                refine zk_lc_ne (tgt := 136) hx hb dX5_settle_130 dX5_settle_131 (by decide) (fun h_130 => ?_) (fun h_130 => ?_)
                · skip
                  refine lv_iload hx hb dX5_settle_136 (lv_at hl 1 rfl) ?_
                  refine lv_if_eq (tgt := 145) hx hb dX5_settle_138 (by decide) (fun h_138 => ?_) (fun h_138 => ?_)
                  · skip
                    exact absurd h_138 (by decide)
                  · skip
                    refine lv_iconst (v := 1) hx hb dX5_settle_141 (by decide) ?_
                    refine lv_goto (tgt := 146) hx hb dX5_settle_142 (by decide) ?_
                    exact zk_zret hx hb hr hlocks (by first | rfl | decide) hH hS (by decide) (by decide) (by have hpos : 0 < df := Int64.not_le.mp h_73; have hdec : decide (0 < df) = true := decide_eq_true hpos; exact zs_yes (by simp only [zs_fsettle, hx_2, hx_9]; rw [if_pos ⟨hpq, hmay⟩, ← edf, ← eha]; simp only [hpos, h_130, decide_true, decide_false, if_true, if_false, Bool.false_eq_true]) hr_124) dX5_settle_146
                · skip
                  refine lv_iconst (v := 0) hx hb dX5_settle_134 (by decide) ?_
                  exact zk_zret hx hb hr hlocks (by first | rfl | decide) hH hS (by decide) (by decide) (by have hpos : 0 < df := Int64.not_le.mp h_73; have hdec : decide (0 < df) = true := decide_eq_true hpos; exact zs_yes (by simp only [zs_fsettle, hx_2, hx_9]; rw [if_pos ⟨hpq, hmay⟩, ← edf, ← eha]; simp only [hpos, h_130, decide_true, decide_false, if_true, if_false, Bool.false_eq_true]) hr_124) dX5_settle_135
        · skip
          have hmay : ¬ (zs_isD (Int32.toInt64 mo * 30) ∧ zs_ck X.1 ≤ (Int32.toInt64 mo * 30)) := zs_b0 hr_42 h_45
          refine lv_bipush (v := (-2)) hx hb dX5_settle_48 (by decide) ?_
          exact zk_zret hx hb hr hlocks (by first | rfl | decide) hH hS (by decide) (by decide) (zs_no hR (by simp only [zs_fsettle, hx_2, hx_9]; exact if_neg (fun e => hmay e.2))) dX5_settle_50

theorem inw_wsX5_party_2 : ∀ w ∈ u_ws RX2 TX2 2, w ∈ wsX5_party := by decide +kernel
theorem inw_wsX5_party_5 : ∀ w ∈ u_ws RX5 TX5 6, w ∈ wsX5_party := by decide +kernel
set_option maxHeartbeats 4000000 in
set_option maxRecDepth 100000 in
theorem zc_X5_party (l : Launch) {g : zk_G} {z : Nat} {M : zk_M} {X : zs_X} {Z : zs_Z} {n : Nat} (hR : zs_R g X Z M) (hI : zs_I X.1 n) : Met l yX5_party wsX5_party ({ frames := 2, cells := 1, slots := 2, locals := 32 } : Room) (va_Pc [.ref (Z (0, 0, 0))] (zk_U g z M)) (va_Qi (fun r u => r = (zs_fparty X.1).1 ∧ zs_P g X Z ((zs_fparty X.1).2, X.2) u) (zk_B g z) (fun q => z ≤ q)) 1 2 (fun q => z ≤ q) := by
  refine Met.ofW (cc := cX5_party) (maxL := 2) (ret := (some .int)) (by decide) rfl ?_
  intro P0 e0 s m0 args below meth c0 s₁ B hml hv
  obtain ⟨rfl, hH, hK, hN⟩ := hv
  have hx := B.exec
  have hb := B.bytes
  have hr := B.returns
  have hts := atoms_spec (ws := wsX5_party) B.pre
  have hown : s.vm.findClass RX5 = some m0.cls := findClass_of_methodNamed B.named
  have hlocks := B.notSynchronized
  have hS : va_S (fun q => z ≤ q) s.heap s.heap [] := va_S.rf
  have hl := lv_entry ([.ref (Z (0, 0, 0))]) (n := 2) (Nat.le_of_ble_eq_true rfl)
  rw [lg_entry_eq]
  generalize (lg_sl ([.ref (Z (0, 0, 0))]) ++ List.replicate (2 - (lg_sl ([.ref (Z (0, 0, 0))])).length) Slot.unset).toArray = ls at hl ⊢
  have hl : lv_has ls 2 [(0, .ref (Z (0, 0, 0)))] := hl
  have hO : M (Z (0, 0, 0)) = some (.inr (5, [.ref (Z (3, 0, 0)), .ref (Z (1, 0, 0)), .ref (Z (2, 0, 0)), va_rf (zs_prev (zs_nc X.1) (fun i => Z (7, i, 0))), .int (nI (zs_nc X.1)), .long (zs_ck X.1)])) := hR.1 (0, 0, 0) ⟨rfl, rfl⟩
  have hPA : M (Z (1, 0, 0)) = some (zk_aP g 24 (fun p => if p < zs_np X.1 then some (Z (3, p, 0)) else none)) := hR.1 (1, 0, 0) ⟨rfl, rfl⟩
  refine lv_iconst (v := 0) hx hb dX5_party_0 (by decide) ?_
  refine lv_istore_n (lv' := [(1, .int 0), (0, .ref (Z (0, 0, 0)))]) hx hb dX5_party_1 rfl hl (by decide) rfl (fun ls hl => ?_)
  have loop : ∀ (n i : Nat) (ls : Array Slot), 24 - i < n → i ≤ zs_np X.1 → lv_has ls 2 [(1, .int (nI i)), (0, .ref (Z (0, 0, 0)))] → W P0 l e0 (headSpec wsX5_party ({ frames := 2, cells := 1, slots := 2, locals := 32 } : Room)).room s m0 ([.ref (Z (0, 0, 0))] : List Value).toArray below meth c0 s.heap [] 0 0 (MQ below (va_Qi (fun r u => r = (zs_fparty X.1).1 ∧ zs_P g X Z ((zs_fparty X.1).2, X.2) u) (zk_B g z) (fun q => z ≤ q)) ([.ref (Z (0, 0, 0))] : List Value).toArray s 1 2 (fun q => z ≤ q)) (F0 m0 2 ls []) := by
    intro n
    induction n with
    | zero => intro i ls hn hi; have := hI.1.2.1; omega
    | succ n ih =>
      intro i ls hn hi hl
      have hNN := hI.1.2.1
      refine lv_iload_n hx hb dX5_party_2 rfl (lv_at hl 0 rfl) ?_
      refine lv_aload_n hx hb dX5_party_3 rfl (lv_at hl 1 rfl) ?_
      refine zk_get (ci := 5) (v := .ref (Z (1, 0, 0))) (C := RX5) (T := TX5) (N := 6) hx hb hts inw_wsX5_party_5 hown hK hH hO rfl 1 (by decide) (hts (.fieldLink RX5 16 "KegDeposits" "parties" "[LKegDeposits$Party;") (by decide +kernel)) rfl dX5_party_4 ?_
      refine zk_alen (v := 24) hx hb hK hH 2 hPA rfl rfl dX5_party_7 ?_
      refine lv_icmp_ge (tgt := 41) hx hb dX5_party_8 (by decide) (fun h_8 => ?_) (fun h_8 => ?_)
      · skip
        have hiN : i = 24 := by have := (nI_leI (a := 24) (b := i) (by decide) (by omega)).mp h_8; omega
        refine lv_bipush (v := (-2)) hx hb dX5_party_41 (by decide) ?_
        exact zk_zret hx hb hr hlocks (by first | rfl | decide) hH hS (by decide) (by decide) (zs_no hR (by unfold zs_fparty; exact if_neg (by omega))) dX5_party_43
      · skip
        have hiN : i < 24 := Nat.lt_of_not_le (fun q => h_8 ((nI_leI (a := 24) (b := i) (by decide) (by omega)).mpr q))
        refine lv_aload_n hx hb dX5_party_11 rfl (lv_at hl 1 rfl) ?_
        refine zk_get (ci := 5) (v := .ref (Z (1, 0, 0))) (C := RX5) (T := TX5) (N := 6) hx hb hts inw_wsX5_party_5 hown hK hH hO rfl 1 (by decide) (hts (.fieldLink RX5 16 "KegDeposits" "parties" "[LKegDeposits$Party;") (by decide +kernel)) rfl dX5_party_12 ?_
        refine lv_iload_n hx hb dX5_party_15 rfl (lv_at hl 0 rfl) ?_
        refine zk_aldP hx hb hK hH hPA (vp_in_nI hiN (by decide)) dX5_party_16 ?_
        by_cases hpi : i < zs_np X.1
        · skip
          refine zk_top (v' := .ref (Z (3, i, 0))) (zk_arr_some (f := (fun p => if p < zs_np X.1 then some (Z (3, p, 0)) else none)) (by omega) (if_pos hpi)) ?_
          refine lv_ifnonnull (tgt := 35) hx hb dX5_party_17 (by decide) ?_
          refine lv_iinc (v := nI (i + 1)) (lv' := [(1, .int (nI (i + 1))), (0, .ref (Z (0, 0, 0)))]) hx hb dX5_party_35 hl (k := 0) rfl (nI_1 i) (by decide) rfl (fun ls hl => ?_)
          refine lv_goto (tgt := 2) hx hb dX5_party_38 (by decide) ?_
          exact ih (i + 1) ls (by omega) (by omega) (lv_sub hl [0, 1] rfl)
        · skip
          refine zk_top (v' := .null) (zk_arr_none (f := (fun p => if p < zs_np X.1 then some (Z (3, p, 0)) else none)) (by omega) (if_neg hpi)) ?_
          have hin : i = zs_np X.1 := by omega
          subst hin
          refine lv_ifnonnullN hx hb dX5_party_17 ?_
          refine lv_aload_n hx hb dX5_party_20 rfl (lv_at hl 1 rfl) ?_
          refine zk_get (ci := 5) (v := .ref (Z (1, 0, 0))) (C := RX5) (T := TX5) (N := 6) hx hb hts inw_wsX5_party_5 hown hK hH hO rfl 1 (by decide) (hts (.fieldLink RX5 16 "KegDeposits" "parties" "[LKegDeposits$Party;") (by decide +kernel)) rfl dX5_party_21 ?_
          refine lv_iload_n hx hb dX5_party_24 rfl (lv_at hl 0 rfl) ?_
          refine zk_new (ci := 2) (fs := [.null, .null]) (C := RX2) (T := TX2) (N := 2) hx hb hts inw_wsX5_party_2 tyX2 tyX2_ok hown (hts (.classLink RX5 7 RX2) (by decide +kernel)) (hts (.instantiable RX2 2) (by decide +kernel)) (hts (.initialized RX2) (by decide +kernel)) hK hH hS rfl (fun j hj => by rcases (show j = 0 ∨ j = 1 by omega) with rfl | rfl <;> rfl) (Nat.le_of_ble_eq_true rfl) (Nat.le_of_ble_eq_true rfl) dX5_party_25 (fun q_25 H hf_25 hH hS => ?_)
          obtain ⟨M_25, eM_25⟩ : ∃ w_0 : zk_M, w_0 = zk_up M q_25 (.inr (2, [.null, .null])) := ⟨_, rfl⟩
          have hH : zk_H g z M_25 H := by rw [eM_25]; exact hH
          have f_25_0 : M_25 (Z (0, 0, 0)) = some (.inr (5, [.ref (Z (3, 0, 0)), .ref (Z (1, 0, 0)), .ref (Z (2, 0, 0)), va_rf (zs_prev (zs_nc X.1) (fun i => Z (7, i, 0))), .int (nI (zs_nc X.1)), .long (zs_ck X.1)])) := by rw [eM_25, zk_up_n _ _ (zk_ne_none hO hf_25)]; exact hO
          have f_25_1 : M_25 (Z (1, 0, 0)) = some (zk_aP g 24 (fun p => if p < zs_np X.1 then some (Z (3, p, 0)) else none)) := by rw [eM_25, zk_up_n _ _ (zk_ne_none hPA hf_25)]; exact hPA
          have e_25 : M_25 q_25 = some (.inr (2, [.null, .null])) := by rw [eM_25]; exact zk_up_s _ _ _
          refine lv_dup hx hb dX5_party_28 rfl ?_
          refine zk_callv (va_runIN (As := []) (rest := [.ref q_25, .int (nI (zs_np X.1)), .ref (Z (1, 0, 0))]) ⟨hx, hb, hml, hown, hts⟩ (zc_X2_init l e_25) ⟨va_cnB 0 hts ggX5_party_X2_init rfl rfl rfl (zk_nm_0 hN) (hts (.initialized RX2) (by decide +kernel)) (by decide +kernel) ⟨Nat.le_of_ble_eq_true rfl, Nat.le_of_ble_eq_true rfl⟩, rfl, (hts (.instanceMethod yX2_init) (by decide +kernel))⟩ (zk_preS hH hK hN) rfl rfl hl.1 rfl (lv_room (Nat.le_of_ble_eq_true rfl)) dX5_party_29 ⟨(Nat.le_of_ble_eq_true rfl), (Nat.le_of_ble_eq_true rfl)⟩) hS (fun u_29 H locs hH hr_29 hS => ?_)
          have f_29 : u_29 (Z (1, 0, 0)) = some (zk_aP g 24 (fun p => if p < zs_np X.1 then some (Z (3, p, 0)) else none)) := (hr_29.2 _ (zk_ne_none hPA hf_25)).trans (by rw [eM_25, zk_up_n _ _ (zk_ne_none hPA hf_25)]; exact hPA)
          refine zk_astq hx hb hK hH hS 2 2 (r := (RX2, TX2, 2)) (f := (fun p => if p < zs_np X.1 then some (Z (3, p, 0)) else none)) f_29 rfl hr_29.1 rfl (vp_in_nI hiN (by decide)) dX5_party_32 (fun H locs hH hS => ?_)
          rw [show va_up (fun p => if p < zs_np X.1 then some (Z (3, p, 0)) else none) (Int32.toNatClampNeg (nI (zs_np X.1))) (some q_25) = (va_up (fun p => if p < zs_np X.1 then some (Z (3, p, 0)) else none) (zs_np X.1) (some q_25)) from by rw [nI_clamp (by omega)]] at hH
          obtain ⟨M_32, eM_32⟩ : ∃ w_0 : zk_M, w_0 = zk_up u_29 (Z (1, 0, 0)) (zk_aP g 24 (va_up (fun p => if p < zs_np X.1 then some (Z (3, p, 0)) else none) (zs_np X.1) (some q_25))) := ⟨_, rfl⟩
          have hH : zk_H g z M_32 H := by rw [eM_32]; exact hH
          have f_32_0 : M_32 q_25 = some (.inr (2, [.null, .null])) := by rw [eM_32, zk_up_n _ _ (zk_ne hr_29.1 f_29 (by simp))]; exact hr_29.1
          have e_32 : M_32 (Z (1, 0, 0)) = some (zk_aP g 24 (va_up (fun p => if p < zs_np X.1 then some (Z (3, p, 0)) else none) (zs_np X.1) (some q_25))) := by rw [eM_32]; exact zk_up_s _ _ _
          have f_32 := f_32_0
          refine lv_iload_n hx hb dX5_party_33 rfl (lv_at hl 0 rfl) ?_
          exact zk_zret hx hb hr hlocks (by first | rfl | decide) hH hS (by decide) (by decide) (zs_yes (by unfold zs_fparty; exact if_pos hiN) ⟨_, zs_R_party hR hI hf_25 (fun b h1 h2 => by rw [eM_32, zk_up_n _ _ h2, hr_29.2 b h1, eM_25, zk_up_n _ _ h1]) e_32 f_32, fun q hq => zs_Zup_n Z _ (fun e => absurd (e ▸ hq : zs_ok X (3, zs_np X.1, 0)).1 (Nat.lt_irrefl _))⟩) dX5_party_34
  exact loop 25 0 ls (by omega) (Nat.zero_le _) (lv_sub hl [0, 1] rfl)

theorem inw_wsX5_kind_0 : ∀ w ∈ u_ws RX0 TX0 3, w ∈ wsX5_kind := by decide +kernel
theorem inw_wsX5_kind_5 : ∀ w ∈ u_ws RX5 TX5 6, w ∈ wsX5_kind := by decide +kernel
set_option maxHeartbeats 4000000 in
set_option maxRecDepth 100000 in
theorem zc_X5_kind (l : Launch) {g : zk_G} {z : Nat} {M : zk_M} {X : zs_X} {Z : zs_Z} {n : Nat} (hR : zs_R g X Z M) (hI : zs_I X.1 n) : Met l yX5_kind wsX5_kind ({ frames := 2, cells := 1, slots := 3, locals := 32 } : Room) (va_Pc [.ref (Z (0, 0, 0))] (zk_U g z M)) (va_Qi (fun r u => r = (zs_fkind X.1).1 ∧ zs_P g X Z ((zs_fkind X.1).2, X.2) u) (zk_B g z) (fun q => z ≤ q)) 1 3 (fun q => z ≤ q) := by
  refine Met.ofW (cc := cX5_kind) (maxL := 2) (ret := (some .int)) (by decide) rfl ?_
  intro P0 e0 s m0 args below meth c0 s₁ B hml hv
  obtain ⟨rfl, hH, hK, hN⟩ := hv
  have hx := B.exec
  have hb := B.bytes
  have hr := B.returns
  have hts := atoms_spec (ws := wsX5_kind) B.pre
  have hown : s.vm.findClass RX5 = some m0.cls := findClass_of_methodNamed B.named
  have hlocks := B.notSynchronized
  have hS : va_S (fun q => z ≤ q) s.heap s.heap [] := va_S.rf
  have hl := lv_entry ([.ref (Z (0, 0, 0))]) (n := 2) (Nat.le_of_ble_eq_true rfl)
  rw [lg_entry_eq]
  generalize (lg_sl ([.ref (Z (0, 0, 0))]) ++ List.replicate (2 - (lg_sl ([.ref (Z (0, 0, 0))])).length) Slot.unset).toArray = ls at hl ⊢
  have hl : lv_has ls 2 [(0, .ref (Z (0, 0, 0)))] := hl
  have hO : M (Z (0, 0, 0)) = some (.inr (5, [.ref (Z (3, 0, 0)), .ref (Z (1, 0, 0)), .ref (Z (2, 0, 0)), va_rf (zs_prev (zs_nc X.1) (fun i => Z (7, i, 0))), .int (nI (zs_nc X.1)), .long (zs_ck X.1)])) := hR.1 (0, 0, 0) ⟨rfl, rfl⟩
  have hKA : M (Z (2, 0, 0)) = some (zk_aQ g 12 (fun k => if k < zs_nk X.1 then some (Z (4, k, 0)) else none)) := hR.1 (2, 0, 0) ⟨rfl, rfl⟩
  refine lv_iconst (v := 0) hx hb dX5_kind_0 (by decide) ?_
  refine lv_istore_n (lv' := [(1, .int 0), (0, .ref (Z (0, 0, 0)))]) hx hb dX5_kind_1 rfl hl (by decide) rfl (fun ls hl => ?_)
  have loop : ∀ (n i : Nat) (ls : Array Slot), 12 - i < n → i ≤ zs_nk X.1 → lv_has ls 2 [(1, .int (nI i)), (0, .ref (Z (0, 0, 0)))] → W P0 l e0 (headSpec wsX5_kind ({ frames := 2, cells := 1, slots := 3, locals := 32 } : Room)).room s m0 ([.ref (Z (0, 0, 0))] : List Value).toArray below meth c0 s.heap [] 0 0 (MQ below (va_Qi (fun r u => r = (zs_fkind X.1).1 ∧ zs_P g X Z ((zs_fkind X.1).2, X.2) u) (zk_B g z) (fun q => z ≤ q)) ([.ref (Z (0, 0, 0))] : List Value).toArray s 1 3 (fun q => z ≤ q)) (F0 m0 2 ls []) := by
    intro n
    induction n with
    | zero => intro i ls hn hi; have := hI.1.2.2.1; omega
    | succ n ih =>
      intro i ls hn hi hl
      have hNN := hI.1.2.2.1
      refine lv_iload_n hx hb dX5_kind_2 rfl (lv_at hl 0 rfl) ?_
      refine lv_aload_n hx hb dX5_kind_3 rfl (lv_at hl 1 rfl) ?_
      refine zk_get (ci := 5) (v := .ref (Z (2, 0, 0))) (C := RX5) (T := TX5) (N := 6) hx hb hts inw_wsX5_kind_5 hown hK hH hO rfl 2 (by decide) (hts (.fieldLink RX5 22 "KegDeposits" "kinds" "[LKegDeposits$Kind;") (by decide +kernel)) rfl dX5_kind_4 ?_
      refine zk_alen (v := 12) hx hb hK hH 3 hKA rfl rfl dX5_kind_7 ?_
      refine lv_icmp_ge (tgt := 41) hx hb dX5_kind_8 (by decide) (fun h_8 => ?_) (fun h_8 => ?_)
      · skip
        have hiN : i = 12 := by have := (nI_leI (a := 12) (b := i) (by decide) (by omega)).mp h_8; omega
        refine lv_bipush (v := (-2)) hx hb dX5_kind_41 (by decide) ?_
        exact zk_zret hx hb hr hlocks (by first | rfl | decide) hH hS (by decide) (by decide) (zs_no hR (by unfold zs_fkind; exact if_neg (by omega))) dX5_kind_43
      · skip
        have hiN : i < 12 := Nat.lt_of_not_le (fun q => h_8 ((nI_leI (a := 12) (b := i) (by decide) (by omega)).mpr q))
        refine lv_aload_n hx hb dX5_kind_11 rfl (lv_at hl 1 rfl) ?_
        refine zk_get (ci := 5) (v := .ref (Z (2, 0, 0))) (C := RX5) (T := TX5) (N := 6) hx hb hts inw_wsX5_kind_5 hown hK hH hO rfl 2 (by decide) (hts (.fieldLink RX5 22 "KegDeposits" "kinds" "[LKegDeposits$Kind;") (by decide +kernel)) rfl dX5_kind_12 ?_
        refine lv_iload_n hx hb dX5_kind_15 rfl (lv_at hl 0 rfl) ?_
        refine zk_aldQ hx hb hK hH hKA (vp_in_nI hiN (by decide)) dX5_kind_16 ?_
        by_cases hpi : i < zs_nk X.1
        · skip
          refine zk_top (v' := .ref (Z (4, i, 0))) (zk_arr_some (f := (fun k => if k < zs_nk X.1 then some (Z (4, k, 0)) else none)) (by omega) (if_pos hpi)) ?_
          refine lv_ifnonnull (tgt := 35) hx hb dX5_kind_17 (by decide) ?_
          refine lv_iinc (v := nI (i + 1)) (lv' := [(1, .int (nI (i + 1))), (0, .ref (Z (0, 0, 0)))]) hx hb dX5_kind_35 hl (k := 0) rfl (nI_1 i) (by decide) rfl (fun ls hl => ?_)
          refine lv_goto (tgt := 2) hx hb dX5_kind_38 (by decide) ?_
          exact ih (i + 1) ls (by omega) (by omega) (lv_sub hl [0, 1] rfl)
        · skip
          refine zk_top (v' := .null) (zk_arr_none (f := (fun k => if k < zs_nk X.1 then some (Z (4, k, 0)) else none)) (by omega) (if_neg hpi)) ?_
          have hin : i = zs_nk X.1 := by omega
          subst hin
          refine lv_ifnonnullN hx hb dX5_kind_17 ?_
          refine lv_aload_n hx hb dX5_kind_20 rfl (lv_at hl 1 rfl) ?_
          refine zk_get (ci := 5) (v := .ref (Z (2, 0, 0))) (C := RX5) (T := TX5) (N := 6) hx hb hts inw_wsX5_kind_5 hown hK hH hO rfl 2 (by decide) (hts (.fieldLink RX5 22 "KegDeposits" "kinds" "[LKegDeposits$Kind;") (by decide +kernel)) rfl dX5_kind_21 ?_
          refine lv_iload_n hx hb dX5_kind_24 rfl (lv_at hl 0 rfl) ?_
          refine zk_new (ci := 0) (fs := [.null, .long 0, .long 0]) (C := RX0) (T := TX0) (N := 3) hx hb hts inw_wsX5_kind_0 tyX0 tyX0_ok hown (hts (.classLink RX5 20 RX0) (by decide +kernel)) (hts (.instantiable RX0 3) (by decide +kernel)) (hts (.initialized RX0) (by decide +kernel)) hK hH hS rfl (fun j hj => by rcases (show j = 0 ∨ j = 1 ∨ j = 2 by omega) with rfl | rfl | rfl <;> rfl) (Nat.le_of_ble_eq_true rfl) (Nat.le_of_ble_eq_true rfl) dX5_kind_25 (fun q_25 H hf_25 hH hS => ?_)
          obtain ⟨M_25, eM_25⟩ : ∃ w_0 : zk_M, w_0 = zk_up M q_25 (.inr (0, [.null, .long 0, .long 0])) := ⟨_, rfl⟩
          have hH : zk_H g z M_25 H := by rw [eM_25]; exact hH
          have f_25_0 : M_25 (Z (0, 0, 0)) = some (.inr (5, [.ref (Z (3, 0, 0)), .ref (Z (1, 0, 0)), .ref (Z (2, 0, 0)), va_rf (zs_prev (zs_nc X.1) (fun i => Z (7, i, 0))), .int (nI (zs_nc X.1)), .long (zs_ck X.1)])) := by rw [eM_25, zk_up_n _ _ (zk_ne_none hO hf_25)]; exact hO
          have f_25_1 : M_25 (Z (2, 0, 0)) = some (zk_aQ g 12 (fun k => if k < zs_nk X.1 then some (Z (4, k, 0)) else none)) := by rw [eM_25, zk_up_n _ _ (zk_ne_none hKA hf_25)]; exact hKA
          have e_25 : M_25 q_25 = some (.inr (0, [.null, .long 0, .long 0])) := by rw [eM_25]; exact zk_up_s _ _ _
          refine lv_dup hx hb dX5_kind_28 rfl ?_
          refine zk_callv (va_runIN (As := []) (rest := [.ref q_25, .int (nI (zs_nk X.1)), .ref (Z (2, 0, 0))]) ⟨hx, hb, hml, hown, hts⟩ (zc_X0_init l e_25) ⟨va_cnB 0 hts ggX5_kind_X0_init rfl rfl rfl (zk_nm_1 hN) (hts (.initialized RX0) (by decide +kernel)) (by decide +kernel) ⟨Nat.le_of_ble_eq_true rfl, Nat.le_of_ble_eq_true rfl⟩, rfl, (hts (.instanceMethod yX0_init) (by decide +kernel))⟩ (zk_preS hH hK hN) rfl rfl hl.1 rfl (lv_room (Nat.le_of_ble_eq_true rfl)) dX5_kind_29 ⟨(Nat.le_of_ble_eq_true rfl), (Nat.le_of_ble_eq_true rfl)⟩) hS (fun u_29 H locs hH hr_29 hS => ?_)
          have f_29 : u_29 (Z (2, 0, 0)) = some (zk_aQ g 12 (fun k => if k < zs_nk X.1 then some (Z (4, k, 0)) else none)) := (hr_29.2 _ (zk_ne_none hKA hf_25)).trans (by rw [eM_25, zk_up_n _ _ (zk_ne_none hKA hf_25)]; exact hKA)
          refine zk_astq hx hb hK hH hS 3 0 (r := (RX0, TX0, 3)) (f := (fun k => if k < zs_nk X.1 then some (Z (4, k, 0)) else none)) f_29 rfl hr_29.1 rfl (vp_in_nI hiN (by decide)) dX5_kind_32 (fun H locs hH hS => ?_)
          rw [show va_up (fun k => if k < zs_nk X.1 then some (Z (4, k, 0)) else none) (Int32.toNatClampNeg (nI (zs_nk X.1))) (some q_25) = (va_up (fun k => if k < zs_nk X.1 then some (Z (4, k, 0)) else none) (zs_nk X.1) (some q_25)) from by rw [nI_clamp (by omega)]] at hH
          obtain ⟨M_32, eM_32⟩ : ∃ w_0 : zk_M, w_0 = zk_up u_29 (Z (2, 0, 0)) (zk_aQ g 12 (va_up (fun k => if k < zs_nk X.1 then some (Z (4, k, 0)) else none) (zs_nk X.1) (some q_25))) := ⟨_, rfl⟩
          have hH : zk_H g z M_32 H := by rw [eM_32]; exact hH
          have f_32_0 : M_32 q_25 = some (.inr (0, [.null, .long 0, .long 0])) := by rw [eM_32, zk_up_n _ _ (zk_ne hr_29.1 f_29 (by simp))]; exact hr_29.1
          have e_32 : M_32 (Z (2, 0, 0)) = some (zk_aQ g 12 (va_up (fun k => if k < zs_nk X.1 then some (Z (4, k, 0)) else none) (zs_nk X.1) (some q_25))) := by rw [eM_32]; exact zk_up_s _ _ _
          have f_32 := f_32_0
          refine lv_iload_n hx hb dX5_kind_33 rfl (lv_at hl 0 rfl) ?_
          exact zk_zret hx hb hr hlocks (by first | rfl | decide) hH hS (by decide) (by decide) (zs_yes (by unfold zs_fkind; exact if_pos hiN) ⟨_, zs_R_kind hR hI hf_25 (fun b h1 h2 => by rw [eM_32, zk_up_n _ _ h2, hr_29.2 b h1, eM_25, zk_up_n _ _ h1]) e_32 f_32, fun q hq => zs_Zup_n Z _ (fun e => absurd (e ▸ hq : zs_ok X (4, zs_nk X.1, 0)).1 (Nat.lt_irrefl _))⟩) dX5_kind_34
  exact loop 13 0 ls (by omega) (Nat.zero_le _) (lv_sub hl [0, 1] rfl)
