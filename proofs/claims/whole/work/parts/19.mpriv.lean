theorem zs_take_at {S : zs_S} {p k : Nat} {n : Int64} {i : Nat} {f : Nat → Int64} {lf wo a : Int64} (hA : (if f i < lf then f i else lf) = a) (e : (f, lf, wo) = zs_take S p k n i) (h : zs_lp S i = p ∧ zs_lk S i = k) : (vp_updL f i (f i - a), lf - a, wo + a * zs_lc S i) = zs_take S p k n (i + 1) := by
  subst hA
  exact (zs_take_pos e.symm h).symm

theorem inw_wsX6_isParty_6 : ∀ w ∈ u_ws RX6 TX6 20, w ∈ wsX6_isParty := by decide +kernel
set_option maxHeartbeats 4000000 in
set_option maxRecDepth 100000 in
theorem zc_X6_isParty (l : Launch) {g : zk_G} {z : Nat} {M : zk_M} {X : zs_X} {Z : zs_Z} (hR : zs_R g X Z M) (x : Int32) : Met l yX6_isParty wsX6_isParty ({ frames := 0, cells := 0, slots := 0, locals := 0 } : Room) (va_Pc [.ref (Z (8, 0, 0)), .int x] (zk_U g z M)) (vp_Si (fun r => r = if zs_ix (zs_np X.2.1) x = none then 0 else 1)) 0 0 (fun _ => False) := by
  refine Met.ofW (cc := cX6_isParty) (maxL := 2) (ret := (some .boolean)) (by decide) rfl ?_
  intro P0 e0 s m0 args below meth c0 s₁ B hml hv
  obtain ⟨rfl, hH, hK, hN⟩ := hv
  have hx := B.exec
  have hb := B.bytes
  have hr := B.returns
  have hts := atoms_spec (ws := wsX6_isParty) B.pre
  have hown : s.vm.findClass RX6 = some m0.cls := findClass_of_methodNamed B.named
  have hlocks := B.notSynchronized
  have hl := lv_entry ([.ref (Z (8, 0, 0)), .int x]) (n := 2) (Nat.le_of_ble_eq_true rfl)
  rw [lg_entry_eq]
  generalize (lg_sl ([.ref (Z (8, 0, 0)), .int x]) ++ List.replicate (2 - (lg_sl ([.ref (Z (8, 0, 0)), .int x])).length) Slot.unset).toArray = ls at hl ⊢
  have hl : lv_has ls 2 [(0, .ref (Z (8, 0, 0))), (1, .int x)] := hl
  refine lv_iload_n hx hb dX6_isParty_0 rfl (lv_at hl 1 rfl) ?_
  refine lv_if_lt (tgt := 16) hx hb dX6_isParty_1 (by decide) (fun h_1 => ?_) (fun h_1 => ?_)
  · skip
    refine lv_iconst (v := 0) hx hb dX6_isParty_16 (by decide) ?_
    exact zk_zretS hx hb hr hlocks (by first | rfl | decide) (by rw [zs_ix_neg h_1]; rfl) dX6_isParty_17
  · skip
    refine lv_iload_n hx hb dX6_isParty_4 rfl (lv_at hl 1 rfl) ?_
    refine lv_aload_n hx hb dX6_isParty_5 rfl (lv_at hl 0 rfl) ?_
    refine zk_get (ci := 6) (v := .int (nI (zs_np X.2.1))) (C := RX6) (T := TX6) (N := 20) hx hb hts inw_wsX6_isParty_6 hown hK hH (hR.1 (8, 0, 0) ⟨by decide, rfl⟩) rfl 0 (by decide) (hts (.fieldLink RX6 7 "KegDepositsModel" "parties" "I") (by decide +kernel)) rfl dX6_isParty_6 ?_
    refine lv_icmp_ge (tgt := 16) hx hb dX6_isParty_9 (by decide) (fun h_9 => ?_) (fun h_9 => ?_)
    · skip
      refine lv_iconst (v := 0) hx hb dX6_isParty_16 (by decide) ?_
      exact zk_zretS hx hb hr hlocks (by first | rfl | decide) (by rw [show zs_ix (zs_np X.2.1) x = none from if_neg (fun q => absurd q.2 (Int32.not_lt.mpr h_9))]; rfl) dX6_isParty_17
    · skip
      refine lv_iconst (v := 1) hx hb dX6_isParty_12 (by decide) ?_
      refine lv_goto (tgt := 17) hx hb dX6_isParty_13 (by decide) ?_
      exact zk_zretS hx hb hr hlocks (by first | rfl | decide) (by rw [show zs_ix (zs_np X.2.1) x = some x.toNatClampNeg from if_pos ⟨h_1, Int32.not_le.mp h_9⟩]; rfl) dX6_isParty_17

theorem inw_wsX6_isKind_6 : ∀ w ∈ u_ws RX6 TX6 20, w ∈ wsX6_isKind := by decide +kernel
set_option maxHeartbeats 4000000 in
set_option maxRecDepth 100000 in
theorem zc_X6_isKind (l : Launch) {g : zk_G} {z : Nat} {M : zk_M} {X : zs_X} {Z : zs_Z} (hR : zs_R g X Z M) (x : Int32) : Met l yX6_isKind wsX6_isKind ({ frames := 0, cells := 0, slots := 0, locals := 0 } : Room) (va_Pc [.ref (Z (8, 0, 0)), .int x] (zk_U g z M)) (vp_Si (fun r => r = if zs_ix (zs_nk X.2.1) x = none then 0 else 1)) 0 0 (fun _ => False) := by
  refine Met.ofW (cc := cX6_isKind) (maxL := 2) (ret := (some .boolean)) (by decide) rfl ?_
  intro P0 e0 s m0 args below meth c0 s₁ B hml hv
  obtain ⟨rfl, hH, hK, hN⟩ := hv
  have hx := B.exec
  have hb := B.bytes
  have hr := B.returns
  have hts := atoms_spec (ws := wsX6_isKind) B.pre
  have hown : s.vm.findClass RX6 = some m0.cls := findClass_of_methodNamed B.named
  have hlocks := B.notSynchronized
  have hl := lv_entry ([.ref (Z (8, 0, 0)), .int x]) (n := 2) (Nat.le_of_ble_eq_true rfl)
  rw [lg_entry_eq]
  generalize (lg_sl ([.ref (Z (8, 0, 0)), .int x]) ++ List.replicate (2 - (lg_sl ([.ref (Z (8, 0, 0)), .int x])).length) Slot.unset).toArray = ls at hl ⊢
  have hl : lv_has ls 2 [(0, .ref (Z (8, 0, 0))), (1, .int x)] := hl
  refine lv_iload_n hx hb dX6_isKind_0 rfl (lv_at hl 1 rfl) ?_
  refine lv_if_lt (tgt := 16) hx hb dX6_isKind_1 (by decide) (fun h_1 => ?_) (fun h_1 => ?_)
  · skip
    refine lv_iconst (v := 0) hx hb dX6_isKind_16 (by decide) ?_
    exact zk_zretS hx hb hr hlocks (by first | rfl | decide) (by rw [zs_ix_neg h_1]; rfl) dX6_isKind_17
  · skip
    refine lv_iload_n hx hb dX6_isKind_4 rfl (lv_at hl 1 rfl) ?_
    refine lv_aload_n hx hb dX6_isKind_5 rfl (lv_at hl 0 rfl) ?_
    refine zk_get (ci := 6) (v := .int (nI (zs_nk X.2.1))) (C := RX6) (T := TX6) (N := 20) hx hb hts inw_wsX6_isKind_6 hown hK hH (hR.1 (8, 0, 0) ⟨by decide, rfl⟩) rfl 1 (by decide) (hts (.fieldLink RX6 60 "KegDepositsModel" "kinds" "I") (by decide +kernel)) rfl dX6_isKind_6 ?_
    refine lv_icmp_ge (tgt := 16) hx hb dX6_isKind_9 (by decide) (fun h_9 => ?_) (fun h_9 => ?_)
    · skip
      refine lv_iconst (v := 0) hx hb dX6_isKind_16 (by decide) ?_
      exact zk_zretS hx hb hr hlocks (by first | rfl | decide) (by rw [show zs_ix (zs_nk X.2.1) x = none from if_neg (fun q => absurd q.2 (Int32.not_lt.mpr h_9))]; rfl) dX6_isKind_17
    · skip
      refine lv_iconst (v := 1) hx hb dX6_isKind_12 (by decide) ?_
      refine lv_goto (tgt := 17) hx hb dX6_isKind_13 (by decide) ?_
      exact zk_zretS hx hb hr hlocks (by first | rfl | decide) (by rw [show zs_ix (zs_nk X.2.1) x = some x.toNatClampNeg from if_pos ⟨h_1, Int32.not_le.mp h_9⟩]; rfl) dX6_isKind_17

set_option maxHeartbeats 4000000 in
set_option maxRecDepth 100000 in
theorem zc_X6_isDay (l : Launch) {g : zk_G} {z : Nat} {M : zk_M} (x : Int64) : Met l yX6_isDay wsX6_isDay ({ frames := 0, cells := 0, slots := 0, locals := 0 } : Room) (va_Pc [.long x] (zk_U g z M)) (vp_Si (fun r => r = if zs_isD x then 1 else 0)) 0 0 (fun _ => False) := by
  refine Met.ofW (cc := cX6_isDay) (maxL := 2) (ret := (some .boolean)) (by decide) rfl ?_
  intro P0 e0 s m0 args below meth c0 s₁ B hml hv
  obtain ⟨rfl, hH, hK, hN⟩ := hv
  have hx := B.exec
  have hb := B.bytes
  have hr := B.returns
  have hts := atoms_spec (ws := wsX6_isDay) B.pre
  have hown : s.vm.findClass RX6 = some m0.cls := findClass_of_methodNamed B.named
  have hlocks := B.notSynchronized
  have hl := lv_entry ([.long x]) (n := 2) (Nat.le_of_ble_eq_true rfl)
  rw [lg_entry_eq]
  generalize (lg_sl ([.long x]) ++ List.replicate (2 - (lg_sl ([.long x])).length) Slot.unset).toArray = ls at hl ⊢
  have hl : lv_has ls 2 [(0, .long x)] := hl
  refine lv_lload_n hx hb dX6_isDay_0 rfl (lv_at hl 0 rfl) ?_
  refine lv_lconst (v := 0) hx hb dX6_isDay_1 (by decide) ?_
  refine zk_lc_lt (tgt := 18) hx hb dX6_isDay_2 dX6_isDay_3 (by decide) (fun h_2 => ?_) (fun h_2 => ?_)
  · skip
    refine lv_iconst (v := 0) hx hb dX6_isDay_18 (by decide) ?_
    exact zk_zretS hx hb hr hlocks (by first | rfl | decide) (if_neg (fun q => absurd h_2 (Int64.not_lt.mpr q.1))).symm dX6_isDay_19
  · skip
    refine lv_lload_n hx hb dX6_isDay_6 rfl (lv_at hl 0 rfl) ?_
    refine lv_ldc2 (v := 100000) hx hb hown (hts (.constantLong RX6 63 (100000)) (by decide +kernel)) dX6_isDay_7 ?_
    refine zk_lc_gt (tgt := 18) hx hb dX6_isDay_10 dX6_isDay_11 (by decide) (fun h_10 => ?_) (fun h_10 => ?_)
    · skip
      refine lv_iconst (v := 0) hx hb dX6_isDay_18 (by decide) ?_
      exact zk_zretS hx hb hr hlocks (by first | rfl | decide) (if_neg (fun q => absurd h_10 (Int64.not_lt.mpr q.2))).symm dX6_isDay_19
    · skip
      refine lv_iconst (v := 1) hx hb dX6_isDay_14 (by decide) ?_
      refine lv_goto (tgt := 19) hx hb dX6_isDay_15 (by decide) ?_
      exact zk_zretS hx hb hr hlocks (by first | rfl | decide) (if_pos ⟨Int64.not_lt.mp h_2, Int64.not_lt.mp h_10⟩).symm dX6_isDay_19

theorem inw_wsX6_mayCome_6 : ∀ w ∈ u_ws RX6 TX6 20, w ∈ wsX6_mayCome := by decide +kernel
set_option maxHeartbeats 4000000 in
set_option maxRecDepth 100000 in
theorem zc_X6_mayCome (l : Launch) {g : zk_G} {z : Nat} {M : zk_M} {X : zs_X} {Z : zs_Z} (hR : zs_R g X Z M) (hnp : zs_np X.2.1 ≤ 24) (x : Int32) (num d : Int64) : Met l yX6_mayCome wsX6_mayCome ({ frames := 1, cells := 0, slots := 0, locals := 21 } : Room) (va_Pc [.ref (Z (8, 0, 0)), .int x, .long num, .long d] (zk_U g z M)) (vp_Si (fun r => r = if zs_mc X.2.1 x num d then 1 else 0)) 0 0 (fun _ => False) := by
  refine Met.ofW (cc := cX6_mayCome) (maxL := 6) (ret := (some .boolean)) (by decide) rfl ?_
  intro P0 e0 s m0 args below meth c0 s₁ B hml hv
  obtain ⟨rfl, hH, hK, hN⟩ := hv
  have hx := B.exec
  have hb := B.bytes
  have hr := B.returns
  have hts := atoms_spec (ws := wsX6_mayCome) B.pre
  have hown : s.vm.findClass RX6 = some m0.cls := findClass_of_methodNamed B.named
  have hlocks := B.notSynchronized
  have hl := lv_entry ([.ref (Z (8, 0, 0)), .int x, .long num, .long d]) (n := 6) (Nat.le_of_ble_eq_true rfl)
  rw [lg_entry_eq]
  generalize (lg_sl ([.ref (Z (8, 0, 0)), .int x, .long num, .long d]) ++ List.replicate (6 - (lg_sl ([.ref (Z (8, 0, 0)), .int x, .long num, .long d])).length) Slot.unset).toArray = ls at hl ⊢
  have hl : lv_has ls 6 [(0, .ref (Z (8, 0, 0))), (1, .int x), (2, .long num), (4, .long d)] := hl
  refine lv_aload_n hx hb dX6_mayCome_0 rfl (lv_at hl 0 rfl) ?_
  refine lv_iload_n hx hb dX6_mayCome_1 rfl (lv_at hl 1 rfl) ?_
  refine vp_callSi (W.runV (As := [.int x]) (rest := []) ⟨hx, hb, hml, hown, hts⟩ (zc_X6_isParty l hR x) (cwV 1 hts gX6_mayCome_X6_isParty rfl rfl rfl (by decide +kernel) ⟨Nat.le_of_ble_eq_true rfl, Nat.le_of_ble_eq_true rfl⟩) (zk_preV hH hK hN (hR.1 (8, 0, 0) ⟨by decide, rfl⟩) rfl) rfl rfl hl.1 rfl (lv_room (Nat.le_of_ble_eq_true rfl)) dX6_mayCome_2 ⟨(Nat.le_of_ble_eq_true rfl), (Nat.le_of_ble_eq_true rfl)⟩) (fun r_2 hr_2 => ?_)
  refine lv_if_eq (tgt := 48) hx hb dX6_mayCome_5 (by decide) (fun h_5 => ?_) (fun h_5 => ?_)
  · skip
    have hix : zs_ix (zs_np X.2.1) x = none := Decidable.byContradiction (fun q => by rw [hr_2, if_neg q] at h_5; exact absurd h_5 (by decide))
    refine lv_iconst (v := 0) hx hb dX6_mayCome_48 (by decide) ?_
    exact zk_zretS hx hb hr hlocks (by first | rfl | decide) (if_neg (fun q => q.1 (zs_cx_none hix))).symm dX6_mayCome_49
  · skip
    have hix : zs_ix (zs_np X.2.1) x ≠ none := fun q => h_5 (by rw [hr_2, if_pos q])
    refine lv_iload_n hx hb dX6_mayCome_8 rfl (lv_at hl 1 rfl) ?_
    refine lv_if_le (tgt := 48) hx hb dX6_mayCome_9 (by decide) (fun h_9 => ?_) (fun h_9 => ?_)
    · skip
      have hx0 : x = 0 := by
        cases he : zs_ix (zs_np X.2.1) x with
        | none => exact absurd he hix
        | some j =>
          obtain ⟨j1, j2⟩ := zs_ix_some (by omega) he
          rw [j2] at h_9 ⊢
          have := (nI_leI (a := j) (b := 0) (by omega) (by decide)).mp h_9
          rw [show j = 0 by omega]; rfl
      refine lv_iconst (v := 0) hx hb dX6_mayCome_48 (by decide) ?_
      exact zk_zretS hx hb hr hlocks (by first | rfl | decide) (if_neg (fun q => q.1 (if_pos hx0))).symm dX6_mayCome_49
    · skip
      have hx0 : ¬ x = 0 := fun q => h_9 (by rw [q]; decide)
      refine lv_lload_n hx hb dX6_mayCome_12 rfl (lv_at hl 2 rfl) ?_
      refine lv_lconst (v := 1) hx hb dX6_mayCome_13 (by decide) ?_
      refine zk_lc_lt (tgt := 48) hx hb dX6_mayCome_14 dX6_mayCome_15 (by decide) (fun h_14 => ?_) (fun h_14 => ?_)
      · skip
        refine lv_iconst (v := 0) hx hb dX6_mayCome_48 (by decide) ?_
        exact zk_zretS hx hb hr hlocks (by first | rfl | decide) (if_neg (fun q => absurd h_14 (Int64.not_lt.mpr q.2.1.1))).symm dX6_mayCome_49
      · skip
        refine lv_lload_n hx hb dX6_mayCome_18 rfl (lv_at hl 2 rfl) ?_
        refine lv_ldc2 (v := 100000) hx hb hown (hts (.constantLong RX6 63 (100000)) (by decide +kernel)) dX6_mayCome_19 ?_
        refine zk_lc_gt (tgt := 48) hx hb dX6_mayCome_22 dX6_mayCome_23 (by decide) (fun h_22 => ?_) (fun h_22 => ?_)
        · skip
          refine lv_iconst (v := 0) hx hb dX6_mayCome_48 (by decide) ?_
          exact zk_zretS hx hb hr hlocks (by first | rfl | decide) (if_neg (fun q => absurd h_22 (Int64.not_lt.mpr q.2.1.2))).symm dX6_mayCome_49
        · skip
          refine lv_lload hx hb dX6_mayCome_26 (lv_at hl 3 rfl) ?_
          refine vp_callSi (W.runS (As := [.long d]) (rest := []) ⟨hx, hb, hml, hown, hts⟩ (zc_X6_isDay l d) (va_cwS 1 hts gX6_mayCome_X6_isDay rfl rfl rfl (by decide +kernel) ⟨Nat.le_of_ble_eq_true rfl, Nat.le_of_ble_eq_true rfl⟩) (zk_preS hH hK hN) rfl rfl hl.1 rfl (lv_room (Nat.le_of_ble_eq_true rfl)) dX6_mayCome_28 ⟨(Nat.le_of_ble_eq_true rfl), (Nat.le_of_ble_eq_true rfl)⟩) (fun r_28 hr_28 => ?_)
          refine lv_if_eq (tgt := 48) hx hb dX6_mayCome_31 (by decide) (fun h_31 => ?_) (fun h_31 => ?_)
          · skip
            have hd : ¬ zs_isD d := zs_b0 hr_28 h_31
            refine lv_iconst (v := 0) hx hb dX6_mayCome_48 (by decide) ?_
            exact zk_zretS hx hb hr hlocks (by first | rfl | decide) (if_neg (fun q => hd q.2.2.1)).symm dX6_mayCome_49
          · skip
            have hd : zs_isD d := zs_b1 hr_28 h_31
            refine lv_lload hx hb dX6_mayCome_34 (lv_at hl 3 rfl) ?_
            refine lv_aload_n hx hb dX6_mayCome_36 rfl (lv_at hl 0 rfl) ?_
            refine zk_get (ci := 6) (v := .long (zs_ck X.2.1)) (C := RX6) (T := TX6) (N := 20) hx hb hts inw_wsX6_mayCome_6 hown hK hH (hR.1 (8, 0, 0) ⟨by decide, rfl⟩) rfl 2 (by decide) (hts (.fieldLink RX6 81 "KegDepositsModel" "clock" "J") (by decide +kernel)) rfl dX6_mayCome_37 ?_
            refine zk_lc_lt (tgt := 48) hx hb dX6_mayCome_40 dX6_mayCome_41 (by decide) (fun h_40 => ?_) (fun h_40 => ?_)
            · skip
              refine lv_iconst (v := 0) hx hb dX6_mayCome_48 (by decide) ?_
              exact zk_zretS hx hb hr hlocks (by first | rfl | decide) (if_neg (fun q => absurd h_40 (Int64.not_lt.mpr q.2.2.2))).symm dX6_mayCome_49
            · skip
              refine lv_iconst (v := 1) hx hb dX6_mayCome_44 (by decide) ?_
              refine lv_goto (tgt := 49) hx hb dX6_mayCome_45 (by decide) ?_
              exact zk_zretS hx hb hr hlocks (by first | rfl | decide) (if_pos ⟨by unfold zs_cx; rw [if_neg hx0]; exact hix, ⟨Int64.not_lt.mp h_14, Int64.not_lt.mp h_22⟩, hd, Int64.not_lt.mp h_40⟩).symm dX6_mayCome_49

theorem inw_wsX6_priceOn_6 : ∀ w ∈ u_ws RX6 TX6 20, w ∈ wsX6_priceOn := by decide +kernel
set_option maxHeartbeats 4000000 in
set_option maxRecDepth 100000 in
theorem zc_X6_priceOn (l : Launch) {g : zk_G} {z : Nat} {M : zk_M} {X : zs_X} {Z : zs_Z} (hR : zs_R g X Z M) {k : Nat} (hk : k < 12) (hpn : zs_pn X.2.1 k ≤ 20) (d : Int64) : Met l yX6_priceOn wsX6_priceOn ({ frames := 0, cells := 0, slots := 0, locals := 0 } : Room) (va_Pc [.ref (Z (8, 0, 0)), .int (nI k), .long d] (zk_U g z M)) (vp_Sl (fun r => r = zs_pr X.2.1 k d)) 0 0 (fun _ => False) := by
  refine Met.ofW (cc := cX6_priceOn) (maxL := 11) (ret := (some .long)) (by decide) rfl ?_
  intro P0 e0 s m0 args below meth c0 s₁ B hml hv
  obtain ⟨rfl, hH, hK, hN⟩ := hv
  have hx := B.exec
  have hb := B.bytes
  have hr := B.returns
  have hts := atoms_spec (ws := wsX6_priceOn) B.pre
  have hown : s.vm.findClass RX6 = some m0.cls := findClass_of_methodNamed B.named
  have hlocks := B.notSynchronized
  have hl := lv_entry ([.ref (Z (8, 0, 0)), .int (nI k), .long d]) (n := 11) (Nat.le_of_ble_eq_true rfl)
  rw [lg_entry_eq]
  generalize (lg_sl ([.ref (Z (8, 0, 0)), .int (nI k), .long d]) ++ List.replicate (11 - (lg_sl ([.ref (Z (8, 0, 0)), .int (nI k), .long d])).length) Slot.unset).toArray = ls at hl ⊢
  have hl : lv_has ls 11 [(0, .ref (Z (8, 0, 0))), (1, .int (nI k)), (2, .long d)] := hl
  refine lv_ldc2 (v := (-1)) hx hb hown (hts (.constantLong RX6 73 (-1)) (by decide +kernel)) dX6_priceOn_0 ?_
  refine lv_lstore (lv' := [(4, .long (-1)), (0, .ref (Z (8, 0, 0))), (1, .int (nI k)), (2, .long d)]) hx hb dX6_priceOn_3 hl (by decide) rfl (fun ls hl => ?_)
  refine lv_lconst (v := 0) hx hb dX6_priceOn_5 (by decide) ?_
  refine lv_lstore (lv' := [(6, .long 0), (4, .long (-1)), (0, .ref (Z (8, 0, 0))), (1, .int (nI k)), (2, .long d)]) hx hb dX6_priceOn_6 hl (by decide) rfl (fun ls hl => ?_)
  refine lv_iconst (v := 0) hx hb dX6_priceOn_8 (by decide) ?_
  refine lv_istore (lv' := [(8, .int 0), (6, .long 0), (4, .long (-1)), (0, .ref (Z (8, 0, 0))), (1, .int (nI k)), (2, .long d)]) hx hb dX6_priceOn_9 hl (by decide) rfl (fun ls hl => ?_)
  have loop_11 : ∀ (n i : Nat) (la : Int64) (ce : Int64) (ls : Array Slot), zs_pn X.2.1 k - i < n → i ≤ zs_pn X.2.1 k → (la, ce) = zs_po (fun j => zs_pd X.2.1 (20 * k + j)) (fun j => zs_pc X.2.1 (20 * k + j)) d i →  lv_has ls 11 [(8, .int (nI i)), (4, .long la), (6, .long ce), (0, .ref (Z (8, 0, 0))), (1, .int (nI k)), (2, .long d)] → W P0 l e0 (headSpec wsX6_priceOn ({ frames := 0, cells := 0, slots := 0, locals := 0 } : Room)).room s m0 ([.ref (Z (8, 0, 0)), .int (nI k), .long d] : List Value).toArray below meth c0 s.heap [] 0 0 (MQ below (vp_Sl (fun r => r = zs_pr X.2.1 k d)) ([.ref (Z (8, 0, 0)), .int (nI k), .long d] : List Value).toArray s 0 0 (fun _ => False)) (F0 m0 11 ls []) := by
    intro n
    induction n with
    | zero => intro i la ce ls hn hi; omega
    | succ n ih =>
      intro i la ce ls hn hi he hl
      refine lv_iload hx hb dX6_priceOn_11 (lv_at hl 0 rfl) ?_
      refine lv_aload_n hx hb dX6_priceOn_13 rfl (lv_at hl 3 rfl) ?_
      refine zk_get (ci := 6) (v := .ref (Z (8, 3, 0))) (C := RX6) (T := TX6) (N := 20) hx hb hts inw_wsX6_priceOn_6 hown hK hH (hR.1 (8, 0, 0) ⟨by decide, rfl⟩) rfl 5 (by decide) (hts (.fieldLink RX6 20 "KegDepositsModel" "prices" "[I") (by decide +kernel)) rfl dX6_priceOn_14 ?_
      refine lv_iload_n hx hb dX6_priceOn_17 rfl (lv_at hl 4 rfl) ?_
      refine zk_iald hx hb hK hH (hR.1 (8, 3, 0) ⟨by decide, rfl⟩) (vp_in_nI (hk) (by decide)) dX6_priceOn_18 ?_
      refine zk_top (v' := .int (nI (zs_pn X.2.1 k))) (zk_arr_i (f := fun i => nI (zs_pn X.2.1 i)) (i := k) (by omega)) ?_
      refine lv_icmp_ge (tgt := 75) hx hb dX6_priceOn_19 (by decide) (fun h_19 => ?_) (fun h_19 => ?_)
      · skip
        have hiN : i = zs_pn X.2.1 k := by have := (nI_leI (a := zs_pn X.2.1 k) (b := i) (by omega) (by omega)).mp h_19; omega
        refine lv_lload hx hb dX6_priceOn_75 (lv_at hl 2 rfl) ?_
        exact zk_lretS hx hb hr hlocks (by rw [hiN] at he; unfold zs_pr; rw [← he]) dX6_priceOn_77
      · skip
        have hiN : i < zs_pn X.2.1 k := Nat.lt_of_not_le (fun q => h_19 ((nI_leI (a := zs_pn X.2.1 k) (b := i) (by omega) (by omega)).mpr q))
        refine lv_aload_n hx hb dX6_priceOn_22 rfl (lv_at hl 3 rfl) ?_
        refine zk_get (ci := 6) (v := .ref (Z (8, 1, 0))) (C := RX6) (T := TX6) (N := 20) hx hb hts inw_wsX6_priceOn_6 hown hK hH (hR.1 (8, 0, 0) ⟨by decide, rfl⟩) rfl 3 (by decide) (hts (.fieldLink RX6 13 "KegDepositsModel" "priceDays" "[J") (by decide +kernel)) rfl dX6_priceOn_23 ?_
        refine lv_bipush (v := 20) hx hb dX6_priceOn_26 (by decide) ?_
        refine lv_iload_n hx hb dX6_priceOn_28 rfl (lv_at hl 4 rfl) ?_
        refine lv_imul hx hb dX6_priceOn_29 ?_
        refine lv_iload hx hb dX6_priceOn_30 (lv_at hl 0 rfl) ?_
        refine lv_iadd hx hb dX6_priceOn_32 ?_
        refine zk_top (v' := .int (nI (20 * k + i))) (by rw [zs_i20]) ?_
        refine zk_lald hx hb hK hH (hR.1 (8, 1, 0) ⟨by decide, rfl⟩) (vp_in_nI (show 20 * k + i < 240 by omega) (by decide)) dX6_priceOn_33 ?_
        refine zk_top (v' := .long (zs_pd X.2.1 (20 * k + i))) (zk_arr_l (f := zs_pd X.2.1) (i := 20 * k + i) (by omega)) ?_
        refine lv_lstore (lv' := [(9, .long (zs_pd X.2.1 (20 * k + i))), (8, .int (nI i)), (4, .long la), (6, .long ce), (0, .ref (Z (8, 0, 0))), (1, .int (nI k)), (2, .long d)]) hx hb dX6_priceOn_34 hl (by decide) rfl (fun ls hl => ?_)
        refine lv_lload hx hb dX6_priceOn_36 (lv_at hl 0 rfl) ?_
        refine lv_lload_n hx hb dX6_priceOn_38 rfl (lv_at hl 6 rfl) ?_
        refine zk_lc_gt (tgt := 69) hx hb dX6_priceOn_39 dX6_priceOn_40 (by decide) (fun h_39 => ?_) (fun h_39 => ?_)
        · skip
          refine lv_iinc (v := nI (i + 1)) (lv' := [(8, .int (nI (i + 1))), (9, .long (zs_pd X.2.1 (20 * k + i))), (4, .long la), (6, .long ce), (0, .ref (Z (8, 0, 0))), (1, .int (nI k)), (2, .long d)]) hx hb dX6_priceOn_69 hl (k := 1) rfl (nI_1 i) (by decide) rfl (fun ls hl => ?_)
          refine lv_goto (tgt := 11) hx hb dX6_priceOn_72 (by decide) ?_
          exact ih (i + 1) _ _ ls (by omega) (by omega) (by show _ = (if _ ∧ _ then _ else zs_po (fun j => zs_pd X.2.1 (20 * k + j)) (fun j => zs_pc X.2.1 (20 * k + j)) d i); rw [if_neg (fun q => absurd h_39 (Int64.not_lt.mpr q.1)), ← he]) (lv_sub hl [0, 2, 3, 4, 5, 6] rfl)
        · skip
          refine lv_lload hx hb dX6_priceOn_43 (lv_at hl 0 rfl) ?_
          refine lv_lload hx hb dX6_priceOn_45 (lv_at hl 2 rfl) ?_
          refine zk_lc_le (tgt := 69) hx hb dX6_priceOn_47 dX6_priceOn_48 (by decide) (fun h_47 => ?_) (fun h_47 => ?_)
          · skip
            refine lv_iinc (v := nI (i + 1)) (lv' := [(8, .int (nI (i + 1))), (9, .long (zs_pd X.2.1 (20 * k + i))), (4, .long la), (6, .long ce), (0, .ref (Z (8, 0, 0))), (1, .int (nI k)), (2, .long d)]) hx hb dX6_priceOn_69 hl (k := 1) rfl (nI_1 i) (by decide) rfl (fun ls hl => ?_)
            refine lv_goto (tgt := 11) hx hb dX6_priceOn_72 (by decide) ?_
            exact ih (i + 1) _ _ ls (by omega) (by omega) (by show _ = (if _ ∧ (zs_po (fun j => zs_pd X.2.1 (20 * k + j)) (fun j => zs_pc X.2.1 (20 * k + j)) d i).1 < _ then _ else zs_po (fun j => zs_pd X.2.1 (20 * k + j)) (fun j => zs_pc X.2.1 (20 * k + j)) d i); rw [if_neg (fun q => absurd (by rw [← he] at q; exact q.2) (Int64.not_lt.mpr h_47)), ← he]) (lv_sub hl [0, 2, 3, 4, 5, 6] rfl)
          · skip
            refine lv_lload hx hb dX6_priceOn_51 (lv_at hl 0 rfl) ?_
            refine lv_lstore (lv' := [(4, .long (zs_pd X.2.1 (20 * k + i))), (9, .long (zs_pd X.2.1 (20 * k + i))), (8, .int (nI i)), (6, .long ce), (0, .ref (Z (8, 0, 0))), (1, .int (nI k)), (2, .long d)]) hx hb dX6_priceOn_53 hl (by decide) rfl (fun ls hl => ?_)
            refine lv_aload_n hx hb dX6_priceOn_55 rfl (lv_at hl 4 rfl) ?_
            refine zk_get (ci := 6) (v := .ref (Z (8, 2, 0))) (C := RX6) (T := TX6) (N := 20) hx hb hts inw_wsX6_priceOn_6 hown hK hH (hR.1 (8, 0, 0) ⟨by decide, rfl⟩) rfl 4 (by decide) (hts (.fieldLink RX6 17 "KegDepositsModel" "priceCents" "[J") (by decide +kernel)) rfl dX6_priceOn_56 ?_
            refine lv_bipush (v := 20) hx hb dX6_priceOn_59 (by decide) ?_
            refine lv_iload_n hx hb dX6_priceOn_61 rfl (lv_at hl 5 rfl) ?_
            refine lv_imul hx hb dX6_priceOn_62 ?_
            refine lv_iload hx hb dX6_priceOn_63 (lv_at hl 2 rfl) ?_
            refine lv_iadd hx hb dX6_priceOn_65 ?_
            refine zk_top (v' := .int (nI (20 * k + i))) (by rw [zs_i20]) ?_
            refine zk_lald hx hb hK hH (hR.1 (8, 2, 0) ⟨by decide, rfl⟩) (vp_in_nI (show 20 * k + i < 240 by omega) (by decide)) dX6_priceOn_66 ?_
            refine zk_top (v' := .long (zs_pc X.2.1 (20 * k + i))) (zk_arr_l (f := zs_pc X.2.1) (i := 20 * k + i) (by omega)) ?_
            refine lv_lstore (lv' := [(6, .long (zs_pc X.2.1 (20 * k + i))), (4, .long (zs_pd X.2.1 (20 * k + i))), (9, .long (zs_pd X.2.1 (20 * k + i))), (8, .int (nI i)), (0, .ref (Z (8, 0, 0))), (1, .int (nI k)), (2, .long d)]) hx hb dX6_priceOn_67 hl (by decide) rfl (fun ls hl => ?_)
            refine lv_iinc (v := nI (i + 1)) (lv' := [(8, .int (nI (i + 1))), (6, .long (zs_pc X.2.1 (20 * k + i))), (4, .long (zs_pd X.2.1 (20 * k + i))), (9, .long (zs_pd X.2.1 (20 * k + i))), (0, .ref (Z (8, 0, 0))), (1, .int (nI k)), (2, .long d)]) hx hb dX6_priceOn_69 hl (k := 3) rfl (nI_1 i) (by decide) rfl (fun ls hl => ?_)
            refine lv_goto (tgt := 11) hx hb dX6_priceOn_72 (by decide) ?_
            exact ih (i + 1) _ _ ls (by omega) (by omega) (by show _ = (if _ ∧ (zs_po (fun j => zs_pd X.2.1 (20 * k + j)) (fun j => zs_pc X.2.1 (20 * k + j)) d i).1 < _ then _ else zs_po (fun j => zs_pd X.2.1 (20 * k + j)) (fun j => zs_pc X.2.1 (20 * k + j)) d i); rw [if_pos ⟨Int64.not_lt.mp h_39, by rw [← he]; exact Int64.not_le.mp h_47⟩]) (lv_sub hl [0, 2, 1, 4, 5, 6] rfl)
  exact loop_11 (zs_pn X.2.1 k + 1) 0 (-1) 0 ls (by omega) (Nat.zero_le _) rfl (lv_sub hl [0, 2, 1, 3, 4, 5] rfl)

theorem inw_wsX6_has_6 : ∀ w ∈ u_ws RX6 TX6 20, w ∈ wsX6_has := by decide +kernel
set_option maxHeartbeats 4000000 in
set_option maxRecDepth 100000 in
theorem zc_X6_has (l : Launch) {g : zk_G} {z : Nat} {M : zk_M} {X : zs_X} {Z : zs_Z} (hR : zs_R g X Z M) (hl1 : zs_nl X.2.1 ≤ 4100) (hbb : ∀ i, i < zs_nl X.2.1 → zs_lp X.2.1 i < 2 ^ 31 ∧ zs_lk X.2.1 i < 2 ^ 31) {p k : Nat} (hp : p < 2 ^ 31) (hk : k < 2 ^ 31) : Met l yX6_has wsX6_has ({ frames := 0, cells := 0, slots := 0, locals := 0 } : Room) (va_Pc [.ref (Z (8, 0, 0)), .int (nI p), .int (nI k)] (zk_U g z M)) (vp_Sl (fun r => r = zs_has X.2.1 p k)) 0 0 (fun _ => False) := by
  refine Met.ofW (cc := cX6_has) (maxL := 6) (ret := (some .long)) (by decide) rfl ?_
  intro P0 e0 s m0 args below meth c0 s₁ B hml hv
  obtain ⟨rfl, hH, hK, hN⟩ := hv
  have hx := B.exec
  have hb := B.bytes
  have hr := B.returns
  have hts := atoms_spec (ws := wsX6_has) B.pre
  have hown : s.vm.findClass RX6 = some m0.cls := findClass_of_methodNamed B.named
  have hlocks := B.notSynchronized
  have hl := lv_entry ([.ref (Z (8, 0, 0)), .int (nI p), .int (nI k)]) (n := 6) (Nat.le_of_ble_eq_true rfl)
  rw [lg_entry_eq]
  generalize (lg_sl ([.ref (Z (8, 0, 0)), .int (nI p), .int (nI k)]) ++ List.replicate (6 - (lg_sl ([.ref (Z (8, 0, 0)), .int (nI p), .int (nI k)])).length) Slot.unset).toArray = ls at hl ⊢
  have hl : lv_has ls 6 [(0, .ref (Z (8, 0, 0))), (1, .int (nI p)), (2, .int (nI k))] := hl
  refine lv_lconst (v := 0) hx hb dX6_has_0 (by decide) ?_
  refine lv_lstore_n (lv' := [(3, .long 0), (0, .ref (Z (8, 0, 0))), (1, .int (nI p)), (2, .int (nI k))]) hx hb dX6_has_1 rfl hl (by decide) rfl (fun ls hl => ?_)
  refine lv_iconst (v := 0) hx hb dX6_has_2 (by decide) ?_
  refine lv_istore (lv' := [(5, .int 0), (3, .long 0), (0, .ref (Z (8, 0, 0))), (1, .int (nI p)), (2, .int (nI k))]) hx hb dX6_has_3 hl (by decide) rfl (fun ls hl => ?_)
  have loop_5 : ∀ (n i : Nat) (acc : Int64) (ls : Array Slot), zs_nl X.2.1 - i < n → i ≤ zs_nl X.2.1 → acc = zs_sum (zs_hasf X.2.1 p k) i →  lv_has ls 6 [(5, .int (nI i)), (3, .long acc), (0, .ref (Z (8, 0, 0))), (1, .int (nI p)), (2, .int (nI k))] → W P0 l e0 (headSpec wsX6_has ({ frames := 0, cells := 0, slots := 0, locals := 0 } : Room)).room s m0 ([.ref (Z (8, 0, 0)), .int (nI p), .int (nI k)] : List Value).toArray below meth c0 s.heap [] 0 0 (MQ below (vp_Sl (fun r => r = zs_has X.2.1 p k)) ([.ref (Z (8, 0, 0)), .int (nI p), .int (nI k)] : List Value).toArray s 0 0 (fun _ => False)) (F0 m0 5 ls []) := by
    intro n
    induction n with
    | zero => intro i acc ls hn hi; omega
    | succ n ih =>
      intro i acc ls hn hi hacc hl
      refine lv_iload hx hb dX6_has_5 (lv_at hl 0 rfl) ?_
      refine lv_aload_n hx hb dX6_has_7 rfl (lv_at hl 2 rfl) ?_
      refine zk_get (ci := 6) (v := .int (nI (zs_nl X.2.1))) (C := RX6) (T := TX6) (N := 20) hx hb hts inw_wsX6_has_6 hown hK hH (hR.1 (8, 0, 0) ⟨by decide, rfl⟩) rfl 9 (by decide) (hts (.fieldLink RX6 89 "KegDepositsModel" "layers" "I") (by decide +kernel)) rfl dX6_has_8 ?_
      refine lv_icmp_ge (tgt := 56) hx hb dX6_has_11 (by decide) (fun h_11 => ?_) (fun h_11 => ?_)
      · skip
        have hiN : i = zs_nl X.2.1 := by have := (nI_leI (a := zs_nl X.2.1) (b := i) (by omega) (by omega)).mp h_11; omega
        refine lv_lload_n hx hb dX6_has_56 rfl (lv_at hl 1 rfl) ?_
        exact zk_lretS hx hb hr hlocks (by rw [hacc, hiN]; rfl) dX6_has_57
      · skip
        have hiN : i < zs_nl X.2.1 := Nat.lt_of_not_le (fun q => h_11 ((nI_leI (a := zs_nl X.2.1) (b := i) (by omega) (by omega)).mpr q))
        refine lv_lload_n hx hb dX6_has_14 rfl (lv_at hl 1 rfl) ?_
        refine lv_aload_n hx hb dX6_has_15 rfl (lv_at hl 2 rfl) ?_
        refine zk_get (ci := 6) (v := .ref (Z (8, 7, 0))) (C := RX6) (T := TX6) (N := 20) hx hb hts inw_wsX6_has_6 hown hK hH (hR.1 (8, 0, 0) ⟨by decide, rfl⟩) rfl 10 (by decide) (hts (.fieldLink RX6 33 "KegDepositsModel" "layerParty" "[I") (by decide +kernel)) rfl dX6_has_16 ?_
        refine lv_iload hx hb dX6_has_19 (lv_at hl 0 rfl) ?_
        refine zk_iald hx hb hK hH (hR.1 (8, 7, 0) ⟨by decide, rfl⟩) (vp_in_nI (show i < 4100 by omega) (by decide)) dX6_has_21 ?_
        refine zk_top (v' := .int (nI (zs_lp X.2.1 i))) (zk_arr_i (f := fun i => nI (zs_lp X.2.1 i)) (i := i) (by omega)) ?_
        refine lv_iload_n hx hb dX6_has_22 rfl (lv_at hl 3 rfl) ?_
        refine lv_icmp_ne (tgt := 47) hx hb dX6_has_23 (by decide) (fun h_23 => ?_) (fun h_23 => ?_)
        · skip
          have hpp : ¬ zs_lp X.2.1 i = p := fun q => h_23 (by rw [q])
          refine lv_lconst (v := 0) hx hb dX6_has_47 (by decide) ?_
          refine lv_ladd hx hb dX6_has_48 ?_
          refine lv_lstore_n (lv' := [(3, .long (acc + 0)), (5, .int (nI i)), (0, .ref (Z (8, 0, 0))), (1, .int (nI p)), (2, .int (nI k))]) hx hb dX6_has_49 rfl hl (by decide) rfl (fun ls hl => ?_)
          refine lv_iinc (v := nI (i + 1)) (lv' := [(5, .int (nI (i + 1))), (3, .long (acc + 0)), (0, .ref (Z (8, 0, 0))), (1, .int (nI p)), (2, .int (nI k))]) hx hb dX6_has_50 hl (k := 1) rfl (nI_1 i) (by decide) rfl (fun ls hl => ?_)
          refine lv_goto (tgt := 5) hx hb dX6_has_53 (by decide) ?_
          exact ih (i + 1) _ ls (by omega) (by omega) (by rw [hacc]; show _ = zs_sum (zs_hasf X.2.1 p k) i + zs_hasf X.2.1 p k i; rw [show zs_hasf X.2.1 p k i = 0 from if_neg (fun q => hpp q.1)]) (lv_sub hl [0, 1, 2, 3, 4] rfl)
        · skip
          have hpp : zs_lp X.2.1 i = p := (nI_eq (hbb i hiN).1 (by omega)).mp h_23
          refine lv_aload_n hx hb dX6_has_26 rfl (lv_at hl 2 rfl) ?_
          refine zk_get (ci := 6) (v := .ref (Z (8, 8, 0))) (C := RX6) (T := TX6) (N := 20) hx hb hts inw_wsX6_has_6 hown hK hH (hR.1 (8, 0, 0) ⟨by decide, rfl⟩) rfl 11 (by decide) (hts (.fieldLink RX6 36 "KegDepositsModel" "layerKind" "[I") (by decide +kernel)) rfl dX6_has_27 ?_
          refine lv_iload hx hb dX6_has_30 (lv_at hl 0 rfl) ?_
          refine zk_iald hx hb hK hH (hR.1 (8, 8, 0) ⟨by decide, rfl⟩) (vp_in_nI (show i < 4100 by omega) (by decide)) dX6_has_32 ?_
          refine zk_top (v' := .int (nI (zs_lk X.2.1 i))) (zk_arr_i (f := fun i => nI (zs_lk X.2.1 i)) (i := i) (by omega)) ?_
          refine lv_iload_n hx hb dX6_has_33 rfl (lv_at hl 4 rfl) ?_
          refine lv_icmp_ne (tgt := 47) hx hb dX6_has_34 (by decide) (fun h_34 => ?_) (fun h_34 => ?_)
          · skip
            have hkk : ¬ zs_lk X.2.1 i = k := fun q => h_34 (by rw [q])
            refine lv_lconst (v := 0) hx hb dX6_has_47 (by decide) ?_
            refine lv_ladd hx hb dX6_has_48 ?_
            refine lv_lstore_n (lv' := [(3, .long (acc + 0)), (5, .int (nI i)), (0, .ref (Z (8, 0, 0))), (1, .int (nI p)), (2, .int (nI k))]) hx hb dX6_has_49 rfl hl (by decide) rfl (fun ls hl => ?_)
            refine lv_iinc (v := nI (i + 1)) (lv' := [(5, .int (nI (i + 1))), (3, .long (acc + 0)), (0, .ref (Z (8, 0, 0))), (1, .int (nI p)), (2, .int (nI k))]) hx hb dX6_has_50 hl (k := 1) rfl (nI_1 i) (by decide) rfl (fun ls hl => ?_)
            refine lv_goto (tgt := 5) hx hb dX6_has_53 (by decide) ?_
            exact ih (i + 1) _ ls (by omega) (by omega) (by rw [hacc]; show _ = zs_sum (zs_hasf X.2.1 p k) i + zs_hasf X.2.1 p k i; rw [show zs_hasf X.2.1 p k i = 0 from if_neg (fun q => hkk q.2)]) (lv_sub hl [0, 1, 2, 3, 4] rfl)
          · skip
            have hkk : zs_lk X.2.1 i = k := (nI_eq (hbb i hiN).2 (by omega)).mp h_34
            refine lv_aload_n hx hb dX6_has_37 rfl (lv_at hl 2 rfl) ?_
            refine zk_get (ci := 6) (v := .ref (Z (8, 9, 0))) (C := RX6) (T := TX6) (N := 20) hx hb hts inw_wsX6_has_6 hown hK hH (hR.1 (8, 0, 0) ⟨by decide, rfl⟩) rfl 12 (by decide) (hts (.fieldLink RX6 39 "KegDepositsModel" "layerLeft" "[J") (by decide +kernel)) rfl dX6_has_38 ?_
            refine lv_iload hx hb dX6_has_41 (lv_at hl 0 rfl) ?_
            refine zk_lald hx hb hK hH (hR.1 (8, 9, 0) ⟨by decide, rfl⟩) (vp_in_nI (show i < 4100 by omega) (by decide)) dX6_has_43 ?_
            refine zk_top (v' := .long (zs_ll X.2.1 i)) (zk_arr_l (f := zs_ll X.2.1) (i := i) (by omega)) ?_
            refine lv_goto (tgt := 48) hx hb dX6_has_44 (by decide) ?_
            refine lv_ladd hx hb dX6_has_48 ?_
            refine lv_lstore_n (lv' := [(3, .long (acc + zs_ll X.2.1 i)), (5, .int (nI i)), (0, .ref (Z (8, 0, 0))), (1, .int (nI p)), (2, .int (nI k))]) hx hb dX6_has_49 rfl hl (by decide) rfl (fun ls hl => ?_)
            refine lv_iinc (v := nI (i + 1)) (lv' := [(5, .int (nI (i + 1))), (3, .long (acc + zs_ll X.2.1 i)), (0, .ref (Z (8, 0, 0))), (1, .int (nI p)), (2, .int (nI k))]) hx hb dX6_has_50 hl (k := 1) rfl (nI_1 i) (by decide) rfl (fun ls hl => ?_)
            refine lv_goto (tgt := 5) hx hb dX6_has_53 (by decide) ?_
            exact ih (i + 1) _ ls (by omega) (by omega) (by rw [hacc]; show _ = zs_sum (zs_hasf X.2.1 p k) i + zs_hasf X.2.1 p k i; rw [show zs_hasf X.2.1 p k i = zs_ll X.2.1 i from if_pos ⟨hpp, hkk⟩]) (lv_sub hl [0, 1, 2, 3, 4] rfl)
  exact loop_5 (zs_nl X.2.1 + 1) 0 0 ls (by omega) (Nat.zero_le _) rfl (lv_sub hl [0, 1, 2, 3, 4] rfl)

theorem inw_wsX6_take_6 : ∀ w ∈ u_ws RX6 TX6 20, w ∈ wsX6_take := by decide +kernel
set_option maxHeartbeats 4000000 in
set_option maxRecDepth 100000 in
theorem zc_X6_take (l : Launch) {g : zk_G} {z : Nat} {M : zk_M} {X : zs_X} {Z : zs_Z} (hR : zs_R g X Z M) (hl1 : zs_nl X.2.1 ≤ 4100) (hbb : ∀ i, i < zs_nl X.2.1 → zs_lp X.2.1 i < 2 ^ 31 ∧ zs_lk X.2.1 i < 2 ^ 31) {p k : Nat} (hp : p < 2 ^ 31) (hk : k < 2 ^ 31) (num : Int64) : Met l yX6_take wsX6_take ({ frames := 0, cells := 0, slots := 0, locals := 0 } : Room) (va_Pc [.ref (Z (8, 0, 0)), .int (nI p), .int (nI k), .long num] (zk_U g z M)) (va_Ql (fun r u => r = (zs_take X.2.1 p k num (zs_nl X.2.1)).2.2 ∧ zs_R g (X.1, zs_ll_ X.2.1 (zs_take X.2.1 p k num (zs_nl X.2.1)).1, X.2.2) Z u) (zk_B g z) (fun q => z ≤ q)) 0 0 (fun q => z ≤ q) := by
  refine Met.ofW (cc := cX6_take) (maxL := 12) (ret := (some .long)) (by decide) rfl ?_
  intro P0 e0 s m0 args below meth c0 s₁ B hml hv
  obtain ⟨rfl, hH, hK, hN⟩ := hv
  have hx := B.exec
  have hb := B.bytes
  have hr := B.returns
  have hts := atoms_spec (ws := wsX6_take) B.pre
  have hown : s.vm.findClass RX6 = some m0.cls := findClass_of_methodNamed B.named
  have hlocks := B.notSynchronized
  have hS : va_S (fun q => z ≤ q) s.heap s.heap [] := va_S.rf
  have hl := lv_entry ([.ref (Z (8, 0, 0)), .int (nI p), .int (nI k), .long num]) (n := 12) (Nat.le_of_ble_eq_true rfl)
  rw [lg_entry_eq]
  generalize (lg_sl ([.ref (Z (8, 0, 0)), .int (nI p), .int (nI k), .long num]) ++ List.replicate (12 - (lg_sl ([.ref (Z (8, 0, 0)), .int (nI p), .int (nI k), .long num])).length) Slot.unset).toArray = ls at hl ⊢
  have hl : lv_has ls 12 [(0, .ref (Z (8, 0, 0))), (1, .int (nI p)), (2, .int (nI k)), (3, .long num)] := hl
  refine lv_lload_n hx hb dX6_take_0 rfl (lv_at hl 3 rfl) ?_
  refine lv_lstore (lv' := [(5, .long num), (0, .ref (Z (8, 0, 0))), (1, .int (nI p)), (2, .int (nI k)), (3, .long num)]) hx hb dX6_take_1 hl (by decide) rfl (fun ls hl => ?_)
  refine lv_lconst (v := 0) hx hb dX6_take_3 (by decide) ?_
  refine lv_lstore (lv' := [(7, .long 0), (5, .long num), (0, .ref (Z (8, 0, 0))), (1, .int (nI p)), (2, .int (nI k)), (3, .long num)]) hx hb dX6_take_4 hl (by decide) rfl (fun ls hl => ?_)
  refine lv_iconst (v := 0) hx hb dX6_take_6 (by decide) ?_
  refine lv_istore (lv' := [(9, .int 0), (7, .long 0), (5, .long num), (0, .ref (Z (8, 0, 0))), (1, .int (nI p)), (2, .int (nI k)), (3, .long num)]) hx hb dX6_take_7 hl (by decide) rfl (fun ls hl => ?_)
  have loop_9 : ∀ (n i : Nat) (f : Nat → Int64) (lf : Int64) (wo : Int64) (Mx : zk_M) (H : Heap) (locs : List Loc) (ls : Array Slot), zs_nl X.2.1 - i < n → i ≤ zs_nl X.2.1 → (f, lf, wo) = zs_take X.2.1 p k num i → zs_R g (X.1, zs_ll_ X.2.1 f, X.2.2) Z Mx → zk_H g z Mx H → va_S (fun q => z ≤ q) s.heap H locs →  lv_has ls 12 [(9, .int (nI i)), (5, .long lf), (7, .long wo), (0, .ref (Z (8, 0, 0))), (1, .int (nI p)), (2, .int (nI k))] → W P0 l e0 (headSpec wsX6_take ({ frames := 0, cells := 0, slots := 0, locals := 0 } : Room)).room s m0 ([.ref (Z (8, 0, 0)), .int (nI p), .int (nI k), .long num] : List Value).toArray below meth c0 H locs 0 0 (MQ below (va_Ql (fun r u => r = (zs_take X.2.1 p k num (zs_nl X.2.1)).2.2 ∧ zs_R g (X.1, zs_ll_ X.2.1 (zs_take X.2.1 p k num (zs_nl X.2.1)).1, X.2.2) Z u) (zk_B g z) (fun q => z ≤ q)) ([.ref (Z (8, 0, 0)), .int (nI p), .int (nI k), .long num] : List Value).toArray s 0 0 (fun q => z ≤ q)) (F0 m0 9 ls []) := by
    intro n
    induction n with
    | zero => intro i f lf wo Mx H locs ls hn hi; omega
    | succ n ih =>
      intro i f lf wo Mx H locs ls hn hi he hRx hH hS hl
      refine lv_iload hx hb dX6_take_9 (lv_at hl 0 rfl) ?_
      refine lv_aload_n hx hb dX6_take_11 rfl (lv_at hl 3 rfl) ?_
      refine zk_get (ci := 6) (v := .int (nI (zs_nl X.2.1))) (C := RX6) (T := TX6) (N := 20) hx hb hts inw_wsX6_take_6 hown hK hH (hRx.1 (8, 0, 0) ⟨by decide, rfl⟩) rfl 9 (by decide) (hts (.fieldLink RX6 89 "KegDepositsModel" "layers" "I") (by decide +kernel)) rfl dX6_take_12 ?_
      refine lv_icmp_ge (tgt := 107) hx hb dX6_take_15 (by decide) (fun h_15 => ?_) (fun h_15 => ?_)
      · skip
        have hiN : i = zs_nl X.2.1 := by have := (nI_leI (a := zs_nl X.2.1) (b := i) (by omega) (by omega)).mp h_15; omega
        refine lv_lload hx hb dX6_take_107 (lv_at hl 2 rfl) ?_
        exact zk_lret hx hb hr hlocks hH hS (by decide) (by decide) (by rw [hiN] at he; rw [← he]; exact ⟨rfl, hRx⟩) dX6_take_109
      · skip
        have hiN : i < zs_nl X.2.1 := Nat.lt_of_not_le (fun q => h_15 ((nI_leI (a := zs_nl X.2.1) (b := i) (by omega) (by omega)).mpr q))
        refine lv_aload_n hx hb dX6_take_18 rfl (lv_at hl 3 rfl) ?_
        refine zk_get (ci := 6) (v := .ref (Z (8, 7, 0))) (C := RX6) (T := TX6) (N := 20) hx hb hts inw_wsX6_take_6 hown hK hH (hRx.1 (8, 0, 0) ⟨by decide, rfl⟩) rfl 10 (by decide) (hts (.fieldLink RX6 33 "KegDepositsModel" "layerParty" "[I") (by decide +kernel)) rfl dX6_take_19 ?_
        refine lv_iload hx hb dX6_take_22 (lv_at hl 0 rfl) ?_
        refine zk_iald hx hb hK hH (hRx.1 (8, 7, 0) ⟨by decide, rfl⟩) (vp_in_nI (show i < 4100 by omega) (by decide)) dX6_take_24 ?_
        refine zk_top (v' := .int (nI (zs_lp X.2.1 i))) (zk_arr_i (f := fun i => nI (zs_lp X.2.1 i)) (i := i) (by omega)) ?_
        refine lv_iload_n hx hb dX6_take_25 rfl (lv_at hl 4 rfl) ?_
        refine lv_icmp_ne (tgt := 101) hx hb dX6_take_26 (by decide) (fun h_26 => ?_) (fun h_26 => ?_)
        · skip
          have hpp : ¬ zs_lp X.2.1 i = p := fun q => h_26 (by rw [q])
          refine lv_iinc (v := nI (i + 1)) (lv' := [(9, .int (nI (i + 1))), (5, .long lf), (7, .long wo), (0, .ref (Z (8, 0, 0))), (1, .int (nI p)), (2, .int (nI k))]) hx hb dX6_take_101 hl (k := 0) rfl (nI_1 i) (by decide) rfl (fun ls hl => ?_)
          refine lv_goto (tgt := 9) hx hb dX6_take_104 (by decide) ?_
          exact ih (i + 1) _ _ _ _ _ _ ls (by omega) (by omega) (he.trans (zs_take_neg (fun q => hpp q.1)).symm) hRx hH hS (lv_sub hl [0, 1, 2, 3, 4, 5] rfl)
        · skip
          have hpp : zs_lp X.2.1 i = p := (nI_eq (hbb i hiN).1 (by omega)).mp h_26
          refine lv_aload_n hx hb dX6_take_29 rfl (lv_at hl 3 rfl) ?_
          refine zk_get (ci := 6) (v := .ref (Z (8, 8, 0))) (C := RX6) (T := TX6) (N := 20) hx hb hts inw_wsX6_take_6 hown hK hH (hRx.1 (8, 0, 0) ⟨by decide, rfl⟩) rfl 11 (by decide) (hts (.fieldLink RX6 36 "KegDepositsModel" "layerKind" "[I") (by decide +kernel)) rfl dX6_take_30 ?_
          refine lv_iload hx hb dX6_take_33 (lv_at hl 0 rfl) ?_
          refine zk_iald hx hb hK hH (hRx.1 (8, 8, 0) ⟨by decide, rfl⟩) (vp_in_nI (show i < 4100 by omega) (by decide)) dX6_take_35 ?_
          refine zk_top (v' := .int (nI (zs_lk X.2.1 i))) (zk_arr_i (f := fun i => nI (zs_lk X.2.1 i)) (i := i) (by omega)) ?_
          refine lv_iload_n hx hb dX6_take_36 rfl (lv_at hl 5 rfl) ?_
          refine lv_icmp_ne (tgt := 101) hx hb dX6_take_37 (by decide) (fun h_37 => ?_) (fun h_37 => ?_)
          · skip
            have hkk : ¬ zs_lk X.2.1 i = k := fun q => h_37 (by rw [q])
            refine lv_iinc (v := nI (i + 1)) (lv' := [(9, .int (nI (i + 1))), (5, .long lf), (7, .long wo), (0, .ref (Z (8, 0, 0))), (1, .int (nI p)), (2, .int (nI k))]) hx hb dX6_take_101 hl (k := 0) rfl (nI_1 i) (by decide) rfl (fun ls hl => ?_)
            refine lv_goto (tgt := 9) hx hb dX6_take_104 (by decide) ?_
            exact ih (i + 1) _ _ _ _ _ _ ls (by omega) (by omega) (he.trans (zs_take_neg (fun q => hkk q.2)).symm) hRx hH hS (lv_sub hl [0, 1, 2, 3, 4, 5] rfl)
          · skip
            have hkk : zs_lk X.2.1 i = k := (nI_eq (hbb i hiN).2 (by omega)).mp h_37
            refine lv_aload_n hx hb dX6_take_40 rfl (lv_at hl 3 rfl) ?_
            refine zk_get (ci := 6) (v := .ref (Z (8, 9, 0))) (C := RX6) (T := TX6) (N := 20) hx hb hts inw_wsX6_take_6 hown hK hH (hRx.1 (8, 0, 0) ⟨by decide, rfl⟩) rfl 12 (by decide) (hts (.fieldLink RX6 39 "KegDepositsModel" "layerLeft" "[J") (by decide +kernel)) rfl dX6_take_41 ?_
            refine lv_iload hx hb dX6_take_44 (lv_at hl 0 rfl) ?_
            refine zk_lald hx hb hK hH (hRx.1 (8, 9, 0) ⟨by decide, rfl⟩) (vp_in_nI (show i < 4100 by omega) (by decide)) dX6_take_46 ?_
            refine zk_top (v' := .long (f i)) (zk_arr_l (f := f) (i := i) (by omega)) ?_
            refine lv_lload hx hb dX6_take_47 (lv_at hl 1 rfl) ?_
            refine zk_lc_ge (tgt := 63) hx hb dX6_take_49 dX6_take_50 (by decide) (fun h_49 => ?_) (fun h_49 => ?_)
            · skip
              have hA : (if f i < lf then f i else lf) = lf := if_neg (Int64.not_lt.mpr h_49)
              refine lv_lload hx hb dX6_take_63 (lv_at hl 1 rfl) ?_
              refine lv_lstore (lv' := [(10, .long lf), (9, .int (nI i)), (5, .long lf), (7, .long wo), (0, .ref (Z (8, 0, 0))), (1, .int (nI p)), (2, .int (nI k))]) hx hb dX6_take_65 hl (by decide) rfl (fun ls hl => ?_)
              refine lv_aload_n hx hb dX6_take_67 rfl (lv_at hl 4 rfl) ?_
              refine zk_get (ci := 6) (v := .ref (Z (8, 9, 0))) (C := RX6) (T := TX6) (N := 20) hx hb hts inw_wsX6_take_6 hown hK hH (hRx.1 (8, 0, 0) ⟨by decide, rfl⟩) rfl 12 (by decide) (hts (.fieldLink RX6 39 "KegDepositsModel" "layerLeft" "[J") (by decide +kernel)) rfl dX6_take_68 ?_
              refine lv_iload hx hb dX6_take_71 (lv_at hl 1 rfl) ?_
              refine lv_dup2_11 hx hb dX6_take_73 rfl rfl ?_
              refine zk_lald hx hb hK hH (hRx.1 (8, 9, 0) ⟨by decide, rfl⟩) (vp_in_nI (show i < 4100 by omega) (by decide)) dX6_take_74 ?_
              refine zk_top (v' := .long (f i)) (zk_arr_l (f := f) (i := i) (by omega)) ?_
              refine lv_lload hx hb dX6_take_75 (lv_at hl 0 rfl) ?_
              refine lv_lsub hx hb dX6_take_77 ?_
              refine zk_last hx hb hK hH hS (hRx.1 (8, 9, 0) ⟨by decide, rfl⟩) (vp_in_nI (show i < 4100 by omega) (by decide)) dX6_take_78 (fun H locs hH hS => ?_)
              have hH := zk_H_c (e' := zk_aJ g 4100 (vp_updL f i (f i - lf))) (congrArg (zk_aJ g 4100) (show vp_updL f (Int32.toNatClampNeg (nI i)) (f i - lf) = (vp_updL f i (f i - lf)) from (zs_updL (by omega)))) hH
              obtain ⟨M_78, eM_78⟩ : ∃ w_0 : zk_M, w_0 = zk_up Mx (Z (8, 9, 0)) (zk_aJ g 4100 (vp_updL f i (f i - lf))) := ⟨_, rfl⟩
              have hH : zk_H g z M_78 H := by rw [eM_78]; exact hH
              have hR_78 : zs_R g ((X.1, (zs_np X.2.1, zs_nk X.2.1, zs_nl X.2.1, zs_nc X.2.1, zs_ck X.2.1, zs_pn X.2.1, zs_pd X.2.1, zs_pc X.2.1, zs_sh X.2.1, zs_rs X.2.1, zs_lp X.2.1, zs_lk X.2.1, (vp_updL f i (f i - lf)), zs_ld X.2.1, zs_lc X.2.1, zs_tp X.2.1, zs_tt X.2.1, zs_ta X.2.1, zs_td X.2.1), X.2.2) : zs_X) Z M_78 := by rw [eM_78]; exact zs_Rm_ll (X := ((X.1, zs_ll_ X.2.1 f, X.2.2) : zs_X)) hRx (vp_updL f i (f i - lf))
              refine lv_lload hx hb dX6_take_79 (lv_at hl 2 rfl) ?_
              refine lv_lload hx hb dX6_take_81 (lv_at hl 0 rfl) ?_
              refine lv_lsub hx hb dX6_take_83 ?_
              refine lv_lstore (lv' := [(5, .long (lf - lf)), (10, .long lf), (9, .int (nI i)), (7, .long wo), (0, .ref (Z (8, 0, 0))), (1, .int (nI p)), (2, .int (nI k))]) hx hb dX6_take_84 hl (by decide) rfl (fun ls hl => ?_)
              refine lv_lload hx hb dX6_take_86 (lv_at hl 3 rfl) ?_
              refine lv_lload hx hb dX6_take_88 (lv_at hl 1 rfl) ?_
              refine lv_aload_n hx hb dX6_take_90 rfl (lv_at hl 4 rfl) ?_
              refine zk_get (ci := 6) (v := .ref (Z (8, 11, 0))) (C := RX6) (T := TX6) (N := 20) hx hb hts inw_wsX6_take_6 hown hK hH (hR_78.1 (8, 0, 0) ⟨by decide, rfl⟩) rfl 14 (by decide) (hts (.fieldLink RX6 45 "KegDepositsModel" "layerPrice" "[J") (by decide +kernel)) rfl dX6_take_91 ?_
              refine lv_iload hx hb dX6_take_94 (lv_at hl 2 rfl) ?_
              refine zk_lald hx hb hK hH (hR_78.1 (8, 11, 0) ⟨by decide, rfl⟩) (vp_in_nI (show i < 4100 by omega) (by decide)) dX6_take_96 ?_
              refine zk_top (v' := .long (zs_lc X.2.1 i)) (zk_arr_l (f := zs_lc X.2.1) (i := i) (by omega)) ?_
              refine lv_lmul hx hb dX6_take_97 ?_
              refine lv_ladd hx hb dX6_take_98 ?_
              refine lv_lstore (lv' := [(7, .long (wo + (lf * zs_lc X.2.1 i))), (5, .long (lf - lf)), (10, .long lf), (9, .int (nI i)), (0, .ref (Z (8, 0, 0))), (1, .int (nI p)), (2, .int (nI k))]) hx hb dX6_take_99 hl (by decide) rfl (fun ls hl => ?_)
              refine lv_iinc (v := nI (i + 1)) (lv' := [(9, .int (nI (i + 1))), (7, .long (wo + (lf * zs_lc X.2.1 i))), (5, .long (lf - lf)), (10, .long lf), (0, .ref (Z (8, 0, 0))), (1, .int (nI p)), (2, .int (nI k))]) hx hb dX6_take_101 hl (k := 3) rfl (nI_1 i) (by decide) rfl (fun ls hl => ?_)
              refine lv_goto (tgt := 9) hx hb dX6_take_104 (by decide) ?_
              exact ih (i + 1) _ _ _ _ _ _ ls (by omega) (by omega) (zs_take_at hA he ⟨hpp, hkk⟩) hR_78 hH hS (lv_sub hl [0, 2, 1, 4, 5, 6] rfl)
            · skip
              have hA : (if f i < lf then f i else lf) = f i := if_pos (Int64.not_le.mp h_49)
              refine lv_aload_n hx hb dX6_take_53 rfl (lv_at hl 3 rfl) ?_
              refine zk_get (ci := 6) (v := .ref (Z (8, 9, 0))) (C := RX6) (T := TX6) (N := 20) hx hb hts inw_wsX6_take_6 hown hK hH (hRx.1 (8, 0, 0) ⟨by decide, rfl⟩) rfl 12 (by decide) (hts (.fieldLink RX6 39 "KegDepositsModel" "layerLeft" "[J") (by decide +kernel)) rfl dX6_take_54 ?_
              refine lv_iload hx hb dX6_take_57 (lv_at hl 0 rfl) ?_
              refine zk_lald hx hb hK hH (hRx.1 (8, 9, 0) ⟨by decide, rfl⟩) (vp_in_nI (show i < 4100 by omega) (by decide)) dX6_take_59 ?_
              refine zk_top (v' := .long (f i)) (zk_arr_l (f := f) (i := i) (by omega)) ?_
              refine lv_goto (tgt := 65) hx hb dX6_take_60 (by decide) ?_
              refine lv_lstore (lv' := [(10, .long (f i)), (9, .int (nI i)), (5, .long lf), (7, .long wo), (0, .ref (Z (8, 0, 0))), (1, .int (nI p)), (2, .int (nI k))]) hx hb dX6_take_65 hl (by decide) rfl (fun ls hl => ?_)
              refine lv_aload_n hx hb dX6_take_67 rfl (lv_at hl 4 rfl) ?_
              refine zk_get (ci := 6) (v := .ref (Z (8, 9, 0))) (C := RX6) (T := TX6) (N := 20) hx hb hts inw_wsX6_take_6 hown hK hH (hRx.1 (8, 0, 0) ⟨by decide, rfl⟩) rfl 12 (by decide) (hts (.fieldLink RX6 39 "KegDepositsModel" "layerLeft" "[J") (by decide +kernel)) rfl dX6_take_68 ?_
              refine lv_iload hx hb dX6_take_71 (lv_at hl 1 rfl) ?_
              refine lv_dup2_11 hx hb dX6_take_73 rfl rfl ?_
              refine zk_lald hx hb hK hH (hRx.1 (8, 9, 0) ⟨by decide, rfl⟩) (vp_in_nI (show i < 4100 by omega) (by decide)) dX6_take_74 ?_
              refine zk_top (v' := .long (f i)) (zk_arr_l (f := f) (i := i) (by omega)) ?_
              refine lv_lload hx hb dX6_take_75 (lv_at hl 0 rfl) ?_
              refine lv_lsub hx hb dX6_take_77 ?_
              refine zk_last hx hb hK hH hS (hRx.1 (8, 9, 0) ⟨by decide, rfl⟩) (vp_in_nI (show i < 4100 by omega) (by decide)) dX6_take_78 (fun H locs hH hS => ?_)
              have hH := zk_H_c (e' := zk_aJ g 4100 (vp_updL f i (f i - f i))) (congrArg (zk_aJ g 4100) (show vp_updL f (Int32.toNatClampNeg (nI i)) (f i - f i) = (vp_updL f i (f i - f i)) from (zs_updL (by omega)))) hH
              obtain ⟨M_78, eM_78⟩ : ∃ w_0 : zk_M, w_0 = zk_up Mx (Z (8, 9, 0)) (zk_aJ g 4100 (vp_updL f i (f i - f i))) := ⟨_, rfl⟩
              have hH : zk_H g z M_78 H := by rw [eM_78]; exact hH
              have hR_78 : zs_R g ((X.1, (zs_np X.2.1, zs_nk X.2.1, zs_nl X.2.1, zs_nc X.2.1, zs_ck X.2.1, zs_pn X.2.1, zs_pd X.2.1, zs_pc X.2.1, zs_sh X.2.1, zs_rs X.2.1, zs_lp X.2.1, zs_lk X.2.1, (vp_updL f i (f i - f i)), zs_ld X.2.1, zs_lc X.2.1, zs_tp X.2.1, zs_tt X.2.1, zs_ta X.2.1, zs_td X.2.1), X.2.2) : zs_X) Z M_78 := by rw [eM_78]; exact zs_Rm_ll (X := ((X.1, zs_ll_ X.2.1 f, X.2.2) : zs_X)) hRx (vp_updL f i (f i - f i))
              refine lv_lload hx hb dX6_take_79 (lv_at hl 2 rfl) ?_
              refine lv_lload hx hb dX6_take_81 (lv_at hl 0 rfl) ?_
              refine lv_lsub hx hb dX6_take_83 ?_
              refine lv_lstore (lv' := [(5, .long (lf - f i)), (10, .long (f i)), (9, .int (nI i)), (7, .long wo), (0, .ref (Z (8, 0, 0))), (1, .int (nI p)), (2, .int (nI k))]) hx hb dX6_take_84 hl (by decide) rfl (fun ls hl => ?_)
              refine lv_lload hx hb dX6_take_86 (lv_at hl 3 rfl) ?_
              refine lv_lload hx hb dX6_take_88 (lv_at hl 1 rfl) ?_
              refine lv_aload_n hx hb dX6_take_90 rfl (lv_at hl 4 rfl) ?_
              refine zk_get (ci := 6) (v := .ref (Z (8, 11, 0))) (C := RX6) (T := TX6) (N := 20) hx hb hts inw_wsX6_take_6 hown hK hH (hR_78.1 (8, 0, 0) ⟨by decide, rfl⟩) rfl 14 (by decide) (hts (.fieldLink RX6 45 "KegDepositsModel" "layerPrice" "[J") (by decide +kernel)) rfl dX6_take_91 ?_
              refine lv_iload hx hb dX6_take_94 (lv_at hl 2 rfl) ?_
              refine zk_lald hx hb hK hH (hR_78.1 (8, 11, 0) ⟨by decide, rfl⟩) (vp_in_nI (show i < 4100 by omega) (by decide)) dX6_take_96 ?_
              refine zk_top (v' := .long (zs_lc X.2.1 i)) (zk_arr_l (f := zs_lc X.2.1) (i := i) (by omega)) ?_
              refine lv_lmul hx hb dX6_take_97 ?_
              refine lv_ladd hx hb dX6_take_98 ?_
              refine lv_lstore (lv' := [(7, .long (wo + (f i * zs_lc X.2.1 i))), (5, .long (lf - f i)), (10, .long (f i)), (9, .int (nI i)), (0, .ref (Z (8, 0, 0))), (1, .int (nI p)), (2, .int (nI k))]) hx hb dX6_take_99 hl (by decide) rfl (fun ls hl => ?_)
              refine lv_iinc (v := nI (i + 1)) (lv' := [(9, .int (nI (i + 1))), (7, .long (wo + (f i * zs_lc X.2.1 i))), (5, .long (lf - f i)), (10, .long (f i)), (0, .ref (Z (8, 0, 0))), (1, .int (nI p)), (2, .int (nI k))]) hx hb dX6_take_101 hl (k := 3) rfl (nI_1 i) (by decide) rfl (fun ls hl => ?_)
              refine lv_goto (tgt := 9) hx hb dX6_take_104 (by decide) ?_
              exact ih (i + 1) _ _ _ _ _ _ ls (by omega) (by omega) (zs_take_at hA he ⟨hpp, hkk⟩) hR_78 hH hS (lv_sub hl [0, 2, 1, 4, 5, 6] rfl)
  exact loop_9 (zs_nl X.2.1 + 1) 0 _ _ _ _ _ _ ls (by omega) (Nat.zero_le _) rfl hR hH hS (lv_sub hl [0, 2, 1, 3, 4, 5] rfl)

theorem inw_wsX6_move_6 : ∀ w ∈ u_ws RX6 TX6 20, w ∈ wsX6_move := by decide +kernel
set_option maxHeartbeats 4000000 in
set_option maxRecDepth 100000 in
theorem zc_X6_move (l : Launch) {g : zk_G} {z : Nat} {M : zk_M} {X : zs_X} {Z : zs_Z} (hR : zs_R g X Z M) (hnc : zs_nc X.2.1 < 4100) (x y : Nat) (c d : Int64) : Met l yX6_move wsX6_move ({ frames := 0, cells := 0, slots := 0, locals := 0 } : Room) (va_Pc [.ref (Z (8, 0, 0)), .int (nI x), .int (nI y), .long c, .long d] (zk_U g z M)) (va_Qv (fun u => zs_R g (X.1, zs_mv0 X.2.1 x y c d, X.2.2) Z u) (zk_B g z) (fun q => z ≤ q)) 0 0 (fun q => z ≤ q) := by
  refine Met.ofW (cc := cX6_move) (maxL := 7) (ret := none) (by decide) rfl ?_
  intro P0 e0 s m0 args below meth c0 s₁ B hml hv
  obtain ⟨rfl, hH, hK, hN⟩ := hv
  have hx := B.exec
  have hb := B.bytes
  have hr := B.returns
  have hts := atoms_spec (ws := wsX6_move) B.pre
  have hown : s.vm.findClass RX6 = some m0.cls := findClass_of_methodNamed B.named
  have hlocks := B.notSynchronized
  have hS : va_S (fun q => z ≤ q) s.heap s.heap [] := va_S.rf
  have hl := lv_entry ([.ref (Z (8, 0, 0)), .int (nI x), .int (nI y), .long c, .long d]) (n := 7) (Nat.le_of_ble_eq_true rfl)
  rw [lg_entry_eq]
  generalize (lg_sl ([.ref (Z (8, 0, 0)), .int (nI x), .int (nI y), .long c, .long d]) ++ List.replicate (7 - (lg_sl ([.ref (Z (8, 0, 0)), .int (nI x), .int (nI y), .long c, .long d])).length) Slot.unset).toArray = ls at hl ⊢
  have hl : lv_has ls 7 [(0, .ref (Z (8, 0, 0))), (1, .int (nI x)), (2, .int (nI y)), (3, .long c), (5, .long d)] := hl
  refine lv_aload_n hx hb dX6_move_0 rfl (lv_at hl 0 rfl) ?_
  refine zk_get (ci := 6) (v := .ref (Z (8, 13, 0))) (C := RX6) (T := TX6) (N := 20) hx hb hts inw_wsX6_move_6 hown hK hH (hR.1 (8, 0, 0) ⟨by decide, rfl⟩) rfl 17 (by decide) (hts (.fieldLink RX6 51 "KegDepositsModel" "loses" "[I") (by decide +kernel)) rfl dX6_move_1 ?_
  refine lv_aload_n hx hb dX6_move_4 rfl (lv_at hl 0 rfl) ?_
  refine zk_get (ci := 6) (v := .int (nI (zs_nc X.2.1))) (C := RX6) (T := TX6) (N := 20) hx hb hts inw_wsX6_move_6 hown hK hH (hR.1 (8, 0, 0) ⟨by decide, rfl⟩) rfl 15 (by decide) (hts (.fieldLink RX6 75 "KegDepositsModel" "changes" "I") (by decide +kernel)) rfl dX6_move_5 ?_
  refine lv_iload_n hx hb dX6_move_8 rfl (lv_at hl 1 rfl) ?_
  refine zk_iast hx hb hK hH hS (hR.1 (8, 13, 0) ⟨by decide, rfl⟩) (vp_in_nI (hnc) (by decide)) dX6_move_9 (fun H locs hH hS => ?_)
  have hH := zk_H_c (e' := zk_aI g 4100 (fun i => nI ((va_up (zs_tp X.2.1) (zs_nc X.2.1) x) i))) (congrArg (zk_aI g 4100) (show upd (fun i => nI ((zs_tp X.2.1) i)) (Int32.toNatClampNeg (nI (zs_nc X.2.1))) (nI x) = (fun i => nI ((va_up (zs_tp X.2.1) (zs_nc X.2.1) x) i)) from (zs_updI (by omega)))) hH
  obtain ⟨M_9, eM_9⟩ : ∃ w_0 : zk_M, w_0 = zk_up M (Z (8, 13, 0)) (zk_aI g 4100 (fun i => nI ((va_up (zs_tp X.2.1) (zs_nc X.2.1) x) i))) := ⟨_, rfl⟩
  have hH : zk_H g z M_9 H := by rw [eM_9]; exact hH
  have hR_9 : zs_R g ((X.1, (zs_np X.2.1, zs_nk X.2.1, zs_nl X.2.1, zs_nc X.2.1, zs_ck X.2.1, zs_pn X.2.1, zs_pd X.2.1, zs_pc X.2.1, zs_sh X.2.1, zs_rs X.2.1, zs_lp X.2.1, zs_lk X.2.1, zs_ll X.2.1, zs_ld X.2.1, zs_lc X.2.1, (va_up (zs_tp X.2.1) (zs_nc X.2.1) x), zs_tt X.2.1, zs_ta X.2.1, zs_td X.2.1), X.2.2) : zs_X) Z M_9 := by rw [eM_9]; exact zs_Rm_tp (X := X) hR (va_up (zs_tp X.2.1) (zs_nc X.2.1) x)
  refine lv_aload_n hx hb dX6_move_10 rfl (lv_at hl 0 rfl) ?_
  refine zk_get (ci := 6) (v := .ref (Z (8, 12, 0))) (C := RX6) (T := TX6) (N := 20) hx hb hts inw_wsX6_move_6 hown hK hH (hR_9.1 (8, 0, 0) ⟨by decide, rfl⟩) rfl 16 (by decide) (hts (.fieldLink RX6 48 "KegDepositsModel" "gains" "[I") (by decide +kernel)) rfl dX6_move_11 ?_
  refine lv_aload_n hx hb dX6_move_14 rfl (lv_at hl 0 rfl) ?_
  refine zk_get (ci := 6) (v := .int (nI (zs_nc X.2.1))) (C := RX6) (T := TX6) (N := 20) hx hb hts inw_wsX6_move_6 hown hK hH (hR_9.1 (8, 0, 0) ⟨by decide, rfl⟩) rfl 15 (by decide) (hts (.fieldLink RX6 75 "KegDepositsModel" "changes" "I") (by decide +kernel)) rfl dX6_move_15 ?_
  refine lv_iload_n hx hb dX6_move_18 rfl (lv_at hl 2 rfl) ?_
  refine zk_iast hx hb hK hH hS (hR_9.1 (8, 12, 0) ⟨by decide, rfl⟩) (vp_in_nI (hnc) (by decide)) dX6_move_19 (fun H locs hH hS => ?_)
  have hH := zk_H_c (e' := zk_aI g 4100 (fun i => nI ((va_up (zs_tt X.2.1) (zs_nc X.2.1) y) i))) (congrArg (zk_aI g 4100) (show upd (fun i => nI ((zs_tt X.2.1) i)) (Int32.toNatClampNeg (nI (zs_nc X.2.1))) (nI y) = (fun i => nI ((va_up (zs_tt X.2.1) (zs_nc X.2.1) y) i)) from (zs_updI (by omega)))) hH
  obtain ⟨M_19, eM_19⟩ : ∃ w_0 : zk_M, w_0 = zk_up M_9 (Z (8, 12, 0)) (zk_aI g 4100 (fun i => nI ((va_up (zs_tt X.2.1) (zs_nc X.2.1) y) i))) := ⟨_, rfl⟩
  have hH : zk_H g z M_19 H := by rw [eM_19]; exact hH
  have hR_19 : zs_R g ((X.1, (zs_np X.2.1, zs_nk X.2.1, zs_nl X.2.1, zs_nc X.2.1, zs_ck X.2.1, zs_pn X.2.1, zs_pd X.2.1, zs_pc X.2.1, zs_sh X.2.1, zs_rs X.2.1, zs_lp X.2.1, zs_lk X.2.1, zs_ll X.2.1, zs_ld X.2.1, zs_lc X.2.1, (va_up (zs_tp X.2.1) (zs_nc X.2.1) x), (va_up (zs_tt X.2.1) (zs_nc X.2.1) y), zs_ta X.2.1, zs_td X.2.1), X.2.2) : zs_X) Z M_19 := by rw [eM_19]; exact zs_Rm_tt (X := ((X.1, (zs_np X.2.1, zs_nk X.2.1, zs_nl X.2.1, zs_nc X.2.1, zs_ck X.2.1, zs_pn X.2.1, zs_pd X.2.1, zs_pc X.2.1, zs_sh X.2.1, zs_rs X.2.1, zs_lp X.2.1, zs_lk X.2.1, zs_ll X.2.1, zs_ld X.2.1, zs_lc X.2.1, (va_up (zs_tp X.2.1) (zs_nc X.2.1) x), zs_tt X.2.1, zs_ta X.2.1, zs_td X.2.1), X.2.2) : zs_X)) hR_9 (va_up (zs_tt X.2.1) (zs_nc X.2.1) y)
  refine lv_aload_n hx hb dX6_move_20 rfl (lv_at hl 0 rfl) ?_
  refine zk_get (ci := 6) (v := .ref (Z (8, 14, 0))) (C := RX6) (T := TX6) (N := 20) hx hb hts inw_wsX6_move_6 hown hK hH (hR_19.1 (8, 0, 0) ⟨by decide, rfl⟩) rfl 18 (by decide) (hts (.fieldLink RX6 54 "KegDepositsModel" "amounts" "[J") (by decide +kernel)) rfl dX6_move_21 ?_
  refine lv_aload_n hx hb dX6_move_24 rfl (lv_at hl 0 rfl) ?_
  refine zk_get (ci := 6) (v := .int (nI (zs_nc X.2.1))) (C := RX6) (T := TX6) (N := 20) hx hb hts inw_wsX6_move_6 hown hK hH (hR_19.1 (8, 0, 0) ⟨by decide, rfl⟩) rfl 15 (by decide) (hts (.fieldLink RX6 75 "KegDepositsModel" "changes" "I") (by decide +kernel)) rfl dX6_move_25 ?_
  refine lv_lload_n hx hb dX6_move_28 rfl (lv_at hl 3 rfl) ?_
  refine zk_last hx hb hK hH hS (hR_19.1 (8, 14, 0) ⟨by decide, rfl⟩) (vp_in_nI (hnc) (by decide)) dX6_move_29 (fun H locs hH hS => ?_)
  have hH := zk_H_c (e' := zk_aJ g 4100 (vp_updL (zs_ta X.2.1) (zs_nc X.2.1) c)) (congrArg (zk_aJ g 4100) (show vp_updL (zs_ta X.2.1) (Int32.toNatClampNeg (nI (zs_nc X.2.1))) c = (vp_updL (zs_ta X.2.1) (zs_nc X.2.1) c) from (zs_updL (by omega)))) hH
  obtain ⟨M_29, eM_29⟩ : ∃ w_0 : zk_M, w_0 = zk_up M_19 (Z (8, 14, 0)) (zk_aJ g 4100 (vp_updL (zs_ta X.2.1) (zs_nc X.2.1) c)) := ⟨_, rfl⟩
  have hH : zk_H g z M_29 H := by rw [eM_29]; exact hH
  have hR_29 : zs_R g ((X.1, (zs_np X.2.1, zs_nk X.2.1, zs_nl X.2.1, zs_nc X.2.1, zs_ck X.2.1, zs_pn X.2.1, zs_pd X.2.1, zs_pc X.2.1, zs_sh X.2.1, zs_rs X.2.1, zs_lp X.2.1, zs_lk X.2.1, zs_ll X.2.1, zs_ld X.2.1, zs_lc X.2.1, (va_up (zs_tp X.2.1) (zs_nc X.2.1) x), (va_up (zs_tt X.2.1) (zs_nc X.2.1) y), (vp_updL (zs_ta X.2.1) (zs_nc X.2.1) c), zs_td X.2.1), X.2.2) : zs_X) Z M_29 := by rw [eM_29]; exact zs_Rm_ta (X := ((X.1, (zs_np X.2.1, zs_nk X.2.1, zs_nl X.2.1, zs_nc X.2.1, zs_ck X.2.1, zs_pn X.2.1, zs_pd X.2.1, zs_pc X.2.1, zs_sh X.2.1, zs_rs X.2.1, zs_lp X.2.1, zs_lk X.2.1, zs_ll X.2.1, zs_ld X.2.1, zs_lc X.2.1, (va_up (zs_tp X.2.1) (zs_nc X.2.1) x), (va_up (zs_tt X.2.1) (zs_nc X.2.1) y), zs_ta X.2.1, zs_td X.2.1), X.2.2) : zs_X)) hR_19 (vp_updL (zs_ta X.2.1) (zs_nc X.2.1) c)
  refine lv_aload_n hx hb dX6_move_30 rfl (lv_at hl 0 rfl) ?_
  refine zk_get (ci := 6) (v := .ref (Z (8, 15, 0))) (C := RX6) (T := TX6) (N := 20) hx hb hts inw_wsX6_move_6 hown hK hH (hR_29.1 (8, 0, 0) ⟨by decide, rfl⟩) rfl 19 (by decide) (hts (.fieldLink RX6 57 "KegDepositsModel" "changeDays" "[J") (by decide +kernel)) rfl dX6_move_31 ?_
  refine lv_aload_n hx hb dX6_move_34 rfl (lv_at hl 0 rfl) ?_
  refine zk_get (ci := 6) (v := .int (nI (zs_nc X.2.1))) (C := RX6) (T := TX6) (N := 20) hx hb hts inw_wsX6_move_6 hown hK hH (hR_29.1 (8, 0, 0) ⟨by decide, rfl⟩) rfl 15 (by decide) (hts (.fieldLink RX6 75 "KegDepositsModel" "changes" "I") (by decide +kernel)) rfl dX6_move_35 ?_
  refine lv_lload hx hb dX6_move_38 (lv_at hl 4 rfl) ?_
  refine zk_last hx hb hK hH hS (hR_29.1 (8, 15, 0) ⟨by decide, rfl⟩) (vp_in_nI (hnc) (by decide)) dX6_move_40 (fun H locs hH hS => ?_)
  have hH := zk_H_c (e' := zk_aJ g 4100 (vp_updL (zs_td X.2.1) (zs_nc X.2.1) d)) (congrArg (zk_aJ g 4100) (show vp_updL (zs_td X.2.1) (Int32.toNatClampNeg (nI (zs_nc X.2.1))) d = (vp_updL (zs_td X.2.1) (zs_nc X.2.1) d) from (zs_updL (by omega)))) hH
  obtain ⟨M_40, eM_40⟩ : ∃ w_0 : zk_M, w_0 = zk_up M_29 (Z (8, 15, 0)) (zk_aJ g 4100 (vp_updL (zs_td X.2.1) (zs_nc X.2.1) d)) := ⟨_, rfl⟩
  have hH : zk_H g z M_40 H := by rw [eM_40]; exact hH
  have hR_40 : zs_R g ((X.1, (zs_np X.2.1, zs_nk X.2.1, zs_nl X.2.1, zs_nc X.2.1, zs_ck X.2.1, zs_pn X.2.1, zs_pd X.2.1, zs_pc X.2.1, zs_sh X.2.1, zs_rs X.2.1, zs_lp X.2.1, zs_lk X.2.1, zs_ll X.2.1, zs_ld X.2.1, zs_lc X.2.1, (va_up (zs_tp X.2.1) (zs_nc X.2.1) x), (va_up (zs_tt X.2.1) (zs_nc X.2.1) y), (vp_updL (zs_ta X.2.1) (zs_nc X.2.1) c), (vp_updL (zs_td X.2.1) (zs_nc X.2.1) d)), X.2.2) : zs_X) Z M_40 := by rw [eM_40]; exact zs_Rm_td (X := ((X.1, (zs_np X.2.1, zs_nk X.2.1, zs_nl X.2.1, zs_nc X.2.1, zs_ck X.2.1, zs_pn X.2.1, zs_pd X.2.1, zs_pc X.2.1, zs_sh X.2.1, zs_rs X.2.1, zs_lp X.2.1, zs_lk X.2.1, zs_ll X.2.1, zs_ld X.2.1, zs_lc X.2.1, (va_up (zs_tp X.2.1) (zs_nc X.2.1) x), (va_up (zs_tt X.2.1) (zs_nc X.2.1) y), (vp_updL (zs_ta X.2.1) (zs_nc X.2.1) c), zs_td X.2.1), X.2.2) : zs_X)) hR_29 (vp_updL (zs_td X.2.1) (zs_nc X.2.1) d)
  refine lv_aload_n hx hb dX6_move_41 rfl (lv_at hl 0 rfl) ?_
  refine lv_dup hx hb dX6_move_42 rfl ?_
  refine zk_get (ci := 6) (v := .int (nI (zs_nc X.2.1))) (C := RX6) (T := TX6) (N := 20) hx hb hts inw_wsX6_move_6 hown hK hH (hR_40.1 (8, 0, 0) ⟨by decide, rfl⟩) rfl 15 (by decide) (hts (.fieldLink RX6 75 "KegDepositsModel" "changes" "I") (by decide +kernel)) rfl dX6_move_43 ?_
  refine lv_iconst (v := 1) hx hb dX6_move_46 (by decide) ?_
  refine lv_iadd hx hb dX6_move_47 ?_
  refine zk_top (v' := .int (nI (zs_nc X.2.1 + 1))) (by rw [nI_1]) ?_
  refine zk_put (ci := 6) (v := .int (nI (zs_nc X.2.1 + 1))) (C := RX6) (T := TX6) (N := 20) hx hb hts inw_wsX6_move_6 tyX6 tyX6_ok nmX6 hown hK hH hS (hR_40.1 (8, 0, 0) ⟨by decide, rfl⟩) rfl 15 (by decide) (hts (.fieldLink RX6 75 "KegDepositsModel" "changes" "I") (by decide +kernel)) rfl rfl rfl (Nat.le_of_ble_eq_true rfl) dX6_move_48 (fun H locs hH hS => ?_)
  obtain ⟨M_48, eM_48⟩ : ∃ w_0 : zk_M, w_0 = zk_up M_40 (Z (8, 0, 0)) (.inr (6, [.int (nI (zs_np X.2.1)), .int (nI (zs_nk X.2.1)), .long (zs_ck X.2.1), .ref (Z (8, 1, 0)), .ref (Z (8, 2, 0)), .ref (Z (8, 3, 0)), .ref (Z (8, 4, 0)), .ref (Z (8, 5, 0)), .ref (Z (8, 6, 0)), .int (nI (zs_nl X.2.1)), .ref (Z (8, 7, 0)), .ref (Z (8, 8, 0)), .ref (Z (8, 9, 0)), .ref (Z (8, 10, 0)), .ref (Z (8, 11, 0)), .int (nI (zs_nc X.2.1 + 1)), .ref (Z (8, 12, 0)), .ref (Z (8, 13, 0)), .ref (Z (8, 14, 0)), .ref (Z (8, 15, 0))])) := ⟨_, rfl⟩
  have hH : zk_H g z M_48 H := by rw [eM_48]; exact hH
  have hR_48 : zs_R g ((X.1, (zs_np X.2.1, zs_nk X.2.1, zs_nl X.2.1, (zs_nc X.2.1 + 1), zs_ck X.2.1, zs_pn X.2.1, zs_pd X.2.1, zs_pc X.2.1, zs_sh X.2.1, zs_rs X.2.1, zs_lp X.2.1, zs_lk X.2.1, zs_ll X.2.1, zs_ld X.2.1, zs_lc X.2.1, (va_up (zs_tp X.2.1) (zs_nc X.2.1) x), (va_up (zs_tt X.2.1) (zs_nc X.2.1) y), (vp_updL (zs_ta X.2.1) (zs_nc X.2.1) c), (vp_updL (zs_td X.2.1) (zs_nc X.2.1) d)), X.2.2) : zs_X) Z M_48 := by rw [eM_48]; exact zs_Rm_nc (X := ((X.1, (zs_np X.2.1, zs_nk X.2.1, zs_nl X.2.1, zs_nc X.2.1, zs_ck X.2.1, zs_pn X.2.1, zs_pd X.2.1, zs_pc X.2.1, zs_sh X.2.1, zs_rs X.2.1, zs_lp X.2.1, zs_lk X.2.1, zs_ll X.2.1, zs_ld X.2.1, zs_lc X.2.1, (va_up (zs_tp X.2.1) (zs_nc X.2.1) x), (va_up (zs_tt X.2.1) (zs_nc X.2.1) y), (vp_updL (zs_ta X.2.1) (zs_nc X.2.1) c), (vp_updL (zs_td X.2.1) (zs_nc X.2.1) d)), X.2.2) : zs_X)) hR_40 (zs_nc X.2.1 + 1)
  exact zk_vret hx hb hr hlocks hH hS (by decide) (by decide) hR_48 dX6_move_51

theorem inw_wsX6_worth_6 : ∀ w ∈ u_ws RX6 TX6 20, w ∈ wsX6_worth := by decide +kernel
set_option maxHeartbeats 4000000 in
set_option maxRecDepth 100000 in
theorem zc_X6_worth (l : Launch) {g : zk_G} {z : Nat} {M : zk_M} {X : zs_X} {Z : zs_Z} (hR : zs_R g X Z M) (hl1 : zs_nl X.2.1 ≤ 4100) (hbb : ∀ i, i < zs_nl X.2.1 → zs_lp X.2.1 i < 2 ^ 31 ∧ zs_lk X.2.1 i < 2 ^ 31) (hnk : zs_nk X.2.1 ≤ 12) (hpn : ∀ k, zs_pn X.2.1 k ≤ 20) {p : Nat} (hp : p < 2 ^ 31) (d : Int64) : Met l yX6_worth wsX6_worth ({ frames := 1, cells := 0, slots := 0, locals := 30 } : Room) (va_Pc [.ref (Z (8, 0, 0)), .int (nI p), .long d] (zk_U g z M)) (vp_Sl (fun r => r = zs_worth X.2.1 p d)) 0 0 (fun _ => False) := by
  refine Met.ofW (cc := cX6_worth) (maxL := 7) (ret := (some .long)) (by decide) rfl ?_
  intro P0 e0 s m0 args below meth c0 s₁ B hml hv
  obtain ⟨rfl, hH, hK, hN⟩ := hv
  have hx := B.exec
  have hb := B.bytes
  have hr := B.returns
  have hts := atoms_spec (ws := wsX6_worth) B.pre
  have hown : s.vm.findClass RX6 = some m0.cls := findClass_of_methodNamed B.named
  have hlocks := B.notSynchronized
  have hl := lv_entry ([.ref (Z (8, 0, 0)), .int (nI p), .long d]) (n := 7) (Nat.le_of_ble_eq_true rfl)
  rw [lg_entry_eq]
  generalize (lg_sl ([.ref (Z (8, 0, 0)), .int (nI p), .long d]) ++ List.replicate (7 - (lg_sl ([.ref (Z (8, 0, 0)), .int (nI p), .long d])).length) Slot.unset).toArray = ls at hl ⊢
  have hl : lv_has ls 7 [(0, .ref (Z (8, 0, 0))), (1, .int (nI p)), (2, .long d)] := hl
  refine lv_lconst (v := 0) hx hb dX6_worth_0 (by decide) ?_
  refine lv_lstore (lv' := [(4, .long 0), (0, .ref (Z (8, 0, 0))), (1, .int (nI p)), (2, .long d)]) hx hb dX6_worth_1 hl (by decide) rfl (fun ls hl => ?_)
  refine lv_iconst (v := 0) hx hb dX6_worth_3 (by decide) ?_
  refine lv_istore (lv' := [(6, .int 0), (4, .long 0), (0, .ref (Z (8, 0, 0))), (1, .int (nI p)), (2, .long d)]) hx hb dX6_worth_4 hl (by decide) rfl (fun ls hl => ?_)
  have loop_6 : ∀ (n i : Nat) (acc : Int64) (ls : Array Slot), zs_nk X.2.1 - i < n → i ≤ zs_nk X.2.1 → acc = zs_sum (zs_worthf X.2.1 p d) i →  lv_has ls 7 [(6, .int (nI i)), (4, .long acc), (0, .ref (Z (8, 0, 0))), (1, .int (nI p)), (2, .long d)] → W P0 l e0 (headSpec wsX6_worth ({ frames := 1, cells := 0, slots := 0, locals := 30 } : Room)).room s m0 ([.ref (Z (8, 0, 0)), .int (nI p), .long d] : List Value).toArray below meth c0 s.heap [] 0 0 (MQ below (vp_Sl (fun r => r = zs_worth X.2.1 p d)) ([.ref (Z (8, 0, 0)), .int (nI p), .long d] : List Value).toArray s 0 0 (fun _ => False)) (F0 m0 6 ls []) := by
    intro n
    induction n with
    | zero => intro i acc ls hn hi; omega
    | succ n ih =>
      intro i acc ls hn hi hacc hl
      refine lv_iload hx hb dX6_worth_6 (lv_at hl 0 rfl) ?_
      refine lv_aload_n hx hb dX6_worth_8 rfl (lv_at hl 2 rfl) ?_
      refine zk_get (ci := 6) (v := .int (nI (zs_nk X.2.1))) (C := RX6) (T := TX6) (N := 20) hx hb hts inw_wsX6_worth_6 hown hK hH (hR.1 (8, 0, 0) ⟨by decide, rfl⟩) rfl 1 (by decide) (hts (.fieldLink RX6 60 "KegDepositsModel" "kinds" "I") (by decide +kernel)) rfl dX6_worth_9 ?_
      refine lv_icmp_ge (tgt := 41) hx hb dX6_worth_12 (by decide) (fun h_12 => ?_) (fun h_12 => ?_)
      · skip
        have hiN : i = zs_nk X.2.1 := by have := (nI_leI (a := zs_nk X.2.1) (b := i) (by omega) (by omega)).mp h_12; omega
        refine lv_lload hx hb dX6_worth_41 (lv_at hl 1 rfl) ?_
        exact zk_lretS hx hb hr hlocks (by rw [hacc, hiN]; rfl) dX6_worth_43
      · skip
        have hiN : i < zs_nk X.2.1 := Nat.lt_of_not_le (fun q => h_12 ((nI_leI (a := zs_nk X.2.1) (b := i) (by omega) (by omega)).mpr q))
        refine lv_lload hx hb dX6_worth_15 (lv_at hl 1 rfl) ?_
        refine lv_aload_n hx hb dX6_worth_17 rfl (lv_at hl 2 rfl) ?_
        refine lv_iload_n hx hb dX6_worth_18 rfl (lv_at hl 3 rfl) ?_
        refine lv_iload hx hb dX6_worth_19 (lv_at hl 0 rfl) ?_
        refine vp_callSl (W.runV (As := [.int (nI p), .int (nI i)]) (rest := [.long acc]) ⟨hx, hb, hml, hown, hts⟩ (zc_X6_has l hR hl1 hbb hp (k := i) (by omega)) (cwV 2 hts gX6_worth_X6_has rfl rfl rfl (by decide +kernel) ⟨Nat.le_of_ble_eq_true rfl, Nat.le_of_ble_eq_true rfl⟩) (zk_preV hH hK hN (hR.1 (8, 0, 0) ⟨by decide, rfl⟩) rfl) rfl rfl hl.1 rfl (lv_room (Nat.le_of_ble_eq_true rfl)) dX6_worth_21 ⟨(Nat.le_of_ble_eq_true rfl), (Nat.le_of_ble_eq_true rfl)⟩) (fun r_21 hr_21 => ?_)
        refine lv_aload_n hx hb dX6_worth_24 rfl (lv_at hl 2 rfl) ?_
        refine lv_iload hx hb dX6_worth_25 (lv_at hl 0 rfl) ?_
        refine lv_lload_n hx hb dX6_worth_27 rfl (lv_at hl 4 rfl) ?_
        refine vp_callSl (W.runV (As := [.int (nI i), .long d]) (rest := [.long r_21, .long acc]) ⟨hx, hb, hml, hown, hts⟩ (zc_X6_priceOn l hR (k := i) (by omega) (hpn i) d) (cwV 2 hts gX6_worth_X6_priceOn rfl rfl rfl (by decide +kernel) ⟨Nat.le_of_ble_eq_true rfl, Nat.le_of_ble_eq_true rfl⟩) (zk_preV hH hK hN (hR.1 (8, 0, 0) ⟨by decide, rfl⟩) rfl) rfl rfl hl.1 rfl (lv_room (Nat.le_of_ble_eq_true rfl)) dX6_worth_28 ⟨(Nat.le_of_ble_eq_true rfl), (Nat.le_of_ble_eq_true rfl)⟩) (fun r_28 hr_28 => ?_)
        refine lv_lmul hx hb dX6_worth_31 ?_
        refine lv_ladd hx hb dX6_worth_32 ?_
        refine lv_lstore (lv' := [(4, .long (acc + (r_21 * r_28))), (6, .int (nI i)), (0, .ref (Z (8, 0, 0))), (1, .int (nI p)), (2, .long d)]) hx hb dX6_worth_33 hl (by decide) rfl (fun ls hl => ?_)
        refine lv_iinc (v := nI (i + 1)) (lv' := [(6, .int (nI (i + 1))), (4, .long (acc + (r_21 * r_28))), (0, .ref (Z (8, 0, 0))), (1, .int (nI p)), (2, .long d)]) hx hb dX6_worth_35 hl (k := 1) rfl (nI_1 i) (by decide) rfl (fun ls hl => ?_)
        refine lv_goto (tgt := 6) hx hb dX6_worth_38 (by decide) ?_
        exact ih (i + 1) _ ls (by omega) (by omega) (by rw [hacc, hr_21, hr_28]; rfl) (lv_sub hl [0, 1, 2, 3, 4] rfl)
  exact loop_6 (zs_nk X.2.1 + 1) 0 0 ls (by omega) (Nat.zero_le _) rfl (lv_sub hl [0, 1, 2, 3, 4] rfl)
