theorem zc_X5_move_at (l : Launch) {g : zk_G} {z : Nat} {M : zk_M} {X : zs_X} {Z : zs_Z} {n : Nat} (hR : zs_R g X Z M) (hI : zs_I X.1 n) {x y : Nat} (hx0 : x < zs_np X.1) (hy0 : y < zs_np X.1) (d c : Int64) {o ax ay : Nat} (eo : o = Z (0, 0, 0)) (ex : ax = Z (3, x, 0)) (ey : ay = Z (3, y, 0)) : Met l yX5_move wsX5_move ({ frames := 2, cells := 1, slots := 5, locals := 39 } : Room) (va_Pc [.ref o, .long d, .long c, .ref ax, .ref ay] (zk_U g z M)) (va_Qv (fun u => zs_P g X Z (zs_mv X.1 x y c d, X.2) u) (zk_B g z) (fun q => z ≤ q)) 1 5 (fun q => z ≤ q) := by
  subst eo; subst ex; subst ey
  exact zc_X5_move l hR hI hx0 hy0 d c
theorem zs_ne {g : zk_G} {X : zs_X} {Z : zs_Z} {M : zk_M} (hR : zs_R g X Z M) {q r : zs_L} (hq : zs_ok X q) (hr : zs_ok X r) (h : q ≠ r) : Z q ≠ Z r := fun e => h (hR.2 q r hq hr e)
theorem zs_gcd_step {x y i : Nat} (hy : 0 < y) (hyx : y < x) (h : x * y * 2 ^ i ≤ 100000000) : y * (x % y) * 2 ^ (i + 1) ≤ 100000000 := by
  have h1 : x % y < y := Nat.mod_lt x hy
  have h2 : y + x % y ≤ x := by
    have := Nat.div_add_mod x y
    have h3 : 1 ≤ x / y := (Nat.one_le_div_iff hy).mpr (Nat.le_of_lt hyx)
    have h4 : y * 1 ≤ y * (x / y) := Nat.mul_le_mul_left y h3
    omega
  have h5 : 2 * (x % y) ≤ x := by omega
  calc y * (x % y) * 2 ^ (i + 1) = y * (2 * (x % y)) * 2 ^ i := by rw [Nat.pow_succ]; ac_rfl
    _ ≤ y * x * 2 ^ i := Nat.mul_le_mul_right _ (Nat.mul_le_mul_left y h5)
    _ = x * y * 2 ^ i := by rw [Nat.mul_comm y x]
    _ ≤ _ := h
theorem zs_gcd_end {x y : Nat} (hx : 0 < x) (h : x * y * 2 ^ 100 ≤ 100000000) : y = 0 := by
  rcases Nat.eq_zero_or_pos y with q | q
  · exact q
  · exfalso
    have h1 : 1 ≤ x * y := Nat.mul_pos hx q
    have h2 : 1 * 2 ^ 100 ≤ x * y * 2 ^ 100 := Nat.mul_le_mul_right _ h1
    have h3 : (100000000 : Nat) < 1 * 2 ^ 100 := by decide
    omega
theorem zs_lost_all {S : zs_S} (hI : zs_Il S) (hnp : zs_np S ≤ 24) (k : Nat) (d : Int64) : zs_sum (fun p => if p < zs_np S then zs_pup S p k d else 0) 24 = zs_sum (zs_lostf S k d) (zs_nl S) := by
  rw [zs_sum_to (a := zs_np S) hnp (fun j h1 h2 => if_neg (by omega)), ← zs_sum_swap (lp := zs_lp S) (b := zs_lostf S k d) (P := zs_np S) (zs_nl S) (fun i hi => (hI.1 i hi).1)]
  refine zs_sum_congr _ (fun p hp => ?_)
  rw [if_pos hp]
  refine zs_sum_congr _ (fun i _ => ?_)
  unfold zs_pupf zs_lostf
  by_cases h1 : zs_lp S i = p <;> by_cases h2 : zs_lk S i = k <;> by_cases h3 : zs_ld S i ≤ d <;> simp [h1, h2, h3]
theorem zs_sum_neg {f : Nat → Int64} (n : Nat) : zs_sum (fun i => -f i) n + zs_sum f n = 0 := by
  rw [← zs_sum_add]
  rw [zs_sum_congr (g := fun _ => 0) n (fun j _ => Int64.add_left_neg (f j))]
  exact zs_sum_to (a := 0) (Nat.zero_le _) (fun _ _ _ => rfl)
theorem zs_bal_all {S : zs_S} (hI : zs_It S) (hnp : zs_np S ≤ 24) (d : Int64) : zs_sum (fun p => if p < zs_np S then zs_bal S p d else 0) 24 = 0 := by
  rw [zs_sum_to (a := zs_np S) hnp (fun j h1 h2 => if_neg (by omega))]
  have e : ∀ p, p < zs_np S → (if p < zs_np S then zs_bal S p d else 0) = zs_sum (fun i => if zs_tp S i = p then (if zs_td S i ≤ d then -zs_ta S i else 0) else 0) (zs_nc S) + zs_sum (fun i => if zs_tt S i = p then (if zs_td S i ≤ d then zs_ta S i else 0) else 0) (zs_nc S) := by
    intro p hp
    rw [if_pos hp, ← zs_sum_add]
    refine zs_sum_congr _ (fun i hi => ?_)
    have h3 := (hI i hi).2.2
    unfold zs_balf zs_chg
    by_cases h1 : zs_td S i ≤ d
    · by_cases h2 : zs_tp S i = p
      · have h4 : ¬ zs_tt S i = p := fun q => h3 (h2.trans q.symm)
        simp [h1, h2, h4]
      · by_cases h4 : zs_tt S i = p <;> simp [h1, h2, h4]
    · simp [h1]
  rw [zs_sum_congr _ e, zs_sum_add, zs_sum_swap (lp := zs_tp S) (P := zs_np S) _ (fun i hi => (hI i hi).1), zs_sum_swap (lp := zs_tt S) (P := zs_np S) _ (fun i hi => (hI i hi).2.1)]
  rw [zs_sum_congr (g := fun i => -(if zs_td S i ≤ d then zs_ta S i else 0)) (f := fun i => if zs_td S i ≤ d then -zs_ta S i else 0) _ (fun i _ => by by_cases h1 : zs_td S i ≤ d <;> simp [h1])]
  exact zs_sum_neg _
theorem zs_ok_lay {X : zs_X} {p k : Nat} {num d c : Int64} (q : zs_L) (h : zs_ok X q) : zs_ok (zs_lay X.1 p k num d c, X.2) q := by
  rcases q with ⟨t, i, b⟩
  match t with
  | 6 => exact ⟨Nat.lt_succ_of_lt h.1, h.2⟩
  | 0 | 1 | 2 | 3 | 4 | 5 | 7 | 8 => exact h
  | n + 9 => exact h
theorem zs_rn_of {S : zs_S} {k : Nat} (h0 : 0 ≤ zs_rs S k) (h1 : zs_rs S k < 10000) : zs_rs S k = lN (zs_rn S k) ∧ zs_rn S k < 10000 := by
  obtain ⟨r, r1, e⟩ := pk_lOf (Int64.not_lt.mpr h0)
  have h2 : r < 10000 := (pk_lLT r1 (by decide)).mp (by rw [← e]; exact h1)
  have h3 : zs_rn S k = r := by unfold zs_rn; rw [e, pk_lT r1]; rfl
  rw [h3]
  exact ⟨e, h2⟩
theorem inw_wsX5_out_1 : ∀ w ∈ u_ws RX1 TX1 5, w ∈ wsX5_out := by decide +kernel
theorem inw_wsX5_out_5 : ∀ w ∈ u_ws RX5 TX5 6, w ∈ wsX5_out := by decide +kernel
set_option maxHeartbeats 4000000 in
set_option maxRecDepth 100000 in
theorem zc_X5_out (l : Launch) {g : zk_G} {z : Nat} {M : zk_M} {X : zs_X} {Z : zs_Z} {n : Nat} (hR : zs_R g X Z M) (hI : zs_I X.1 n) (hn : zs_nc X.1 < 512) (hnl : zs_nl X.1 < n) (x y : Int32) (num d : Int64) : Met l yX5_out wsX5_out ({ frames := 3, cells := 2, slots := 10, locals := 65 } : Room) (va_Pc [.ref (Z (0, 0, 0)), .int x, .int y, .long num, .long d] (zk_U g z M)) (va_Qi (fun r u => r = (zs_fout X.1 x y num d).1 ∧ zs_P g X Z ((zs_fout X.1 x y num d).2, X.2) u) (zk_B g z) (fun q => z ≤ q)) 2 10 (fun q => z ≤ q) := by
  refine Met.ofW (cc := cX5_out) (maxL := 11) (ret := (some .boolean)) (by decide) rfl ?_
  intro P0 e0 s m0 args below meth c0 s₁ B hml hv
  obtain ⟨rfl, hH, hK, hN⟩ := hv
  have hx := B.exec
  have hb := B.bytes
  have hr := B.returns
  have hts := atoms_spec (ws := wsX5_out) B.pre
  have hown : s.vm.findClass RX5 = some m0.cls := findClass_of_methodNamed B.named
  have hlocks := B.notSynchronized
  have hS : va_S (fun q => z ≤ q) s.heap s.heap [] := va_S.rf
  have hl := lv_entry ([.ref (Z (0, 0, 0)), .int x, .int y, .long num, .long d]) (n := 11) (Nat.le_of_ble_eq_true rfl)
  rw [lg_entry_eq]
  generalize (lg_sl ([.ref (Z (0, 0, 0)), .int x, .int y, .long num, .long d]) ++ List.replicate (11 - (lg_sl ([.ref (Z (0, 0, 0)), .int x, .int y, .long num, .long d])).length) Slot.unset).toArray = ls at hl ⊢
  have hl : lv_has ls 11 [(0, .ref (Z (0, 0, 0))), (1, .int x), (2, .int y), (3, .long num), (5, .long d)] := hl
  have hO : M (Z (0, 0, 0)) = some (.inr (5, [.ref (Z (3, 0, 0)), .ref (Z (1, 0, 0)), .ref (Z (2, 0, 0)), va_rf (zs_prev (zs_nc X.1) (fun i => Z (7, i, 0))), .int (nI (zs_nc X.1)), .long (zs_ck X.1)])) := hR.1 (0, 0, 0) ⟨rfl, rfl⟩
  refine lv_aload_n hx hb dX5_out_0 rfl (lv_at hl 0 rfl) ?_
  refine lv_iload_n hx hb dX5_out_1 rfl (lv_at hl 1 rfl) ?_
  refine va_csq (W.runV (As := [.int x]) (rest := []) ⟨hx, hb, hml, hown, hts⟩ (zc_X5_customerAt l hR hI.1.2.1 x) (cwV 1 hts gX5_out_X5_customerAt rfl rfl rfl (by decide +kernel) ⟨Nat.le_of_ble_eq_true rfl, Nat.le_of_ble_eq_true rfl⟩) (zk_preV hH hK hN hO rfl) rfl rfl hl.1 rfl (lv_room (Nat.le_of_ble_eq_true rfl)) dX5_out_2 ⟨(Nat.le_of_ble_eq_true rfl), (Nat.le_of_ble_eq_true rfl)⟩) (fun r_2 hr_2 => ?_)
  cases hx_2 : zs_cx (zs_np X.1) x with
  | none =>
    refine zk_top (v' := .null) (by rw [hr_2, hx_2]; rfl) ?_
    refine lv_astoreN (lv' := [(7, .null), (0, .ref (Z (0, 0, 0))), (1, .int x), (2, .int y), (3, .long num), (5, .long d)]) hx hb dX5_out_5 hl (by decide) rfl (fun ls hl => ?_)
    refine lv_aload_n hx hb dX5_out_7 rfl (lv_at hl 1 rfl) ?_
    refine lv_iload_n hx hb dX5_out_8 rfl (lv_at hl 3 rfl) ?_
    refine va_csq (W.runV (As := [.int y]) (rest := []) ⟨hx, hb, hml, hown, hts⟩ (zc_X5_kindAt l hR hI.1.2.2.1 y) (cwV 1 hts gX5_out_X5_kindAt rfl rfl rfl (by decide +kernel) ⟨Nat.le_of_ble_eq_true rfl, Nat.le_of_ble_eq_true rfl⟩) (zk_preV hH hK hN hO rfl) rfl rfl hl.1 rfl (lv_room (Nat.le_of_ble_eq_true rfl)) dX5_out_9 ⟨(Nat.le_of_ble_eq_true rfl), (Nat.le_of_ble_eq_true rfl)⟩) (fun r_9 hr_9 => ?_)
    refine zk_astore (lv' := [(8, va_rf r_9), (7, .null), (0, .ref (Z (0, 0, 0))), (1, .int x), (2, .int y), (3, .long num), (5, .long d)]) hx hb dX5_out_12 hl (by decide) rfl (fun ls hl => ?_)
    refine lv_aloadN hx hb dX5_out_14 (lv_at hl 1 rfl) ?_
    refine lv_ifnullN (tgt := 50) hx hb dX5_out_16 (by decide) ?_
    refine lv_iconst (v := 0) hx hb dX5_out_50 (by decide) ?_
    exact zk_zret hx hb hr hlocks (by first | rfl | decide) hH hS (by decide) (by decide) (zs_no hR (by simp only [zs_fout, hx_2])) dX5_out_51
  | some p =>
    refine zk_top (v' := .ref (Z (3, p, 0))) (by rw [hr_2, hx_2]; rfl) ?_
    obtain ⟨hp, ex_p, hz_p⟩ := zs_cx_some (by have := hI.1.2.1; omega) hx_2
    refine lv_astore (lv' := [(7, .ref (Z (3, p, 0))), (0, .ref (Z (0, 0, 0))), (1, .int x), (2, .int y), (3, .long num), (5, .long d)]) hx hb dX5_out_5 hl (by decide) rfl (fun ls hl => ?_)
    refine lv_aload_n hx hb dX5_out_7 rfl (lv_at hl 1 rfl) ?_
    refine lv_iload_n hx hb dX5_out_8 rfl (lv_at hl 3 rfl) ?_
    refine va_csq (W.runV (As := [.int y]) (rest := []) ⟨hx, hb, hml, hown, hts⟩ (zc_X5_kindAt l hR hI.1.2.2.1 y) (cwV 1 hts gX5_out_X5_kindAt rfl rfl rfl (by decide +kernel) ⟨Nat.le_of_ble_eq_true rfl, Nat.le_of_ble_eq_true rfl⟩) (zk_preV hH hK hN hO rfl) rfl rfl hl.1 rfl (lv_room (Nat.le_of_ble_eq_true rfl)) dX5_out_9 ⟨(Nat.le_of_ble_eq_true rfl), (Nat.le_of_ble_eq_true rfl)⟩) (fun r_9 hr_9 => ?_)
    cases hx_9 : zs_ix (zs_nk X.1) y with
    | none =>
      refine zk_top (v' := .null) (by rw [hr_9, hx_9]; rfl) ?_
      refine lv_astoreN (lv' := [(8, .null), (7, .ref (Z (3, p, 0))), (0, .ref (Z (0, 0, 0))), (1, .int x), (2, .int y), (3, .long num), (5, .long d)]) hx hb dX5_out_12 hl (by decide) rfl (fun ls hl => ?_)
      refine lv_aload hx hb dX5_out_14 (lv_at hl 1 rfl) ?_
      refine lv_ifnull hx hb dX5_out_16 ?_
      refine lv_aloadN hx hb dX5_out_19 (lv_at hl 0 rfl) ?_
      refine lv_ifnullN (tgt := 50) hx hb dX5_out_21 (by decide) ?_
      refine lv_iconst (v := 0) hx hb dX5_out_50 (by decide) ?_
      exact zk_zret hx hb hr hlocks (by first | rfl | decide) hH hS (by decide) (by decide) (zs_no hR (by simp only [zs_fout, hx_2, hx_9])) dX5_out_51
    | some k =>
      refine zk_top (v' := .ref (Z (4, k, 0))) (by rw [hr_9, hx_9]; rfl) ?_
      obtain ⟨hk, ex_k⟩ := zs_ix_some (by have := hI.1.2.1; have := hI.1.2.2.1; omega) hx_9
      refine lv_astore (lv' := [(8, .ref (Z (4, k, 0))), (7, .ref (Z (3, p, 0))), (0, .ref (Z (0, 0, 0))), (1, .int x), (2, .int y), (3, .long num), (5, .long d)]) hx hb dX5_out_12 hl (by decide) rfl (fun ls hl => ?_)
      refine lv_aload hx hb dX5_out_14 (lv_at hl 1 rfl) ?_
      refine lv_ifnull hx hb dX5_out_16 ?_
      refine lv_aload hx hb dX5_out_19 (lv_at hl 0 rfl) ?_
      refine lv_ifnull hx hb dX5_out_21 ?_
      refine lv_lload_n hx hb dX5_out_24 rfl (lv_at hl 5 rfl) ?_
      refine vp_callSi (W.runS (As := [.long num]) (rest := []) ⟨hx, hb, hml, hown, hts⟩ (zc_X5_isNumber l num) (va_cwS 1 hts gX5_out_X5_isNumber rfl rfl rfl (by decide +kernel) ⟨Nat.le_of_ble_eq_true rfl, Nat.le_of_ble_eq_true rfl⟩) (zk_preS hH hK hN) rfl rfl hl.1 rfl (lv_room (Nat.le_of_ble_eq_true rfl)) dX5_out_25 ⟨(Nat.le_of_ble_eq_true rfl), (Nat.le_of_ble_eq_true rfl)⟩) (fun r_25 hr_25 => ?_)
      refine lv_if_eq (tgt := 50) hx hb dX5_out_28 (by decide) (fun h_28 => ?_) (fun h_28 => ?_)
      · skip
        have hnum : ¬ (zs_isN num) := zs_b0 hr_25 h_28
        refine lv_iconst (v := 0) hx hb dX5_out_50 (by decide) ?_
        exact zk_zret hx hb hr hlocks (by first | rfl | decide) hH hS (by decide) (by decide) (zs_no hR (by simp only [zs_fout, hx_2, hx_9]; exact if_neg (fun q => hnum q.1))) dX5_out_51
      · skip
        have hnum : zs_isN num := zs_b1 hr_25 h_28
        refine lv_aload_n hx hb dX5_out_31 rfl (lv_at hl 2 rfl) ?_
        refine lv_lload hx hb dX5_out_32 (lv_at hl 6 rfl) ?_
        refine vp_callSi (W.runV (As := [.long d]) (rest := []) ⟨hx, hb, hml, hown, hts⟩ (zc_X5_mayMoveOn l hR hn d) (cwV 1 hts gX5_out_X5_mayMoveOn rfl rfl rfl (by decide +kernel) ⟨Nat.le_of_ble_eq_true rfl, Nat.le_of_ble_eq_true rfl⟩) (zk_preV hH hK hN hO rfl) rfl rfl hl.1 rfl (lv_room (Nat.le_of_ble_eq_true rfl)) dX5_out_34 ⟨(Nat.le_of_ble_eq_true rfl), (Nat.le_of_ble_eq_true rfl)⟩) (fun r_34 hr_34 => ?_)
        refine lv_if_eq (tgt := 50) hx hb dX5_out_37 (by decide) (fun h_37 => ?_) (fun h_37 => ?_)
        · skip
          have hmay : ¬ (zs_isD d ∧ zs_ck X.1 ≤ d) := zs_b0 hr_34 h_37
          refine lv_iconst (v := 0) hx hb dX5_out_50 (by decide) ?_
          exact zk_zret hx hb hr hlocks (by first | rfl | decide) hH hS (by decide) (by decide) (zs_no hR (by simp only [zs_fout, hx_2, hx_9]; exact if_neg (fun q => hmay q.2.1))) dX5_out_51
        · skip
          have hmay : zs_isD d ∧ zs_ck X.1 ≤ d := zs_b1 hr_34 h_37
          refine lv_aload_n hx hb dX5_out_40 rfl (lv_at hl 2 rfl) ?_
          refine vp_callSi (W.runV (As := []) (rest := []) ⟨hx, hb, hml, hown, hts⟩ (zc_X5_layersInUse l hR hI.2.2.1 hI.1.2.1) (cwV 0 hts gX5_out_X5_layersInUse rfl rfl rfl (by decide +kernel) ⟨Nat.le_of_ble_eq_true rfl, Nat.le_of_ble_eq_true rfl⟩) (zk_preV hH hK hN hO rfl) rfl rfl hl.1 rfl (lv_room (Nat.le_of_ble_eq_true rfl)) dX5_out_41 ⟨(Nat.le_of_ble_eq_true rfl), (Nat.le_of_ble_eq_true rfl)⟩) (fun r_41 hr_41 => ?_)
          refine lv_sipush (v := 400) hx hb dX5_out_44 (by decide) ?_
          refine lv_icmp_lt (tgt := 52) hx hb dX5_out_47 (by decide) (fun h_47 => ?_) (fun h_47 => ?_)
          · skip
            have hcn : zs_cnt (zs_ll X.1) (zs_nl X.1) < 400 := Decidable.byContradiction (fun q => nI_nlt (a := zs_cnt (zs_ll X.1) (zs_nl X.1)) (b := 400) (Nat.not_lt.mp q) (by have := hI.2.2.1.2; omega) (by rw [hr_41] at h_47; exact h_47))
            refine lv_aload hx hb dX5_out_52 (lv_at hl 0 rfl) ?_
            refine lv_lload hx hb dX5_out_54 (lv_at hl 6 rfl) ?_
            refine vp_callSl (W.runV (As := [.long d]) (rest := []) ⟨hx, hb, hml, hown, hts⟩ (zc_X0_priceOn l hR hI.2.1 hk d) (cwV 1 hts gX5_out_X0_priceOn rfl rfl rfl (by decide +kernel) ⟨Nat.le_of_ble_eq_true rfl, Nat.le_of_ble_eq_true rfl⟩) (zk_preV hH hK hN (hR.1 (4, k, 0) ⟨hk, rfl⟩) rfl) rfl rfl hl.1 rfl (lv_room (Nat.le_of_ble_eq_true rfl)) dX5_out_56 ⟨(Nat.le_of_ble_eq_true rfl), (Nat.le_of_ble_eq_true rfl)⟩) (fun r_56 hr_56 => ?_)
            subst hr_56
            refine lv_lstore (lv' := [(9, .long (zs_pr X.1 k d)), (8, .ref (Z (4, k, 0))), (7, .ref (Z (3, p, 0))), (0, .ref (Z (0, 0, 0))), (1, .int x), (2, .int y), (3, .long num), (5, .long d)]) hx hb dX5_out_59 hl (by decide) rfl (fun ls hl => ?_)
            refine lv_aload hx hb dX5_out_61 (lv_at hl 2 rfl) ?_
            refine zk_new (ci := 1) (fs := [.null, .long 0, .long 0, .long 0, .null]) (C := RX1) (T := TX1) (N := 5) hx hb hts inw_wsX5_out_1 tyX1 tyX1_ok hown (hts (.classLink RX5 59 RX1) (by decide +kernel)) (hts (.instantiable RX1 5) (by decide +kernel)) (hts (.initialized RX1) (by decide +kernel)) hK hH hS rfl (fun j hj => by rcases (show j = 0 ∨ j = 1 ∨ j = 2 ∨ j = 3 ∨ j = 4 by omega) with rfl | rfl | rfl | rfl | rfl <;> rfl) (Nat.le_of_ble_eq_true rfl) (Nat.le_of_ble_eq_true rfl) dX5_out_63 (fun q_63 H hf_63 hH hS => ?_)
            obtain ⟨M_63, eM_63⟩ : ∃ w_0 : zk_M, w_0 = zk_up M q_63 (.inr (1, [.null, .long 0, .long 0, .long 0, .null])) := ⟨_, rfl⟩
            have hH : zk_H g z M_63 H := by rw [eM_63]; exact hH
            have f_63_0 : M_63 (Z (0, 0, 0)) = some (.inr (5, [.ref (Z (3, 0, 0)), .ref (Z (1, 0, 0)), .ref (Z (2, 0, 0)), va_rf (zs_prev (zs_nc X.1) (fun i => Z (7, i, 0))), .int (nI (zs_nc X.1)), .long (zs_ck X.1)])) := by rw [eM_63, zk_up_n _ _ (zk_ne_none hO hf_63)]; exact hO
            have e_63 : M_63 q_63 = some (.inr (1, [.null, .long 0, .long 0, .long 0, .null])) := by rw [eM_63]; exact zk_up_s _ _ _
            refine lv_dup hx hb dX5_out_66 rfl ?_
            refine lv_aload hx hb dX5_out_67 (lv_at hl 1 rfl) ?_
            refine lv_lload hx hb dX5_out_69 (lv_at hl 7 rfl) ?_
            refine lv_lload_n hx hb dX5_out_71 rfl (lv_at hl 6 rfl) ?_
            refine lv_lload hx hb dX5_out_72 (lv_at hl 0 rfl) ?_
            refine zk_callv (va_runI (As := [.ref (Z (4, k, 0)), .long d, .long num, .long (zs_pr X.1 k d)]) (rest := [.ref q_63, .ref (Z (3, p, 0))]) ⟨hx, hb, hml, hown, hts⟩ (zc_X1_init l d num (zs_pr X.1 k d) e_63) (cwI 4 hts gX5_out_X1_init rfl rfl rfl (hts (.initialized RX1) (by decide +kernel)) (hts (.methodLink RX5 61 yX1_init) (by decide +kernel)) (hts (.instanceMethod yX1_init) (by decide +kernel)) rfl (by decide +kernel) ⟨Nat.le_of_ble_eq_true rfl, Nat.le_of_ble_eq_true rfl⟩) (zk_preS hH hK hN) rfl rfl hl.1 rfl (lv_room (Nat.le_of_ble_eq_true rfl)) dX5_out_74 ⟨(Nat.le_of_ble_eq_true rfl), (Nat.le_of_ble_eq_true rfl)⟩) hS (fun u_74 H locs hH hr_74 hS => ?_)
            have hR2 : zs_R g X Z u_74 := zs_R_fresh hR hf_63 (fun b hb => (hr_74.2 b hb).trans (by rw [eM_63, zk_up_n _ _ hb]))
            refine zk_callv (va_runV (As := [.ref q_63]) (rest := []) ⟨hx, hb, hml, hown, hts⟩ (zc_X2_addLayer l hR2 (a := q_63) hp) (cwV 1 hts gX5_out_X2_addLayer rfl rfl rfl (by decide +kernel) ⟨Nat.le_of_ble_eq_true rfl, Nat.le_of_ble_eq_true rfl⟩) (zk_preV hH hK hN (hR2.1 (3, p, 0) ⟨hp, rfl⟩) rfl) rfl rfl hl.1 rfl (lv_room (Nat.le_of_ble_eq_true rfl)) dX5_out_77 ⟨(Nat.le_of_ble_eq_true rfl), (Nat.le_of_ble_eq_true rfl)⟩) hS (fun u_77 H locs hH hr_77 hS => ?_)
            have hM3 : ∀ b, b ≠ q_63 → b ≠ Z (3, p, 0) → (∀ i, zs_lst (zs_lp X.1) p (zs_nl X.1) = some i → b ≠ Z (6, i, 0)) → u_77 b = M b := fun b h1 h2 h3 => (hr_77.2.2 b h2 h3).trans ((hr_74.2 b h1).trans (by rw [eM_63, zk_up_n _ _ h1]))
            have hqa : ∀ q, zs_ok X q → q_63 ≠ Z q := fun q hq e => by have h1 := hR.1 q hq; rw [← e, hf_63] at h1; cases h1
            have hR3 := zs_R_lay hR hI hp hk num d (zs_pr X.1 k d) hf_63 hM3 hr_77.1 hr_77.2.1 ((hr_77.2.2 q_63 (hqa (3, p, 0) ⟨hp, rfl⟩) (fun i hi => hqa (6, i, 0) ⟨(zs_lst_some hi).1, rfl⟩)).trans hr_74.1)
            have hO2 : u_77 (Z (0, 0, 0)) = some (.inr (5, [.ref (Z (3, 0, 0)), .ref (Z (1, 0, 0)), .ref (Z (2, 0, 0)), va_rf (zs_prev (zs_nc X.1) (fun i => Z (7, i, 0))), .int (nI (zs_nc X.1)), .long (zs_ck X.1)])) := (hM3 _ (fun e => hqa (0, 0, 0) ⟨rfl, rfl⟩ e.symm) (zs_ne hR ⟨rfl, rfl⟩ ⟨hp, rfl⟩ (by simp)) (fun i hi => zs_ne hR ⟨rfl, rfl⟩ ⟨(zs_lst_some hi).1, rfl⟩ (by simp))).trans hO
            have hZ1 : ∀ q, zs_ok X q → zs_Zup Z (6, zs_nl X.1, 0) q_63 q = Z q := fun q hq => zs_Zup_n Z _ (fun e => absurd (e ▸ hq : zs_ok X (6, zs_nl X.1, 0)).1 (Nat.lt_irrefl _))
            have hI3 : zs_I (zs_lay X.1 p k num d (zs_pr X.1 k d)) n := zs_I_lay hI hnl hp hk _ hnum hmay.1 hcn
            refine lv_aload_n hx hb dX5_out_80 rfl (lv_at hl 3 rfl) ?_
            refine lv_lload hx hb dX5_out_81 (lv_at hl 7 rfl) ?_
            refine lv_lload_n hx hb dX5_out_83 rfl (lv_at hl 6 rfl) ?_
            refine lv_lload hx hb dX5_out_84 (lv_at hl 0 rfl) ?_
            refine lv_lmul hx hb dX5_out_86 ?_
            refine lv_aload hx hb dX5_out_87 (lv_at hl 2 rfl) ?_
            refine lv_aload_n hx hb dX5_out_89 rfl (lv_at hl 3 rfl) ?_
            refine zk_get (ci := 5) (v := .ref (Z (3, 0, 0))) (C := RX5) (T := TX5) (N := 6) hx hb hts inw_wsX5_out_5 hown hK hH hO2 rfl 0 (by decide) (hts (.fieldLink RX5 10 "KegDeposits" "house" "LKegDeposits$Party;") (by decide +kernel)) rfl dX5_out_90 ?_
            refine zk_callv (va_runV (As := [.long d, .long (num * zs_pr X.1 k d), .ref (Z (3, p, 0)), .ref (Z (3, 0, 0))]) (rest := []) ⟨hx, hb, hml, hown, hts⟩ (zc_X5_move_at l (X := (zs_lay X.1 p k num d (zs_pr X.1 k d), X.2)) hR3 hI3 (x := p) (y := 0) hp hI.1.1 d (num * zs_pr X.1 k d) (hZ1 (0, 0, 0) ⟨rfl, rfl⟩).symm (hZ1 (3, p, 0) ⟨hp, rfl⟩).symm (hZ1 (3, 0, 0) ⟨hI.1.1, rfl⟩).symm) (cwV 4 hts gX5_out_X5_move rfl rfl rfl (by decide +kernel) ⟨Nat.le_of_ble_eq_true rfl, Nat.le_of_ble_eq_true rfl⟩) (zk_preV hH hK hN hO2 rfl) rfl rfl hl.1 rfl (lv_room (Nat.le_of_ble_eq_true rfl)) dX5_out_93 ⟨(Nat.le_of_ble_eq_true rfl), (Nat.le_of_ble_eq_true rfl)⟩) hS (fun u_93 H locs hH hr_93 hS => ?_)
            refine lv_iconst (v := 1) hx hb dX5_out_96 (by decide) ?_
            exact zk_zret hx hb hr hlocks (by first | rfl | decide) hH hS (by decide) (by decide) (zs_yes (by simp only [zs_fout, hx_2, hx_9]; exact if_pos ⟨hnum, hmay, hcn⟩) (zs_P_trans hr_93 hZ1 (fun q hq => zs_ok_lay q hq))) dX5_out_97
          · skip
            have hcn : ¬ zs_cnt (zs_ll X.1) (zs_nl X.1) < 400 := fun q => h_47 (by rw [hr_41]; exact nI_lt (b := 400) q (by decide))
            refine lv_iconst (v := 0) hx hb dX5_out_50 (by decide) ?_
            exact zk_zret hx hb hr hlocks (by first | rfl | decide) hH hS (by decide) (by decide) (zs_no hR (by simp only [zs_fout, hx_2, hx_9]; exact if_neg (fun q => hcn q.2.2))) dX5_out_51

set_option maxHeartbeats 4000000 in
set_option maxRecDepth 100000 in
theorem zc_X5_commonDivisor (l : Launch) {g : zk_G} {z : Nat} {M : zk_M} (r : Nat) (hr0 : r < 10000) : Met l yX5_commonDivisor wsX5_commonDivisor ({ frames := 0, cells := 0, slots := 0, locals := 0 } : Room) (va_Pc [.long 10000, .long (lN r)] (zk_U g z M)) (vp_Sl (fun v => v = lN (Nat.gcd 10000 r))) 0 0 (fun _ => False) := by
  refine Met.ofW (cc := cX5_commonDivisor) (maxL := 11) (ret := (some .long)) (by decide) rfl ?_
  intro P0 e0 s m0 args below meth c0 s₁ B hml hv
  obtain ⟨rfl, hH, hK, hN⟩ := hv
  have hx := B.exec
  have hb := B.bytes
  have hr := B.returns
  have hts := atoms_spec (ws := wsX5_commonDivisor) B.pre
  have hown : s.vm.findClass RX5 = some m0.cls := findClass_of_methodNamed B.named
  have hlocks := B.notSynchronized
  have hl := lv_entry ([.long 10000, .long (lN r)]) (n := 11) (Nat.le_of_ble_eq_true rfl)
  rw [lg_entry_eq]
  generalize (lg_sl ([.long 10000, .long (lN r)]) ++ List.replicate (11 - (lg_sl ([.long 10000, .long (lN r)])).length) Slot.unset).toArray = ls at hl ⊢
  have hl : lv_has ls 11 [(0, .long 10000), (2, .long (lN r))] := hl
  refine lv_lload_n hx hb dX5_commonDivisor_0 rfl (lv_at hl 0 rfl) ?_
  refine lv_lstore (lv' := [(4, .long 10000), (0, .long 10000), (2, .long (lN r))]) hx hb dX5_commonDivisor_1 hl (by decide) rfl (fun ls hl => ?_)
  refine lv_lload_n hx hb dX5_commonDivisor_3 rfl (lv_at hl 2 rfl) ?_
  refine lv_lstore (lv' := [(6, .long (lN r)), (4, .long 10000), (0, .long 10000), (2, .long (lN r))]) hx hb dX5_commonDivisor_4 hl (by decide) rfl (fun ls hl => ?_)
  refine lv_iconst (v := 0) hx hb dX5_commonDivisor_6 (by decide) ?_
  refine lv_istore (lv' := [(8, .int 0), (6, .long (lN r)), (4, .long 10000), (0, .long 10000), (2, .long (lN r))]) hx hb dX5_commonDivisor_7 hl (by decide) rfl (fun ls hl => ?_)
  have loop : ∀ (n i x y : Nat) (ls : Array Slot), 100 - i < n → i ≤ 100 → 0 < x → x ≤ 10000 → y < x → Nat.gcd x y = Nat.gcd 10000 r → x * y * 2 ^ i ≤ 100000000 → lv_has ls 11 [(8, .int (nI i)), (4, .long (lN x)), (6, .long (lN y)), (0, .long 10000), (2, .long (lN r))] → W P0 l e0 (headSpec wsX5_commonDivisor ({ frames := 0, cells := 0, slots := 0, locals := 0 } : Room)).room s m0 ([.long 10000, .long (lN r)] : List Value).toArray below meth c0 s.heap [] 0 0 (MQ below (vp_Sl (fun v => v = lN (Nat.gcd 10000 r))) ([.long 10000, .long (lN r)] : List Value).toArray s 0 0 (fun _ => False)) (F0 m0 9 ls []) := by
    intro n
    induction n with
    | zero => intro i x y ls hn; omega
    | succ n ih =>
      intro i x y ls hn hi hx0 hx1 hy hg hp hl
      refine lv_iload hx hb dX5_commonDivisor_9 (lv_at hl 0 rfl) ?_
      refine lv_bipush (v := 100) hx hb dX5_commonDivisor_11 (by decide) ?_
      refine lv_icmp_ge (tgt := 44) hx hb dX5_commonDivisor_13 (by decide) (fun h_13 => ?_) (fun h_13 => ?_)
      · skip
        have hi100 : i = 100 := by have := (nI_leI (a := 100) (b := i) (by decide) (by omega)).mp h_13; omega
        have hy0 : y = 0 := zs_gcd_end hx0 (by rw [← hi100]; exact hp)
        refine lv_lload hx hb dX5_commonDivisor_44 (lv_at hl 1 rfl) ?_
        exact zk_lretS hx hb hr hlocks (by rw [← hg, hy0, Nat.gcd_zero_right]) dX5_commonDivisor_46
      · skip
        have hi100 : i < 100 := Nat.lt_of_not_le (fun q => h_13 ((nI_leI (a := 100) (b := i) (by decide) (by omega)).mpr q))
        refine lv_lload hx hb dX5_commonDivisor_16 (lv_at hl 2 rfl) ?_
        refine lv_lconst (v := 0) hx hb dX5_commonDivisor_18 (by decide) ?_
        refine zk_lc_eq (tgt := 44) hx hb dX5_commonDivisor_19 dX5_commonDivisor_20 (by decide) (fun h_19 => ?_) (fun h_19 => ?_)
        · skip
          have hy0 : y = 0 := (lN_eq (a := y) (b := 0) (by omega) (by decide)).mp h_19
          refine lv_lload hx hb dX5_commonDivisor_44 (lv_at hl 1 rfl) ?_
          exact zk_lretS hx hb hr hlocks (by rw [← hg, hy0, Nat.gcd_zero_right]) dX5_commonDivisor_46
        · skip
          have hy0 : 0 < y := Nat.pos_of_ne_zero (fun q => h_19 (by rw [q]; rfl))
          refine lv_lload hx hb dX5_commonDivisor_23 (lv_at hl 1 rfl) ?_
          refine lv_lload hx hb dX5_commonDivisor_25 (lv_at hl 2 rfl) ?_
          refine lv_lrem hx hb dX5_commonDivisor_27 h_19 ?_
          refine zk_top (v' := .long (lN (x % y))) (by rw [pk_lRem (by omega) hy0 (by omega)]) ?_
          refine lv_lstore (lv' := [(9, .long (lN (x % y))), (8, .int (nI i)), (4, .long (lN x)), (6, .long (lN y)), (0, .long 10000), (2, .long (lN r))]) hx hb dX5_commonDivisor_28 hl (by decide) rfl (fun ls hl => ?_)
          refine lv_lload hx hb dX5_commonDivisor_30 (lv_at hl 3 rfl) ?_
          refine lv_lstore (lv' := [(4, .long (lN y)), (9, .long (lN (x % y))), (8, .int (nI i)), (6, .long (lN y)), (0, .long 10000), (2, .long (lN r))]) hx hb dX5_commonDivisor_32 hl (by decide) rfl (fun ls hl => ?_)
          refine lv_lload hx hb dX5_commonDivisor_34 (lv_at hl 1 rfl) ?_
          refine lv_lstore (lv' := [(6, .long (lN (x % y))), (4, .long (lN y)), (9, .long (lN (x % y))), (8, .int (nI i)), (0, .long 10000), (2, .long (lN r))]) hx hb dX5_commonDivisor_36 hl (by decide) rfl (fun ls hl => ?_)
          refine lv_iinc (v := nI (i + 1)) (lv' := [(8, .int (nI (i + 1))), (6, .long (lN (x % y))), (4, .long (lN y)), (9, .long (lN (x % y))), (0, .long 10000), (2, .long (lN r))]) hx hb dX5_commonDivisor_38 hl (k := 3) rfl (nI_1 i) (by decide) rfl (fun ls hl => ?_)
          refine lv_goto (tgt := 9) hx hb dX5_commonDivisor_41 (by decide) ?_
          exact ih (i + 1) y (x % y) ls (by omega) (by omega) hy0 (by omega) (Nat.mod_lt x hy0) (by rw [← hg, Nat.gcd_comm x y, Nat.gcd_rec y x, Nat.gcd_comm]) (zs_gcd_step hy0 hy hp) (lv_sub hl [0, 2, 1, 4, 5] rfl)
  exact loop 101 0 10000 r ls (by omega) (by omega) (by omega) (by omega) (by omega) rfl (by omega) (lv_sub hl [0, 2, 1, 3, 4] rfl)

theorem inw_wsX5_rest_0 : ∀ w ∈ u_ws RX0 TX0 3, w ∈ wsX5_rest := by decide +kernel
set_option maxHeartbeats 4000000 in
set_option maxRecDepth 100000 in
theorem zc_X5_rest (l : Launch) {g : zk_G} {z : Nat} {M : zk_M} {X : zs_X} {Z : zs_Z} {n : Nat} (hR : zs_R g X Z M) (hI : zs_I X.1 n) (y part : Int32) : Met l yX5_rest wsX5_rest ({ frames := 1, cells := 0, slots := 0, locals := 30 } : Room) (va_Pc [.ref (Z (0, 0, 0)), .int y, .int part] (zk_U g z M)) (vp_Sl (fun r => r = zs_frest X.1 y part)) 0 0 (fun _ => False) := by
  refine Met.ofW (cc := cX5_rest) (maxL := 6) (ret := (some .long)) (by decide) rfl ?_
  intro P0 e0 s m0 args below meth c0 s₁ B hml hv
  obtain ⟨rfl, hH, hK, hN⟩ := hv
  have hx := B.exec
  have hb := B.bytes
  have hr := B.returns
  have hts := atoms_spec (ws := wsX5_rest) B.pre
  have hown : s.vm.findClass RX5 = some m0.cls := findClass_of_methodNamed B.named
  have hlocks := B.notSynchronized
  have hl := lv_entry ([.ref (Z (0, 0, 0)), .int y, .int part]) (n := 6) (Nat.le_of_ble_eq_true rfl)
  rw [lg_entry_eq]
  generalize (lg_sl ([.ref (Z (0, 0, 0)), .int y, .int part]) ++ List.replicate (6 - (lg_sl ([.ref (Z (0, 0, 0)), .int y, .int part])).length) Slot.unset).toArray = ls at hl ⊢
  have hl : lv_has ls 6 [(0, .ref (Z (0, 0, 0))), (1, .int y), (2, .int part)] := hl
  have hO : M (Z (0, 0, 0)) = some (.inr (5, [.ref (Z (3, 0, 0)), .ref (Z (1, 0, 0)), .ref (Z (2, 0, 0)), va_rf (zs_prev (zs_nc X.1) (fun i => Z (7, i, 0))), .int (nI (zs_nc X.1)), .long (zs_ck X.1)])) := hR.1 (0, 0, 0) ⟨rfl, rfl⟩
  refine lv_aload_n hx hb dX5_rest_0 rfl (lv_at hl 0 rfl) ?_
  refine lv_iload_n hx hb dX5_rest_1 rfl (lv_at hl 1 rfl) ?_
  refine va_csq (W.runV (As := [.int y]) (rest := []) ⟨hx, hb, hml, hown, hts⟩ (zc_X5_kindAt l hR hI.1.2.2.1 y) (cwV 1 hts gX5_rest_X5_kindAt rfl rfl rfl (by decide +kernel) ⟨Nat.le_of_ble_eq_true rfl, Nat.le_of_ble_eq_true rfl⟩) (zk_preV hH hK hN hO rfl) rfl rfl hl.1 rfl (lv_room (Nat.le_of_ble_eq_true rfl)) dX5_rest_2 ⟨(Nat.le_of_ble_eq_true rfl), (Nat.le_of_ble_eq_true rfl)⟩) (fun r_2 hr_2 => ?_)
  cases hx_2 : zs_ix (zs_nk X.1) y with
  | none =>
    refine zk_top (v' := .null) (by rw [hr_2, hx_2]; rfl) ?_
    refine lv_astore_nN (lv' := [(3, .null), (0, .ref (Z (0, 0, 0))), (1, .int y), (2, .int part)]) hx hb dX5_rest_5 rfl hl (by decide) rfl (fun ls hl => ?_)
    refine lv_aload_nN hx hb dX5_rest_6 rfl (lv_at hl 0 rfl) ?_
    refine lv_ifnullN (tgt := 19) hx hb dX5_rest_7 (by decide) ?_
    refine lv_ldc2 (v := (-1)) hx hb hown (hts (.constantLong RX5 103 (-1)) (by decide +kernel)) dX5_rest_19 ?_
    exact zk_lretS hx hb hr hlocks (by simp only [zs_frest, hx_2]) dX5_rest_22
  | some k =>
    refine zk_top (v' := .ref (Z (4, k, 0))) (by rw [hr_2, hx_2]; rfl) ?_
    obtain ⟨hk, ex_k⟩ := zs_ix_some (by have := hI.1.2.1; have := hI.1.2.2.1; omega) hx_2
    refine lv_astore_n (lv' := [(3, .ref (Z (4, k, 0))), (0, .ref (Z (0, 0, 0))), (1, .int y), (2, .int part)]) hx hb dX5_rest_5 rfl hl (by decide) rfl (fun ls hl => ?_)
    refine lv_aload_n hx hb dX5_rest_6 rfl (lv_at hl 0 rfl) ?_
    refine lv_ifnull hx hb dX5_rest_7 ?_
    refine lv_iload_n hx hb dX5_rest_10 rfl (lv_at hl 3 rfl) ?_
    refine lv_if_lt (tgt := 19) hx hb dX5_rest_11 (by decide) (fun h_11 => ?_) (fun h_11 => ?_)
    · skip
      refine lv_ldc2 (v := (-1)) hx hb hown (hts (.constantLong RX5 103 (-1)) (by decide +kernel)) dX5_rest_19 ?_
      exact zk_lretS hx hb hr hlocks (by simp only [zs_frest, hx_2]; rw [if_pos (Or.inl h_11)]) dX5_rest_22
    · skip
      refine lv_iload_n hx hb dX5_rest_14 rfl (lv_at hl 3 rfl) ?_
      refine lv_iconst (v := 1) hx hb dX5_rest_15 (by decide) ?_
      refine lv_icmp_le (tgt := 23) hx hb dX5_rest_16 (by decide) (fun h_16 => ?_) (fun h_16 => ?_)
      · skip
        obtain ⟨b0, b1⟩ := (hI.2.1.2.2.1 k).2.2
        have hrn : zs_rs X.1 k = lN (zs_rn X.1 k) ∧ zs_rn X.1 k < 10000 := zs_rn_of b0 b1
        have hK0 : M (Z (4, k, 0)) = some (.inr (0, [va_rf (zs_prev (zs_pn X.1 k) (fun j => Z (5, k, j))), .long (zs_sh X.1 k), .long (lN (zs_rn X.1 k))])) := by rw [← hrn.1]; exact hR.1 (4, k, 0) ⟨hk, rfl⟩
        have hgp : 0 < Nat.gcd 10000 (zs_rn X.1 k) := Nat.gcd_pos_of_pos_left _ (by decide)
        have hgl : Nat.gcd 10000 (zs_rn X.1 k) ≤ 10000 := Nat.gcd_le_left _ (by decide)
        refine lv_ldc2 (v := 10000) hx hb hown (hts (.constantLong RX5 91 (10000)) (by decide +kernel)) dX5_rest_23 ?_
        refine lv_aload_n hx hb dX5_rest_26 rfl (lv_at hl 0 rfl) ?_
        refine zk_getN (ci := 0) (v := .long (lN (zs_rn X.1 k))) (C := RX0) (T := TX0) (N := 3) hx hb hts inw_wsX5_rest_0 hown hK hH hK0 rfl 2 (by decide) (zk_nf_1 hN) rfl dX5_rest_27 ?_
        refine vp_callSl (W.runS (As := [.long 10000, .long (lN (zs_rn X.1 k))]) (rest := []) ⟨hx, hb, hml, hown, hts⟩ (zc_X5_commonDivisor l (zs_rn X.1 k) hrn.2) (va_cwS 2 hts gX5_rest_X5_commonDivisor rfl rfl rfl (by decide +kernel) ⟨Nat.le_of_ble_eq_true rfl, Nat.le_of_ble_eq_true rfl⟩) (zk_preS hH hK hN) rfl rfl hl.1 rfl (lv_room (Nat.le_of_ble_eq_true rfl)) dX5_rest_30 ⟨(Nat.le_of_ble_eq_true rfl), (Nat.le_of_ble_eq_true rfl)⟩) (fun r_30 hr_30 => ?_)
        subst hr_30
        refine lv_lstore (lv' := [(4, .long (lN (Nat.gcd 10000 (zs_rn X.1 k)))), (3, .ref (Z (4, k, 0))), (0, .ref (Z (0, 0, 0))), (1, .int y), (2, .int part)]) hx hb dX5_rest_33 hl (by decide) rfl (fun ls hl => ?_)
        refine lv_lload hx hb dX5_rest_35 (lv_at hl 0 rfl) ?_
        refine lv_lconst (v := 1) hx hb dX5_rest_37 (by decide) ?_
        refine zk_lc_ge (tgt := 46) hx hb dX5_rest_38 dX5_rest_39 (by decide) (fun h_38 => ?_) (fun h_38 => ?_)
        · skip
          refine lv_iload_n hx hb dX5_rest_46 rfl (lv_at hl 4 rfl) ?_
          refine lv_if_ne (tgt := 60) hx hb dX5_rest_47 (by decide) (fun h_47 => ?_) (fun h_47 => ?_)
          · skip
            refine lv_ldc2 (v := 10000) hx hb hown (hts (.constantLong RX5 91 (10000)) (by decide +kernel)) dX5_rest_60 ?_
            refine lv_lload hx hb dX5_rest_63 (lv_at hl 0 rfl) ?_
            refine lv_ldiv hx hb dX5_rest_65 (fun q => absurd ((lN_eq (b := 0) (by omega) (by decide)).mp q) (by omega)) ?_
            exact zk_lretS hx hb hr hlocks (by simp only [zs_frest, hx_2]; rw [if_neg (fun q => q.elim (fun q => absurd q h_11) (fun q => absurd h_16 (Int32.not_le.mpr q))), if_neg h_47]; exact pk_lDiv (a := 10000) (by omega) hgp (by omega)) dX5_rest_66
          · skip
            refine lv_aload_n hx hb dX5_rest_50 rfl (lv_at hl 1 rfl) ?_
            refine zk_getN (ci := 0) (v := .long (lN (zs_rn X.1 k))) (C := RX0) (T := TX0) (N := 3) hx hb hts inw_wsX5_rest_0 hown hK hH hK0 rfl 2 (by decide) (zk_nf_1 hN) rfl dX5_rest_51 ?_
            refine lv_lload hx hb dX5_rest_54 (lv_at hl 0 rfl) ?_
            refine lv_ldiv hx hb dX5_rest_56 (fun q => absurd ((lN_eq (b := 0) (by omega) (by decide)).mp q) (by omega)) ?_
            refine lv_goto (tgt := 66) hx hb dX5_rest_57 (by decide) ?_
            exact zk_lretS hx hb hr hlocks (by simp only [zs_frest, hx_2]; rw [if_neg (fun q => q.elim (fun q => absurd q h_11) (fun q => absurd h_16 (Int32.not_le.mpr q))), if_pos h_47]; exact pk_lDiv (by omega) hgp (by omega)) dX5_rest_66
        · skip
          exact absurd ((lN_le (a := 1) (by decide) (by omega)).mpr hgp) h_38
      · skip
        refine lv_ldc2 (v := (-1)) hx hb hown (hts (.constantLong RX5 103 (-1)) (by decide +kernel)) dX5_rest_19 ?_
        exact zk_lretS hx hb hr hlocks (by simp only [zs_frest, hx_2]; rw [if_pos (Or.inr (Int32.not_le.mp h_16))]) dX5_rest_22

theorem inw_wsX5_lost_5 : ∀ w ∈ u_ws RX5 TX5 6, w ∈ wsX5_lost := by decide +kernel
set_option maxHeartbeats 4000000 in
set_option maxRecDepth 100000 in
theorem zc_X5_lost (l : Launch) {g : zk_G} {z : Nat} {M : zk_M} {X : zs_X} {Z : zs_Z} {n : Nat} (hR : zs_R g X Z M) (hI : zs_I X.1 n) (y mo : Int32) : Met l yX5_lost wsX5_lost ({ frames := 1, cells := 0, slots := 0, locals := 26 } : Room) (va_Pc [.ref (Z (0, 0, 0)), .int y, .int mo] (zk_U g z M)) (vp_Sl (fun r => r = zs_flost X.1 y mo)) 0 0 (fun _ => False) := by
  refine Met.ofW (cc := cX5_lost) (maxL := 10) (ret := (some .long)) (by decide) rfl ?_
  intro P0 e0 s m0 args below meth c0 s₁ B hml hv
  obtain ⟨rfl, hH, hK, hN⟩ := hv
  have hx := B.exec
  have hb := B.bytes
  have hr := B.returns
  have hts := atoms_spec (ws := wsX5_lost) B.pre
  have hown : s.vm.findClass RX5 = some m0.cls := findClass_of_methodNamed B.named
  have hlocks := B.notSynchronized
  have hl := lv_entry ([.ref (Z (0, 0, 0)), .int y, .int mo]) (n := 10) (Nat.le_of_ble_eq_true rfl)
  rw [lg_entry_eq]
  generalize (lg_sl ([.ref (Z (0, 0, 0)), .int y, .int mo]) ++ List.replicate (10 - (lg_sl ([.ref (Z (0, 0, 0)), .int y, .int mo])).length) Slot.unset).toArray = ls at hl ⊢
  have hl : lv_has ls 10 [(0, .ref (Z (0, 0, 0))), (1, .int y), (2, .int mo)] := hl
  have hO : M (Z (0, 0, 0)) = some (.inr (5, [.ref (Z (3, 0, 0)), .ref (Z (1, 0, 0)), .ref (Z (2, 0, 0)), va_rf (zs_prev (zs_nc X.1) (fun i => Z (7, i, 0))), .int (nI (zs_nc X.1)), .long (zs_ck X.1)])) := hR.1 (0, 0, 0) ⟨rfl, rfl⟩
  have hPA : M (Z (1, 0, 0)) = some (zk_aP g 24 (fun p => if p < zs_np X.1 then some (Z (3, p, 0)) else none)) := hR.1 (1, 0, 0) ⟨rfl, rfl⟩
  refine lv_aload_n hx hb dX5_lost_0 rfl (lv_at hl 0 rfl) ?_
  refine lv_iload_n hx hb dX5_lost_1 rfl (lv_at hl 1 rfl) ?_
  refine va_csq (W.runV (As := [.int y]) (rest := []) ⟨hx, hb, hml, hown, hts⟩ (zc_X5_kindAt l hR hI.1.2.2.1 y) (cwV 1 hts gX5_lost_X5_kindAt rfl rfl rfl (by decide +kernel) ⟨Nat.le_of_ble_eq_true rfl, Nat.le_of_ble_eq_true rfl⟩) (zk_preV hH hK hN hO rfl) rfl rfl hl.1 rfl (lv_room (Nat.le_of_ble_eq_true rfl)) dX5_lost_2 ⟨(Nat.le_of_ble_eq_true rfl), (Nat.le_of_ble_eq_true rfl)⟩) (fun r_2 hr_2 => ?_)
  cases hx_2 : zs_ix (zs_nk X.1) y with
  | none =>
    refine zk_top (v' := .null) (by rw [hr_2, hx_2]; rfl) ?_
    refine lv_astore_nN (lv' := [(3, .null), (0, .ref (Z (0, 0, 0))), (1, .int y), (2, .int mo)]) hx hb dX5_lost_5 rfl hl (by decide) rfl (fun ls hl => ?_)
    refine lv_aload_nN hx hb dX5_lost_6 rfl (lv_at hl 0 rfl) ?_
    refine lv_ifnullN (tgt := 14) hx hb dX5_lost_7 (by decide) ?_
    refine lv_ldc2 (v := (-1)) hx hb hown (hts (.constantLong RX5 103 (-1)) (by decide +kernel)) dX5_lost_14 ?_
    exact zk_lretS hx hb hr hlocks (by simp only [zs_flost, hx_2]) dX5_lost_17
  | some k =>
    refine zk_top (v' := .ref (Z (4, k, 0))) (by rw [hr_2, hx_2]; rfl) ?_
    obtain ⟨hk, ex_k⟩ := zs_ix_some (by have := hI.1.2.1; have := hI.1.2.2.1; omega) hx_2
    refine lv_astore_n (lv' := [(3, .ref (Z (4, k, 0))), (0, .ref (Z (0, 0, 0))), (1, .int y), (2, .int mo)]) hx hb dX5_lost_5 rfl hl (by decide) rfl (fun ls hl => ?_)
    refine lv_aload_n hx hb dX5_lost_6 rfl (lv_at hl 0 rfl) ?_
    refine lv_ifnull hx hb dX5_lost_7 ?_
    refine lv_iload_n hx hb dX5_lost_10 rfl (lv_at hl 3 rfl) ?_
    refine lv_if_ge (tgt := 18) hx hb dX5_lost_11 (by decide) (fun h_11 => ?_) (fun h_11 => ?_)
    · skip
      refine lv_aload_n hx hb dX5_lost_18 rfl (lv_at hl 1 rfl) ?_
      refine zk_get (ci := 5) (v := .long (zs_ck X.1)) (C := RX5) (T := TX5) (N := 6) hx hb hts inw_wsX5_lost_5 hown hK hH hO rfl 5 (by decide) (hts (.fieldLink RX5 105 "KegDeposits" "clock" "J") (by decide +kernel)) rfl dX5_lost_19 ?_
      refine lv_iload_n hx hb dX5_lost_22 rfl (lv_at hl 3 rfl) ?_
      refine lv_i2l (v := (Int32.toInt64 mo)) hx hb dX5_lost_23 rfl ?_
      refine lv_ldc2 (v := 30) hx hb hown (hts (.constantLong RX5 108 (30)) (by decide +kernel)) dX5_lost_24 ?_
      refine lv_lmul hx hb dX5_lost_27 ?_
      refine lv_lsub hx hb dX5_lost_28 ?_
      refine lv_lstore (lv' := [(4, .long (zs_ck X.1 - ((Int32.toInt64 mo) * 30))), (3, .ref (Z (4, k, 0))), (0, .ref (Z (0, 0, 0))), (1, .int y), (2, .int mo)]) hx hb dX5_lost_29 hl (by decide) rfl (fun ls hl => ?_)
      refine lv_lconst (v := 0) hx hb dX5_lost_31 (by decide) ?_
      refine lv_lstore (lv' := [(6, .long 0), (4, .long (zs_ck X.1 - ((Int32.toInt64 mo) * 30))), (3, .ref (Z (4, k, 0))), (0, .ref (Z (0, 0, 0))), (1, .int y), (2, .int mo)]) hx hb dX5_lost_32 hl (by decide) rfl (fun ls hl => ?_)
      refine lv_iconst (v := 0) hx hb dX5_lost_34 (by decide) ?_
      refine lv_istore (lv' := [(8, .int 0), (6, .long 0), (4, .long (zs_ck X.1 - ((Int32.toInt64 mo) * 30))), (3, .ref (Z (4, k, 0))), (0, .ref (Z (0, 0, 0))), (1, .int y), (2, .int mo)]) hx hb dX5_lost_35 hl (by decide) rfl (fun ls hl => ?_)
      have loop : ∀ (n i : Nat) (acc : Int64) (ls : Array Slot), 24 - i < n → i ≤ 24 → acc = zs_sum (fun p => if p < zs_np X.1 then zs_pup X.1 p k (zs_ck X.1 - Int32.toInt64 mo * 30) else 0) i →  lv_has ls 10 [(8, .int (nI i)), (6, .long acc), (4, .long (zs_ck X.1 - Int32.toInt64 mo * 30)), (0, .ref (Z (0, 0, 0))), (3, .ref (Z (4, k, 0)))] → W P0 l e0 (headSpec wsX5_lost ({ frames := 1, cells := 0, slots := 0, locals := 26 } : Room)).room s m0 ([.ref (Z (0, 0, 0)), .int y, .int mo] : List Value).toArray below meth c0 s.heap [] 0 0 (MQ below (vp_Sl (fun r => r = zs_flost X.1 y mo)) ([.ref (Z (0, 0, 0)), .int y, .int mo] : List Value).toArray s 0 0 (fun _ => False)) (F0 m0 37 ls []) := by
        intro n
        induction n with
        | zero => intro i acc ls hn; omega
        | succ n ih =>
          intro i acc ls hn hi hacc hl
          refine lv_iload hx hb dX5_lost_37 (lv_at hl 0 rfl) ?_
          refine lv_aload_n hx hb dX5_lost_39 rfl (lv_at hl 3 rfl) ?_
          refine zk_get (ci := 5) (v := .ref (Z (1, 0, 0))) (C := RX5) (T := TX5) (N := 6) hx hb hts inw_wsX5_lost_5 hown hK hH hO rfl 1 (by decide) (hts (.fieldLink RX5 16 "KegDeposits" "parties" "[LKegDeposits$Party;") (by decide +kernel)) rfl dX5_lost_40 ?_
          refine zk_alen (v := 24) hx hb hK hH 2 hPA rfl rfl dX5_lost_43 ?_
          refine lv_icmp_ge (tgt := 80) hx hb dX5_lost_44 (by decide) (fun h_44 => ?_) (fun h_44 => ?_)
          · skip
            have hiN : i = 24 := by have := (nI_leI (a := 24) (b := i) (by decide) (by omega)).mp h_44; omega
            refine lv_lload hx hb dX5_lost_80 (lv_at hl 1 rfl) ?_
            exact zk_lretS hx hb hr hlocks (by simp only [zs_flost, hx_2]; rw [if_neg (Int32.not_lt.mpr h_11), hacc, hiN]; exact zs_lost_all hI.2.2.1 hI.1.2.1 k _) dX5_lost_82
          · skip
            have hiN : i < 24 := Nat.lt_of_not_le (fun q => h_44 ((nI_leI (a := 24) (b := i) (by decide) (by omega)).mpr q))
            refine lv_aload_n hx hb dX5_lost_47 rfl (lv_at hl 3 rfl) ?_
            refine zk_get (ci := 5) (v := .ref (Z (1, 0, 0))) (C := RX5) (T := TX5) (N := 6) hx hb hts inw_wsX5_lost_5 hown hK hH hO rfl 1 (by decide) (hts (.fieldLink RX5 16 "KegDeposits" "parties" "[LKegDeposits$Party;") (by decide +kernel)) rfl dX5_lost_48 ?_
            refine lv_iload hx hb dX5_lost_51 (lv_at hl 0 rfl) ?_
            refine zk_aldP hx hb hK hH hPA (vp_in_nI hiN (by decide)) dX5_lost_53 ?_
            by_cases hpi : i < zs_np X.1
            · skip
              refine zk_top (v' := .ref (Z (3, i, 0))) (zk_arr_some (f := (fun p => if p < zs_np X.1 then some (Z (3, p, 0)) else none)) (by omega) (if_pos hpi)) ?_
              refine lv_astore (lv' := [(9, .ref (Z (3, i, 0))), (8, .int (nI i)), (6, .long acc), (4, .long (zs_ck X.1 - Int32.toInt64 mo * 30)), (0, .ref (Z (0, 0, 0))), (3, .ref (Z (4, k, 0)))]) hx hb dX5_lost_54 hl (by decide) rfl (fun ls hl => ?_)
              refine lv_aload hx hb dX5_lost_56 (lv_at hl 0 rfl) ?_
              refine lv_ifnull hx hb dX5_lost_58 ?_
              refine lv_lload hx hb dX5_lost_61 (lv_at hl 2 rfl) ?_
              refine lv_aload hx hb dX5_lost_63 (lv_at hl 0 rfl) ?_
              refine lv_aload_n hx hb dX5_lost_65 rfl (lv_at hl 5 rfl) ?_
              refine lv_lload hx hb dX5_lost_66 (lv_at hl 3 rfl) ?_
              refine vp_callSl (W.runV (As := [.ref (Z (4, k, 0)), .long (zs_ck X.1 - Int32.toInt64 mo * 30)]) (rest := [.long acc]) ⟨hx, hb, hml, hown, hts⟩ (zc_X2_piecesUpTo l hR (fun i hi => (hI.2.2.1.1 i hi).2.1) hpi hk (zs_ck X.1 - Int32.toInt64 mo * 30)) (cwV 2 hts gX5_lost_X2_piecesUpTo rfl rfl rfl (by decide +kernel) ⟨Nat.le_of_ble_eq_true rfl, Nat.le_of_ble_eq_true rfl⟩) (zk_preV hH hK hN (hR.1 (3, i, 0) ⟨hpi, rfl⟩) rfl) rfl rfl hl.1 rfl (lv_room (Nat.le_of_ble_eq_true rfl)) dX5_lost_68 ⟨(Nat.le_of_ble_eq_true rfl), (Nat.le_of_ble_eq_true rfl)⟩) (fun r_68 hr_68 => ?_)
              refine lv_ladd hx hb dX5_lost_71 ?_
              refine lv_lstore (lv' := [(6, .long (acc + r_68)), (9, .ref (Z (3, i, 0))), (8, .int (nI i)), (4, .long (zs_ck X.1 - Int32.toInt64 mo * 30)), (0, .ref (Z (0, 0, 0))), (3, .ref (Z (4, k, 0)))]) hx hb dX5_lost_72 hl (by decide) rfl (fun ls hl => ?_)
              refine lv_iinc (v := nI (i + 1)) (lv' := [(8, .int (nI (i + 1))), (6, .long (acc + r_68)), (9, .ref (Z (3, i, 0))), (4, .long (zs_ck X.1 - Int32.toInt64 mo * 30)), (0, .ref (Z (0, 0, 0))), (3, .ref (Z (4, k, 0)))]) hx hb dX5_lost_74 hl (k := 2) rfl (nI_1 i) (by decide) rfl (fun ls hl => ?_)
              refine lv_goto (tgt := 37) hx hb dX5_lost_77 (by decide) ?_
              exact ih (i + 1) _ ls (by omega) (by omega) (by rw [hacc, hr_68]; exact congrArg (zs_sum (fun p => if p < zs_np X.1 then zs_pup X.1 p k (zs_ck X.1 - Int32.toInt64 mo * 30) else 0) i + ·) (if_pos hpi).symm) (lv_sub hl [0, 1, 3, 4, 5] rfl)
            · skip
              refine zk_top (v' := .null) (zk_arr_none (f := (fun p => if p < zs_np X.1 then some (Z (3, p, 0)) else none)) (by omega) (if_neg hpi)) ?_
              refine lv_astoreN (lv' := [(9, .null), (8, .int (nI i)), (6, .long acc), (4, .long (zs_ck X.1 - Int32.toInt64 mo * 30)), (0, .ref (Z (0, 0, 0))), (3, .ref (Z (4, k, 0)))]) hx hb dX5_lost_54 hl (by decide) rfl (fun ls hl => ?_)
              refine lv_aloadN hx hb dX5_lost_56 (lv_at hl 0 rfl) ?_
              refine lv_ifnullN (tgt := 74) hx hb dX5_lost_58 (by decide) ?_
              refine lv_iinc (v := nI (i + 1)) (lv' := [(8, .int (nI (i + 1))), (9, .null), (6, .long acc), (4, .long (zs_ck X.1 - Int32.toInt64 mo * 30)), (0, .ref (Z (0, 0, 0))), (3, .ref (Z (4, k, 0)))]) hx hb dX5_lost_74 hl (k := 1) rfl (nI_1 i) (by decide) rfl (fun ls hl => ?_)
              refine lv_goto (tgt := 37) hx hb dX5_lost_77 (by decide) ?_
              exact ih (i + 1) _ ls (by omega) (by omega) (by rw [hacc]; show _ = zs_sum (fun p => if p < zs_np X.1 then zs_pup X.1 p k (zs_ck X.1 - Int32.toInt64 mo * 30) else 0) i + (if i < zs_np X.1 then zs_pup X.1 i k (zs_ck X.1 - Int32.toInt64 mo * 30) else 0); rw [if_neg hpi, Int64.add_zero]) (lv_sub hl [0, 2, 3, 4, 5] rfl)
      exact loop 25 0 0 ls (by omega) (by omega) rfl (lv_sub hl [0, 1, 2, 4, 3] rfl)
    · skip
      refine lv_ldc2 (v := (-1)) hx hb hown (hts (.constantLong RX5 103 (-1)) (by decide +kernel)) dX5_lost_14 ?_
      exact zk_lretS hx hb hr hlocks (by simp only [zs_flost, hx_2]; rw [if_pos (Int32.not_le.mp h_11)]) dX5_lost_17

theorem inw_wsX5_sum_5 : ∀ w ∈ u_ws RX5 TX5 6, w ∈ wsX5_sum := by decide +kernel
set_option maxHeartbeats 4000000 in
set_option maxRecDepth 100000 in
theorem zc_X5_sum (l : Launch) {g : zk_G} {z : Nat} {M : zk_M} {X : zs_X} {Z : zs_Z} {n : Nat} (hR : zs_R g X Z M) (hI : zs_I X.1 n) (d : Int64) : Met l yX5_sum wsX5_sum ({ frames := 2, cells := 0, slots := 0, locals := 47 } : Room) (va_Pc [.ref (Z (0, 0, 0)), .long d] (zk_U g z M)) (vp_Sl (fun r => r = 0)) 0 0 (fun _ => False) := by
  refine Met.ofW (cc := cX5_sum) (maxL := 7) (ret := (some .long)) (by decide) rfl ?_
  intro P0 e0 s m0 args below meth c0 s₁ B hml hv
  obtain ⟨rfl, hH, hK, hN⟩ := hv
  have hx := B.exec
  have hb := B.bytes
  have hr := B.returns
  have hts := atoms_spec (ws := wsX5_sum) B.pre
  have hown : s.vm.findClass RX5 = some m0.cls := findClass_of_methodNamed B.named
  have hlocks := B.notSynchronized
  have hl := lv_entry ([.ref (Z (0, 0, 0)), .long d]) (n := 7) (Nat.le_of_ble_eq_true rfl)
  rw [lg_entry_eq]
  generalize (lg_sl ([.ref (Z (0, 0, 0)), .long d]) ++ List.replicate (7 - (lg_sl ([.ref (Z (0, 0, 0)), .long d])).length) Slot.unset).toArray = ls at hl ⊢
  have hl : lv_has ls 7 [(0, .ref (Z (0, 0, 0))), (1, .long d)] := hl
  have hO : M (Z (0, 0, 0)) = some (.inr (5, [.ref (Z (3, 0, 0)), .ref (Z (1, 0, 0)), .ref (Z (2, 0, 0)), va_rf (zs_prev (zs_nc X.1) (fun i => Z (7, i, 0))), .int (nI (zs_nc X.1)), .long (zs_ck X.1)])) := hR.1 (0, 0, 0) ⟨rfl, rfl⟩
  have hPA : M (Z (1, 0, 0)) = some (zk_aP g 24 (fun p => if p < zs_np X.1 then some (Z (3, p, 0)) else none)) := hR.1 (1, 0, 0) ⟨rfl, rfl⟩
  refine lv_lconst (v := 0) hx hb dX5_sum_0 (by decide) ?_
  refine lv_lstore_n (lv' := [(3, .long 0), (0, .ref (Z (0, 0, 0))), (1, .long d)]) hx hb dX5_sum_1 rfl hl (by decide) rfl (fun ls hl => ?_)
  refine lv_iconst (v := 0) hx hb dX5_sum_2 (by decide) ?_
  refine lv_istore (lv' := [(5, .int 0), (3, .long 0), (0, .ref (Z (0, 0, 0))), (1, .long d)]) hx hb dX5_sum_3 hl (by decide) rfl (fun ls hl => ?_)
  have loop : ∀ (n i : Nat) (acc : Int64) (ls : Array Slot), 24 - i < n → i ≤ 24 → acc = zs_sum (fun p => if p < zs_np X.1 then zs_bal X.1 p d else 0) i →  lv_has ls 7 [(5, .int (nI i)), (3, .long acc), (0, .ref (Z (0, 0, 0))), (1, .long d)] → W P0 l e0 (headSpec wsX5_sum ({ frames := 2, cells := 0, slots := 0, locals := 47 } : Room)).room s m0 ([.ref (Z (0, 0, 0)), .long d] : List Value).toArray below meth c0 s.heap [] 0 0 (MQ below (vp_Sl (fun r => r = 0)) ([.ref (Z (0, 0, 0)), .long d] : List Value).toArray s 0 0 (fun _ => False)) (F0 m0 5 ls []) := by
    intro n
    induction n with
    | zero => intro i acc ls hn; omega
    | succ n ih =>
      intro i acc ls hn hi hacc hl
      refine lv_iload hx hb dX5_sum_5 (lv_at hl 0 rfl) ?_
      refine lv_aload_n hx hb dX5_sum_7 rfl (lv_at hl 2 rfl) ?_
      refine zk_get (ci := 5) (v := .ref (Z (1, 0, 0))) (C := RX5) (T := TX5) (N := 6) hx hb hts inw_wsX5_sum_5 hown hK hH hO rfl 1 (by decide) (hts (.fieldLink RX5 16 "KegDeposits" "parties" "[LKegDeposits$Party;") (by decide +kernel)) rfl dX5_sum_8 ?_
      refine zk_alen (v := 24) hx hb hK hH 2 hPA rfl rfl dX5_sum_11 ?_
      refine lv_icmp_ge (tgt := 45) hx hb dX5_sum_12 (by decide) (fun h_12 => ?_) (fun h_12 => ?_)
      · skip
        have hiN : i = 24 := by have := (nI_leI (a := 24) (b := i) (by decide) (by omega)).mp h_12; omega
        refine lv_lload_n hx hb dX5_sum_45 rfl (lv_at hl 1 rfl) ?_
        exact zk_lretS hx hb hr hlocks (by rw [hacc, hiN]; exact zs_bal_all hI.2.2.2 hI.1.2.1 d) dX5_sum_46
      · skip
        have hiN : i < 24 := Nat.lt_of_not_le (fun q => h_12 ((nI_leI (a := 24) (b := i) (by decide) (by omega)).mpr q))
        refine lv_aload_n hx hb dX5_sum_15 rfl (lv_at hl 2 rfl) ?_
        refine zk_get (ci := 5) (v := .ref (Z (1, 0, 0))) (C := RX5) (T := TX5) (N := 6) hx hb hts inw_wsX5_sum_5 hown hK hH hO rfl 1 (by decide) (hts (.fieldLink RX5 16 "KegDeposits" "parties" "[LKegDeposits$Party;") (by decide +kernel)) rfl dX5_sum_16 ?_
        refine lv_iload hx hb dX5_sum_19 (lv_at hl 0 rfl) ?_
        refine zk_aldP hx hb hK hH hPA (vp_in_nI hiN (by decide)) dX5_sum_21 ?_
        by_cases hpi : i < zs_np X.1
        · skip
          refine zk_top (v' := .ref (Z (3, i, 0))) (zk_arr_some (f := (fun p => if p < zs_np X.1 then some (Z (3, p, 0)) else none)) (by omega) (if_pos hpi)) ?_
          refine lv_astore (lv' := [(6, .ref (Z (3, i, 0))), (5, .int (nI i)), (3, .long acc), (0, .ref (Z (0, 0, 0))), (1, .long d)]) hx hb dX5_sum_22 hl (by decide) rfl (fun ls hl => ?_)
          refine lv_aload hx hb dX5_sum_24 (lv_at hl 0 rfl) ?_
          refine lv_ifnull hx hb dX5_sum_26 ?_
          refine lv_lload_n hx hb dX5_sum_29 rfl (lv_at hl 2 rfl) ?_
          refine lv_aload_n hx hb dX5_sum_30 rfl (lv_at hl 3 rfl) ?_
          refine lv_aload hx hb dX5_sum_31 (lv_at hl 0 rfl) ?_
          refine lv_lload_n hx hb dX5_sum_33 rfl (lv_at hl 4 rfl) ?_
          refine vp_callSl (W.runV (As := [.ref (Z (3, i, 0)), .long d]) (rest := [.long acc]) ⟨hx, hb, hml, hown, hts⟩ (zc_X5_balanceOf l hR hI.2.2.2 hpi d) (cwV 2 hts gX5_sum_X5_balanceOf rfl rfl rfl (by decide +kernel) ⟨Nat.le_of_ble_eq_true rfl, Nat.le_of_ble_eq_true rfl⟩) (zk_preV hH hK hN hO rfl) rfl rfl hl.1 rfl (lv_room (Nat.le_of_ble_eq_true rfl)) dX5_sum_34 ⟨(Nat.le_of_ble_eq_true rfl), (Nat.le_of_ble_eq_true rfl)⟩) (fun r_34 hr_34 => ?_)
          refine lv_ladd hx hb dX5_sum_37 ?_
          refine lv_lstore_n (lv' := [(3, .long (acc + r_34)), (6, .ref (Z (3, i, 0))), (5, .int (nI i)), (0, .ref (Z (0, 0, 0))), (1, .long d)]) hx hb dX5_sum_38 rfl hl (by decide) rfl (fun ls hl => ?_)
          refine lv_iinc (v := nI (i + 1)) (lv' := [(5, .int (nI (i + 1))), (3, .long (acc + r_34)), (6, .ref (Z (3, i, 0))), (0, .ref (Z (0, 0, 0))), (1, .long d)]) hx hb dX5_sum_39 hl (k := 2) rfl (nI_1 i) (by decide) rfl (fun ls hl => ?_)
          refine lv_goto (tgt := 5) hx hb dX5_sum_42 (by decide) ?_
          exact ih (i + 1) _ ls (by omega) (by omega) (by rw [hacc, hr_34]; exact congrArg (zs_sum (fun p => if p < zs_np X.1 then zs_bal X.1 p d else 0) i + ·) (if_pos hpi).symm) (lv_sub hl [0, 1, 3, 4] rfl)
        · skip
          refine zk_top (v' := .null) (zk_arr_none (f := (fun p => if p < zs_np X.1 then some (Z (3, p, 0)) else none)) (by omega) (if_neg hpi)) ?_
          refine lv_astoreN (lv' := [(6, .null), (5, .int (nI i)), (3, .long acc), (0, .ref (Z (0, 0, 0))), (1, .long d)]) hx hb dX5_sum_22 hl (by decide) rfl (fun ls hl => ?_)
          refine lv_aloadN hx hb dX5_sum_24 (lv_at hl 0 rfl) ?_
          refine lv_ifnullN (tgt := 39) hx hb dX5_sum_26 (by decide) ?_
          refine lv_iinc (v := nI (i + 1)) (lv' := [(5, .int (nI (i + 1))), (6, .null), (3, .long acc), (0, .ref (Z (0, 0, 0))), (1, .long d)]) hx hb dX5_sum_39 hl (k := 1) rfl (nI_1 i) (by decide) rfl (fun ls hl => ?_)
          refine lv_goto (tgt := 5) hx hb dX5_sum_42 (by decide) ?_
          exact ih (i + 1) _ ls (by omega) (by omega) (by rw [hacc]; show _ = zs_sum (fun p => if p < zs_np X.1 then zs_bal X.1 p d else 0) i + (if i < zs_np X.1 then zs_bal X.1 i d else 0); rw [if_neg hpi, Int64.add_zero]) (lv_sub hl [0, 2, 3, 4] rfl)
  exact loop 25 0 0 ls (by omega) (by omega) rfl (lv_sub hl [0, 1, 2, 3] rfl)
