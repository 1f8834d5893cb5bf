theorem inw_wsX0_priceOn_0 : ∀ w ∈ u_ws RX0 TX0 3, w ∈ wsX0_priceOn := by decide +kernel
theorem inw_wsX0_priceOn_3 : ∀ w ∈ u_ws RX3 TX3 3, w ∈ wsX0_priceOn := by decide +kernel
set_option maxHeartbeats 4000000 in
set_option maxRecDepth 100000 in
theorem zc_X0_priceOn (l : Launch) {g : zk_G} {z : Nat} {M : zk_M} {X : zs_X} {Z : zs_Z} (hR : zs_R g X Z M) (hI : zs_Ik X.1) {k : Nat} (hk : k < zs_nk X.1) (d : Int64) : Met l yX0_priceOn wsX0_priceOn ({ frames := 0, cells := 0, slots := 0, locals := 0 } : Room) (va_Pc [.ref (Z (4, k, 0)), .long d] (zk_U g z M)) (vp_Sl (fun r => r = zs_pr X.1 k d)) 0 0 (fun _ => False) := by
  refine Met.ofW (cc := cX0_priceOn) (maxL := 8) (ret := (some .long)) (by decide) rfl ?_
  intro P0 e0 s m0 args below meth c0 s₁ B hml hv
  obtain ⟨rfl, hH, hK, hN⟩ := hv
  have hx := B.exec
  have hb := B.bytes
  have hr := B.returns
  have hts := atoms_spec (ws := wsX0_priceOn) B.pre
  have hown : s.vm.findClass RX0 = some m0.cls := findClass_of_methodNamed B.named
  have hlocks := B.notSynchronized
  have hl := lv_entry ([.ref (Z (4, k, 0)), .long d]) (n := 8) (Nat.le_of_ble_eq_true rfl)
  rw [lg_entry_eq]
  generalize (lg_sl ([.ref (Z (4, k, 0)), .long d]) ++ List.replicate (8 - (lg_sl ([.ref (Z (4, k, 0)), .long d])).length) Slot.unset).toArray = ls at hl ⊢
  have hl : lv_has ls 8 [(0, .ref (Z (4, k, 0))), (1, .long d)] := hl
  have hK0 : M (Z (4, k, 0)) = some (.inr (0, [va_rf (zs_prev (zs_pn X.1 k) (fun j => Z (5, k, j))), .long (zs_sh X.1 k), .long (zs_rs X.1 k)])) := hR.1 (4, k, 0) ⟨hk, rfl⟩
  refine lv_ldc2 (v := (-1)) hx hb hown (hts (.constantLong RX0 30 (-1)) (by decide +kernel)) dX0_priceOn_0 ?_
  refine lv_lstore_n (lv' := [(3, .long (-1)), (0, .ref (Z (4, k, 0))), (1, .long d)]) hx hb dX0_priceOn_3 rfl hl (by decide) rfl (fun ls hl => ?_)
  refine lv_lconst (v := 0) hx hb dX0_priceOn_4 (by decide) ?_
  refine lv_lstore (lv' := [(5, .long 0), (3, .long (-1)), (0, .ref (Z (4, k, 0))), (1, .long d)]) hx hb dX0_priceOn_5 hl (by decide) rfl (fun ls hl => ?_)
  refine lv_aload_n hx hb dX0_priceOn_7 rfl (lv_at hl 2 rfl) ?_
  refine zk_get (ci := 0) (v := va_rf (zs_prev (zs_pn X.1 k) (fun j => Z (5, k, j)))) (C := RX0) (T := TX0) (N := 3) hx hb hts inw_wsX0_priceOn_0 hown hK hH hK0 rfl 0 (by decide) (hts (.fieldLink RX0 9 "KegDeposits$Kind" "prices" "LKegDeposits$Price;") (by decide +kernel)) rfl dX0_priceOn_8 ?_
  refine zk_astore (lv' := [(7, va_rf (zs_prev (zs_pn X.1 k) (fun j => Z (5, k, j)))), (5, .long 0), (3, .long (-1)), (0, .ref (Z (4, k, 0))), (1, .long d)]) hx hb dX0_priceOn_11 hl (by decide) rfl (fun ls hl => ?_)
  have loop : ∀ (a : Nat) (la ce : Int64) (ls : Array Slot), a ≤ zs_pn X.1 k → zs_best (fun j => zs_pd X.1 (20 * k + j)) (fun j => zs_pc X.1 (20 * k + j)) d (fun i => a ≤ i ∧ i < zs_pn X.1 k) la ce → lv_has ls 8 [(7, va_rf (zs_prev a (fun j => Z (5, k, j)))), (3, .long la), (5, .long ce), (0, .ref (Z (4, k, 0))), (1, .long d)] → W P0 l e0 (headSpec wsX0_priceOn ({ frames := 0, cells := 0, slots := 0, locals := 0 } : Room)).room s m0 ([.ref (Z (4, k, 0)), .long d] : List Value).toArray below meth c0 s.heap [] 0 0 (MQ below (vp_Sl (fun r => r = zs_pr X.1 k d)) ([.ref (Z (4, k, 0)), .long d] : List Value).toArray s 0 0 (fun _ => False)) (F0 m0 13 ls []) := by
    intro a
    induction a with
    | zero =>
      intro la ce ls ha hbe hl
      have hl : lv_has ls 8 [(7, .null), (3, .long la), (5, .long ce), (0, .ref (Z (4, k, 0))), (1, .long d)] := hl
      refine lv_aloadN hx hb dX0_priceOn_13 (lv_at hl 0 rfl) ?_
      refine lv_ifnullN (tgt := 61) hx hb dX0_priceOn_15 (by decide) ?_
      refine lv_lload hx hb dX0_priceOn_61 (lv_at hl 2 rfl) ?_
      exact zk_lretS hx hb hr hlocks (zs_pr_of hI (by simpa using hbe)) dX0_priceOn_63
    | succ j ih =>
      intro la ce ls ha hbe hl
      have hl : lv_has ls 8 [(7, .ref (Z (5, k, j))), (3, .long la), (5, .long ce), (0, .ref (Z (4, k, 0))), (1, .long d)] := hl
      have hL : M (Z (5, k, j)) = some (.inr (3, [.long (zs_pd X.1 (20 * k + j)), va_rf (zs_prev j (fun j => Z (5, k, j))), .long (zs_pc X.1 (20 * k + j))])) := hR.1 (5, k, j) ⟨hk, by omega⟩
      have hQ : ∀ i, (j ≤ i ∧ i < zs_pn X.1 k) ↔ (j + 1 ≤ i ∧ i < zs_pn X.1 k) ∨ i = j := fun i => by omega
      have h0 : 0 ≤ zs_pd X.1 (20 * k + j) := hI.2.2.2.1 k j (by omega)
      refine lv_aload hx hb dX0_priceOn_13 (lv_at hl 0 rfl) ?_
      refine lv_ifnull hx hb dX0_priceOn_15 ?_
      refine lv_aload hx hb dX0_priceOn_18 (lv_at hl 0 rfl) ?_
      refine zk_getN (ci := 3) (v := .long (zs_pd X.1 (20 * k + j))) (C := RX3) (T := TX3) (N := 3) hx hb hts inw_wsX0_priceOn_3 hown hK hH hL rfl 0 (by decide) (zk_nf_2 hN) rfl dX0_priceOn_20 ?_
      refine lv_lload_n hx hb dX0_priceOn_23 rfl (lv_at hl 4 rfl) ?_
      refine zk_lc_gt (tgt := 51) hx hb dX0_priceOn_24 dX0_priceOn_25 (by decide) (fun h_24 => ?_) (fun h_24 => ?_)
      · skip
        refine lv_aload hx hb dX0_priceOn_51 (lv_at hl 0 rfl) ?_
        refine zk_getN (ci := 3) (v := va_rf (zs_prev j (fun j => Z (5, k, j)))) (C := RX3) (T := TX3) (N := 3) hx hb hts inw_wsX0_priceOn_3 hown hK hH hL rfl 1 (by decide) (zk_nf_3 hN) rfl dX0_priceOn_53 ?_
        refine zk_astore (lv' := [(7, va_rf (zs_prev j (fun j => Z (5, k, j)))), (3, .long la), (5, .long ce), (0, .ref (Z (4, k, 0))), (1, .long d)]) hx hb dX0_priceOn_56 hl (by decide) rfl (fun ls hl => ?_)
        refine lv_goto (tgt := 13) hx hb dX0_priceOn_58 (by decide) ?_
        exact ih _ _ ls (by omega) (zs_best_out hbe hQ h0 (fun q => absurd h_24 (Int64.not_lt.mpr q.1))) (lv_sub hl [0, 1, 2, 3, 4] rfl)
      · skip
        refine lv_aload hx hb dX0_priceOn_28 (lv_at hl 0 rfl) ?_
        refine zk_getN (ci := 3) (v := .long (zs_pd X.1 (20 * k + j))) (C := RX3) (T := TX3) (N := 3) hx hb hts inw_wsX0_priceOn_3 hown hK hH hL rfl 0 (by decide) (zk_nf_2 hN) rfl dX0_priceOn_30 ?_
        refine lv_lload_n hx hb dX0_priceOn_33 rfl (lv_at hl 1 rfl) ?_
        refine zk_lc_le (tgt := 51) hx hb dX0_priceOn_34 dX0_priceOn_35 (by decide) (fun h_34 => ?_) (fun h_34 => ?_)
        · skip
          refine lv_aload hx hb dX0_priceOn_51 (lv_at hl 0 rfl) ?_
          refine zk_getN (ci := 3) (v := va_rf (zs_prev j (fun j => Z (5, k, j)))) (C := RX3) (T := TX3) (N := 3) hx hb hts inw_wsX0_priceOn_3 hown hK hH hL rfl 1 (by decide) (zk_nf_3 hN) rfl dX0_priceOn_53 ?_
          refine zk_astore (lv' := [(7, va_rf (zs_prev j (fun j => Z (5, k, j)))), (3, .long la), (5, .long ce), (0, .ref (Z (4, k, 0))), (1, .long d)]) hx hb dX0_priceOn_56 hl (by decide) rfl (fun ls hl => ?_)
          refine lv_goto (tgt := 13) hx hb dX0_priceOn_58 (by decide) ?_
          exact ih _ _ ls (by omega) (zs_best_out hbe hQ h0 (fun q => absurd q.2 (Int64.not_lt.mpr h_34))) (lv_sub hl [0, 1, 2, 3, 4] rfl)
        · skip
          refine lv_aload hx hb dX0_priceOn_38 (lv_at hl 0 rfl) ?_
          refine zk_getN (ci := 3) (v := .long (zs_pd X.1 (20 * k + j))) (C := RX3) (T := TX3) (N := 3) hx hb hts inw_wsX0_priceOn_3 hown hK hH hL rfl 0 (by decide) (zk_nf_2 hN) rfl dX0_priceOn_40 ?_
          refine lv_lstore_n (lv' := [(3, .long (zs_pd X.1 (20 * k + j))), (7, .ref (Z (5, k, j))), (5, .long ce), (0, .ref (Z (4, k, 0))), (1, .long d)]) hx hb dX0_priceOn_43 rfl hl (by decide) rfl (fun ls hl => ?_)
          refine lv_aload hx hb dX0_priceOn_44 (lv_at hl 1 rfl) ?_
          refine zk_getN (ci := 3) (v := .long (zs_pc X.1 (20 * k + j))) (C := RX3) (T := TX3) (N := 3) hx hb hts inw_wsX0_priceOn_3 hown hK hH hL rfl 2 (by decide) (zk_nf_4 hN) rfl dX0_priceOn_46 ?_
          refine lv_lstore (lv' := [(5, .long (zs_pc X.1 (20 * k + j))), (3, .long (zs_pd X.1 (20 * k + j))), (7, .ref (Z (5, k, j))), (0, .ref (Z (4, k, 0))), (1, .long d)]) hx hb dX0_priceOn_49 hl (by decide) rfl (fun ls hl => ?_)
          refine lv_aload hx hb dX0_priceOn_51 (lv_at hl 2 rfl) ?_
          refine zk_getN (ci := 3) (v := va_rf (zs_prev j (fun j => Z (5, k, j)))) (C := RX3) (T := TX3) (N := 3) hx hb hts inw_wsX0_priceOn_3 hown hK hH hL rfl 1 (by decide) (zk_nf_3 hN) rfl dX0_priceOn_53 ?_
          refine zk_astore (lv' := [(7, va_rf (zs_prev j (fun j => Z (5, k, j)))), (5, .long (zs_pc X.1 (20 * k + j))), (3, .long (zs_pd X.1 (20 * k + j))), (0, .ref (Z (4, k, 0))), (1, .long d)]) hx hb dX0_priceOn_56 hl (by decide) rfl (fun ls hl => ?_)
          refine lv_goto (tgt := 13) hx hb dX0_priceOn_58 (by decide) ?_
          exact ih _ _ ls (by omega) (zs_best_in hbe hQ (Int64.not_lt.mp h_24) (Int64.not_le.mp h_34)) (lv_sub hl [0, 2, 1, 3, 4] rfl)
  exact loop (zs_pn X.1 k) (-1) 0 ls (Nat.le_refl _) (Or.inl ⟨rfl, rfl, fun j hj => by omega⟩) (lv_sub hl [0, 2, 1, 3, 4] rfl)

theorem inw_wsX0_tellPrice_0 : ∀ w ∈ u_ws RX0 TX0 3, w ∈ wsX0_tellPrice := by decide +kernel
theorem inw_wsX0_tellPrice_3 : ∀ w ∈ u_ws RX3 TX3 3, w ∈ wsX0_tellPrice := by decide +kernel
set_option maxHeartbeats 4000000 in
set_option maxRecDepth 100000 in
theorem zc_X0_tellPrice (l : Launch) {g : zk_G} {z : Nat} {M : zk_M} {X : zs_X} {Z : zs_Z} {n : Nat} (hR : zs_R g X Z M) (hI : zs_I X.1 n) {k : Nat} (hk : k < zs_nk X.1) (d c : Int64) : Met l yX0_tellPrice wsX0_tellPrice ({ frames := 2, cells := 1, slots := 3, locals := 37 } : Room) (va_Pc [.ref (Z (4, k, 0)), .long d, .long c] (zk_U g z M)) (va_Qi (fun r u => r = (zs_tell X.1 k d c).1 ∧ zs_P g X Z ((zs_tell X.1 k d c).2, X.2) u) (zk_B g z) (fun q => z ≤ q)) 1 3 (fun q => z ≤ q) := by
  refine Met.ofW (cc := cX0_tellPrice) (maxL := 7) (ret := (some .boolean)) (by decide) rfl ?_
  intro P0 e0 s m0 args below meth c0 s₁ B hml hv
  obtain ⟨rfl, hH, hK, hN⟩ := hv
  have hx := B.exec
  have hb := B.bytes
  have hr := B.returns
  have hts := atoms_spec (ws := wsX0_tellPrice) B.pre
  have hown : s.vm.findClass RX0 = some m0.cls := findClass_of_methodNamed B.named
  have hlocks := B.notSynchronized
  have hS : va_S (fun q => z ≤ q) s.heap s.heap [] := va_S.rf
  have hl := lv_entry ([.ref (Z (4, k, 0)), .long d, .long c]) (n := 7) (Nat.le_of_ble_eq_true rfl)
  rw [lg_entry_eq]
  generalize (lg_sl ([.ref (Z (4, k, 0)), .long d, .long c]) ++ List.replicate (7 - (lg_sl ([.ref (Z (4, k, 0)), .long d, .long c])).length) Slot.unset).toArray = ls at hl ⊢
  have hl : lv_has ls 7 [(0, .ref (Z (4, k, 0))), (1, .long d), (3, .long c)] := hl
  have hK0 : M (Z (4, k, 0)) = some (.inr (0, [va_rf (zs_prev (zs_pn X.1 k) (fun j => Z (5, k, j))), .long (zs_sh X.1 k), .long (zs_rs X.1 k)])) := hR.1 (4, k, 0) ⟨hk, rfl⟩
  have h20 := hI.2.1.1 k
  refine lv_iconst (v := 0) hx hb dX0_tellPrice_0 (by decide) ?_
  refine lv_istore (lv' := [(5, .int 0), (0, .ref (Z (4, k, 0))), (1, .long d), (3, .long c)]) hx hb dX0_tellPrice_1 hl (by decide) rfl (fun ls hl => ?_)
  refine lv_aload_n hx hb dX0_tellPrice_3 rfl (lv_at hl 1 rfl) ?_
  refine zk_get (ci := 0) (v := va_rf (zs_prev (zs_pn X.1 k) (fun j => Z (5, k, j)))) (C := RX0) (T := TX0) (N := 3) hx hb hts inw_wsX0_tellPrice_0 hown hK hH hK0 rfl 0 (by decide) (hts (.fieldLink RX0 9 "KegDeposits$Kind" "prices" "LKegDeposits$Price;") (by decide +kernel)) rfl dX0_tellPrice_4 ?_
  refine zk_astore (lv' := [(6, va_rf (zs_prev (zs_pn X.1 k) (fun j => Z (5, k, j)))), (5, .int 0), (0, .ref (Z (4, k, 0))), (1, .long d), (3, .long c)]) hx hb dX0_tellPrice_7 hl (by decide) rfl (fun ls hl => ?_)
  have loop : ∀ (a : Nat) (oth : Int32) (ls : Array Slot), a ≤ zs_pn X.1 k → oth = nI (zs_pn X.1 k - a) → zs_at (fun j => zs_pd X.1 (20 * k + j)) d (zs_pn X.1 k) (zs_pn X.1 k) = zs_at (fun j => zs_pd X.1 (20 * k + j)) d (zs_pn X.1 k) a → lv_has ls 7 [(6, va_rf (zs_prev a (fun j => Z (5, k, j)))), (5, .int oth), (0, .ref (Z (4, k, 0))), (1, .long d), (3, .long c)] → W P0 l e0 (headSpec wsX0_tellPrice ({ frames := 2, cells := 1, slots := 3, locals := 37 } : Room)).room s m0 ([.ref (Z (4, k, 0)), .long d, .long c] : List Value).toArray below meth c0 s.heap [] 0 0 (MQ below (va_Qi (fun r u => r = (zs_tell X.1 k d c).1 ∧ zs_P g X Z ((zs_tell X.1 k d c).2, X.2) u) (zk_B g z) (fun q => z ≤ q)) ([.ref (Z (4, k, 0)), .long d, .long c] : List Value).toArray s 1 3 (fun q => z ≤ q)) (F0 m0 9 ls []) := by
    intro a
    induction a with
    | zero =>
      intro oth ls ha ho hat hl
      have hat : zs_at (fun j => zs_pd X.1 (20 * k + j)) d (zs_pn X.1 k) (zs_pn X.1 k) = zs_pn X.1 k := hat
      have hl : lv_has ls 7 [(6, .null), (5, .int oth), (0, .ref (Z (4, k, 0))), (1, .long d), (3, .long c)] := hl
      refine lv_aloadN hx hb dX0_tellPrice_9 (lv_at hl 0 rfl) ?_
      refine lv_ifnullN (tgt := 45) hx hb dX0_tellPrice_11 (by decide) ?_
      refine lv_iload hx hb dX0_tellPrice_45 (lv_at hl 1 rfl) ?_
      refine lv_bipush (v := 20) hx hb dX0_tellPrice_47 (by decide) ?_
      refine lv_icmp_lt (tgt := 54) hx hb dX0_tellPrice_49 (by decide) (fun h_49 => ?_) (fun h_49 => ?_)
      · skip
        have hlt : zs_pn X.1 k < 20 := by rw [ho, Nat.sub_zero] at h_49; exact Decidable.byContradiction (fun q => nI_nlt (a := zs_pn X.1 k) (b := 20) (by omega) (by omega) h_49)
        refine lv_aload_n hx hb dX0_tellPrice_54 rfl (lv_at hl 2 rfl) ?_
        refine zk_new (ci := 3) (fs := [.long 0, .null, .long 0]) (C := RX3) (T := TX3) (N := 3) hx hb hts inw_wsX0_tellPrice_3 tyX3 tyX3_ok hown (hts (.classLink RX0 16 RX3) (by decide +kernel)) (hts (.instantiable RX3 3) (by decide +kernel)) (hts (.initialized RX3) (by decide +kernel)) hK hH hS rfl (fun j hj => by rcases (show j = 0 ∨ j = 1 ∨ j = 2 by omega) with rfl | rfl | rfl <;> rfl) (Nat.le_of_ble_eq_true rfl) (Nat.le_of_ble_eq_true rfl) dX0_tellPrice_55 (fun q_55 H hf_55 hH hS => ?_)
        obtain ⟨M_55, eM_55⟩ : ∃ w_0 : zk_M, w_0 = zk_up M q_55 (.inr (3, [.long 0, .null, .long 0])) := ⟨_, rfl⟩
        have hH : zk_H g z M_55 H := by rw [eM_55]; exact hH
        have f_55_0 : M_55 (Z (4, k, 0)) = some (.inr (0, [va_rf (zs_prev (zs_pn X.1 k) (fun j => Z (5, k, j))), .long (zs_sh X.1 k), .long (zs_rs X.1 k)])) := by rw [eM_55, zk_up_n _ _ (zk_ne_none hK0 hf_55)]; exact hK0
        have e_55 : M_55 q_55 = some (.inr (3, [.long 0, .null, .long 0])) := by rw [eM_55]; exact zk_up_s _ _ _
        refine lv_dup hx hb dX0_tellPrice_58 rfl ?_
        refine lv_lload_n hx hb dX0_tellPrice_59 rfl (lv_at hl 3 rfl) ?_
        refine lv_lload_n hx hb dX0_tellPrice_60 rfl (lv_at hl 4 rfl) ?_
        refine lv_aload_n hx hb dX0_tellPrice_61 rfl (lv_at hl 2 rfl) ?_
        refine zk_get (ci := 0) (v := va_rf (zs_prev (zs_pn X.1 k) (fun j => Z (5, k, j)))) (C := RX0) (T := TX0) (N := 3) hx hb hts inw_wsX0_tellPrice_0 hown hK hH f_55_0 rfl 0 (by decide) (hts (.fieldLink RX0 9 "KegDeposits$Kind" "prices" "LKegDeposits$Price;") (by decide +kernel)) rfl dX0_tellPrice_62 ?_
        refine zk_callv (va_runI (As := [.long d, .long c, va_rf (zs_prev (zs_pn X.1 k) (fun j => Z (5, k, j)))]) (rest := [.ref q_55, .ref (Z (4, k, 0))]) ⟨hx, hb, hml, hown, hts⟩ (zc_X3_init l d c (zs_prev (zs_pn X.1 k) (fun j => Z (5, k, j))) e_55) (cwI 3 hts gX0_tellPrice_X3_init rfl rfl rfl (hts (.initialized RX3) (by decide +kernel)) (hts (.methodLink RX0 27 yX3_init) (by decide +kernel)) (hts (.instanceMethod yX3_init) (by decide +kernel)) rfl (by decide +kernel) ⟨Nat.le_of_ble_eq_true rfl, Nat.le_of_ble_eq_true rfl⟩) (zk_preS hH hK hN) rfl rfl hl.1 rfl (lv_room (Nat.le_of_ble_eq_true rfl)) dX0_tellPrice_65 ⟨(Nat.le_of_ble_eq_true rfl), (Nat.le_of_ble_eq_true rfl)⟩) hS (fun u_65 H locs hH hr_65 hS => ?_)
        have f_65 : u_65 (Z (4, k, 0)) = some (.inr (0, [va_rf (zs_prev (zs_pn X.1 k) (fun j => Z (5, k, j))), .long (zs_sh X.1 k), .long (zs_rs X.1 k)])) := (hr_65.2 _ (zk_ne_none hK0 hf_55)).trans f_55_0
        have e_65 := hr_65.1
        refine zk_put (ci := 0) (v := .ref q_55) (C := RX0) (T := TX0) (N := 3) hx hb hts inw_wsX0_tellPrice_0 tyX0 tyX0_ok nmX0 hown hK hH hS f_65 rfl 0 (by decide) (hts (.fieldLink RX0 9 "KegDeposits$Kind" "prices" "LKegDeposits$Price;") (by decide +kernel)) rfl rfl rfl (Nat.le_of_ble_eq_true rfl) dX0_tellPrice_68 (fun H locs hH hS => ?_)
        obtain ⟨M_68, eM_68⟩ : ∃ w_0 : zk_M, w_0 = zk_up u_65 (Z (4, k, 0)) (.inr (0, [.ref q_55, .long (zs_sh X.1 k), .long (zs_rs X.1 k)])) := ⟨_, rfl⟩
        have hH : zk_H g z M_68 H := by rw [eM_68]; exact hH
        have f_68_0 : M_68 q_55 = some (.inr (3, [.long d, va_rf (zs_prev (zs_pn X.1 k) (fun j => Z (5, k, j))), .long c])) := by rw [eM_68, zk_up_n _ _ (zk_ne hr_65.1 f_65 (by simp))]; exact hr_65.1
        have e_68 : M_68 (Z (4, k, 0)) = some (.inr (0, [.ref q_55, .long (zs_sh X.1 k), .long (zs_rs X.1 k)])) := by rw [eM_68]; exact zk_up_s _ _ _
        have g_68 := f_68_0
        refine lv_iconst (v := 1) hx hb dX0_tellPrice_71 (by decide) ?_
        exact zk_zret hx hb hr hlocks (by first | rfl | decide) hH hS (by decide) (by decide) (by unfold zs_tell; rw [if_neg (by rw [hat]; exact Nat.lt_irrefl _), if_pos hlt]; exact ⟨rfl, _, zs_R_price hR hI hk hlt d c hf_55 (fun b h1 h2 => by rw [eM_68, zk_up_n _ _ h2, hr_65.2 b h1, eM_55, zk_up_n _ _ h1]) e_68 g_68, fun q hq => zs_Zup_n Z _ (fun e => absurd (e ▸ hq : zs_ok X (5, k, zs_pn X.1 k)).2 (Nat.lt_irrefl _))⟩) dX0_tellPrice_72
      · skip
        have hlt : ¬ zs_pn X.1 k < 20 := fun q => h_49 (by rw [ho, Nat.sub_zero]; exact nI_lt (a := zs_pn X.1 k) (b := 20) q (by omega))
        refine lv_iconst (v := 0) hx hb dX0_tellPrice_52 (by decide) ?_
        exact zk_zret hx hb hr hlocks (by first | rfl | decide) hH hS (by decide) (by decide) (by unfold zs_tell; rw [if_neg (by rw [hat]; exact Nat.lt_irrefl _), if_neg hlt]; exact ⟨rfl, Z, hR, fun _ _ => rfl⟩) dX0_tellPrice_53
    | succ j ih =>
      intro oth ls ha ho hat hl
      have hl : lv_has ls 7 [(6, .ref (Z (5, k, j))), (5, .int oth), (0, .ref (Z (4, k, 0))), (1, .long d), (3, .long c)] := hl
      have hL : M (Z (5, k, j)) = some (.inr (3, [.long (zs_pd X.1 (20 * k + j)), va_rf (zs_prev j (fun j => Z (5, k, j))), .long (zs_pc X.1 (20 * k + j))])) := hR.1 (5, k, j) ⟨hk, by omega⟩
      refine lv_aload hx hb dX0_tellPrice_9 (lv_at hl 0 rfl) ?_
      refine lv_ifnull hx hb dX0_tellPrice_11 ?_
      refine lv_aload hx hb dX0_tellPrice_14 (lv_at hl 0 rfl) ?_
      refine zk_getN (ci := 3) (v := .long (zs_pd X.1 (20 * k + j))) (C := RX3) (T := TX3) (N := 3) hx hb hts inw_wsX0_tellPrice_3 hown hK hH hL rfl 0 (by decide) (zk_nf_2 hN) rfl dX0_tellPrice_16 ?_
      refine lv_lload_n hx hb dX0_tellPrice_19 rfl (lv_at hl 3 rfl) ?_
      refine zk_lc_ne (tgt := 32) hx hb dX0_tellPrice_20 dX0_tellPrice_21 (by decide) (fun h_20 => ?_) (fun h_20 => ?_)
      · skip
        refine lv_iinc (v := (oth + 1)) (lv' := [(5, .int (oth + 1)), (6, .ref (Z (5, k, j))), (0, .ref (Z (4, k, 0))), (1, .long d), (3, .long c)]) hx hb dX0_tellPrice_32 hl (k := 1) rfl rfl (by decide) rfl (fun ls hl => ?_)
        refine lv_aload hx hb dX0_tellPrice_35 (lv_at hl 1 rfl) ?_
        refine zk_getN (ci := 3) (v := va_rf (zs_prev j (fun j => Z (5, k, j)))) (C := RX3) (T := TX3) (N := 3) hx hb hts inw_wsX0_tellPrice_3 hown hK hH hL rfl 1 (by decide) (zk_nf_3 hN) rfl dX0_tellPrice_37 ?_
        refine zk_astore (lv' := [(6, va_rf (zs_prev j (fun j => Z (5, k, j)))), (5, .int (oth + 1)), (0, .ref (Z (4, k, 0))), (1, .long d), (3, .long c)]) hx hb dX0_tellPrice_40 hl (by decide) rfl (fun ls hl => ?_)
        refine lv_goto (tgt := 9) hx hb dX0_tellPrice_42 (by decide) ?_
        exact ih _ ls (by omega) (by rw [ho]; exact (nI_1 _).trans (congrArg nI (by omega))) (hat.trans (if_neg h_20)) (lv_sub hl [0, 1, 2, 3, 4] rfl)
      · skip
        have hat2 : zs_at (fun j => zs_pd X.1 (20 * k + j)) d (zs_pn X.1 k) (zs_pn X.1 k) = j := hat.trans (if_pos h_20)
        refine lv_aload hx hb dX0_tellPrice_24 (lv_at hl 0 rfl) ?_
        refine lv_lload_n hx hb dX0_tellPrice_26 rfl (lv_at hl 4 rfl) ?_
        refine zk_putN (ci := 3) (v := .long c) (C := RX3) (T := TX3) (N := 3) hx hb hts inw_wsX0_tellPrice_3 tyX3 tyX3_ok nmX3 hown hK hH hS hL rfl 2 (by decide) (zk_nf_4 hN) rfl rfl rfl (Nat.le_of_ble_eq_true rfl) dX0_tellPrice_27 (fun H locs hH hS => ?_)
        obtain ⟨M_27, eM_27⟩ : ∃ w_0 : zk_M, w_0 = zk_up M (Z (5, k, j)) (.inr (3, [.long (zs_pd X.1 (20 * k + j)), va_rf (zs_prev j (fun j => Z (5, k, j))), .long c])) := ⟨_, rfl⟩
        have hH : zk_H g z M_27 H := by rw [eM_27]; exact hH
        have e_27 : M_27 (Z (5, k, j)) = some (.inr (3, [.long (zs_pd X.1 (20 * k + j)), va_rf (zs_prev j (fun j => Z (5, k, j))), .long c])) := by rw [eM_27]; exact zk_up_s _ _ _
        refine lv_iconst (v := 1) hx hb dX0_tellPrice_30 (by decide) ?_
        exact zk_zret hx hb hr hlocks (by first | rfl | decide) hH hS (by decide) (by decide) (by unfold zs_tell; rw [hat2, if_pos (by omega)]; exact ⟨rfl, Z, by rw [eM_27]; exact zs_R_pc hR hI.2.1 hk (by omega) c, fun _ _ => rfl⟩) dX0_tellPrice_31
  exact loop (zs_pn X.1 k) 0 ls (Nat.le_refl _) (by rw [Nat.sub_self]; rfl) rfl (lv_sub hl [0, 1, 2, 3, 4] rfl)
