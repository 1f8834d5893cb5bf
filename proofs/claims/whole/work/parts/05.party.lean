theorem zs_sum_step {f : Nat → Int64} {a i : Nat} (h : a ≤ i) (hz : ∀ j, a ≤ j → j < i → f j = 0) : zs_sum f (i + 1) = zs_sum f a + f i := by
  show zs_sum f i + f i = _
  rw [zs_sum_to h hz]
theorem inw_wsX2_piecesUpTo_1 : ∀ w ∈ u_ws RX1 TX1 5, w ∈ wsX2_piecesUpTo := by decide +kernel
theorem inw_wsX2_piecesUpTo_2 : ∀ w ∈ u_ws RX2 TX2 2, w ∈ wsX2_piecesUpTo := by decide +kernel
set_option maxHeartbeats 4000000 in
set_option maxRecDepth 100000 in
/-- the pieces of a kind of a party that went out up to a day -/
theorem zc_X2_piecesUpTo (l : Launch) {g : zk_G} {z : Nat} {M : zk_M} {X : zs_X} {Z : zs_Z} (hR : zs_R g X Z M) (hI : ∀ i, i < zs_nl X.1 → zs_lk X.1 i < zs_nk X.1) {p k : Nat} (hp : p < zs_np X.1) (hk : k < zs_nk X.1) (dy : Int64) : Met l yX2_piecesUpTo wsX2_piecesUpTo ({ frames := 0, cells := 0, slots := 0, locals := 0 } : Room) (va_Pc [.ref (Z (3, p, 0)), .ref (Z (4, k, 0)), .long dy] (zk_U g z M)) (vp_Sl (fun r => r = zs_pup X.1 p k dy)) 0 0 (fun _ => False) := by
  refine Met.ofW (cc := cX2_piecesUpTo) (maxL := 7) (ret := (some .long)) (by decide) rfl ?_
  intro P0 e0 s m0 args below meth c0 s₁ B hml hv
  obtain ⟨rfl, hH, hK, hN⟩ := hv
  have hx := B.exec
  have hb := B.bytes
  have hr := B.returns
  have hts := atoms_spec (ws := wsX2_piecesUpTo) B.pre
  have hown : s.vm.findClass RX2 = some m0.cls := findClass_of_methodNamed B.named
  have hlocks := B.notSynchronized
  have hl := lv_entry ([.ref (Z (3, p, 0)), .ref (Z (4, k, 0)), .long dy]) (n := 7) (Nat.le_of_ble_eq_true rfl)
  rw [lg_entry_eq]
  generalize (lg_sl ([.ref (Z (3, p, 0)), .ref (Z (4, k, 0)), .long dy]) ++ List.replicate (7 - (lg_sl ([.ref (Z (3, p, 0)), .ref (Z (4, k, 0)), .long dy])).length) Slot.unset).toArray = ls at hl ⊢
  have hl : lv_has ls 7 [(0, .ref (Z (3, p, 0))), (1, .ref (Z (4, k, 0))), (2, .long dy)] := hl
  have hP : M (Z (3, p, 0)) = some (.inr (2, [va_rf ((zs_nx X.1 p 0).map (fun i => Z (6, i, 0))), va_rf ((zs_lst (zs_lp X.1) p (zs_nl X.1)).map (fun i => Z (6, i, 0)))])) := hR.1 (3, p, 0) ⟨hp, rfl⟩
  refine lv_lconst (v := 0) hx hb dX2_piecesUpTo_0 (by decide) ?_
  refine lv_lstore (lv' := [(4, .long 0), (0, .ref (Z (3, p, 0))), (1, .ref (Z (4, k, 0))), (2, .long dy)]) hx hb dX2_piecesUpTo_1 hl (by decide) rfl (fun ls hl => ?_)
  refine lv_aload_n hx hb dX2_piecesUpTo_3 rfl (lv_at hl 1 rfl) ?_
  refine zk_get (ci := 2) (v := va_rf ((zs_nx X.1 p 0).map (fun i => Z (6, i, 0)))) (C := RX2) (T := TX2) (N := 2) hx hb hts inw_wsX2_piecesUpTo_2 hown hK hH hP rfl 0 (by decide) (hts (.fieldLink RX2 13 "KegDeposits$Party" "oldest" "LKegDeposits$Layer;") (by decide +kernel)) rfl dX2_piecesUpTo_4 ?_
  refine zk_astore (lv' := [(6, va_rf ((zs_nx X.1 p 0).map (fun i => Z (6, i, 0)))), (4, .long 0), (0, .ref (Z (3, p, 0))), (1, .ref (Z (4, k, 0))), (2, .long dy)]) hx hb dX2_piecesUpTo_7 hl (by decide) rfl (fun ls hl => ?_)
  have loop : ∀ (n a : Nat) (acc : Int64) (ls : Array Slot), zs_nl X.1 - a < n → a ≤ zs_nl X.1 → acc = zs_sum (zs_pupf X.1 p k dy) a → lv_has ls 7 [(6, va_rf ((zs_nx X.1 p a).map (fun i => Z (6, i, 0)))), (4, .long acc), (0, .ref (Z (3, p, 0))), (1, .ref (Z (4, k, 0))), (2, .long dy)] → W P0 l e0 (headSpec wsX2_piecesUpTo ({ frames := 0, cells := 0, slots := 0, locals := 0 } : Room)).room s m0 ([.ref (Z (3, p, 0)), .ref (Z (4, k, 0)), .long dy] : List Value).toArray below meth c0 s.heap [] 0 0 (MQ below (vp_Sl (fun r => r = zs_pup X.1 p k dy)) ([.ref (Z (3, p, 0)), .ref (Z (4, k, 0)), .long dy] : List Value).toArray s 0 0 (fun _ => False)) (F0 m0 9 ls []) := by
    intro n
    induction n with
    | zero => intro a acc ls hn; omega
    | succ n ih =>
      intro a acc ls hn ha hacc hl
      cases hnx : zs_nx X.1 p a with
      | none =>
        rw [hnx] at hl
        have hl : lv_has ls 7 [(6, .null), (4, .long acc), (0, .ref (Z (3, p, 0))), (1, .ref (Z (4, k, 0))), (2, .long dy)] := hl
        refine lv_aloadN hx hb dX2_piecesUpTo_9 (lv_at hl 0 rfl) ?_
        refine lv_ifnullN (tgt := 53) hx hb dX2_piecesUpTo_11 (by decide) ?_
        refine lv_lload hx hb dX2_piecesUpTo_53 (lv_at hl 1 rfl) ?_
        exact zk_lretS hx hb hr hlocks (by rw [hacc]; exact (zs_sum_to ha (fun j h1 h2 => by simp [zs_pupf, zs_nx_none hnx j h1 h2])).symm) dX2_piecesUpTo_55
      | some i =>
        obtain ⟨h1, h2, h3, h4⟩ := zs_nx_some hnx
        rw [hnx] at hl
        have hl : lv_has ls 7 [(6, .ref (Z (6, i, 0))), (4, .long acc), (0, .ref (Z (3, p, 0))), (1, .ref (Z (4, k, 0))), (2, .long dy)] := hl
        have hL : M (Z (6, i, 0)) = some (.inr (1, [.ref (Z (4, zs_lk X.1 i, 0)), .long (zs_ld X.1 i), .long (zs_lc X.1 i), .long (zs_ll X.1 i), va_rf ((zs_nx X.1 p (i + 1)).map (fun i => Z (6, i, 0)))])) := by rw [← h3]; exact hR.1 (6, i, 0) ⟨h2, rfl⟩
        have hs := zs_sum_step (f := zs_pupf X.1 p k dy) h1 (fun j g1 g2 => by simp [zs_pupf, h4 j g1 g2])
        refine lv_aload hx hb dX2_piecesUpTo_9 (lv_at hl 0 rfl) ?_
        refine lv_ifnull hx hb dX2_piecesUpTo_11 ?_
        refine lv_aload hx hb dX2_piecesUpTo_14 (lv_at hl 0 rfl) ?_
        refine zk_getN (ci := 1) (v := .ref (Z (4, zs_lk X.1 i, 0))) (C := RX1) (T := TX1) (N := 5) hx hb hts inw_wsX2_piecesUpTo_1 hown hK hH hL rfl 0 (by decide) (zk_nf_5 hN) rfl dX2_piecesUpTo_16 ?_
        refine lv_aload_n hx hb dX2_piecesUpTo_19 rfl (lv_at hl 3 rfl) ?_
        refine lv_acmp_ne (rx := (some (Z (4, zs_lk X.1 i, 0)))) (ry := (some (Z (4, k, 0)))) (tgt := 43) hx hb dX2_piecesUpTo_20 (by decide) (fun h_20 => ?_) (fun h_20 => ?_)
        · skip
          have hkk : ¬ zs_lk X.1 i = k := fun q => h_20 (by rw [q])
          refine lv_aload hx hb dX2_piecesUpTo_43 (lv_at hl 0 rfl) ?_
          refine zk_getN (ci := 1) (v := va_rf ((zs_nx X.1 p (i + 1)).map (fun i => Z (6, i, 0)))) (C := RX1) (T := TX1) (N := 5) hx hb hts inw_wsX2_piecesUpTo_1 hown hK hH hL rfl 4 (by decide) (zk_nf_9 hN) rfl dX2_piecesUpTo_45 ?_
          refine zk_astore (lv' := [(6, va_rf ((zs_nx X.1 p (i + 1)).map (fun i => Z (6, i, 0)))), (4, .long acc), (0, .ref (Z (3, p, 0))), (1, .ref (Z (4, k, 0))), (2, .long dy)]) hx hb dX2_piecesUpTo_48 hl (by decide) rfl (fun ls hl => ?_)
          refine lv_goto (tgt := 9) hx hb dX2_piecesUpTo_50 (by decide) ?_
          exact ih (i + 1) _ ls (by omega) (by omega) (by rw [hs, hacc]; simp [zs_pupf, hkk]) (lv_sub hl [0, 1, 2, 3, 4] rfl)
        · skip
          have hkk : zs_lk X.1 i = k := by have := hR.2 (4, zs_lk X.1 i, 0) (4, k, 0) ⟨hI i h2, rfl⟩ ⟨hk, rfl⟩ (Option.some.inj h_20); simpa using this
          refine lv_aload hx hb dX2_piecesUpTo_23 (lv_at hl 0 rfl) ?_
          refine zk_getN (ci := 1) (v := .long (zs_ld X.1 i)) (C := RX1) (T := TX1) (N := 5) hx hb hts inw_wsX2_piecesUpTo_1 hown hK hH hL rfl 1 (by decide) (zk_nf_6 hN) rfl dX2_piecesUpTo_25 ?_
          refine lv_lload_n hx hb dX2_piecesUpTo_28 rfl (lv_at hl 4 rfl) ?_
          refine zk_lc_gt (tgt := 43) hx hb dX2_piecesUpTo_29 dX2_piecesUpTo_30 (by decide) (fun h_29 => ?_) (fun h_29 => ?_)
          · skip
            have hdd : ¬ zs_ld X.1 i ≤ dy := fun q => absurd h_29 (Int64.not_lt.mpr q)
            refine lv_aload hx hb dX2_piecesUpTo_43 (lv_at hl 0 rfl) ?_
            refine zk_getN (ci := 1) (v := va_rf ((zs_nx X.1 p (i + 1)).map (fun i => Z (6, i, 0)))) (C := RX1) (T := TX1) (N := 5) hx hb hts inw_wsX2_piecesUpTo_1 hown hK hH hL rfl 4 (by decide) (zk_nf_9 hN) rfl dX2_piecesUpTo_45 ?_
            refine zk_astore (lv' := [(6, va_rf ((zs_nx X.1 p (i + 1)).map (fun i => Z (6, i, 0)))), (4, .long acc), (0, .ref (Z (3, p, 0))), (1, .ref (Z (4, k, 0))), (2, .long dy)]) hx hb dX2_piecesUpTo_48 hl (by decide) rfl (fun ls hl => ?_)
            refine lv_goto (tgt := 9) hx hb dX2_piecesUpTo_50 (by decide) ?_
            exact ih (i + 1) _ ls (by omega) (by omega) (by rw [hs, hacc]; simp [zs_pupf, hdd]) (lv_sub hl [0, 1, 2, 3, 4] rfl)
          · skip
            have hdd : zs_ld X.1 i ≤ dy := Int64.not_lt.mp h_29
            refine lv_lload hx hb dX2_piecesUpTo_33 (lv_at hl 1 rfl) ?_
            refine lv_aload hx hb dX2_piecesUpTo_35 (lv_at hl 0 rfl) ?_
            refine zk_getN (ci := 1) (v := .long (zs_ll X.1 i)) (C := RX1) (T := TX1) (N := 5) hx hb hts inw_wsX2_piecesUpTo_1 hown hK hH hL rfl 3 (by decide) (zk_nf_8 hN) rfl dX2_piecesUpTo_37 ?_
            refine lv_ladd hx hb dX2_piecesUpTo_40 ?_
            refine lv_lstore (lv' := [(4, .long (acc + zs_ll X.1 i)), (6, .ref (Z (6, i, 0))), (0, .ref (Z (3, p, 0))), (1, .ref (Z (4, k, 0))), (2, .long dy)]) hx hb dX2_piecesUpTo_41 hl (by decide) rfl (fun ls hl => ?_)
            refine lv_aload hx hb dX2_piecesUpTo_43 (lv_at hl 1 rfl) ?_
            refine zk_getN (ci := 1) (v := va_rf ((zs_nx X.1 p (i + 1)).map (fun i => Z (6, i, 0)))) (C := RX1) (T := TX1) (N := 5) hx hb hts inw_wsX2_piecesUpTo_1 hown hK hH hL rfl 4 (by decide) (zk_nf_9 hN) rfl dX2_piecesUpTo_45 ?_
            refine zk_astore (lv' := [(6, va_rf ((zs_nx X.1 p (i + 1)).map (fun i => Z (6, i, 0)))), (4, .long (acc + zs_ll X.1 i)), (0, .ref (Z (3, p, 0))), (1, .ref (Z (4, k, 0))), (2, .long dy)]) hx hb dX2_piecesUpTo_48 hl (by decide) rfl (fun ls hl => ?_)
            refine lv_goto (tgt := 9) hx hb dX2_piecesUpTo_50 (by decide) ?_
            exact ih (i + 1) _ ls (by omega) (by omega) (by rw [hs, hacc]; simp [zs_pupf, h3, hkk, hdd]) (lv_sub hl [0, 1, 2, 3, 4] rfl)
  exact loop (zs_nl X.1 + 1) 0 0 ls (by omega) (by omega) rfl (lv_sub hl [0, 1, 2, 3, 4] rfl)
