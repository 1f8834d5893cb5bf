def zk_chg (M : zk_M) (a : Nat) (e : va_E) (u : zk_M) : Prop := u a = some e ∧ ∀ b, b ≠ a → u b = M b
/-- what transfer i changes of party p's balance -/
def zs_chg (S : zs_S) (p i : Nat) : Int64 := if zs_tp S i = p then -zs_ta S i else if zs_tt S i = p then zs_ta S i else 0
theorem inw_wsX3_init_3 : ∀ w ∈ u_ws RX3 TX3 3, w ∈ wsX3_init := by decide +kernel
set_option maxHeartbeats 4000000 in
set_option maxRecDepth 100000 in
theorem zc_X3_init_n (l : Launch) {g : zk_G} {z : Nat} {M : zk_M} {a : Nat} (dy ct : Int64) (hm : M a = some (.inr (3, [.long 0, .null, .long 0]))) : Met l yX3_init wsX3_init ({ frames := 1, cells := 0, slots := 0, locals := 12 } : Room) (va_Pc [.ref a, .long dy, .long ct, .null] (zk_U g z M)) (va_Qv (fun u => zk_chg M a (.inr (3, [.long dy, .null, .long ct])) u) (zk_B g z) (fun q => z ≤ q)) 0 0 (fun q => z ≤ q) := by
  refine Met.ofW (cc := cX3_init) (maxL := 6) (ret := none) (by decide) rfl ?_
  intro P0 e0 s m0 args below meth c0 s₁ B hml hv
  obtain ⟨rfl, hH, hK, hN⟩ := hv
  have hx := B.exec
  have hb := B.bytes
  have hr := B.returns
  have hts := atoms_spec (ws := wsX3_init) B.pre
  have hown : s.vm.findClass RX3 = some m0.cls := findClass_of_methodNamed B.named
  have hlocks := B.notSynchronized
  have hin2 : meth.name = "<init>" := (name_of_methodNamed B.named B.method).1
  have hS : va_S (fun q => z ≤ q) s.heap s.heap [] := va_S.rf
  have hl := lv_entry ([.ref a, .long dy, .long ct, .null]) (n := 6) (Nat.le_of_ble_eq_true rfl)
  rw [lg_entry_eq]
  generalize (lg_sl ([.ref a, .long dy, .long ct, .null]) ++ List.replicate (6 - (lg_sl ([.ref a, .long dy, .long ct, .null])).length) Slot.unset).toArray = ls at hl ⊢
  have hl : lv_has ls 6 [(0, .ref a), (1, .long dy), (3, .long ct), (5, .null)] := hl
  refine lv_aload_n hx hb dX3_init_0 rfl (lv_at hl 0 rfl) ?_
  refine W.objInit hx hb hown (hts (.methodLink RX3 1 objectInit) (by decide +kernel)) (hts (.instanceMethod objectInit) (by decide +kernel)) (hts (.code objectInit ⟨#[0xb1]⟩ 1 none) (by decide +kernel)) rfl (by rw [hml]; exact hl.1) rfl dX3_init_1 (Nat.le_of_ble_eq_true rfl) (Nat.le_of_ble_eq_true rfl) ?_
  refine W.eq (g2 := F0 m0 4 ls []) rfl ?_
  refine lv_aload_n hx hb dX3_init_4 rfl (lv_at hl 0 rfl) ?_
  refine lv_lload_n hx hb dX3_init_5 rfl (lv_at hl 1 rfl) ?_
  refine zk_putF (ci := 3) (v := .long dy) (C := RX3) (T := TX3) (N := 3) hx hb hts inw_wsX3_init_3 tyX3 tyX3_ok nmX3 hown hK hH hS hm rfl 0 (by decide) (hts (.fieldLink RX3 7 "KegDeposits$Price" "day" "J") (by decide +kernel)) rfl hin2 rfl rfl rfl (Nat.le_of_ble_eq_true rfl) dX3_init_6 (fun H locs hH hS => ?_)
  obtain ⟨M_6, eM_6⟩ : ∃ w_0 : zk_M, w_0 = zk_up M a (.inr (3, [.long dy, .null, .long 0])) := ⟨_, rfl⟩
  have hH : zk_H g z M_6 H := by rw [eM_6]; exact hH
  have e_6 : M_6 a = some (.inr (3, [.long dy, .null, .long 0])) := by rw [eM_6]; exact zk_up_s _ _ _
  refine lv_aload_n hx hb dX3_init_9 rfl (lv_at hl 0 rfl) ?_
  refine lv_lload_n hx hb dX3_init_10 rfl (lv_at hl 2 rfl) ?_
  refine zk_put (ci := 3) (v := .long ct) (C := RX3) (T := TX3) (N := 3) hx hb hts inw_wsX3_init_3 tyX3 tyX3_ok nmX3 hown hK hH hS e_6 rfl 2 (by decide) (hts (.fieldLink RX3 13 "KegDeposits$Price" "cents" "J") (by decide +kernel)) rfl rfl rfl (Nat.le_of_ble_eq_true rfl) dX3_init_11 (fun H locs hH hS => ?_)
  obtain ⟨M_11, eM_11⟩ : ∃ w_0 : zk_M, w_0 = zk_up M_6 a (.inr (3, [.long dy, .null, .long ct])) := ⟨_, rfl⟩
  have hH : zk_H g z M_11 H := by rw [eM_11]; exact hH
  have e_11 : M_11 a = some (.inr (3, [.long dy, .null, .long ct])) := by rw [eM_11]; exact zk_up_s _ _ _
  refine lv_aload_n hx hb dX3_init_14 rfl (lv_at hl 0 rfl) ?_
  refine lv_aloadN hx hb dX3_init_15 (lv_at hl 3 rfl) ?_
  refine zk_putF (ci := 3) (v := .null) (C := RX3) (T := TX3) (N := 3) hx hb hts inw_wsX3_init_3 tyX3 tyX3_ok nmX3 hown hK hH hS e_11 rfl 1 (by decide) (hts (.fieldLink RX3 16 "KegDeposits$Price" "next" "LKegDeposits$Price;") (by decide +kernel)) rfl hin2 rfl rfl rfl (Nat.le_of_ble_eq_true rfl) dX3_init_17 (fun H locs hH hS => ?_)
  obtain ⟨M_17, eM_17⟩ : ∃ w_0 : zk_M, w_0 = zk_up M_11 a (.inr (3, [.long dy, .null, .long ct])) := ⟨_, rfl⟩
  have hH : zk_H g z M_17 H := by rw [eM_17]; exact hH
  have e_17 : M_17 a = some (.inr (3, [.long dy, .null, .long ct])) := by rw [eM_17]; exact zk_up_s _ _ _
  exact zk_vret hx hb hr hlocks hH hS (by decide) (by decide) ⟨e_17, fun b hb => by rw [eM_17, zk_up_n _ _ hb, eM_11, zk_up_n _ _ hb, eM_6, zk_up_n _ _ hb]⟩ dX3_init_20

set_option maxHeartbeats 4000000 in
set_option maxRecDepth 100000 in
theorem zc_X3_init_s (l : Launch) {g : zk_G} {z : Nat} {M : zk_M} {a : Nat} (dy ct : Int64) (x : Nat) (hm : M a = some (.inr (3, [.long 0, .null, .long 0]))) : Met l yX3_init wsX3_init ({ frames := 1, cells := 0, slots := 0, locals := 12 } : Room) (va_Pc [.ref a, .long dy, .long ct, .ref x] (zk_U g z M)) (va_Qv (fun u => zk_chg M a (.inr (3, [.long dy, .ref x, .long ct])) u) (zk_B g z) (fun q => z ≤ q)) 0 0 (fun q => z ≤ q) := by
  refine Met.ofW (cc := cX3_init) (maxL := 6) (ret := none) (by decide) rfl ?_
  intro P0 e0 s m0 args below meth c0 s₁ B hml hv
  obtain ⟨rfl, hH, hK, hN⟩ := hv
  have hx := B.exec
  have hb := B.bytes
  have hr := B.returns
  have hts := atoms_spec (ws := wsX3_init) B.pre
  have hown : s.vm.findClass RX3 = some m0.cls := findClass_of_methodNamed B.named
  have hlocks := B.notSynchronized
  have hin2 : meth.name = "<init>" := (name_of_methodNamed B.named B.method).1
  have hS : va_S (fun q => z ≤ q) s.heap s.heap [] := va_S.rf
  have hl := lv_entry ([.ref a, .long dy, .long ct, .ref x]) (n := 6) (Nat.le_of_ble_eq_true rfl)
  rw [lg_entry_eq]
  generalize (lg_sl ([.ref a, .long dy, .long ct, .ref x]) ++ List.replicate (6 - (lg_sl ([.ref a, .long dy, .long ct, .ref x])).length) Slot.unset).toArray = ls at hl ⊢
  have hl : lv_has ls 6 [(0, .ref a), (1, .long dy), (3, .long ct), (5, .ref x)] := hl
  refine lv_aload_n hx hb dX3_init_0 rfl (lv_at hl 0 rfl) ?_
  refine W.objInit hx hb hown (hts (.methodLink RX3 1 objectInit) (by decide +kernel)) (hts (.instanceMethod objectInit) (by decide +kernel)) (hts (.code objectInit ⟨#[0xb1]⟩ 1 none) (by decide +kernel)) rfl (by rw [hml]; exact hl.1) rfl dX3_init_1 (Nat.le_of_ble_eq_true rfl) (Nat.le_of_ble_eq_true rfl) ?_
  refine W.eq (g2 := F0 m0 4 ls []) rfl ?_
  refine lv_aload_n hx hb dX3_init_4 rfl (lv_at hl 0 rfl) ?_
  refine lv_lload_n hx hb dX3_init_5 rfl (lv_at hl 1 rfl) ?_
  refine zk_putF (ci := 3) (v := .long dy) (C := RX3) (T := TX3) (N := 3) hx hb hts inw_wsX3_init_3 tyX3 tyX3_ok nmX3 hown hK hH hS hm rfl 0 (by decide) (hts (.fieldLink RX3 7 "KegDeposits$Price" "day" "J") (by decide +kernel)) rfl hin2 rfl rfl rfl (Nat.le_of_ble_eq_true rfl) dX3_init_6 (fun H locs hH hS => ?_)
  obtain ⟨M_6, eM_6⟩ : ∃ w_0 : zk_M, w_0 = zk_up M a (.inr (3, [.long dy, .null, .long 0])) := ⟨_, rfl⟩
  have hH : zk_H g z M_6 H := by rw [eM_6]; exact hH
  have e_6 : M_6 a = some (.inr (3, [.long dy, .null, .long 0])) := by rw [eM_6]; exact zk_up_s _ _ _
  refine lv_aload_n hx hb dX3_init_9 rfl (lv_at hl 0 rfl) ?_
  refine lv_lload_n hx hb dX3_init_10 rfl (lv_at hl 2 rfl) ?_
  refine zk_put (ci := 3) (v := .long ct) (C := RX3) (T := TX3) (N := 3) hx hb hts inw_wsX3_init_3 tyX3 tyX3_ok nmX3 hown hK hH hS e_6 rfl 2 (by decide) (hts (.fieldLink RX3 13 "KegDeposits$Price" "cents" "J") (by decide +kernel)) rfl rfl rfl (Nat.le_of_ble_eq_true rfl) dX3_init_11 (fun H locs hH hS => ?_)
  obtain ⟨M_11, eM_11⟩ : ∃ w_0 : zk_M, w_0 = zk_up M_6 a (.inr (3, [.long dy, .null, .long ct])) := ⟨_, rfl⟩
  have hH : zk_H g z M_11 H := by rw [eM_11]; exact hH
  have e_11 : M_11 a = some (.inr (3, [.long dy, .null, .long ct])) := by rw [eM_11]; exact zk_up_s _ _ _
  refine lv_aload_n hx hb dX3_init_14 rfl (lv_at hl 0 rfl) ?_
  refine lv_aload hx hb dX3_init_15 (lv_at hl 3 rfl) ?_
  refine zk_putF (ci := 3) (v := .ref x) (C := RX3) (T := TX3) (N := 3) hx hb hts inw_wsX3_init_3 tyX3 tyX3_ok nmX3 hown hK hH hS e_11 rfl 1 (by decide) (hts (.fieldLink RX3 16 "KegDeposits$Price" "next" "LKegDeposits$Price;") (by decide +kernel)) rfl hin2 rfl rfl rfl (Nat.le_of_ble_eq_true rfl) dX3_init_17 (fun H locs hH hS => ?_)
  obtain ⟨M_17, eM_17⟩ : ∃ w_0 : zk_M, w_0 = zk_up M_11 a (.inr (3, [.long dy, .ref x, .long ct])) := ⟨_, rfl⟩
  have hH : zk_H g z M_17 H := by rw [eM_17]; exact hH
  have e_17 : M_17 a = some (.inr (3, [.long dy, .ref x, .long ct])) := by rw [eM_17]; exact zk_up_s _ _ _
  exact zk_vret hx hb hr hlocks hH hS (by decide) (by decide) ⟨e_17, fun b hb => by rw [eM_17, zk_up_n _ _ hb, eM_11, zk_up_n _ _ hb, eM_6, zk_up_n _ _ hb]⟩ dX3_init_20

theorem zc_X3_init (l : Launch) {g : zk_G} {z : Nat} {M : zk_M} {a : Nat} (dy ct : Int64) (r : Option Nat) (hm : M a = some (.inr (3, [.long 0, .null, .long 0]))) : Met l yX3_init wsX3_init ({ frames := 1, cells := 0, slots := 0, locals := 12 } : Room) (va_Pc [.ref a, .long dy, .long ct, va_rf r] (zk_U g z M)) (va_Qv (fun u => zk_chg M a (.inr (3, [.long dy, va_rf r, .long ct])) u) (zk_B g z) (fun q => z ≤ q)) 0 0 (fun q => z ≤ q) := by
  cases r with
  | none => exact zc_X3_init_n l dy ct hm
  | some x => exact zc_X3_init_s l dy ct x hm

theorem inw_wsX1_init_1 : ∀ w ∈ u_ws RX1 TX1 5, w ∈ wsX1_init := by decide +kernel
set_option maxHeartbeats 4000000 in
set_option maxRecDepth 100000 in
theorem zc_X1_init (l : Launch) {g : zk_G} {z : Nat} {M : zk_M} {a k : Nat} (dy pc ct : Int64) (hm : M a = some (.inr (1, [.null, .long 0, .long 0, .long 0, .null]))) : Met l yX1_init wsX1_init ({ frames := 1, cells := 0, slots := 0, locals := 12 } : Room) (va_Pc [.ref a, .ref k, .long dy, .long pc, .long ct] (zk_U g z M)) (va_Qv (fun u => zk_chg M a (.inr (1, [.ref k, .long dy, .long ct, .long pc, .null])) u) (zk_B g z) (fun q => z ≤ q)) 0 0 (fun q => z ≤ q) := by
  refine Met.ofW (cc := cX1_init) (maxL := 8) (ret := none) (by decide) rfl ?_
  intro P0 e0 s m0 args below meth c0 s₁ B hml hv
  obtain ⟨rfl, hH, hK, hN⟩ := hv
  have hx := B.exec
  have hb := B.bytes
  have hr := B.returns
  have hts := atoms_spec (ws := wsX1_init) B.pre
  have hown : s.vm.findClass RX1 = some m0.cls := findClass_of_methodNamed B.named
  have hlocks := B.notSynchronized
  have hin2 : meth.name = "<init>" := (name_of_methodNamed B.named B.method).1
  have hS : va_S (fun q => z ≤ q) s.heap s.heap [] := va_S.rf
  have hl := lv_entry ([.ref a, .ref k, .long dy, .long pc, .long ct]) (n := 8) (Nat.le_of_ble_eq_true rfl)
  rw [lg_entry_eq]
  generalize (lg_sl ([.ref a, .ref k, .long dy, .long pc, .long ct]) ++ List.replicate (8 - (lg_sl ([.ref a, .ref k, .long dy, .long pc, .long ct])).length) Slot.unset).toArray = ls at hl ⊢
  have hl : lv_has ls 8 [(0, .ref a), (1, .ref k), (2, .long dy), (4, .long pc), (6, .long ct)] := hl
  refine lv_aload_n hx hb dX1_init_0 rfl (lv_at hl 0 rfl) ?_
  refine W.objInit hx hb hown (hts (.methodLink RX1 1 objectInit) (by decide +kernel)) (hts (.instanceMethod objectInit) (by decide +kernel)) (hts (.code objectInit ⟨#[0xb1]⟩ 1 none) (by decide +kernel)) rfl (by rw [hml]; exact hl.1) rfl dX1_init_1 (Nat.le_of_ble_eq_true rfl) (Nat.le_of_ble_eq_true rfl) ?_
  refine W.eq (g2 := F0 m0 4 ls []) rfl ?_
  refine lv_aload_n hx hb dX1_init_4 rfl (lv_at hl 0 rfl) ?_
  refine lv_aload_n hx hb dX1_init_5 rfl (lv_at hl 1 rfl) ?_
  refine zk_putF (ci := 1) (v := .ref k) (C := RX1) (T := TX1) (N := 5) hx hb hts inw_wsX1_init_1 tyX1 tyX1_ok nmX1 hown hK hH hS hm rfl 0 (by decide) (hts (.fieldLink RX1 7 "KegDeposits$Layer" "kind" "LKegDeposits$Kind;") (by decide +kernel)) rfl hin2 rfl rfl rfl (Nat.le_of_ble_eq_true rfl) dX1_init_6 (fun H locs hH hS => ?_)
  obtain ⟨M_6, eM_6⟩ : ∃ w_0 : zk_M, w_0 = zk_up M a (.inr (1, [.ref k, .long 0, .long 0, .long 0, .null])) := ⟨_, rfl⟩
  have hH : zk_H g z M_6 H := by rw [eM_6]; exact hH
  have e_6 : M_6 a = some (.inr (1, [.ref k, .long 0, .long 0, .long 0, .null])) := by rw [eM_6]; exact zk_up_s _ _ _
  refine lv_aload_n hx hb dX1_init_9 rfl (lv_at hl 0 rfl) ?_
  refine lv_lload_n hx hb dX1_init_10 rfl (lv_at hl 2 rfl) ?_
  refine zk_putF (ci := 1) (v := .long dy) (C := RX1) (T := TX1) (N := 5) hx hb hts inw_wsX1_init_1 tyX1 tyX1_ok nmX1 hown hK hH hS e_6 rfl 1 (by decide) (hts (.fieldLink RX1 13 "KegDeposits$Layer" "day" "J") (by decide +kernel)) rfl hin2 rfl rfl rfl (Nat.le_of_ble_eq_true rfl) dX1_init_11 (fun H locs hH hS => ?_)
  obtain ⟨M_11, eM_11⟩ : ∃ w_0 : zk_M, w_0 = zk_up M_6 a (.inr (1, [.ref k, .long dy, .long 0, .long 0, .null])) := ⟨_, rfl⟩
  have hH : zk_H g z M_11 H := by rw [eM_11]; exact hH
  have e_11 : M_11 a = some (.inr (1, [.ref k, .long dy, .long 0, .long 0, .null])) := by rw [eM_11]; exact zk_up_s _ _ _
  refine lv_aload_n hx hb dX1_init_14 rfl (lv_at hl 0 rfl) ?_
  refine lv_lload hx hb dX1_init_15 (lv_at hl 3 rfl) ?_
  refine zk_put (ci := 1) (v := .long pc) (C := RX1) (T := TX1) (N := 5) hx hb hts inw_wsX1_init_1 tyX1 tyX1_ok nmX1 hown hK hH hS e_11 rfl 3 (by decide) (hts (.fieldLink RX1 17 "KegDeposits$Layer" "pieces" "J") (by decide +kernel)) rfl rfl rfl (Nat.le_of_ble_eq_true rfl) dX1_init_17 (fun H locs hH hS => ?_)
  obtain ⟨M_17, eM_17⟩ : ∃ w_0 : zk_M, w_0 = zk_up M_11 a (.inr (1, [.ref k, .long dy, .long 0, .long pc, .null])) := ⟨_, rfl⟩
  have hH : zk_H g z M_17 H := by rw [eM_17]; exact hH
  have e_17 : M_17 a = some (.inr (1, [.ref k, .long dy, .long 0, .long pc, .null])) := by rw [eM_17]; exact zk_up_s _ _ _
  refine lv_aload_n hx hb dX1_init_20 rfl (lv_at hl 0 rfl) ?_
  refine lv_lload hx hb dX1_init_21 (lv_at hl 4 rfl) ?_
  refine zk_putF (ci := 1) (v := .long ct) (C := RX1) (T := TX1) (N := 5) hx hb hts inw_wsX1_init_1 tyX1 tyX1_ok nmX1 hown hK hH hS e_17 rfl 2 (by decide) (hts (.fieldLink RX1 20 "KegDeposits$Layer" "cents" "J") (by decide +kernel)) rfl hin2 rfl rfl rfl (Nat.le_of_ble_eq_true rfl) dX1_init_23 (fun H locs hH hS => ?_)
  obtain ⟨M_23, eM_23⟩ : ∃ w_0 : zk_M, w_0 = zk_up M_17 a (.inr (1, [.ref k, .long dy, .long ct, .long pc, .null])) := ⟨_, rfl⟩
  have hH : zk_H g z M_23 H := by rw [eM_23]; exact hH
  have e_23 : M_23 a = some (.inr (1, [.ref k, .long dy, .long ct, .long pc, .null])) := by rw [eM_23]; exact zk_up_s _ _ _
  exact zk_vret hx hb hr hlocks hH hS (by decide) (by decide) ⟨e_23, fun b hb => by rw [eM_23, zk_up_n _ _ hb, eM_17, zk_up_n _ _ hb, eM_11, zk_up_n _ _ hb, eM_6, zk_up_n _ _ hb]⟩ dX1_init_26

theorem inw_wsX4_init_4 : ∀ w ∈ u_ws RX4 TX4 5, w ∈ wsX4_init := by decide +kernel
set_option maxHeartbeats 4000000 in
set_option maxRecDepth 100000 in
theorem zc_X4_init_n (l : Launch) {g : zk_G} {z : Nat} {M : zk_M} {a y w : Nat} (dy ct : Int64) (hm : M a = some (.inr (4, [.long 0, .long 0, .null, .null, .null]))) : Met l yX4_init wsX4_init ({ frames := 1, cells := 0, slots := 0, locals := 12 } : Room) (va_Pc [.ref a, .long dy, .long ct, .ref y, .ref w, .null] (zk_U g z M)) (va_Qv (fun u => zk_chg M a (.inr (4, [.long dy, .long ct, .ref y, .ref w, .null])) u) (zk_B g z) (fun q => z ≤ q)) 0 0 (fun q => z ≤ q) := by
  refine Met.ofW (cc := cX4_init) (maxL := 8) (ret := none) (by decide) rfl ?_
  intro P0 e0 s m0 args below meth c0 s₁ B hml hv
  obtain ⟨rfl, hH, hK, hN⟩ := hv
  have hx := B.exec
  have hb := B.bytes
  have hr := B.returns
  have hts := atoms_spec (ws := wsX4_init) B.pre
  have hown : s.vm.findClass RX4 = some m0.cls := findClass_of_methodNamed B.named
  have hlocks := B.notSynchronized
  have hin2 : meth.name = "<init>" := (name_of_methodNamed B.named B.method).1
  have hS : va_S (fun q => z ≤ q) s.heap s.heap [] := va_S.rf
  have hl := lv_entry ([.ref a, .long dy, .long ct, .ref y, .ref w, .null]) (n := 8) (Nat.le_of_ble_eq_true rfl)
  rw [lg_entry_eq]
  generalize (lg_sl ([.ref a, .long dy, .long ct, .ref y, .ref w, .null]) ++ List.replicate (8 - (lg_sl ([.ref a, .long dy, .long ct, .ref y, .ref w, .null])).length) Slot.unset).toArray = ls at hl ⊢
  have hl : lv_has ls 8 [(0, .ref a), (1, .long dy), (3, .long ct), (5, .ref y), (6, .ref w), (7, .null)] := hl
  refine lv_aload_n hx hb dX4_init_0 rfl (lv_at hl 0 rfl) ?_
  refine W.objInit hx hb hown (hts (.methodLink RX4 1 objectInit) (by decide +kernel)) (hts (.instanceMethod objectInit) (by decide +kernel)) (hts (.code objectInit ⟨#[0xb1]⟩ 1 none) (by decide +kernel)) rfl (by rw [hml]; exact hl.1) rfl dX4_init_1 (Nat.le_of_ble_eq_true rfl) (Nat.le_of_ble_eq_true rfl) ?_
  refine W.eq (g2 := F0 m0 4 ls []) rfl ?_
  refine lv_aload_n hx hb dX4_init_4 rfl (lv_at hl 0 rfl) ?_
  refine lv_lload_n hx hb dX4_init_5 rfl (lv_at hl 1 rfl) ?_
  refine zk_putF (ci := 4) (v := .long dy) (C := RX4) (T := TX4) (N := 5) hx hb hts inw_wsX4_init_4 tyX4 tyX4_ok nmX4 hown hK hH hS hm rfl 0 (by decide) (hts (.fieldLink RX4 7 "KegDeposits$Transfer" "day" "J") (by decide +kernel)) rfl hin2 rfl rfl rfl (Nat.le_of_ble_eq_true rfl) dX4_init_6 (fun H locs hH hS => ?_)
  obtain ⟨M_6, eM_6⟩ : ∃ w_0 : zk_M, w_0 = zk_up M a (.inr (4, [.long dy, .long 0, .null, .null, .null])) := ⟨_, rfl⟩
  have hH : zk_H g z M_6 H := by rw [eM_6]; exact hH
  have e_6 : M_6 a = some (.inr (4, [.long dy, .long 0, .null, .null, .null])) := by rw [eM_6]; exact zk_up_s _ _ _
  refine lv_aload_n hx hb dX4_init_9 rfl (lv_at hl 0 rfl) ?_
  refine lv_lload_n hx hb dX4_init_10 rfl (lv_at hl 2 rfl) ?_
  refine zk_putF (ci := 4) (v := .long ct) (C := RX4) (T := TX4) (N := 5) hx hb hts inw_wsX4_init_4 tyX4 tyX4_ok nmX4 hown hK hH hS e_6 rfl 1 (by decide) (hts (.fieldLink RX4 13 "KegDeposits$Transfer" "cents" "J") (by decide +kernel)) rfl hin2 rfl rfl rfl (Nat.le_of_ble_eq_true rfl) dX4_init_11 (fun H locs hH hS => ?_)
  obtain ⟨M_11, eM_11⟩ : ∃ w_0 : zk_M, w_0 = zk_up M_6 a (.inr (4, [.long dy, .long ct, .null, .null, .null])) := ⟨_, rfl⟩
  have hH : zk_H g z M_11 H := by rw [eM_11]; exact hH
  have e_11 : M_11 a = some (.inr (4, [.long dy, .long ct, .null, .null, .null])) := by rw [eM_11]; exact zk_up_s _ _ _
  refine lv_aload_n hx hb dX4_init_14 rfl (lv_at hl 0 rfl) ?_
  refine lv_aload hx hb dX4_init_15 (lv_at hl 3 rfl) ?_
  refine zk_putF (ci := 4) (v := .ref y) (C := RX4) (T := TX4) (N := 5) hx hb hts inw_wsX4_init_4 tyX4 tyX4_ok nmX4 hown hK hH hS e_11 rfl 2 (by decide) (hts (.fieldLink RX4 16 "KegDeposits$Transfer" "payer" "LKegDeposits$Party;") (by decide +kernel)) rfl hin2 rfl rfl rfl (Nat.le_of_ble_eq_true rfl) dX4_init_17 (fun H locs hH hS => ?_)
  obtain ⟨M_17, eM_17⟩ : ∃ w_0 : zk_M, w_0 = zk_up M_11 a (.inr (4, [.long dy, .long ct, .ref y, .null, .null])) := ⟨_, rfl⟩
  have hH : zk_H g z M_17 H := by rw [eM_17]; exact hH
  have e_17 : M_17 a = some (.inr (4, [.long dy, .long ct, .ref y, .null, .null])) := by rw [eM_17]; exact zk_up_s _ _ _
  refine lv_aload_n hx hb dX4_init_20 rfl (lv_at hl 0 rfl) ?_
  refine lv_aload hx hb dX4_init_21 (lv_at hl 4 rfl) ?_
  refine zk_putF (ci := 4) (v := .ref w) (C := RX4) (T := TX4) (N := 5) hx hb hts inw_wsX4_init_4 tyX4 tyX4_ok nmX4 hown hK hH hS e_17 rfl 3 (by decide) (hts (.fieldLink RX4 20 "KegDeposits$Transfer" "taker" "LKegDeposits$Party;") (by decide +kernel)) rfl hin2 rfl rfl rfl (Nat.le_of_ble_eq_true rfl) dX4_init_23 (fun H locs hH hS => ?_)
  obtain ⟨M_23, eM_23⟩ : ∃ w_0 : zk_M, w_0 = zk_up M_17 a (.inr (4, [.long dy, .long ct, .ref y, .ref w, .null])) := ⟨_, rfl⟩
  have hH : zk_H g z M_23 H := by rw [eM_23]; exact hH
  have e_23 : M_23 a = some (.inr (4, [.long dy, .long ct, .ref y, .ref w, .null])) := by rw [eM_23]; exact zk_up_s _ _ _
  refine lv_aload_n hx hb dX4_init_26 rfl (lv_at hl 0 rfl) ?_
  refine lv_aloadN hx hb dX4_init_27 (lv_at hl 5 rfl) ?_
  refine zk_putF (ci := 4) (v := .null) (C := RX4) (T := TX4) (N := 5) hx hb hts inw_wsX4_init_4 tyX4 tyX4_ok nmX4 hown hK hH hS e_23 rfl 4 (by decide) (hts (.fieldLink RX4 23 "KegDeposits$Transfer" "earlier" "LKegDeposits$Transfer;") (by decide +kernel)) rfl hin2 rfl rfl rfl (Nat.le_of_ble_eq_true rfl) dX4_init_29 (fun H locs hH hS => ?_)
  obtain ⟨M_29, eM_29⟩ : ∃ w_0 : zk_M, w_0 = zk_up M_23 a (.inr (4, [.long dy, .long ct, .ref y, .ref w, .null])) := ⟨_, rfl⟩
  have hH : zk_H g z M_29 H := by rw [eM_29]; exact hH
  have e_29 : M_29 a = some (.inr (4, [.long dy, .long ct, .ref y, .ref w, .null])) := by rw [eM_29]; exact zk_up_s _ _ _
  exact zk_vret hx hb hr hlocks hH hS (by decide) (by decide) ⟨e_29, fun b hb => by rw [eM_29, zk_up_n _ _ hb, eM_23, zk_up_n _ _ hb, eM_17, zk_up_n _ _ hb, eM_11, zk_up_n _ _ hb, eM_6, zk_up_n _ _ hb]⟩ dX4_init_32

set_option maxHeartbeats 4000000 in
set_option maxRecDepth 100000 in
theorem zc_X4_init_s (l : Launch) {g : zk_G} {z : Nat} {M : zk_M} {a y w : Nat} (dy ct : Int64) (x : Nat) (hm : M a = some (.inr (4, [.long 0, .long 0, .null, .null, .null]))) : Met l yX4_init wsX4_init ({ frames := 1, cells := 0, slots := 0, locals := 12 } : Room) (va_Pc [.ref a, .long dy, .long ct, .ref y, .ref w, .ref x] (zk_U g z M)) (va_Qv (fun u => zk_chg M a (.inr (4, [.long dy, .long ct, .ref y, .ref w, .ref x])) u) (zk_B g z) (fun q => z ≤ q)) 0 0 (fun q => z ≤ q) := by
  refine Met.ofW (cc := cX4_init) (maxL := 8) (ret := none) (by decide) rfl ?_
  intro P0 e0 s m0 args below meth c0 s₁ B hml hv
  obtain ⟨rfl, hH, hK, hN⟩ := hv
  have hx := B.exec
  have hb := B.bytes
  have hr := B.returns
  have hts := atoms_spec (ws := wsX4_init) B.pre
  have hown : s.vm.findClass RX4 = some m0.cls := findClass_of_methodNamed B.named
  have hlocks := B.notSynchronized
  have hin2 : meth.name = "<init>" := (name_of_methodNamed B.named B.method).1
  have hS : va_S (fun q => z ≤ q) s.heap s.heap [] := va_S.rf
  have hl := lv_entry ([.ref a, .long dy, .long ct, .ref y, .ref w, .ref x]) (n := 8) (Nat.le_of_ble_eq_true rfl)
  rw [lg_entry_eq]
  generalize (lg_sl ([.ref a, .long dy, .long ct, .ref y, .ref w, .ref x]) ++ List.replicate (8 - (lg_sl ([.ref a, .long dy, .long ct, .ref y, .ref w, .ref x])).length) Slot.unset).toArray = ls at hl ⊢
  have hl : lv_has ls 8 [(0, .ref a), (1, .long dy), (3, .long ct), (5, .ref y), (6, .ref w), (7, .ref x)] := hl
  refine lv_aload_n hx hb dX4_init_0 rfl (lv_at hl 0 rfl) ?_
  refine W.objInit hx hb hown (hts (.methodLink RX4 1 objectInit) (by decide +kernel)) (hts (.instanceMethod objectInit) (by decide +kernel)) (hts (.code objectInit ⟨#[0xb1]⟩ 1 none) (by decide +kernel)) rfl (by rw [hml]; exact hl.1) rfl dX4_init_1 (Nat.le_of_ble_eq_true rfl) (Nat.le_of_ble_eq_true rfl) ?_
  refine W.eq (g2 := F0 m0 4 ls []) rfl ?_
  refine lv_aload_n hx hb dX4_init_4 rfl (lv_at hl 0 rfl) ?_
  refine lv_lload_n hx hb dX4_init_5 rfl (lv_at hl 1 rfl) ?_
  refine zk_putF (ci := 4) (v := .long dy) (C := RX4) (T := TX4) (N := 5) hx hb hts inw_wsX4_init_4 tyX4 tyX4_ok nmX4 hown hK hH hS hm rfl 0 (by decide) (hts (.fieldLink RX4 7 "KegDeposits$Transfer" "day" "J") (by decide +kernel)) rfl hin2 rfl rfl rfl (Nat.le_of_ble_eq_true rfl) dX4_init_6 (fun H locs hH hS => ?_)
  obtain ⟨M_6, eM_6⟩ : ∃ w_0 : zk_M, w_0 = zk_up M a (.inr (4, [.long dy, .long 0, .null, .null, .null])) := ⟨_, rfl⟩
  have hH : zk_H g z M_6 H := by rw [eM_6]; exact hH
  have e_6 : M_6 a = some (.inr (4, [.long dy, .long 0, .null, .null, .null])) := by rw [eM_6]; exact zk_up_s _ _ _
  refine lv_aload_n hx hb dX4_init_9 rfl (lv_at hl 0 rfl) ?_
  refine lv_lload_n hx hb dX4_init_10 rfl (lv_at hl 2 rfl) ?_
  refine zk_putF (ci := 4) (v := .long ct) (C := RX4) (T := TX4) (N := 5) hx hb hts inw_wsX4_init_4 tyX4 tyX4_ok nmX4 hown hK hH hS e_6 rfl 1 (by decide) (hts (.fieldLink RX4 13 "KegDeposits$Transfer" "cents" "J") (by decide +kernel)) rfl hin2 rfl rfl rfl (Nat.le_of_ble_eq_true rfl) dX4_init_11 (fun H locs hH hS => ?_)
  obtain ⟨M_11, eM_11⟩ : ∃ w_0 : zk_M, w_0 = zk_up M_6 a (.inr (4, [.long dy, .long ct, .null, .null, .null])) := ⟨_, rfl⟩
  have hH : zk_H g z M_11 H := by rw [eM_11]; exact hH
  have e_11 : M_11 a = some (.inr (4, [.long dy, .long ct, .null, .null, .null])) := by rw [eM_11]; exact zk_up_s _ _ _
  refine lv_aload_n hx hb dX4_init_14 rfl (lv_at hl 0 rfl) ?_
  refine lv_aload hx hb dX4_init_15 (lv_at hl 3 rfl) ?_
  refine zk_putF (ci := 4) (v := .ref y) (C := RX4) (T := TX4) (N := 5) hx hb hts inw_wsX4_init_4 tyX4 tyX4_ok nmX4 hown hK hH hS e_11 rfl 2 (by decide) (hts (.fieldLink RX4 16 "KegDeposits$Transfer" "payer" "LKegDeposits$Party;") (by decide +kernel)) rfl hin2 rfl rfl rfl (Nat.le_of_ble_eq_true rfl) dX4_init_17 (fun H locs hH hS => ?_)
  obtain ⟨M_17, eM_17⟩ : ∃ w_0 : zk_M, w_0 = zk_up M_11 a (.inr (4, [.long dy, .long ct, .ref y, .null, .null])) := ⟨_, rfl⟩
  have hH : zk_H g z M_17 H := by rw [eM_17]; exact hH
  have e_17 : M_17 a = some (.inr (4, [.long dy, .long ct, .ref y, .null, .null])) := by rw [eM_17]; exact zk_up_s _ _ _
  refine lv_aload_n hx hb dX4_init_20 rfl (lv_at hl 0 rfl) ?_
  refine lv_aload hx hb dX4_init_21 (lv_at hl 4 rfl) ?_
  refine zk_putF (ci := 4) (v := .ref w) (C := RX4) (T := TX4) (N := 5) hx hb hts inw_wsX4_init_4 tyX4 tyX4_ok nmX4 hown hK hH hS e_17 rfl 3 (by decide) (hts (.fieldLink RX4 20 "KegDeposits$Transfer" "taker" "LKegDeposits$Party;") (by decide +kernel)) rfl hin2 rfl rfl rfl (Nat.le_of_ble_eq_true rfl) dX4_init_23 (fun H locs hH hS => ?_)
  obtain ⟨M_23, eM_23⟩ : ∃ w_0 : zk_M, w_0 = zk_up M_17 a (.inr (4, [.long dy, .long ct, .ref y, .ref w, .null])) := ⟨_, rfl⟩
  have hH : zk_H g z M_23 H := by rw [eM_23]; exact hH
  have e_23 : M_23 a = some (.inr (4, [.long dy, .long ct, .ref y, .ref w, .null])) := by rw [eM_23]; exact zk_up_s _ _ _
  refine lv_aload_n hx hb dX4_init_26 rfl (lv_at hl 0 rfl) ?_
  refine lv_aload hx hb dX4_init_27 (lv_at hl 5 rfl) ?_
  refine zk_putF (ci := 4) (v := .ref x) (C := RX4) (T := TX4) (N := 5) hx hb hts inw_wsX4_init_4 tyX4 tyX4_ok nmX4 hown hK hH hS e_23 rfl 4 (by decide) (hts (.fieldLink RX4 23 "KegDeposits$Transfer" "earlier" "LKegDeposits$Transfer;") (by decide +kernel)) rfl hin2 rfl rfl rfl (Nat.le_of_ble_eq_true rfl) dX4_init_29 (fun H locs hH hS => ?_)
  obtain ⟨M_29, eM_29⟩ : ∃ w_0 : zk_M, w_0 = zk_up M_23 a (.inr (4, [.long dy, .long ct, .ref y, .ref w, .ref x])) := ⟨_, rfl⟩
  have hH : zk_H g z M_29 H := by rw [eM_29]; exact hH
  have e_29 : M_29 a = some (.inr (4, [.long dy, .long ct, .ref y, .ref w, .ref x])) := by rw [eM_29]; exact zk_up_s _ _ _
  exact zk_vret hx hb hr hlocks hH hS (by decide) (by decide) ⟨e_29, fun b hb => by rw [eM_29, zk_up_n _ _ hb, eM_23, zk_up_n _ _ hb, eM_17, zk_up_n _ _ hb, eM_11, zk_up_n _ _ hb, eM_6, zk_up_n _ _ hb]⟩ dX4_init_32

theorem zc_X4_init (l : Launch) {g : zk_G} {z : Nat} {M : zk_M} {a y w : Nat} (dy ct : Int64) (r : Option Nat) (hm : M a = some (.inr (4, [.long 0, .long 0, .null, .null, .null]))) : Met l yX4_init wsX4_init ({ frames := 1, cells := 0, slots := 0, locals := 12 } : Room) (va_Pc [.ref a, .long dy, .long ct, .ref y, .ref w, va_rf r] (zk_U g z M)) (va_Qv (fun u => zk_chg M a (.inr (4, [.long dy, .long ct, .ref y, .ref w, va_rf r])) u) (zk_B g z) (fun q => z ≤ q)) 0 0 (fun q => z ≤ q) := by
  cases r with
  | none => exact zc_X4_init_n l dy ct hm
  | some x => exact zc_X4_init_s l dy ct x hm

set_option maxHeartbeats 4000000 in
set_option maxRecDepth 100000 in
theorem zc_X2_init (l : Launch) {g : zk_G} {z : Nat} {M : zk_M} {a : Nat} (hm : M a = some (.inr (2, [.null, .null]))) : Met l yX2_init wsX2_init ({ frames := 1, cells := 0, slots := 0, locals := 12 } : Room) (va_Pc [.ref a] (zk_U g z M)) (va_Qv (fun u => zk_chg M a (.inr (2, [.null, .null])) u) (zk_B g z) (fun q => z ≤ q)) 0 0 (fun q => z ≤ q) := by
  refine Met.ofW (cc := cX2_init) (maxL := 1) (ret := none) (by decide) rfl ?_
  intro P0 e0 s m0 args below meth c0 s₁ B hml hv
  obtain ⟨rfl, hH, hK, hN⟩ := hv
  have hx := B.exec
  have hb := B.bytes
  have hr := B.returns
  have hts := atoms_spec (ws := wsX2_init) B.pre
  have hown : s.vm.findClass RX2 = some m0.cls := findClass_of_methodNamed B.named
  have hlocks := B.notSynchronized
  have hin2 : meth.name = "<init>" := (name_of_methodNamed B.named B.method).1
  have hS : va_S (fun q => z ≤ q) s.heap s.heap [] := va_S.rf
  have hl := lv_entry ([.ref a]) (n := 1) (Nat.le_of_ble_eq_true rfl)
  rw [lg_entry_eq]
  generalize (lg_sl ([.ref a]) ++ List.replicate (1 - (lg_sl ([.ref a])).length) Slot.unset).toArray = ls at hl ⊢
  have hl : lv_has ls 1 [(0, .ref a)] := hl
  refine lv_aload_n hx hb dX2_init_0 rfl (lv_at hl 0 rfl) ?_
  refine W.objInit hx hb hown (hts (.methodLink RX2 1 objectInit) (by decide +kernel)) (hts (.instanceMethod objectInit) (by decide +kernel)) (hts (.code objectInit ⟨#[0xb1]⟩ 1 none) (by decide +kernel)) rfl (by rw [hml]; exact hl.1) rfl dX2_init_1 (Nat.le_of_ble_eq_true rfl) (Nat.le_of_ble_eq_true rfl) ?_
  refine W.eq (g2 := F0 m0 4 ls []) rfl ?_
  exact zk_vret hx hb hr hlocks hH hS (by decide) (by decide) ⟨hm, fun _ _ => rfl⟩ dX2_init_4

set_option maxHeartbeats 4000000 in
set_option maxRecDepth 100000 in
theorem zc_X0_init (l : Launch) {g : zk_G} {z : Nat} {M : zk_M} {a : Nat} (hm : M a = some (.inr (0, [.null, .long 0, .long 0]))) : Met l yX0_init wsX0_init ({ frames := 1, cells := 0, slots := 0, locals := 12 } : Room) (va_Pc [.ref a] (zk_U g z M)) (va_Qv (fun u => zk_chg M a (.inr (0, [.null, .long 0, .long 0])) u) (zk_B g z) (fun q => z ≤ q)) 0 0 (fun q => z ≤ q) := by
  refine Met.ofW (cc := cX0_init) (maxL := 1) (ret := none) (by decide) rfl ?_
  intro P0 e0 s m0 args below meth c0 s₁ B hml hv
  obtain ⟨rfl, hH, hK, hN⟩ := hv
  have hx := B.exec
  have hb := B.bytes
  have hr := B.returns
  have hts := atoms_spec (ws := wsX0_init) B.pre
  have hown : s.vm.findClass RX0 = some m0.cls := findClass_of_methodNamed B.named
  have hlocks := B.notSynchronized
  have hin2 : meth.name = "<init>" := (name_of_methodNamed B.named B.method).1
  have hS : va_S (fun q => z ≤ q) s.heap s.heap [] := va_S.rf
  have hl := lv_entry ([.ref a]) (n := 1) (Nat.le_of_ble_eq_true rfl)
  rw [lg_entry_eq]
  generalize (lg_sl ([.ref a]) ++ List.replicate (1 - (lg_sl ([.ref a])).length) Slot.unset).toArray = ls at hl ⊢
  have hl : lv_has ls 1 [(0, .ref a)] := hl
  refine lv_aload_n hx hb dX0_init_0 rfl (lv_at hl 0 rfl) ?_
  refine W.objInit hx hb hown (hts (.methodLink RX0 3 objectInit) (by decide +kernel)) (hts (.instanceMethod objectInit) (by decide +kernel)) (hts (.code objectInit ⟨#[0xb1]⟩ 1 none) (by decide +kernel)) rfl (by rw [hml]; exact hl.1) rfl dX0_init_1 (Nat.le_of_ble_eq_true rfl) (Nat.le_of_ble_eq_true rfl) ?_
  refine W.eq (g2 := F0 m0 4 ls []) rfl ?_
  exact zk_vret hx hb hr hlocks hH hS (by decide) (by decide) ⟨hm, fun _ _ => rfl⟩ dX0_init_4

theorem inw_wsX0_partsOfLot_0 : ∀ w ∈ u_ws RX0 TX0 3, w ∈ wsX0_partsOfLot := by decide +kernel
set_option maxHeartbeats 4000000 in
set_option maxRecDepth 100000 in
theorem zc_X0_partsOfLot (l : Launch) {g : zk_G} {z : Nat} {M : zk_M} {X : zs_X} {Z : zs_Z} (hR : zs_R g X Z M) {k : Nat} (hk : k < zs_nk X.1) (n : Int64) : Met l yX0_partsOfLot wsX0_partsOfLot ({ frames := 0, cells := 0, slots := 0, locals := 0 } : Room) (va_Pc [.ref (Z (4, k, 0)), .long n] (zk_U g z M)) (vp_Sl (fun r => r = zs_rs X.1 k + n * zs_sh X.1 k)) 0 0 (fun _ => False) := by
  refine Met.ofW (cc := cX0_partsOfLot) (maxL := 3) (ret := (some .long)) (by decide) rfl ?_
  intro P0 e0 s m0 args below meth c0 s₁ B hml hv
  obtain ⟨rfl, hH, hK, hN⟩ := hv
  have hx := B.exec
  have hb := B.bytes
  have hr := B.returns
  have hts := atoms_spec (ws := wsX0_partsOfLot) B.pre
  have hown : s.vm.findClass RX0 = some m0.cls := findClass_of_methodNamed B.named
  have hlocks := B.notSynchronized
  have hl := lv_entry ([.ref (Z (4, k, 0)), .long n]) (n := 3) (Nat.le_of_ble_eq_true rfl)
  rw [lg_entry_eq]
  generalize (lg_sl ([.ref (Z (4, k, 0)), .long n]) ++ List.replicate (3 - (lg_sl ([.ref (Z (4, k, 0)), .long n])).length) Slot.unset).toArray = ls at hl ⊢
  have hl : lv_has ls 3 [(0, .ref (Z (4, k, 0))), (1, .long n)] := hl
  have hK0 : M (Z (4, k, 0)) = some (.inr (0, [va_rf (zs_prev (zs_pn X.1 k) (fun j => Z (5, k, j))), .long (zs_sh X.1 k), .long (zs_rs X.1 k)])) := hR.1 (4, k, 0) ⟨hk, rfl⟩
  refine lv_aload_n hx hb dX0_partsOfLot_0 rfl (lv_at hl 0 rfl) ?_
  refine zk_get (ci := 0) (v := .long (zs_rs X.1 k)) (C := RX0) (T := TX0) (N := 3) hx hb hts inw_wsX0_partsOfLot_0 hown hK hH hK0 rfl 2 (by decide) (hts (.fieldLink RX0 32 "KegDeposits$Kind" "restParts" "J") (by decide +kernel)) rfl dX0_partsOfLot_1 ?_
  refine lv_lload_n hx hb dX0_partsOfLot_4 rfl (lv_at hl 1 rfl) ?_
  refine lv_aload_n hx hb dX0_partsOfLot_5 rfl (lv_at hl 0 rfl) ?_
  refine zk_get (ci := 0) (v := .long (zs_sh X.1 k)) (C := RX0) (T := TX0) (N := 3) hx hb hts inw_wsX0_partsOfLot_0 hown hK hH hK0 rfl 1 (by decide) (hts (.fieldLink RX0 35 "KegDeposits$Kind" "shareParts" "J") (by decide +kernel)) rfl dX0_partsOfLot_6 ?_
  refine lv_lmul hx hb dX0_partsOfLot_9 ?_
  refine lv_ladd hx hb dX0_partsOfLot_10 ?_
  exact zk_lretS hx hb hr hlocks rfl dX0_partsOfLot_11

theorem inw_wsX4_changeOf_4 : ∀ w ∈ u_ws RX4 TX4 5, w ∈ wsX4_changeOf := by decide +kernel
set_option maxHeartbeats 4000000 in
set_option maxRecDepth 100000 in
theorem zc_X4_changeOf (l : Launch) {g : zk_G} {z : Nat} {M : zk_M} {X : zs_X} {Z : zs_Z} (hR : zs_R g X Z M) (hI : zs_It X.1) {i p : Nat} (hi : i < zs_nc X.1) (hp : p < zs_np X.1) : Met l yX4_changeOf wsX4_changeOf ({ frames := 0, cells := 0, slots := 0, locals := 0 } : Room) (va_Pc [.ref (Z (7, i, 0)), .ref (Z (3, p, 0))] (zk_U g z M)) (vp_Sl (fun r => r = zs_chg X.1 p i)) 0 0 (fun _ => False) := by
  refine Met.ofW (cc := cX4_changeOf) (maxL := 2) (ret := (some .long)) (by decide) rfl ?_
  intro P0 e0 s m0 args below meth c0 s₁ B hml hv
  obtain ⟨rfl, hH, hK, hN⟩ := hv
  have hx := B.exec
  have hb := B.bytes
  have hr := B.returns
  have hts := atoms_spec (ws := wsX4_changeOf) B.pre
  have hown : s.vm.findClass RX4 = some m0.cls := findClass_of_methodNamed B.named
  have hlocks := B.notSynchronized
  have hl := lv_entry ([.ref (Z (7, i, 0)), .ref (Z (3, p, 0))]) (n := 2) (Nat.le_of_ble_eq_true rfl)
  rw [lg_entry_eq]
  generalize (lg_sl ([.ref (Z (7, i, 0)), .ref (Z (3, p, 0))]) ++ List.replicate (2 - (lg_sl ([.ref (Z (7, i, 0)), .ref (Z (3, p, 0))])).length) Slot.unset).toArray = ls at hl ⊢
  have hl : lv_has ls 2 [(0, .ref (Z (7, i, 0))), (1, .ref (Z (3, p, 0)))] := hl
  have hT : M (Z (7, i, 0)) = some (.inr (4, [.long (zs_td X.1 i), .long (zs_ta X.1 i), .ref (Z (3, zs_tp X.1 i, 0)), .ref (Z (3, zs_tt X.1 i, 0)), va_rf (zs_prev i (fun i => Z (7, i, 0)))])) := hR.1 (7, i, 0) ⟨hi, rfl⟩
  obtain ⟨t1, t2, -⟩ := hI i hi
  have inj : ∀ x, x < zs_np X.1 → (some (Z (3, p, 0)) = some (Z (3, x, 0)) ↔ x = p) := fun x hx => ⟨fun e => by have := hR.2 (3, p, 0) (3, x, 0) ⟨hp, rfl⟩ ⟨hx, rfl⟩ (Option.some.inj e); simpa using this.symm, fun e => by rw [e]⟩
  refine lv_aload_n hx hb dX4_changeOf_0 rfl (lv_at hl 1 rfl) ?_
  refine lv_aload_n hx hb dX4_changeOf_1 rfl (lv_at hl 0 rfl) ?_
  refine zk_get (ci := 4) (v := .ref (Z (3, zs_tp X.1 i, 0))) (C := RX4) (T := TX4) (N := 5) hx hb hts inw_wsX4_changeOf_4 hown hK hH hT rfl 2 (by decide) (hts (.fieldLink RX4 16 "KegDeposits$Transfer" "payer" "LKegDeposits$Party;") (by decide +kernel)) rfl dX4_changeOf_2 ?_
  refine lv_acmp_ne (rx := (some (Z (3, p, 0)))) (ry := (some (Z (3, zs_tp X.1 i, 0)))) (tgt := 14) hx hb dX4_changeOf_5 (by decide) (fun h_5 => ?_) (fun h_5 => ?_)
  · skip
    refine lv_aload_n hx hb dX4_changeOf_14 rfl (lv_at hl 1 rfl) ?_
    refine lv_aload_n hx hb dX4_changeOf_15 rfl (lv_at hl 0 rfl) ?_
    refine zk_get (ci := 4) (v := .ref (Z (3, zs_tt X.1 i, 0))) (C := RX4) (T := TX4) (N := 5) hx hb hts inw_wsX4_changeOf_4 hown hK hH hT rfl 3 (by decide) (hts (.fieldLink RX4 20 "KegDeposits$Transfer" "taker" "LKegDeposits$Party;") (by decide +kernel)) rfl dX4_changeOf_16 ?_
    refine lv_acmp_ne (rx := (some (Z (3, p, 0)))) (ry := (some (Z (3, zs_tt X.1 i, 0)))) (tgt := 29) hx hb dX4_changeOf_19 (by decide) (fun h_19 => ?_) (fun h_19 => ?_)
    · skip
      refine lv_lconst (v := 0) hx hb dX4_changeOf_29 (by decide) ?_
      exact zk_lretS hx hb hr hlocks (by simp only [zs_chg, if_neg (fun q => h_5 ((inj _ t1).mpr q)), if_neg (fun q => h_19 ((inj _ t2).mpr q))]) dX4_changeOf_30
    · skip
      refine lv_aload_n hx hb dX4_changeOf_22 rfl (lv_at hl 0 rfl) ?_
      refine zk_get (ci := 4) (v := .long (zs_ta X.1 i)) (C := RX4) (T := TX4) (N := 5) hx hb hts inw_wsX4_changeOf_4 hown hK hH hT rfl 1 (by decide) (hts (.fieldLink RX4 13 "KegDeposits$Transfer" "cents" "J") (by decide +kernel)) rfl dX4_changeOf_23 ?_
      refine lv_goto (tgt := 30) hx hb dX4_changeOf_26 (by decide) ?_
      exact zk_lretS hx hb hr hlocks (by simp only [zs_chg, if_neg (fun q => h_5 ((inj _ t1).mpr q)), if_pos ((inj _ t2).mp h_19)]) dX4_changeOf_30
  · skip
    refine lv_aload_n hx hb dX4_changeOf_8 rfl (lv_at hl 0 rfl) ?_
    refine zk_get (ci := 4) (v := .long (zs_ta X.1 i)) (C := RX4) (T := TX4) (N := 5) hx hb hts inw_wsX4_changeOf_4 hown hK hH hT rfl 1 (by decide) (hts (.fieldLink RX4 13 "KegDeposits$Transfer" "cents" "J") (by decide +kernel)) rfl dX4_changeOf_9 ?_
    refine lv_lneg hx hb dX4_changeOf_12 ?_
    exact zk_lretS hx hb hr hlocks (by simp only [zs_chg, if_pos ((inj _ t1).mp h_5)]) dX4_changeOf_13
