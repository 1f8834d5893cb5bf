/-- from M to u: the cells of L are apart, full, and but for o new; all others are as they were -/
def zk_T (M : zk_M) (o : Nat) (L : List Nat) (u : zk_M) : Prop := L.Nodup ∧ (∀ x ∈ L, u x ≠ none) ∧ (∀ x, u x = none → M x = none) ∧ (∀ x ∈ L, x = o ∨ M x = none) ∧ ∀ b, b ∉ L → u b = M b
theorem zk_T_0 {M : zk_M} {o : Nat} (h : M o ≠ none) : zk_T M o [o] M := ⟨by simp, fun x hx => by rw [List.mem_singleton.mp hx]; exact h, fun _ h => h, fun x hx => Or.inl (List.mem_singleton.mp hx), fun _ _ => rfl⟩
theorem zk_up_none {M : zk_M} {a x : Nat} {e : va_E} (h : zk_up M a e x = none) : M x = none := by
  by_cases q : x = a
  · rw [q, zk_up_s] at h; cases h
  · rw [zk_up_n M e q] at h; exact h
theorem zk_T_new {M u : zk_M} {o q : Nat} {L : List Nat} {e : va_E} (h : zk_T M o L u) (hq : u q = none) : zk_T M o (L ++ [q]) (zk_up u q e) := by
  obtain ⟨h1, h2, h3, h4, h5⟩ := h
  have hn : q ∉ L := fun hm => h2 q hm hq
  refine ⟨?_, fun x hx => ?_, fun x hx => h3 x (zk_up_none hx), fun x hx => ?_, fun b hb => ?_⟩
  · refine List.nodup_append.mpr ⟨h1, by simp, fun a ha b hb e => ?_⟩
    rw [List.mem_singleton.mp hb] at e
    exact hn (e ▸ ha)
  · by_cases e1 : x = q
    · rw [e1, zk_up_s]; simp
    · rw [zk_up_n u e e1]
      rcases List.mem_append.mp hx with g | g
      · exact h2 x g
      · exact absurd (List.mem_singleton.mp g) e1
  · rcases List.mem_append.mp hx with g | g
    · exact h4 x g
    · rw [List.mem_singleton.mp g]; exact Or.inr (h3 q hq)
  · have hb1 : b ≠ q := fun e1 => hb (List.mem_append.mpr (Or.inr (by rw [e1]; simp)))
    rw [zk_up_n u e hb1]
    exact h5 b (fun g => hb (List.mem_append.mpr (Or.inl g)))
theorem zk_T_put {M u : zk_M} {o a : Nat} {L : List Nat} {e : va_E} (h : zk_T M o L u) (ha : a ∈ L) : zk_T M o L (zk_up u a e) := by
  obtain ⟨h1, h2, h3, h4, h5⟩ := h
  refine ⟨h1, fun x hx => ?_, fun x hx => h3 x (zk_up_none hx), h4, fun b hb => ?_⟩
  · by_cases e1 : x = a
    · rw [e1, zk_up_s]; simp
    · rw [zk_up_n u e e1]; exact h2 x hx
  · rw [zk_up_n u e (fun e1 : b = a => hb (by rw [e1]; exact ha))]
    exact h5 b hb
theorem zk_T_chg {M u u' : zk_M} {o a : Nat} {L : List Nat} {e : va_E} (h : zk_T M o L u) (ha : a ∈ L) (hc : zk_chg u a e u') : zk_T M o L u' := by
  have e1 : u' = zk_up u a e := by
    funext b
    by_cases q : b = a
    · rw [q, zk_up_s]; exact hc.1
    · rw [zk_up_n u e q]; exact hc.2 b q
  rw [e1]
  exact zk_T_put h ha
theorem zs_nodup_getD : ∀ (L : List Nat), L.Nodup → ∀ i j, i < L.length → j < L.length → L.getD i 0 = L.getD j 0 → i = j := by
  intro L
  induction L with
  | nil => intro _ i j hi; exact absurd hi (Nat.not_lt_zero _)
  | cons x L ih =>
    intro h i j hi hj e
    obtain ⟨h1, h2⟩ := List.nodup_cons.mp h
    have hm : ∀ k, k < L.length → L.getD k 0 ∈ L := fun k hk => by
      rw [List.getD_eq_getElem?_getD, List.getElem?_eq_getElem hk]
      exact List.getElem_mem hk
    match i, j, hi, hj, e with
    | 0, 0, _, _, _ => rfl
    | 0, j + 1, _, hj, e => exact absurd (show x ∈ L by have e : x = L.getD j 0 := e; rw [e]; exact hm j (Nat.lt_of_succ_lt_succ hj)) h1
    | i + 1, 0, hi, _, e => exact absurd (show x ∈ L by have e : L.getD i 0 = x := e; rw [← e]; exact hm i (Nat.lt_of_succ_lt_succ hi)) h1
    | i + 1, j + 1, hi, hj, e => exact congrArg (· + 1) (ih h2 i j (Nat.lt_of_succ_lt_succ hi) (Nat.lt_of_succ_lt_succ hj) e)
/-- the state of a new object -/
def zs_S0 : zs_S := (1, 0, 0, 0, 0, fun _ => 0, fun _ => 0, fun _ => 0, fun _ => 0, fun _ => 0, fun _ => 0, fun _ => 0, fun _ => 0, fun _ => 0, fun _ => 0, fun _ => 0, fun _ => 0, fun _ => 0, fun _ => 0)
/-- the reference's object just made -/
def zs_new6 (g : zk_G) (M : zk_M) (o : Nat) (u : zk_M) : Prop := ∃ Y : Nat → Nat, Y 0 = o ∧ (∀ i j, i < 16 → j < 16 → Y i = Y j → i = j) ∧ (∀ j, 0 < j → j < 16 → M (Y j) = none) ∧ (∀ j, j < 16 → u (Y j) = some (zs_mod g zs_S0 (fun _ => 0) (fun q => Y q.2.1) j)) ∧ ∀ b, (∀ j, j < 16 → b ≠ Y j) → u b = M b
/-- the class's object just made -/
def zs_new5 (g : zk_G) (M : zk_M) (o : Nat) (u : zk_M) : Prop := ∃ h p k, zk_T M o [o, h, p, k] u ∧ u o = some (.inr (5, [.ref h, .ref p, .ref k, .null, .int 0, .long 0])) ∧ u h = some (.inr (2, [.null, .null])) ∧ u p = some (zk_aP g 24 (va_up (fun _ => none) 0 (some h))) ∧ u k = some (zk_aQ g 12 (fun _ => none))
def zk_UA (g : zk_G) (z : Nat) (M : zk_M) (U : State) : Prop := zk_U g z M U ∧ va_AO "KegDeposits$Party" U ∧ va_AO "KegDeposits$Kind" U
theorem zk_preSA {g : zk_G} {z : Nat} {M : zk_M} {s : State} {H : Heap} (hH : zk_H g z M H) (hK : va_K g.1 vwCl (zk_ty g) s) (hN : zk_N s) (hAP : va_AO "KegDeposits$Party" s) (hAQ : va_AO "KegDeposits$Kind" s) {As : List Value} : PreS s H (va_Pc As (zk_UA g z M)) As :=
  ⟨fun a U _ mk q => ⟨q.1, ⟨q.2.1.1, va_K.moved (u := U) (U := U.calling _ mk a) (Vm.Alike.refl U.vm) q.2.1.2.1, zk_N_same rfl q.2.1.2.2⟩, va_AO.moved (u := U) (U := U.calling _ mk a) (Vm.Alike.refl U.vm) q.2.2.1, va_AO.moved (u := U) (U := U.calling _ mk a) (Vm.Alike.refl U.vm) q.2.2.2⟩, fun U hU hW => ⟨rfl, ⟨by rw [hU]; exact hH, va_K.moved hW.alike hK, zk_N_warm hW hN⟩, va_AO.moved hW.alike hAP, va_AO.moved hW.alike hAQ⟩⟩
theorem inw_wsX5_init_2 : ∀ w ∈ u_ws RX2 TX2 2, w ∈ wsX5_init := by decide +kernel
theorem inw_wsX5_init_5 : ∀ w ∈ u_ws RX5 TX5 6, w ∈ wsX5_init := by decide +kernel
set_option maxHeartbeats 4000000 in
set_option maxRecDepth 100000 in
theorem zc_X5_init (l : Launch) {g : zk_G} {z : Nat} {M : zk_M} {o : Nat} (hm : M o = some (.inr (5, [.null, .null, .null, .null, .int 0, .long 0]))) : Met l yX5_init wsX5_init ({ frames := 2, cells := 3, slots := 38, locals := 32 } : Room) (va_Pc [.ref o] (zk_UA g z M)) (va_Qv (fun u => zs_new5 g M o u) (zk_B g z) (fun q => z ≤ q)) 3 38 (fun q => z ≤ q) := by
  refine Met.ofW (cc := cX5_init) (maxL := 1) (ret := none) (by decide) rfl ?_
  intro P0 e0 s m0 args below meth c0 s₁ B hml hv
  obtain ⟨rfl, ⟨hH, hK, hN⟩, hAP, hAQ⟩ := hv
  have hx := B.exec
  have hb := B.bytes
  have hr := B.returns
  have hts := atoms_spec (ws := wsX5_init) B.pre
  have hown : s.vm.findClass RX5 = some m0.cls := findClass_of_methodNamed B.named
  have hlocks := B.notSynchronized
  have hin2 : meth.name = "<init>" := (name_of_methodNamed B.named B.method).1
  have hS : va_S (fun q => z ≤ q) s.heap s.heap [] := va_S.rf
  have hl := lv_entry ([.ref o]) (n := 1) (Nat.le_of_ble_eq_true rfl)
  rw [lg_entry_eq]
  generalize (lg_sl ([.ref o]) ++ List.replicate (1 - (lg_sl ([.ref o])).length) Slot.unset).toArray = ls at hl ⊢
  have hl : lv_has ls 1 [(0, .ref o)] := hl
  have hT0 : zk_T M o [o] M := zk_T_0 (by rw [hm]; simp)
  refine lv_aload_n hx hb dX5_init_0 rfl (lv_at hl 0 rfl) ?_
  refine W.objInit hx hb hown (hts (.methodLink RX5 1 objectInit) (by decide +kernel)) (hts (.instanceMethod objectInit) (by decide +kernel)) (hts (.code objectInit ⟨#[0xb1]⟩ 1 none) (by decide +kernel)) rfl (by rw [hml]; exact hl.1) rfl dX5_init_1 (Nat.le_of_ble_eq_true rfl) (Nat.le_of_ble_eq_true rfl) ?_
  refine W.eq (g2 := F0 m0 4 ls []) rfl ?_
  refine lv_aload_n hx hb dX5_init_4 rfl (lv_at hl 0 rfl) ?_
  refine zk_new (ci := 2) (fs := [.null, .null]) (C := RX2) (T := TX2) (N := 2) hx hb hts inw_wsX5_init_2 tyX2 tyX2_ok hown (hts (.classLink RX5 7 RX2) (by decide +kernel)) (hts (.instantiable RX2 2) (by decide +kernel)) (hts (.initialized RX2) (by decide +kernel)) hK hH hS rfl (fun j hj => by rcases (show j = 0 ∨ j = 1 by omega) with rfl | rfl <;> rfl) (Nat.le_of_ble_eq_true rfl) (Nat.le_of_ble_eq_true rfl) dX5_init_5 (fun q_5 H hf_5 hH hS => ?_)
  obtain ⟨M_5, eM_5⟩ : ∃ w_0 : zk_M, w_0 = zk_up M q_5 (.inr (2, [.null, .null])) := ⟨_, rfl⟩
  have hH : zk_H g z M_5 H := by rw [eM_5]; exact hH
  have f_5_0 : M_5 o = some (.inr (5, [.null, .null, .null, .null, .int 0, .long 0])) := by rw [eM_5, zk_up_n _ _ (zk_ne_none hm hf_5)]; exact hm
  have e_5 : M_5 q_5 = some (.inr (2, [.null, .null])) := by rw [eM_5]; exact zk_up_s _ _ _
  have hT_5 : zk_T M o [o, q_5] M_5 := by rw [eM_5]; exact zk_T_new hT0 hf_5
  refine lv_dup hx hb dX5_init_8 rfl ?_
  refine zk_callv (va_runIN (As := []) (rest := [.ref q_5, .ref o]) ⟨hx, hb, hml, hown, hts⟩ (zc_X2_init l e_5) ⟨va_cnB 0 hts ggX5_init_X2_init rfl rfl rfl (zk_nm_0 hN) (hts (.initialized RX2) (by decide +kernel)) (by decide +kernel) ⟨Nat.le_of_ble_eq_true rfl, Nat.le_of_ble_eq_true rfl⟩, rfl, (hts (.instanceMethod yX2_init) (by decide +kernel))⟩ (zk_preS hH hK hN) rfl rfl hl.1 rfl (lv_room (Nat.le_of_ble_eq_true rfl)) dX5_init_9 ⟨(Nat.le_of_ble_eq_true rfl), (Nat.le_of_ble_eq_true rfl)⟩) hS (fun u_9 H locs hH hr_9 hS => ?_)
  have f_9 : u_9 o = some (.inr (5, [.null, .null, .null, .null, .int 0, .long 0])) := (hr_9.2 _ (zk_ne_none hm hf_5)).trans f_5_0
  have hT_9 : zk_T M o [o, q_5] u_9 := zk_T_chg hT_5 (by simp) hr_9
  refine zk_putF (ci := 5) (v := .ref q_5) (C := RX5) (T := TX5) (N := 6) hx hb hts inw_wsX5_init_5 tyX5 tyX5_ok nmX5 hown hK hH hS f_9 rfl 0 (by decide) (hts (.fieldLink RX5 10 "KegDeposits" "house" "LKegDeposits$Party;") (by decide +kernel)) rfl hin2 rfl rfl rfl (Nat.le_of_ble_eq_true rfl) dX5_init_12 (fun H locs hH hS => ?_)
  obtain ⟨M_12, eM_12⟩ : ∃ w_0 : zk_M, w_0 = zk_up u_9 o (.inr (5, [.ref q_5, .null, .null, .null, .int 0, .long 0])) := ⟨_, rfl⟩
  have hH : zk_H g z M_12 H := by rw [eM_12]; exact hH
  have f_12_0 : M_12 q_5 = some (.inr (2, [.null, .null])) := by rw [eM_12, zk_up_n _ _ (zk_ne hr_9.1 f_9 (by simp))]; exact hr_9.1
  have e_12 : M_12 o = some (.inr (5, [.ref q_5, .null, .null, .null, .int 0, .long 0])) := by rw [eM_12]; exact zk_up_s _ _ _
  have hT_12 : zk_T M o [o, q_5] M_12 := by rw [eM_12]; exact zk_T_put hT_9 (by simp)
  refine lv_aload_n hx hb dX5_init_15 rfl (lv_at hl 0 rfl) ?_
  refine lv_bipush (v := 24) hx hb dX5_init_16 (by decide) ?_
  refine zk_newq (C := RX2) (N' := 24) (cA := g.2.2.2.1) hx hb hown (hts (.classLink RX5 7 RX2) (by decide +kernel)) hAP hK hH hS 2 rfl (by decide) rfl (Nat.le_of_ble_eq_true rfl) (Nat.le_of_ble_eq_true rfl) (Nat.le_of_ble_eq_true rfl) dX5_init_18 (fun q_18 H hf_18 hH hS => ?_)
  obtain ⟨M_18, eM_18⟩ : ∃ w_0 : zk_M, w_0 = zk_up M_12 q_18 (zk_aP g 24 (fun _ => none)) := ⟨_, rfl⟩
  have hH : zk_H g z M_18 H := by rw [eM_18]; exact hH
  have f_18_0 : M_18 q_5 = some (.inr (2, [.null, .null])) := by rw [eM_18, zk_up_n _ _ (zk_ne_none f_12_0 hf_18)]; exact f_12_0
  have f_18_1 : M_18 o = some (.inr (5, [.ref q_5, .null, .null, .null, .int 0, .long 0])) := by rw [eM_18, zk_up_n _ _ (zk_ne_none e_12 hf_18)]; exact e_12
  have e_18 : M_18 q_18 = some (zk_aP g 24 (fun _ => none)) := by rw [eM_18]; exact zk_up_s _ _ _
  have hT_18 : zk_T M o [o, q_5, q_18] M_18 := by rw [eM_18]; exact zk_T_new hT_12 hf_18
  refine zk_putF (ci := 5) (v := .ref q_18) (C := RX5) (T := TX5) (N := 6) hx hb hts inw_wsX5_init_5 tyX5 tyX5_ok nmX5 hown hK hH hS f_18_1 rfl 1 (by decide) (hts (.fieldLink RX5 16 "KegDeposits" "parties" "[LKegDeposits$Party;") (by decide +kernel)) rfl hin2 rfl rfl rfl (Nat.le_of_ble_eq_true rfl) dX5_init_21 (fun H locs hH hS => ?_)
  obtain ⟨M_21, eM_21⟩ : ∃ w_0 : zk_M, w_0 = zk_up M_18 o (.inr (5, [.ref q_5, .ref q_18, .null, .null, .int 0, .long 0])) := ⟨_, rfl⟩
  have hH : zk_H g z M_21 H := by rw [eM_21]; exact hH
  have f_21_0 : M_21 q_5 = some (.inr (2, [.null, .null])) := by rw [eM_21, zk_up_n _ _ (zk_ne f_18_0 f_18_1 (by simp))]; exact f_18_0
  have f_21_1 : M_21 q_18 = some (zk_aP g 24 (fun _ => none)) := by rw [eM_21, zk_up_n _ _ (zk_ne e_18 f_18_1 (by simp))]; exact e_18
  have e_21 : M_21 o = some (.inr (5, [.ref q_5, .ref q_18, .null, .null, .int 0, .long 0])) := by rw [eM_21]; exact zk_up_s _ _ _
  have hT_21 : zk_T M o [o, q_5, q_18] M_21 := by rw [eM_21]; exact zk_T_put hT_18 (by simp)
  refine lv_aload_n hx hb dX5_init_24 rfl (lv_at hl 0 rfl) ?_
  refine lv_bipush (v := 12) hx hb dX5_init_25 (by decide) ?_
  refine zk_newq (C := RX0) (N' := 12) (cA := g.2.2.2.2) hx hb hown (hts (.classLink RX5 20 RX0) (by decide +kernel)) hAQ hK hH hS 3 rfl (by decide) rfl (Nat.le_of_ble_eq_true rfl) (Nat.le_of_ble_eq_true rfl) (Nat.le_of_ble_eq_true rfl) dX5_init_27 (fun q_27 H hf_27 hH hS => ?_)
  obtain ⟨M_27, eM_27⟩ : ∃ w_0 : zk_M, w_0 = zk_up M_21 q_27 (zk_aQ g 12 (fun _ => none)) := ⟨_, rfl⟩
  have hH : zk_H g z M_27 H := by rw [eM_27]; exact hH
  have f_27_0 : M_27 q_5 = some (.inr (2, [.null, .null])) := by rw [eM_27, zk_up_n _ _ (zk_ne_none f_21_0 hf_27)]; exact f_21_0
  have f_27_1 : M_27 q_18 = some (zk_aP g 24 (fun _ => none)) := by rw [eM_27, zk_up_n _ _ (zk_ne_none f_21_1 hf_27)]; exact f_21_1
  have f_27_2 : M_27 o = some (.inr (5, [.ref q_5, .ref q_18, .null, .null, .int 0, .long 0])) := by rw [eM_27, zk_up_n _ _ (zk_ne_none e_21 hf_27)]; exact e_21
  have e_27 : M_27 q_27 = some (zk_aQ g 12 (fun _ => none)) := by rw [eM_27]; exact zk_up_s _ _ _
  have hT_27 : zk_T M o [o, q_5, q_18, q_27] M_27 := by rw [eM_27]; exact zk_T_new hT_21 hf_27
  refine zk_putF (ci := 5) (v := .ref q_27) (C := RX5) (T := TX5) (N := 6) hx hb hts inw_wsX5_init_5 tyX5 tyX5_ok nmX5 hown hK hH hS f_27_2 rfl 2 (by decide) (hts (.fieldLink RX5 22 "KegDeposits" "kinds" "[LKegDeposits$Kind;") (by decide +kernel)) rfl hin2 rfl rfl rfl (Nat.le_of_ble_eq_true rfl) dX5_init_30 (fun H locs hH hS => ?_)
  obtain ⟨M_30, eM_30⟩ : ∃ w_0 : zk_M, w_0 = zk_up M_27 o (.inr (5, [.ref q_5, .ref q_18, .ref q_27, .null, .int 0, .long 0])) := ⟨_, rfl⟩
  have hH : zk_H g z M_30 H := by rw [eM_30]; exact hH
  have f_30_0 : M_30 q_5 = some (.inr (2, [.null, .null])) := by rw [eM_30, zk_up_n _ _ (zk_ne f_27_0 f_27_2 (by simp))]; exact f_27_0
  have f_30_1 : M_30 q_18 = some (zk_aP g 24 (fun _ => none)) := by rw [eM_30, zk_up_n _ _ (zk_ne f_27_1 f_27_2 (by simp))]; exact f_27_1
  have f_30_2 : M_30 q_27 = some (zk_aQ g 12 (fun _ => none)) := by rw [eM_30, zk_up_n _ _ (zk_ne e_27 f_27_2 (by simp))]; exact e_27
  have e_30 : M_30 o = some (.inr (5, [.ref q_5, .ref q_18, .ref q_27, .null, .int 0, .long 0])) := by rw [eM_30]; exact zk_up_s _ _ _
  have hT_30 : zk_T M o [o, q_5, q_18, q_27] M_30 := by rw [eM_30]; exact zk_T_put hT_27 (by simp)
  refine lv_aload_n hx hb dX5_init_33 rfl (lv_at hl 0 rfl) ?_
  refine zk_get (ci := 5) (v := .ref q_18) (C := RX5) (T := TX5) (N := 6) hx hb hts inw_wsX5_init_5 hown hK hH e_30 rfl 1 (by decide) (hts (.fieldLink RX5 16 "KegDeposits" "parties" "[LKegDeposits$Party;") (by decide +kernel)) rfl dX5_init_34 ?_
  refine lv_iconst (v := 0) hx hb dX5_init_37 (by decide) ?_
  refine zk_top (v' := .int (nI 0)) (by rw [nI_0]) ?_
  refine lv_aload_n hx hb dX5_init_38 rfl (lv_at hl 0 rfl) ?_
  refine zk_get (ci := 5) (v := .ref q_5) (C := RX5) (T := TX5) (N := 6) hx hb hts inw_wsX5_init_5 hown hK hH e_30 rfl 0 (by decide) (hts (.fieldLink RX5 10 "KegDeposits" "house" "LKegDeposits$Party;") (by decide +kernel)) rfl dX5_init_39 ?_
  refine zk_astq hx hb hK hH hS 2 2 (r := (RX2, TX2, 2)) (f := (fun _ => none)) f_30_1 rfl f_30_0 rfl (vp_in_nI (n := 0) (by decide) (by decide)) dX5_init_42 (fun H locs hH hS => ?_)
  rw [show va_up (fun _ => none) (Int32.toNatClampNeg (nI 0)) (some q_5) = (va_up (fun _ => none) 0 (some q_5)) from by rw [nI_clamp (by omega)]] at hH
  obtain ⟨M_42, eM_42⟩ : ∃ w_0 : zk_M, w_0 = zk_up M_30 q_18 (zk_aP g 24 (va_up (fun _ => none) 0 (some q_5))) := ⟨_, rfl⟩
  have hH : zk_H g z M_42 H := by rw [eM_42]; exact hH
  have f_42_0 : M_42 q_5 = some (.inr (2, [.null, .null])) := by rw [eM_42, zk_up_n _ _ (zk_ne f_30_0 f_30_1 (by simp))]; exact f_30_0
  have f_42_1 : M_42 q_27 = some (zk_aQ g 12 (fun _ => none)) := by rw [eM_42, zk_up_n _ _ (zk_ne f_30_2 f_30_1 (by simp))]; exact f_30_2
  have f_42_2 : M_42 o = some (.inr (5, [.ref q_5, .ref q_18, .ref q_27, .null, .int 0, .long 0])) := by rw [eM_42, zk_up_n _ _ (zk_ne e_30 f_30_1 (by simp))]; exact e_30
  have e_42 : M_42 q_18 = some (zk_aP g 24 (va_up (fun _ => none) 0 (some q_5))) := by rw [eM_42]; exact zk_up_s _ _ _
  have hT_42 : zk_T M o [o, q_5, q_18, q_27] M_42 := by rw [eM_42]; exact zk_T_put hT_30 (by simp)
  have f_42 := f_42_0
  exact zk_vret hx hb hr hlocks hH hS (by decide) (by decide) ⟨q_5, q_18, q_27, hT_42, f_42_2, f_42_0, e_42, f_42_1⟩ dX5_init_43

theorem inw_wsX6_init_6 : ∀ w ∈ u_ws RX6 TX6 20, w ∈ wsX6_init := by decide +kernel
set_option maxHeartbeats 4000000 in
set_option maxRecDepth 100000 in
theorem zc_X6_init (l : Launch) {g : zk_G} {z : Nat} {M : zk_M} {o : Nat} (hm : M o = some (.inr (6, [.int 0, .int 0, .long 0, .null, .null, .null, .null, .null, .null, .int 0, .null, .null, .null, .null, .null, .int 0, .null, .null, .null, .null]))) : Met l yX6_init wsX6_init ({ frames := 1, cells := 15, slots := 37428, locals := 12 } : Room) (va_Pc [.ref o] (zk_U g z M)) (va_Qv (fun u => zs_new6 g M o u) (zk_B g z) (fun q => z ≤ q)) 15 37428 (fun q => z ≤ q) := by
  refine Met.ofW (cc := cX6_init) (maxL := 1) (ret := none) (by decide) rfl ?_
  intro P0 e0 s m0 args below meth c0 s₁ B hml hv
  obtain ⟨rfl, hH, hK, hN⟩ := hv
  have hx := B.exec
  have hb := B.bytes
  have hr := B.returns
  have hts := atoms_spec (ws := wsX6_init) B.pre
  have hown : s.vm.findClass RX6 = some m0.cls := findClass_of_methodNamed B.named
  have hlocks := B.notSynchronized
  have hin2 : meth.name = "<init>" := (name_of_methodNamed B.named B.method).1
  have hS : va_S (fun q => z ≤ q) s.heap s.heap [] := va_S.rf
  have hl := lv_entry ([.ref o]) (n := 1) (Nat.le_of_ble_eq_true rfl)
  rw [lg_entry_eq]
  generalize (lg_sl ([.ref o]) ++ List.replicate (1 - (lg_sl ([.ref o])).length) Slot.unset).toArray = ls at hl ⊢
  have hl : lv_has ls 1 [(0, .ref o)] := hl
  have hT0 : zk_T M o [o] M := zk_T_0 (by rw [hm]; simp)
  refine lv_aload_n hx hb dX6_init_0 rfl (lv_at hl 0 rfl) ?_
  refine W.objInit hx hb hown (hts (.methodLink RX6 1 objectInit) (by decide +kernel)) (hts (.instanceMethod objectInit) (by decide +kernel)) (hts (.code objectInit ⟨#[0xb1]⟩ 1 none) (by decide +kernel)) rfl (by rw [hml]; exact hl.1) rfl dX6_init_1 (Nat.le_of_ble_eq_true rfl) (Nat.le_of_ble_eq_true rfl) ?_
  refine W.eq (g2 := F0 m0 4 ls []) rfl ?_
  refine lv_aload_n hx hb dX6_init_4 rfl (lv_at hl 0 rfl) ?_
  refine lv_iconst (v := 1) hx hb dX6_init_5 (by decide) ?_
  refine zk_put (ci := 6) (v := .int 1) (C := RX6) (T := TX6) (N := 20) hx hb hts inw_wsX6_init_6 tyX6 tyX6_ok nmX6 hown hK hH hS hm rfl 0 (by decide) (hts (.fieldLink RX6 7 "KegDepositsModel" "parties" "I") (by decide +kernel)) rfl rfl rfl (Nat.le_of_ble_eq_true rfl) dX6_init_6 (fun H locs hH hS => ?_)
  obtain ⟨M_6, eM_6⟩ : ∃ w_0 : zk_M, w_0 = zk_up M o (.inr (6, [.int 1, .int 0, .long 0, .null, .null, .null, .null, .null, .null, .int 0, .null, .null, .null, .null, .null, .int 0, .null, .null, .null, .null])) := ⟨_, rfl⟩
  have hH : zk_H g z M_6 H := by rw [eM_6]; exact hH
  have e_6 : M_6 o = some (.inr (6, [.int 1, .int 0, .long 0, .null, .null, .null, .null, .null, .null, .int 0, .null, .null, .null, .null, .null, .int 0, .null, .null, .null, .null])) := by rw [eM_6]; exact zk_up_s _ _ _
  have hT_6 : zk_T M o [o] M_6 := by rw [eM_6]; exact zk_T_put hT0 (by simp)
  refine lv_aload_n hx hb dX6_init_9 rfl (lv_at hl 0 rfl) ?_
  refine lv_sipush (v := 240) hx hb dX6_init_10 (by decide) ?_
  refine zk_newa (atype := .long) (ty := .long) (cA := g.2.1) (a0 := (240, .inr (.inl (fun _ => 0)))) hx hb (show (Cond.arrayClass (newarray.typeOf .long)).before _ s = true from hts (.arrayClass .long) (by decide +kernel)) rfl hK hH hS 0 rfl rfl (by decide) rfl (Nat.le_of_ble_eq_true rfl) (Nat.le_of_ble_eq_true rfl) (Nat.le_of_ble_eq_true rfl) dX6_init_13 (fun q_13 H hf_13 hH hS => ?_)
  obtain ⟨M_13, eM_13⟩ : ∃ w_0 : zk_M, w_0 = zk_up M_6 q_13 (zk_aJ g 240 (fun _ => 0)) := ⟨_, rfl⟩
  have hH : zk_H g z M_13 H := by rw [eM_13]; exact hH
  have f_13_0 : M_13 o = some (.inr (6, [.int 1, .int 0, .long 0, .null, .null, .null, .null, .null, .null, .int 0, .null, .null, .null, .null, .null, .int 0, .null, .null, .null, .null])) := by rw [eM_13, zk_up_n _ _ (zk_ne_none e_6 hf_13)]; exact e_6
  have e_13 : M_13 q_13 = some (zk_aJ g 240 (fun _ => 0)) := by rw [eM_13]; exact zk_up_s _ _ _
  have hT_13 : zk_T M o [o, q_13] M_13 := by rw [eM_13]; exact zk_T_new hT_6 hf_13
  refine zk_putF (ci := 6) (v := .ref q_13) (C := RX6) (T := TX6) (N := 20) hx hb hts inw_wsX6_init_6 tyX6 tyX6_ok nmX6 hown hK hH hS f_13_0 rfl 3 (by decide) (hts (.fieldLink RX6 13 "KegDepositsModel" "priceDays" "[J") (by decide +kernel)) rfl hin2 rfl rfl rfl (Nat.le_of_ble_eq_true rfl) dX6_init_15 (fun H locs hH hS => ?_)
  obtain ⟨M_15, eM_15⟩ : ∃ w_0 : zk_M, w_0 = zk_up M_13 o (.inr (6, [.int 1, .int 0, .long 0, .ref q_13, .null, .null, .null, .null, .null, .int 0, .null, .null, .null, .null, .null, .int 0, .null, .null, .null, .null])) := ⟨_, rfl⟩
  have hH : zk_H g z M_15 H := by rw [eM_15]; exact hH
  have f_15_0 : M_15 q_13 = some (zk_aJ g 240 (fun _ => 0)) := by rw [eM_15, zk_up_n _ _ (zk_ne e_13 f_13_0 (by simp))]; exact e_13
  have e_15 : M_15 o = some (.inr (6, [.int 1, .int 0, .long 0, .ref q_13, .null, .null, .null, .null, .null, .int 0, .null, .null, .null, .null, .null, .int 0, .null, .null, .null, .null])) := by rw [eM_15]; exact zk_up_s _ _ _
  have hT_15 : zk_T M o [o, q_13] M_15 := by rw [eM_15]; exact zk_T_put hT_13 (by simp)
  refine lv_aload_n hx hb dX6_init_18 rfl (lv_at hl 0 rfl) ?_
  refine lv_sipush (v := 240) hx hb dX6_init_19 (by decide) ?_
  refine zk_newa (atype := .long) (ty := .long) (cA := g.2.1) (a0 := (240, .inr (.inl (fun _ => 0)))) hx hb (show (Cond.arrayClass (newarray.typeOf .long)).before _ s = true from hts (.arrayClass .long) (by decide +kernel)) rfl hK hH hS 0 rfl rfl (by decide) rfl (Nat.le_of_ble_eq_true rfl) (Nat.le_of_ble_eq_true rfl) (Nat.le_of_ble_eq_true rfl) dX6_init_22 (fun q_22 H hf_22 hH hS => ?_)
  obtain ⟨M_22, eM_22⟩ : ∃ w_0 : zk_M, w_0 = zk_up M_15 q_22 (zk_aJ g 240 (fun _ => 0)) := ⟨_, rfl⟩
  have hH : zk_H g z M_22 H := by rw [eM_22]; exact hH
  have f_22_0 : M_22 q_13 = some (zk_aJ g 240 (fun _ => 0)) := by rw [eM_22, zk_up_n _ _ (zk_ne_none f_15_0 hf_22)]; exact f_15_0
  have f_22_1 : M_22 o = some (.inr (6, [.int 1, .int 0, .long 0, .ref q_13, .null, .null, .null, .null, .null, .int 0, .null, .null, .null, .null, .null, .int 0, .null, .null, .null, .null])) := by rw [eM_22, zk_up_n _ _ (zk_ne_none e_15 hf_22)]; exact e_15
  have e_22 : M_22 q_22 = some (zk_aJ g 240 (fun _ => 0)) := by rw [eM_22]; exact zk_up_s _ _ _
  have hT_22 : zk_T M o [o, q_13, q_22] M_22 := by rw [eM_22]; exact zk_T_new hT_15 hf_22
  refine zk_putF (ci := 6) (v := .ref q_22) (C := RX6) (T := TX6) (N := 20) hx hb hts inw_wsX6_init_6 tyX6 tyX6_ok nmX6 hown hK hH hS f_22_1 rfl 4 (by decide) (hts (.fieldLink RX6 17 "KegDepositsModel" "priceCents" "[J") (by decide +kernel)) rfl hin2 rfl rfl rfl (Nat.le_of_ble_eq_true rfl) dX6_init_24 (fun H locs hH hS => ?_)
  obtain ⟨M_24, eM_24⟩ : ∃ w_0 : zk_M, w_0 = zk_up M_22 o (.inr (6, [.int 1, .int 0, .long 0, .ref q_13, .ref q_22, .null, .null, .null, .null, .int 0, .null, .null, .null, .null, .null, .int 0, .null, .null, .null, .null])) := ⟨_, rfl⟩
  have hH : zk_H g z M_24 H := by rw [eM_24]; exact hH
  have f_24_0 : M_24 q_13 = some (zk_aJ g 240 (fun _ => 0)) := by rw [eM_24, zk_up_n _ _ (zk_ne f_22_0 f_22_1 (by simp))]; exact f_22_0
  have f_24_1 : M_24 q_22 = some (zk_aJ g 240 (fun _ => 0)) := by rw [eM_24, zk_up_n _ _ (zk_ne e_22 f_22_1 (by simp))]; exact e_22
  have e_24 : M_24 o = some (.inr (6, [.int 1, .int 0, .long 0, .ref q_13, .ref q_22, .null, .null, .null, .null, .int 0, .null, .null, .null, .null, .null, .int 0, .null, .null, .null, .null])) := by rw [eM_24]; exact zk_up_s _ _ _
  have hT_24 : zk_T M o [o, q_13, q_22] M_24 := by rw [eM_24]; exact zk_T_put hT_22 (by simp)
  refine lv_aload_n hx hb dX6_init_27 rfl (lv_at hl 0 rfl) ?_
  refine lv_bipush (v := 12) hx hb dX6_init_28 (by decide) ?_
  refine zk_newa (atype := .int) (ty := .int) (cA := g.2.2.1) (a0 := (12, .inl (fun _ => 0))) hx hb (show (Cond.arrayClass (newarray.typeOf .int)).before _ s = true from hts (.arrayClass .int) (by decide +kernel)) rfl hK hH hS 1 rfl rfl (by decide) rfl (Nat.le_of_ble_eq_true rfl) (Nat.le_of_ble_eq_true rfl) (Nat.le_of_ble_eq_true rfl) dX6_init_30 (fun q_30 H hf_30 hH hS => ?_)
  obtain ⟨M_30, eM_30⟩ : ∃ w_0 : zk_M, w_0 = zk_up M_24 q_30 (zk_aI g 12 (fun _ => 0)) := ⟨_, rfl⟩
  have hH : zk_H g z M_30 H := by rw [eM_30]; exact hH
  have f_30_0 : M_30 q_13 = some (zk_aJ g 240 (fun _ => 0)) := by rw [eM_30, zk_up_n _ _ (zk_ne_none f_24_0 hf_30)]; exact f_24_0
  have f_30_1 : M_30 q_22 = some (zk_aJ g 240 (fun _ => 0)) := by rw [eM_30, zk_up_n _ _ (zk_ne_none f_24_1 hf_30)]; exact f_24_1
  have f_30_2 : M_30 o = some (.inr (6, [.int 1, .int 0, .long 0, .ref q_13, .ref q_22, .null, .null, .null, .null, .int 0, .null, .null, .null, .null, .null, .int 0, .null, .null, .null, .null])) := by rw [eM_30, zk_up_n _ _ (zk_ne_none e_24 hf_30)]; exact e_24
  have e_30 : M_30 q_30 = some (zk_aI g 12 (fun _ => 0)) := by rw [eM_30]; exact zk_up_s _ _ _
  have hT_30 : zk_T M o [o, q_13, q_22, q_30] M_30 := by rw [eM_30]; exact zk_T_new hT_24 hf_30
  refine zk_putF (ci := 6) (v := .ref q_30) (C := RX6) (T := TX6) (N := 20) hx hb hts inw_wsX6_init_6 tyX6 tyX6_ok nmX6 hown hK hH hS f_30_2 rfl 5 (by decide) (hts (.fieldLink RX6 20 "KegDepositsModel" "prices" "[I") (by decide +kernel)) rfl hin2 rfl rfl rfl (Nat.le_of_ble_eq_true rfl) dX6_init_32 (fun H locs hH hS => ?_)
  obtain ⟨M_32, eM_32⟩ : ∃ w_0 : zk_M, w_0 = zk_up M_30 o (.inr (6, [.int 1, .int 0, .long 0, .ref q_13, .ref q_22, .ref q_30, .null, .null, .null, .int 0, .null, .null, .null, .null, .null, .int 0, .null, .null, .null, .null])) := ⟨_, rfl⟩
  have hH : zk_H g z M_32 H := by rw [eM_32]; exact hH
  have f_32_0 : M_32 q_13 = some (zk_aJ g 240 (fun _ => 0)) := by rw [eM_32, zk_up_n _ _ (zk_ne f_30_0 f_30_2 (by simp))]; exact f_30_0
  have f_32_1 : M_32 q_22 = some (zk_aJ g 240 (fun _ => 0)) := by rw [eM_32, zk_up_n _ _ (zk_ne f_30_1 f_30_2 (by simp))]; exact f_30_1
  have f_32_2 : M_32 q_30 = some (zk_aI g 12 (fun _ => 0)) := by rw [eM_32, zk_up_n _ _ (zk_ne e_30 f_30_2 (by simp))]; exact e_30
  have e_32 : M_32 o = some (.inr (6, [.int 1, .int 0, .long 0, .ref q_13, .ref q_22, .ref q_30, .null, .null, .null, .int 0, .null, .null, .null, .null, .null, .int 0, .null, .null, .null, .null])) := by rw [eM_32]; exact zk_up_s _ _ _
  have hT_32 : zk_T M o [o, q_13, q_22, q_30] M_32 := by rw [eM_32]; exact zk_T_put hT_30 (by simp)
  refine lv_aload_n hx hb dX6_init_35 rfl (lv_at hl 0 rfl) ?_
  refine lv_bipush (v := 12) hx hb dX6_init_36 (by decide) ?_
  refine zk_newa (atype := .long) (ty := .long) (cA := g.2.1) (a0 := (12, .inr (.inl (fun _ => 0)))) hx hb (show (Cond.arrayClass (newarray.typeOf .long)).before _ s = true from hts (.arrayClass .long) (by decide +kernel)) rfl hK hH hS 0 rfl rfl (by decide) rfl (Nat.le_of_ble_eq_true rfl) (Nat.le_of_ble_eq_true rfl) (Nat.le_of_ble_eq_true rfl) dX6_init_38 (fun q_38 H hf_38 hH hS => ?_)
  obtain ⟨M_38, eM_38⟩ : ∃ w_0 : zk_M, w_0 = zk_up M_32 q_38 (zk_aJ g 12 (fun _ => 0)) := ⟨_, rfl⟩
  have hH : zk_H g z M_38 H := by rw [eM_38]; exact hH
  have f_38_0 : M_38 q_13 = some (zk_aJ g 240 (fun _ => 0)) := by rw [eM_38, zk_up_n _ _ (zk_ne_none f_32_0 hf_38)]; exact f_32_0
  have f_38_1 : M_38 q_22 = some (zk_aJ g 240 (fun _ => 0)) := by rw [eM_38, zk_up_n _ _ (zk_ne_none f_32_1 hf_38)]; exact f_32_1
  have f_38_2 : M_38 q_30 = some (zk_aI g 12 (fun _ => 0)) := by rw [eM_38, zk_up_n _ _ (zk_ne_none f_32_2 hf_38)]; exact f_32_2
  have f_38_3 : M_38 o = some (.inr (6, [.int 1, .int 0, .long 0, .ref q_13, .ref q_22, .ref q_30, .null, .null, .null, .int 0, .null, .null, .null, .null, .null, .int 0, .null, .null, .null, .null])) := by rw [eM_38, zk_up_n _ _ (zk_ne_none e_32 hf_38)]; exact e_32
  have e_38 : M_38 q_38 = some (zk_aJ g 12 (fun _ => 0)) := by rw [eM_38]; exact zk_up_s _ _ _
  have hT_38 : zk_T M o [o, q_13, q_22, q_30, q_38] M_38 := by rw [eM_38]; exact zk_T_new hT_32 hf_38
  refine zk_putF (ci := 6) (v := .ref q_38) (C := RX6) (T := TX6) (N := 20) hx hb hts inw_wsX6_init_6 tyX6 tyX6_ok nmX6 hown hK hH hS f_38_3 rfl 6 (by decide) (hts (.fieldLink RX6 24 "KegDepositsModel" "shares" "[J") (by decide +kernel)) rfl hin2 rfl rfl rfl (Nat.le_of_ble_eq_true rfl) dX6_init_40 (fun H locs hH hS => ?_)
  obtain ⟨M_40, eM_40⟩ : ∃ w_0 : zk_M, w_0 = zk_up M_38 o (.inr (6, [.int 1, .int 0, .long 0, .ref q_13, .ref q_22, .ref q_30, .ref q_38, .null, .null, .int 0, .null, .null, .null, .null, .null, .int 0, .null, .null, .null, .null])) := ⟨_, rfl⟩
  have hH : zk_H g z M_40 H := by rw [eM_40]; exact hH
  have f_40_0 : M_40 q_13 = some (zk_aJ g 240 (fun _ => 0)) := by rw [eM_40, zk_up_n _ _ (zk_ne f_38_0 f_38_3 (by simp))]; exact f_38_0
  have f_40_1 : M_40 q_22 = some (zk_aJ g 240 (fun _ => 0)) := by rw [eM_40, zk_up_n _ _ (zk_ne f_38_1 f_38_3 (by simp))]; exact f_38_1
  have f_40_2 : M_40 q_30 = some (zk_aI g 12 (fun _ => 0)) := by rw [eM_40, zk_up_n _ _ (zk_ne f_38_2 f_38_3 (by simp))]; exact f_38_2
  have f_40_3 : M_40 q_38 = some (zk_aJ g 12 (fun _ => 0)) := by rw [eM_40, zk_up_n _ _ (zk_ne e_38 f_38_3 (by simp))]; exact e_38
  have e_40 : M_40 o = some (.inr (6, [.int 1, .int 0, .long 0, .ref q_13, .ref q_22, .ref q_30, .ref q_38, .null, .null, .int 0, .null, .null, .null, .null, .null, .int 0, .null, .null, .null, .null])) := by rw [eM_40]; exact zk_up_s _ _ _
  have hT_40 : zk_T M o [o, q_13, q_22, q_30, q_38] M_40 := by rw [eM_40]; exact zk_T_put hT_38 (by simp)
  refine lv_aload_n hx hb dX6_init_43 rfl (lv_at hl 0 rfl) ?_
  refine lv_bipush (v := 12) hx hb dX6_init_44 (by decide) ?_
  refine zk_newa (atype := .long) (ty := .long) (cA := g.2.1) (a0 := (12, .inr (.inl (fun _ => 0)))) hx hb (show (Cond.arrayClass (newarray.typeOf .long)).before _ s = true from hts (.arrayClass .long) (by decide +kernel)) rfl hK hH hS 0 rfl rfl (by decide) rfl (Nat.le_of_ble_eq_true rfl) (Nat.le_of_ble_eq_true rfl) (Nat.le_of_ble_eq_true rfl) dX6_init_46 (fun q_46 H hf_46 hH hS => ?_)
  obtain ⟨M_46, eM_46⟩ : ∃ w_0 : zk_M, w_0 = zk_up M_40 q_46 (zk_aJ g 12 (fun _ => 0)) := ⟨_, rfl⟩
  have hH : zk_H g z M_46 H := by rw [eM_46]; exact hH
  have f_46_0 : M_46 q_13 = some (zk_aJ g 240 (fun _ => 0)) := by rw [eM_46, zk_up_n _ _ (zk_ne_none f_40_0 hf_46)]; exact f_40_0
  have f_46_1 : M_46 q_22 = some (zk_aJ g 240 (fun _ => 0)) := by rw [eM_46, zk_up_n _ _ (zk_ne_none f_40_1 hf_46)]; exact f_40_1
  have f_46_2 : M_46 q_30 = some (zk_aI g 12 (fun _ => 0)) := by rw [eM_46, zk_up_n _ _ (zk_ne_none f_40_2 hf_46)]; exact f_40_2
  have f_46_3 : M_46 q_38 = some (zk_aJ g 12 (fun _ => 0)) := by rw [eM_46, zk_up_n _ _ (zk_ne_none f_40_3 hf_46)]; exact f_40_3
  have f_46_4 : M_46 o = some (.inr (6, [.int 1, .int 0, .long 0, .ref q_13, .ref q_22, .ref q_30, .ref q_38, .null, .null, .int 0, .null, .null, .null, .null, .null, .int 0, .null, .null, .null, .null])) := by rw [eM_46, zk_up_n _ _ (zk_ne_none e_40 hf_46)]; exact e_40
  have e_46 : M_46 q_46 = some (zk_aJ g 12 (fun _ => 0)) := by rw [eM_46]; exact zk_up_s _ _ _
  have hT_46 : zk_T M o [o, q_13, q_22, q_30, q_38, q_46] M_46 := by rw [eM_46]; exact zk_T_new hT_40 hf_46
  refine zk_putF (ci := 6) (v := .ref q_46) (C := RX6) (T := TX6) (N := 20) hx hb hts inw_wsX6_init_6 tyX6 tyX6_ok nmX6 hown hK hH hS f_46_4 rfl 7 (by decide) (hts (.fieldLink RX6 27 "KegDepositsModel" "rests" "[J") (by decide +kernel)) rfl hin2 rfl rfl rfl (Nat.le_of_ble_eq_true rfl) dX6_init_48 (fun H locs hH hS => ?_)
  obtain ⟨M_48, eM_48⟩ : ∃ w_0 : zk_M, w_0 = zk_up M_46 o (.inr (6, [.int 1, .int 0, .long 0, .ref q_13, .ref q_22, .ref q_30, .ref q_38, .ref q_46, .null, .int 0, .null, .null, .null, .null, .null, .int 0, .null, .null, .null, .null])) := ⟨_, rfl⟩
  have hH : zk_H g z M_48 H := by rw [eM_48]; exact hH
  have f_48_0 : M_48 q_13 = some (zk_aJ g 240 (fun _ => 0)) := by rw [eM_48, zk_up_n _ _ (zk_ne f_46_0 f_46_4 (by simp))]; exact f_46_0
  have f_48_1 : M_48 q_22 = some (zk_aJ g 240 (fun _ => 0)) := by rw [eM_48, zk_up_n _ _ (zk_ne f_46_1 f_46_4 (by simp))]; exact f_46_1
  have f_48_2 : M_48 q_30 = some (zk_aI g 12 (fun _ => 0)) := by rw [eM_48, zk_up_n _ _ (zk_ne f_46_2 f_46_4 (by simp))]; exact f_46_2
  have f_48_3 : M_48 q_38 = some (zk_aJ g 12 (fun _ => 0)) := by rw [eM_48, zk_up_n _ _ (zk_ne f_46_3 f_46_4 (by simp))]; exact f_46_3
  have f_48_4 : M_48 q_46 = some (zk_aJ g 12 (fun _ => 0)) := by rw [eM_48, zk_up_n _ _ (zk_ne e_46 f_46_4 (by simp))]; exact e_46
  have e_48 : M_48 o = some (.inr (6, [.int 1, .int 0, .long 0, .ref q_13, .ref q_22, .ref q_30, .ref q_38, .ref q_46, .null, .int 0, .null, .null, .null, .null, .null, .int 0, .null, .null, .null, .null])) := by rw [eM_48]; exact zk_up_s _ _ _
  have hT_48 : zk_T M o [o, q_13, q_22, q_30, q_38, q_46] M_48 := by rw [eM_48]; exact zk_T_put hT_46 (by simp)
  refine lv_aload_n hx hb dX6_init_51 rfl (lv_at hl 0 rfl) ?_
  refine lv_bipush (v := 12) hx hb dX6_init_52 (by decide) ?_
  refine zk_newa (atype := .long) (ty := .long) (cA := g.2.1) (a0 := (12, .inr (.inl (fun _ => 0)))) hx hb (show (Cond.arrayClass (newarray.typeOf .long)).before _ s = true from hts (.arrayClass .long) (by decide +kernel)) rfl hK hH hS 0 rfl rfl (by decide) rfl (Nat.le_of_ble_eq_true rfl) (Nat.le_of_ble_eq_true rfl) (Nat.le_of_ble_eq_true rfl) dX6_init_54 (fun q_54 H hf_54 hH hS => ?_)
  obtain ⟨M_54, eM_54⟩ : ∃ w_0 : zk_M, w_0 = zk_up M_48 q_54 (zk_aJ g 12 (fun _ => 0)) := ⟨_, rfl⟩
  have hH : zk_H g z M_54 H := by rw [eM_54]; exact hH
  have f_54_0 : M_54 q_13 = some (zk_aJ g 240 (fun _ => 0)) := by rw [eM_54, zk_up_n _ _ (zk_ne_none f_48_0 hf_54)]; exact f_48_0
  have f_54_1 : M_54 q_22 = some (zk_aJ g 240 (fun _ => 0)) := by rw [eM_54, zk_up_n _ _ (zk_ne_none f_48_1 hf_54)]; exact f_48_1
  have f_54_2 : M_54 q_30 = some (zk_aI g 12 (fun _ => 0)) := by rw [eM_54, zk_up_n _ _ (zk_ne_none f_48_2 hf_54)]; exact f_48_2
  have f_54_3 : M_54 q_38 = some (zk_aJ g 12 (fun _ => 0)) := by rw [eM_54, zk_up_n _ _ (zk_ne_none f_48_3 hf_54)]; exact f_48_3
  have f_54_4 : M_54 q_46 = some (zk_aJ g 12 (fun _ => 0)) := by rw [eM_54, zk_up_n _ _ (zk_ne_none f_48_4 hf_54)]; exact f_48_4
  have f_54_5 : M_54 o = some (.inr (6, [.int 1, .int 0, .long 0, .ref q_13, .ref q_22, .ref q_30, .ref q_38, .ref q_46, .null, .int 0, .null, .null, .null, .null, .null, .int 0, .null, .null, .null, .null])) := by rw [eM_54, zk_up_n _ _ (zk_ne_none e_48 hf_54)]; exact e_48
  have e_54 : M_54 q_54 = some (zk_aJ g 12 (fun _ => 0)) := by rw [eM_54]; exact zk_up_s _ _ _
  have hT_54 : zk_T M o [o, q_13, q_22, q_30, q_38, q_46, q_54] M_54 := by rw [eM_54]; exact zk_T_new hT_48 hf_54
  refine zk_putF (ci := 6) (v := .ref q_54) (C := RX6) (T := TX6) (N := 20) hx hb hts inw_wsX6_init_6 tyX6 tyX6_ok nmX6 hown hK hH hS f_54_5 rfl 8 (by decide) (hts (.fieldLink RX6 30 "KegDepositsModel" "pieces" "[J") (by decide +kernel)) rfl hin2 rfl rfl rfl (Nat.le_of_ble_eq_true rfl) dX6_init_56 (fun H locs hH hS => ?_)
  obtain ⟨M_56, eM_56⟩ : ∃ w_0 : zk_M, w_0 = zk_up M_54 o (.inr (6, [.int 1, .int 0, .long 0, .ref q_13, .ref q_22, .ref q_30, .ref q_38, .ref q_46, .ref q_54, .int 0, .null, .null, .null, .null, .null, .int 0, .null, .null, .null, .null])) := ⟨_, rfl⟩
  have hH : zk_H g z M_56 H := by rw [eM_56]; exact hH
  have f_56_0 : M_56 q_13 = some (zk_aJ g 240 (fun _ => 0)) := by rw [eM_56, zk_up_n _ _ (zk_ne f_54_0 f_54_5 (by simp))]; exact f_54_0
  have f_56_1 : M_56 q_22 = some (zk_aJ g 240 (fun _ => 0)) := by rw [eM_56, zk_up_n _ _ (zk_ne f_54_1 f_54_5 (by simp))]; exact f_54_1
  have f_56_2 : M_56 q_30 = some (zk_aI g 12 (fun _ => 0)) := by rw [eM_56, zk_up_n _ _ (zk_ne f_54_2 f_54_5 (by simp))]; exact f_54_2
  have f_56_3 : M_56 q_38 = some (zk_aJ g 12 (fun _ => 0)) := by rw [eM_56, zk_up_n _ _ (zk_ne f_54_3 f_54_5 (by simp))]; exact f_54_3
  have f_56_4 : M_56 q_46 = some (zk_aJ g 12 (fun _ => 0)) := by rw [eM_56, zk_up_n _ _ (zk_ne f_54_4 f_54_5 (by simp))]; exact f_54_4
  have f_56_5 : M_56 q_54 = some (zk_aJ g 12 (fun _ => 0)) := by rw [eM_56, zk_up_n _ _ (zk_ne e_54 f_54_5 (by simp))]; exact e_54
  have e_56 : M_56 o = some (.inr (6, [.int 1, .int 0, .long 0, .ref q_13, .ref q_22, .ref q_30, .ref q_38, .ref q_46, .ref q_54, .int 0, .null, .null, .null, .null, .null, .int 0, .null, .null, .null, .null])) := by rw [eM_56]; exact zk_up_s _ _ _
  have hT_56 : zk_T M o [o, q_13, q_22, q_30, q_38, q_46, q_54] M_56 := by rw [eM_56]; exact zk_T_put hT_54 (by simp)
  refine lv_aload_n hx hb dX6_init_59 rfl (lv_at hl 0 rfl) ?_
  refine lv_sipush (v := 4100) hx hb dX6_init_60 (by decide) ?_
  refine zk_newa (atype := .int) (ty := .int) (cA := g.2.2.1) (a0 := (4100, .inl (fun _ => 0))) hx hb (show (Cond.arrayClass (newarray.typeOf .int)).before _ s = true from hts (.arrayClass .int) (by decide +kernel)) rfl hK hH hS 1 rfl rfl (by decide) rfl (Nat.le_of_ble_eq_true rfl) (Nat.le_of_ble_eq_true rfl) (Nat.le_of_ble_eq_true rfl) dX6_init_63 (fun q_63 H hf_63 hH hS => ?_)
  obtain ⟨M_63, eM_63⟩ : ∃ w_0 : zk_M, w_0 = zk_up M_56 q_63 (zk_aI g 4100 (fun _ => 0)) := ⟨_, rfl⟩
  have hH : zk_H g z M_63 H := by rw [eM_63]; exact hH
  have f_63_0 : M_63 q_13 = some (zk_aJ g 240 (fun _ => 0)) := by rw [eM_63, zk_up_n _ _ (zk_ne_none f_56_0 hf_63)]; exact f_56_0
  have f_63_1 : M_63 q_22 = some (zk_aJ g 240 (fun _ => 0)) := by rw [eM_63, zk_up_n _ _ (zk_ne_none f_56_1 hf_63)]; exact f_56_1
  have f_63_2 : M_63 q_30 = some (zk_aI g 12 (fun _ => 0)) := by rw [eM_63, zk_up_n _ _ (zk_ne_none f_56_2 hf_63)]; exact f_56_2
  have f_63_3 : M_63 q_38 = some (zk_aJ g 12 (fun _ => 0)) := by rw [eM_63, zk_up_n _ _ (zk_ne_none f_56_3 hf_63)]; exact f_56_3
  have f_63_4 : M_63 q_46 = some (zk_aJ g 12 (fun _ => 0)) := by rw [eM_63, zk_up_n _ _ (zk_ne_none f_56_4 hf_63)]; exact f_56_4
  have f_63_5 : M_63 q_54 = some (zk_aJ g 12 (fun _ => 0)) := by rw [eM_63, zk_up_n _ _ (zk_ne_none f_56_5 hf_63)]; exact f_56_5
  have f_63_6 : M_63 o = some (.inr (6, [.int 1, .int 0, .long 0, .ref q_13, .ref q_22, .ref q_30, .ref q_38, .ref q_46, .ref q_54, .int 0, .null, .null, .null, .null, .null, .int 0, .null, .null, .null, .null])) := by rw [eM_63, zk_up_n _ _ (zk_ne_none e_56 hf_63)]; exact e_56
  have e_63 : M_63 q_63 = some (zk_aI g 4100 (fun _ => 0)) := by rw [eM_63]; exact zk_up_s _ _ _
  have hT_63 : zk_T M o [o, q_13, q_22, q_30, q_38, q_46, q_54, q_63] M_63 := by rw [eM_63]; exact zk_T_new hT_56 hf_63
  refine zk_putF (ci := 6) (v := .ref q_63) (C := RX6) (T := TX6) (N := 20) hx hb hts inw_wsX6_init_6 tyX6 tyX6_ok nmX6 hown hK hH hS f_63_6 rfl 10 (by decide) (hts (.fieldLink RX6 33 "KegDepositsModel" "layerParty" "[I") (by decide +kernel)) rfl hin2 rfl rfl rfl (Nat.le_of_ble_eq_true rfl) dX6_init_65 (fun H locs hH hS => ?_)
  obtain ⟨M_65, eM_65⟩ : ∃ w_0 : zk_M, w_0 = zk_up M_63 o (.inr (6, [.int 1, .int 0, .long 0, .ref q_13, .ref q_22, .ref q_30, .ref q_38, .ref q_46, .ref q_54, .int 0, .ref q_63, .null, .null, .null, .null, .int 0, .null, .null, .null, .null])) := ⟨_, rfl⟩
  have hH : zk_H g z M_65 H := by rw [eM_65]; exact hH
  have f_65_0 : M_65 q_13 = some (zk_aJ g 240 (fun _ => 0)) := by rw [eM_65, zk_up_n _ _ (zk_ne f_63_0 f_63_6 (by simp))]; exact f_63_0
  have f_65_1 : M_65 q_22 = some (zk_aJ g 240 (fun _ => 0)) := by rw [eM_65, zk_up_n _ _ (zk_ne f_63_1 f_63_6 (by simp))]; exact f_63_1
  have f_65_2 : M_65 q_30 = some (zk_aI g 12 (fun _ => 0)) := by rw [eM_65, zk_up_n _ _ (zk_ne f_63_2 f_63_6 (by simp))]; exact f_63_2
  have f_65_3 : M_65 q_38 = some (zk_aJ g 12 (fun _ => 0)) := by rw [eM_65, zk_up_n _ _ (zk_ne f_63_3 f_63_6 (by simp))]; exact f_63_3
  have f_65_4 : M_65 q_46 = some (zk_aJ g 12 (fun _ => 0)) := by rw [eM_65, zk_up_n _ _ (zk_ne f_63_4 f_63_6 (by simp))]; exact f_63_4
  have f_65_5 : M_65 q_54 = some (zk_aJ g 12 (fun _ => 0)) := by rw [eM_65, zk_up_n _ _ (zk_ne f_63_5 f_63_6 (by simp))]; exact f_63_5
  have f_65_6 : M_65 q_63 = some (zk_aI g 4100 (fun _ => 0)) := by rw [eM_65, zk_up_n _ _ (zk_ne e_63 f_63_6 (by simp))]; exact e_63
  have e_65 : M_65 o = some (.inr (6, [.int 1, .int 0, .long 0, .ref q_13, .ref q_22, .ref q_30, .ref q_38, .ref q_46, .ref q_54, .int 0, .ref q_63, .null, .null, .null, .null, .int 0, .null, .null, .null, .null])) := by rw [eM_65]; exact zk_up_s _ _ _
  have hT_65 : zk_T M o [o, q_13, q_22, q_30, q_38, q_46, q_54, q_63] M_65 := by rw [eM_65]; exact zk_T_put hT_63 (by simp)
  refine lv_aload_n hx hb dX6_init_68 rfl (lv_at hl 0 rfl) ?_
  refine lv_sipush (v := 4100) hx hb dX6_init_69 (by decide) ?_
  refine zk_newa (atype := .int) (ty := .int) (cA := g.2.2.1) (a0 := (4100, .inl (fun _ => 0))) hx hb (show (Cond.arrayClass (newarray.typeOf .int)).before _ s = true from hts (.arrayClass .int) (by decide +kernel)) rfl hK hH hS 1 rfl rfl (by decide) rfl (Nat.le_of_ble_eq_true rfl) (Nat.le_of_ble_eq_true rfl) (Nat.le_of_ble_eq_true rfl) dX6_init_72 (fun q_72 H hf_72 hH hS => ?_)
  obtain ⟨M_72, eM_72⟩ : ∃ w_0 : zk_M, w_0 = zk_up M_65 q_72 (zk_aI g 4100 (fun _ => 0)) := ⟨_, rfl⟩
  have hH : zk_H g z M_72 H := by rw [eM_72]; exact hH
  have f_72_0 : M_72 q_13 = some (zk_aJ g 240 (fun _ => 0)) := by rw [eM_72, zk_up_n _ _ (zk_ne_none f_65_0 hf_72)]; exact f_65_0
  have f_72_1 : M_72 q_22 = some (zk_aJ g 240 (fun _ => 0)) := by rw [eM_72, zk_up_n _ _ (zk_ne_none f_65_1 hf_72)]; exact f_65_1
  have f_72_2 : M_72 q_30 = some (zk_aI g 12 (fun _ => 0)) := by rw [eM_72, zk_up_n _ _ (zk_ne_none f_65_2 hf_72)]; exact f_65_2
  have f_72_3 : M_72 q_38 = some (zk_aJ g 12 (fun _ => 0)) := by rw [eM_72, zk_up_n _ _ (zk_ne_none f_65_3 hf_72)]; exact f_65_3
  have f_72_4 : M_72 q_46 = some (zk_aJ g 12 (fun _ => 0)) := by rw [eM_72, zk_up_n _ _ (zk_ne_none f_65_4 hf_72)]; exact f_65_4
  have f_72_5 : M_72 q_54 = some (zk_aJ g 12 (fun _ => 0)) := by rw [eM_72, zk_up_n _ _ (zk_ne_none f_65_5 hf_72)]; exact f_65_5
  have f_72_6 : M_72 q_63 = some (zk_aI g 4100 (fun _ => 0)) := by rw [eM_72, zk_up_n _ _ (zk_ne_none f_65_6 hf_72)]; exact f_65_6
  have f_72_7 : M_72 o = some (.inr (6, [.int 1, .int 0, .long 0, .ref q_13, .ref q_22, .ref q_30, .ref q_38, .ref q_46, .ref q_54, .int 0, .ref q_63, .null, .null, .null, .null, .int 0, .null, .null, .null, .null])) := by rw [eM_72, zk_up_n _ _ (zk_ne_none e_65 hf_72)]; exact e_65
  have e_72 : M_72 q_72 = some (zk_aI g 4100 (fun _ => 0)) := by rw [eM_72]; exact zk_up_s _ _ _
  have hT_72 : zk_T M o [o, q_13, q_22, q_30, q_38, q_46, q_54, q_63, q_72] M_72 := by rw [eM_72]; exact zk_T_new hT_65 hf_72
  refine zk_putF (ci := 6) (v := .ref q_72) (C := RX6) (T := TX6) (N := 20) hx hb hts inw_wsX6_init_6 tyX6 tyX6_ok nmX6 hown hK hH hS f_72_7 rfl 11 (by decide) (hts (.fieldLink RX6 36 "KegDepositsModel" "layerKind" "[I") (by decide +kernel)) rfl hin2 rfl rfl rfl (Nat.le_of_ble_eq_true rfl) dX6_init_74 (fun H locs hH hS => ?_)
  obtain ⟨M_74, eM_74⟩ : ∃ w_0 : zk_M, w_0 = zk_up M_72 o (.inr (6, [.int 1, .int 0, .long 0, .ref q_13, .ref q_22, .ref q_30, .ref q_38, .ref q_46, .ref q_54, .int 0, .ref q_63, .ref q_72, .null, .null, .null, .int 0, .null, .null, .null, .null])) := ⟨_, rfl⟩
  have hH : zk_H g z M_74 H := by rw [eM_74]; exact hH
  have f_74_0 : M_74 q_13 = some (zk_aJ g 240 (fun _ => 0)) := by rw [eM_74, zk_up_n _ _ (zk_ne f_72_0 f_72_7 (by simp))]; exact f_72_0
  have f_74_1 : M_74 q_22 = some (zk_aJ g 240 (fun _ => 0)) := by rw [eM_74, zk_up_n _ _ (zk_ne f_72_1 f_72_7 (by simp))]; exact f_72_1
  have f_74_2 : M_74 q_30 = some (zk_aI g 12 (fun _ => 0)) := by rw [eM_74, zk_up_n _ _ (zk_ne f_72_2 f_72_7 (by simp))]; exact f_72_2
  have f_74_3 : M_74 q_38 = some (zk_aJ g 12 (fun _ => 0)) := by rw [eM_74, zk_up_n _ _ (zk_ne f_72_3 f_72_7 (by simp))]; exact f_72_3
  have f_74_4 : M_74 q_46 = some (zk_aJ g 12 (fun _ => 0)) := by rw [eM_74, zk_up_n _ _ (zk_ne f_72_4 f_72_7 (by simp))]; exact f_72_4
  have f_74_5 : M_74 q_54 = some (zk_aJ g 12 (fun _ => 0)) := by rw [eM_74, zk_up_n _ _ (zk_ne f_72_5 f_72_7 (by simp))]; exact f_72_5
  have f_74_6 : M_74 q_63 = some (zk_aI g 4100 (fun _ => 0)) := by rw [eM_74, zk_up_n _ _ (zk_ne f_72_6 f_72_7 (by simp))]; exact f_72_6
  have f_74_7 : M_74 q_72 = some (zk_aI g 4100 (fun _ => 0)) := by rw [eM_74, zk_up_n _ _ (zk_ne e_72 f_72_7 (by simp))]; exact e_72
  have e_74 : M_74 o = some (.inr (6, [.int 1, .int 0, .long 0, .ref q_13, .ref q_22, .ref q_30, .ref q_38, .ref q_46, .ref q_54, .int 0, .ref q_63, .ref q_72, .null, .null, .null, .int 0, .null, .null, .null, .null])) := by rw [eM_74]; exact zk_up_s _ _ _
  have hT_74 : zk_T M o [o, q_13, q_22, q_30, q_38, q_46, q_54, q_63, q_72] M_74 := by rw [eM_74]; exact zk_T_put hT_72 (by simp)
  refine lv_aload_n hx hb dX6_init_77 rfl (lv_at hl 0 rfl) ?_
  refine lv_sipush (v := 4100) hx hb dX6_init_78 (by decide) ?_
  refine zk_newa (atype := .long) (ty := .long) (cA := g.2.1) (a0 := (4100, .inr (.inl (fun _ => 0)))) hx hb (show (Cond.arrayClass (newarray.typeOf .long)).before _ s = true from hts (.arrayClass .long) (by decide +kernel)) rfl hK hH hS 0 rfl rfl (by decide) rfl (Nat.le_of_ble_eq_true rfl) (Nat.le_of_ble_eq_true rfl) (Nat.le_of_ble_eq_true rfl) dX6_init_81 (fun q_81 H hf_81 hH hS => ?_)
  obtain ⟨M_81, eM_81⟩ : ∃ w_0 : zk_M, w_0 = zk_up M_74 q_81 (zk_aJ g 4100 (fun _ => 0)) := ⟨_, rfl⟩
  have hH : zk_H g z M_81 H := by rw [eM_81]; exact hH
  have f_81_0 : M_81 q_13 = some (zk_aJ g 240 (fun _ => 0)) := by rw [eM_81, zk_up_n _ _ (zk_ne_none f_74_0 hf_81)]; exact f_74_0
  have f_81_1 : M_81 q_22 = some (zk_aJ g 240 (fun _ => 0)) := by rw [eM_81, zk_up_n _ _ (zk_ne_none f_74_1 hf_81)]; exact f_74_1
  have f_81_2 : M_81 q_30 = some (zk_aI g 12 (fun _ => 0)) := by rw [eM_81, zk_up_n _ _ (zk_ne_none f_74_2 hf_81)]; exact f_74_2
  have f_81_3 : M_81 q_38 = some (zk_aJ g 12 (fun _ => 0)) := by rw [eM_81, zk_up_n _ _ (zk_ne_none f_74_3 hf_81)]; exact f_74_3
  have f_81_4 : M_81 q_46 = some (zk_aJ g 12 (fun _ => 0)) := by rw [eM_81, zk_up_n _ _ (zk_ne_none f_74_4 hf_81)]; exact f_74_4
  have f_81_5 : M_81 q_54 = some (zk_aJ g 12 (fun _ => 0)) := by rw [eM_81, zk_up_n _ _ (zk_ne_none f_74_5 hf_81)]; exact f_74_5
  have f_81_6 : M_81 q_63 = some (zk_aI g 4100 (fun _ => 0)) := by rw [eM_81, zk_up_n _ _ (zk_ne_none f_74_6 hf_81)]; exact f_74_6
  have f_81_7 : M_81 q_72 = some (zk_aI g 4100 (fun _ => 0)) := by rw [eM_81, zk_up_n _ _ (zk_ne_none f_74_7 hf_81)]; exact f_74_7
  have f_81_8 : M_81 o = some (.inr (6, [.int 1, .int 0, .long 0, .ref q_13, .ref q_22, .ref q_30, .ref q_38, .ref q_46, .ref q_54, .int 0, .ref q_63, .ref q_72, .null, .null, .null, .int 0, .null, .null, .null, .null])) := by rw [eM_81, zk_up_n _ _ (zk_ne_none e_74 hf_81)]; exact e_74
  have e_81 : M_81 q_81 = some (zk_aJ g 4100 (fun _ => 0)) := by rw [eM_81]; exact zk_up_s _ _ _
  have hT_81 : zk_T M o [o, q_13, q_22, q_30, q_38, q_46, q_54, q_63, q_72, q_81] M_81 := by rw [eM_81]; exact zk_T_new hT_74 hf_81
  refine zk_putF (ci := 6) (v := .ref q_81) (C := RX6) (T := TX6) (N := 20) hx hb hts inw_wsX6_init_6 tyX6 tyX6_ok nmX6 hown hK hH hS f_81_8 rfl 12 (by decide) (hts (.fieldLink RX6 39 "KegDepositsModel" "layerLeft" "[J") (by decide +kernel)) rfl hin2 rfl rfl rfl (Nat.le_of_ble_eq_true rfl) dX6_init_83 (fun H locs hH hS => ?_)
  obtain ⟨M_83, eM_83⟩ : ∃ w_0 : zk_M, w_0 = zk_up M_81 o (.inr (6, [.int 1, .int 0, .long 0, .ref q_13, .ref q_22, .ref q_30, .ref q_38, .ref q_46, .ref q_54, .int 0, .ref q_63, .ref q_72, .ref q_81, .null, .null, .int 0, .null, .null, .null, .null])) := ⟨_, rfl⟩
  have hH : zk_H g z M_83 H := by rw [eM_83]; exact hH
  have f_83_0 : M_83 q_13 = some (zk_aJ g 240 (fun _ => 0)) := by rw [eM_83, zk_up_n _ _ (zk_ne f_81_0 f_81_8 (by simp))]; exact f_81_0
  have f_83_1 : M_83 q_22 = some (zk_aJ g 240 (fun _ => 0)) := by rw [eM_83, zk_up_n _ _ (zk_ne f_81_1 f_81_8 (by simp))]; exact f_81_1
  have f_83_2 : M_83 q_30 = some (zk_aI g 12 (fun _ => 0)) := by rw [eM_83, zk_up_n _ _ (zk_ne f_81_2 f_81_8 (by simp))]; exact f_81_2
  have f_83_3 : M_83 q_38 = some (zk_aJ g 12 (fun _ => 0)) := by rw [eM_83, zk_up_n _ _ (zk_ne f_81_3 f_81_8 (by simp))]; exact f_81_3
  have f_83_4 : M_83 q_46 = some (zk_aJ g 12 (fun _ => 0)) := by rw [eM_83, zk_up_n _ _ (zk_ne f_81_4 f_81_8 (by simp))]; exact f_81_4
  have f_83_5 : M_83 q_54 = some (zk_aJ g 12 (fun _ => 0)) := by rw [eM_83, zk_up_n _ _ (zk_ne f_81_5 f_81_8 (by simp))]; exact f_81_5
  have f_83_6 : M_83 q_63 = some (zk_aI g 4100 (fun _ => 0)) := by rw [eM_83, zk_up_n _ _ (zk_ne f_81_6 f_81_8 (by simp))]; exact f_81_6
  have f_83_7 : M_83 q_72 = some (zk_aI g 4100 (fun _ => 0)) := by rw [eM_83, zk_up_n _ _ (zk_ne f_81_7 f_81_8 (by simp))]; exact f_81_7
  have f_83_8 : M_83 q_81 = some (zk_aJ g 4100 (fun _ => 0)) := by rw [eM_83, zk_up_n _ _ (zk_ne e_81 f_81_8 (by simp))]; exact e_81
  have e_83 : M_83 o = some (.inr (6, [.int 1, .int 0, .long 0, .ref q_13, .ref q_22, .ref q_30, .ref q_38, .ref q_46, .ref q_54, .int 0, .ref q_63, .ref q_72, .ref q_81, .null, .null, .int 0, .null, .null, .null, .null])) := by rw [eM_83]; exact zk_up_s _ _ _
  have hT_83 : zk_T M o [o, q_13, q_22, q_30, q_38, q_46, q_54, q_63, q_72, q_81] M_83 := by rw [eM_83]; exact zk_T_put hT_81 (by simp)
  refine lv_aload_n hx hb dX6_init_86 rfl (lv_at hl 0 rfl) ?_
  refine lv_sipush (v := 4100) hx hb dX6_init_87 (by decide) ?_
  refine zk_newa (atype := .long) (ty := .long) (cA := g.2.1) (a0 := (4100, .inr (.inl (fun _ => 0)))) hx hb (show (Cond.arrayClass (newarray.typeOf .long)).before _ s = true from hts (.arrayClass .long) (by decide +kernel)) rfl hK hH hS 0 rfl rfl (by decide) rfl (Nat.le_of_ble_eq_true rfl) (Nat.le_of_ble_eq_true rfl) (Nat.le_of_ble_eq_true rfl) dX6_init_90 (fun q_90 H hf_90 hH hS => ?_)
  obtain ⟨M_90, eM_90⟩ : ∃ w_0 : zk_M, w_0 = zk_up M_83 q_90 (zk_aJ g 4100 (fun _ => 0)) := ⟨_, rfl⟩
  have hH : zk_H g z M_90 H := by rw [eM_90]; exact hH
  have f_90_0 : M_90 q_13 = some (zk_aJ g 240 (fun _ => 0)) := by rw [eM_90, zk_up_n _ _ (zk_ne_none f_83_0 hf_90)]; exact f_83_0
  have f_90_1 : M_90 q_22 = some (zk_aJ g 240 (fun _ => 0)) := by rw [eM_90, zk_up_n _ _ (zk_ne_none f_83_1 hf_90)]; exact f_83_1
  have f_90_2 : M_90 q_30 = some (zk_aI g 12 (fun _ => 0)) := by rw [eM_90, zk_up_n _ _ (zk_ne_none f_83_2 hf_90)]; exact f_83_2
  have f_90_3 : M_90 q_38 = some (zk_aJ g 12 (fun _ => 0)) := by rw [eM_90, zk_up_n _ _ (zk_ne_none f_83_3 hf_90)]; exact f_83_3
  have f_90_4 : M_90 q_46 = some (zk_aJ g 12 (fun _ => 0)) := by rw [eM_90, zk_up_n _ _ (zk_ne_none f_83_4 hf_90)]; exact f_83_4
  have f_90_5 : M_90 q_54 = some (zk_aJ g 12 (fun _ => 0)) := by rw [eM_90, zk_up_n _ _ (zk_ne_none f_83_5 hf_90)]; exact f_83_5
  have f_90_6 : M_90 q_63 = some (zk_aI g 4100 (fun _ => 0)) := by rw [eM_90, zk_up_n _ _ (zk_ne_none f_83_6 hf_90)]; exact f_83_6
  have f_90_7 : M_90 q_72 = some (zk_aI g 4100 (fun _ => 0)) := by rw [eM_90, zk_up_n _ _ (zk_ne_none f_83_7 hf_90)]; exact f_83_7
  have f_90_8 : M_90 q_81 = some (zk_aJ g 4100 (fun _ => 0)) := by rw [eM_90, zk_up_n _ _ (zk_ne_none f_83_8 hf_90)]; exact f_83_8
  have f_90_9 : M_90 o = some (.inr (6, [.int 1, .int 0, .long 0, .ref q_13, .ref q_22, .ref q_30, .ref q_38, .ref q_46, .ref q_54, .int 0, .ref q_63, .ref q_72, .ref q_81, .null, .null, .int 0, .null, .null, .null, .null])) := by rw [eM_90, zk_up_n _ _ (zk_ne_none e_83 hf_90)]; exact e_83
  have e_90 : M_90 q_90 = some (zk_aJ g 4100 (fun _ => 0)) := by rw [eM_90]; exact zk_up_s _ _ _
  have hT_90 : zk_T M o [o, q_13, q_22, q_30, q_38, q_46, q_54, q_63, q_72, q_81, q_90] M_90 := by rw [eM_90]; exact zk_T_new hT_83 hf_90
  refine zk_putF (ci := 6) (v := .ref q_90) (C := RX6) (T := TX6) (N := 20) hx hb hts inw_wsX6_init_6 tyX6 tyX6_ok nmX6 hown hK hH hS f_90_9 rfl 13 (by decide) (hts (.fieldLink RX6 42 "KegDepositsModel" "layerDay" "[J") (by decide +kernel)) rfl hin2 rfl rfl rfl (Nat.le_of_ble_eq_true rfl) dX6_init_92 (fun H locs hH hS => ?_)
  obtain ⟨M_92, eM_92⟩ : ∃ w_0 : zk_M, w_0 = zk_up M_90 o (.inr (6, [.int 1, .int 0, .long 0, .ref q_13, .ref q_22, .ref q_30, .ref q_38, .ref q_46, .ref q_54, .int 0, .ref q_63, .ref q_72, .ref q_81, .ref q_90, .null, .int 0, .null, .null, .null, .null])) := ⟨_, rfl⟩
  have hH : zk_H g z M_92 H := by rw [eM_92]; exact hH
  have f_92_0 : M_92 q_13 = some (zk_aJ g 240 (fun _ => 0)) := by rw [eM_92, zk_up_n _ _ (zk_ne f_90_0 f_90_9 (by simp))]; exact f_90_0
  have f_92_1 : M_92 q_22 = some (zk_aJ g 240 (fun _ => 0)) := by rw [eM_92, zk_up_n _ _ (zk_ne f_90_1 f_90_9 (by simp))]; exact f_90_1
  have f_92_2 : M_92 q_30 = some (zk_aI g 12 (fun _ => 0)) := by rw [eM_92, zk_up_n _ _ (zk_ne f_90_2 f_90_9 (by simp))]; exact f_90_2
  have f_92_3 : M_92 q_38 = some (zk_aJ g 12 (fun _ => 0)) := by rw [eM_92, zk_up_n _ _ (zk_ne f_90_3 f_90_9 (by simp))]; exact f_90_3
  have f_92_4 : M_92 q_46 = some (zk_aJ g 12 (fun _ => 0)) := by rw [eM_92, zk_up_n _ _ (zk_ne f_90_4 f_90_9 (by simp))]; exact f_90_4
  have f_92_5 : M_92 q_54 = some (zk_aJ g 12 (fun _ => 0)) := by rw [eM_92, zk_up_n _ _ (zk_ne f_90_5 f_90_9 (by simp))]; exact f_90_5
  have f_92_6 : M_92 q_63 = some (zk_aI g 4100 (fun _ => 0)) := by rw [eM_92, zk_up_n _ _ (zk_ne f_90_6 f_90_9 (by simp))]; exact f_90_6
  have f_92_7 : M_92 q_72 = some (zk_aI g 4100 (fun _ => 0)) := by rw [eM_92, zk_up_n _ _ (zk_ne f_90_7 f_90_9 (by simp))]; exact f_90_7
  have f_92_8 : M_92 q_81 = some (zk_aJ g 4100 (fun _ => 0)) := by rw [eM_92, zk_up_n _ _ (zk_ne f_90_8 f_90_9 (by simp))]; exact f_90_8
  have f_92_9 : M_92 q_90 = some (zk_aJ g 4100 (fun _ => 0)) := by rw [eM_92, zk_up_n _ _ (zk_ne e_90 f_90_9 (by simp))]; exact e_90
  have e_92 : M_92 o = some (.inr (6, [.int 1, .int 0, .long 0, .ref q_13, .ref q_22, .ref q_30, .ref q_38, .ref q_46, .ref q_54, .int 0, .ref q_63, .ref q_72, .ref q_81, .ref q_90, .null, .int 0, .null, .null, .null, .null])) := by rw [eM_92]; exact zk_up_s _ _ _
  have hT_92 : zk_T M o [o, q_13, q_22, q_30, q_38, q_46, q_54, q_63, q_72, q_81, q_90] M_92 := by rw [eM_92]; exact zk_T_put hT_90 (by simp)
  refine lv_aload_n hx hb dX6_init_95 rfl (lv_at hl 0 rfl) ?_
  refine lv_sipush (v := 4100) hx hb dX6_init_96 (by decide) ?_
  refine zk_newa (atype := .long) (ty := .long) (cA := g.2.1) (a0 := (4100, .inr (.inl (fun _ => 0)))) hx hb (show (Cond.arrayClass (newarray.typeOf .long)).before _ s = true from hts (.arrayClass .long) (by decide +kernel)) rfl hK hH hS 0 rfl rfl (by decide) rfl (Nat.le_of_ble_eq_true rfl) (Nat.le_of_ble_eq_true rfl) (Nat.le_of_ble_eq_true rfl) dX6_init_99 (fun q_99 H hf_99 hH hS => ?_)
  obtain ⟨M_99, eM_99⟩ : ∃ w_0 : zk_M, w_0 = zk_up M_92 q_99 (zk_aJ g 4100 (fun _ => 0)) := ⟨_, rfl⟩
  have hH : zk_H g z M_99 H := by rw [eM_99]; exact hH
  have f_99_0 : M_99 q_13 = some (zk_aJ g 240 (fun _ => 0)) := by rw [eM_99, zk_up_n _ _ (zk_ne_none f_92_0 hf_99)]; exact f_92_0
  have f_99_1 : M_99 q_22 = some (zk_aJ g 240 (fun _ => 0)) := by rw [eM_99, zk_up_n _ _ (zk_ne_none f_92_1 hf_99)]; exact f_92_1
  have f_99_2 : M_99 q_30 = some (zk_aI g 12 (fun _ => 0)) := by rw [eM_99, zk_up_n _ _ (zk_ne_none f_92_2 hf_99)]; exact f_92_2
  have f_99_3 : M_99 q_38 = some (zk_aJ g 12 (fun _ => 0)) := by rw [eM_99, zk_up_n _ _ (zk_ne_none f_92_3 hf_99)]; exact f_92_3
  have f_99_4 : M_99 q_46 = some (zk_aJ g 12 (fun _ => 0)) := by rw [eM_99, zk_up_n _ _ (zk_ne_none f_92_4 hf_99)]; exact f_92_4
  have f_99_5 : M_99 q_54 = some (zk_aJ g 12 (fun _ => 0)) := by rw [eM_99, zk_up_n _ _ (zk_ne_none f_92_5 hf_99)]; exact f_92_5
  have f_99_6 : M_99 q_63 = some (zk_aI g 4100 (fun _ => 0)) := by rw [eM_99, zk_up_n _ _ (zk_ne_none f_92_6 hf_99)]; exact f_92_6
  have f_99_7 : M_99 q_72 = some (zk_aI g 4100 (fun _ => 0)) := by rw [eM_99, zk_up_n _ _ (zk_ne_none f_92_7 hf_99)]; exact f_92_7
  have f_99_8 : M_99 q_81 = some (zk_aJ g 4100 (fun _ => 0)) := by rw [eM_99, zk_up_n _ _ (zk_ne_none f_92_8 hf_99)]; exact f_92_8
  have f_99_9 : M_99 q_90 = some (zk_aJ g 4100 (fun _ => 0)) := by rw [eM_99, zk_up_n _ _ (zk_ne_none f_92_9 hf_99)]; exact f_92_9
  have f_99_10 : M_99 o = some (.inr (6, [.int 1, .int 0, .long 0, .ref q_13, .ref q_22, .ref q_30, .ref q_38, .ref q_46, .ref q_54, .int 0, .ref q_63, .ref q_72, .ref q_81, .ref q_90, .null, .int 0, .null, .null, .null, .null])) := by rw [eM_99, zk_up_n _ _ (zk_ne_none e_92 hf_99)]; exact e_92
  have e_99 : M_99 q_99 = some (zk_aJ g 4100 (fun _ => 0)) := by rw [eM_99]; exact zk_up_s _ _ _
  have hT_99 : zk_T M o [o, q_13, q_22, q_30, q_38, q_46, q_54, q_63, q_72, q_81, q_90, q_99] M_99 := by rw [eM_99]; exact zk_T_new hT_92 hf_99
  refine zk_putF (ci := 6) (v := .ref q_99) (C := RX6) (T := TX6) (N := 20) hx hb hts inw_wsX6_init_6 tyX6 tyX6_ok nmX6 hown hK hH hS f_99_10 rfl 14 (by decide) (hts (.fieldLink RX6 45 "KegDepositsModel" "layerPrice" "[J") (by decide +kernel)) rfl hin2 rfl rfl rfl (Nat.le_of_ble_eq_true rfl) dX6_init_101 (fun H locs hH hS => ?_)
  obtain ⟨M_101, eM_101⟩ : ∃ w_0 : zk_M, w_0 = zk_up M_99 o (.inr (6, [.int 1, .int 0, .long 0, .ref q_13, .ref q_22, .ref q_30, .ref q_38, .ref q_46, .ref q_54, .int 0, .ref q_63, .ref q_72, .ref q_81, .ref q_90, .ref q_99, .int 0, .null, .null, .null, .null])) := ⟨_, rfl⟩
  have hH : zk_H g z M_101 H := by rw [eM_101]; exact hH
  have f_101_0 : M_101 q_13 = some (zk_aJ g 240 (fun _ => 0)) := by rw [eM_101, zk_up_n _ _ (zk_ne f_99_0 f_99_10 (by simp))]; exact f_99_0
  have f_101_1 : M_101 q_22 = some (zk_aJ g 240 (fun _ => 0)) := by rw [eM_101, zk_up_n _ _ (zk_ne f_99_1 f_99_10 (by simp))]; exact f_99_1
  have f_101_2 : M_101 q_30 = some (zk_aI g 12 (fun _ => 0)) := by rw [eM_101, zk_up_n _ _ (zk_ne f_99_2 f_99_10 (by simp))]; exact f_99_2
  have f_101_3 : M_101 q_38 = some (zk_aJ g 12 (fun _ => 0)) := by rw [eM_101, zk_up_n _ _ (zk_ne f_99_3 f_99_10 (by simp))]; exact f_99_3
  have f_101_4 : M_101 q_46 = some (zk_aJ g 12 (fun _ => 0)) := by rw [eM_101, zk_up_n _ _ (zk_ne f_99_4 f_99_10 (by simp))]; exact f_99_4
  have f_101_5 : M_101 q_54 = some (zk_aJ g 12 (fun _ => 0)) := by rw [eM_101, zk_up_n _ _ (zk_ne f_99_5 f_99_10 (by simp))]; exact f_99_5
  have f_101_6 : M_101 q_63 = some (zk_aI g 4100 (fun _ => 0)) := by rw [eM_101, zk_up_n _ _ (zk_ne f_99_6 f_99_10 (by simp))]; exact f_99_6
  have f_101_7 : M_101 q_72 = some (zk_aI g 4100 (fun _ => 0)) := by rw [eM_101, zk_up_n _ _ (zk_ne f_99_7 f_99_10 (by simp))]; exact f_99_7
  have f_101_8 : M_101 q_81 = some (zk_aJ g 4100 (fun _ => 0)) := by rw [eM_101, zk_up_n _ _ (zk_ne f_99_8 f_99_10 (by simp))]; exact f_99_8
  have f_101_9 : M_101 q_90 = some (zk_aJ g 4100 (fun _ => 0)) := by rw [eM_101, zk_up_n _ _ (zk_ne f_99_9 f_99_10 (by simp))]; exact f_99_9
  have f_101_10 : M_101 q_99 = some (zk_aJ g 4100 (fun _ => 0)) := by rw [eM_101, zk_up_n _ _ (zk_ne e_99 f_99_10 (by simp))]; exact e_99
  have e_101 : M_101 o = some (.inr (6, [.int 1, .int 0, .long 0, .ref q_13, .ref q_22, .ref q_30, .ref q_38, .ref q_46, .ref q_54, .int 0, .ref q_63, .ref q_72, .ref q_81, .ref q_90, .ref q_99, .int 0, .null, .null, .null, .null])) := by rw [eM_101]; exact zk_up_s _ _ _
  have hT_101 : zk_T M o [o, q_13, q_22, q_30, q_38, q_46, q_54, q_63, q_72, q_81, q_90, q_99] M_101 := by rw [eM_101]; exact zk_T_put hT_99 (by simp)
  refine lv_aload_n hx hb dX6_init_104 rfl (lv_at hl 0 rfl) ?_
  refine lv_sipush (v := 4100) hx hb dX6_init_105 (by decide) ?_
  refine zk_newa (atype := .int) (ty := .int) (cA := g.2.2.1) (a0 := (4100, .inl (fun _ => 0))) hx hb (show (Cond.arrayClass (newarray.typeOf .int)).before _ s = true from hts (.arrayClass .int) (by decide +kernel)) rfl hK hH hS 1 rfl rfl (by decide) rfl (Nat.le_of_ble_eq_true rfl) (Nat.le_of_ble_eq_true rfl) (Nat.le_of_ble_eq_true rfl) dX6_init_108 (fun q_108 H hf_108 hH hS => ?_)
  obtain ⟨M_108, eM_108⟩ : ∃ w_0 : zk_M, w_0 = zk_up M_101 q_108 (zk_aI g 4100 (fun _ => 0)) := ⟨_, rfl⟩
  have hH : zk_H g z M_108 H := by rw [eM_108]; exact hH
  have f_108_0 : M_108 q_13 = some (zk_aJ g 240 (fun _ => 0)) := by rw [eM_108, zk_up_n _ _ (zk_ne_none f_101_0 hf_108)]; exact f_101_0
  have f_108_1 : M_108 q_22 = some (zk_aJ g 240 (fun _ => 0)) := by rw [eM_108, zk_up_n _ _ (zk_ne_none f_101_1 hf_108)]; exact f_101_1
  have f_108_2 : M_108 q_30 = some (zk_aI g 12 (fun _ => 0)) := by rw [eM_108, zk_up_n _ _ (zk_ne_none f_101_2 hf_108)]; exact f_101_2
  have f_108_3 : M_108 q_38 = some (zk_aJ g 12 (fun _ => 0)) := by rw [eM_108, zk_up_n _ _ (zk_ne_none f_101_3 hf_108)]; exact f_101_3
  have f_108_4 : M_108 q_46 = some (zk_aJ g 12 (fun _ => 0)) := by rw [eM_108, zk_up_n _ _ (zk_ne_none f_101_4 hf_108)]; exact f_101_4
  have f_108_5 : M_108 q_54 = some (zk_aJ g 12 (fun _ => 0)) := by rw [eM_108, zk_up_n _ _ (zk_ne_none f_101_5 hf_108)]; exact f_101_5
  have f_108_6 : M_108 q_63 = some (zk_aI g 4100 (fun _ => 0)) := by rw [eM_108, zk_up_n _ _ (zk_ne_none f_101_6 hf_108)]; exact f_101_6
  have f_108_7 : M_108 q_72 = some (zk_aI g 4100 (fun _ => 0)) := by rw [eM_108, zk_up_n _ _ (zk_ne_none f_101_7 hf_108)]; exact f_101_7
  have f_108_8 : M_108 q_81 = some (zk_aJ g 4100 (fun _ => 0)) := by rw [eM_108, zk_up_n _ _ (zk_ne_none f_101_8 hf_108)]; exact f_101_8
  have f_108_9 : M_108 q_90 = some (zk_aJ g 4100 (fun _ => 0)) := by rw [eM_108, zk_up_n _ _ (zk_ne_none f_101_9 hf_108)]; exact f_101_9
  have f_108_10 : M_108 q_99 = some (zk_aJ g 4100 (fun _ => 0)) := by rw [eM_108, zk_up_n _ _ (zk_ne_none f_101_10 hf_108)]; exact f_101_10
  have f_108_11 : M_108 o = some (.inr (6, [.int 1, .int 0, .long 0, .ref q_13, .ref q_22, .ref q_30, .ref q_38, .ref q_46, .ref q_54, .int 0, .ref q_63, .ref q_72, .ref q_81, .ref q_90, .ref q_99, .int 0, .null, .null, .null, .null])) := by rw [eM_108, zk_up_n _ _ (zk_ne_none e_101 hf_108)]; exact e_101
  have e_108 : M_108 q_108 = some (zk_aI g 4100 (fun _ => 0)) := by rw [eM_108]; exact zk_up_s _ _ _
  have hT_108 : zk_T M o [o, q_13, q_22, q_30, q_38, q_46, q_54, q_63, q_72, q_81, q_90, q_99, q_108] M_108 := by rw [eM_108]; exact zk_T_new hT_101 hf_108
  refine zk_putF (ci := 6) (v := .ref q_108) (C := RX6) (T := TX6) (N := 20) hx hb hts inw_wsX6_init_6 tyX6 tyX6_ok nmX6 hown hK hH hS f_108_11 rfl 16 (by decide) (hts (.fieldLink RX6 48 "KegDepositsModel" "gains" "[I") (by decide +kernel)) rfl hin2 rfl rfl rfl (Nat.le_of_ble_eq_true rfl) dX6_init_110 (fun H locs hH hS => ?_)
  obtain ⟨M_110, eM_110⟩ : ∃ w_0 : zk_M, w_0 = zk_up M_108 o (.inr (6, [.int 1, .int 0, .long 0, .ref q_13, .ref q_22, .ref q_30, .ref q_38, .ref q_46, .ref q_54, .int 0, .ref q_63, .ref q_72, .ref q_81, .ref q_90, .ref q_99, .int 0, .ref q_108, .null, .null, .null])) := ⟨_, rfl⟩
  have hH : zk_H g z M_110 H := by rw [eM_110]; exact hH
  have f_110_0 : M_110 q_13 = some (zk_aJ g 240 (fun _ => 0)) := by rw [eM_110, zk_up_n _ _ (zk_ne f_108_0 f_108_11 (by simp))]; exact f_108_0
  have f_110_1 : M_110 q_22 = some (zk_aJ g 240 (fun _ => 0)) := by rw [eM_110, zk_up_n _ _ (zk_ne f_108_1 f_108_11 (by simp))]; exact f_108_1
  have f_110_2 : M_110 q_30 = some (zk_aI g 12 (fun _ => 0)) := by rw [eM_110, zk_up_n _ _ (zk_ne f_108_2 f_108_11 (by simp))]; exact f_108_2
  have f_110_3 : M_110 q_38 = some (zk_aJ g 12 (fun _ => 0)) := by rw [eM_110, zk_up_n _ _ (zk_ne f_108_3 f_108_11 (by simp))]; exact f_108_3
  have f_110_4 : M_110 q_46 = some (zk_aJ g 12 (fun _ => 0)) := by rw [eM_110, zk_up_n _ _ (zk_ne f_108_4 f_108_11 (by simp))]; exact f_108_4
  have f_110_5 : M_110 q_54 = some (zk_aJ g 12 (fun _ => 0)) := by rw [eM_110, zk_up_n _ _ (zk_ne f_108_5 f_108_11 (by simp))]; exact f_108_5
  have f_110_6 : M_110 q_63 = some (zk_aI g 4100 (fun _ => 0)) := by rw [eM_110, zk_up_n _ _ (zk_ne f_108_6 f_108_11 (by simp))]; exact f_108_6
  have f_110_7 : M_110 q_72 = some (zk_aI g 4100 (fun _ => 0)) := by rw [eM_110, zk_up_n _ _ (zk_ne f_108_7 f_108_11 (by simp))]; exact f_108_7
  have f_110_8 : M_110 q_81 = some (zk_aJ g 4100 (fun _ => 0)) := by rw [eM_110, zk_up_n _ _ (zk_ne f_108_8 f_108_11 (by simp))]; exact f_108_8
  have f_110_9 : M_110 q_90 = some (zk_aJ g 4100 (fun _ => 0)) := by rw [eM_110, zk_up_n _ _ (zk_ne f_108_9 f_108_11 (by simp))]; exact f_108_9
  have f_110_10 : M_110 q_99 = some (zk_aJ g 4100 (fun _ => 0)) := by rw [eM_110, zk_up_n _ _ (zk_ne f_108_10 f_108_11 (by simp))]; exact f_108_10
  have f_110_11 : M_110 q_108 = some (zk_aI g 4100 (fun _ => 0)) := by rw [eM_110, zk_up_n _ _ (zk_ne e_108 f_108_11 (by simp))]; exact e_108
  have e_110 : M_110 o = some (.inr (6, [.int 1, .int 0, .long 0, .ref q_13, .ref q_22, .ref q_30, .ref q_38, .ref q_46, .ref q_54, .int 0, .ref q_63, .ref q_72, .ref q_81, .ref q_90, .ref q_99, .int 0, .ref q_108, .null, .null, .null])) := by rw [eM_110]; exact zk_up_s _ _ _
  have hT_110 : zk_T M o [o, q_13, q_22, q_30, q_38, q_46, q_54, q_63, q_72, q_81, q_90, q_99, q_108] M_110 := by rw [eM_110]; exact zk_T_put hT_108 (by simp)
  refine lv_aload_n hx hb dX6_init_113 rfl (lv_at hl 0 rfl) ?_
  refine lv_sipush (v := 4100) hx hb dX6_init_114 (by decide) ?_
  refine zk_newa (atype := .int) (ty := .int) (cA := g.2.2.1) (a0 := (4100, .inl (fun _ => 0))) hx hb (show (Cond.arrayClass (newarray.typeOf .int)).before _ s = true from hts (.arrayClass .int) (by decide +kernel)) rfl hK hH hS 1 rfl rfl (by decide) rfl (Nat.le_of_ble_eq_true rfl) (Nat.le_of_ble_eq_true rfl) (Nat.le_of_ble_eq_true rfl) dX6_init_117 (fun q_117 H hf_117 hH hS => ?_)
  obtain ⟨M_117, eM_117⟩ : ∃ w_0 : zk_M, w_0 = zk_up M_110 q_117 (zk_aI g 4100 (fun _ => 0)) := ⟨_, rfl⟩
  have hH : zk_H g z M_117 H := by rw [eM_117]; exact hH
  have f_117_0 : M_117 q_13 = some (zk_aJ g 240 (fun _ => 0)) := by rw [eM_117, zk_up_n _ _ (zk_ne_none f_110_0 hf_117)]; exact f_110_0
  have f_117_1 : M_117 q_22 = some (zk_aJ g 240 (fun _ => 0)) := by rw [eM_117, zk_up_n _ _ (zk_ne_none f_110_1 hf_117)]; exact f_110_1
  have f_117_2 : M_117 q_30 = some (zk_aI g 12 (fun _ => 0)) := by rw [eM_117, zk_up_n _ _ (zk_ne_none f_110_2 hf_117)]; exact f_110_2
  have f_117_3 : M_117 q_38 = some (zk_aJ g 12 (fun _ => 0)) := by rw [eM_117, zk_up_n _ _ (zk_ne_none f_110_3 hf_117)]; exact f_110_3
  have f_117_4 : M_117 q_46 = some (zk_aJ g 12 (fun _ => 0)) := by rw [eM_117, zk_up_n _ _ (zk_ne_none f_110_4 hf_117)]; exact f_110_4
  have f_117_5 : M_117 q_54 = some (zk_aJ g 12 (fun _ => 0)) := by rw [eM_117, zk_up_n _ _ (zk_ne_none f_110_5 hf_117)]; exact f_110_5
  have f_117_6 : M_117 q_63 = some (zk_aI g 4100 (fun _ => 0)) := by rw [eM_117, zk_up_n _ _ (zk_ne_none f_110_6 hf_117)]; exact f_110_6
  have f_117_7 : M_117 q_72 = some (zk_aI g 4100 (fun _ => 0)) := by rw [eM_117, zk_up_n _ _ (zk_ne_none f_110_7 hf_117)]; exact f_110_7
  have f_117_8 : M_117 q_81 = some (zk_aJ g 4100 (fun _ => 0)) := by rw [eM_117, zk_up_n _ _ (zk_ne_none f_110_8 hf_117)]; exact f_110_8
  have f_117_9 : M_117 q_90 = some (zk_aJ g 4100 (fun _ => 0)) := by rw [eM_117, zk_up_n _ _ (zk_ne_none f_110_9 hf_117)]; exact f_110_9
  have f_117_10 : M_117 q_99 = some (zk_aJ g 4100 (fun _ => 0)) := by rw [eM_117, zk_up_n _ _ (zk_ne_none f_110_10 hf_117)]; exact f_110_10
  have f_117_11 : M_117 q_108 = some (zk_aI g 4100 (fun _ => 0)) := by rw [eM_117, zk_up_n _ _ (zk_ne_none f_110_11 hf_117)]; exact f_110_11
  have f_117_12 : M_117 o = some (.inr (6, [.int 1, .int 0, .long 0, .ref q_13, .ref q_22, .ref q_30, .ref q_38, .ref q_46, .ref q_54, .int 0, .ref q_63, .ref q_72, .ref q_81, .ref q_90, .ref q_99, .int 0, .ref q_108, .null, .null, .null])) := by rw [eM_117, zk_up_n _ _ (zk_ne_none e_110 hf_117)]; exact e_110
  have e_117 : M_117 q_117 = some (zk_aI g 4100 (fun _ => 0)) := by rw [eM_117]; exact zk_up_s _ _ _
  have hT_117 : zk_T M o [o, q_13, q_22, q_30, q_38, q_46, q_54, q_63, q_72, q_81, q_90, q_99, q_108, q_117] M_117 := by rw [eM_117]; exact zk_T_new hT_110 hf_117
  refine zk_putF (ci := 6) (v := .ref q_117) (C := RX6) (T := TX6) (N := 20) hx hb hts inw_wsX6_init_6 tyX6 tyX6_ok nmX6 hown hK hH hS f_117_12 rfl 17 (by decide) (hts (.fieldLink RX6 51 "KegDepositsModel" "loses" "[I") (by decide +kernel)) rfl hin2 rfl rfl rfl (Nat.le_of_ble_eq_true rfl) dX6_init_119 (fun H locs hH hS => ?_)
  obtain ⟨M_119, eM_119⟩ : ∃ w_0 : zk_M, w_0 = zk_up M_117 o (.inr (6, [.int 1, .int 0, .long 0, .ref q_13, .ref q_22, .ref q_30, .ref q_38, .ref q_46, .ref q_54, .int 0, .ref q_63, .ref q_72, .ref q_81, .ref q_90, .ref q_99, .int 0, .ref q_108, .ref q_117, .null, .null])) := ⟨_, rfl⟩
  have hH : zk_H g z M_119 H := by rw [eM_119]; exact hH
  have f_119_0 : M_119 q_13 = some (zk_aJ g 240 (fun _ => 0)) := by rw [eM_119, zk_up_n _ _ (zk_ne f_117_0 f_117_12 (by simp))]; exact f_117_0
  have f_119_1 : M_119 q_22 = some (zk_aJ g 240 (fun _ => 0)) := by rw [eM_119, zk_up_n _ _ (zk_ne f_117_1 f_117_12 (by simp))]; exact f_117_1
  have f_119_2 : M_119 q_30 = some (zk_aI g 12 (fun _ => 0)) := by rw [eM_119, zk_up_n _ _ (zk_ne f_117_2 f_117_12 (by simp))]; exact f_117_2
  have f_119_3 : M_119 q_38 = some (zk_aJ g 12 (fun _ => 0)) := by rw [eM_119, zk_up_n _ _ (zk_ne f_117_3 f_117_12 (by simp))]; exact f_117_3
  have f_119_4 : M_119 q_46 = some (zk_aJ g 12 (fun _ => 0)) := by rw [eM_119, zk_up_n _ _ (zk_ne f_117_4 f_117_12 (by simp))]; exact f_117_4
  have f_119_5 : M_119 q_54 = some (zk_aJ g 12 (fun _ => 0)) := by rw [eM_119, zk_up_n _ _ (zk_ne f_117_5 f_117_12 (by simp))]; exact f_117_5
  have f_119_6 : M_119 q_63 = some (zk_aI g 4100 (fun _ => 0)) := by rw [eM_119, zk_up_n _ _ (zk_ne f_117_6 f_117_12 (by simp))]; exact f_117_6
  have f_119_7 : M_119 q_72 = some (zk_aI g 4100 (fun _ => 0)) := by rw [eM_119, zk_up_n _ _ (zk_ne f_117_7 f_117_12 (by simp))]; exact f_117_7
  have f_119_8 : M_119 q_81 = some (zk_aJ g 4100 (fun _ => 0)) := by rw [eM_119, zk_up_n _ _ (zk_ne f_117_8 f_117_12 (by simp))]; exact f_117_8
  have f_119_9 : M_119 q_90 = some (zk_aJ g 4100 (fun _ => 0)) := by rw [eM_119, zk_up_n _ _ (zk_ne f_117_9 f_117_12 (by simp))]; exact f_117_9
  have f_119_10 : M_119 q_99 = some (zk_aJ g 4100 (fun _ => 0)) := by rw [eM_119, zk_up_n _ _ (zk_ne f_117_10 f_117_12 (by simp))]; exact f_117_10
  have f_119_11 : M_119 q_108 = some (zk_aI g 4100 (fun _ => 0)) := by rw [eM_119, zk_up_n _ _ (zk_ne f_117_11 f_117_12 (by simp))]; exact f_117_11
  have f_119_12 : M_119 q_117 = some (zk_aI g 4100 (fun _ => 0)) := by rw [eM_119, zk_up_n _ _ (zk_ne e_117 f_117_12 (by simp))]; exact e_117
  have e_119 : M_119 o = some (.inr (6, [.int 1, .int 0, .long 0, .ref q_13, .ref q_22, .ref q_30, .ref q_38, .ref q_46, .ref q_54, .int 0, .ref q_63, .ref q_72, .ref q_81, .ref q_90, .ref q_99, .int 0, .ref q_108, .ref q_117, .null, .null])) := by rw [eM_119]; exact zk_up_s _ _ _
  have hT_119 : zk_T M o [o, q_13, q_22, q_30, q_38, q_46, q_54, q_63, q_72, q_81, q_90, q_99, q_108, q_117] M_119 := by rw [eM_119]; exact zk_T_put hT_117 (by simp)
  refine lv_aload_n hx hb dX6_init_122 rfl (lv_at hl 0 rfl) ?_
  refine lv_sipush (v := 4100) hx hb dX6_init_123 (by decide) ?_
  refine zk_newa (atype := .long) (ty := .long) (cA := g.2.1) (a0 := (4100, .inr (.inl (fun _ => 0)))) hx hb (show (Cond.arrayClass (newarray.typeOf .long)).before _ s = true from hts (.arrayClass .long) (by decide +kernel)) rfl hK hH hS 0 rfl rfl (by decide) rfl (Nat.le_of_ble_eq_true rfl) (Nat.le_of_ble_eq_true rfl) (Nat.le_of_ble_eq_true rfl) dX6_init_126 (fun q_126 H hf_126 hH hS => ?_)
  obtain ⟨M_126, eM_126⟩ : ∃ w_0 : zk_M, w_0 = zk_up M_119 q_126 (zk_aJ g 4100 (fun _ => 0)) := ⟨_, rfl⟩
  have hH : zk_H g z M_126 H := by rw [eM_126]; exact hH
  have f_126_0 : M_126 q_13 = some (zk_aJ g 240 (fun _ => 0)) := by rw [eM_126, zk_up_n _ _ (zk_ne_none f_119_0 hf_126)]; exact f_119_0
  have f_126_1 : M_126 q_22 = some (zk_aJ g 240 (fun _ => 0)) := by rw [eM_126, zk_up_n _ _ (zk_ne_none f_119_1 hf_126)]; exact f_119_1
  have f_126_2 : M_126 q_30 = some (zk_aI g 12 (fun _ => 0)) := by rw [eM_126, zk_up_n _ _ (zk_ne_none f_119_2 hf_126)]; exact f_119_2
  have f_126_3 : M_126 q_38 = some (zk_aJ g 12 (fun _ => 0)) := by rw [eM_126, zk_up_n _ _ (zk_ne_none f_119_3 hf_126)]; exact f_119_3
  have f_126_4 : M_126 q_46 = some (zk_aJ g 12 (fun _ => 0)) := by rw [eM_126, zk_up_n _ _ (zk_ne_none f_119_4 hf_126)]; exact f_119_4
  have f_126_5 : M_126 q_54 = some (zk_aJ g 12 (fun _ => 0)) := by rw [eM_126, zk_up_n _ _ (zk_ne_none f_119_5 hf_126)]; exact f_119_5
  have f_126_6 : M_126 q_63 = some (zk_aI g 4100 (fun _ => 0)) := by rw [eM_126, zk_up_n _ _ (zk_ne_none f_119_6 hf_126)]; exact f_119_6
  have f_126_7 : M_126 q_72 = some (zk_aI g 4100 (fun _ => 0)) := by rw [eM_126, zk_up_n _ _ (zk_ne_none f_119_7 hf_126)]; exact f_119_7
  have f_126_8 : M_126 q_81 = some (zk_aJ g 4100 (fun _ => 0)) := by rw [eM_126, zk_up_n _ _ (zk_ne_none f_119_8 hf_126)]; exact f_119_8
  have f_126_9 : M_126 q_90 = some (zk_aJ g 4100 (fun _ => 0)) := by rw [eM_126, zk_up_n _ _ (zk_ne_none f_119_9 hf_126)]; exact f_119_9
  have f_126_10 : M_126 q_99 = some (zk_aJ g 4100 (fun _ => 0)) := by rw [eM_126, zk_up_n _ _ (zk_ne_none f_119_10 hf_126)]; exact f_119_10
  have f_126_11 : M_126 q_108 = some (zk_aI g 4100 (fun _ => 0)) := by rw [eM_126, zk_up_n _ _ (zk_ne_none f_119_11 hf_126)]; exact f_119_11
  have f_126_12 : M_126 q_117 = some (zk_aI g 4100 (fun _ => 0)) := by rw [eM_126, zk_up_n _ _ (zk_ne_none f_119_12 hf_126)]; exact f_119_12
  have f_126_13 : M_126 o = some (.inr (6, [.int 1, .int 0, .long 0, .ref q_13, .ref q_22, .ref q_30, .ref q_38, .ref q_46, .ref q_54, .int 0, .ref q_63, .ref q_72, .ref q_81, .ref q_90, .ref q_99, .int 0, .ref q_108, .ref q_117, .null, .null])) := by rw [eM_126, zk_up_n _ _ (zk_ne_none e_119 hf_126)]; exact e_119
  have e_126 : M_126 q_126 = some (zk_aJ g 4100 (fun _ => 0)) := by rw [eM_126]; exact zk_up_s _ _ _
  have hT_126 : zk_T M o [o, q_13, q_22, q_30, q_38, q_46, q_54, q_63, q_72, q_81, q_90, q_99, q_108, q_117, q_126] M_126 := by rw [eM_126]; exact zk_T_new hT_119 hf_126
  refine zk_putF (ci := 6) (v := .ref q_126) (C := RX6) (T := TX6) (N := 20) hx hb hts inw_wsX6_init_6 tyX6 tyX6_ok nmX6 hown hK hH hS f_126_13 rfl 18 (by decide) (hts (.fieldLink RX6 54 "KegDepositsModel" "amounts" "[J") (by decide +kernel)) rfl hin2 rfl rfl rfl (Nat.le_of_ble_eq_true rfl) dX6_init_128 (fun H locs hH hS => ?_)
  obtain ⟨M_128, eM_128⟩ : ∃ w_0 : zk_M, w_0 = zk_up M_126 o (.inr (6, [.int 1, .int 0, .long 0, .ref q_13, .ref q_22, .ref q_30, .ref q_38, .ref q_46, .ref q_54, .int 0, .ref q_63, .ref q_72, .ref q_81, .ref q_90, .ref q_99, .int 0, .ref q_108, .ref q_117, .ref q_126, .null])) := ⟨_, rfl⟩
  have hH : zk_H g z M_128 H := by rw [eM_128]; exact hH
  have f_128_0 : M_128 q_13 = some (zk_aJ g 240 (fun _ => 0)) := by rw [eM_128, zk_up_n _ _ (zk_ne f_126_0 f_126_13 (by simp))]; exact f_126_0
  have f_128_1 : M_128 q_22 = some (zk_aJ g 240 (fun _ => 0)) := by rw [eM_128, zk_up_n _ _ (zk_ne f_126_1 f_126_13 (by simp))]; exact f_126_1
  have f_128_2 : M_128 q_30 = some (zk_aI g 12 (fun _ => 0)) := by rw [eM_128, zk_up_n _ _ (zk_ne f_126_2 f_126_13 (by simp))]; exact f_126_2
  have f_128_3 : M_128 q_38 = some (zk_aJ g 12 (fun _ => 0)) := by rw [eM_128, zk_up_n _ _ (zk_ne f_126_3 f_126_13 (by simp))]; exact f_126_3
  have f_128_4 : M_128 q_46 = some (zk_aJ g 12 (fun _ => 0)) := by rw [eM_128, zk_up_n _ _ (zk_ne f_126_4 f_126_13 (by simp))]; exact f_126_4
  have f_128_5 : M_128 q_54 = some (zk_aJ g 12 (fun _ => 0)) := by rw [eM_128, zk_up_n _ _ (zk_ne f_126_5 f_126_13 (by simp))]; exact f_126_5
  have f_128_6 : M_128 q_63 = some (zk_aI g 4100 (fun _ => 0)) := by rw [eM_128, zk_up_n _ _ (zk_ne f_126_6 f_126_13 (by simp))]; exact f_126_6
  have f_128_7 : M_128 q_72 = some (zk_aI g 4100 (fun _ => 0)) := by rw [eM_128, zk_up_n _ _ (zk_ne f_126_7 f_126_13 (by simp))]; exact f_126_7
  have f_128_8 : M_128 q_81 = some (zk_aJ g 4100 (fun _ => 0)) := by rw [eM_128, zk_up_n _ _ (zk_ne f_126_8 f_126_13 (by simp))]; exact f_126_8
  have f_128_9 : M_128 q_90 = some (zk_aJ g 4100 (fun _ => 0)) := by rw [eM_128, zk_up_n _ _ (zk_ne f_126_9 f_126_13 (by simp))]; exact f_126_9
  have f_128_10 : M_128 q_99 = some (zk_aJ g 4100 (fun _ => 0)) := by rw [eM_128, zk_up_n _ _ (zk_ne f_126_10 f_126_13 (by simp))]; exact f_126_10
  have f_128_11 : M_128 q_108 = some (zk_aI g 4100 (fun _ => 0)) := by rw [eM_128, zk_up_n _ _ (zk_ne f_126_11 f_126_13 (by simp))]; exact f_126_11
  have f_128_12 : M_128 q_117 = some (zk_aI g 4100 (fun _ => 0)) := by rw [eM_128, zk_up_n _ _ (zk_ne f_126_12 f_126_13 (by simp))]; exact f_126_12
  have f_128_13 : M_128 q_126 = some (zk_aJ g 4100 (fun _ => 0)) := by rw [eM_128, zk_up_n _ _ (zk_ne e_126 f_126_13 (by simp))]; exact e_126
  have e_128 : M_128 o = some (.inr (6, [.int 1, .int 0, .long 0, .ref q_13, .ref q_22, .ref q_30, .ref q_38, .ref q_46, .ref q_54, .int 0, .ref q_63, .ref q_72, .ref q_81, .ref q_90, .ref q_99, .int 0, .ref q_108, .ref q_117, .ref q_126, .null])) := by rw [eM_128]; exact zk_up_s _ _ _
  have hT_128 : zk_T M o [o, q_13, q_22, q_30, q_38, q_46, q_54, q_63, q_72, q_81, q_90, q_99, q_108, q_117, q_126] M_128 := by rw [eM_128]; exact zk_T_put hT_126 (by simp)
  refine lv_aload_n hx hb dX6_init_131 rfl (lv_at hl 0 rfl) ?_
  refine lv_sipush (v := 4100) hx hb dX6_init_132 (by decide) ?_
  refine zk_newa (atype := .long) (ty := .long) (cA := g.2.1) (a0 := (4100, .inr (.inl (fun _ => 0)))) hx hb (show (Cond.arrayClass (newarray.typeOf .long)).before _ s = true from hts (.arrayClass .long) (by decide +kernel)) rfl hK hH hS 0 rfl rfl (by decide) rfl (Nat.le_of_ble_eq_true rfl) (Nat.le_of_ble_eq_true rfl) (Nat.le_of_ble_eq_true rfl) dX6_init_135 (fun q_135 H hf_135 hH hS => ?_)
  obtain ⟨M_135, eM_135⟩ : ∃ w_0 : zk_M, w_0 = zk_up M_128 q_135 (zk_aJ g 4100 (fun _ => 0)) := ⟨_, rfl⟩
  have hH : zk_H g z M_135 H := by rw [eM_135]; exact hH
  have f_135_0 : M_135 q_13 = some (zk_aJ g 240 (fun _ => 0)) := by rw [eM_135, zk_up_n _ _ (zk_ne_none f_128_0 hf_135)]; exact f_128_0
  have f_135_1 : M_135 q_22 = some (zk_aJ g 240 (fun _ => 0)) := by rw [eM_135, zk_up_n _ _ (zk_ne_none f_128_1 hf_135)]; exact f_128_1
  have f_135_2 : M_135 q_30 = some (zk_aI g 12 (fun _ => 0)) := by rw [eM_135, zk_up_n _ _ (zk_ne_none f_128_2 hf_135)]; exact f_128_2
  have f_135_3 : M_135 q_38 = some (zk_aJ g 12 (fun _ => 0)) := by rw [eM_135, zk_up_n _ _ (zk_ne_none f_128_3 hf_135)]; exact f_128_3
  have f_135_4 : M_135 q_46 = some (zk_aJ g 12 (fun _ => 0)) := by rw [eM_135, zk_up_n _ _ (zk_ne_none f_128_4 hf_135)]; exact f_128_4
  have f_135_5 : M_135 q_54 = some (zk_aJ g 12 (fun _ => 0)) := by rw [eM_135, zk_up_n _ _ (zk_ne_none f_128_5 hf_135)]; exact f_128_5
  have f_135_6 : M_135 q_63 = some (zk_aI g 4100 (fun _ => 0)) := by rw [eM_135, zk_up_n _ _ (zk_ne_none f_128_6 hf_135)]; exact f_128_6
  have f_135_7 : M_135 q_72 = some (zk_aI g 4100 (fun _ => 0)) := by rw [eM_135, zk_up_n _ _ (zk_ne_none f_128_7 hf_135)]; exact f_128_7
  have f_135_8 : M_135 q_81 = some (zk_aJ g 4100 (fun _ => 0)) := by rw [eM_135, zk_up_n _ _ (zk_ne_none f_128_8 hf_135)]; exact f_128_8
  have f_135_9 : M_135 q_90 = some (zk_aJ g 4100 (fun _ => 0)) := by rw [eM_135, zk_up_n _ _ (zk_ne_none f_128_9 hf_135)]; exact f_128_9
  have f_135_10 : M_135 q_99 = some (zk_aJ g 4100 (fun _ => 0)) := by rw [eM_135, zk_up_n _ _ (zk_ne_none f_128_10 hf_135)]; exact f_128_10
  have f_135_11 : M_135 q_108 = some (zk_aI g 4100 (fun _ => 0)) := by rw [eM_135, zk_up_n _ _ (zk_ne_none f_128_11 hf_135)]; exact f_128_11
  have f_135_12 : M_135 q_117 = some (zk_aI g 4100 (fun _ => 0)) := by rw [eM_135, zk_up_n _ _ (zk_ne_none f_128_12 hf_135)]; exact f_128_12
  have f_135_13 : M_135 q_126 = some (zk_aJ g 4100 (fun _ => 0)) := by rw [eM_135, zk_up_n _ _ (zk_ne_none f_128_13 hf_135)]; exact f_128_13
  have f_135_14 : M_135 o = some (.inr (6, [.int 1, .int 0, .long 0, .ref q_13, .ref q_22, .ref q_30, .ref q_38, .ref q_46, .ref q_54, .int 0, .ref q_63, .ref q_72, .ref q_81, .ref q_90, .ref q_99, .int 0, .ref q_108, .ref q_117, .ref q_126, .null])) := by rw [eM_135, zk_up_n _ _ (zk_ne_none e_128 hf_135)]; exact e_128
  have e_135 : M_135 q_135 = some (zk_aJ g 4100 (fun _ => 0)) := by rw [eM_135]; exact zk_up_s _ _ _
  have hT_135 : zk_T M o [o, q_13, q_22, q_30, q_38, q_46, q_54, q_63, q_72, q_81, q_90, q_99, q_108, q_117, q_126, q_135] M_135 := by rw [eM_135]; exact zk_T_new hT_128 hf_135
  refine zk_putF (ci := 6) (v := .ref q_135) (C := RX6) (T := TX6) (N := 20) hx hb hts inw_wsX6_init_6 tyX6 tyX6_ok nmX6 hown hK hH hS f_135_14 rfl 19 (by decide) (hts (.fieldLink RX6 57 "KegDepositsModel" "changeDays" "[J") (by decide +kernel)) rfl hin2 rfl rfl rfl (Nat.le_of_ble_eq_true rfl) dX6_init_137 (fun H locs hH hS => ?_)
  obtain ⟨M_137, eM_137⟩ : ∃ w_0 : zk_M, w_0 = zk_up M_135 o (.inr (6, [.int 1, .int 0, .long 0, .ref q_13, .ref q_22, .ref q_30, .ref q_38, .ref q_46, .ref q_54, .int 0, .ref q_63, .ref q_72, .ref q_81, .ref q_90, .ref q_99, .int 0, .ref q_108, .ref q_117, .ref q_126, .ref q_135])) := ⟨_, rfl⟩
  have hH : zk_H g z M_137 H := by rw [eM_137]; exact hH
  have f_137_0 : M_137 q_13 = some (zk_aJ g 240 (fun _ => 0)) := by rw [eM_137, zk_up_n _ _ (zk_ne f_135_0 f_135_14 (by simp))]; exact f_135_0
  have f_137_1 : M_137 q_22 = some (zk_aJ g 240 (fun _ => 0)) := by rw [eM_137, zk_up_n _ _ (zk_ne f_135_1 f_135_14 (by simp))]; exact f_135_1
  have f_137_2 : M_137 q_30 = some (zk_aI g 12 (fun _ => 0)) := by rw [eM_137, zk_up_n _ _ (zk_ne f_135_2 f_135_14 (by simp))]; exact f_135_2
  have f_137_3 : M_137 q_38 = some (zk_aJ g 12 (fun _ => 0)) := by rw [eM_137, zk_up_n _ _ (zk_ne f_135_3 f_135_14 (by simp))]; exact f_135_3
  have f_137_4 : M_137 q_46 = some (zk_aJ g 12 (fun _ => 0)) := by rw [eM_137, zk_up_n _ _ (zk_ne f_135_4 f_135_14 (by simp))]; exact f_135_4
  have f_137_5 : M_137 q_54 = some (zk_aJ g 12 (fun _ => 0)) := by rw [eM_137, zk_up_n _ _ (zk_ne f_135_5 f_135_14 (by simp))]; exact f_135_5
  have f_137_6 : M_137 q_63 = some (zk_aI g 4100 (fun _ => 0)) := by rw [eM_137, zk_up_n _ _ (zk_ne f_135_6 f_135_14 (by simp))]; exact f_135_6
  have f_137_7 : M_137 q_72 = some (zk_aI g 4100 (fun _ => 0)) := by rw [eM_137, zk_up_n _ _ (zk_ne f_135_7 f_135_14 (by simp))]; exact f_135_7
  have f_137_8 : M_137 q_81 = some (zk_aJ g 4100 (fun _ => 0)) := by rw [eM_137, zk_up_n _ _ (zk_ne f_135_8 f_135_14 (by simp))]; exact f_135_8
  have f_137_9 : M_137 q_90 = some (zk_aJ g 4100 (fun _ => 0)) := by rw [eM_137, zk_up_n _ _ (zk_ne f_135_9 f_135_14 (by simp))]; exact f_135_9
  have f_137_10 : M_137 q_99 = some (zk_aJ g 4100 (fun _ => 0)) := by rw [eM_137, zk_up_n _ _ (zk_ne f_135_10 f_135_14 (by simp))]; exact f_135_10
  have f_137_11 : M_137 q_108 = some (zk_aI g 4100 (fun _ => 0)) := by rw [eM_137, zk_up_n _ _ (zk_ne f_135_11 f_135_14 (by simp))]; exact f_135_11
  have f_137_12 : M_137 q_117 = some (zk_aI g 4100 (fun _ => 0)) := by rw [eM_137, zk_up_n _ _ (zk_ne f_135_12 f_135_14 (by simp))]; exact f_135_12
  have f_137_13 : M_137 q_126 = some (zk_aJ g 4100 (fun _ => 0)) := by rw [eM_137, zk_up_n _ _ (zk_ne f_135_13 f_135_14 (by simp))]; exact f_135_13
  have f_137_14 : M_137 q_135 = some (zk_aJ g 4100 (fun _ => 0)) := by rw [eM_137, zk_up_n _ _ (zk_ne e_135 f_135_14 (by simp))]; exact e_135
  have e_137 : M_137 o = some (.inr (6, [.int 1, .int 0, .long 0, .ref q_13, .ref q_22, .ref q_30, .ref q_38, .ref q_46, .ref q_54, .int 0, .ref q_63, .ref q_72, .ref q_81, .ref q_90, .ref q_99, .int 0, .ref q_108, .ref q_117, .ref q_126, .ref q_135])) := by rw [eM_137]; exact zk_up_s _ _ _
  have hT_137 : zk_T M o [o, q_13, q_22, q_30, q_38, q_46, q_54, q_63, q_72, q_81, q_90, q_99, q_108, q_117, q_126, q_135] M_137 := by rw [eM_137]; exact zk_T_put hT_135 (by simp)
  obtain ⟨t1, t2, t3, t4, t5⟩ := hT_137
  have hpost : zs_new6 g M o M_137 := by
    refine ⟨fun j => [o, q_13, q_22, q_30, q_38, q_46, q_54, q_63, q_72, q_81, q_90, q_99, q_108, q_117, q_126, q_135].getD j 0, rfl, fun i j hi hj e => zs_nodup_getD _ t1 i j hi hj e, fun j h0 hj => ?_, fun j hj => ?_, fun b hb => t5 b (fun hm => ?_)⟩
    · have hmem : [o, q_13, q_22, q_30, q_38, q_46, q_54, q_63, q_72, q_81, q_90, q_99, q_108, q_117, q_126, q_135].getD j 0 ∈ [o, q_13, q_22, q_30, q_38, q_46, q_54, q_63, q_72, q_81, q_90, q_99, q_108, q_117, q_126, q_135] := by
        rw [List.getD_eq_getElem?_getD, List.getElem?_eq_getElem hj]
        exact List.getElem_mem _
      rcases t4 _ hmem with e | e
      · exact absurd (zs_nodup_getD _ t1 j 0 hj (Nat.le_of_ble_eq_true rfl) e) (by omega)
      · exact e
    · match j, hj with
      | 0, _ => exact e_137
      | 1, _ => exact f_137_0
      | 2, _ => exact f_137_1
      | 3, _ => exact f_137_2
      | 4, _ => exact f_137_3
      | 5, _ => exact f_137_4
      | 6, _ => exact f_137_5
      | 7, _ => exact f_137_6
      | 8, _ => exact f_137_7
      | 9, _ => exact f_137_8
      | 10, _ => exact f_137_9
      | 11, _ => exact f_137_10
      | 12, _ => exact f_137_11
      | 13, _ => exact f_137_12
      | 14, _ => exact f_137_13
      | 15, _ => exact f_137_14
      | n + 16, hn => exact absurd hn (by omega)
    · simp only [List.mem_cons, List.not_mem_nil, or_false] at hm
      rcases hm with e | e | e | e | e | e | e | e | e | e | e | e | e | e | e | e
      · exact hb 0 (by decide) e
      · exact hb 1 (by decide) e
      · exact hb 2 (by decide) e
      · exact hb 3 (by decide) e
      · exact hb 4 (by decide) e
      · exact hb 5 (by decide) e
      · exact hb 6 (by decide) e
      · exact hb 7 (by decide) e
      · exact hb 8 (by decide) e
      · exact hb 9 (by decide) e
      · exact hb 10 (by decide) e
      · exact hb 11 (by decide) e
      · exact hb 12 (by decide) e
      · exact hb 13 (by decide) e
      · exact hb 14 (by decide) e
      · exact hb 15 (by decide) e
  exact zk_vret hx hb hr hlocks hH hS (by decide) (by decide) hpost dX6_init_140
