/-! THE CLAIM OUT OF ONE WALK OF THE LAW'S BODY. Your part is whole_start (and what it stands on); all else here is the same for every law, but numbers. -/
def R_law : String := "KegDepositsLaw"
def lw_P (b : Addr) (xs : List Int32) (args : Array Value) (s : State) : Prop := args = #[.ref b] ∧ s.IntsAt b xs ∧ xs.length ≤ 3584 ∧ (Jvm.Cond.and given_1 narrow_1).before args s = true
def lw_Q (_ : Array Value) (s : State) (o : Outcome) (t : State) : Prop := o = .returned (some (.int 1)) ∧ Framed s o t [] 600000 7302250
def lw_Z (below : List Frame) (a : Array Value) (s : State) : State → Prop := fun t => ∃ o, t.status = .running ∧ Ended t below o ∧ lw_Q a s o t
/-- the law's own end, with 1 on the stack, nothing written that was there before, its room as the claim has it -/
theorem lw_ret {p : Program} {l : Launch} {e : Env} {s : State} {m : MethodId} {below : List Frame} {meth : Method} {c : Code} {b : Nat} (hx : p.tables.exec = Jvm.exec) (hb : c.code = code) (hr : meth.sig.returnType = ret) (hlocks : meth.locks = false) {pc : Nat} {H : Heap} {ls : Array Slot} (hdg : decode code pc = .ok (.ireturn, 1)) : W p l e room_1 s m #[Value.ref b] below meth c H [] 600000 7302250 (lw_Z below #[Value.ref b] s) (F0 m pc ls [.int 1]) := by
  intro T hT X
  obtain ⟨fs, hret, hrun, hended, hW, hframe⟩ := X.leave (v := some (.int 1)) (hlocks := hlocks) (fun h => by rw [hr] at h; cases h)
  have hmeth' : T.vm.method? m = some meth := X.method'
  refine ⟨T.setFrames fs, ?_, .returned (some (.int 1)), hrun, hended, rfl, ⟨_, rfl⟩, hW, hframe⟩
  jvm_step X.here [X.here.top, hx, hb, hdg, hmeth', hr, ret, narrow_b1]
  (try refine ⟨rfl, ?_⟩); (try refine ⟨rfl, ?_⟩)
  first | (intro acts; rw [hret _ acts rfl rfl rfl]) | rw [hret _ _ rfl rfl rfl]
  exact Steps.refl _
/-- what holds at the law's entry: the machine, the code, the tables' words (any of lw_tbl by 'hts w (by decide +kernel)'), the script of L ints xs at the cell b, what the Statement gives of the start (any of its parts by flat_of_before) -/
def lw_At (p : Program) (s : State) (m : MethodId) (meth : Method) (c : Code) (b L : Nat) (xs : Nat → Int32) : Prop :=
  p.tables.exec = Jvm.exec ∧ c.code = code ∧ meth.sig.returnType = ret ∧ c.maxLocals = 4 ∧ s.vm.findClass R_law = some m.cls ∧ (∀ w ∈ lw_tbl, w.before #[Value.ref b] s = true) ∧ va_X b L xs s s.heap ∧ b < s.heap.size ∧ meth.locks = false ∧ (Jvm.Cond.and given_1 narrow_1).before #[Value.ref b] s = true
def lw_J (a b : Int32) : Int64 := (Int32.toInt64 a <<< (Int32.toInt64 32 &&& 63)) ||| (Int32.toInt64 b &&& 4294967295)
/-- behind t calls: both objects hold states that agree -/
def lw_I (g : zk_G) (z t o5 o6 : Nat) (H0 H : Heap) (locs : List Loc) : Prop := ∃ (X : zs_X) (Z : zs_Z) (M : zk_M), zs_R g X Z M ∧ zs_I X.1 t ∧ zs_I X.2.1 t ∧ zs_E X.1 X.2.1 ∧ Z (0, 0, 0) = o5 ∧ Z (8, 0, 0) = o6 ∧ zk_H g z M H ∧ va_S (fun q => z ≤ q) H0 H locs
set_option maxHeartbeats 4000000 in
set_option maxRecDepth 100000 in
theorem lw_case_0 {p : Program} {e : Env} {s : State} {m : MethodId} {below : List Frame} {meth : Method} {c : Code} (l : Launch) {b L : Nat} {xs : Nat → Int32} (hL : L ≤ 3584) (C0 : lw_At p s m meth c b L xs) {g : zk_G} (hK : va_K g.1 vwCl (zk_ty g) s) (hN : zk_N s) {t i : Nat} (hi : i + 7 ≤ L) (ht : i = 7 * t) {o5 o6 : Nat} (K : ∀ (H : Heap) (locs : List Loc) (ls : Array Slot), lw_I g s.heap.size (t + 1) o5 o6 s.heap H locs → lv_has ls 4 [(0, .ref b), (1, .ref o5), (2, .ref o6), (3, .int (nI i))] → W p l e room_1 s m #[Value.ref b] below meth c H locs (20 + 2 * (t + 1)) (37492 + 10 * (t + 1)) (lw_Z below #[Value.ref b] s) (F0 m 928 ls [])) : ∀ (H : Heap) (locs : List Loc) (ls : Array Slot), lw_I g s.heap.size t o5 o6 s.heap H locs → lv_has ls 4 [(0, .ref b), (1, .ref o5), (2, .ref o6), (3, .int (nI i))] → W p l e room_1 s m #[Value.ref b] below meth c H locs (20 + 2 * t) (37492 + 10 * t) (lw_Z below #[Value.ref b] s) (F0 m 100 ls []) := by
  obtain ⟨hx, hb, hr, hml, hown, hts0, hX, hbl, hlocks, hgv⟩ := C0
  have hown : s.vm.findClass RL = some m.cls := hown
  have hts : ∀ w ∈ wsL_law, w.before #[Value.ref b] s = true := fun w hw => hts0 w (wsL_law_in w hw)
  have hbA : ¬ (fun q : Nat => s.heap.size ≤ q) b := Nat.not_le.mpr hbl
  intro H locs ls hJ hl
  obtain ⟨X, Z, M, hR, hI, hI2, hE, e5, e6, hH, hS⟩ := hJ
  subst e5
  subst e6
  have hI1 := zs_I_mono hI
  have hI3 := zs_I_mono hI2
  have hc5 : zs_nc X.1 < 512 := by have := hI.1.2.2.2.2.1; omega
  have hc6 : zs_nc X.2.1 < t + 1 := Nat.lt_succ_of_le hI2.1.2.2.2.2.1
  have hl5 : zs_nl X.1 < t + 1 := Nat.lt_succ_of_le hI.1.2.2.2.1
  have hl6 : zs_nl X.2.1 < t + 1 := Nat.lt_succ_of_le hI2.1.2.2.2.1
  have ht1 : t + 1 ≤ 512 := by omega
  refine lv_aload_n hx hb dL_law_100 rfl (lv_at hl 1 rfl) ?_
  refine zk_calli (va_runV (As := []) (rest := []) ⟨hx, hb, hml, hown, hts⟩ (zc_X5_party l hR hI1 ) (cwV 0 hts gL_law_X5_party rfl rfl rfl (by decide +kernel) ⟨Nat.le_of_ble_eq_true rfl, Nat.le_of_ble_eq_true rfl⟩) (zk_preV hH hK hN (hR.1 (0, 0, 0) ⟨rfl, rfl⟩) rfl) rfl rfl hl.1 rfl (lv_room (Nat.le_of_ble_eq_true rfl)) dL_law_101 ⟨(Nat.le_trans (show 20 + 2 * t + 1 ≤ 600000 by omega) (Nat.le_of_ble_eq_true rfl)), (Nat.le_trans (show 37492 + 10 * t + 2 ≤ 7302250 by omega) (Nat.le_of_ble_eq_true rfl))⟩) hS (fun r_101 u_101 H locs hH hr_101 hS => ?_)
  obtain ⟨hr_1, Z1, hR1, hZ1⟩ := hr_101
  have z5 : Z1 (0, 0, 0) = Z (0, 0, 0) := hZ1 (0, 0, 0) ⟨rfl, rfl⟩
  have z6 : Z1 (8, 0, 0) = Z (8, 0, 0) := hZ1 (8, 0, 0) ⟨by decide, rfl⟩
  rw [← z5, ← z6] at hl
  have hl : lv_has ls 4 [(0, .ref b), (1, .ref (Z1 (0, 0, 0))), (2, .ref (Z1 (8, 0, 0))), (3, .int (nI i))] := hl
  refine lv_aload_n hx hb dL_law_104 rfl (lv_at hl 2 rfl) ?_
  refine zk_calli (va_runV (As := []) (rest := [.int r_101]) ⟨hx, hb, hml, hown, hts⟩ (zc_X6_party l (X := ((zs_fparty X.1 ).2, X.2)) hR1 hI3 ht1 ) (cwV 0 hts gL_law_X6_party rfl rfl rfl (by decide +kernel) ⟨Nat.le_of_ble_eq_true rfl, Nat.le_of_ble_eq_true rfl⟩) (zk_preV hH hK hN (hR1.1 (8, 0, 0) ⟨by decide, rfl⟩) rfl) rfl rfl hl.1 rfl (lv_room (Nat.le_of_ble_eq_true rfl)) dL_law_105 ⟨(Nat.le_trans (show 20 + 2 * t + 1 ≤ 600000 by omega) (Nat.le_of_ble_eq_true rfl)), (Nat.le_trans (show 37492 + 10 * t + 2 ≤ 7302250 by omega) (Nat.le_of_ble_eq_true rfl))⟩) hS (fun r_105 u_105 H locs hH hr_105 hS => ?_)
  obtain ⟨hr_2, ps, hR2⟩ : r_105 = (zs_fparty X.2.1 ).1 ∧ ∃ ps, zs_R g ((zs_fparty X.1 ).2, (zs_fparty X.2.1 ).2, ps) Z1 u_105 := hr_105
  have hE2 := zs_E_party hE 
  refine lv_icmp_eq (tgt := 928) hx hb dL_law_108 (by decide) (fun h_108 => ?_) (fun h_108 => ?_)
  · skip
    rw [z5, z6] at hl
    refine W.widen (k := 20 + 2 * (t + 1)) (n := 37492 + 10 * (t + 1)) (by omega) (by omega) ?_
    exact K _ _ ls ⟨((zs_fparty X.1 ).2, (zs_fparty X.2.1 ).2, ps), Z1, u_105, hR2, zs_I_fparty hI , zs_I_fparty hI2 , hE2.2, z5, z6, hH, hS⟩ (lv_sub hl [0, 1, 2, 3] rfl)
  · skip
    exact absurd (hr_1.trans (hE2.1.symm.trans hr_2.symm)) h_108

set_option maxHeartbeats 4000000 in
set_option maxRecDepth 100000 in
theorem lw_case_1 {p : Program} {e : Env} {s : State} {m : MethodId} {below : List Frame} {meth : Method} {c : Code} (l : Launch) {b L : Nat} {xs : Nat → Int32} (hL : L ≤ 3584) (C0 : lw_At p s m meth c b L xs) {g : zk_G} (hK : va_K g.1 vwCl (zk_ty g) s) (hN : zk_N s) {t i : Nat} (hi : i + 7 ≤ L) (ht : i = 7 * t) {o5 o6 : Nat} (K : ∀ (H : Heap) (locs : List Loc) (ls : Array Slot), lw_I g s.heap.size (t + 1) o5 o6 s.heap H locs → lv_has ls 4 [(0, .ref b), (1, .ref o5), (2, .ref o6), (3, .int (nI i))] → W p l e room_1 s m #[Value.ref b] below meth c H locs (20 + 2 * (t + 1)) (37492 + 10 * (t + 1)) (lw_Z below #[Value.ref b] s) (F0 m 928 ls [])) : ∀ (H : Heap) (locs : List Loc) (ls : Array Slot), lw_I g s.heap.size t o5 o6 s.heap H locs → lv_has ls 4 [(0, .ref b), (1, .ref o5), (2, .ref o6), (3, .int (nI i))] → W p l e room_1 s m #[Value.ref b] below meth c H locs (20 + 2 * t) (37492 + 10 * t) (lw_Z below #[Value.ref b] s) (F0 m 113 ls []) := by
  obtain ⟨hx, hb, hr, hml, hown, hts0, hX, hbl, hlocks, hgv⟩ := C0
  have hown : s.vm.findClass RL = some m.cls := hown
  have hts : ∀ w ∈ wsL_law, w.before #[Value.ref b] s = true := fun w hw => hts0 w (wsL_law_in w hw)
  have hbA : ¬ (fun q : Nat => s.heap.size ≤ q) b := Nat.not_le.mpr hbl
  intro H locs ls hJ hl
  obtain ⟨X, Z, M, hR, hI, hI2, hE, e5, e6, hH, hS⟩ := hJ
  subst e5
  subst e6
  have hI1 := zs_I_mono hI
  have hI3 := zs_I_mono hI2
  have hc5 : zs_nc X.1 < 512 := by have := hI.1.2.2.2.2.1; omega
  have hc6 : zs_nc X.2.1 < t + 1 := Nat.lt_succ_of_le hI2.1.2.2.2.2.1
  have hl5 : zs_nl X.1 < t + 1 := Nat.lt_succ_of_le hI.1.2.2.2.1
  have hl6 : zs_nl X.2.1 < t + 1 := Nat.lt_succ_of_le hI2.1.2.2.2.1
  have ht1 : t + 1 ≤ 512 := by omega
  refine lv_aload_n hx hb dL_law_113 rfl (lv_at hl 1 rfl) ?_
  refine zk_calli (va_runV (As := []) (rest := []) ⟨hx, hb, hml, hown, hts⟩ (zc_X5_kind l hR hI1 ) (cwV 0 hts gL_law_X5_kind rfl rfl rfl (by decide +kernel) ⟨Nat.le_of_ble_eq_true rfl, Nat.le_of_ble_eq_true rfl⟩) (zk_preV hH hK hN (hR.1 (0, 0, 0) ⟨rfl, rfl⟩) rfl) rfl rfl hl.1 rfl (lv_room (Nat.le_of_ble_eq_true rfl)) dL_law_114 ⟨(Nat.le_trans (show 20 + 2 * t + 1 ≤ 600000 by omega) (Nat.le_of_ble_eq_true rfl)), (Nat.le_trans (show 37492 + 10 * t + 3 ≤ 7302250 by omega) (Nat.le_of_ble_eq_true rfl))⟩) hS (fun r_114 u_114 H locs hH hr_114 hS => ?_)
  obtain ⟨hr_1, Z1, hR1, hZ1⟩ := hr_114
  have z5 : Z1 (0, 0, 0) = Z (0, 0, 0) := hZ1 (0, 0, 0) ⟨rfl, rfl⟩
  have z6 : Z1 (8, 0, 0) = Z (8, 0, 0) := hZ1 (8, 0, 0) ⟨by decide, rfl⟩
  rw [← z5, ← z6] at hl
  have hl : lv_has ls 4 [(0, .ref b), (1, .ref (Z1 (0, 0, 0))), (2, .ref (Z1 (8, 0, 0))), (3, .int (nI i))] := hl
  refine lv_aload_n hx hb dL_law_117 rfl (lv_at hl 2 rfl) ?_
  refine zk_calli (va_runV (As := []) (rest := [.int r_114]) ⟨hx, hb, hml, hown, hts⟩ (zc_X6_kind l (X := ((zs_fkind X.1 ).2, X.2)) hR1 hI3 ht1 ) (cwV 0 hts gL_law_X6_kind rfl rfl rfl (by decide +kernel) ⟨Nat.le_of_ble_eq_true rfl, Nat.le_of_ble_eq_true rfl⟩) (zk_preV hH hK hN (hR1.1 (8, 0, 0) ⟨by decide, rfl⟩) rfl) rfl rfl hl.1 rfl (lv_room (Nat.le_of_ble_eq_true rfl)) dL_law_118 ⟨(Nat.le_trans (show 20 + 2 * t + 1 ≤ 600000 by omega) (Nat.le_of_ble_eq_true rfl)), (Nat.le_trans (show 37492 + 10 * t + 3 ≤ 7302250 by omega) (Nat.le_of_ble_eq_true rfl))⟩) hS (fun r_118 u_118 H locs hH hr_118 hS => ?_)
  obtain ⟨hr_2, ps, hR2⟩ : r_118 = (zs_fkind X.2.1 ).1 ∧ ∃ ps, zs_R g ((zs_fkind X.1 ).2, (zs_fkind X.2.1 ).2, ps) Z1 u_118 := hr_118
  have hE2 := zs_E_kind hE 
  refine lv_icmp_eq (tgt := 928) hx hb dL_law_121 (by decide) (fun h_121 => ?_) (fun h_121 => ?_)
  · skip
    rw [z5, z6] at hl
    refine W.widen (k := 20 + 2 * (t + 1)) (n := 37492 + 10 * (t + 1)) (by omega) (by omega) ?_
    exact K _ _ ls ⟨((zs_fkind X.1 ).2, (zs_fkind X.2.1 ).2, ps), Z1, u_118, hR2, zs_I_fkind hI , zs_I_fkind hI2 , hE2.2, z5, z6, hH, hS⟩ (lv_sub hl [0, 1, 2, 3] rfl)
  · skip
    exact absurd (hr_1.trans (hE2.1.symm.trans hr_2.symm)) h_121

set_option maxHeartbeats 4000000 in
set_option maxRecDepth 100000 in
theorem lw_case_2 {p : Program} {e : Env} {s : State} {m : MethodId} {below : List Frame} {meth : Method} {c : Code} (l : Launch) {b L : Nat} {xs : Nat → Int32} (hL : L ≤ 3584) (C0 : lw_At p s m meth c b L xs) {g : zk_G} (hK : va_K g.1 vwCl (zk_ty g) s) (hN : zk_N s) {t i : Nat} (hi : i + 7 ≤ L) (ht : i = 7 * t) {o5 o6 : Nat} (K : ∀ (H : Heap) (locs : List Loc) (ls : Array Slot), lw_I g s.heap.size (t + 1) o5 o6 s.heap H locs → lv_has ls 4 [(0, .ref b), (1, .ref o5), (2, .ref o6), (3, .int (nI i))] → W p l e room_1 s m #[Value.ref b] below meth c H locs (20 + 2 * (t + 1)) (37492 + 10 * (t + 1)) (lw_Z below #[Value.ref b] s) (F0 m 928 ls [])) : ∀ (H : Heap) (locs : List Loc) (ls : Array Slot), lw_I g s.heap.size t o5 o6 s.heap H locs → lv_has ls 4 [(0, .ref b), (1, .ref o5), (2, .ref o6), (3, .int (nI i))] → W p l e room_1 s m #[Value.ref b] below meth c H locs (20 + 2 * t) (37492 + 10 * t) (lw_Z below #[Value.ref b] s) (F0 m 126 ls []) := by
  obtain ⟨hx, hb, hr, hml, hown, hts0, hX, hbl, hlocks, hgv⟩ := C0
  have hown : s.vm.findClass RL = some m.cls := hown
  have hts : ∀ w ∈ wsL_law, w.before #[Value.ref b] s = true := fun w hw => hts0 w (wsL_law_in w hw)
  have hbA : ¬ (fun q : Nat => s.heap.size ≤ q) b := Nat.not_le.mpr hbl
  intro H locs ls hJ hl
  obtain ⟨X, Z, M, hR, hI, hI2, hE, e5, e6, hH, hS⟩ := hJ
  subst e5
  subst e6
  have hI1 := zs_I_mono hI
  have hI3 := zs_I_mono hI2
  have hc5 : zs_nc X.1 < 512 := by have := hI.1.2.2.2.2.1; omega
  have hc6 : zs_nc X.2.1 < t + 1 := Nat.lt_succ_of_le hI2.1.2.2.2.2.1
  have hl5 : zs_nl X.1 < t + 1 := Nat.lt_succ_of_le hI.1.2.2.2.1
  have hl6 : zs_nl X.2.1 < t + 1 := Nat.lt_succ_of_le hI2.1.2.2.2.1
  have ht1 : t + 1 ≤ 512 := by omega
  refine lv_aload_n hx hb dL_law_126 rfl (lv_at hl 1 rfl) ?_
  refine lv_aload_n hx hb dL_law_127 rfl (lv_at hl 0 rfl) ?_
  refine lv_iload_n hx hb dL_law_128 rfl (lv_at hl 3 rfl) ?_
  refine lv_iconst (v := 1) hx hb dL_law_129 (by decide) ?_
  refine lv_iadd hx hb dL_law_130 ?_
  refine zk_top (v' := .int (nI (i + 1))) (congrArg Value.int (show nI i + 1 = nI (i + 1) from nI_add i 1)) ?_
  refine va_sld hx hb hX hbl hbA hS (vp_in_nI (show (i + 1) < L by omega) (by omega)) dL_law_131 ?_
  refine zk_top (v' := .int (xs (i + 1))) (by rw [nI_clamp (by omega)]) ?_
  refine lv_aload_n hx hb dL_law_132 rfl (lv_at hl 0 rfl) ?_
  refine lv_iload_n hx hb dL_law_133 rfl (lv_at hl 3 rfl) ?_
  refine lv_iconst (v := 2) hx hb dL_law_134 (by decide) ?_
  refine lv_iadd hx hb dL_law_135 ?_
  refine zk_top (v' := .int (nI (i + 2))) (congrArg Value.int (show nI i + 2 = nI (i + 2) from nI_add i 2)) ?_
  refine va_sld hx hb hX hbl hbA hS (vp_in_nI (show (i + 2) < L by omega) (by omega)) dL_law_136 ?_
  refine zk_top (v' := .int (xs (i + 2))) (by rw [nI_clamp (by omega)]) ?_
  refine lv_i2l (v := (Int32.toInt64 (xs (i + 2)))) hx hb dL_law_137 rfl ?_
  refine lv_bipush (v := 32) hx hb dL_law_138 (by decide) ?_
  refine lv_lshl (v := ((Int32.toInt64 (xs (i + 2))) <<< (Int32.toInt64 32 &&& 63))) hx hb dL_law_140 rfl ?_
  refine lv_aload_n hx hb dL_law_141 rfl (lv_at hl 0 rfl) ?_
  refine lv_iload_n hx hb dL_law_142 rfl (lv_at hl 3 rfl) ?_
  refine lv_iconst (v := 3) hx hb dL_law_143 (by decide) ?_
  refine lv_iadd hx hb dL_law_144 ?_
  refine zk_top (v' := .int (nI (i + 3))) (congrArg Value.int (show nI i + 3 = nI (i + 3) from nI_add i 3)) ?_
  refine va_sld hx hb hX hbl hbA hS (vp_in_nI (show (i + 3) < L by omega) (by omega)) dL_law_145 ?_
  refine zk_top (v' := .int (xs (i + 3))) (by rw [nI_clamp (by omega)]) ?_
  refine lv_i2l (v := (Int32.toInt64 (xs (i + 3)))) hx hb dL_law_146 rfl ?_
  refine lv_ldc2 (v := 4294967295) hx hb hown (hts (.constantLong RL 22 (4294967295)) (by decide +kernel)) dL_law_147 ?_
  refine lv_land hx hb dL_law_150 ?_
  refine lv_lor hx hb dL_law_151 ?_
  refine zk_top (v' := .long (lw_J (xs (i + 2)) (xs (i + 3)))) rfl ?_
  refine lv_aload_n hx hb dL_law_152 rfl (lv_at hl 0 rfl) ?_
  refine lv_iload_n hx hb dL_law_153 rfl (lv_at hl 3 rfl) ?_
  refine lv_iconst (v := 4) hx hb dL_law_154 (by decide) ?_
  refine lv_iadd hx hb dL_law_155 ?_
  refine zk_top (v' := .int (nI (i + 4))) (congrArg Value.int (show nI i + 4 = nI (i + 4) from nI_add i 4)) ?_
  refine va_sld hx hb hX hbl hbA hS (vp_in_nI (show (i + 4) < L by omega) (by omega)) dL_law_156 ?_
  refine zk_top (v' := .int (xs (i + 4))) (by rw [nI_clamp (by omega)]) ?_
  refine lv_i2l (v := (Int32.toInt64 (xs (i + 4)))) hx hb dL_law_157 rfl ?_
  refine lv_bipush (v := 32) hx hb dL_law_158 (by decide) ?_
  refine lv_lshl (v := ((Int32.toInt64 (xs (i + 4))) <<< (Int32.toInt64 32 &&& 63))) hx hb dL_law_160 rfl ?_
  refine lv_aload_n hx hb dL_law_161 rfl (lv_at hl 0 rfl) ?_
  refine lv_iload_n hx hb dL_law_162 rfl (lv_at hl 3 rfl) ?_
  refine lv_iconst (v := 5) hx hb dL_law_163 (by decide) ?_
  refine lv_iadd hx hb dL_law_164 ?_
  refine zk_top (v' := .int (nI (i + 5))) (congrArg Value.int (show nI i + 5 = nI (i + 5) from nI_add i 5)) ?_
  refine va_sld hx hb hX hbl hbA hS (vp_in_nI (show (i + 5) < L by omega) (by omega)) dL_law_165 ?_
  refine zk_top (v' := .int (xs (i + 5))) (by rw [nI_clamp (by omega)]) ?_
  refine lv_i2l (v := (Int32.toInt64 (xs (i + 5)))) hx hb dL_law_166 rfl ?_
  refine lv_ldc2 (v := 4294967295) hx hb hown (hts (.constantLong RL 22 (4294967295)) (by decide +kernel)) dL_law_167 ?_
  refine lv_land hx hb dL_law_170 ?_
  refine lv_lor hx hb dL_law_171 ?_
  refine zk_top (v' := .long (lw_J (xs (i + 4)) (xs (i + 5)))) rfl ?_
  refine zk_calli (va_runV (As := [.int (xs (i + 1)), .long (lw_J (xs (i + 2)) (xs (i + 3))), .long (lw_J (xs (i + 4)) (xs (i + 5)))]) (rest := []) ⟨hx, hb, hml, hown, hts⟩ (zc_X5_price l hR hI1 (xs (i + 1)) (lw_J (xs (i + 2)) (xs (i + 3))) (lw_J (xs (i + 4)) (xs (i + 5)))) (cwV 3 hts gL_law_X5_price rfl rfl rfl (by decide +kernel) ⟨Nat.le_of_ble_eq_true rfl, Nat.le_of_ble_eq_true rfl⟩) (zk_preV hH hK hN (hR.1 (0, 0, 0) ⟨rfl, rfl⟩) rfl) rfl rfl hl.1 rfl (lv_room (Nat.le_of_ble_eq_true rfl)) dL_law_172 ⟨(Nat.le_trans (show 20 + 2 * t + 1 ≤ 600000 by omega) (Nat.le_of_ble_eq_true rfl)), (Nat.le_trans (show 37492 + 10 * t + 3 ≤ 7302250 by omega) (Nat.le_of_ble_eq_true rfl))⟩) hS (fun r_172 u_172 H locs hH hr_172 hS => ?_)
  obtain ⟨hr_1, Z1, hR1, hZ1⟩ := hr_172
  have z5 : Z1 (0, 0, 0) = Z (0, 0, 0) := hZ1 (0, 0, 0) ⟨rfl, rfl⟩
  have z6 : Z1 (8, 0, 0) = Z (8, 0, 0) := hZ1 (8, 0, 0) ⟨by decide, rfl⟩
  rw [← z5, ← z6] at hl
  have hl : lv_has ls 4 [(0, .ref b), (1, .ref (Z1 (0, 0, 0))), (2, .ref (Z1 (8, 0, 0))), (3, .int (nI i))] := hl
  refine lv_aload_n hx hb dL_law_175 rfl (lv_at hl 2 rfl) ?_
  refine lv_aload_n hx hb dL_law_176 rfl (lv_at hl 0 rfl) ?_
  refine lv_iload_n hx hb dL_law_177 rfl (lv_at hl 3 rfl) ?_
  refine lv_iconst (v := 1) hx hb dL_law_178 (by decide) ?_
  refine lv_iadd hx hb dL_law_179 ?_
  refine zk_top (v' := .int (nI (i + 1))) (congrArg Value.int (show nI i + 1 = nI (i + 1) from nI_add i 1)) ?_
  refine va_sld hx hb hX hbl hbA hS (vp_in_nI (show (i + 1) < L by omega) (by omega)) dL_law_180 ?_
  refine zk_top (v' := .int (xs (i + 1))) (by rw [nI_clamp (by omega)]) ?_
  refine lv_aload_n hx hb dL_law_181 rfl (lv_at hl 0 rfl) ?_
  refine lv_iload_n hx hb dL_law_182 rfl (lv_at hl 3 rfl) ?_
  refine lv_iconst (v := 2) hx hb dL_law_183 (by decide) ?_
  refine lv_iadd hx hb dL_law_184 ?_
  refine zk_top (v' := .int (nI (i + 2))) (congrArg Value.int (show nI i + 2 = nI (i + 2) from nI_add i 2)) ?_
  refine va_sld hx hb hX hbl hbA hS (vp_in_nI (show (i + 2) < L by omega) (by omega)) dL_law_185 ?_
  refine zk_top (v' := .int (xs (i + 2))) (by rw [nI_clamp (by omega)]) ?_
  refine lv_i2l (v := (Int32.toInt64 (xs (i + 2)))) hx hb dL_law_186 rfl ?_
  refine lv_bipush (v := 32) hx hb dL_law_187 (by decide) ?_
  refine lv_lshl (v := ((Int32.toInt64 (xs (i + 2))) <<< (Int32.toInt64 32 &&& 63))) hx hb dL_law_189 rfl ?_
  refine lv_aload_n hx hb dL_law_190 rfl (lv_at hl 0 rfl) ?_
  refine lv_iload_n hx hb dL_law_191 rfl (lv_at hl 3 rfl) ?_
  refine lv_iconst (v := 3) hx hb dL_law_192 (by decide) ?_
  refine lv_iadd hx hb dL_law_193 ?_
  refine zk_top (v' := .int (nI (i + 3))) (congrArg Value.int (show nI i + 3 = nI (i + 3) from nI_add i 3)) ?_
  refine va_sld hx hb hX hbl hbA hS (vp_in_nI (show (i + 3) < L by omega) (by omega)) dL_law_194 ?_
  refine zk_top (v' := .int (xs (i + 3))) (by rw [nI_clamp (by omega)]) ?_
  refine lv_i2l (v := (Int32.toInt64 (xs (i + 3)))) hx hb dL_law_195 rfl ?_
  refine lv_ldc2 (v := 4294967295) hx hb hown (hts (.constantLong RL 22 (4294967295)) (by decide +kernel)) dL_law_196 ?_
  refine lv_land hx hb dL_law_199 ?_
  refine lv_lor hx hb dL_law_200 ?_
  refine zk_top (v' := .long (lw_J (xs (i + 2)) (xs (i + 3)))) rfl ?_
  refine lv_aload_n hx hb dL_law_201 rfl (lv_at hl 0 rfl) ?_
  refine lv_iload_n hx hb dL_law_202 rfl (lv_at hl 3 rfl) ?_
  refine lv_iconst (v := 4) hx hb dL_law_203 (by decide) ?_
  refine lv_iadd hx hb dL_law_204 ?_
  refine zk_top (v' := .int (nI (i + 4))) (congrArg Value.int (show nI i + 4 = nI (i + 4) from nI_add i 4)) ?_
  refine va_sld hx hb hX hbl hbA hS (vp_in_nI (show (i + 4) < L by omega) (by omega)) dL_law_205 ?_
  refine zk_top (v' := .int (xs (i + 4))) (by rw [nI_clamp (by omega)]) ?_
  refine lv_i2l (v := (Int32.toInt64 (xs (i + 4)))) hx hb dL_law_206 rfl ?_
  refine lv_bipush (v := 32) hx hb dL_law_207 (by decide) ?_
  refine lv_lshl (v := ((Int32.toInt64 (xs (i + 4))) <<< (Int32.toInt64 32 &&& 63))) hx hb dL_law_209 rfl ?_
  refine lv_aload_n hx hb dL_law_210 rfl (lv_at hl 0 rfl) ?_
  refine lv_iload_n hx hb dL_law_211 rfl (lv_at hl 3 rfl) ?_
  refine lv_iconst (v := 5) hx hb dL_law_212 (by decide) ?_
  refine lv_iadd hx hb dL_law_213 ?_
  refine zk_top (v' := .int (nI (i + 5))) (congrArg Value.int (show nI i + 5 = nI (i + 5) from nI_add i 5)) ?_
  refine va_sld hx hb hX hbl hbA hS (vp_in_nI (show (i + 5) < L by omega) (by omega)) dL_law_214 ?_
  refine zk_top (v' := .int (xs (i + 5))) (by rw [nI_clamp (by omega)]) ?_
  refine lv_i2l (v := (Int32.toInt64 (xs (i + 5)))) hx hb dL_law_215 rfl ?_
  refine lv_ldc2 (v := 4294967295) hx hb hown (hts (.constantLong RL 22 (4294967295)) (by decide +kernel)) dL_law_216 ?_
  refine lv_land hx hb dL_law_219 ?_
  refine lv_lor hx hb dL_law_220 ?_
  refine zk_top (v' := .long (lw_J (xs (i + 4)) (xs (i + 5)))) rfl ?_
  refine zk_calli (va_runV (As := [.int (xs (i + 1)), .long (lw_J (xs (i + 2)) (xs (i + 3))), .long (lw_J (xs (i + 4)) (xs (i + 5)))]) (rest := [.int r_172]) ⟨hx, hb, hml, hown, hts⟩ (zc_X6_price l (X := ((zs_fprice X.1 (xs (i + 1)) (lw_J (xs (i + 2)) (xs (i + 3))) (lw_J (xs (i + 4)) (xs (i + 5)))).2, X.2)) hR1 hI3 ht1 (xs (i + 1)) (lw_J (xs (i + 2)) (xs (i + 3))) (lw_J (xs (i + 4)) (xs (i + 5)))) (cwV 3 hts gL_law_X6_price rfl rfl rfl (by decide +kernel) ⟨Nat.le_of_ble_eq_true rfl, Nat.le_of_ble_eq_true rfl⟩) (zk_preV hH hK hN (hR1.1 (8, 0, 0) ⟨by decide, rfl⟩) rfl) rfl rfl hl.1 rfl (lv_room (Nat.le_of_ble_eq_true rfl)) dL_law_221 ⟨(Nat.le_trans (show 20 + 2 * t + 1 ≤ 600000 by omega) (Nat.le_of_ble_eq_true rfl)), (Nat.le_trans (show 37492 + 10 * t + 3 ≤ 7302250 by omega) (Nat.le_of_ble_eq_true rfl))⟩) hS (fun r_221 u_221 H locs hH hr_221 hS => ?_)
  obtain ⟨hr_2, ps, hR2⟩ : r_221 = (zs_fprice X.2.1 (xs (i + 1)) (lw_J (xs (i + 2)) (xs (i + 3))) (lw_J (xs (i + 4)) (xs (i + 5)))).1 ∧ ∃ ps, zs_R g ((zs_fprice X.1 (xs (i + 1)) (lw_J (xs (i + 2)) (xs (i + 3))) (lw_J (xs (i + 4)) (xs (i + 5)))).2, (zs_fprice X.2.1 (xs (i + 1)) (lw_J (xs (i + 2)) (xs (i + 3))) (lw_J (xs (i + 4)) (xs (i + 5)))).2, ps) Z1 u_221 := hr_221
  have hE2 := zs_E_price hE (xs (i + 1)) (lw_J (xs (i + 2)) (xs (i + 3))) (lw_J (xs (i + 4)) (xs (i + 5)))
  refine lv_icmp_eq (tgt := 928) hx hb dL_law_224 (by decide) (fun h_224 => ?_) (fun h_224 => ?_)
  · skip
    rw [z5, z6] at hl
    refine W.widen (k := 20 + 2 * (t + 1)) (n := 37492 + 10 * (t + 1)) (by omega) (by omega) ?_
    exact K _ _ ls ⟨((zs_fprice X.1 (xs (i + 1)) (lw_J (xs (i + 2)) (xs (i + 3))) (lw_J (xs (i + 4)) (xs (i + 5)))).2, (zs_fprice X.2.1 (xs (i + 1)) (lw_J (xs (i + 2)) (xs (i + 3))) (lw_J (xs (i + 4)) (xs (i + 5)))).2, ps), Z1, u_221, hR2, zs_I_fprice hI (xs (i + 1)) (lw_J (xs (i + 2)) (xs (i + 3))) (lw_J (xs (i + 4)) (xs (i + 5))), zs_I_fprice hI2 (xs (i + 1)) (lw_J (xs (i + 2)) (xs (i + 3))) (lw_J (xs (i + 4)) (xs (i + 5))), hE2.2, z5, z6, hH, hS⟩ (lv_sub hl [0, 1, 2, 3] rfl)
  · skip
    exact absurd (hr_1.trans (hE2.1.symm.trans hr_2.symm)) h_224

set_option maxHeartbeats 4000000 in
set_option maxRecDepth 100000 in
theorem lw_case_3 {p : Program} {e : Env} {s : State} {m : MethodId} {below : List Frame} {meth : Method} {c : Code} (l : Launch) {b L : Nat} {xs : Nat → Int32} (hL : L ≤ 3584) (C0 : lw_At p s m meth c b L xs) {g : zk_G} (hK : va_K g.1 vwCl (zk_ty g) s) (hN : zk_N s) {t i : Nat} (hi : i + 7 ≤ L) (ht : i = 7 * t) {o5 o6 : Nat} (K : ∀ (H : Heap) (locs : List Loc) (ls : Array Slot), lw_I g s.heap.size (t + 1) o5 o6 s.heap H locs → lv_has ls 4 [(0, .ref b), (1, .ref o5), (2, .ref o6), (3, .int (nI i))] → W p l e room_1 s m #[Value.ref b] below meth c H locs (20 + 2 * (t + 1)) (37492 + 10 * (t + 1)) (lw_Z below #[Value.ref b] s) (F0 m 928 ls [])) : ∀ (H : Heap) (locs : List Loc) (ls : Array Slot), lw_I g s.heap.size t o5 o6 s.heap H locs → lv_has ls 4 [(0, .ref b), (1, .ref o5), (2, .ref o6), (3, .int (nI i))] → W p l e room_1 s m #[Value.ref b] below meth c H locs (20 + 2 * t) (37492 + 10 * t) (lw_Z below #[Value.ref b] s) (F0 m 229 ls []) := by
  obtain ⟨hx, hb, hr, hml, hown, hts0, hX, hbl, hlocks, hgv⟩ := C0
  have hown : s.vm.findClass RL = some m.cls := hown
  have hts : ∀ w ∈ wsL_law, w.before #[Value.ref b] s = true := fun w hw => hts0 w (wsL_law_in w hw)
  have hbA : ¬ (fun q : Nat => s.heap.size ≤ q) b := Nat.not_le.mpr hbl
  intro H locs ls hJ hl
  obtain ⟨X, Z, M, hR, hI, hI2, hE, e5, e6, hH, hS⟩ := hJ
  subst e5
  subst e6
  have hI1 := zs_I_mono hI
  have hI3 := zs_I_mono hI2
  have hc5 : zs_nc X.1 < 512 := by have := hI.1.2.2.2.2.1; omega
  have hc6 : zs_nc X.2.1 < t + 1 := Nat.lt_succ_of_le hI2.1.2.2.2.2.1
  have hl5 : zs_nl X.1 < t + 1 := Nat.lt_succ_of_le hI.1.2.2.2.1
  have hl6 : zs_nl X.2.1 < t + 1 := Nat.lt_succ_of_le hI2.1.2.2.2.1
  have ht1 : t + 1 ≤ 512 := by omega
  refine lv_aload_n hx hb dL_law_229 rfl (lv_at hl 1 rfl) ?_
  refine lv_aload_n hx hb dL_law_230 rfl (lv_at hl 0 rfl) ?_
  refine lv_iload_n hx hb dL_law_231 rfl (lv_at hl 3 rfl) ?_
  refine lv_iconst (v := 1) hx hb dL_law_232 (by decide) ?_
  refine lv_iadd hx hb dL_law_233 ?_
  refine zk_top (v' := .int (nI (i + 1))) (congrArg Value.int (show nI i + 1 = nI (i + 1) from nI_add i 1)) ?_
  refine va_sld hx hb hX hbl hbA hS (vp_in_nI (show (i + 1) < L by omega) (by omega)) dL_law_234 ?_
  refine zk_top (v' := .int (xs (i + 1))) (by rw [nI_clamp (by omega)]) ?_
  refine lv_aload_n hx hb dL_law_235 rfl (lv_at hl 0 rfl) ?_
  refine lv_iload_n hx hb dL_law_236 rfl (lv_at hl 3 rfl) ?_
  refine lv_iconst (v := 2) hx hb dL_law_237 (by decide) ?_
  refine lv_iadd hx hb dL_law_238 ?_
  refine zk_top (v' := .int (nI (i + 2))) (congrArg Value.int (show nI i + 2 = nI (i + 2) from nI_add i 2)) ?_
  refine va_sld hx hb hX hbl hbA hS (vp_in_nI (show (i + 2) < L by omega) (by omega)) dL_law_239 ?_
  refine zk_top (v' := .int (xs (i + 2))) (by rw [nI_clamp (by omega)]) ?_
  refine lv_aload_n hx hb dL_law_240 rfl (lv_at hl 0 rfl) ?_
  refine lv_iload_n hx hb dL_law_241 rfl (lv_at hl 3 rfl) ?_
  refine lv_iconst (v := 3) hx hb dL_law_242 (by decide) ?_
  refine lv_iadd hx hb dL_law_243 ?_
  refine zk_top (v' := .int (nI (i + 3))) (congrArg Value.int (show nI i + 3 = nI (i + 3) from nI_add i 3)) ?_
  refine va_sld hx hb hX hbl hbA hS (vp_in_nI (show (i + 3) < L by omega) (by omega)) dL_law_244 ?_
  refine zk_top (v' := .int (xs (i + 3))) (by rw [nI_clamp (by omega)]) ?_
  refine lv_i2l (v := (Int32.toInt64 (xs (i + 3)))) hx hb dL_law_245 rfl ?_
  refine lv_bipush (v := 32) hx hb dL_law_246 (by decide) ?_
  refine lv_lshl (v := ((Int32.toInt64 (xs (i + 3))) <<< (Int32.toInt64 32 &&& 63))) hx hb dL_law_248 rfl ?_
  refine lv_aload_n hx hb dL_law_249 rfl (lv_at hl 0 rfl) ?_
  refine lv_iload_n hx hb dL_law_250 rfl (lv_at hl 3 rfl) ?_
  refine lv_iconst (v := 4) hx hb dL_law_251 (by decide) ?_
  refine lv_iadd hx hb dL_law_252 ?_
  refine zk_top (v' := .int (nI (i + 4))) (congrArg Value.int (show nI i + 4 = nI (i + 4) from nI_add i 4)) ?_
  refine va_sld hx hb hX hbl hbA hS (vp_in_nI (show (i + 4) < L by omega) (by omega)) dL_law_253 ?_
  refine zk_top (v' := .int (xs (i + 4))) (by rw [nI_clamp (by omega)]) ?_
  refine lv_i2l (v := (Int32.toInt64 (xs (i + 4)))) hx hb dL_law_254 rfl ?_
  refine lv_ldc2 (v := 4294967295) hx hb hown (hts (.constantLong RL 22 (4294967295)) (by decide +kernel)) dL_law_255 ?_
  refine lv_land hx hb dL_law_258 ?_
  refine lv_lor hx hb dL_law_259 ?_
  refine zk_top (v' := .long (lw_J (xs (i + 3)) (xs (i + 4)))) rfl ?_
  refine lv_aload_n hx hb dL_law_260 rfl (lv_at hl 0 rfl) ?_
  refine lv_iload_n hx hb dL_law_261 rfl (lv_at hl 3 rfl) ?_
  refine lv_iconst (v := 5) hx hb dL_law_262 (by decide) ?_
  refine lv_iadd hx hb dL_law_263 ?_
  refine zk_top (v' := .int (nI (i + 5))) (congrArg Value.int (show nI i + 5 = nI (i + 5) from nI_add i 5)) ?_
  refine va_sld hx hb hX hbl hbA hS (vp_in_nI (show (i + 5) < L by omega) (by omega)) dL_law_264 ?_
  refine zk_top (v' := .int (xs (i + 5))) (by rw [nI_clamp (by omega)]) ?_
  refine lv_i2l (v := (Int32.toInt64 (xs (i + 5)))) hx hb dL_law_265 rfl ?_
  refine lv_bipush (v := 32) hx hb dL_law_266 (by decide) ?_
  refine lv_lshl (v := ((Int32.toInt64 (xs (i + 5))) <<< (Int32.toInt64 32 &&& 63))) hx hb dL_law_268 rfl ?_
  refine lv_aload_n hx hb dL_law_269 rfl (lv_at hl 0 rfl) ?_
  refine lv_iload_n hx hb dL_law_270 rfl (lv_at hl 3 rfl) ?_
  refine lv_bipush (v := 6) hx hb dL_law_271 (by decide) ?_
  refine lv_iadd hx hb dL_law_273 ?_
  refine zk_top (v' := .int (nI (i + 6))) (congrArg Value.int (show nI i + 6 = nI (i + 6) from nI_add i 6)) ?_
  refine va_sld hx hb hX hbl hbA hS (vp_in_nI (show (i + 6) < L by omega) (by omega)) dL_law_274 ?_
  refine zk_top (v' := .int (xs (i + 6))) (by rw [nI_clamp (by omega)]) ?_
  refine lv_i2l (v := (Int32.toInt64 (xs (i + 6)))) hx hb dL_law_275 rfl ?_
  refine lv_ldc2 (v := 4294967295) hx hb hown (hts (.constantLong RL 22 (4294967295)) (by decide +kernel)) dL_law_276 ?_
  refine lv_land hx hb dL_law_279 ?_
  refine lv_lor hx hb dL_law_280 ?_
  refine zk_top (v' := .long (lw_J (xs (i + 5)) (xs (i + 6)))) rfl ?_
  refine zk_calli (va_runV (As := [.int (xs (i + 1)), .int (xs (i + 2)), .long (lw_J (xs (i + 3)) (xs (i + 4))), .long (lw_J (xs (i + 5)) (xs (i + 6)))]) (rest := []) ⟨hx, hb, hml, hown, hts⟩ (zc_X5_out l hR hI1 hc5 hl5 (xs (i + 1)) (xs (i + 2)) (lw_J (xs (i + 3)) (xs (i + 4))) (lw_J (xs (i + 5)) (xs (i + 6)))) (cwV 4 hts gL_law_X5_out rfl rfl rfl (by decide +kernel) ⟨Nat.le_of_ble_eq_true rfl, Nat.le_of_ble_eq_true rfl⟩) (zk_preV hH hK hN (hR.1 (0, 0, 0) ⟨rfl, rfl⟩) rfl) rfl rfl hl.1 rfl (lv_room (Nat.le_of_ble_eq_true rfl)) dL_law_281 ⟨(Nat.le_trans (show 20 + 2 * t + 2 ≤ 600000 by omega) (Nat.le_of_ble_eq_true rfl)), (Nat.le_trans (show 37492 + 10 * t + 10 ≤ 7302250 by omega) (Nat.le_of_ble_eq_true rfl))⟩) hS (fun r_281 u_281 H locs hH hr_281 hS => ?_)
  obtain ⟨hr_1, Z1, hR1, hZ1⟩ := hr_281
  have z5 : Z1 (0, 0, 0) = Z (0, 0, 0) := hZ1 (0, 0, 0) ⟨rfl, rfl⟩
  have z6 : Z1 (8, 0, 0) = Z (8, 0, 0) := hZ1 (8, 0, 0) ⟨by decide, rfl⟩
  rw [← z5, ← z6] at hl
  have hl : lv_has ls 4 [(0, .ref b), (1, .ref (Z1 (0, 0, 0))), (2, .ref (Z1 (8, 0, 0))), (3, .int (nI i))] := hl
  refine lv_aload_n hx hb dL_law_284 rfl (lv_at hl 2 rfl) ?_
  refine lv_aload_n hx hb dL_law_285 rfl (lv_at hl 0 rfl) ?_
  refine lv_iload_n hx hb dL_law_286 rfl (lv_at hl 3 rfl) ?_
  refine lv_iconst (v := 1) hx hb dL_law_287 (by decide) ?_
  refine lv_iadd hx hb dL_law_288 ?_
  refine zk_top (v' := .int (nI (i + 1))) (congrArg Value.int (show nI i + 1 = nI (i + 1) from nI_add i 1)) ?_
  refine va_sld hx hb hX hbl hbA hS (vp_in_nI (show (i + 1) < L by omega) (by omega)) dL_law_289 ?_
  refine zk_top (v' := .int (xs (i + 1))) (by rw [nI_clamp (by omega)]) ?_
  refine lv_aload_n hx hb dL_law_290 rfl (lv_at hl 0 rfl) ?_
  refine lv_iload_n hx hb dL_law_291 rfl (lv_at hl 3 rfl) ?_
  refine lv_iconst (v := 2) hx hb dL_law_292 (by decide) ?_
  refine lv_iadd hx hb dL_law_293 ?_
  refine zk_top (v' := .int (nI (i + 2))) (congrArg Value.int (show nI i + 2 = nI (i + 2) from nI_add i 2)) ?_
  refine va_sld hx hb hX hbl hbA hS (vp_in_nI (show (i + 2) < L by omega) (by omega)) dL_law_294 ?_
  refine zk_top (v' := .int (xs (i + 2))) (by rw [nI_clamp (by omega)]) ?_
  refine lv_aload_n hx hb dL_law_295 rfl (lv_at hl 0 rfl) ?_
  refine lv_iload_n hx hb dL_law_296 rfl (lv_at hl 3 rfl) ?_
  refine lv_iconst (v := 3) hx hb dL_law_297 (by decide) ?_
  refine lv_iadd hx hb dL_law_298 ?_
  refine zk_top (v' := .int (nI (i + 3))) (congrArg Value.int (show nI i + 3 = nI (i + 3) from nI_add i 3)) ?_
  refine va_sld hx hb hX hbl hbA hS (vp_in_nI (show (i + 3) < L by omega) (by omega)) dL_law_299 ?_
  refine zk_top (v' := .int (xs (i + 3))) (by rw [nI_clamp (by omega)]) ?_
  refine lv_i2l (v := (Int32.toInt64 (xs (i + 3)))) hx hb dL_law_300 rfl ?_
  refine lv_bipush (v := 32) hx hb dL_law_301 (by decide) ?_
  refine lv_lshl (v := ((Int32.toInt64 (xs (i + 3))) <<< (Int32.toInt64 32 &&& 63))) hx hb dL_law_303 rfl ?_
  refine lv_aload_n hx hb dL_law_304 rfl (lv_at hl 0 rfl) ?_
  refine lv_iload_n hx hb dL_law_305 rfl (lv_at hl 3 rfl) ?_
  refine lv_iconst (v := 4) hx hb dL_law_306 (by decide) ?_
  refine lv_iadd hx hb dL_law_307 ?_
  refine zk_top (v' := .int (nI (i + 4))) (congrArg Value.int (show nI i + 4 = nI (i + 4) from nI_add i 4)) ?_
  refine va_sld hx hb hX hbl hbA hS (vp_in_nI (show (i + 4) < L by omega) (by omega)) dL_law_308 ?_
  refine zk_top (v' := .int (xs (i + 4))) (by rw [nI_clamp (by omega)]) ?_
  refine lv_i2l (v := (Int32.toInt64 (xs (i + 4)))) hx hb dL_law_309 rfl ?_
  refine lv_ldc2 (v := 4294967295) hx hb hown (hts (.constantLong RL 22 (4294967295)) (by decide +kernel)) dL_law_310 ?_
  refine lv_land hx hb dL_law_313 ?_
  refine lv_lor hx hb dL_law_314 ?_
  refine zk_top (v' := .long (lw_J (xs (i + 3)) (xs (i + 4)))) rfl ?_
  refine lv_aload_n hx hb dL_law_315 rfl (lv_at hl 0 rfl) ?_
  refine lv_iload_n hx hb dL_law_316 rfl (lv_at hl 3 rfl) ?_
  refine lv_iconst (v := 5) hx hb dL_law_317 (by decide) ?_
  refine lv_iadd hx hb dL_law_318 ?_
  refine zk_top (v' := .int (nI (i + 5))) (congrArg Value.int (show nI i + 5 = nI (i + 5) from nI_add i 5)) ?_
  refine va_sld hx hb hX hbl hbA hS (vp_in_nI (show (i + 5) < L by omega) (by omega)) dL_law_319 ?_
  refine zk_top (v' := .int (xs (i + 5))) (by rw [nI_clamp (by omega)]) ?_
  refine lv_i2l (v := (Int32.toInt64 (xs (i + 5)))) hx hb dL_law_320 rfl ?_
  refine lv_bipush (v := 32) hx hb dL_law_321 (by decide) ?_
  refine lv_lshl (v := ((Int32.toInt64 (xs (i + 5))) <<< (Int32.toInt64 32 &&& 63))) hx hb dL_law_323 rfl ?_
  refine lv_aload_n hx hb dL_law_324 rfl (lv_at hl 0 rfl) ?_
  refine lv_iload_n hx hb dL_law_325 rfl (lv_at hl 3 rfl) ?_
  refine lv_bipush (v := 6) hx hb dL_law_326 (by decide) ?_
  refine lv_iadd hx hb dL_law_328 ?_
  refine zk_top (v' := .int (nI (i + 6))) (congrArg Value.int (show nI i + 6 = nI (i + 6) from nI_add i 6)) ?_
  refine va_sld hx hb hX hbl hbA hS (vp_in_nI (show (i + 6) < L by omega) (by omega)) dL_law_329 ?_
  refine zk_top (v' := .int (xs (i + 6))) (by rw [nI_clamp (by omega)]) ?_
  refine lv_i2l (v := (Int32.toInt64 (xs (i + 6)))) hx hb dL_law_330 rfl ?_
  refine lv_ldc2 (v := 4294967295) hx hb hown (hts (.constantLong RL 22 (4294967295)) (by decide +kernel)) dL_law_331 ?_
  refine lv_land hx hb dL_law_334 ?_
  refine lv_lor hx hb dL_law_335 ?_
  refine zk_top (v' := .long (lw_J (xs (i + 5)) (xs (i + 6)))) rfl ?_
  refine zk_calli (va_runV (As := [.int (xs (i + 1)), .int (xs (i + 2)), .long (lw_J (xs (i + 3)) (xs (i + 4))), .long (lw_J (xs (i + 5)) (xs (i + 6)))]) (rest := [.int r_281]) ⟨hx, hb, hml, hown, hts⟩ (zc_X6_out l (X := ((zs_fout X.1 (xs (i + 1)) (xs (i + 2)) (lw_J (xs (i + 3)) (xs (i + 4))) (lw_J (xs (i + 5)) (xs (i + 6)))).2, X.2)) hR1 hI3 ht1 hl6 (xs (i + 1)) (xs (i + 2)) (lw_J (xs (i + 3)) (xs (i + 4))) (lw_J (xs (i + 5)) (xs (i + 6)))) (cwV 4 hts gL_law_X6_out rfl rfl rfl (by decide +kernel) ⟨Nat.le_of_ble_eq_true rfl, Nat.le_of_ble_eq_true rfl⟩) (zk_preV hH hK hN (hR1.1 (8, 0, 0) ⟨by decide, rfl⟩) rfl) rfl rfl hl.1 rfl (lv_room (Nat.le_of_ble_eq_true rfl)) dL_law_336 ⟨(Nat.le_trans (show 20 + 2 * t + 2 ≤ 600000 by omega) (Nat.le_of_ble_eq_true rfl)), (Nat.le_trans (show 37492 + 10 * t + 10 ≤ 7302250 by omega) (Nat.le_of_ble_eq_true rfl))⟩) hS (fun r_336 u_336 H locs hH hr_336 hS => ?_)
  obtain ⟨hr_2, ps, hR2⟩ : r_336 = (zs_fout X.2.1 (xs (i + 1)) (xs (i + 2)) (lw_J (xs (i + 3)) (xs (i + 4))) (lw_J (xs (i + 5)) (xs (i + 6)))).1 ∧ ∃ ps, zs_R g ((zs_fout X.1 (xs (i + 1)) (xs (i + 2)) (lw_J (xs (i + 3)) (xs (i + 4))) (lw_J (xs (i + 5)) (xs (i + 6)))).2, (zs_fout X.2.1 (xs (i + 1)) (xs (i + 2)) (lw_J (xs (i + 3)) (xs (i + 4))) (lw_J (xs (i + 5)) (xs (i + 6)))).2, ps) Z1 u_336 := hr_336
  have hE2 := zs_E_out hE (xs (i + 1)) (xs (i + 2)) (lw_J (xs (i + 3)) (xs (i + 4))) (lw_J (xs (i + 5)) (xs (i + 6)))
  refine lv_icmp_eq (tgt := 928) hx hb dL_law_339 (by decide) (fun h_339 => ?_) (fun h_339 => ?_)
  · skip
    rw [z5, z6] at hl
    refine W.widen (k := 20 + 2 * (t + 1)) (n := 37492 + 10 * (t + 1)) (by omega) (by omega) ?_
    exact K _ _ ls ⟨((zs_fout X.1 (xs (i + 1)) (xs (i + 2)) (lw_J (xs (i + 3)) (xs (i + 4))) (lw_J (xs (i + 5)) (xs (i + 6)))).2, (zs_fout X.2.1 (xs (i + 1)) (xs (i + 2)) (lw_J (xs (i + 3)) (xs (i + 4))) (lw_J (xs (i + 5)) (xs (i + 6)))).2, ps), Z1, u_336, hR2, zs_I_fout hI (xs (i + 1)) (xs (i + 2)) (lw_J (xs (i + 3)) (xs (i + 4))) (lw_J (xs (i + 5)) (xs (i + 6))), zs_I_fout hI2 (xs (i + 1)) (xs (i + 2)) (lw_J (xs (i + 3)) (xs (i + 4))) (lw_J (xs (i + 5)) (xs (i + 6))), hE2.2, z5, z6, hH, hS⟩ (lv_sub hl [0, 1, 2, 3] rfl)
  · skip
    exact absurd (hr_1.trans (hE2.1.symm.trans hr_2.symm)) h_339

set_option maxHeartbeats 4000000 in
set_option maxRecDepth 100000 in
theorem lw_case_4 {p : Program} {e : Env} {s : State} {m : MethodId} {below : List Frame} {meth : Method} {c : Code} (l : Launch) {b L : Nat} {xs : Nat → Int32} (hL : L ≤ 3584) (C0 : lw_At p s m meth c b L xs) {g : zk_G} (hK : va_K g.1 vwCl (zk_ty g) s) (hN : zk_N s) {t i : Nat} (hi : i + 7 ≤ L) (ht : i = 7 * t) {o5 o6 : Nat} (K : ∀ (H : Heap) (locs : List Loc) (ls : Array Slot), lw_I g s.heap.size (t + 1) o5 o6 s.heap H locs → lv_has ls 4 [(0, .ref b), (1, .ref o5), (2, .ref o6), (3, .int (nI i))] → W p l e room_1 s m #[Value.ref b] below meth c H locs (20 + 2 * (t + 1)) (37492 + 10 * (t + 1)) (lw_Z below #[Value.ref b] s) (F0 m 928 ls [])) : ∀ (H : Heap) (locs : List Loc) (ls : Array Slot), lw_I g s.heap.size t o5 o6 s.heap H locs → lv_has ls 4 [(0, .ref b), (1, .ref o5), (2, .ref o6), (3, .int (nI i))] → W p l e room_1 s m #[Value.ref b] below meth c H locs (20 + 2 * t) (37492 + 10 * t) (lw_Z below #[Value.ref b] s) (F0 m 344 ls []) := by
  obtain ⟨hx, hb, hr, hml, hown, hts0, hX, hbl, hlocks, hgv⟩ := C0
  have hown : s.vm.findClass RL = some m.cls := hown
  have hts : ∀ w ∈ wsL_law, w.before #[Value.ref b] s = true := fun w hw => hts0 w (wsL_law_in w hw)
  have hbA : ¬ (fun q : Nat => s.heap.size ≤ q) b := Nat.not_le.mpr hbl
  intro H locs ls hJ hl
  obtain ⟨X, Z, M, hR, hI, hI2, hE, e5, e6, hH, hS⟩ := hJ
  subst e5
  subst e6
  have hI1 := zs_I_mono hI
  have hI3 := zs_I_mono hI2
  have hc5 : zs_nc X.1 < 512 := by have := hI.1.2.2.2.2.1; omega
  have hc6 : zs_nc X.2.1 < t + 1 := Nat.lt_succ_of_le hI2.1.2.2.2.2.1
  have hl5 : zs_nl X.1 < t + 1 := Nat.lt_succ_of_le hI.1.2.2.2.1
  have hl6 : zs_nl X.2.1 < t + 1 := Nat.lt_succ_of_le hI2.1.2.2.2.1
  have ht1 : t + 1 ≤ 512 := by omega
  refine lv_aload_n hx hb dL_law_344 rfl (lv_at hl 1 rfl) ?_
  refine lv_aload_n hx hb dL_law_345 rfl (lv_at hl 0 rfl) ?_
  refine lv_iload_n hx hb dL_law_346 rfl (lv_at hl 3 rfl) ?_
  refine lv_iconst (v := 1) hx hb dL_law_347 (by decide) ?_
  refine lv_iadd hx hb dL_law_348 ?_
  refine zk_top (v' := .int (nI (i + 1))) (congrArg Value.int (show nI i + 1 = nI (i + 1) from nI_add i 1)) ?_
  refine va_sld hx hb hX hbl hbA hS (vp_in_nI (show (i + 1) < L by omega) (by omega)) dL_law_349 ?_
  refine zk_top (v' := .int (xs (i + 1))) (by rw [nI_clamp (by omega)]) ?_
  refine lv_aload_n hx hb dL_law_350 rfl (lv_at hl 0 rfl) ?_
  refine lv_iload_n hx hb dL_law_351 rfl (lv_at hl 3 rfl) ?_
  refine lv_iconst (v := 2) hx hb dL_law_352 (by decide) ?_
  refine lv_iadd hx hb dL_law_353 ?_
  refine zk_top (v' := .int (nI (i + 2))) (congrArg Value.int (show nI i + 2 = nI (i + 2) from nI_add i 2)) ?_
  refine va_sld hx hb hX hbl hbA hS (vp_in_nI (show (i + 2) < L by omega) (by omega)) dL_law_354 ?_
  refine zk_top (v' := .int (xs (i + 2))) (by rw [nI_clamp (by omega)]) ?_
  refine lv_aload_n hx hb dL_law_355 rfl (lv_at hl 0 rfl) ?_
  refine lv_iload_n hx hb dL_law_356 rfl (lv_at hl 3 rfl) ?_
  refine lv_iconst (v := 3) hx hb dL_law_357 (by decide) ?_
  refine lv_iadd hx hb dL_law_358 ?_
  refine zk_top (v' := .int (nI (i + 3))) (congrArg Value.int (show nI i + 3 = nI (i + 3) from nI_add i 3)) ?_
  refine va_sld hx hb hX hbl hbA hS (vp_in_nI (show (i + 3) < L by omega) (by omega)) dL_law_359 ?_
  refine zk_top (v' := .int (xs (i + 3))) (by rw [nI_clamp (by omega)]) ?_
  refine lv_i2l (v := (Int32.toInt64 (xs (i + 3)))) hx hb dL_law_360 rfl ?_
  refine lv_bipush (v := 32) hx hb dL_law_361 (by decide) ?_
  refine lv_lshl (v := ((Int32.toInt64 (xs (i + 3))) <<< (Int32.toInt64 32 &&& 63))) hx hb dL_law_363 rfl ?_
  refine lv_aload_n hx hb dL_law_364 rfl (lv_at hl 0 rfl) ?_
  refine lv_iload_n hx hb dL_law_365 rfl (lv_at hl 3 rfl) ?_
  refine lv_iconst (v := 4) hx hb dL_law_366 (by decide) ?_
  refine lv_iadd hx hb dL_law_367 ?_
  refine zk_top (v' := .int (nI (i + 4))) (congrArg Value.int (show nI i + 4 = nI (i + 4) from nI_add i 4)) ?_
  refine va_sld hx hb hX hbl hbA hS (vp_in_nI (show (i + 4) < L by omega) (by omega)) dL_law_368 ?_
  refine zk_top (v' := .int (xs (i + 4))) (by rw [nI_clamp (by omega)]) ?_
  refine lv_i2l (v := (Int32.toInt64 (xs (i + 4)))) hx hb dL_law_369 rfl ?_
  refine lv_ldc2 (v := 4294967295) hx hb hown (hts (.constantLong RL 22 (4294967295)) (by decide +kernel)) dL_law_370 ?_
  refine lv_land hx hb dL_law_373 ?_
  refine lv_lor hx hb dL_law_374 ?_
  refine zk_top (v' := .long (lw_J (xs (i + 3)) (xs (i + 4)))) rfl ?_
  refine lv_aload_n hx hb dL_law_375 rfl (lv_at hl 0 rfl) ?_
  refine lv_iload_n hx hb dL_law_376 rfl (lv_at hl 3 rfl) ?_
  refine lv_iconst (v := 5) hx hb dL_law_377 (by decide) ?_
  refine lv_iadd hx hb dL_law_378 ?_
  refine zk_top (v' := .int (nI (i + 5))) (congrArg Value.int (show nI i + 5 = nI (i + 5) from nI_add i 5)) ?_
  refine va_sld hx hb hX hbl hbA hS (vp_in_nI (show (i + 5) < L by omega) (by omega)) dL_law_379 ?_
  refine zk_top (v' := .int (xs (i + 5))) (by rw [nI_clamp (by omega)]) ?_
  refine lv_i2l (v := (Int32.toInt64 (xs (i + 5)))) hx hb dL_law_380 rfl ?_
  refine lv_bipush (v := 32) hx hb dL_law_381 (by decide) ?_
  refine lv_lshl (v := ((Int32.toInt64 (xs (i + 5))) <<< (Int32.toInt64 32 &&& 63))) hx hb dL_law_383 rfl ?_
  refine lv_aload_n hx hb dL_law_384 rfl (lv_at hl 0 rfl) ?_
  refine lv_iload_n hx hb dL_law_385 rfl (lv_at hl 3 rfl) ?_
  refine lv_bipush (v := 6) hx hb dL_law_386 (by decide) ?_
  refine lv_iadd hx hb dL_law_388 ?_
  refine zk_top (v' := .int (nI (i + 6))) (congrArg Value.int (show nI i + 6 = nI (i + 6) from nI_add i 6)) ?_
  refine va_sld hx hb hX hbl hbA hS (vp_in_nI (show (i + 6) < L by omega) (by omega)) dL_law_389 ?_
  refine zk_top (v' := .int (xs (i + 6))) (by rw [nI_clamp (by omega)]) ?_
  refine lv_i2l (v := (Int32.toInt64 (xs (i + 6)))) hx hb dL_law_390 rfl ?_
  refine lv_ldc2 (v := 4294967295) hx hb hown (hts (.constantLong RL 22 (4294967295)) (by decide +kernel)) dL_law_391 ?_
  refine lv_land hx hb dL_law_394 ?_
  refine lv_lor hx hb dL_law_395 ?_
  refine zk_top (v' := .long (lw_J (xs (i + 5)) (xs (i + 6)))) rfl ?_
  refine zk_calli (va_runV (As := [.int (xs (i + 1)), .int (xs (i + 2)), .long (lw_J (xs (i + 3)) (xs (i + 4))), .long (lw_J (xs (i + 5)) (xs (i + 6)))]) (rest := []) ⟨hx, hb, hml, hown, hts⟩ (zc_X5_back l hR hI1 hc5 (xs (i + 1)) (xs (i + 2)) (lw_J (xs (i + 3)) (xs (i + 4))) (lw_J (xs (i + 5)) (xs (i + 6)))) (cwV 4 hts gL_law_X5_back rfl rfl rfl (by decide +kernel) ⟨Nat.le_of_ble_eq_true rfl, Nat.le_of_ble_eq_true rfl⟩) (zk_preV hH hK hN (hR.1 (0, 0, 0) ⟨rfl, rfl⟩) rfl) rfl rfl hl.1 rfl (lv_room (Nat.le_of_ble_eq_true rfl)) dL_law_396 ⟨(Nat.le_trans (show 20 + 2 * t + 1 ≤ 600000 by omega) (Nat.le_of_ble_eq_true rfl)), (Nat.le_trans (show 37492 + 10 * t + 5 ≤ 7302250 by omega) (Nat.le_of_ble_eq_true rfl))⟩) hS (fun r_396 u_396 H locs hH hr_396 hS => ?_)
  obtain ⟨hr_1, Z1, hR1, hZ1⟩ := hr_396
  have z5 : Z1 (0, 0, 0) = Z (0, 0, 0) := hZ1 (0, 0, 0) ⟨rfl, rfl⟩
  have z6 : Z1 (8, 0, 0) = Z (8, 0, 0) := hZ1 (8, 0, 0) ⟨by decide, rfl⟩
  rw [← z5, ← z6] at hl
  have hl : lv_has ls 4 [(0, .ref b), (1, .ref (Z1 (0, 0, 0))), (2, .ref (Z1 (8, 0, 0))), (3, .int (nI i))] := hl
  refine lv_aload_n hx hb dL_law_399 rfl (lv_at hl 2 rfl) ?_
  refine lv_aload_n hx hb dL_law_400 rfl (lv_at hl 0 rfl) ?_
  refine lv_iload_n hx hb dL_law_401 rfl (lv_at hl 3 rfl) ?_
  refine lv_iconst (v := 1) hx hb dL_law_402 (by decide) ?_
  refine lv_iadd hx hb dL_law_403 ?_
  refine zk_top (v' := .int (nI (i + 1))) (congrArg Value.int (show nI i + 1 = nI (i + 1) from nI_add i 1)) ?_
  refine va_sld hx hb hX hbl hbA hS (vp_in_nI (show (i + 1) < L by omega) (by omega)) dL_law_404 ?_
  refine zk_top (v' := .int (xs (i + 1))) (by rw [nI_clamp (by omega)]) ?_
  refine lv_aload_n hx hb dL_law_405 rfl (lv_at hl 0 rfl) ?_
  refine lv_iload_n hx hb dL_law_406 rfl (lv_at hl 3 rfl) ?_
  refine lv_iconst (v := 2) hx hb dL_law_407 (by decide) ?_
  refine lv_iadd hx hb dL_law_408 ?_
  refine zk_top (v' := .int (nI (i + 2))) (congrArg Value.int (show nI i + 2 = nI (i + 2) from nI_add i 2)) ?_
  refine va_sld hx hb hX hbl hbA hS (vp_in_nI (show (i + 2) < L by omega) (by omega)) dL_law_409 ?_
  refine zk_top (v' := .int (xs (i + 2))) (by rw [nI_clamp (by omega)]) ?_
  refine lv_aload_n hx hb dL_law_410 rfl (lv_at hl 0 rfl) ?_
  refine lv_iload_n hx hb dL_law_411 rfl (lv_at hl 3 rfl) ?_
  refine lv_iconst (v := 3) hx hb dL_law_412 (by decide) ?_
  refine lv_iadd hx hb dL_law_413 ?_
  refine zk_top (v' := .int (nI (i + 3))) (congrArg Value.int (show nI i + 3 = nI (i + 3) from nI_add i 3)) ?_
  refine va_sld hx hb hX hbl hbA hS (vp_in_nI (show (i + 3) < L by omega) (by omega)) dL_law_414 ?_
  refine zk_top (v' := .int (xs (i + 3))) (by rw [nI_clamp (by omega)]) ?_
  refine lv_i2l (v := (Int32.toInt64 (xs (i + 3)))) hx hb dL_law_415 rfl ?_
  refine lv_bipush (v := 32) hx hb dL_law_416 (by decide) ?_
  refine lv_lshl (v := ((Int32.toInt64 (xs (i + 3))) <<< (Int32.toInt64 32 &&& 63))) hx hb dL_law_418 rfl ?_
  refine lv_aload_n hx hb dL_law_419 rfl (lv_at hl 0 rfl) ?_
  refine lv_iload_n hx hb dL_law_420 rfl (lv_at hl 3 rfl) ?_
  refine lv_iconst (v := 4) hx hb dL_law_421 (by decide) ?_
  refine lv_iadd hx hb dL_law_422 ?_
  refine zk_top (v' := .int (nI (i + 4))) (congrArg Value.int (show nI i + 4 = nI (i + 4) from nI_add i 4)) ?_
  refine va_sld hx hb hX hbl hbA hS (vp_in_nI (show (i + 4) < L by omega) (by omega)) dL_law_423 ?_
  refine zk_top (v' := .int (xs (i + 4))) (by rw [nI_clamp (by omega)]) ?_
  refine lv_i2l (v := (Int32.toInt64 (xs (i + 4)))) hx hb dL_law_424 rfl ?_
  refine lv_ldc2 (v := 4294967295) hx hb hown (hts (.constantLong RL 22 (4294967295)) (by decide +kernel)) dL_law_425 ?_
  refine lv_land hx hb dL_law_428 ?_
  refine lv_lor hx hb dL_law_429 ?_
  refine zk_top (v' := .long (lw_J (xs (i + 3)) (xs (i + 4)))) rfl ?_
  refine lv_aload_n hx hb dL_law_430 rfl (lv_at hl 0 rfl) ?_
  refine lv_iload_n hx hb dL_law_431 rfl (lv_at hl 3 rfl) ?_
  refine lv_iconst (v := 5) hx hb dL_law_432 (by decide) ?_
  refine lv_iadd hx hb dL_law_433 ?_
  refine zk_top (v' := .int (nI (i + 5))) (congrArg Value.int (show nI i + 5 = nI (i + 5) from nI_add i 5)) ?_
  refine va_sld hx hb hX hbl hbA hS (vp_in_nI (show (i + 5) < L by omega) (by omega)) dL_law_434 ?_
  refine zk_top (v' := .int (xs (i + 5))) (by rw [nI_clamp (by omega)]) ?_
  refine lv_i2l (v := (Int32.toInt64 (xs (i + 5)))) hx hb dL_law_435 rfl ?_
  refine lv_bipush (v := 32) hx hb dL_law_436 (by decide) ?_
  refine lv_lshl (v := ((Int32.toInt64 (xs (i + 5))) <<< (Int32.toInt64 32 &&& 63))) hx hb dL_law_438 rfl ?_
  refine lv_aload_n hx hb dL_law_439 rfl (lv_at hl 0 rfl) ?_
  refine lv_iload_n hx hb dL_law_440 rfl (lv_at hl 3 rfl) ?_
  refine lv_bipush (v := 6) hx hb dL_law_441 (by decide) ?_
  refine lv_iadd hx hb dL_law_443 ?_
  refine zk_top (v' := .int (nI (i + 6))) (congrArg Value.int (show nI i + 6 = nI (i + 6) from nI_add i 6)) ?_
  refine va_sld hx hb hX hbl hbA hS (vp_in_nI (show (i + 6) < L by omega) (by omega)) dL_law_444 ?_
  refine zk_top (v' := .int (xs (i + 6))) (by rw [nI_clamp (by omega)]) ?_
  refine lv_i2l (v := (Int32.toInt64 (xs (i + 6)))) hx hb dL_law_445 rfl ?_
  refine lv_ldc2 (v := 4294967295) hx hb hown (hts (.constantLong RL 22 (4294967295)) (by decide +kernel)) dL_law_446 ?_
  refine lv_land hx hb dL_law_449 ?_
  refine lv_lor hx hb dL_law_450 ?_
  refine zk_top (v' := .long (lw_J (xs (i + 5)) (xs (i + 6)))) rfl ?_
  refine zk_calli (va_runV (As := [.int (xs (i + 1)), .int (xs (i + 2)), .long (lw_J (xs (i + 3)) (xs (i + 4))), .long (lw_J (xs (i + 5)) (xs (i + 6)))]) (rest := [.int r_396]) ⟨hx, hb, hml, hown, hts⟩ (zc_X6_back l (X := ((zs_fback X.1 (xs (i + 1)) (xs (i + 2)) (lw_J (xs (i + 3)) (xs (i + 4))) (lw_J (xs (i + 5)) (xs (i + 6)))).2, X.2)) hR1 hI3 ht1 hc6 (xs (i + 1)) (xs (i + 2)) (lw_J (xs (i + 3)) (xs (i + 4))) (lw_J (xs (i + 5)) (xs (i + 6)))) (cwV 4 hts gL_law_X6_back rfl rfl rfl (by decide +kernel) ⟨Nat.le_of_ble_eq_true rfl, Nat.le_of_ble_eq_true rfl⟩) (zk_preV hH hK hN (hR1.1 (8, 0, 0) ⟨by decide, rfl⟩) rfl) rfl rfl hl.1 rfl (lv_room (Nat.le_of_ble_eq_true rfl)) dL_law_451 ⟨(Nat.le_trans (show 20 + 2 * t + 1 ≤ 600000 by omega) (Nat.le_of_ble_eq_true rfl)), (Nat.le_trans (show 37492 + 10 * t + 5 ≤ 7302250 by omega) (Nat.le_of_ble_eq_true rfl))⟩) hS (fun r_451 u_451 H locs hH hr_451 hS => ?_)
  obtain ⟨hr_2, ps, hR2⟩ : r_451 = (zs_fback X.2.1 (xs (i + 1)) (xs (i + 2)) (lw_J (xs (i + 3)) (xs (i + 4))) (lw_J (xs (i + 5)) (xs (i + 6)))).1 ∧ ∃ ps, zs_R g ((zs_fback X.1 (xs (i + 1)) (xs (i + 2)) (lw_J (xs (i + 3)) (xs (i + 4))) (lw_J (xs (i + 5)) (xs (i + 6)))).2, (zs_fback X.2.1 (xs (i + 1)) (xs (i + 2)) (lw_J (xs (i + 3)) (xs (i + 4))) (lw_J (xs (i + 5)) (xs (i + 6)))).2, ps) Z1 u_451 := hr_451
  have hE2 := zs_E_back hE (xs (i + 1)) (xs (i + 2)) (lw_J (xs (i + 3)) (xs (i + 4))) (lw_J (xs (i + 5)) (xs (i + 6)))
  refine lv_icmp_eq (tgt := 928) hx hb dL_law_454 (by decide) (fun h_454 => ?_) (fun h_454 => ?_)
  · skip
    rw [z5, z6] at hl
    refine W.widen (k := 20 + 2 * (t + 1)) (n := 37492 + 10 * (t + 1)) (by omega) (by omega) ?_
    exact K _ _ ls ⟨((zs_fback X.1 (xs (i + 1)) (xs (i + 2)) (lw_J (xs (i + 3)) (xs (i + 4))) (lw_J (xs (i + 5)) (xs (i + 6)))).2, (zs_fback X.2.1 (xs (i + 1)) (xs (i + 2)) (lw_J (xs (i + 3)) (xs (i + 4))) (lw_J (xs (i + 5)) (xs (i + 6)))).2, ps), Z1, u_451, hR2, zs_I_fback hI (xs (i + 1)) (xs (i + 2)) (lw_J (xs (i + 3)) (xs (i + 4))) (lw_J (xs (i + 5)) (xs (i + 6))), zs_I_fback hI2 (xs (i + 1)) (xs (i + 2)) (lw_J (xs (i + 3)) (xs (i + 4))) (lw_J (xs (i + 5)) (xs (i + 6))), hE2.2, z5, z6, hH, hS⟩ (lv_sub hl [0, 1, 2, 3] rfl)
  · skip
    exact absurd (hr_1.trans (hE2.1.symm.trans hr_2.symm)) h_454

set_option maxHeartbeats 4000000 in
set_option maxRecDepth 100000 in
theorem lw_case_5 {p : Program} {e : Env} {s : State} {m : MethodId} {below : List Frame} {meth : Method} {c : Code} (l : Launch) {b L : Nat} {xs : Nat → Int32} (hL : L ≤ 3584) (C0 : lw_At p s m meth c b L xs) {g : zk_G} (hK : va_K g.1 vwCl (zk_ty g) s) (hN : zk_N s) {t i : Nat} (hi : i + 7 ≤ L) (ht : i = 7 * t) {o5 o6 : Nat} (K : ∀ (H : Heap) (locs : List Loc) (ls : Array Slot), lw_I g s.heap.size (t + 1) o5 o6 s.heap H locs → lv_has ls 4 [(0, .ref b), (1, .ref o5), (2, .ref o6), (3, .int (nI i))] → W p l e room_1 s m #[Value.ref b] below meth c H locs (20 + 2 * (t + 1)) (37492 + 10 * (t + 1)) (lw_Z below #[Value.ref b] s) (F0 m 928 ls [])) : ∀ (H : Heap) (locs : List Loc) (ls : Array Slot), lw_I g s.heap.size t o5 o6 s.heap H locs → lv_has ls 4 [(0, .ref b), (1, .ref o5), (2, .ref o6), (3, .int (nI i))] → W p l e room_1 s m #[Value.ref b] below meth c H locs (20 + 2 * t) (37492 + 10 * t) (lw_Z below #[Value.ref b] s) (F0 m 459 ls []) := by
  obtain ⟨hx, hb, hr, hml, hown, hts0, hX, hbl, hlocks, hgv⟩ := C0
  have hown : s.vm.findClass RL = some m.cls := hown
  have hts : ∀ w ∈ wsL_law, w.before #[Value.ref b] s = true := fun w hw => hts0 w (wsL_law_in w hw)
  have hbA : ¬ (fun q : Nat => s.heap.size ≤ q) b := Nat.not_le.mpr hbl
  intro H locs ls hJ hl
  obtain ⟨X, Z, M, hR, hI, hI2, hE, e5, e6, hH, hS⟩ := hJ
  subst e5
  subst e6
  have hI1 := zs_I_mono hI
  have hI3 := zs_I_mono hI2
  have hc5 : zs_nc X.1 < 512 := by have := hI.1.2.2.2.2.1; omega
  have hc6 : zs_nc X.2.1 < t + 1 := Nat.lt_succ_of_le hI2.1.2.2.2.2.1
  have hl5 : zs_nl X.1 < t + 1 := Nat.lt_succ_of_le hI.1.2.2.2.1
  have hl6 : zs_nl X.2.1 < t + 1 := Nat.lt_succ_of_le hI2.1.2.2.2.1
  have ht1 : t + 1 ≤ 512 := by omega
  refine lv_aload_n hx hb dL_law_459 rfl (lv_at hl 1 rfl) ?_
  refine lv_aload_n hx hb dL_law_460 rfl (lv_at hl 0 rfl) ?_
  refine lv_iload_n hx hb dL_law_461 rfl (lv_at hl 3 rfl) ?_
  refine lv_iconst (v := 1) hx hb dL_law_462 (by decide) ?_
  refine lv_iadd hx hb dL_law_463 ?_
  refine zk_top (v' := .int (nI (i + 1))) (congrArg Value.int (show nI i + 1 = nI (i + 1) from nI_add i 1)) ?_
  refine va_sld hx hb hX hbl hbA hS (vp_in_nI (show (i + 1) < L by omega) (by omega)) dL_law_464 ?_
  refine zk_top (v' := .int (xs (i + 1))) (by rw [nI_clamp (by omega)]) ?_
  refine lv_aload_n hx hb dL_law_465 rfl (lv_at hl 0 rfl) ?_
  refine lv_iload_n hx hb dL_law_466 rfl (lv_at hl 3 rfl) ?_
  refine lv_iconst (v := 2) hx hb dL_law_467 (by decide) ?_
  refine lv_iadd hx hb dL_law_468 ?_
  refine zk_top (v' := .int (nI (i + 2))) (congrArg Value.int (show nI i + 2 = nI (i + 2) from nI_add i 2)) ?_
  refine va_sld hx hb hX hbl hbA hS (vp_in_nI (show (i + 2) < L by omega) (by omega)) dL_law_469 ?_
  refine zk_top (v' := .int (xs (i + 2))) (by rw [nI_clamp (by omega)]) ?_
  refine lv_i2l (v := (Int32.toInt64 (xs (i + 2)))) hx hb dL_law_470 rfl ?_
  refine lv_bipush (v := 32) hx hb dL_law_471 (by decide) ?_
  refine lv_lshl (v := ((Int32.toInt64 (xs (i + 2))) <<< (Int32.toInt64 32 &&& 63))) hx hb dL_law_473 rfl ?_
  refine lv_aload_n hx hb dL_law_474 rfl (lv_at hl 0 rfl) ?_
  refine lv_iload_n hx hb dL_law_475 rfl (lv_at hl 3 rfl) ?_
  refine lv_iconst (v := 3) hx hb dL_law_476 (by decide) ?_
  refine lv_iadd hx hb dL_law_477 ?_
  refine zk_top (v' := .int (nI (i + 3))) (congrArg Value.int (show nI i + 3 = nI (i + 3) from nI_add i 3)) ?_
  refine va_sld hx hb hX hbl hbA hS (vp_in_nI (show (i + 3) < L by omega) (by omega)) dL_law_478 ?_
  refine zk_top (v' := .int (xs (i + 3))) (by rw [nI_clamp (by omega)]) ?_
  refine lv_i2l (v := (Int32.toInt64 (xs (i + 3)))) hx hb dL_law_479 rfl ?_
  refine lv_ldc2 (v := 4294967295) hx hb hown (hts (.constantLong RL 22 (4294967295)) (by decide +kernel)) dL_law_480 ?_
  refine lv_land hx hb dL_law_483 ?_
  refine lv_lor hx hb dL_law_484 ?_
  refine zk_top (v' := .long (lw_J (xs (i + 2)) (xs (i + 3)))) rfl ?_
  refine lv_aload_n hx hb dL_law_485 rfl (lv_at hl 0 rfl) ?_
  refine lv_iload_n hx hb dL_law_486 rfl (lv_at hl 3 rfl) ?_
  refine lv_iconst (v := 4) hx hb dL_law_487 (by decide) ?_
  refine lv_iadd hx hb dL_law_488 ?_
  refine zk_top (v' := .int (nI (i + 4))) (congrArg Value.int (show nI i + 4 = nI (i + 4) from nI_add i 4)) ?_
  refine va_sld hx hb hX hbl hbA hS (vp_in_nI (show (i + 4) < L by omega) (by omega)) dL_law_489 ?_
  refine zk_top (v' := .int (xs (i + 4))) (by rw [nI_clamp (by omega)]) ?_
  refine lv_i2l (v := (Int32.toInt64 (xs (i + 4)))) hx hb dL_law_490 rfl ?_
  refine lv_bipush (v := 32) hx hb dL_law_491 (by decide) ?_
  refine lv_lshl (v := ((Int32.toInt64 (xs (i + 4))) <<< (Int32.toInt64 32 &&& 63))) hx hb dL_law_493 rfl ?_
  refine lv_aload_n hx hb dL_law_494 rfl (lv_at hl 0 rfl) ?_
  refine lv_iload_n hx hb dL_law_495 rfl (lv_at hl 3 rfl) ?_
  refine lv_iconst (v := 5) hx hb dL_law_496 (by decide) ?_
  refine lv_iadd hx hb dL_law_497 ?_
  refine zk_top (v' := .int (nI (i + 5))) (congrArg Value.int (show nI i + 5 = nI (i + 5) from nI_add i 5)) ?_
  refine va_sld hx hb hX hbl hbA hS (vp_in_nI (show (i + 5) < L by omega) (by omega)) dL_law_498 ?_
  refine zk_top (v' := .int (xs (i + 5))) (by rw [nI_clamp (by omega)]) ?_
  refine lv_i2l (v := (Int32.toInt64 (xs (i + 5)))) hx hb dL_law_499 rfl ?_
  refine lv_ldc2 (v := 4294967295) hx hb hown (hts (.constantLong RL 22 (4294967295)) (by decide +kernel)) dL_law_500 ?_
  refine lv_land hx hb dL_law_503 ?_
  refine lv_lor hx hb dL_law_504 ?_
  refine zk_top (v' := .long (lw_J (xs (i + 4)) (xs (i + 5)))) rfl ?_
  refine zk_calli (va_runV (As := [.int (xs (i + 1)), .long (lw_J (xs (i + 2)) (xs (i + 3))), .long (lw_J (xs (i + 4)) (xs (i + 5)))]) (rest := []) ⟨hx, hb, hml, hown, hts⟩ (zc_X5_sampled l hR hI1 hc5 (xs (i + 1)) (lw_J (xs (i + 2)) (xs (i + 3))) (lw_J (xs (i + 4)) (xs (i + 5)))) (cwV 3 hts gL_law_X5_sampled rfl rfl rfl (by decide +kernel) ⟨Nat.le_of_ble_eq_true rfl, Nat.le_of_ble_eq_true rfl⟩) (zk_preV hH hK hN (hR.1 (0, 0, 0) ⟨rfl, rfl⟩) rfl) rfl rfl hl.1 rfl (lv_room (Nat.le_of_ble_eq_true rfl)) dL_law_505 ⟨(Nat.le_trans (show 20 + 2 * t + 1 ≤ 600000 by omega) (Nat.le_of_ble_eq_true rfl)), (Nat.le_trans (show 37492 + 10 * t + 5 ≤ 7302250 by omega) (Nat.le_of_ble_eq_true rfl))⟩) hS (fun r_505 u_505 H locs hH hr_505 hS => ?_)
  obtain ⟨hr_1, Z1, hR1, hZ1⟩ := hr_505
  have z5 : Z1 (0, 0, 0) = Z (0, 0, 0) := hZ1 (0, 0, 0) ⟨rfl, rfl⟩
  have z6 : Z1 (8, 0, 0) = Z (8, 0, 0) := hZ1 (8, 0, 0) ⟨by decide, rfl⟩
  rw [← z5, ← z6] at hl
  have hl : lv_has ls 4 [(0, .ref b), (1, .ref (Z1 (0, 0, 0))), (2, .ref (Z1 (8, 0, 0))), (3, .int (nI i))] := hl
  refine lv_aload_n hx hb dL_law_508 rfl (lv_at hl 2 rfl) ?_
  refine lv_aload_n hx hb dL_law_509 rfl (lv_at hl 0 rfl) ?_
  refine lv_iload_n hx hb dL_law_510 rfl (lv_at hl 3 rfl) ?_
  refine lv_iconst (v := 1) hx hb dL_law_511 (by decide) ?_
  refine lv_iadd hx hb dL_law_512 ?_
  refine zk_top (v' := .int (nI (i + 1))) (congrArg Value.int (show nI i + 1 = nI (i + 1) from nI_add i 1)) ?_
  refine va_sld hx hb hX hbl hbA hS (vp_in_nI (show (i + 1) < L by omega) (by omega)) dL_law_513 ?_
  refine zk_top (v' := .int (xs (i + 1))) (by rw [nI_clamp (by omega)]) ?_
  refine lv_aload_n hx hb dL_law_514 rfl (lv_at hl 0 rfl) ?_
  refine lv_iload_n hx hb dL_law_515 rfl (lv_at hl 3 rfl) ?_
  refine lv_iconst (v := 2) hx hb dL_law_516 (by decide) ?_
  refine lv_iadd hx hb dL_law_517 ?_
  refine zk_top (v' := .int (nI (i + 2))) (congrArg Value.int (show nI i + 2 = nI (i + 2) from nI_add i 2)) ?_
  refine va_sld hx hb hX hbl hbA hS (vp_in_nI (show (i + 2) < L by omega) (by omega)) dL_law_518 ?_
  refine zk_top (v' := .int (xs (i + 2))) (by rw [nI_clamp (by omega)]) ?_
  refine lv_i2l (v := (Int32.toInt64 (xs (i + 2)))) hx hb dL_law_519 rfl ?_
  refine lv_bipush (v := 32) hx hb dL_law_520 (by decide) ?_
  refine lv_lshl (v := ((Int32.toInt64 (xs (i + 2))) <<< (Int32.toInt64 32 &&& 63))) hx hb dL_law_522 rfl ?_
  refine lv_aload_n hx hb dL_law_523 rfl (lv_at hl 0 rfl) ?_
  refine lv_iload_n hx hb dL_law_524 rfl (lv_at hl 3 rfl) ?_
  refine lv_iconst (v := 3) hx hb dL_law_525 (by decide) ?_
  refine lv_iadd hx hb dL_law_526 ?_
  refine zk_top (v' := .int (nI (i + 3))) (congrArg Value.int (show nI i + 3 = nI (i + 3) from nI_add i 3)) ?_
  refine va_sld hx hb hX hbl hbA hS (vp_in_nI (show (i + 3) < L by omega) (by omega)) dL_law_527 ?_
  refine zk_top (v' := .int (xs (i + 3))) (by rw [nI_clamp (by omega)]) ?_
  refine lv_i2l (v := (Int32.toInt64 (xs (i + 3)))) hx hb dL_law_528 rfl ?_
  refine lv_ldc2 (v := 4294967295) hx hb hown (hts (.constantLong RL 22 (4294967295)) (by decide +kernel)) dL_law_529 ?_
  refine lv_land hx hb dL_law_532 ?_
  refine lv_lor hx hb dL_law_533 ?_
  refine zk_top (v' := .long (lw_J (xs (i + 2)) (xs (i + 3)))) rfl ?_
  refine lv_aload_n hx hb dL_law_534 rfl (lv_at hl 0 rfl) ?_
  refine lv_iload_n hx hb dL_law_535 rfl (lv_at hl 3 rfl) ?_
  refine lv_iconst (v := 4) hx hb dL_law_536 (by decide) ?_
  refine lv_iadd hx hb dL_law_537 ?_
  refine zk_top (v' := .int (nI (i + 4))) (congrArg Value.int (show nI i + 4 = nI (i + 4) from nI_add i 4)) ?_
  refine va_sld hx hb hX hbl hbA hS (vp_in_nI (show (i + 4) < L by omega) (by omega)) dL_law_538 ?_
  refine zk_top (v' := .int (xs (i + 4))) (by rw [nI_clamp (by omega)]) ?_
  refine lv_i2l (v := (Int32.toInt64 (xs (i + 4)))) hx hb dL_law_539 rfl ?_
  refine lv_bipush (v := 32) hx hb dL_law_540 (by decide) ?_
  refine lv_lshl (v := ((Int32.toInt64 (xs (i + 4))) <<< (Int32.toInt64 32 &&& 63))) hx hb dL_law_542 rfl ?_
  refine lv_aload_n hx hb dL_law_543 rfl (lv_at hl 0 rfl) ?_
  refine lv_iload_n hx hb dL_law_544 rfl (lv_at hl 3 rfl) ?_
  refine lv_iconst (v := 5) hx hb dL_law_545 (by decide) ?_
  refine lv_iadd hx hb dL_law_546 ?_
  refine zk_top (v' := .int (nI (i + 5))) (congrArg Value.int (show nI i + 5 = nI (i + 5) from nI_add i 5)) ?_
  refine va_sld hx hb hX hbl hbA hS (vp_in_nI (show (i + 5) < L by omega) (by omega)) dL_law_547 ?_
  refine zk_top (v' := .int (xs (i + 5))) (by rw [nI_clamp (by omega)]) ?_
  refine lv_i2l (v := (Int32.toInt64 (xs (i + 5)))) hx hb dL_law_548 rfl ?_
  refine lv_ldc2 (v := 4294967295) hx hb hown (hts (.constantLong RL 22 (4294967295)) (by decide +kernel)) dL_law_549 ?_
  refine lv_land hx hb dL_law_552 ?_
  refine lv_lor hx hb dL_law_553 ?_
  refine zk_top (v' := .long (lw_J (xs (i + 4)) (xs (i + 5)))) rfl ?_
  refine zk_calli (va_runV (As := [.int (xs (i + 1)), .long (lw_J (xs (i + 2)) (xs (i + 3))), .long (lw_J (xs (i + 4)) (xs (i + 5)))]) (rest := [.int r_505]) ⟨hx, hb, hml, hown, hts⟩ (zc_X6_sampled l (X := ((zs_fsampled X.1 (xs (i + 1)) (lw_J (xs (i + 2)) (xs (i + 3))) (lw_J (xs (i + 4)) (xs (i + 5)))).2, X.2)) hR1 hI3 ht1 hc6 (xs (i + 1)) (lw_J (xs (i + 2)) (xs (i + 3))) (lw_J (xs (i + 4)) (xs (i + 5)))) (cwV 3 hts gL_law_X6_sampled rfl rfl rfl (by decide +kernel) ⟨Nat.le_of_ble_eq_true rfl, Nat.le_of_ble_eq_true rfl⟩) (zk_preV hH hK hN (hR1.1 (8, 0, 0) ⟨by decide, rfl⟩) rfl) rfl rfl hl.1 rfl (lv_room (Nat.le_of_ble_eq_true rfl)) dL_law_554 ⟨(Nat.le_trans (show 20 + 2 * t + 1 ≤ 600000 by omega) (Nat.le_of_ble_eq_true rfl)), (Nat.le_trans (show 37492 + 10 * t + 5 ≤ 7302250 by omega) (Nat.le_of_ble_eq_true rfl))⟩) hS (fun r_554 u_554 H locs hH hr_554 hS => ?_)
  obtain ⟨hr_2, ps, hR2⟩ : r_554 = (zs_fsampled X.2.1 (xs (i + 1)) (lw_J (xs (i + 2)) (xs (i + 3))) (lw_J (xs (i + 4)) (xs (i + 5)))).1 ∧ ∃ ps, zs_R g ((zs_fsampled X.1 (xs (i + 1)) (lw_J (xs (i + 2)) (xs (i + 3))) (lw_J (xs (i + 4)) (xs (i + 5)))).2, (zs_fsampled X.2.1 (xs (i + 1)) (lw_J (xs (i + 2)) (xs (i + 3))) (lw_J (xs (i + 4)) (xs (i + 5)))).2, ps) Z1 u_554 := hr_554
  have hE2 := zs_E_sampled hE (xs (i + 1)) (lw_J (xs (i + 2)) (xs (i + 3))) (lw_J (xs (i + 4)) (xs (i + 5)))
  refine lv_icmp_eq (tgt := 928) hx hb dL_law_557 (by decide) (fun h_557 => ?_) (fun h_557 => ?_)
  · skip
    rw [z5, z6] at hl
    refine W.widen (k := 20 + 2 * (t + 1)) (n := 37492 + 10 * (t + 1)) (by omega) (by omega) ?_
    exact K _ _ ls ⟨((zs_fsampled X.1 (xs (i + 1)) (lw_J (xs (i + 2)) (xs (i + 3))) (lw_J (xs (i + 4)) (xs (i + 5)))).2, (zs_fsampled X.2.1 (xs (i + 1)) (lw_J (xs (i + 2)) (xs (i + 3))) (lw_J (xs (i + 4)) (xs (i + 5)))).2, ps), Z1, u_554, hR2, zs_I_fsampled hI (xs (i + 1)) (lw_J (xs (i + 2)) (xs (i + 3))) (lw_J (xs (i + 4)) (xs (i + 5))), zs_I_fsampled hI2 (xs (i + 1)) (lw_J (xs (i + 2)) (xs (i + 3))) (lw_J (xs (i + 4)) (xs (i + 5))), hE2.2, z5, z6, hH, hS⟩ (lv_sub hl [0, 1, 2, 3] rfl)
  · skip
    exact absurd (hr_1.trans (hE2.1.symm.trans hr_2.symm)) h_557

set_option maxHeartbeats 4000000 in
set_option maxRecDepth 100000 in
theorem lw_case_6 {p : Program} {e : Env} {s : State} {m : MethodId} {below : List Frame} {meth : Method} {c : Code} (l : Launch) {b L : Nat} {xs : Nat → Int32} (hL : L ≤ 3584) (C0 : lw_At p s m meth c b L xs) {g : zk_G} (hK : va_K g.1 vwCl (zk_ty g) s) (hN : zk_N s) {t i : Nat} (hi : i + 7 ≤ L) (ht : i = 7 * t) {o5 o6 : Nat} (K : ∀ (H : Heap) (locs : List Loc) (ls : Array Slot), lw_I g s.heap.size (t + 1) o5 o6 s.heap H locs → lv_has ls 4 [(0, .ref b), (1, .ref o5), (2, .ref o6), (3, .int (nI i))] → W p l e room_1 s m #[Value.ref b] below meth c H locs (20 + 2 * (t + 1)) (37492 + 10 * (t + 1)) (lw_Z below #[Value.ref b] s) (F0 m 928 ls [])) : ∀ (H : Heap) (locs : List Loc) (ls : Array Slot), lw_I g s.heap.size t o5 o6 s.heap H locs → lv_has ls 4 [(0, .ref b), (1, .ref o5), (2, .ref o6), (3, .int (nI i))] → W p l e room_1 s m #[Value.ref b] below meth c H locs (20 + 2 * t) (37492 + 10 * t) (lw_Z below #[Value.ref b] s) (F0 m 562 ls []) := by
  obtain ⟨hx, hb, hr, hml, hown, hts0, hX, hbl, hlocks, hgv⟩ := C0
  have hown : s.vm.findClass RL = some m.cls := hown
  have hts : ∀ w ∈ wsL_law, w.before #[Value.ref b] s = true := fun w hw => hts0 w (wsL_law_in w hw)
  have hbA : ¬ (fun q : Nat => s.heap.size ≤ q) b := Nat.not_le.mpr hbl
  intro H locs ls hJ hl
  obtain ⟨X, Z, M, hR, hI, hI2, hE, e5, e6, hH, hS⟩ := hJ
  subst e5
  subst e6
  have hI1 := zs_I_mono hI
  have hI3 := zs_I_mono hI2
  have hc5 : zs_nc X.1 < 512 := by have := hI.1.2.2.2.2.1; omega
  have hc6 : zs_nc X.2.1 < t + 1 := Nat.lt_succ_of_le hI2.1.2.2.2.2.1
  have hl5 : zs_nl X.1 < t + 1 := Nat.lt_succ_of_le hI.1.2.2.2.1
  have hl6 : zs_nl X.2.1 < t + 1 := Nat.lt_succ_of_le hI2.1.2.2.2.1
  have ht1 : t + 1 ≤ 512 := by omega
  refine lv_aload_n hx hb dL_law_562 rfl (lv_at hl 1 rfl) ?_
  refine lv_aload_n hx hb dL_law_563 rfl (lv_at hl 0 rfl) ?_
  refine lv_iload_n hx hb dL_law_564 rfl (lv_at hl 3 rfl) ?_
  refine lv_iconst (v := 1) hx hb dL_law_565 (by decide) ?_
  refine lv_iadd hx hb dL_law_566 ?_
  refine zk_top (v' := .int (nI (i + 1))) (congrArg Value.int (show nI i + 1 = nI (i + 1) from nI_add i 1)) ?_
  refine va_sld hx hb hX hbl hbA hS (vp_in_nI (show (i + 1) < L by omega) (by omega)) dL_law_567 ?_
  refine zk_top (v' := .int (xs (i + 1))) (by rw [nI_clamp (by omega)]) ?_
  refine lv_aload_n hx hb dL_law_568 rfl (lv_at hl 0 rfl) ?_
  refine lv_iload_n hx hb dL_law_569 rfl (lv_at hl 3 rfl) ?_
  refine lv_iconst (v := 2) hx hb dL_law_570 (by decide) ?_
  refine lv_iadd hx hb dL_law_571 ?_
  refine zk_top (v' := .int (nI (i + 2))) (congrArg Value.int (show nI i + 2 = nI (i + 2) from nI_add i 2)) ?_
  refine va_sld hx hb hX hbl hbA hS (vp_in_nI (show (i + 2) < L by omega) (by omega)) dL_law_572 ?_
  refine zk_top (v' := .int (xs (i + 2))) (by rw [nI_clamp (by omega)]) ?_
  refine lv_i2l (v := (Int32.toInt64 (xs (i + 2)))) hx hb dL_law_573 rfl ?_
  refine lv_bipush (v := 32) hx hb dL_law_574 (by decide) ?_
  refine lv_lshl (v := ((Int32.toInt64 (xs (i + 2))) <<< (Int32.toInt64 32 &&& 63))) hx hb dL_law_576 rfl ?_
  refine lv_aload_n hx hb dL_law_577 rfl (lv_at hl 0 rfl) ?_
  refine lv_iload_n hx hb dL_law_578 rfl (lv_at hl 3 rfl) ?_
  refine lv_iconst (v := 3) hx hb dL_law_579 (by decide) ?_
  refine lv_iadd hx hb dL_law_580 ?_
  refine zk_top (v' := .int (nI (i + 3))) (congrArg Value.int (show nI i + 3 = nI (i + 3) from nI_add i 3)) ?_
  refine va_sld hx hb hX hbl hbA hS (vp_in_nI (show (i + 3) < L by omega) (by omega)) dL_law_581 ?_
  refine zk_top (v' := .int (xs (i + 3))) (by rw [nI_clamp (by omega)]) ?_
  refine lv_i2l (v := (Int32.toInt64 (xs (i + 3)))) hx hb dL_law_582 rfl ?_
  refine lv_ldc2 (v := 4294967295) hx hb hown (hts (.constantLong RL 22 (4294967295)) (by decide +kernel)) dL_law_583 ?_
  refine lv_land hx hb dL_law_586 ?_
  refine lv_lor hx hb dL_law_587 ?_
  refine zk_top (v' := .long (lw_J (xs (i + 2)) (xs (i + 3)))) rfl ?_
  refine lv_aload_n hx hb dL_law_588 rfl (lv_at hl 0 rfl) ?_
  refine lv_iload_n hx hb dL_law_589 rfl (lv_at hl 3 rfl) ?_
  refine lv_iconst (v := 4) hx hb dL_law_590 (by decide) ?_
  refine lv_iadd hx hb dL_law_591 ?_
  refine zk_top (v' := .int (nI (i + 4))) (congrArg Value.int (show nI i + 4 = nI (i + 4) from nI_add i 4)) ?_
  refine va_sld hx hb hX hbl hbA hS (vp_in_nI (show (i + 4) < L by omega) (by omega)) dL_law_592 ?_
  refine zk_top (v' := .int (xs (i + 4))) (by rw [nI_clamp (by omega)]) ?_
  refine lv_i2l (v := (Int32.toInt64 (xs (i + 4)))) hx hb dL_law_593 rfl ?_
  refine lv_bipush (v := 32) hx hb dL_law_594 (by decide) ?_
  refine lv_lshl (v := ((Int32.toInt64 (xs (i + 4))) <<< (Int32.toInt64 32 &&& 63))) hx hb dL_law_596 rfl ?_
  refine lv_aload_n hx hb dL_law_597 rfl (lv_at hl 0 rfl) ?_
  refine lv_iload_n hx hb dL_law_598 rfl (lv_at hl 3 rfl) ?_
  refine lv_iconst (v := 5) hx hb dL_law_599 (by decide) ?_
  refine lv_iadd hx hb dL_law_600 ?_
  refine zk_top (v' := .int (nI (i + 5))) (congrArg Value.int (show nI i + 5 = nI (i + 5) from nI_add i 5)) ?_
  refine va_sld hx hb hX hbl hbA hS (vp_in_nI (show (i + 5) < L by omega) (by omega)) dL_law_601 ?_
  refine zk_top (v' := .int (xs (i + 5))) (by rw [nI_clamp (by omega)]) ?_
  refine lv_i2l (v := (Int32.toInt64 (xs (i + 5)))) hx hb dL_law_602 rfl ?_
  refine lv_ldc2 (v := 4294967295) hx hb hown (hts (.constantLong RL 22 (4294967295)) (by decide +kernel)) dL_law_603 ?_
  refine lv_land hx hb dL_law_606 ?_
  refine lv_lor hx hb dL_law_607 ?_
  refine zk_top (v' := .long (lw_J (xs (i + 4)) (xs (i + 5)))) rfl ?_
  refine zk_calli (va_runV (As := [.int (xs (i + 1)), .long (lw_J (xs (i + 2)) (xs (i + 3))), .long (lw_J (xs (i + 4)) (xs (i + 5)))]) (rest := []) ⟨hx, hb, hml, hown, hts⟩ (zc_X5_share l hR hI1 (xs (i + 1)) (lw_J (xs (i + 2)) (xs (i + 3))) (lw_J (xs (i + 4)) (xs (i + 5)))) (cwV 3 hts gL_law_X5_share rfl rfl rfl (by decide +kernel) ⟨Nat.le_of_ble_eq_true rfl, Nat.le_of_ble_eq_true rfl⟩) (zk_preV hH hK hN (hR.1 (0, 0, 0) ⟨rfl, rfl⟩) rfl) rfl rfl hl.1 rfl (lv_room (Nat.le_of_ble_eq_true rfl)) dL_law_608 ⟨(Nat.le_trans (show 20 + 2 * t + 0 ≤ 600000 by omega) (Nat.le_of_ble_eq_true rfl)), (Nat.le_trans (show 37492 + 10 * t + 0 ≤ 7302250 by omega) (Nat.le_of_ble_eq_true rfl))⟩) hS (fun r_608 u_608 H locs hH hr_608 hS => ?_)
  obtain ⟨hr_1, Z1, hR1, hZ1⟩ := hr_608
  have z5 : Z1 (0, 0, 0) = Z (0, 0, 0) := hZ1 (0, 0, 0) ⟨rfl, rfl⟩
  have z6 : Z1 (8, 0, 0) = Z (8, 0, 0) := hZ1 (8, 0, 0) ⟨by decide, rfl⟩
  rw [← z5, ← z6] at hl
  have hl : lv_has ls 4 [(0, .ref b), (1, .ref (Z1 (0, 0, 0))), (2, .ref (Z1 (8, 0, 0))), (3, .int (nI i))] := hl
  refine lv_aload_n hx hb dL_law_611 rfl (lv_at hl 2 rfl) ?_
  refine lv_aload_n hx hb dL_law_612 rfl (lv_at hl 0 rfl) ?_
  refine lv_iload_n hx hb dL_law_613 rfl (lv_at hl 3 rfl) ?_
  refine lv_iconst (v := 1) hx hb dL_law_614 (by decide) ?_
  refine lv_iadd hx hb dL_law_615 ?_
  refine zk_top (v' := .int (nI (i + 1))) (congrArg Value.int (show nI i + 1 = nI (i + 1) from nI_add i 1)) ?_
  refine va_sld hx hb hX hbl hbA hS (vp_in_nI (show (i + 1) < L by omega) (by omega)) dL_law_616 ?_
  refine zk_top (v' := .int (xs (i + 1))) (by rw [nI_clamp (by omega)]) ?_
  refine lv_aload_n hx hb dL_law_617 rfl (lv_at hl 0 rfl) ?_
  refine lv_iload_n hx hb dL_law_618 rfl (lv_at hl 3 rfl) ?_
  refine lv_iconst (v := 2) hx hb dL_law_619 (by decide) ?_
  refine lv_iadd hx hb dL_law_620 ?_
  refine zk_top (v' := .int (nI (i + 2))) (congrArg Value.int (show nI i + 2 = nI (i + 2) from nI_add i 2)) ?_
  refine va_sld hx hb hX hbl hbA hS (vp_in_nI (show (i + 2) < L by omega) (by omega)) dL_law_621 ?_
  refine zk_top (v' := .int (xs (i + 2))) (by rw [nI_clamp (by omega)]) ?_
  refine lv_i2l (v := (Int32.toInt64 (xs (i + 2)))) hx hb dL_law_622 rfl ?_
  refine lv_bipush (v := 32) hx hb dL_law_623 (by decide) ?_
  refine lv_lshl (v := ((Int32.toInt64 (xs (i + 2))) <<< (Int32.toInt64 32 &&& 63))) hx hb dL_law_625 rfl ?_
  refine lv_aload_n hx hb dL_law_626 rfl (lv_at hl 0 rfl) ?_
  refine lv_iload_n hx hb dL_law_627 rfl (lv_at hl 3 rfl) ?_
  refine lv_iconst (v := 3) hx hb dL_law_628 (by decide) ?_
  refine lv_iadd hx hb dL_law_629 ?_
  refine zk_top (v' := .int (nI (i + 3))) (congrArg Value.int (show nI i + 3 = nI (i + 3) from nI_add i 3)) ?_
  refine va_sld hx hb hX hbl hbA hS (vp_in_nI (show (i + 3) < L by omega) (by omega)) dL_law_630 ?_
  refine zk_top (v' := .int (xs (i + 3))) (by rw [nI_clamp (by omega)]) ?_
  refine lv_i2l (v := (Int32.toInt64 (xs (i + 3)))) hx hb dL_law_631 rfl ?_
  refine lv_ldc2 (v := 4294967295) hx hb hown (hts (.constantLong RL 22 (4294967295)) (by decide +kernel)) dL_law_632 ?_
  refine lv_land hx hb dL_law_635 ?_
  refine lv_lor hx hb dL_law_636 ?_
  refine zk_top (v' := .long (lw_J (xs (i + 2)) (xs (i + 3)))) rfl ?_
  refine lv_aload_n hx hb dL_law_637 rfl (lv_at hl 0 rfl) ?_
  refine lv_iload_n hx hb dL_law_638 rfl (lv_at hl 3 rfl) ?_
  refine lv_iconst (v := 4) hx hb dL_law_639 (by decide) ?_
  refine lv_iadd hx hb dL_law_640 ?_
  refine zk_top (v' := .int (nI (i + 4))) (congrArg Value.int (show nI i + 4 = nI (i + 4) from nI_add i 4)) ?_
  refine va_sld hx hb hX hbl hbA hS (vp_in_nI (show (i + 4) < L by omega) (by omega)) dL_law_641 ?_
  refine zk_top (v' := .int (xs (i + 4))) (by rw [nI_clamp (by omega)]) ?_
  refine lv_i2l (v := (Int32.toInt64 (xs (i + 4)))) hx hb dL_law_642 rfl ?_
  refine lv_bipush (v := 32) hx hb dL_law_643 (by decide) ?_
  refine lv_lshl (v := ((Int32.toInt64 (xs (i + 4))) <<< (Int32.toInt64 32 &&& 63))) hx hb dL_law_645 rfl ?_
  refine lv_aload_n hx hb dL_law_646 rfl (lv_at hl 0 rfl) ?_
  refine lv_iload_n hx hb dL_law_647 rfl (lv_at hl 3 rfl) ?_
  refine lv_iconst (v := 5) hx hb dL_law_648 (by decide) ?_
  refine lv_iadd hx hb dL_law_649 ?_
  refine zk_top (v' := .int (nI (i + 5))) (congrArg Value.int (show nI i + 5 = nI (i + 5) from nI_add i 5)) ?_
  refine va_sld hx hb hX hbl hbA hS (vp_in_nI (show (i + 5) < L by omega) (by omega)) dL_law_650 ?_
  refine zk_top (v' := .int (xs (i + 5))) (by rw [nI_clamp (by omega)]) ?_
  refine lv_i2l (v := (Int32.toInt64 (xs (i + 5)))) hx hb dL_law_651 rfl ?_
  refine lv_ldc2 (v := 4294967295) hx hb hown (hts (.constantLong RL 22 (4294967295)) (by decide +kernel)) dL_law_652 ?_
  refine lv_land hx hb dL_law_655 ?_
  refine lv_lor hx hb dL_law_656 ?_
  refine zk_top (v' := .long (lw_J (xs (i + 4)) (xs (i + 5)))) rfl ?_
  refine zk_calli (va_runV (As := [.int (xs (i + 1)), .long (lw_J (xs (i + 2)) (xs (i + 3))), .long (lw_J (xs (i + 4)) (xs (i + 5)))]) (rest := [.int r_608]) ⟨hx, hb, hml, hown, hts⟩ (zc_X6_share l (X := ((zs_fshare X.1 (xs (i + 1)) (lw_J (xs (i + 2)) (xs (i + 3))) (lw_J (xs (i + 4)) (xs (i + 5)))).2, X.2)) hR1 hI3 ht1 (xs (i + 1)) (lw_J (xs (i + 2)) (xs (i + 3))) (lw_J (xs (i + 4)) (xs (i + 5)))) (cwV 3 hts gL_law_X6_share rfl rfl rfl (by decide +kernel) ⟨Nat.le_of_ble_eq_true rfl, Nat.le_of_ble_eq_true rfl⟩) (zk_preV hH hK hN (hR1.1 (8, 0, 0) ⟨by decide, rfl⟩) rfl) rfl rfl hl.1 rfl (lv_room (Nat.le_of_ble_eq_true rfl)) dL_law_657 ⟨(Nat.le_trans (show 20 + 2 * t + 0 ≤ 600000 by omega) (Nat.le_of_ble_eq_true rfl)), (Nat.le_trans (show 37492 + 10 * t + 0 ≤ 7302250 by omega) (Nat.le_of_ble_eq_true rfl))⟩) hS (fun r_657 u_657 H locs hH hr_657 hS => ?_)
  obtain ⟨hr_2, ps, hR2⟩ : r_657 = (zs_fshare X.2.1 (xs (i + 1)) (lw_J (xs (i + 2)) (xs (i + 3))) (lw_J (xs (i + 4)) (xs (i + 5)))).1 ∧ ∃ ps, zs_R g ((zs_fshare X.1 (xs (i + 1)) (lw_J (xs (i + 2)) (xs (i + 3))) (lw_J (xs (i + 4)) (xs (i + 5)))).2, (zs_fshare X.2.1 (xs (i + 1)) (lw_J (xs (i + 2)) (xs (i + 3))) (lw_J (xs (i + 4)) (xs (i + 5)))).2, ps) Z1 u_657 := hr_657
  have hE2 := zs_E_share hE (xs (i + 1)) (lw_J (xs (i + 2)) (xs (i + 3))) (lw_J (xs (i + 4)) (xs (i + 5)))
  refine lv_icmp_eq (tgt := 928) hx hb dL_law_660 (by decide) (fun h_660 => ?_) (fun h_660 => ?_)
  · skip
    rw [z5, z6] at hl
    refine W.widen (k := 20 + 2 * (t + 1)) (n := 37492 + 10 * (t + 1)) (by omega) (by omega) ?_
    exact K _ _ ls ⟨((zs_fshare X.1 (xs (i + 1)) (lw_J (xs (i + 2)) (xs (i + 3))) (lw_J (xs (i + 4)) (xs (i + 5)))).2, (zs_fshare X.2.1 (xs (i + 1)) (lw_J (xs (i + 2)) (xs (i + 3))) (lw_J (xs (i + 4)) (xs (i + 5)))).2, ps), Z1, u_657, hR2, zs_I_fshare hI (xs (i + 1)) (lw_J (xs (i + 2)) (xs (i + 3))) (lw_J (xs (i + 4)) (xs (i + 5))), zs_I_fshare hI2 (xs (i + 1)) (lw_J (xs (i + 2)) (xs (i + 3))) (lw_J (xs (i + 4)) (xs (i + 5))), hE2.2, z5, z6, hH, hS⟩ (lv_sub hl [0, 1, 2, 3] rfl)
  · skip
    exact absurd (hr_1.trans (hE2.1.symm.trans hr_2.symm)) h_660

set_option maxHeartbeats 4000000 in
set_option maxRecDepth 100000 in
theorem lw_case_7 {p : Program} {e : Env} {s : State} {m : MethodId} {below : List Frame} {meth : Method} {c : Code} (l : Launch) {b L : Nat} {xs : Nat → Int32} (hL : L ≤ 3584) (C0 : lw_At p s m meth c b L xs) {g : zk_G} (hK : va_K g.1 vwCl (zk_ty g) s) (hN : zk_N s) {t i : Nat} (hi : i + 7 ≤ L) (ht : i = 7 * t) {o5 o6 : Nat} (K : ∀ (H : Heap) (locs : List Loc) (ls : Array Slot), lw_I g s.heap.size (t + 1) o5 o6 s.heap H locs → lv_has ls 4 [(0, .ref b), (1, .ref o5), (2, .ref o6), (3, .int (nI i))] → W p l e room_1 s m #[Value.ref b] below meth c H locs (20 + 2 * (t + 1)) (37492 + 10 * (t + 1)) (lw_Z below #[Value.ref b] s) (F0 m 928 ls [])) : ∀ (H : Heap) (locs : List Loc) (ls : Array Slot), lw_I g s.heap.size t o5 o6 s.heap H locs → lv_has ls 4 [(0, .ref b), (1, .ref o5), (2, .ref o6), (3, .int (nI i))] → W p l e room_1 s m #[Value.ref b] below meth c H locs (20 + 2 * t) (37492 + 10 * t) (lw_Z below #[Value.ref b] s) (F0 m 665 ls []) := by
  obtain ⟨hx, hb, hr, hml, hown, hts0, hX, hbl, hlocks, hgv⟩ := C0
  have hown : s.vm.findClass RL = some m.cls := hown
  have hts : ∀ w ∈ wsL_law, w.before #[Value.ref b] s = true := fun w hw => hts0 w (wsL_law_in w hw)
  have hbA : ¬ (fun q : Nat => s.heap.size ≤ q) b := Nat.not_le.mpr hbl
  intro H locs ls hJ hl
  obtain ⟨X, Z, M, hR, hI, hI2, hE, e5, e6, hH, hS⟩ := hJ
  subst e5
  subst e6
  have hI1 := zs_I_mono hI
  have hI3 := zs_I_mono hI2
  have hc5 : zs_nc X.1 < 512 := by have := hI.1.2.2.2.2.1; omega
  have hc6 : zs_nc X.2.1 < t + 1 := Nat.lt_succ_of_le hI2.1.2.2.2.2.1
  have hl5 : zs_nl X.1 < t + 1 := Nat.lt_succ_of_le hI.1.2.2.2.1
  have hl6 : zs_nl X.2.1 < t + 1 := Nat.lt_succ_of_le hI2.1.2.2.2.1
  have ht1 : t + 1 ≤ 512 := by omega
  refine lv_aload_n hx hb dL_law_665 rfl (lv_at hl 1 rfl) ?_
  refine lv_aload_n hx hb dL_law_666 rfl (lv_at hl 0 rfl) ?_
  refine lv_iload_n hx hb dL_law_667 rfl (lv_at hl 3 rfl) ?_
  refine lv_iconst (v := 1) hx hb dL_law_668 (by decide) ?_
  refine lv_iadd hx hb dL_law_669 ?_
  refine zk_top (v' := .int (nI (i + 1))) (congrArg Value.int (show nI i + 1 = nI (i + 1) from nI_add i 1)) ?_
  refine va_sld hx hb hX hbl hbA hS (vp_in_nI (show (i + 1) < L by omega) (by omega)) dL_law_670 ?_
  refine zk_top (v' := .int (xs (i + 1))) (by rw [nI_clamp (by omega)]) ?_
  refine lv_aload_n hx hb dL_law_671 rfl (lv_at hl 0 rfl) ?_
  refine lv_iload_n hx hb dL_law_672 rfl (lv_at hl 3 rfl) ?_
  refine lv_iconst (v := 2) hx hb dL_law_673 (by decide) ?_
  refine lv_iadd hx hb dL_law_674 ?_
  refine zk_top (v' := .int (nI (i + 2))) (congrArg Value.int (show nI i + 2 = nI (i + 2) from nI_add i 2)) ?_
  refine va_sld hx hb hX hbl hbA hS (vp_in_nI (show (i + 2) < L by omega) (by omega)) dL_law_675 ?_
  refine zk_top (v' := .int (xs (i + 2))) (by rw [nI_clamp (by omega)]) ?_
  refine lv_i2l (v := (Int32.toInt64 (xs (i + 2)))) hx hb dL_law_676 rfl ?_
  refine lv_bipush (v := 32) hx hb dL_law_677 (by decide) ?_
  refine lv_lshl (v := ((Int32.toInt64 (xs (i + 2))) <<< (Int32.toInt64 32 &&& 63))) hx hb dL_law_679 rfl ?_
  refine lv_aload_n hx hb dL_law_680 rfl (lv_at hl 0 rfl) ?_
  refine lv_iload_n hx hb dL_law_681 rfl (lv_at hl 3 rfl) ?_
  refine lv_iconst (v := 3) hx hb dL_law_682 (by decide) ?_
  refine lv_iadd hx hb dL_law_683 ?_
  refine zk_top (v' := .int (nI (i + 3))) (congrArg Value.int (show nI i + 3 = nI (i + 3) from nI_add i 3)) ?_
  refine va_sld hx hb hX hbl hbA hS (vp_in_nI (show (i + 3) < L by omega) (by omega)) dL_law_684 ?_
  refine zk_top (v' := .int (xs (i + 3))) (by rw [nI_clamp (by omega)]) ?_
  refine lv_i2l (v := (Int32.toInt64 (xs (i + 3)))) hx hb dL_law_685 rfl ?_
  refine lv_ldc2 (v := 4294967295) hx hb hown (hts (.constantLong RL 22 (4294967295)) (by decide +kernel)) dL_law_686 ?_
  refine lv_land hx hb dL_law_689 ?_
  refine lv_lor hx hb dL_law_690 ?_
  refine zk_top (v' := .long (lw_J (xs (i + 2)) (xs (i + 3)))) rfl ?_
  refine vp_callSl (W.runV (As := [.int (xs (i + 1)), .long (lw_J (xs (i + 2)) (xs (i + 3)))]) (rest := []) ⟨hx, hb, hml, hown, hts⟩ (zc_X5_balance l hR hI1 (xs (i + 1)) (lw_J (xs (i + 2)) (xs (i + 3)))) (cwV 2 hts gL_law_X5_balance rfl rfl rfl (by decide +kernel) ⟨Nat.le_of_ble_eq_true rfl, Nat.le_of_ble_eq_true rfl⟩) (zk_preV hH hK hN (hR.1 (0, 0, 0) ⟨rfl, rfl⟩) rfl) rfl rfl hl.1 rfl (lv_room (Nat.le_of_ble_eq_true rfl)) dL_law_691 ⟨(Nat.le_trans (show 20 + 2 * t + 0 ≤ 600000 by omega) (Nat.le_of_ble_eq_true rfl)), (Nat.le_trans (show 37492 + 10 * t + 0 ≤ 7302250 by omega) (Nat.le_of_ble_eq_true rfl))⟩) (fun r_691 hr_691 => ?_)
  refine lv_aload_n hx hb dL_law_694 rfl (lv_at hl 2 rfl) ?_
  refine lv_aload_n hx hb dL_law_695 rfl (lv_at hl 0 rfl) ?_
  refine lv_iload_n hx hb dL_law_696 rfl (lv_at hl 3 rfl) ?_
  refine lv_iconst (v := 1) hx hb dL_law_697 (by decide) ?_
  refine lv_iadd hx hb dL_law_698 ?_
  refine zk_top (v' := .int (nI (i + 1))) (congrArg Value.int (show nI i + 1 = nI (i + 1) from nI_add i 1)) ?_
  refine va_sld hx hb hX hbl hbA hS (vp_in_nI (show (i + 1) < L by omega) (by omega)) dL_law_699 ?_
  refine zk_top (v' := .int (xs (i + 1))) (by rw [nI_clamp (by omega)]) ?_
  refine lv_aload_n hx hb dL_law_700 rfl (lv_at hl 0 rfl) ?_
  refine lv_iload_n hx hb dL_law_701 rfl (lv_at hl 3 rfl) ?_
  refine lv_iconst (v := 2) hx hb dL_law_702 (by decide) ?_
  refine lv_iadd hx hb dL_law_703 ?_
  refine zk_top (v' := .int (nI (i + 2))) (congrArg Value.int (show nI i + 2 = nI (i + 2) from nI_add i 2)) ?_
  refine va_sld hx hb hX hbl hbA hS (vp_in_nI (show (i + 2) < L by omega) (by omega)) dL_law_704 ?_
  refine zk_top (v' := .int (xs (i + 2))) (by rw [nI_clamp (by omega)]) ?_
  refine lv_i2l (v := (Int32.toInt64 (xs (i + 2)))) hx hb dL_law_705 rfl ?_
  refine lv_bipush (v := 32) hx hb dL_law_706 (by decide) ?_
  refine lv_lshl (v := ((Int32.toInt64 (xs (i + 2))) <<< (Int32.toInt64 32 &&& 63))) hx hb dL_law_708 rfl ?_
  refine lv_aload_n hx hb dL_law_709 rfl (lv_at hl 0 rfl) ?_
  refine lv_iload_n hx hb dL_law_710 rfl (lv_at hl 3 rfl) ?_
  refine lv_iconst (v := 3) hx hb dL_law_711 (by decide) ?_
  refine lv_iadd hx hb dL_law_712 ?_
  refine zk_top (v' := .int (nI (i + 3))) (congrArg Value.int (show nI i + 3 = nI (i + 3) from nI_add i 3)) ?_
  refine va_sld hx hb hX hbl hbA hS (vp_in_nI (show (i + 3) < L by omega) (by omega)) dL_law_713 ?_
  refine zk_top (v' := .int (xs (i + 3))) (by rw [nI_clamp (by omega)]) ?_
  refine lv_i2l (v := (Int32.toInt64 (xs (i + 3)))) hx hb dL_law_714 rfl ?_
  refine lv_ldc2 (v := 4294967295) hx hb hown (hts (.constantLong RL 22 (4294967295)) (by decide +kernel)) dL_law_715 ?_
  refine lv_land hx hb dL_law_718 ?_
  refine lv_lor hx hb dL_law_719 ?_
  refine zk_top (v' := .long (lw_J (xs (i + 2)) (xs (i + 3)))) rfl ?_
  refine vp_callSl (W.runV (As := [.int (xs (i + 1)), .long (lw_J (xs (i + 2)) (xs (i + 3)))]) (rest := [.long r_691]) ⟨hx, hb, hml, hown, hts⟩ (zc_X6_balance l hR hI3 ht1 (xs (i + 1)) (lw_J (xs (i + 2)) (xs (i + 3)))) (cwV 2 hts gL_law_X6_balance rfl rfl rfl (by decide +kernel) ⟨Nat.le_of_ble_eq_true rfl, Nat.le_of_ble_eq_true rfl⟩) (zk_preV hH hK hN (hR.1 (8, 0, 0) ⟨by decide, rfl⟩) rfl) rfl rfl hl.1 rfl (lv_room (Nat.le_of_ble_eq_true rfl)) dL_law_720 ⟨(Nat.le_trans (show 20 + 2 * t + 0 ≤ 600000 by omega) (Nat.le_of_ble_eq_true rfl)), (Nat.le_trans (show 37492 + 10 * t + 0 ≤ 7302250 by omega) (Nat.le_of_ble_eq_true rfl))⟩) (fun r_720 hr_720 => ?_)
  refine zk_lc_eq (tgt := 928) hx hb dL_law_723 dL_law_724 (by decide) (fun h_723 => ?_) (fun h_723 => ?_)
  · skip
    refine W.widen (k := 20 + 2 * (t + 1)) (n := 37492 + 10 * (t + 1)) (by omega) (by omega) ?_
    exact K _ _ ls ⟨X, Z, M, hR, hI1, hI3, hE, rfl, rfl, hH, hS⟩ (lv_sub hl [0, 1, 2, 3] rfl)
  · skip
    exact absurd (hr_691.trans ((zs_E_balance hE (xs (i + 1)) (lw_J (xs (i + 2)) (xs (i + 3)))).symm.trans hr_720.symm)) h_723

set_option maxHeartbeats 4000000 in
set_option maxRecDepth 100000 in
theorem lw_case_8 {p : Program} {e : Env} {s : State} {m : MethodId} {below : List Frame} {meth : Method} {c : Code} (l : Launch) {b L : Nat} {xs : Nat → Int32} (hL : L ≤ 3584) (C0 : lw_At p s m meth c b L xs) {g : zk_G} (hK : va_K g.1 vwCl (zk_ty g) s) (hN : zk_N s) {t i : Nat} (hi : i + 7 ≤ L) (ht : i = 7 * t) {o5 o6 : Nat} (K : ∀ (H : Heap) (locs : List Loc) (ls : Array Slot), lw_I g s.heap.size (t + 1) o5 o6 s.heap H locs → lv_has ls 4 [(0, .ref b), (1, .ref o5), (2, .ref o6), (3, .int (nI i))] → W p l e room_1 s m #[Value.ref b] below meth c H locs (20 + 2 * (t + 1)) (37492 + 10 * (t + 1)) (lw_Z below #[Value.ref b] s) (F0 m 928 ls [])) : ∀ (H : Heap) (locs : List Loc) (ls : Array Slot), lw_I g s.heap.size t o5 o6 s.heap H locs → lv_has ls 4 [(0, .ref b), (1, .ref o5), (2, .ref o6), (3, .int (nI i))] → W p l e room_1 s m #[Value.ref b] below meth c H locs (20 + 2 * t) (37492 + 10 * t) (lw_Z below #[Value.ref b] s) (F0 m 729 ls []) := by
  obtain ⟨hx, hb, hr, hml, hown, hts0, hX, hbl, hlocks, hgv⟩ := C0
  have hown : s.vm.findClass RL = some m.cls := hown
  have hts : ∀ w ∈ wsL_law, w.before #[Value.ref b] s = true := fun w hw => hts0 w (wsL_law_in w hw)
  have hbA : ¬ (fun q : Nat => s.heap.size ≤ q) b := Nat.not_le.mpr hbl
  intro H locs ls hJ hl
  obtain ⟨X, Z, M, hR, hI, hI2, hE, e5, e6, hH, hS⟩ := hJ
  subst e5
  subst e6
  have hI1 := zs_I_mono hI
  have hI3 := zs_I_mono hI2
  have hc5 : zs_nc X.1 < 512 := by have := hI.1.2.2.2.2.1; omega
  have hc6 : zs_nc X.2.1 < t + 1 := Nat.lt_succ_of_le hI2.1.2.2.2.2.1
  have hl5 : zs_nl X.1 < t + 1 := Nat.lt_succ_of_le hI.1.2.2.2.1
  have hl6 : zs_nl X.2.1 < t + 1 := Nat.lt_succ_of_le hI2.1.2.2.2.1
  have ht1 : t + 1 ≤ 512 := by omega
  refine lv_aload_n hx hb dL_law_729 rfl (lv_at hl 1 rfl) ?_
  refine lv_aload_n hx hb dL_law_730 rfl (lv_at hl 0 rfl) ?_
  refine lv_iload_n hx hb dL_law_731 rfl (lv_at hl 3 rfl) ?_
  refine lv_iconst (v := 1) hx hb dL_law_732 (by decide) ?_
  refine lv_iadd hx hb dL_law_733 ?_
  refine zk_top (v' := .int (nI (i + 1))) (congrArg Value.int (show nI i + 1 = nI (i + 1) from nI_add i 1)) ?_
  refine va_sld hx hb hX hbl hbA hS (vp_in_nI (show (i + 1) < L by omega) (by omega)) dL_law_734 ?_
  refine zk_top (v' := .int (xs (i + 1))) (by rw [nI_clamp (by omega)]) ?_
  refine lv_aload_n hx hb dL_law_735 rfl (lv_at hl 0 rfl) ?_
  refine lv_iload_n hx hb dL_law_736 rfl (lv_at hl 3 rfl) ?_
  refine lv_iconst (v := 2) hx hb dL_law_737 (by decide) ?_
  refine lv_iadd hx hb dL_law_738 ?_
  refine zk_top (v' := .int (nI (i + 2))) (congrArg Value.int (show nI i + 2 = nI (i + 2) from nI_add i 2)) ?_
  refine va_sld hx hb hX hbl hbA hS (vp_in_nI (show (i + 2) < L by omega) (by omega)) dL_law_739 ?_
  refine zk_top (v' := .int (xs (i + 2))) (by rw [nI_clamp (by omega)]) ?_
  refine vp_callSl (W.runV (As := [.int (xs (i + 1)), .int (xs (i + 2))]) (rest := []) ⟨hx, hb, hml, hown, hts⟩ (zc_X5_count l hR hI1 (xs (i + 1)) (xs (i + 2))) (cwV 2 hts gL_law_X5_count rfl rfl rfl (by decide +kernel) ⟨Nat.le_of_ble_eq_true rfl, Nat.le_of_ble_eq_true rfl⟩) (zk_preV hH hK hN (hR.1 (0, 0, 0) ⟨rfl, rfl⟩) rfl) rfl rfl hl.1 rfl (lv_room (Nat.le_of_ble_eq_true rfl)) dL_law_740 ⟨(Nat.le_trans (show 20 + 2 * t + 0 ≤ 600000 by omega) (Nat.le_of_ble_eq_true rfl)), (Nat.le_trans (show 37492 + 10 * t + 0 ≤ 7302250 by omega) (Nat.le_of_ble_eq_true rfl))⟩) (fun r_740 hr_740 => ?_)
  refine lv_aload_n hx hb dL_law_743 rfl (lv_at hl 2 rfl) ?_
  refine lv_aload_n hx hb dL_law_744 rfl (lv_at hl 0 rfl) ?_
  refine lv_iload_n hx hb dL_law_745 rfl (lv_at hl 3 rfl) ?_
  refine lv_iconst (v := 1) hx hb dL_law_746 (by decide) ?_
  refine lv_iadd hx hb dL_law_747 ?_
  refine zk_top (v' := .int (nI (i + 1))) (congrArg Value.int (show nI i + 1 = nI (i + 1) from nI_add i 1)) ?_
  refine va_sld hx hb hX hbl hbA hS (vp_in_nI (show (i + 1) < L by omega) (by omega)) dL_law_748 ?_
  refine zk_top (v' := .int (xs (i + 1))) (by rw [nI_clamp (by omega)]) ?_
  refine lv_aload_n hx hb dL_law_749 rfl (lv_at hl 0 rfl) ?_
  refine lv_iload_n hx hb dL_law_750 rfl (lv_at hl 3 rfl) ?_
  refine lv_iconst (v := 2) hx hb dL_law_751 (by decide) ?_
  refine lv_iadd hx hb dL_law_752 ?_
  refine zk_top (v' := .int (nI (i + 2))) (congrArg Value.int (show nI i + 2 = nI (i + 2) from nI_add i 2)) ?_
  refine va_sld hx hb hX hbl hbA hS (vp_in_nI (show (i + 2) < L by omega) (by omega)) dL_law_753 ?_
  refine zk_top (v' := .int (xs (i + 2))) (by rw [nI_clamp (by omega)]) ?_
  refine vp_callSl (W.runV (As := [.int (xs (i + 1)), .int (xs (i + 2))]) (rest := [.long r_740]) ⟨hx, hb, hml, hown, hts⟩ (zc_X6_count l hR hI3 ht1 (xs (i + 1)) (xs (i + 2))) (cwV 2 hts gL_law_X6_count rfl rfl rfl (by decide +kernel) ⟨Nat.le_of_ble_eq_true rfl, Nat.le_of_ble_eq_true rfl⟩) (zk_preV hH hK hN (hR.1 (8, 0, 0) ⟨by decide, rfl⟩) rfl) rfl rfl hl.1 rfl (lv_room (Nat.le_of_ble_eq_true rfl)) dL_law_754 ⟨(Nat.le_trans (show 20 + 2 * t + 0 ≤ 600000 by omega) (Nat.le_of_ble_eq_true rfl)), (Nat.le_trans (show 37492 + 10 * t + 0 ≤ 7302250 by omega) (Nat.le_of_ble_eq_true rfl))⟩) (fun r_754 hr_754 => ?_)
  refine zk_lc_eq (tgt := 928) hx hb dL_law_757 dL_law_758 (by decide) (fun h_757 => ?_) (fun h_757 => ?_)
  · skip
    refine W.widen (k := 20 + 2 * (t + 1)) (n := 37492 + 10 * (t + 1)) (by omega) (by omega) ?_
    exact K _ _ ls ⟨X, Z, M, hR, hI1, hI3, hE, rfl, rfl, hH, hS⟩ (lv_sub hl [0, 1, 2, 3] rfl)
  · skip
    exact absurd (hr_740.trans ((zs_E_count hE (xs (i + 1)) (xs (i + 2))).symm.trans hr_754.symm)) h_757

set_option maxHeartbeats 4000000 in
set_option maxRecDepth 100000 in
theorem lw_case_9 {p : Program} {e : Env} {s : State} {m : MethodId} {below : List Frame} {meth : Method} {c : Code} (l : Launch) {b L : Nat} {xs : Nat → Int32} (hL : L ≤ 3584) (C0 : lw_At p s m meth c b L xs) {g : zk_G} (hK : va_K g.1 vwCl (zk_ty g) s) (hN : zk_N s) {t i : Nat} (hi : i + 7 ≤ L) (ht : i = 7 * t) {o5 o6 : Nat} (K : ∀ (H : Heap) (locs : List Loc) (ls : Array Slot), lw_I g s.heap.size (t + 1) o5 o6 s.heap H locs → lv_has ls 4 [(0, .ref b), (1, .ref o5), (2, .ref o6), (3, .int (nI i))] → W p l e room_1 s m #[Value.ref b] below meth c H locs (20 + 2 * (t + 1)) (37492 + 10 * (t + 1)) (lw_Z below #[Value.ref b] s) (F0 m 928 ls [])) : ∀ (H : Heap) (locs : List Loc) (ls : Array Slot), lw_I g s.heap.size t o5 o6 s.heap H locs → lv_has ls 4 [(0, .ref b), (1, .ref o5), (2, .ref o6), (3, .int (nI i))] → W p l e room_1 s m #[Value.ref b] below meth c H locs (20 + 2 * t) (37492 + 10 * t) (lw_Z below #[Value.ref b] s) (F0 m 763 ls []) := by
  obtain ⟨hx, hb, hr, hml, hown, hts0, hX, hbl, hlocks, hgv⟩ := C0
  have hown : s.vm.findClass RL = some m.cls := hown
  have hts : ∀ w ∈ wsL_law, w.before #[Value.ref b] s = true := fun w hw => hts0 w (wsL_law_in w hw)
  have hbA : ¬ (fun q : Nat => s.heap.size ≤ q) b := Nat.not_le.mpr hbl
  intro H locs ls hJ hl
  obtain ⟨X, Z, M, hR, hI, hI2, hE, e5, e6, hH, hS⟩ := hJ
  subst e5
  subst e6
  have hI1 := zs_I_mono hI
  have hI3 := zs_I_mono hI2
  have hc5 : zs_nc X.1 < 512 := by have := hI.1.2.2.2.2.1; omega
  have hc6 : zs_nc X.2.1 < t + 1 := Nat.lt_succ_of_le hI2.1.2.2.2.2.1
  have hl5 : zs_nl X.1 < t + 1 := Nat.lt_succ_of_le hI.1.2.2.2.1
  have hl6 : zs_nl X.2.1 < t + 1 := Nat.lt_succ_of_le hI2.1.2.2.2.1
  have ht1 : t + 1 ≤ 512 := by omega
  refine lv_aload_n hx hb dL_law_763 rfl (lv_at hl 1 rfl) ?_
  refine lv_aload_n hx hb dL_law_764 rfl (lv_at hl 0 rfl) ?_
  refine lv_iload_n hx hb dL_law_765 rfl (lv_at hl 3 rfl) ?_
  refine lv_iconst (v := 1) hx hb dL_law_766 (by decide) ?_
  refine lv_iadd hx hb dL_law_767 ?_
  refine zk_top (v' := .int (nI (i + 1))) (congrArg Value.int (show nI i + 1 = nI (i + 1) from nI_add i 1)) ?_
  refine va_sld hx hb hX hbl hbA hS (vp_in_nI (show (i + 1) < L by omega) (by omega)) dL_law_768 ?_
  refine zk_top (v' := .int (xs (i + 1))) (by rw [nI_clamp (by omega)]) ?_
  refine lv_aload_n hx hb dL_law_769 rfl (lv_at hl 0 rfl) ?_
  refine lv_iload_n hx hb dL_law_770 rfl (lv_at hl 3 rfl) ?_
  refine lv_iconst (v := 2) hx hb dL_law_771 (by decide) ?_
  refine lv_iadd hx hb dL_law_772 ?_
  refine zk_top (v' := .int (nI (i + 2))) (congrArg Value.int (show nI i + 2 = nI (i + 2) from nI_add i 2)) ?_
  refine va_sld hx hb hX hbl hbA hS (vp_in_nI (show (i + 2) < L by omega) (by omega)) dL_law_773 ?_
  refine zk_top (v' := .int (xs (i + 2))) (by rw [nI_clamp (by omega)]) ?_
  refine vp_callSl (W.runV (As := [.int (xs (i + 1)), .int (xs (i + 2))]) (rest := []) ⟨hx, hb, hml, hown, hts⟩ (zc_X5_lost l hR hI1 (xs (i + 1)) (xs (i + 2))) (cwV 2 hts gL_law_X5_lost rfl rfl rfl (by decide +kernel) ⟨Nat.le_of_ble_eq_true rfl, Nat.le_of_ble_eq_true rfl⟩) (zk_preV hH hK hN (hR.1 (0, 0, 0) ⟨rfl, rfl⟩) rfl) rfl rfl hl.1 rfl (lv_room (Nat.le_of_ble_eq_true rfl)) dL_law_774 ⟨(Nat.le_trans (show 20 + 2 * t + 0 ≤ 600000 by omega) (Nat.le_of_ble_eq_true rfl)), (Nat.le_trans (show 37492 + 10 * t + 0 ≤ 7302250 by omega) (Nat.le_of_ble_eq_true rfl))⟩) (fun r_774 hr_774 => ?_)
  refine lv_aload_n hx hb dL_law_777 rfl (lv_at hl 2 rfl) ?_
  refine lv_aload_n hx hb dL_law_778 rfl (lv_at hl 0 rfl) ?_
  refine lv_iload_n hx hb dL_law_779 rfl (lv_at hl 3 rfl) ?_
  refine lv_iconst (v := 1) hx hb dL_law_780 (by decide) ?_
  refine lv_iadd hx hb dL_law_781 ?_
  refine zk_top (v' := .int (nI (i + 1))) (congrArg Value.int (show nI i + 1 = nI (i + 1) from nI_add i 1)) ?_
  refine va_sld hx hb hX hbl hbA hS (vp_in_nI (show (i + 1) < L by omega) (by omega)) dL_law_782 ?_
  refine zk_top (v' := .int (xs (i + 1))) (by rw [nI_clamp (by omega)]) ?_
  refine lv_aload_n hx hb dL_law_783 rfl (lv_at hl 0 rfl) ?_
  refine lv_iload_n hx hb dL_law_784 rfl (lv_at hl 3 rfl) ?_
  refine lv_iconst (v := 2) hx hb dL_law_785 (by decide) ?_
  refine lv_iadd hx hb dL_law_786 ?_
  refine zk_top (v' := .int (nI (i + 2))) (congrArg Value.int (show nI i + 2 = nI (i + 2) from nI_add i 2)) ?_
  refine va_sld hx hb hX hbl hbA hS (vp_in_nI (show (i + 2) < L by omega) (by omega)) dL_law_787 ?_
  refine zk_top (v' := .int (xs (i + 2))) (by rw [nI_clamp (by omega)]) ?_
  refine vp_callSl (W.runV (As := [.int (xs (i + 1)), .int (xs (i + 2))]) (rest := [.long r_774]) ⟨hx, hb, hml, hown, hts⟩ (zc_X6_lost l hR hI3 ht1 (xs (i + 1)) (xs (i + 2))) (cwV 2 hts gL_law_X6_lost rfl rfl rfl (by decide +kernel) ⟨Nat.le_of_ble_eq_true rfl, Nat.le_of_ble_eq_true rfl⟩) (zk_preV hH hK hN (hR.1 (8, 0, 0) ⟨by decide, rfl⟩) rfl) rfl rfl hl.1 rfl (lv_room (Nat.le_of_ble_eq_true rfl)) dL_law_788 ⟨(Nat.le_trans (show 20 + 2 * t + 0 ≤ 600000 by omega) (Nat.le_of_ble_eq_true rfl)), (Nat.le_trans (show 37492 + 10 * t + 0 ≤ 7302250 by omega) (Nat.le_of_ble_eq_true rfl))⟩) (fun r_788 hr_788 => ?_)
  refine zk_lc_eq (tgt := 928) hx hb dL_law_791 dL_law_792 (by decide) (fun h_791 => ?_) (fun h_791 => ?_)
  · skip
    refine W.widen (k := 20 + 2 * (t + 1)) (n := 37492 + 10 * (t + 1)) (by omega) (by omega) ?_
    exact K _ _ ls ⟨X, Z, M, hR, hI1, hI3, hE, rfl, rfl, hH, hS⟩ (lv_sub hl [0, 1, 2, 3] rfl)
  · skip
    exact absurd (hr_774.trans ((zs_E_lost hE (xs (i + 1)) (xs (i + 2))).symm.trans hr_788.symm)) h_791

set_option maxHeartbeats 4000000 in
set_option maxRecDepth 100000 in
theorem lw_case_10 {p : Program} {e : Env} {s : State} {m : MethodId} {below : List Frame} {meth : Method} {c : Code} (l : Launch) {b L : Nat} {xs : Nat → Int32} (hL : L ≤ 3584) (C0 : lw_At p s m meth c b L xs) {g : zk_G} (hK : va_K g.1 vwCl (zk_ty g) s) (hN : zk_N s) {t i : Nat} (hi : i + 7 ≤ L) (ht : i = 7 * t) {o5 o6 : Nat} (K : ∀ (H : Heap) (locs : List Loc) (ls : Array Slot), lw_I g s.heap.size (t + 1) o5 o6 s.heap H locs → lv_has ls 4 [(0, .ref b), (1, .ref o5), (2, .ref o6), (3, .int (nI i))] → W p l e room_1 s m #[Value.ref b] below meth c H locs (20 + 2 * (t + 1)) (37492 + 10 * (t + 1)) (lw_Z below #[Value.ref b] s) (F0 m 928 ls [])) : ∀ (H : Heap) (locs : List Loc) (ls : Array Slot), lw_I g s.heap.size t o5 o6 s.heap H locs → lv_has ls 4 [(0, .ref b), (1, .ref o5), (2, .ref o6), (3, .int (nI i))] → W p l e room_1 s m #[Value.ref b] below meth c H locs (20 + 2 * t) (37492 + 10 * t) (lw_Z below #[Value.ref b] s) (F0 m 797 ls []) := by
  obtain ⟨hx, hb, hr, hml, hown, hts0, hX, hbl, hlocks, hgv⟩ := C0
  have hown : s.vm.findClass RL = some m.cls := hown
  have hts : ∀ w ∈ wsL_law, w.before #[Value.ref b] s = true := fun w hw => hts0 w (wsL_law_in w hw)
  have hbA : ¬ (fun q : Nat => s.heap.size ≤ q) b := Nat.not_le.mpr hbl
  intro H locs ls hJ hl
  obtain ⟨X, Z, M, hR, hI, hI2, hE, e5, e6, hH, hS⟩ := hJ
  subst e5
  subst e6
  have hI1 := zs_I_mono hI
  have hI3 := zs_I_mono hI2
  have hc5 : zs_nc X.1 < 512 := by have := hI.1.2.2.2.2.1; omega
  have hc6 : zs_nc X.2.1 < t + 1 := Nat.lt_succ_of_le hI2.1.2.2.2.2.1
  have hl5 : zs_nl X.1 < t + 1 := Nat.lt_succ_of_le hI.1.2.2.2.1
  have hl6 : zs_nl X.2.1 < t + 1 := Nat.lt_succ_of_le hI2.1.2.2.2.1
  have ht1 : t + 1 ≤ 512 := by omega
  refine lv_aload_n hx hb dL_law_797 rfl (lv_at hl 1 rfl) ?_
  refine lv_aload_n hx hb dL_law_798 rfl (lv_at hl 0 rfl) ?_
  refine lv_iload_n hx hb dL_law_799 rfl (lv_at hl 3 rfl) ?_
  refine lv_iconst (v := 1) hx hb dL_law_800 (by decide) ?_
  refine lv_iadd hx hb dL_law_801 ?_
  refine zk_top (v' := .int (nI (i + 1))) (congrArg Value.int (show nI i + 1 = nI (i + 1) from nI_add i 1)) ?_
  refine va_sld hx hb hX hbl hbA hS (vp_in_nI (show (i + 1) < L by omega) (by omega)) dL_law_802 ?_
  refine zk_top (v' := .int (xs (i + 1))) (by rw [nI_clamp (by omega)]) ?_
  refine lv_aload_n hx hb dL_law_803 rfl (lv_at hl 0 rfl) ?_
  refine lv_iload_n hx hb dL_law_804 rfl (lv_at hl 3 rfl) ?_
  refine lv_iconst (v := 2) hx hb dL_law_805 (by decide) ?_
  refine lv_iadd hx hb dL_law_806 ?_
  refine zk_top (v' := .int (nI (i + 2))) (congrArg Value.int (show nI i + 2 = nI (i + 2) from nI_add i 2)) ?_
  refine va_sld hx hb hX hbl hbA hS (vp_in_nI (show (i + 2) < L by omega) (by omega)) dL_law_807 ?_
  refine zk_top (v' := .int (xs (i + 2))) (by rw [nI_clamp (by omega)]) ?_
  refine lv_aload_n hx hb dL_law_808 rfl (lv_at hl 0 rfl) ?_
  refine lv_iload_n hx hb dL_law_809 rfl (lv_at hl 3 rfl) ?_
  refine lv_iconst (v := 3) hx hb dL_law_810 (by decide) ?_
  refine lv_iadd hx hb dL_law_811 ?_
  refine zk_top (v' := .int (nI (i + 3))) (congrArg Value.int (show nI i + 3 = nI (i + 3) from nI_add i 3)) ?_
  refine va_sld hx hb hX hbl hbA hS (vp_in_nI (show (i + 3) < L by omega) (by omega)) dL_law_812 ?_
  refine zk_top (v' := .int (xs (i + 3))) (by rw [nI_clamp (by omega)]) ?_
  refine zk_calli (va_runV (As := [.int (xs (i + 1)), .int (xs (i + 2)), .int (xs (i + 3))]) (rest := []) ⟨hx, hb, hml, hown, hts⟩ (zc_X5_settle l hR hI1 hc5 (xs (i + 1)) (xs (i + 2)) (xs (i + 3))) (cwV 3 hts gL_law_X5_settle rfl rfl rfl (by decide +kernel) ⟨Nat.le_of_ble_eq_true rfl, Nat.le_of_ble_eq_true rfl⟩) (zk_preV hH hK hN (hR.1 (0, 0, 0) ⟨rfl, rfl⟩) rfl) rfl rfl hl.1 rfl (lv_room (Nat.le_of_ble_eq_true rfl)) dL_law_813 ⟨(Nat.le_trans (show 20 + 2 * t + 1 ≤ 600000 by omega) (Nat.le_of_ble_eq_true rfl)), (Nat.le_trans (show 37492 + 10 * t + 5 ≤ 7302250 by omega) (Nat.le_of_ble_eq_true rfl))⟩) hS (fun r_813 u_813 H locs hH hr_813 hS => ?_)
  obtain ⟨hr_1, Z1, hR1, hZ1⟩ := hr_813
  have z5 : Z1 (0, 0, 0) = Z (0, 0, 0) := hZ1 (0, 0, 0) ⟨rfl, rfl⟩
  have z6 : Z1 (8, 0, 0) = Z (8, 0, 0) := hZ1 (8, 0, 0) ⟨by decide, rfl⟩
  rw [← z5, ← z6] at hl
  have hl : lv_has ls 4 [(0, .ref b), (1, .ref (Z1 (0, 0, 0))), (2, .ref (Z1 (8, 0, 0))), (3, .int (nI i))] := hl
  refine lv_aload_n hx hb dL_law_816 rfl (lv_at hl 2 rfl) ?_
  refine lv_aload_n hx hb dL_law_817 rfl (lv_at hl 0 rfl) ?_
  refine lv_iload_n hx hb dL_law_818 rfl (lv_at hl 3 rfl) ?_
  refine lv_iconst (v := 1) hx hb dL_law_819 (by decide) ?_
  refine lv_iadd hx hb dL_law_820 ?_
  refine zk_top (v' := .int (nI (i + 1))) (congrArg Value.int (show nI i + 1 = nI (i + 1) from nI_add i 1)) ?_
  refine va_sld hx hb hX hbl hbA hS (vp_in_nI (show (i + 1) < L by omega) (by omega)) dL_law_821 ?_
  refine zk_top (v' := .int (xs (i + 1))) (by rw [nI_clamp (by omega)]) ?_
  refine lv_aload_n hx hb dL_law_822 rfl (lv_at hl 0 rfl) ?_
  refine lv_iload_n hx hb dL_law_823 rfl (lv_at hl 3 rfl) ?_
  refine lv_iconst (v := 2) hx hb dL_law_824 (by decide) ?_
  refine lv_iadd hx hb dL_law_825 ?_
  refine zk_top (v' := .int (nI (i + 2))) (congrArg Value.int (show nI i + 2 = nI (i + 2) from nI_add i 2)) ?_
  refine va_sld hx hb hX hbl hbA hS (vp_in_nI (show (i + 2) < L by omega) (by omega)) dL_law_826 ?_
  refine zk_top (v' := .int (xs (i + 2))) (by rw [nI_clamp (by omega)]) ?_
  refine lv_aload_n hx hb dL_law_827 rfl (lv_at hl 0 rfl) ?_
  refine lv_iload_n hx hb dL_law_828 rfl (lv_at hl 3 rfl) ?_
  refine lv_iconst (v := 3) hx hb dL_law_829 (by decide) ?_
  refine lv_iadd hx hb dL_law_830 ?_
  refine zk_top (v' := .int (nI (i + 3))) (congrArg Value.int (show nI i + 3 = nI (i + 3) from nI_add i 3)) ?_
  refine va_sld hx hb hX hbl hbA hS (vp_in_nI (show (i + 3) < L by omega) (by omega)) dL_law_831 ?_
  refine zk_top (v' := .int (xs (i + 3))) (by rw [nI_clamp (by omega)]) ?_
  refine zk_calli (va_runV (As := [.int (xs (i + 1)), .int (xs (i + 2)), .int (xs (i + 3))]) (rest := [.int r_813]) ⟨hx, hb, hml, hown, hts⟩ (zc_X6_settle l (X := ((zs_fsettle (fun v => decide (0 < v)) X.1 (xs (i + 1)) (xs (i + 2)) (xs (i + 3))).2, X.2)) hR1 hI3 ht1 hc6 (xs (i + 1)) (xs (i + 2)) (xs (i + 3))) (cwV 3 hts gL_law_X6_settle rfl rfl rfl (by decide +kernel) ⟨Nat.le_of_ble_eq_true rfl, Nat.le_of_ble_eq_true rfl⟩) (zk_preV hH hK hN (hR1.1 (8, 0, 0) ⟨by decide, rfl⟩) rfl) rfl rfl hl.1 rfl (lv_room (Nat.le_of_ble_eq_true rfl)) dL_law_832 ⟨(Nat.le_trans (show 20 + 2 * t + 1 ≤ 600000 by omega) (Nat.le_of_ble_eq_true rfl)), (Nat.le_trans (show 37492 + 10 * t + 5 ≤ 7302250 by omega) (Nat.le_of_ble_eq_true rfl))⟩) hS (fun r_832 u_832 H locs hH hr_832 hS => ?_)
  obtain ⟨hr_2, ps, hR2⟩ : r_832 = (zs_fsettle (fun v => decide (0 ≤ v)) X.2.1 (xs (i + 1)) (xs (i + 2)) (xs (i + 3))).1 ∧ ∃ ps, zs_R g ((zs_fsettle (fun v => decide (0 < v)) X.1 (xs (i + 1)) (xs (i + 2)) (xs (i + 3))).2, (zs_fsettle (fun v => decide (0 ≤ v)) X.2.1 (xs (i + 1)) (xs (i + 2)) (xs (i + 3))).2, ps) Z1 u_832 := hr_832
  have hE2 := zs_E_settle hE (xs (i + 1)) (xs (i + 2)) (xs (i + 3))
  refine lv_icmp_eq (tgt := 928) hx hb dL_law_835 (by decide) (fun h_835 => ?_) (fun h_835 => ?_)
  · skip
    rw [z5, z6] at hl
    refine W.widen (k := 20 + 2 * (t + 1)) (n := 37492 + 10 * (t + 1)) (by omega) (by omega) ?_
    exact K _ _ ls ⟨((zs_fsettle (fun v => decide (0 < v)) X.1 (xs (i + 1)) (xs (i + 2)) (xs (i + 3))).2, (zs_fsettle (fun v => decide (0 ≤ v)) X.2.1 (xs (i + 1)) (xs (i + 2)) (xs (i + 3))).2, ps), Z1, u_832, hR2, zs_I_fsettle hI (xs (i + 1)) (xs (i + 2)) (xs (i + 3)), zs_I_fsettle hI2 (xs (i + 1)) (xs (i + 2)) (xs (i + 3)), hE2.2, z5, z6, hH, hS⟩ (lv_sub hl [0, 1, 2, 3] rfl)
  · skip
    exact absurd (hr_1.trans (hE2.1.symm.trans hr_2.symm)) h_835

set_option maxHeartbeats 4000000 in
set_option maxRecDepth 100000 in
theorem lw_case_11 {p : Program} {e : Env} {s : State} {m : MethodId} {below : List Frame} {meth : Method} {c : Code} (l : Launch) {b L : Nat} {xs : Nat → Int32} (hL : L ≤ 3584) (C0 : lw_At p s m meth c b L xs) {g : zk_G} (hK : va_K g.1 vwCl (zk_ty g) s) (hN : zk_N s) {t i : Nat} (hi : i + 7 ≤ L) (ht : i = 7 * t) {o5 o6 : Nat} (K : ∀ (H : Heap) (locs : List Loc) (ls : Array Slot), lw_I g s.heap.size (t + 1) o5 o6 s.heap H locs → lv_has ls 4 [(0, .ref b), (1, .ref o5), (2, .ref o6), (3, .int (nI i))] → W p l e room_1 s m #[Value.ref b] below meth c H locs (20 + 2 * (t + 1)) (37492 + 10 * (t + 1)) (lw_Z below #[Value.ref b] s) (F0 m 928 ls [])) : ∀ (H : Heap) (locs : List Loc) (ls : Array Slot), lw_I g s.heap.size t o5 o6 s.heap H locs → lv_has ls 4 [(0, .ref b), (1, .ref o5), (2, .ref o6), (3, .int (nI i))] → W p l e room_1 s m #[Value.ref b] below meth c H locs (20 + 2 * t) (37492 + 10 * t) (lw_Z below #[Value.ref b] s) (F0 m 840 ls []) := by
  obtain ⟨hx, hb, hr, hml, hown, hts0, hX, hbl, hlocks, hgv⟩ := C0
  have hown : s.vm.findClass RL = some m.cls := hown
  have hts : ∀ w ∈ wsL_law, w.before #[Value.ref b] s = true := fun w hw => hts0 w (wsL_law_in w hw)
  have hbA : ¬ (fun q : Nat => s.heap.size ≤ q) b := Nat.not_le.mpr hbl
  intro H locs ls hJ hl
  obtain ⟨X, Z, M, hR, hI, hI2, hE, e5, e6, hH, hS⟩ := hJ
  subst e5
  subst e6
  have hI1 := zs_I_mono hI
  have hI3 := zs_I_mono hI2
  have hc5 : zs_nc X.1 < 512 := by have := hI.1.2.2.2.2.1; omega
  have hc6 : zs_nc X.2.1 < t + 1 := Nat.lt_succ_of_le hI2.1.2.2.2.2.1
  have hl5 : zs_nl X.1 < t + 1 := Nat.lt_succ_of_le hI.1.2.2.2.1
  have hl6 : zs_nl X.2.1 < t + 1 := Nat.lt_succ_of_le hI2.1.2.2.2.1
  have ht1 : t + 1 ≤ 512 := by omega
  refine lv_aload_n hx hb dL_law_840 rfl (lv_at hl 1 rfl) ?_
  refine lv_aload_n hx hb dL_law_841 rfl (lv_at hl 0 rfl) ?_
  refine lv_iload_n hx hb dL_law_842 rfl (lv_at hl 3 rfl) ?_
  refine lv_iconst (v := 1) hx hb dL_law_843 (by decide) ?_
  refine lv_iadd hx hb dL_law_844 ?_
  refine zk_top (v' := .int (nI (i + 1))) (congrArg Value.int (show nI i + 1 = nI (i + 1) from nI_add i 1)) ?_
  refine va_sld hx hb hX hbl hbA hS (vp_in_nI (show (i + 1) < L by omega) (by omega)) dL_law_845 ?_
  refine zk_top (v' := .int (xs (i + 1))) (by rw [nI_clamp (by omega)]) ?_
  refine lv_aload_n hx hb dL_law_846 rfl (lv_at hl 0 rfl) ?_
  refine lv_iload_n hx hb dL_law_847 rfl (lv_at hl 3 rfl) ?_
  refine lv_iconst (v := 2) hx hb dL_law_848 (by decide) ?_
  refine lv_iadd hx hb dL_law_849 ?_
  refine zk_top (v' := .int (nI (i + 2))) (congrArg Value.int (show nI i + 2 = nI (i + 2) from nI_add i 2)) ?_
  refine va_sld hx hb hX hbl hbA hS (vp_in_nI (show (i + 2) < L by omega) (by omega)) dL_law_850 ?_
  refine zk_top (v' := .int (xs (i + 2))) (by rw [nI_clamp (by omega)]) ?_
  refine vp_callSl (W.runV (As := [.int (xs (i + 1)), .int (xs (i + 2))]) (rest := []) ⟨hx, hb, hml, hown, hts⟩ (zc_X5_rest l hR hI1 (xs (i + 1)) (xs (i + 2))) (cwV 2 hts gL_law_X5_rest rfl rfl rfl (by decide +kernel) ⟨Nat.le_of_ble_eq_true rfl, Nat.le_of_ble_eq_true rfl⟩) (zk_preV hH hK hN (hR.1 (0, 0, 0) ⟨rfl, rfl⟩) rfl) rfl rfl hl.1 rfl (lv_room (Nat.le_of_ble_eq_true rfl)) dL_law_851 ⟨(Nat.le_trans (show 20 + 2 * t + 0 ≤ 600000 by omega) (Nat.le_of_ble_eq_true rfl)), (Nat.le_trans (show 37492 + 10 * t + 0 ≤ 7302250 by omega) (Nat.le_of_ble_eq_true rfl))⟩) (fun r_851 hr_851 => ?_)
  refine lv_aload_n hx hb dL_law_854 rfl (lv_at hl 2 rfl) ?_
  refine lv_aload_n hx hb dL_law_855 rfl (lv_at hl 0 rfl) ?_
  refine lv_iload_n hx hb dL_law_856 rfl (lv_at hl 3 rfl) ?_
  refine lv_iconst (v := 1) hx hb dL_law_857 (by decide) ?_
  refine lv_iadd hx hb dL_law_858 ?_
  refine zk_top (v' := .int (nI (i + 1))) (congrArg Value.int (show nI i + 1 = nI (i + 1) from nI_add i 1)) ?_
  refine va_sld hx hb hX hbl hbA hS (vp_in_nI (show (i + 1) < L by omega) (by omega)) dL_law_859 ?_
  refine zk_top (v' := .int (xs (i + 1))) (by rw [nI_clamp (by omega)]) ?_
  refine lv_aload_n hx hb dL_law_860 rfl (lv_at hl 0 rfl) ?_
  refine lv_iload_n hx hb dL_law_861 rfl (lv_at hl 3 rfl) ?_
  refine lv_iconst (v := 2) hx hb dL_law_862 (by decide) ?_
  refine lv_iadd hx hb dL_law_863 ?_
  refine zk_top (v' := .int (nI (i + 2))) (congrArg Value.int (show nI i + 2 = nI (i + 2) from nI_add i 2)) ?_
  refine va_sld hx hb hX hbl hbA hS (vp_in_nI (show (i + 2) < L by omega) (by omega)) dL_law_864 ?_
  refine zk_top (v' := .int (xs (i + 2))) (by rw [nI_clamp (by omega)]) ?_
  refine vp_callSl (W.runV (As := [.int (xs (i + 1)), .int (xs (i + 2))]) (rest := [.long r_851]) ⟨hx, hb, hml, hown, hts⟩ (zc_X6_rest l hR hI3 ht1 (xs (i + 1)) (xs (i + 2))) (cwV 2 hts gL_law_X6_rest rfl rfl rfl (by decide +kernel) ⟨Nat.le_of_ble_eq_true rfl, Nat.le_of_ble_eq_true rfl⟩) (zk_preV hH hK hN (hR.1 (8, 0, 0) ⟨by decide, rfl⟩) rfl) rfl rfl hl.1 rfl (lv_room (Nat.le_of_ble_eq_true rfl)) dL_law_865 ⟨(Nat.le_trans (show 20 + 2 * t + 0 ≤ 600000 by omega) (Nat.le_of_ble_eq_true rfl)), (Nat.le_trans (show 37492 + 10 * t + 0 ≤ 7302250 by omega) (Nat.le_of_ble_eq_true rfl))⟩) (fun r_865 hr_865 => ?_)
  refine zk_lc_eq (tgt := 928) hx hb dL_law_868 dL_law_869 (by decide) (fun h_868 => ?_) (fun h_868 => ?_)
  · skip
    refine W.widen (k := 20 + 2 * (t + 1)) (n := 37492 + 10 * (t + 1)) (by omega) (by omega) ?_
    exact K _ _ ls ⟨X, Z, M, hR, hI1, hI3, hE, rfl, rfl, hH, hS⟩ (lv_sub hl [0, 1, 2, 3] rfl)
  · skip
    exact absurd (hr_851.trans ((zs_E_rest hE (xs (i + 1)) (xs (i + 2))).symm.trans hr_865.symm)) h_868

set_option maxHeartbeats 4000000 in
set_option maxRecDepth 100000 in
theorem lw_case_12 {p : Program} {e : Env} {s : State} {m : MethodId} {below : List Frame} {meth : Method} {c : Code} (l : Launch) {b L : Nat} {xs : Nat → Int32} (hL : L ≤ 3584) (C0 : lw_At p s m meth c b L xs) {g : zk_G} (hK : va_K g.1 vwCl (zk_ty g) s) (hN : zk_N s) {t i : Nat} (hi : i + 7 ≤ L) (ht : i = 7 * t) {o5 o6 : Nat} (K : ∀ (H : Heap) (locs : List Loc) (ls : Array Slot), lw_I g s.heap.size (t + 1) o5 o6 s.heap H locs → lv_has ls 4 [(0, .ref b), (1, .ref o5), (2, .ref o6), (3, .int (nI i))] → W p l e room_1 s m #[Value.ref b] below meth c H locs (20 + 2 * (t + 1)) (37492 + 10 * (t + 1)) (lw_Z below #[Value.ref b] s) (F0 m 928 ls [])) : ∀ (H : Heap) (locs : List Loc) (ls : Array Slot), lw_I g s.heap.size t o5 o6 s.heap H locs → lv_has ls 4 [(0, .ref b), (1, .ref o5), (2, .ref o6), (3, .int (nI i))] → W p l e room_1 s m #[Value.ref b] below meth c H locs (20 + 2 * t) (37492 + 10 * t) (lw_Z below #[Value.ref b] s) (F0 m 874 ls []) := by
  obtain ⟨hx, hb, hr, hml, hown, hts0, hX, hbl, hlocks, hgv⟩ := C0
  have hown : s.vm.findClass RL = some m.cls := hown
  have hts : ∀ w ∈ wsL_law, w.before #[Value.ref b] s = true := fun w hw => hts0 w (wsL_law_in w hw)
  have hbA : ¬ (fun q : Nat => s.heap.size ≤ q) b := Nat.not_le.mpr hbl
  intro H locs ls hJ hl
  obtain ⟨X, Z, M, hR, hI, hI2, hE, e5, e6, hH, hS⟩ := hJ
  subst e5
  subst e6
  have hI1 := zs_I_mono hI
  have hI3 := zs_I_mono hI2
  have hc5 : zs_nc X.1 < 512 := by have := hI.1.2.2.2.2.1; omega
  have hc6 : zs_nc X.2.1 < t + 1 := Nat.lt_succ_of_le hI2.1.2.2.2.2.1
  have hl5 : zs_nl X.1 < t + 1 := Nat.lt_succ_of_le hI.1.2.2.2.1
  have hl6 : zs_nl X.2.1 < t + 1 := Nat.lt_succ_of_le hI2.1.2.2.2.1
  have ht1 : t + 1 ≤ 512 := by omega
  refine lv_aload_n hx hb dL_law_874 rfl (lv_at hl 1 rfl) ?_
  refine lv_aload_n hx hb dL_law_875 rfl (lv_at hl 0 rfl) ?_
  refine lv_iload_n hx hb dL_law_876 rfl (lv_at hl 3 rfl) ?_
  refine lv_iconst (v := 1) hx hb dL_law_877 (by decide) ?_
  refine lv_iadd hx hb dL_law_878 ?_
  refine zk_top (v' := .int (nI (i + 1))) (congrArg Value.int (show nI i + 1 = nI (i + 1) from nI_add i 1)) ?_
  refine va_sld hx hb hX hbl hbA hS (vp_in_nI (show (i + 1) < L by omega) (by omega)) dL_law_879 ?_
  refine zk_top (v' := .int (xs (i + 1))) (by rw [nI_clamp (by omega)]) ?_
  refine lv_i2l (v := (Int32.toInt64 (xs (i + 1)))) hx hb dL_law_880 rfl ?_
  refine lv_bipush (v := 32) hx hb dL_law_881 (by decide) ?_
  refine lv_lshl (v := ((Int32.toInt64 (xs (i + 1))) <<< (Int32.toInt64 32 &&& 63))) hx hb dL_law_883 rfl ?_
  refine lv_aload_n hx hb dL_law_884 rfl (lv_at hl 0 rfl) ?_
  refine lv_iload_n hx hb dL_law_885 rfl (lv_at hl 3 rfl) ?_
  refine lv_iconst (v := 2) hx hb dL_law_886 (by decide) ?_
  refine lv_iadd hx hb dL_law_887 ?_
  refine zk_top (v' := .int (nI (i + 2))) (congrArg Value.int (show nI i + 2 = nI (i + 2) from nI_add i 2)) ?_
  refine va_sld hx hb hX hbl hbA hS (vp_in_nI (show (i + 2) < L by omega) (by omega)) dL_law_888 ?_
  refine zk_top (v' := .int (xs (i + 2))) (by rw [nI_clamp (by omega)]) ?_
  refine lv_i2l (v := (Int32.toInt64 (xs (i + 2)))) hx hb dL_law_889 rfl ?_
  refine lv_ldc2 (v := 4294967295) hx hb hown (hts (.constantLong RL 22 (4294967295)) (by decide +kernel)) dL_law_890 ?_
  refine lv_land hx hb dL_law_893 ?_
  refine lv_lor hx hb dL_law_894 ?_
  refine zk_top (v' := .long (lw_J (xs (i + 1)) (xs (i + 2)))) rfl ?_
  refine vp_callSl (W.runV (As := [.long (lw_J (xs (i + 1)) (xs (i + 2)))]) (rest := []) ⟨hx, hb, hml, hown, hts⟩ (zc_X5_sum l hR hI1 (lw_J (xs (i + 1)) (xs (i + 2)))) (cwV 1 hts gL_law_X5_sum rfl rfl rfl (by decide +kernel) ⟨Nat.le_of_ble_eq_true rfl, Nat.le_of_ble_eq_true rfl⟩) (zk_preV hH hK hN (hR.1 (0, 0, 0) ⟨rfl, rfl⟩) rfl) rfl rfl hl.1 rfl (lv_room (Nat.le_of_ble_eq_true rfl)) dL_law_895 ⟨(Nat.le_trans (show 20 + 2 * t + 0 ≤ 600000 by omega) (Nat.le_of_ble_eq_true rfl)), (Nat.le_trans (show 37492 + 10 * t + 0 ≤ 7302250 by omega) (Nat.le_of_ble_eq_true rfl))⟩) (fun r_895 hr_895 => ?_)
  refine lv_aload_n hx hb dL_law_898 rfl (lv_at hl 2 rfl) ?_
  refine lv_aload_n hx hb dL_law_899 rfl (lv_at hl 0 rfl) ?_
  refine lv_iload_n hx hb dL_law_900 rfl (lv_at hl 3 rfl) ?_
  refine lv_iconst (v := 1) hx hb dL_law_901 (by decide) ?_
  refine lv_iadd hx hb dL_law_902 ?_
  refine zk_top (v' := .int (nI (i + 1))) (congrArg Value.int (show nI i + 1 = nI (i + 1) from nI_add i 1)) ?_
  refine va_sld hx hb hX hbl hbA hS (vp_in_nI (show (i + 1) < L by omega) (by omega)) dL_law_903 ?_
  refine zk_top (v' := .int (xs (i + 1))) (by rw [nI_clamp (by omega)]) ?_
  refine lv_i2l (v := (Int32.toInt64 (xs (i + 1)))) hx hb dL_law_904 rfl ?_
  refine lv_bipush (v := 32) hx hb dL_law_905 (by decide) ?_
  refine lv_lshl (v := ((Int32.toInt64 (xs (i + 1))) <<< (Int32.toInt64 32 &&& 63))) hx hb dL_law_907 rfl ?_
  refine lv_aload_n hx hb dL_law_908 rfl (lv_at hl 0 rfl) ?_
  refine lv_iload_n hx hb dL_law_909 rfl (lv_at hl 3 rfl) ?_
  refine lv_iconst (v := 2) hx hb dL_law_910 (by decide) ?_
  refine lv_iadd hx hb dL_law_911 ?_
  refine zk_top (v' := .int (nI (i + 2))) (congrArg Value.int (show nI i + 2 = nI (i + 2) from nI_add i 2)) ?_
  refine va_sld hx hb hX hbl hbA hS (vp_in_nI (show (i + 2) < L by omega) (by omega)) dL_law_912 ?_
  refine zk_top (v' := .int (xs (i + 2))) (by rw [nI_clamp (by omega)]) ?_
  refine lv_i2l (v := (Int32.toInt64 (xs (i + 2)))) hx hb dL_law_913 rfl ?_
  refine lv_ldc2 (v := 4294967295) hx hb hown (hts (.constantLong RL 22 (4294967295)) (by decide +kernel)) dL_law_914 ?_
  refine lv_land hx hb dL_law_917 ?_
  refine lv_lor hx hb dL_law_918 ?_
  refine zk_top (v' := .long (lw_J (xs (i + 1)) (xs (i + 2)))) rfl ?_
  refine vp_callSl (W.runV (As := [.long (lw_J (xs (i + 1)) (xs (i + 2)))]) (rest := [.long r_895]) ⟨hx, hb, hml, hown, hts⟩ (zc_X6_sum l hR hI3 ht1 (lw_J (xs (i + 1)) (xs (i + 2)))) (cwV 1 hts gL_law_X6_sum rfl rfl rfl (by decide +kernel) ⟨Nat.le_of_ble_eq_true rfl, Nat.le_of_ble_eq_true rfl⟩) (zk_preV hH hK hN (hR.1 (8, 0, 0) ⟨by decide, rfl⟩) rfl) rfl rfl hl.1 rfl (lv_room (Nat.le_of_ble_eq_true rfl)) dL_law_919 ⟨(Nat.le_trans (show 20 + 2 * t + 0 ≤ 600000 by omega) (Nat.le_of_ble_eq_true rfl)), (Nat.le_trans (show 37492 + 10 * t + 0 ≤ 7302250 by omega) (Nat.le_of_ble_eq_true rfl))⟩) (fun r_919 hr_919 => ?_)
  refine zk_lc_eq (tgt := 928) hx hb dL_law_922 dL_law_923 (by decide) (fun h_922 => ?_) (fun h_922 => ?_)
  · skip
    refine W.widen (k := 20 + 2 * (t + 1)) (n := 37492 + 10 * (t + 1)) (by omega) (by omega) ?_
    exact K _ _ ls ⟨X, Z, M, hR, hI1, hI3, hE, rfl, rfl, hH, hS⟩ (lv_sub hl [0, 1, 2, 3] rfl)
  · skip
    exact absurd (hr_895.trans hr_919.symm) h_922
