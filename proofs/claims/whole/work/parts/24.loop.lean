theorem lw_I_mono {g : zk_G} {z t o5 o6 : Nat} {H0 H : Heap} {locs : List Loc} (h : lw_I g z t o5 o6 H0 H locs) : lw_I g z (t + 1) o5 o6 H0 H locs := by
  obtain ⟨X, Z, M, h1, h2, h3, h4⟩ := h
  exact ⟨X, Z, M, h1, zs_I_mono h2, zs_I_mono h3, h4⟩
theorem lw_more {i L : Nat} (hL : L ≤ 3584) (hi : i ≤ L) (h : ¬ Int32.ofNat L - 7 < nI i) : i + 7 ≤ L := by
  refine Decidable.byContradiction (fun q => h ?_)
  show nI L - nI 7 < nI i
  rcases Nat.lt_or_ge L 7 with g | g
  · exact Int32.lt_of_lt_of_le (pk_sneg (by decide) g) (nI_pos' (by omega))
  · rw [pk_sub g]
    exact nI_lt (by omega) (by omega)
set_option maxHeartbeats 4000000 in
set_option maxRecDepth 100000 in
theorem lw_loop {p : Program} {e : Env} {s : State} {m : MethodId} {below : List Frame} {meth : Method} {c : Code} (l : Launch) {b L : Nat} {xs : Nat → Int32} (hL : L ≤ 3584) (C0 : lw_At p s m meth c b L xs) {g : zk_G} (hK : va_K g.1 vwCl (zk_ty g) s) (hN : zk_N s) {o5 o6 : Nat} : ∀ (n t i : Nat), i = 7 * t → i ≤ L → L + 7 ≤ i + 7 * n → ∀ (H : Heap) (locs : List Loc) (ls : Array Slot), lw_I g s.heap.size t o5 o6 s.heap H locs → lv_has ls 4 [(0, .ref b), (1, .ref o5), (2, .ref o6), (3, .int (nI i))] → W p l e room_1 s m #[Value.ref b] below meth c H locs (20 + 2 * t) (37492 + 10 * t) (lw_Z below #[Value.ref b] s) (F0 m 18 ls []) := by
  obtain ⟨hx, hb, hr, hml, hown, hts0, hX, hbl, hlocks, hgv⟩ := id C0
  have hbA : ¬ (fun q : Nat => s.heap.size ≤ q) b := Nat.not_le.mpr hbl
  intro n
  induction n with
  | zero => intro t i ht hi hn; omega
  | succ n ih =>
    intro t i ht hi hn H locs ls hJ hl
    have hS : va_S (fun q => s.heap.size ≤ q) s.heap H locs := by
      obtain ⟨X, Z, M, -, -, -, -, -, -, -, hS⟩ := hJ
      exact hS
    refine lv_iload_n hx hb dL_law_18 rfl (lv_at hl 3 rfl) ?_
    refine lv_aload_n hx hb dL_law_19 rfl (lv_at hl 0 rfl) ?_
    refine va_slen hx hb hX hbl hbA hS dL_law_20 ?_
    refine lv_bipush (v := 7) hx hb dL_law_21 (by decide) ?_
    refine lv_isub hx hb dL_law_23 ?_
    refine lv_icmp_gt (tgt := 934) hx hb dL_law_24 (by decide) (fun h_24 => ?_) (fun h_24 => ?_)
    · refine lv_iconst (v := 1) hx hb dL_law_934 (by decide) ?_
      refine va_forget (fun q hq => hS.2.2 q hq) ?_
      refine W.widen (k := 600000) (n := 7302250) (by omega) (by omega) ?_
      exact lw_ret hx hb hr hlocks dL_law_935
    · have hi7 : i + 7 ≤ L := lw_more hL hi h_24
      have K : ∀ (H : Heap) (locs : List Loc) (ls : Array Slot), lw_I g s.heap.size (t + 1) o5 o6 s.heap H locs → lv_has ls 4 [(0, .ref b), (1, .ref o5), (2, .ref o6), (3, .int (nI i))] → W p l e room_1 s m #[Value.ref b] below meth c H locs (20 + 2 * (t + 1)) (37492 + 10 * (t + 1)) (lw_Z below #[Value.ref b] s) (F0 m 928 ls []) := by
        intro H locs ls hJ hl
        refine lv_iinc (v := nI (i + 7)) (lv' := [(3, .int (nI (i + 7))), (0, .ref b), (1, .ref o5), (2, .ref o6)]) hx hb dL_law_928 hl (k := 3) rfl (nI_add i 7) (by decide) rfl (fun ls hl => ?_)
        refine lv_goto (tgt := 18) hx hb dL_law_931 (by decide) ?_
        exact ih (t + 1) (i + 7) (by omega) (by omega) (by omega) H locs ls hJ (lv_sub hl [1, 2, 3, 0] rfl)
      refine lv_aload_n hx hb dL_law_27 rfl (lv_at hl 0 rfl) ?_
      refine lv_iload_n hx hb dL_law_28 rfl (lv_at hl 3 rfl) ?_
      refine va_sld hx hb hX hbl hbA hS (vp_in_nI (show i < L by omega) (by omega)) dL_law_29 ?_
      refine lv_bipush (v := 15) hx hb dL_law_30 (by decide) ?_
      refine lv_iand hx hb dL_law_32 ?_
      generalize xs (nI i).toNatClampNeg = x0
      obtain ⟨j, hj, ej⟩ := pk_andE x0 (m := 15) 4 rfl
      refine zk_top (v' := .int (nI j)) (congrArg Value.int ej) ?_
      have D : W p l e room_1 s m #[Value.ref b] below meth c H locs (20 + 2 * t) (37492 + 10 * t) (lw_Z below #[Value.ref b] s) (F0 m 928 ls []) := W.widen (k := 20 + 2 * (t + 1)) (n := 37492 + 10 * (t + 1)) (by omega) (by omega) (K H locs ls (lw_I_mono hJ) hl)
      match j, hj with
      | 0, _ => exact lv_tableIn (off := 67) (tgt := 100) hx hb dL_law_33 (by decide) (by decide) rfl (by decide) (lw_case_0 l hL C0 hK hN hi7 ht K H locs ls hJ hl)
      | 1, _ => exact lv_tableIn (off := 80) (tgt := 113) hx hb dL_law_33 (by decide) (by decide) rfl (by decide) (lw_case_1 l hL C0 hK hN hi7 ht K H locs ls hJ hl)
      | 2, _ => exact lv_tableIn (off := 93) (tgt := 126) hx hb dL_law_33 (by decide) (by decide) rfl (by decide) (lw_case_2 l hL C0 hK hN hi7 ht K H locs ls hJ hl)
      | 3, _ => exact lv_tableIn (off := 196) (tgt := 229) hx hb dL_law_33 (by decide) (by decide) rfl (by decide) (lw_case_3 l hL C0 hK hN hi7 ht K H locs ls hJ hl)
      | 4, _ => exact lv_tableIn (off := 311) (tgt := 344) hx hb dL_law_33 (by decide) (by decide) rfl (by decide) (lw_case_4 l hL C0 hK hN hi7 ht K H locs ls hJ hl)
      | 5, _ => exact lv_tableIn (off := 426) (tgt := 459) hx hb dL_law_33 (by decide) (by decide) rfl (by decide) (lw_case_5 l hL C0 hK hN hi7 ht K H locs ls hJ hl)
      | 6, _ => exact lv_tableIn (off := 529) (tgt := 562) hx hb dL_law_33 (by decide) (by decide) rfl (by decide) (lw_case_6 l hL C0 hK hN hi7 ht K H locs ls hJ hl)
      | 7, _ => exact lv_tableIn (off := 632) (tgt := 665) hx hb dL_law_33 (by decide) (by decide) rfl (by decide) (lw_case_7 l hL C0 hK hN hi7 ht K H locs ls hJ hl)
      | 8, _ => exact lv_tableIn (off := 696) (tgt := 729) hx hb dL_law_33 (by decide) (by decide) rfl (by decide) (lw_case_8 l hL C0 hK hN hi7 ht K H locs ls hJ hl)
      | 9, _ => exact lv_tableIn (off := 730) (tgt := 763) hx hb dL_law_33 (by decide) (by decide) rfl (by decide) (lw_case_9 l hL C0 hK hN hi7 ht K H locs ls hJ hl)
      | 10, _ => exact lv_tableIn (off := 764) (tgt := 797) hx hb dL_law_33 (by decide) (by decide) rfl (by decide) (lw_case_10 l hL C0 hK hN hi7 ht K H locs ls hJ hl)
      | 11, _ => exact lv_tableIn (off := 807) (tgt := 840) hx hb dL_law_33 (by decide) (by decide) rfl (by decide) (lw_case_11 l hL C0 hK hN hi7 ht K H locs ls hJ hl)
      | 12, _ => exact lv_tableIn (off := 841) (tgt := 874) hx hb dL_law_33 (by decide) (by decide) rfl (by decide) (lw_case_12 l hL C0 hK hN hi7 ht K H locs ls hJ hl)
      | 13, _ => exact lv_tableOut (tgt := 928) hx hb dL_law_33 (Or.inr (by decide)) (by decide) D
      | 14, _ => exact lv_tableOut (tgt := 928) hx hb dL_law_33 (Or.inr (by decide)) (by decide) D
      | 15, _ => exact lv_tableOut (tgt := 928) hx hb dL_law_33 (Or.inr (by decide)) (by decide) D
      | n + 16, hn => exact absurd hn (by omega)
theorem zs_ok_0 {q : zs_L} (h : zs_ok (zs_S0, zs_S0, fun _ => 0) q) : q = (0, 0, 0) ∨ q = (1, 0, 0) ∨ q = (2, 0, 0) ∨ q = (3, 0, 0) ∨ ∃ j, j < 16 ∧ q = (8, j, 0) := by
  obtain ⟨t, i, j⟩ := q
  match t, h with
  | 0, h => obtain ⟨rfl, rfl⟩ := h; exact Or.inl rfl
  | 1, h => obtain ⟨rfl, rfl⟩ := h; exact Or.inr (Or.inl rfl)
  | 2, h => obtain ⟨rfl, rfl⟩ := h; exact Or.inr (Or.inr (Or.inl rfl))
  | 3, h =>
    obtain ⟨h1, rfl⟩ := h
    have h1 : i < 1 := h1
    obtain rfl : i = 0 := by omega
    exact Or.inr (Or.inr (Or.inr (Or.inl rfl)))
  | 4, h => exact absurd h.1 (Nat.not_lt_zero i)
  | 5, h => exact absurd h.1 (Nat.not_lt_zero i)
  | 6, h => exact absurd h.1 (Nat.not_lt_zero i)
  | 7, h => exact absurd h.1 (Nat.not_lt_zero i)
  | 8, h => obtain ⟨h1, rfl⟩ := h; exact Or.inr (Or.inr (Or.inr (Or.inr ⟨i, h1, rfl⟩)))
  | n + 9, h => exact absurd h id
/-- the labels' cells at the start -/
def zs_Z0 (o5 h p k : Nat) (Y : Nat → Nat) : zs_Z := fun q => match q with
  | (0, _, _) => o5
  | (1, _, _) => p
  | (2, _, _) => k
  | (3, _, _) => h
  | (8, j, _) => Y j
  | _ => 0
theorem zs_R_0 {g : zk_G} {M1 u1 M2 u2 : zk_M} {o5 o6 : Nat} {e6 : va_E} (h5 : zs_new5 g M1 o5 u1) (hM2 : M2 = zk_up u1 o6 e6) (hf : u1 o6 = none) (h6 : zs_new6 g M2 o6 u2) : ∃ Z, zs_R g (zs_S0, zs_S0, fun _ => 0) Z u2 ∧ Z (0, 0, 0) = o5 ∧ Z (8, 0, 0) = o6 := by
  obtain ⟨h, p, k, -, uo, uh, up, uk⟩ := h5
  obtain ⟨Y, Y0, Yi, Yn, Yc, Yo⟩ := h6
  have hap : ∀ {a : Nat} {e : va_E}, u1 a = some e → ∀ j, j < 16 → a ≠ Y j := by
    intro a e ha j hj q
    rcases Nat.eq_zero_or_pos j with j0 | j0
    · subst j0
      rw [q, Y0, hf] at ha
      cases ha
    · have h1 := Yn j j0 hj
      have h2 : Y j ≠ o6 := fun e => by
        have := Yi j 0 hj (by decide) (e.trans Y0.symm)
        omega
      rw [hM2, zk_up_n _ _ h2, ← q, ha] at h1
      cases h1
  have hu : ∀ {a : Nat} {e : va_E}, u1 a = some e → u2 a = some e := by
    intro a e ha
    rw [Yo a (hap ha), hM2, zk_up_n _ _ (by have := hap ha 0 (by decide); rw [Y0] at this; exact this)]
    exact ha
  have d1 := zk_ne uo uh (by simp)
  have d2 := zk_ne uo up (by simp)
  have d3 := zk_ne uo uk (by simp)
  have d4 := zk_ne uh up (by simp)
  have d5 := zk_ne uh uk (by simp)
  have d6 := zk_ne up uk (by simp)
  refine ⟨zs_Z0 o5 h p k Y, ⟨fun q hq => ?_, fun q r hq hr e => ?_⟩, rfl, Y0⟩
  · rcases zs_ok_0 hq with rfl | rfl | rfl | rfl | ⟨j, hj, rfl⟩
    · exact hu uo
    · refine (hu up).trans (congrArg (fun f => some (zk_aP g 24 f)) ?_)
      funext i
      show va_up (fun _ => none) 0 (some h) i = if i < 1 then some (zs_Z0 o5 h p k Y (3, i, 0)) else none
      by_cases q : i = 0
      · subst q; simp [va_up, zs_Z0]
      · rw [if_neg (by omega)]; simp [va_up, q]
    · refine (hu uk).trans (congrArg (fun f => some (zk_aQ g 12 f)) ?_)
      funext i
      exact (if_neg (Nat.not_lt_zero i)).symm
    · exact hu uh
    · match j, hj with
      | 0, _ => exact Yc 0 (by decide)
      | 1, _ => exact Yc 1 (by decide)
      | 2, _ => exact Yc 2 (by decide)
      | 3, _ => exact Yc 3 (by decide)
      | 4, _ => exact Yc 4 (by decide)
      | 5, _ => exact Yc 5 (by decide)
      | 6, _ => exact Yc 6 (by decide)
      | 7, _ => exact Yc 7 (by decide)
      | 8, _ => exact Yc 8 (by decide)
      | 9, _ => exact Yc 9 (by decide)
      | 10, _ => exact Yc 10 (by decide)
      | 11, _ => exact Yc 11 (by decide)
      | 12, _ => exact Yc 12 (by decide)
      | 13, _ => exact Yc 13 (by decide)
      | 14, _ => exact Yc 14 (by decide)
      | 15, _ => exact Yc 15 (by decide)
      | n + 16, hn => exact absurd hn (by omega)
  · rcases zs_ok_0 hq with rfl | rfl | rfl | rfl | ⟨j, hj, rfl⟩ <;> rcases zs_ok_0 hr with rfl | rfl | rfl | rfl | ⟨i, hi, rfl⟩
    · rfl
    · exact absurd e d2
    · exact absurd e d3
    · exact absurd e d1
    · exact absurd e (hap uo i hi)
    · exact absurd e.symm d2
    · rfl
    · exact absurd e d6
    · exact absurd e.symm d4
    · exact absurd e (hap up i hi)
    · exact absurd e.symm d3
    · exact absurd e.symm d6
    · rfl
    · exact absurd e.symm d5
    · exact absurd e (hap uk i hi)
    · exact absurd e.symm d1
    · exact absurd e d4
    · exact absurd e d5
    · rfl
    · exact absurd e (hap uh i hi)
    · exact absurd e.symm (hap uo j hj)
    · exact absurd e.symm (hap up j hj)
    · exact absurd e.symm (hap uk j hj)
    · exact absurd e.symm (hap uh j hj)
    · rw [Yi j i hj hi e]

/-- the classes and array classes at the start, and the words that ride with the state -/
theorem lw_known {s : State} {b : Nat} (hts : ∀ w ∈ lw_tbl, w.before #[Value.ref b] s = true) : ∃ g : zk_G, va_K g.1 vwCl (zk_ty g) s ∧ zk_N s ∧ va_AO "KegDeposits$Party" s ∧ va_AO "KegDeposits$Kind" s := by

  obtain ⟨c0, i0, k0⟩ := u_known (C := RX0) (T := TX0) (N := 3) (n := 3) hts inX0 (hts (.instantiable RX0 3) (by decide +kernel))
  obtain ⟨c1, i1, k1⟩ := u_known (C := RX1) (T := TX1) (N := 5) (n := 5) hts inX1 (hts (.instantiable RX1 5) (by decide +kernel))
  obtain ⟨c2, i2, k2⟩ := u_known (C := RX2) (T := TX2) (N := 2) (n := 2) hts inX2 (hts (.instantiable RX2 2) (by decide +kernel))
  obtain ⟨c3, i3, k3⟩ := u_known (C := RX3) (T := TX3) (N := 3) (n := 3) hts inX3 (hts (.instantiable RX3 3) (by decide +kernel))
  obtain ⟨c4, i4, k4⟩ := u_known (C := RX4) (T := TX4) (N := 5) (n := 5) hts inX4 (hts (.instantiable RX4 5) (by decide +kernel))
  obtain ⟨c5, i5, k5⟩ := u_known (C := RX5) (T := TX5) (N := 6) (n := 6) hts inX5 (hts (.instantiable RX5 6) (by decide +kernel))
  obtain ⟨c6, i6, k6⟩ := u_known (C := RX6) (T := TX6) (N := 20) (n := 20) hts inX6 (hts (.instantiable RX6 20) (by decide +kernel))
  obtain ⟨cJ, kJ, pJ, fJ, gJ, eJ⟩ := Cond.arrayClass_spec (hts (.arrayClass .long) (by decide +kernel))
  obtain ⟨cI, kI, pI, fI, gI, eI⟩ := Cond.arrayClass_spec (hts (.arrayClass .int) (by decide +kernel))
  have hAP := hts (.arrayOver (.object "KegDeposits$Party")) (by decide +kernel)
  have hAQ := hts (.arrayOver (.object "KegDeposits$Kind")) (by decide +kernel)
  obtain ⟨pP, cP, kP, fP, -, gP, eP, nP⟩ := Cond.arrayOver_spec hAP
  obtain ⟨pQ, cQ, kQ, fQ, -, gQ, eQ, nQ⟩ := Cond.arrayOver_spec hAQ
  refine ⟨((fun k => match k with | 0 => c0 | 1 => c1 | 2 => c2 | 3 => c3 | 4 => c4 | 5 => c5 | _ => c6, fun k => match k with | 0 => i0 | 1 => i1 | 2 => i2 | 3 => i3 | 4 => i4 | 5 => i5 | _ => i6), cJ, cI, cP, cQ), ⟨fun k q hq => ?_, fun k q hq => ?_⟩, ⟨fun q hq => ?_, fun q hq => ?_⟩, va_AO.of hAP, va_AO.of hAQ⟩
  · match k, hq with
    | 0, hq => cases hq; exact k0
    | 1, hq => cases hq; exact k1
    | 2, hq => cases hq; exact k2
    | 3, hq => cases hq; exact k3
    | 4, hq => cases hq; exact k4
    | 5, hq => cases hq; exact k5
    | 6, hq => cases hq; exact k6
    | n + 7, hq => simp at hq
  · match k, hq with
    | 0, hq => cases hq; exact ⟨fun n z => ⟨(fun k h => by cases h), kJ, gJ, pJ, eJ⟩, fJ⟩
    | 1, hq => cases hq; exact ⟨fun n z => ⟨(fun k h => by cases h), kI, gI, pI, eI⟩, fI⟩
    | 2, hq => cases hq; exact ⟨fun n z => ⟨(fun k h => by cases h), kP, gP, pP, eP⟩, kP, pP, gP, eP, fP, nP⟩
    | 3, hq => cases hq; exact ⟨fun n z => ⟨(fun k h => by cases h), kQ, gQ, pQ, eQ⟩, kQ, pQ, gQ, eQ, fQ, nQ⟩
    | n + 4, hq => simp at hq
  · exact va_Nw.of rfl (hts _ ((by decide +kernel : ∀ q ∈ zk_nf, Cond.fieldLinkNest q.1 q.2.1 q.2.2.1 q.2.2.2.1 q.2.2.2.2.1 q.2.2.2.2.2 ∈ lw_tbl) q hq))
  · exact va_Nw.of rfl (hts _ ((by decide +kernel : ∀ q ∈ zk_nm, Cond.methodLinkNest q.1 q.2.1 q.2.2.1 q.2.2.2 ∈ lw_tbl) q hq))
