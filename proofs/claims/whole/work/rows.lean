section
-- ===== PART A: goes FIRST, ahead of the names: the tables' words, and 'selects' of the private methods out of them =====
/-- a private method of a class that the tables say can be made, by its rows of tables_1 -/
def lw_okq (q : MethodName × Nat) : Prop := (q.1.cls ≠ "java/lang/invoke/MethodHandle" ∧ q.1.cls ≠ "java/lang/invoke/VarHandle") ∧ Cond.instantiable q.1.cls q.2 ∈ tables_1 ∧ Cond.privateMethod q.1 ∈ tables_1 ∧ Cond.instanceMethod q.1 ∈ tables_1
theorem lw_p0 : lw_okq (⟨"KegDeposits", "kindAt", "(I)LKegDeposits$Kind;"⟩, 6) := ⟨⟨by decide +kernel, by decide +kernel⟩, List.mem_of_getElem? (i := 10) (by decide +kernel), List.mem_of_getElem? (i := 82) (by decide +kernel), List.mem_of_getElem? (i := 83) (by decide +kernel)⟩
theorem lw_p1 : lw_okq (⟨"KegDeposits", "customerAt", "(I)LKegDeposits$Party;"⟩, 6) := ⟨⟨by decide +kernel, by decide +kernel⟩, List.mem_of_getElem? (i := 10) (by decide +kernel), List.mem_of_getElem? (i := 117) (by decide +kernel), List.mem_of_getElem? (i := 118) (by decide +kernel)⟩
theorem lw_p2 : lw_okq (⟨"KegDeposits", "partyAt", "(I)LKegDeposits$Party;"⟩, 6) := ⟨⟨by decide +kernel, by decide +kernel⟩, List.mem_of_getElem? (i := 10) (by decide +kernel), List.mem_of_getElem? (i := 121) (by decide +kernel), List.mem_of_getElem? (i := 122) (by decide +kernel)⟩
theorem lw_p3 : lw_okq (⟨"KegDeposits", "mayMoveOn", "(J)Z"⟩, 6) := ⟨⟨by decide +kernel, by decide +kernel⟩, List.mem_of_getElem? (i := 10) (by decide +kernel), List.mem_of_getElem? (i := 128) (by decide +kernel), List.mem_of_getElem? (i := 129) (by decide +kernel)⟩
theorem lw_p4 : lw_okq (⟨"KegDeposits", "layersInUse", "()I"⟩, 6) := ⟨⟨by decide +kernel, by decide +kernel⟩, List.mem_of_getElem? (i := 10) (by decide +kernel), List.mem_of_getElem? (i := 132) (by decide +kernel), List.mem_of_getElem? (i := 133) (by decide +kernel)⟩
theorem lw_p5 : lw_okq (⟨"KegDeposits", "move", "(JJLKegDeposits$Party;LKegDeposits$Party;)V"⟩, 6) := ⟨⟨by decide +kernel, by decide +kernel⟩, List.mem_of_getElem? (i := 10) (by decide +kernel), List.mem_of_getElem? (i := 175) (by decide +kernel), List.mem_of_getElem? (i := 176) (by decide +kernel)⟩
theorem lw_p6 : lw_okq (⟨"KegDeposits", "sharesMakeOne", "()Z"⟩, 6) := ⟨⟨by decide +kernel, by decide +kernel⟩, List.mem_of_getElem? (i := 10) (by decide +kernel), List.mem_of_getElem? (i := 222) (by decide +kernel), List.mem_of_getElem? (i := 223) (by decide +kernel)⟩
theorem lw_p7 : lw_okq (⟨"KegDeposits", "hasLot", "(LKegDeposits$Party;J)Z"⟩, 6) := ⟨⟨by decide +kernel, by decide +kernel⟩, List.mem_of_getElem? (i := 10) (by decide +kernel), List.mem_of_getElem? (i := 227) (by decide +kernel), List.mem_of_getElem? (i := 228) (by decide +kernel)⟩
theorem lw_p8 : lw_okq (⟨"KegDeposits", "giveBackLot", "(LKegDeposits$Party;J)J"⟩, 6) := ⟨⟨by decide +kernel, by decide +kernel⟩, List.mem_of_getElem? (i := 10) (by decide +kernel), List.mem_of_getElem? (i := 235) (by decide +kernel), List.mem_of_getElem? (i := 236) (by decide +kernel)⟩
theorem lw_p9 : lw_okq (⟨"KegDeposits", "balanceOf", "(LKegDeposits$Party;J)J"⟩, 6) := ⟨⟨by decide +kernel, by decide +kernel⟩, List.mem_of_getElem? (i := 10) (by decide +kernel), List.mem_of_getElem? (i := 247) (by decide +kernel), List.mem_of_getElem? (i := 248) (by decide +kernel)⟩
theorem lw_p10 : lw_okq (⟨"KegDeposits", "worthOf", "(LKegDeposits$Party;J)J"⟩, 6) := ⟨⟨by decide +kernel, by decide +kernel⟩, List.mem_of_getElem? (i := 10) (by decide +kernel), List.mem_of_getElem? (i := 269) (by decide +kernel), List.mem_of_getElem? (i := 270) (by decide +kernel)⟩
theorem lw_p11 : lw_okq (⟨"KegDepositsModel", "isKind", "(I)Z"⟩, 20) := ⟨⟨by decide +kernel, by decide +kernel⟩, List.mem_of_getElem? (i := 288) (by decide +kernel), List.mem_of_getElem? (i := 369) (by decide +kernel), List.mem_of_getElem? (i := 370) (by decide +kernel)⟩
theorem lw_p12 : lw_okq (⟨"KegDepositsModel", "mayCome", "(IJJ)Z"⟩, 20) := ⟨⟨by decide +kernel, by decide +kernel⟩, List.mem_of_getElem? (i := 288) (by decide +kernel), List.mem_of_getElem? (i := 381) (by decide +kernel), List.mem_of_getElem? (i := 382) (by decide +kernel)⟩
theorem lw_p13 : lw_okq (⟨"KegDepositsModel", "isParty", "(I)Z"⟩, 20) := ⟨⟨by decide +kernel, by decide +kernel⟩, List.mem_of_getElem? (i := 288) (by decide +kernel), List.mem_of_getElem? (i := 385) (by decide +kernel), List.mem_of_getElem? (i := 386) (by decide +kernel)⟩
theorem lw_p14 : lw_okq (⟨"KegDepositsModel", "priceOn", "(IJ)J"⟩, 20) := ⟨⟨by decide +kernel, by decide +kernel⟩, List.mem_of_getElem? (i := 288) (by decide +kernel), List.mem_of_getElem? (i := 389) (by decide +kernel), List.mem_of_getElem? (i := 390) (by decide +kernel)⟩
theorem lw_p15 : lw_okq (⟨"KegDepositsModel", "move", "(IIJJ)V"⟩, 20) := ⟨⟨by decide +kernel, by decide +kernel⟩, List.mem_of_getElem? (i := 288) (by decide +kernel), List.mem_of_getElem? (i := 394) (by decide +kernel), List.mem_of_getElem? (i := 395) (by decide +kernel)⟩
def lw_privs_1 : List (MethodName × Nat) := [(⟨"KegDeposits", "kindAt", "(I)LKegDeposits$Kind;"⟩, 6), (⟨"KegDeposits", "customerAt", "(I)LKegDeposits$Party;"⟩, 6), (⟨"KegDeposits", "partyAt", "(I)LKegDeposits$Party;"⟩, 6), (⟨"KegDeposits", "mayMoveOn", "(J)Z"⟩, 6), (⟨"KegDeposits", "layersInUse", "()I"⟩, 6), (⟨"KegDeposits", "move", "(JJLKegDeposits$Party;LKegDeposits$Party;)V"⟩, 6), (⟨"KegDeposits", "sharesMakeOne", "()Z"⟩, 6), (⟨"KegDeposits", "hasLot", "(LKegDeposits$Party;J)Z"⟩, 6), (⟨"KegDeposits", "giveBackLot", "(LKegDeposits$Party;J)J"⟩, 6), (⟨"KegDeposits", "balanceOf", "(LKegDeposits$Party;J)J"⟩, 6), (⟨"KegDeposits", "worthOf", "(LKegDeposits$Party;J)J"⟩, 6), (⟨"KegDepositsModel", "isKind", "(I)Z"⟩, 20), (⟨"KegDepositsModel", "mayCome", "(IJJ)Z"⟩, 20), (⟨"KegDepositsModel", "isParty", "(I)Z"⟩, 20), (⟨"KegDepositsModel", "priceOn", "(IJ)J"⟩, 20), (⟨"KegDepositsModel", "move", "(IIJJ)V"⟩, 20)]
theorem lw_r1 : ∀ q ∈ lw_privs_1, lw_okq q := List.forall_mem_cons.mpr ⟨lw_p0, List.forall_mem_cons.mpr ⟨lw_p1, List.forall_mem_cons.mpr ⟨lw_p2, List.forall_mem_cons.mpr ⟨lw_p3, List.forall_mem_cons.mpr ⟨lw_p4, List.forall_mem_cons.mpr ⟨lw_p5, List.forall_mem_cons.mpr ⟨lw_p6, List.forall_mem_cons.mpr ⟨lw_p7, List.forall_mem_cons.mpr ⟨lw_p8, List.forall_mem_cons.mpr ⟨lw_p9, List.forall_mem_cons.mpr ⟨lw_p10, List.forall_mem_cons.mpr ⟨lw_p11, List.forall_mem_cons.mpr ⟨lw_p12, List.forall_mem_cons.mpr ⟨lw_p13, List.forall_mem_cons.mpr ⟨lw_p14, List.forall_mem_cons.mpr ⟨lw_p15, fun _ h => absurd h List.not_mem_nil⟩⟩⟩⟩⟩⟩⟩⟩⟩⟩⟩⟩⟩⟩⟩⟩
theorem lw_p16 : lw_okq (⟨"KegDepositsModel", "has", "(II)J"⟩, 20) := ⟨⟨by decide +kernel, by decide +kernel⟩, List.mem_of_getElem? (i := 288) (by decide +kernel), List.mem_of_getElem? (i := 402) (by decide +kernel), List.mem_of_getElem? (i := 403) (by decide +kernel)⟩
theorem lw_p17 : lw_okq (⟨"KegDepositsModel", "take", "(IIJ)J"⟩, 20) := ⟨⟨by decide +kernel, by decide +kernel⟩, List.mem_of_getElem? (i := 288) (by decide +kernel), List.mem_of_getElem? (i := 406) (by decide +kernel), List.mem_of_getElem? (i := 407) (by decide +kernel)⟩
theorem lw_p18 : lw_okq (⟨"KegDepositsModel", "worth", "(IJ)J"⟩, 20) := ⟨⟨by decide +kernel, by decide +kernel⟩, List.mem_of_getElem? (i := 288) (by decide +kernel), List.mem_of_getElem? (i := 436) (by decide +kernel), List.mem_of_getElem? (i := 437) (by decide +kernel)⟩
def lw_privs_2 : List (MethodName × Nat) := [(⟨"KegDepositsModel", "has", "(II)J"⟩, 20), (⟨"KegDepositsModel", "take", "(IIJ)J"⟩, 20), (⟨"KegDepositsModel", "worth", "(IJ)J"⟩, 20)]
theorem lw_r2 : ∀ q ∈ lw_privs_2, lw_okq q := List.forall_mem_cons.mpr ⟨lw_p16, List.forall_mem_cons.mpr ⟨lw_p17, List.forall_mem_cons.mpr ⟨lw_p18, fun _ h => absurd h List.not_mem_nil⟩⟩⟩
def lw_privs : List (MethodName × Nat) := lw_privs_1 ++ (lw_privs_2)
def lw_tbl : List Cond := k2_sels lw_privs ++ tables_1
theorem lw_privs_ok : ∀ q ∈ lw_privs, lw_okq q := by
  show ∀ q ∈ lw_privs_1 ++ (lw_privs_2), lw_okq q
  exact List.forall_mem_append.mpr ⟨lw_r1, lw_r2⟩
end
section
/-! ===== BEGIN words of one list among another's, by their places ===== -/
theorem goodIn_r {big : List Cond} (ws : List Cond) (ps : List Nat) (hp : ws = ps.filterMap (fun i => big[i]?)) (h : ws.all goodWord = true) : GoodIn big ws := by
  intro w hw
  have h1 := List.all_eq_true.mp h w hw
  rw [hp] at hw
  obtain ⟨i, -, hi⟩ := List.mem_filterMap.mp hw
  have hm : w ∈ big := by first | exact List.mem_of_getElem? hi | exact List.getElem?_mem hi
  exact ⟨hm, good_of_word h1⟩
theorem goodIn_app {big a b : List Cond} (ha : GoodIn big a) (hb : GoodIn big b) : GoodIn big (a ++ b) := fun w h => (List.mem_append.mp h).elim (ha w) (hb w)
theorem goodIn_ca {big a b : List Cond} {c : Cond} (ha : GoodIn big (c :: a)) (hb : GoodIn big b) : GoodIn big (c :: (a ++ b)) := fun w h => (List.mem_cons.mp h).elim (fun e => ha w (List.mem_cons.mpr (Or.inl e))) (fun h => (List.mem_append.mp h).elim (fun h => ha w (List.mem_cons.mpr (Or.inr h))) (hb w))
theorem goodIn_sub {big ws : List Cond} (hm : ∀ w ∈ ws, w ∈ big) (h : ws.all goodWord = true) : GoodIn big ws := fun w hw => ⟨hm w hw, good_of_word (List.all_eq_true.mp h w hw)⟩
/-! ===== END ===== -/

/-! ===== BEGIN printed: names, fields, word lists, decode rows ===== -/
def RX0 : String := "KegDeposits$Kind"
def TX0 : u_T := fun k => match k with
  | 0 => ("KegDeposits$Kind", "prices", "LKegDeposits$Price;", false)
  | 1 => ("KegDeposits$Kind", "shareParts", "J", false)
  | _ => ("KegDeposits$Kind", "restParts", "J", false)
def tyX0 : Nat → FieldType := fun k => match k with
  | 0 => .object "KegDeposits$Price"
  | 1 => .long
  | _ => .long
abbrev wsX00 : List Cond := u_ws RX0 TX0 3
theorem nmX0 : ∀ a, a < 3 → ∀ b, b < 3 → a ≠ b → (TX0 a).2.1 ≠ (TX0 b).2.1 := by decide +kernel
theorem tyX0_ok : ∀ k, k < 3 → parseFieldDescriptor (TX0 k).2.2.1 = some (tyX0 k) := by decide +kernel
abbrev cX0_init : ByteArray := prog_2_method_1_code
def yX0_init : MethodName := ⟨RX0, "<init>", "()V"⟩
abbrev cX0_tellPrice : ByteArray := prog_2_method_2_code
def yX0_tellPrice : MethodName := ⟨RX0, "tellPrice", "(JJ)Z"⟩
abbrev cX0_priceOn : ByteArray := prog_2_method_3_code
def yX0_priceOn : MethodName := ⟨RX0, "priceOn", "(J)J"⟩
abbrev cX0_partsOfLot : ByteArray := prog_2_method_4_code
def yX0_partsOfLot : MethodName := ⟨RX0, "partsOfLot", "(J)J"⟩
def RX1 : String := "KegDeposits$Layer"
def TX1 : u_T := fun k => match k with
  | 0 => ("KegDeposits$Layer", "kind", "LKegDeposits$Kind;", true)
  | 1 => ("KegDeposits$Layer", "day", "J", true)
  | 2 => ("KegDeposits$Layer", "cents", "J", true)
  | 3 => ("KegDeposits$Layer", "pieces", "J", false)
  | _ => ("KegDeposits$Layer", "younger", "LKegDeposits$Layer;", false)
def tyX1 : Nat → FieldType := fun k => match k with
  | 0 => .object "KegDeposits$Kind"
  | 1 => .long
  | 2 => .long
  | 3 => .long
  | _ => .object "KegDeposits$Layer"
abbrev wsX10 : List Cond := u_ws RX1 TX1 5
theorem nmX1 : ∀ a, a < 5 → ∀ b, b < 5 → a ≠ b → (TX1 a).2.1 ≠ (TX1 b).2.1 := by decide +kernel
theorem tyX1_ok : ∀ k, k < 5 → parseFieldDescriptor (TX1 k).2.2.1 = some (tyX1 k) := by decide +kernel
abbrev cX1_init : ByteArray := prog_3_method_1_code
def yX1_init : MethodName := ⟨RX1, "<init>", "(LKegDeposits$Kind;JJJ)V"⟩
def RX2 : String := "KegDeposits$Party"
def TX2 : u_T := fun k => match k with
  | 0 => ("KegDeposits$Party", "oldest", "LKegDeposits$Layer;", false)
  | _ => ("KegDeposits$Party", "newest", "LKegDeposits$Layer;", false)
def tyX2 : Nat → FieldType := fun k => match k with
  | 0 => .object "KegDeposits$Layer"
  | _ => .object "KegDeposits$Layer"
abbrev wsX20 : List Cond := u_ws RX2 TX2 2
theorem nmX2 : ∀ a, a < 2 → ∀ b, b < 2 → a ≠ b → (TX2 a).2.1 ≠ (TX2 b).2.1 := by decide +kernel
theorem tyX2_ok : ∀ k, k < 2 → parseFieldDescriptor (TX2 k).2.2.1 = some (tyX2 k) := by decide +kernel
abbrev cX2_init : ByteArray := prog_4_method_1_code
def yX2_init : MethodName := ⟨RX2, "<init>", "()V"⟩
abbrev cX2_addLayer : ByteArray := prog_4_method_2_code
def yX2_addLayer : MethodName := ⟨RX2, "addLayer", "(LKegDeposits$Layer;)V"⟩
abbrev cX2_piecesUpTo : ByteArray := prog_4_method_3_code
def yX2_piecesUpTo : MethodName := ⟨RX2, "piecesUpTo", "(LKegDeposits$Kind;J)J"⟩
abbrev cX2_giveBack : ByteArray := prog_4_method_4_code
def yX2_giveBack : MethodName := ⟨RX2, "giveBack", "(LKegDeposits$Kind;J)J"⟩
abbrev cX2_layersInUse : ByteArray := prog_4_method_5_code
def yX2_layersInUse : MethodName := ⟨RX2, "layersInUse", "()I"⟩
def RX3 : String := "KegDeposits$Price"
def TX3 : u_T := fun k => match k with
  | 0 => ("KegDeposits$Price", "day", "J", true)
  | 1 => ("KegDeposits$Price", "next", "LKegDeposits$Price;", true)
  | _ => ("KegDeposits$Price", "cents", "J", false)
def tyX3 : Nat → FieldType := fun k => match k with
  | 0 => .long
  | 1 => .object "KegDeposits$Price"
  | _ => .long
abbrev wsX30 : List Cond := u_ws RX3 TX3 3
theorem nmX3 : ∀ a, a < 3 → ∀ b, b < 3 → a ≠ b → (TX3 a).2.1 ≠ (TX3 b).2.1 := by decide +kernel
theorem tyX3_ok : ∀ k, k < 3 → parseFieldDescriptor (TX3 k).2.2.1 = some (tyX3 k) := by decide +kernel
abbrev cX3_init : ByteArray := prog_5_method_1_code
def yX3_init : MethodName := ⟨RX3, "<init>", "(JJLKegDeposits$Price;)V"⟩
def RX4 : String := "KegDeposits$Transfer"
def TX4 : u_T := fun k => match k with
  | 0 => ("KegDeposits$Transfer", "day", "J", true)
  | 1 => ("KegDeposits$Transfer", "cents", "J", true)
  | 2 => ("KegDeposits$Transfer", "payer", "LKegDeposits$Party;", true)
  | 3 => ("KegDeposits$Transfer", "taker", "LKegDeposits$Party;", true)
  | _ => ("KegDeposits$Transfer", "earlier", "LKegDeposits$Transfer;", true)
def tyX4 : Nat → FieldType := fun k => match k with
  | 0 => .long
  | 1 => .long
  | 2 => .object "KegDeposits$Party"
  | 3 => .object "KegDeposits$Party"
  | _ => .object "KegDeposits$Transfer"
abbrev wsX40 : List Cond := u_ws RX4 TX4 5
theorem nmX4 : ∀ a, a < 5 → ∀ b, b < 5 → a ≠ b → (TX4 a).2.1 ≠ (TX4 b).2.1 := by decide +kernel
theorem tyX4_ok : ∀ k, k < 5 → parseFieldDescriptor (TX4 k).2.2.1 = some (tyX4 k) := by decide +kernel
abbrev cX4_init : ByteArray := prog_6_method_1_code
def yX4_init : MethodName := ⟨RX4, "<init>", "(JJLKegDeposits$Party;LKegDeposits$Party;LKegDeposits$Transfer;)V"⟩
abbrev cX4_changeOf : ByteArray := prog_6_method_2_code
def yX4_changeOf : MethodName := ⟨RX4, "changeOf", "(LKegDeposits$Party;)J"⟩
def RX5 : String := "KegDeposits"
def TX5 : u_T := fun k => match k with
  | 0 => ("KegDeposits", "house", "LKegDeposits$Party;", true)
  | 1 => ("KegDeposits", "parties", "[LKegDeposits$Party;", true)
  | 2 => ("KegDeposits", "kinds", "[LKegDeposits$Kind;", true)
  | 3 => ("KegDeposits", "latestTransfer", "LKegDeposits$Transfer;", false)
  | 4 => ("KegDeposits", "movesDone", "I", false)
  | _ => ("KegDeposits", "clock", "J", false)
def tyX5 : Nat → FieldType := fun k => match k with
  | 0 => .object "KegDeposits$Party"
  | 1 => .array (.object "KegDeposits$Party")
  | 2 => .array (.object "KegDeposits$Kind")
  | 3 => .object "KegDeposits$Transfer"
  | 4 => .int
  | _ => .long
abbrev wsX50 : List Cond := u_ws RX5 TX5 6
theorem nmX5 : ∀ a, a < 6 → ∀ b, b < 6 → a ≠ b → (TX5 a).2.1 ≠ (TX5 b).2.1 := by decide +kernel
theorem tyX5_ok : ∀ k, k < 6 → parseFieldDescriptor (TX5 k).2.2.1 = some (tyX5 k) := by decide +kernel
abbrev cX5_init : ByteArray := prog_1_method_1_code
def yX5_init : MethodName := ⟨RX5, "<init>", "()V"⟩
abbrev cX5_party : ByteArray := prog_1_method_2_code
def yX5_party : MethodName := ⟨RX5, "party", "()I"⟩
abbrev cX5_kind : ByteArray := prog_1_method_3_code
def yX5_kind : MethodName := ⟨RX5, "kind", "()I"⟩
abbrev cX5_price : ByteArray := prog_1_method_4_code
def yX5_price : MethodName := ⟨RX5, "price", "(IJJ)Z"⟩
abbrev cX5_out : ByteArray := prog_1_method_5_code
def yX5_out : MethodName := ⟨RX5, "out", "(IIJJ)Z"⟩
abbrev cX5_back : ByteArray := prog_1_method_6_code
def yX5_back : MethodName := ⟨RX5, "back", "(IIJJ)Z"⟩
abbrev cX5_sampled : ByteArray := prog_1_method_7_code
def yX5_sampled : MethodName := ⟨RX5, "sampled", "(IJJ)Z"⟩
abbrev cX5_share : ByteArray := prog_1_method_8_code
def yX5_share : MethodName := ⟨RX5, "share", "(IJJ)Z"⟩
abbrev cX5_balance : ByteArray := prog_1_method_9_code
def yX5_balance : MethodName := ⟨RX5, "balance", "(IJ)J"⟩
abbrev cX5_count : ByteArray := prog_1_method_10_code
def yX5_count : MethodName := ⟨RX5, "count", "(II)J"⟩
abbrev cX5_lost : ByteArray := prog_1_method_11_code
def yX5_lost : MethodName := ⟨RX5, "lost", "(II)J"⟩
abbrev cX5_settle : ByteArray := prog_1_method_12_code
def yX5_settle : MethodName := ⟨RX5, "settle", "(III)I"⟩
abbrev cX5_rest : ByteArray := prog_1_method_13_code
def yX5_rest : MethodName := ⟨RX5, "rest", "(II)J"⟩
abbrev cX5_sum : ByteArray := prog_1_method_14_code
def yX5_sum : MethodName := ⟨RX5, "sum", "(J)J"⟩
abbrev cX5_partyAt : ByteArray := prog_1_method_15_code
def yX5_partyAt : MethodName := ⟨RX5, "partyAt", "(I)LKegDeposits$Party;"⟩
abbrev cX5_customerAt : ByteArray := prog_1_method_16_code
def yX5_customerAt : MethodName := ⟨RX5, "customerAt", "(I)LKegDeposits$Party;"⟩
abbrev cX5_kindAt : ByteArray := prog_1_method_17_code
def yX5_kindAt : MethodName := ⟨RX5, "kindAt", "(I)LKegDeposits$Kind;"⟩
abbrev cX5_isDay : ByteArray := prog_1_method_18_code
def yX5_isDay : MethodName := ⟨RX5, "isDay", "(J)Z"⟩
abbrev cX5_isNumber : ByteArray := prog_1_method_19_code
def yX5_isNumber : MethodName := ⟨RX5, "isNumber", "(J)Z"⟩
abbrev cX5_mayMoveOn : ByteArray := prog_1_method_20_code
def yX5_mayMoveOn : MethodName := ⟨RX5, "mayMoveOn", "(J)Z"⟩
abbrev cX5_move : ByteArray := prog_1_method_21_code
def yX5_move : MethodName := ⟨RX5, "move", "(JJLKegDeposits$Party;LKegDeposits$Party;)V"⟩
abbrev cX5_balanceOf : ByteArray := prog_1_method_22_code
def yX5_balanceOf : MethodName := ⟨RX5, "balanceOf", "(LKegDeposits$Party;J)J"⟩
abbrev cX5_layersInUse : ByteArray := prog_1_method_23_code
def yX5_layersInUse : MethodName := ⟨RX5, "layersInUse", "()I"⟩
abbrev cX5_sharesMakeOne : ByteArray := prog_1_method_24_code
def yX5_sharesMakeOne : MethodName := ⟨RX5, "sharesMakeOne", "()Z"⟩
abbrev cX5_hasLot : ByteArray := prog_1_method_25_code
def yX5_hasLot : MethodName := ⟨RX5, "hasLot", "(LKegDeposits$Party;J)Z"⟩
abbrev cX5_giveBackLot : ByteArray := prog_1_method_26_code
def yX5_giveBackLot : MethodName := ⟨RX5, "giveBackLot", "(LKegDeposits$Party;J)J"⟩
abbrev cX5_worthOf : ByteArray := prog_1_method_27_code
def yX5_worthOf : MethodName := ⟨RX5, "worthOf", "(LKegDeposits$Party;J)J"⟩
abbrev cX5_commonDivisor : ByteArray := prog_1_method_28_code
def yX5_commonDivisor : MethodName := ⟨RX5, "commonDivisor", "(JJ)J"⟩
def RX6 : String := "KegDepositsModel"
def TX6 : u_T := fun k => match k with
  | 0 => ("KegDepositsModel", "parties", "I", false)
  | 1 => ("KegDepositsModel", "kinds", "I", false)
  | 2 => ("KegDepositsModel", "clock", "J", false)
  | 3 => ("KegDepositsModel", "priceDays", "[J", true)
  | 4 => ("KegDepositsModel", "priceCents", "[J", true)
  | 5 => ("KegDepositsModel", "prices", "[I", true)
  | 6 => ("KegDepositsModel", "shares", "[J", true)
  | 7 => ("KegDepositsModel", "rests", "[J", true)
  | 8 => ("KegDepositsModel", "pieces", "[J", true)
  | 9 => ("KegDepositsModel", "layers", "I", false)
  | 10 => ("KegDepositsModel", "layerParty", "[I", true)
  | 11 => ("KegDepositsModel", "layerKind", "[I", true)
  | 12 => ("KegDepositsModel", "layerLeft", "[J", true)
  | 13 => ("KegDepositsModel", "layerDay", "[J", true)
  | 14 => ("KegDepositsModel", "layerPrice", "[J", true)
  | 15 => ("KegDepositsModel", "changes", "I", false)
  | 16 => ("KegDepositsModel", "gains", "[I", true)
  | 17 => ("KegDepositsModel", "loses", "[I", true)
  | 18 => ("KegDepositsModel", "amounts", "[J", true)
  | _ => ("KegDepositsModel", "changeDays", "[J", true)
def tyX6 : Nat → FieldType := fun k => match k with
  | 0 => .int
  | 1 => .int
  | 2 => .long
  | 3 => .array .long
  | 4 => .array .long
  | 5 => .array .int
  | 6 => .array .long
  | 7 => .array .long
  | 8 => .array .long
  | 9 => .int
  | 10 => .array .int
  | 11 => .array .int
  | 12 => .array .long
  | 13 => .array .long
  | 14 => .array .long
  | 15 => .int
  | 16 => .array .int
  | 17 => .array .int
  | 18 => .array .long
  | _ => .array .long
abbrev wsX60 : List Cond := u_ws RX6 TX6 20
theorem nmX6 : ∀ a, a < 20 → ∀ b, b < 20 → a ≠ b → (TX6 a).2.1 ≠ (TX6 b).2.1 := by decide +kernel
theorem tyX6_ok : ∀ k, k < 20 → parseFieldDescriptor (TX6 k).2.2.1 = some (tyX6 k) := by decide +kernel
abbrev cX6_init : ByteArray := prog_8_method_1_code
def yX6_init : MethodName := ⟨RX6, "<init>", "()V"⟩
abbrev cX6_party : ByteArray := prog_8_method_2_code
def yX6_party : MethodName := ⟨RX6, "party", "()I"⟩
abbrev cX6_kind : ByteArray := prog_8_method_3_code
def yX6_kind : MethodName := ⟨RX6, "kind", "()I"⟩
abbrev cX6_isParty : ByteArray := prog_8_method_4_code
def yX6_isParty : MethodName := ⟨RX6, "isParty", "(I)Z"⟩
abbrev cX6_isKind : ByteArray := prog_8_method_5_code
def yX6_isKind : MethodName := ⟨RX6, "isKind", "(I)Z"⟩
abbrev cX6_isDay : ByteArray := prog_8_method_6_code
def yX6_isDay : MethodName := ⟨RX6, "isDay", "(J)Z"⟩
abbrev cX6_price : ByteArray := prog_8_method_7_code
def yX6_price : MethodName := ⟨RX6, "price", "(IJJ)Z"⟩
abbrev cX6_priceOn : ByteArray := prog_8_method_8_code
def yX6_priceOn : MethodName := ⟨RX6, "priceOn", "(IJ)J"⟩
abbrev cX6_move : ByteArray := prog_8_method_9_code
def yX6_move : MethodName := ⟨RX6, "move", "(IIJJ)V"⟩
abbrev cX6_mayCome : ByteArray := prog_8_method_10_code
def yX6_mayCome : MethodName := ⟨RX6, "mayCome", "(IJJ)Z"⟩
abbrev cX6_out : ByteArray := prog_8_method_11_code
def yX6_out : MethodName := ⟨RX6, "out", "(IIJJ)Z"⟩
abbrev cX6_has : ByteArray := prog_8_method_12_code
def yX6_has : MethodName := ⟨RX6, "has", "(II)J"⟩
abbrev cX6_take : ByteArray := prog_8_method_13_code
def yX6_take : MethodName := ⟨RX6, "take", "(IIJ)J"⟩
abbrev cX6_back : ByteArray := prog_8_method_14_code
def yX6_back : MethodName := ⟨RX6, "back", "(IIJJ)Z"⟩
abbrev cX6_sampled : ByteArray := prog_8_method_15_code
def yX6_sampled : MethodName := ⟨RX6, "sampled", "(IJJ)Z"⟩
abbrev cX6_share : ByteArray := prog_8_method_16_code
def yX6_share : MethodName := ⟨RX6, "share", "(IJJ)Z"⟩
abbrev cX6_balance : ByteArray := prog_8_method_17_code
def yX6_balance : MethodName := ⟨RX6, "balance", "(IJ)J"⟩
abbrev cX6_count : ByteArray := prog_8_method_18_code
def yX6_count : MethodName := ⟨RX6, "count", "(II)J"⟩
abbrev cX6_lost : ByteArray := prog_8_method_19_code
def yX6_lost : MethodName := ⟨RX6, "lost", "(II)J"⟩
abbrev cX6_worth : ByteArray := prog_8_method_20_code
def yX6_worth : MethodName := ⟨RX6, "worth", "(IJ)J"⟩
abbrev cX6_settle : ByteArray := prog_8_method_21_code
def yX6_settle : MethodName := ⟨RX6, "settle", "(III)I"⟩
abbrev cX6_rest : ByteArray := prog_8_method_22_code
def yX6_rest : MethodName := ⟨RX6, "rest", "(II)J"⟩
abbrev cX6_sum : ByteArray := prog_8_method_23_code
def yX6_sum : MethodName := ⟨RX6, "sum", "(J)J"⟩
def RJ9 : String := "java/lang/Math"
def TJ9 : u_T := fun k => match k with
  | _ => ("", "", "", false)
def tyJ9 : Nat → FieldType := fun k => match k with
  | _ => .int
abbrev wsJ90 : List Cond := u_ws RJ9 TJ9 0
theorem nmJ9 : ∀ a, a < 0 → ∀ b, b < 0 → a ≠ b → (TJ9 a).2.1 ≠ (TJ9 b).2.1 := by decide +kernel
theorem tyJ9_ok : ∀ k, k < 0 → parseFieldDescriptor (TJ9 k).2.2.1 = some (tyJ9 k) := by decide +kernel
abbrev cJ9_abs_067f4 : ByteArray := prog_9_method_61_code
def yJ9_abs_067f4 : MethodName := ⟨RJ9, "abs", "(J)J"⟩
abbrev cJ9_min_f86c9 : ByteArray := prog_9_method_70_code
def yJ9_min_f86c9 : MethodName := ⟨RJ9, "min", "(JJ)J"⟩
def RL : String := "KegDepositsLaw"
abbrev cL_law : ByteArray := code
def yL_law : MethodName := ⟨RL, "law", "([I)Z"⟩
def wsX0_init : List Cond := .code yX0_init cX0_init 1 none :: ([.methodLink RX0 3 objectInit, .instanceMethod objectInit, .code objectInit ⟨#[0xb1]⟩ 1 none])
def wsX3_init : List Cond := .code yX3_init cX3_init 6 none :: ([.methodLink RX3 1 objectInit, .instanceMethod objectInit, .code objectInit ⟨#[0xb1]⟩ 1 none, .fieldLink RX3 7 "KegDeposits$Price" "day" "J", .fieldLink RX3 13 "KegDeposits$Price" "cents" "J", .fieldLink RX3 16 "KegDeposits$Price" "next" "LKegDeposits$Price;"] ++ wsX30)
def wsX0_tellPrice : List Cond := .code yX0_tellPrice cX0_tellPrice 7 (some .boolean) :: ([.fieldLink RX0 9 "KegDeposits$Kind" "prices" "LKegDeposits$Price;", .classLink RX0 16 RX3, .instantiable RX3 3, .initialized RX3, .methodLink RX0 27 yX3_init, .instanceMethod yX3_init, .code yX3_init cX3_init 6 none, .methodLink RX3 1 objectInit, .instanceMethod objectInit, .code objectInit ⟨#[0xb1]⟩ 1 none, .fieldLink RX3 7 "KegDeposits$Price" "day" "J", .fieldLink RX3 13 "KegDeposits$Price" "cents" "J", .fieldLink RX3 16 "KegDeposits$Price" "next" "LKegDeposits$Price;"] ++ wsX00 ++ wsX30)
def wsX0_priceOn : List Cond := .code yX0_priceOn cX0_priceOn 8 (some .long) :: ([.constantLong RX0 30 (-1), .fieldLink RX0 9 "KegDeposits$Kind" "prices" "LKegDeposits$Price;"] ++ wsX00 ++ wsX30)
def wsX0_partsOfLot : List Cond := .code yX0_partsOfLot cX0_partsOfLot 3 (some .long) :: ([.fieldLink RX0 32 "KegDeposits$Kind" "restParts" "J", .fieldLink RX0 35 "KegDeposits$Kind" "shareParts" "J"] ++ wsX00)
def wsX1_init : List Cond := .code yX1_init cX1_init 8 none :: ([.methodLink RX1 1 objectInit, .instanceMethod objectInit, .code objectInit ⟨#[0xb1]⟩ 1 none, .fieldLink RX1 7 "KegDeposits$Layer" "kind" "LKegDeposits$Kind;", .fieldLink RX1 13 "KegDeposits$Layer" "day" "J", .fieldLink RX1 17 "KegDeposits$Layer" "pieces" "J", .fieldLink RX1 20 "KegDeposits$Layer" "cents" "J"] ++ wsX10)
def wsX2_init : List Cond := .code yX2_init cX2_init 1 none :: ([.methodLink RX2 1 objectInit, .instanceMethod objectInit, .code objectInit ⟨#[0xb1]⟩ 1 none])
def wsX2_addLayer : List Cond := .code yX2_addLayer cX2_addLayer 2 none :: ([.fieldLink RX2 7 "KegDeposits$Party" "newest" "LKegDeposits$Layer;", .fieldLink RX2 13 "KegDeposits$Party" "oldest" "LKegDeposits$Layer;"] ++ wsX20 ++ wsX10)
def wsX2_piecesUpTo : List Cond := .code yX2_piecesUpTo cX2_piecesUpTo 7 (some .long) :: ([.fieldLink RX2 13 "KegDeposits$Party" "oldest" "LKegDeposits$Layer;"] ++ wsX20 ++ wsX10)
def wsX2_giveBack : List Cond := .code yX2_giveBack cX2_giveBack 11 (some .long) :: ([.fieldLink RX2 13 "KegDeposits$Party" "oldest" "LKegDeposits$Layer;", .methodLink RX2 32 Lib.MathLoose.min_long.x, .static Lib.MathLoose.min_long.x, .initialized "java/lang/Math", .code Lib.MathLoose.min_long.x Lib.MathLoose.min_long.code 4 (some .long)] ++ wsX20 ++ wsX10)
def wsX2_layersInUse : List Cond := .code yX2_layersInUse cX2_layersInUse 3 (some .int) :: ([.fieldLink RX2 13 "KegDeposits$Party" "oldest" "LKegDeposits$Layer;"] ++ wsX20 ++ wsX10)
def wsX4_init : List Cond := .code yX4_init cX4_init 8 none :: ([.methodLink RX4 1 objectInit, .instanceMethod objectInit, .code objectInit ⟨#[0xb1]⟩ 1 none, .fieldLink RX4 7 "KegDeposits$Transfer" "day" "J", .fieldLink RX4 13 "KegDeposits$Transfer" "cents" "J", .fieldLink RX4 16 "KegDeposits$Transfer" "payer" "LKegDeposits$Party;", .fieldLink RX4 20 "KegDeposits$Transfer" "taker" "LKegDeposits$Party;", .fieldLink RX4 23 "KegDeposits$Transfer" "earlier" "LKegDeposits$Transfer;"] ++ wsX40)
def wsX4_changeOf : List Cond := .code yX4_changeOf cX4_changeOf 2 (some .long) :: ([.fieldLink RX4 16 "KegDeposits$Transfer" "payer" "LKegDeposits$Party;", .fieldLink RX4 13 "KegDeposits$Transfer" "cents" "J", .fieldLink RX4 20 "KegDeposits$Transfer" "taker" "LKegDeposits$Party;"] ++ wsX40)
def wsX5_init : List Cond := .code yX5_init cX5_init 1 none :: ([.methodLink RX5 1 objectInit, .instanceMethod objectInit, .code objectInit ⟨#[0xb1]⟩ 1 none, .classLink RX5 7 RX2, .instantiable RX2 2, .initialized RX2, .fieldLink RX5 10 "KegDeposits" "house" "LKegDeposits$Party;", .fieldLink RX5 16 "KegDeposits" "parties" "[LKegDeposits$Party;", .classLink RX5 20 RX0, .fieldLink RX5 22 "KegDeposits" "kinds" "[LKegDeposits$Kind;", .instanceMethod yX2_init, .code yX2_init cX2_init 1 none, .methodLink RX2 1 objectInit] ++ wsX20 ++ wsX50)
def wsX5_party : List Cond := .code yX5_party cX5_party 2 (some .int) :: ([.fieldLink RX5 16 "KegDeposits" "parties" "[LKegDeposits$Party;", .classLink RX5 7 RX2, .instantiable RX2 2, .initialized RX2, .instanceMethod yX2_init, .code yX2_init cX2_init 1 none, .methodLink RX2 1 objectInit, .instanceMethod objectInit, .code objectInit ⟨#[0xb1]⟩ 1 none] ++ wsX50 ++ wsX20)
def wsX5_kind : List Cond := .code yX5_kind cX5_kind 2 (some .int) :: ([.fieldLink RX5 22 "KegDeposits" "kinds" "[LKegDeposits$Kind;", .classLink RX5 20 RX0, .instantiable RX0 3, .initialized RX0, .instanceMethod yX0_init, .code yX0_init cX0_init 1 none, .methodLink RX0 3 objectInit, .instanceMethod objectInit, .code objectInit ⟨#[0xb1]⟩ 1 none] ++ wsX50 ++ wsX00)
def wsX5_kindAt : List Cond := .code yX5_kindAt cX5_kindAt 2 (some (.object "KegDeposits$Kind")) :: ([.fieldLink RX5 22 "KegDeposits" "kinds" "[LKegDeposits$Kind;"] ++ wsX50)
def wsX5_isDay : List Cond := .code yX5_isDay cX5_isDay 2 (some .boolean) :: ([.constantLong RX5 35 (100000)])
def wsX5_price_r1 : List Cond := [Cond.constantLong RX5 35 (100000), Cond.methodLink RX5 27 yX5_kindAt, Cond.instanceMethod yX5_kindAt, Cond.selects RX5 yX5_kindAt yX5_kindAt, Cond.initialized RX5, Cond.code yX5_kindAt cX5_kindAt 2 (some (.object "KegDeposits$Kind")), Cond.fieldLink RX5 22 "KegDeposits" "kinds" "[LKegDeposits$Kind;", Cond.methodLink RX5 31 yX5_isDay, Cond.static yX5_isDay, Cond.code yX5_isDay cX5_isDay 2 (some .boolean), Cond.methodLink RX5 37 yX0_tellPrice, Cond.instanceMethod yX0_tellPrice, Cond.selects RX0 yX0_tellPrice yX0_tellPrice, Cond.initialized RX0, Cond.code yX0_tellPrice cX0_tellPrice 7 (some .boolean), Cond.fieldLink RX0 9 "KegDeposits$Kind" "prices" "LKegDeposits$Price;", Cond.classLink RX0 16 RX3, Cond.instantiable RX3 3, Cond.initialized RX3, Cond.methodLink RX0 27 yX3_init, Cond.instanceMethod yX3_init, Cond.code yX3_init cX3_init 6 none, Cond.methodLink RX3 1 objectInit, Cond.instanceMethod objectInit]
def wsX5_price_r2 : List Cond := [Cond.code objectInit ⟨#[0xb1]⟩ 1 none, Cond.fieldLink RX3 7 "KegDeposits$Price" "day" "J", Cond.fieldLink RX3 13 "KegDeposits$Price" "cents" "J", Cond.fieldLink RX3 16 "KegDeposits$Price" "next" "LKegDeposits$Price;"]
def wsX5_price : List Cond := .code yX5_price cX5_price 7 (some .boolean) :: ((wsX5_price_r1 ++ wsX5_price_r2) ++ wsX50 ++ wsX00 ++ wsX30)
def wsX5_partyAt : List Cond := .code yX5_partyAt cX5_partyAt 2 (some (.object "KegDeposits$Party")) :: ([.fieldLink RX5 16 "KegDeposits" "parties" "[LKegDeposits$Party;"] ++ wsX50)
def wsX5_customerAt : List Cond := .code yX5_customerAt cX5_customerAt 2 (some (.object "KegDeposits$Party")) :: ([.methodLink RX5 97 yX5_partyAt, .instanceMethod yX5_partyAt, .selects RX5 yX5_partyAt yX5_partyAt, .initialized RX5, .code yX5_partyAt cX5_partyAt 2 (some (.object "KegDeposits$Party")), .fieldLink RX5 16 "KegDeposits" "parties" "[LKegDeposits$Party;"] ++ wsX50)
def wsX5_isNumber : List Cond := .code yX5_isNumber cX5_isNumber 2 (some .boolean) :: ([.constantLong RX5 35 (100000)])
def wsX5_mayMoveOn : List Cond := .code yX5_mayMoveOn cX5_mayMoveOn 3 (some .boolean) :: ([.fieldLink RX5 105 "KegDeposits" "clock" "J", .fieldLink RX5 127 "KegDeposits" "movesDone" "I", .methodLink RX5 31 yX5_isDay, .static yX5_isDay, .initialized RX5, .code yX5_isDay cX5_isDay 2 (some .boolean), .constantLong RX5 35 (100000)] ++ wsX50)
def wsX5_layersInUse : List Cond := .code yX5_layersInUse cX5_layersInUse 4 (some .int) :: ([.fieldLink RX5 16 "KegDeposits" "parties" "[LKegDeposits$Party;", .methodLink RX5 150 yX2_layersInUse, .instanceMethod yX2_layersInUse, .selects RX2 yX2_layersInUse yX2_layersInUse, .initialized RX2, .code yX2_layersInUse cX2_layersInUse 3 (some .int), .fieldLink RX2 13 "KegDeposits$Party" "oldest" "LKegDeposits$Layer;"] ++ wsX50 ++ wsX20 ++ wsX10)
def wsX5_move : List Cond := .code yX5_move cX5_move 7 none :: ([.classLink RX5 131 RX4, .instantiable RX4 5, .initialized RX4, .fieldLink RX5 133 "KegDeposits" "latestTransfer" "LKegDeposits$Transfer;", .fieldLink RX5 127 "KegDeposits" "movesDone" "I", .fieldLink RX5 105 "KegDeposits" "clock" "J", .methodLink RX5 137 yX4_init, .instanceMethod yX4_init, .code yX4_init cX4_init 8 none, .methodLink RX4 1 objectInit, .instanceMethod objectInit, .code objectInit ⟨#[0xb1]⟩ 1 none, .fieldLink RX4 7 "KegDeposits$Transfer" "day" "J", .fieldLink RX4 13 "KegDeposits$Transfer" "cents" "J", .fieldLink RX4 16 "KegDeposits$Transfer" "payer" "LKegDeposits$Party;", .fieldLink RX4 20 "KegDeposits$Transfer" "taker" "LKegDeposits$Party;", .fieldLink RX4 23 "KegDeposits$Transfer" "earlier" "LKegDeposits$Transfer;"] ++ wsX40 ++ wsX50)
def wsX5_out_r1 : List Cond := [Cond.classLink RX5 59 RX1, Cond.instantiable RX1 5, Cond.initialized RX1, Cond.fieldLink RX5 10 "KegDeposits" "house" "LKegDeposits$Party;", Cond.methodLink RX5 41 yX5_customerAt, Cond.instanceMethod yX5_customerAt, Cond.selects RX5 yX5_customerAt yX5_customerAt, Cond.initialized RX5, Cond.code yX5_customerAt cX5_customerAt 2 (some (.object "KegDeposits$Party")), Cond.methodLink RX5 97 yX5_partyAt, Cond.instanceMethod yX5_partyAt, Cond.selects RX5 yX5_partyAt yX5_partyAt, Cond.code yX5_partyAt cX5_partyAt 2 (some (.object "KegDeposits$Party")), Cond.fieldLink RX5 16 "KegDeposits" "parties" "[LKegDeposits$Party;", Cond.methodLink RX5 27 yX5_kindAt, Cond.instanceMethod yX5_kindAt, Cond.selects RX5 yX5_kindAt yX5_kindAt, Cond.code yX5_kindAt cX5_kindAt 2 (some (.object "KegDeposits$Kind")), Cond.fieldLink RX5 22 "KegDeposits" "kinds" "[LKegDeposits$Kind;", Cond.methodLink RX5 45 yX5_isNumber, Cond.static yX5_isNumber, Cond.code yX5_isNumber cX5_isNumber 2 (some .boolean), Cond.constantLong RX5 35 (100000), Cond.methodLink RX5 48 yX5_mayMoveOn]
def wsX5_out_r2 : List Cond := [Cond.instanceMethod yX5_mayMoveOn, Cond.selects RX5 yX5_mayMoveOn yX5_mayMoveOn, Cond.code yX5_mayMoveOn cX5_mayMoveOn 3 (some .boolean), Cond.fieldLink RX5 105 "KegDeposits" "clock" "J", Cond.fieldLink RX5 127 "KegDeposits" "movesDone" "I", Cond.methodLink RX5 31 yX5_isDay, Cond.static yX5_isDay, Cond.code yX5_isDay cX5_isDay 2 (some .boolean), Cond.methodLink RX5 51 yX5_layersInUse, Cond.instanceMethod yX5_layersInUse, Cond.selects RX5 yX5_layersInUse yX5_layersInUse, Cond.code yX5_layersInUse cX5_layersInUse 4 (some .int), Cond.methodLink RX5 150 yX2_layersInUse, Cond.instanceMethod yX2_layersInUse, Cond.selects RX2 yX2_layersInUse yX2_layersInUse, Cond.initialized RX2, Cond.code yX2_layersInUse cX2_layersInUse 3 (some .int), Cond.fieldLink RX2 13 "KegDeposits$Party" "oldest" "LKegDeposits$Layer;", Cond.methodLink RX5 55 yX0_priceOn, Cond.instanceMethod yX0_priceOn, Cond.selects RX0 yX0_priceOn yX0_priceOn, Cond.initialized RX0, Cond.code yX0_priceOn cX0_priceOn 8 (some .long), Cond.constantLong RX0 30 (-1)]
def wsX5_out_r3 : List Cond := [Cond.fieldLink RX0 9 "KegDeposits$Kind" "prices" "LKegDeposits$Price;", Cond.methodLink RX5 61 yX1_init, Cond.instanceMethod yX1_init, Cond.code yX1_init cX1_init 8 none, Cond.methodLink RX1 1 objectInit, Cond.instanceMethod objectInit, Cond.code objectInit ⟨#[0xb1]⟩ 1 none, Cond.fieldLink RX1 7 "KegDeposits$Layer" "kind" "LKegDeposits$Kind;", Cond.fieldLink RX1 13 "KegDeposits$Layer" "day" "J", Cond.fieldLink RX1 17 "KegDeposits$Layer" "pieces" "J", Cond.fieldLink RX1 20 "KegDeposits$Layer" "cents" "J", Cond.methodLink RX5 64 yX2_addLayer, Cond.instanceMethod yX2_addLayer, Cond.selects RX2 yX2_addLayer yX2_addLayer, Cond.code yX2_addLayer cX2_addLayer 2 none, Cond.fieldLink RX2 7 "KegDeposits$Party" "newest" "LKegDeposits$Layer;", Cond.methodLink RX5 68 yX5_move, Cond.instanceMethod yX5_move, Cond.selects RX5 yX5_move yX5_move, Cond.code yX5_move cX5_move 7 none, Cond.classLink RX5 131 RX4, Cond.instantiable RX4 5, Cond.initialized RX4, Cond.fieldLink RX5 133 "KegDeposits" "latestTransfer" "LKegDeposits$Transfer;"]
def wsX5_out_r4 : List Cond := [Cond.methodLink RX5 137 yX4_init, Cond.instanceMethod yX4_init, Cond.code yX4_init cX4_init 8 none, Cond.methodLink RX4 1 objectInit, Cond.fieldLink RX4 7 "KegDeposits$Transfer" "day" "J", Cond.fieldLink RX4 13 "KegDeposits$Transfer" "cents" "J", Cond.fieldLink RX4 16 "KegDeposits$Transfer" "payer" "LKegDeposits$Party;", Cond.fieldLink RX4 20 "KegDeposits$Transfer" "taker" "LKegDeposits$Party;", Cond.fieldLink RX4 23 "KegDeposits$Transfer" "earlier" "LKegDeposits$Transfer;"]
def wsX5_out : List Cond := .code yX5_out cX5_out 11 (some .boolean) :: ((wsX5_out_r1 ++ (wsX5_out_r2 ++ (wsX5_out_r3 ++ wsX5_out_r4))) ++ wsX10 ++ wsX50 ++ wsX20 ++ wsX00 ++ wsX30 ++ wsX40)
def wsX5_back_r1 : List Cond := [Cond.constantLong RX5 35 (100000), Cond.fieldLink RX5 10 "KegDeposits" "house" "LKegDeposits$Party;", Cond.methodLink RX5 41 yX5_customerAt, Cond.instanceMethod yX5_customerAt, Cond.selects RX5 yX5_customerAt yX5_customerAt, Cond.initialized RX5, Cond.code yX5_customerAt cX5_customerAt 2 (some (.object "KegDeposits$Party")), Cond.methodLink RX5 97 yX5_partyAt, Cond.instanceMethod yX5_partyAt, Cond.selects RX5 yX5_partyAt yX5_partyAt, Cond.code yX5_partyAt cX5_partyAt 2 (some (.object "KegDeposits$Party")), Cond.fieldLink RX5 16 "KegDeposits" "parties" "[LKegDeposits$Party;", Cond.methodLink RX5 27 yX5_kindAt, Cond.instanceMethod yX5_kindAt, Cond.selects RX5 yX5_kindAt yX5_kindAt, Cond.code yX5_kindAt cX5_kindAt 2 (some (.object "KegDeposits$Kind")), Cond.fieldLink RX5 22 "KegDeposits" "kinds" "[LKegDeposits$Kind;", Cond.methodLink RX5 45 yX5_isNumber, Cond.static yX5_isNumber, Cond.code yX5_isNumber cX5_isNumber 2 (some .boolean), Cond.methodLink RX5 48 yX5_mayMoveOn, Cond.instanceMethod yX5_mayMoveOn, Cond.selects RX5 yX5_mayMoveOn yX5_mayMoveOn, Cond.code yX5_mayMoveOn cX5_mayMoveOn 3 (some .boolean)]
def wsX5_back_r2 : List Cond := [Cond.fieldLink RX5 105 "KegDeposits" "clock" "J", Cond.fieldLink RX5 127 "KegDeposits" "movesDone" "I", Cond.methodLink RX5 31 yX5_isDay, Cond.static yX5_isDay, Cond.code yX5_isDay cX5_isDay 2 (some .boolean), Cond.methodLink RX5 72 yX2_piecesUpTo, Cond.instanceMethod yX2_piecesUpTo, Cond.selects RX2 yX2_piecesUpTo yX2_piecesUpTo, Cond.initialized RX2, Cond.code yX2_piecesUpTo cX2_piecesUpTo 7 (some .long), Cond.fieldLink RX2 13 "KegDeposits$Party" "oldest" "LKegDeposits$Layer;", Cond.methodLink RX5 76 yX2_giveBack, Cond.instanceMethod yX2_giveBack, Cond.selects RX2 yX2_giveBack yX2_giveBack, Cond.code yX2_giveBack cX2_giveBack 11 (some .long), Cond.methodLink RX2 32 Lib.MathLoose.min_long.x, Cond.static Lib.MathLoose.min_long.x, Cond.initialized "java/lang/Math", Cond.code Lib.MathLoose.min_long.x Lib.MathLoose.min_long.code 4 (some .long), Cond.methodLink RX5 68 yX5_move, Cond.instanceMethod yX5_move, Cond.selects RX5 yX5_move yX5_move, Cond.code yX5_move cX5_move 7 none, Cond.classLink RX5 131 RX4]
def wsX5_back_r3 : List Cond := [Cond.instantiable RX4 5, Cond.initialized RX4, Cond.fieldLink RX5 133 "KegDeposits" "latestTransfer" "LKegDeposits$Transfer;", Cond.methodLink RX5 137 yX4_init, Cond.instanceMethod yX4_init, Cond.code yX4_init cX4_init 8 none, Cond.methodLink RX4 1 objectInit, Cond.instanceMethod objectInit, Cond.code objectInit ⟨#[0xb1]⟩ 1 none, Cond.fieldLink RX4 7 "KegDeposits$Transfer" "day" "J", Cond.fieldLink RX4 13 "KegDeposits$Transfer" "cents" "J", Cond.fieldLink RX4 16 "KegDeposits$Transfer" "payer" "LKegDeposits$Party;", Cond.fieldLink RX4 20 "KegDeposits$Transfer" "taker" "LKegDeposits$Party;", Cond.fieldLink RX4 23 "KegDeposits$Transfer" "earlier" "LKegDeposits$Transfer;"]
def wsX5_back : List Cond := .code yX5_back cX5_back 9 (some .boolean) :: ((wsX5_back_r1 ++ (wsX5_back_r2 ++ wsX5_back_r3)) ++ wsX50 ++ wsX20 ++ wsX10 ++ wsX40)
def wsX5_sharesMakeOne : List Cond := .code yX5_sharesMakeOne cX5_sharesMakeOne 5 (some .boolean) :: ([.fieldLink RX5 22 "KegDeposits" "kinds" "[LKegDeposits$Kind;", .constantLong RX5 91 (10000)] ++ wsX50 ++ wsX00)
def wsX5_hasLot : List Cond := .code yX5_hasLot cX5_hasLot 6 (some .boolean) :: ([.fieldLink RX5 22 "KegDeposits" "kinds" "[LKegDeposits$Kind;", .constantLong RX5 35 (100000), .constantLong RX5 91 (10000), .methodLink RX5 72 yX2_piecesUpTo, .instanceMethod yX2_piecesUpTo, .selects RX2 yX2_piecesUpTo yX2_piecesUpTo, .initialized RX2, .code yX2_piecesUpTo cX2_piecesUpTo 7 (some .long), .fieldLink RX2 13 "KegDeposits$Party" "oldest" "LKegDeposits$Layer;", .methodLink RX5 151 yX0_partsOfLot, .instanceMethod yX0_partsOfLot, .selects RX0 yX0_partsOfLot yX0_partsOfLot, .initialized RX0, .code yX0_partsOfLot cX0_partsOfLot 3 (some .long), .fieldLink RX0 32 "KegDeposits$Kind" "restParts" "J", .fieldLink RX0 35 "KegDeposits$Kind" "shareParts" "J"] ++ wsX50 ++ wsX20 ++ wsX10 ++ wsX00)
def wsX5_giveBackLot : List Cond := .code yX5_giveBackLot cX5_giveBackLot 10 (some .long) :: ([.fieldLink RX5 22 "KegDeposits" "kinds" "[LKegDeposits$Kind;", .constantLong RX5 91 (10000), .methodLink RX5 151 yX0_partsOfLot, .instanceMethod yX0_partsOfLot, .selects RX0 yX0_partsOfLot yX0_partsOfLot, .initialized RX0, .code yX0_partsOfLot cX0_partsOfLot 3 (some .long), .fieldLink RX0 32 "KegDeposits$Kind" "restParts" "J", .fieldLink RX0 35 "KegDeposits$Kind" "shareParts" "J", .methodLink RX5 76 yX2_giveBack, .instanceMethod yX2_giveBack, .selects RX2 yX2_giveBack yX2_giveBack, .initialized RX2, .code yX2_giveBack cX2_giveBack 11 (some .long), .fieldLink RX2 13 "KegDeposits$Party" "oldest" "LKegDeposits$Layer;", .methodLink RX2 32 Lib.MathLoose.min_long.x, .static Lib.MathLoose.min_long.x, .initialized "java/lang/Math", .code Lib.MathLoose.min_long.x Lib.MathLoose.min_long.code 4 (some .long)] ++ wsX50 ++ wsX00 ++ wsX20 ++ wsX10)
def wsX5_sampled_r1 : List Cond := [Cond.fieldLink RX5 10 "KegDeposits" "house" "LKegDeposits$Party;", Cond.methodLink RX5 41 yX5_customerAt, Cond.instanceMethod yX5_customerAt, Cond.selects RX5 yX5_customerAt yX5_customerAt, Cond.initialized RX5, Cond.code yX5_customerAt cX5_customerAt 2 (some (.object "KegDeposits$Party")), Cond.methodLink RX5 97 yX5_partyAt, Cond.instanceMethod yX5_partyAt, Cond.selects RX5 yX5_partyAt yX5_partyAt, Cond.code yX5_partyAt cX5_partyAt 2 (some (.object "KegDeposits$Party")), Cond.fieldLink RX5 16 "KegDeposits" "parties" "[LKegDeposits$Party;", Cond.methodLink RX5 45 yX5_isNumber, Cond.static yX5_isNumber, Cond.code yX5_isNumber cX5_isNumber 2 (some .boolean), Cond.constantLong RX5 35 (100000), Cond.methodLink RX5 48 yX5_mayMoveOn, Cond.instanceMethod yX5_mayMoveOn, Cond.selects RX5 yX5_mayMoveOn yX5_mayMoveOn, Cond.code yX5_mayMoveOn cX5_mayMoveOn 3 (some .boolean), Cond.fieldLink RX5 105 "KegDeposits" "clock" "J", Cond.fieldLink RX5 127 "KegDeposits" "movesDone" "I", Cond.methodLink RX5 31 yX5_isDay, Cond.static yX5_isDay, Cond.code yX5_isDay cX5_isDay 2 (some .boolean)]
def wsX5_sampled_r2 : List Cond := [Cond.methodLink RX5 79 yX5_sharesMakeOne, Cond.instanceMethod yX5_sharesMakeOne, Cond.selects RX5 yX5_sharesMakeOne yX5_sharesMakeOne, Cond.code yX5_sharesMakeOne cX5_sharesMakeOne 5 (some .boolean), Cond.fieldLink RX5 22 "KegDeposits" "kinds" "[LKegDeposits$Kind;", Cond.constantLong RX5 91 (10000), Cond.methodLink RX5 83 yX5_hasLot, Cond.instanceMethod yX5_hasLot, Cond.selects RX5 yX5_hasLot yX5_hasLot, Cond.code yX5_hasLot cX5_hasLot 6 (some .boolean), Cond.methodLink RX5 72 yX2_piecesUpTo, Cond.instanceMethod yX2_piecesUpTo, Cond.selects RX2 yX2_piecesUpTo yX2_piecesUpTo, Cond.initialized RX2, Cond.code yX2_piecesUpTo cX2_piecesUpTo 7 (some .long), Cond.fieldLink RX2 13 "KegDeposits$Party" "oldest" "LKegDeposits$Layer;", Cond.methodLink RX5 151 yX0_partsOfLot, Cond.instanceMethod yX0_partsOfLot, Cond.selects RX0 yX0_partsOfLot yX0_partsOfLot, Cond.initialized RX0, Cond.code yX0_partsOfLot cX0_partsOfLot 3 (some .long), Cond.fieldLink RX0 32 "KegDeposits$Kind" "restParts" "J", Cond.fieldLink RX0 35 "KegDeposits$Kind" "shareParts" "J", Cond.methodLink RX5 87 yX5_giveBackLot]
def wsX5_sampled_r3 : List Cond := [Cond.instanceMethod yX5_giveBackLot, Cond.selects RX5 yX5_giveBackLot yX5_giveBackLot, Cond.code yX5_giveBackLot cX5_giveBackLot 10 (some .long), Cond.methodLink RX5 76 yX2_giveBack, Cond.instanceMethod yX2_giveBack, Cond.selects RX2 yX2_giveBack yX2_giveBack, Cond.code yX2_giveBack cX2_giveBack 11 (some .long), Cond.methodLink RX2 32 Lib.MathLoose.min_long.x, Cond.static Lib.MathLoose.min_long.x, Cond.initialized "java/lang/Math", Cond.code Lib.MathLoose.min_long.x Lib.MathLoose.min_long.code 4 (some .long), Cond.methodLink RX5 68 yX5_move, Cond.instanceMethod yX5_move, Cond.selects RX5 yX5_move yX5_move, Cond.code yX5_move cX5_move 7 none, Cond.classLink RX5 131 RX4, Cond.instantiable RX4 5, Cond.initialized RX4, Cond.fieldLink RX5 133 "KegDeposits" "latestTransfer" "LKegDeposits$Transfer;", Cond.methodLink RX5 137 yX4_init, Cond.instanceMethod yX4_init, Cond.code yX4_init cX4_init 8 none, Cond.methodLink RX4 1 objectInit, Cond.instanceMethod objectInit]
def wsX5_sampled_r4 : List Cond := [Cond.code objectInit ⟨#[0xb1]⟩ 1 none, Cond.fieldLink RX4 7 "KegDeposits$Transfer" "day" "J", Cond.fieldLink RX4 13 "KegDeposits$Transfer" "cents" "J", Cond.fieldLink RX4 16 "KegDeposits$Transfer" "payer" "LKegDeposits$Party;", Cond.fieldLink RX4 20 "KegDeposits$Transfer" "taker" "LKegDeposits$Party;", Cond.fieldLink RX4 23 "KegDeposits$Transfer" "earlier" "LKegDeposits$Transfer;"]
def wsX5_sampled : List Cond := .code yX5_sampled cX5_sampled 7 (some .boolean) :: ((wsX5_sampled_r1 ++ (wsX5_sampled_r2 ++ (wsX5_sampled_r3 ++ wsX5_sampled_r4))) ++ wsX50 ++ wsX00 ++ wsX20 ++ wsX10 ++ wsX40)
def wsX5_share : List Cond := .code yX5_share cX5_share 7 (some .boolean) :: ([.constantLong RX5 91 (10000), .methodLink RX5 27 yX5_kindAt, .instanceMethod yX5_kindAt, .selects RX5 yX5_kindAt yX5_kindAt, .initialized RX5, .code yX5_kindAt cX5_kindAt 2 (some (.object "KegDeposits$Kind")), .fieldLink RX5 22 "KegDeposits" "kinds" "[LKegDeposits$Kind;"] ++ wsX00 ++ wsX50)
def wsX5_balanceOf : List Cond := .code yX5_balanceOf cX5_balanceOf 7 (some .long) :: ([.fieldLink RX5 133 "KegDeposits" "latestTransfer" "LKegDeposits$Transfer;", .methodLink RX5 143 yX4_changeOf, .instanceMethod yX4_changeOf, .selects RX4 yX4_changeOf yX4_changeOf, .initialized RX4, .code yX4_changeOf cX4_changeOf 2 (some .long), .fieldLink RX4 16 "KegDeposits$Transfer" "payer" "LKegDeposits$Party;", .fieldLink RX4 13 "KegDeposits$Transfer" "cents" "J", .fieldLink RX4 20 "KegDeposits$Transfer" "taker" "LKegDeposits$Party;"] ++ wsX50 ++ wsX40)
def wsX5_balance : List Cond := .code yX5_balance cX5_balance 5 (some .long) :: ([.methodLink RX5 97 yX5_partyAt, .instanceMethod yX5_partyAt, .selects RX5 yX5_partyAt yX5_partyAt, .initialized RX5, .code yX5_partyAt cX5_partyAt 2 (some (.object "KegDeposits$Party")), .fieldLink RX5 16 "KegDeposits" "parties" "[LKegDeposits$Party;", .methodLink RX5 100 yX5_balanceOf, .instanceMethod yX5_balanceOf, .selects RX5 yX5_balanceOf yX5_balanceOf, .code yX5_balanceOf cX5_balanceOf 7 (some .long), .fieldLink RX5 133 "KegDeposits" "latestTransfer" "LKegDeposits$Transfer;", .methodLink RX5 143 yX4_changeOf, .instanceMethod yX4_changeOf, .selects RX4 yX4_changeOf yX4_changeOf, .initialized RX4, .code yX4_changeOf cX4_changeOf 2 (some .long), .fieldLink RX4 16 "KegDeposits$Transfer" "payer" "LKegDeposits$Party;", .fieldLink RX4 13 "KegDeposits$Transfer" "cents" "J", .fieldLink RX4 20 "KegDeposits$Transfer" "taker" "LKegDeposits$Party;"] ++ wsX50 ++ wsX40)
def wsX5_count : List Cond := .code yX5_count cX5_count 5 (some .long) :: ([.constantLong RX5 103 (-1), .constantLong RX5 35 (100000), .methodLink RX5 97 yX5_partyAt, .instanceMethod yX5_partyAt, .selects RX5 yX5_partyAt yX5_partyAt, .initialized RX5, .code yX5_partyAt cX5_partyAt 2 (some (.object "KegDeposits$Party")), .fieldLink RX5 16 "KegDeposits" "parties" "[LKegDeposits$Party;", .methodLink RX5 27 yX5_kindAt, .instanceMethod yX5_kindAt, .selects RX5 yX5_kindAt yX5_kindAt, .code yX5_kindAt cX5_kindAt 2 (some (.object "KegDeposits$Kind")), .fieldLink RX5 22 "KegDeposits" "kinds" "[LKegDeposits$Kind;", .methodLink RX5 72 yX2_piecesUpTo, .instanceMethod yX2_piecesUpTo, .selects RX2 yX2_piecesUpTo yX2_piecesUpTo, .initialized RX2, .code yX2_piecesUpTo cX2_piecesUpTo 7 (some .long), .fieldLink RX2 13 "KegDeposits$Party" "oldest" "LKegDeposits$Layer;"] ++ wsX50 ++ wsX20 ++ wsX10)
def wsX5_lost : List Cond := .code yX5_lost cX5_lost 10 (some .long) :: ([.constantLong RX5 103 (-1), .fieldLink RX5 105 "KegDeposits" "clock" "J", .constantLong RX5 108 (30), .fieldLink RX5 16 "KegDeposits" "parties" "[LKegDeposits$Party;", .methodLink RX5 27 yX5_kindAt, .instanceMethod yX5_kindAt, .selects RX5 yX5_kindAt yX5_kindAt, .initialized RX5, .code yX5_kindAt cX5_kindAt 2 (some (.object "KegDeposits$Kind")), .fieldLink RX5 22 "KegDeposits" "kinds" "[LKegDeposits$Kind;", .methodLink RX5 72 yX2_piecesUpTo, .instanceMethod yX2_piecesUpTo, .selects RX2 yX2_piecesUpTo yX2_piecesUpTo, .initialized RX2, .code yX2_piecesUpTo cX2_piecesUpTo 7 (some .long), .fieldLink RX2 13 "KegDeposits$Party" "oldest" "LKegDeposits$Layer;"] ++ wsX50 ++ wsX20 ++ wsX10)
def wsX5_worthOf : List Cond := .code yX5_worthOf cX5_worthOf 8 (some .long) :: ([.fieldLink RX5 22 "KegDeposits" "kinds" "[LKegDeposits$Kind;", .constantLong RX5 35 (100000), .methodLink RX5 72 yX2_piecesUpTo, .instanceMethod yX2_piecesUpTo, .selects RX2 yX2_piecesUpTo yX2_piecesUpTo, .initialized RX2, .code yX2_piecesUpTo cX2_piecesUpTo 7 (some .long), .fieldLink RX2 13 "KegDeposits$Party" "oldest" "LKegDeposits$Layer;", .methodLink RX5 55 yX0_priceOn, .instanceMethod yX0_priceOn, .selects RX0 yX0_priceOn yX0_priceOn, .initialized RX0, .code yX0_priceOn cX0_priceOn 8 (some .long), .constantLong RX0 30 (-1), .fieldLink RX0 9 "KegDeposits$Kind" "prices" "LKegDeposits$Price;"] ++ wsX50 ++ wsX20 ++ wsX10 ++ wsX00 ++ wsX30)
def wsX5_settle_r1 : List Cond := [Cond.constantLong RX5 108 (30), Cond.methodLink RX5 113 Lib.MathLoose.abs_long.x, Cond.static Lib.MathLoose.abs_long.x, Cond.initialized "java/lang/Math", Cond.code Lib.MathLoose.abs_long.x Lib.MathLoose.abs_long.code 2 (some .long), Cond.constantLong RX5 118 (2), Cond.methodLink RX5 41 yX5_customerAt, Cond.instanceMethod yX5_customerAt, Cond.selects RX5 yX5_customerAt yX5_customerAt, Cond.initialized RX5, Cond.code yX5_customerAt cX5_customerAt 2 (some (.object "KegDeposits$Party")), Cond.methodLink RX5 97 yX5_partyAt, Cond.instanceMethod yX5_partyAt, Cond.selects RX5 yX5_partyAt yX5_partyAt, Cond.code yX5_partyAt cX5_partyAt 2 (some (.object "KegDeposits$Party")), Cond.fieldLink RX5 16 "KegDeposits" "parties" "[LKegDeposits$Party;", Cond.methodLink RX5 48 yX5_mayMoveOn, Cond.instanceMethod yX5_mayMoveOn, Cond.selects RX5 yX5_mayMoveOn yX5_mayMoveOn, Cond.code yX5_mayMoveOn cX5_mayMoveOn 3 (some .boolean), Cond.fieldLink RX5 105 "KegDeposits" "clock" "J", Cond.fieldLink RX5 127 "KegDeposits" "movesDone" "I", Cond.methodLink RX5 31 yX5_isDay, Cond.static yX5_isDay]
def wsX5_settle_r2 : List Cond := [Cond.code yX5_isDay cX5_isDay 2 (some .boolean), Cond.constantLong RX5 35 (100000), Cond.methodLink RX5 110 yX5_worthOf, Cond.instanceMethod yX5_worthOf, Cond.selects RX5 yX5_worthOf yX5_worthOf, Cond.code yX5_worthOf cX5_worthOf 8 (some .long), Cond.fieldLink RX5 22 "KegDeposits" "kinds" "[LKegDeposits$Kind;", Cond.methodLink RX5 72 yX2_piecesUpTo, Cond.instanceMethod yX2_piecesUpTo, Cond.selects RX2 yX2_piecesUpTo yX2_piecesUpTo, Cond.initialized RX2, Cond.code yX2_piecesUpTo cX2_piecesUpTo 7 (some .long), Cond.fieldLink RX2 13 "KegDeposits$Party" "oldest" "LKegDeposits$Layer;", Cond.methodLink RX5 55 yX0_priceOn, Cond.instanceMethod yX0_priceOn, Cond.selects RX0 yX0_priceOn yX0_priceOn, Cond.initialized RX0, Cond.code yX0_priceOn cX0_priceOn 8 (some .long), Cond.constantLong RX0 30 (-1), Cond.fieldLink RX0 9 "KegDeposits$Kind" "prices" "LKegDeposits$Price;", Cond.methodLink RX5 68 yX5_move, Cond.instanceMethod yX5_move, Cond.selects RX5 yX5_move yX5_move, Cond.code yX5_move cX5_move 7 none]
def wsX5_settle_r3 : List Cond := [Cond.classLink RX5 131 RX4, Cond.instantiable RX4 5, Cond.initialized RX4, Cond.fieldLink RX5 133 "KegDeposits" "latestTransfer" "LKegDeposits$Transfer;", Cond.methodLink RX5 137 yX4_init, Cond.instanceMethod yX4_init, Cond.code yX4_init cX4_init 8 none, Cond.methodLink RX4 1 objectInit, Cond.instanceMethod objectInit, Cond.code objectInit ⟨#[0xb1]⟩ 1 none, Cond.fieldLink RX4 7 "KegDeposits$Transfer" "day" "J", Cond.fieldLink RX4 13 "KegDeposits$Transfer" "cents" "J", Cond.fieldLink RX4 16 "KegDeposits$Transfer" "payer" "LKegDeposits$Party;", Cond.fieldLink RX4 20 "KegDeposits$Transfer" "taker" "LKegDeposits$Party;", Cond.fieldLink RX4 23 "KegDeposits$Transfer" "earlier" "LKegDeposits$Transfer;"]
def wsX5_settle : List Cond := .code yX5_settle cX5_settle 13 (some .int) :: ((wsX5_settle_r1 ++ (wsX5_settle_r2 ++ wsX5_settle_r3)) ++ wsX50 ++ wsX20 ++ wsX10 ++ wsX00 ++ wsX30 ++ wsX40)
def wsX5_commonDivisor : List Cond := .code yX5_commonDivisor cX5_commonDivisor 11 (some .long) :: ([])
def wsX5_rest : List Cond := .code yX5_rest cX5_rest 6 (some .long) :: ([.constantLong RX5 103 (-1), .constantLong RX5 91 (10000), .methodLink RX5 27 yX5_kindAt, .instanceMethod yX5_kindAt, .selects RX5 yX5_kindAt yX5_kindAt, .initialized RX5, .code yX5_kindAt cX5_kindAt 2 (some (.object "KegDeposits$Kind")), .fieldLink RX5 22 "KegDeposits" "kinds" "[LKegDeposits$Kind;", .methodLink RX5 123 yX5_commonDivisor, .static yX5_commonDivisor, .code yX5_commonDivisor cX5_commonDivisor 11 (some .long)] ++ wsX00 ++ wsX50)
def wsX5_sum : List Cond := .code yX5_sum cX5_sum 7 (some .long) :: ([.fieldLink RX5 16 "KegDeposits" "parties" "[LKegDeposits$Party;", .methodLink RX5 100 yX5_balanceOf, .instanceMethod yX5_balanceOf, .selects RX5 yX5_balanceOf yX5_balanceOf, .initialized RX5, .code yX5_balanceOf cX5_balanceOf 7 (some .long), .fieldLink RX5 133 "KegDeposits" "latestTransfer" "LKegDeposits$Transfer;", .methodLink RX5 143 yX4_changeOf, .instanceMethod yX4_changeOf, .selects RX4 yX4_changeOf yX4_changeOf, .initialized RX4, .code yX4_changeOf cX4_changeOf 2 (some .long), .fieldLink RX4 16 "KegDeposits$Transfer" "payer" "LKegDeposits$Party;", .fieldLink RX4 13 "KegDeposits$Transfer" "cents" "J", .fieldLink RX4 20 "KegDeposits$Transfer" "taker" "LKegDeposits$Party;"] ++ wsX50 ++ wsX40)
def wsX6_init : List Cond := .code yX6_init cX6_init 1 none :: ([.methodLink RX6 1 objectInit, .instanceMethod objectInit, .code objectInit ⟨#[0xb1]⟩ 1 none, .fieldLink RX6 7 "KegDepositsModel" "parties" "I", .arrayClass .long, .fieldLink RX6 13 "KegDepositsModel" "priceDays" "[J", .fieldLink RX6 17 "KegDepositsModel" "priceCents" "[J", .arrayClass .int, .fieldLink RX6 20 "KegDepositsModel" "prices" "[I", .fieldLink RX6 24 "KegDepositsModel" "shares" "[J", .fieldLink RX6 27 "KegDepositsModel" "rests" "[J", .fieldLink RX6 30 "KegDepositsModel" "pieces" "[J", .fieldLink RX6 33 "KegDepositsModel" "layerParty" "[I", .fieldLink RX6 36 "KegDepositsModel" "layerKind" "[I", .fieldLink RX6 39 "KegDepositsModel" "layerLeft" "[J", .fieldLink RX6 42 "KegDepositsModel" "layerDay" "[J", .fieldLink RX6 45 "KegDepositsModel" "layerPrice" "[J", .fieldLink RX6 48 "KegDepositsModel" "gains" "[I", .fieldLink RX6 51 "KegDepositsModel" "loses" "[I", .fieldLink RX6 54 "KegDepositsModel" "amounts" "[J", .fieldLink RX6 57 "KegDepositsModel" "changeDays" "[J"] ++ wsX60)
def wsX6_party : List Cond := .code yX6_party cX6_party 1 (some .int) :: ([.fieldLink RX6 7 "KegDepositsModel" "parties" "I"] ++ wsX60)
def wsX6_kind : List Cond := .code yX6_kind cX6_kind 1 (some .int) :: ([.fieldLink RX6 60 "KegDepositsModel" "kinds" "I"] ++ wsX60)
def wsX6_isParty : List Cond := .code yX6_isParty cX6_isParty 2 (some .boolean) :: ([.fieldLink RX6 7 "KegDepositsModel" "parties" "I"] ++ wsX60)
def wsX6_isKind : List Cond := .code yX6_isKind cX6_isKind 2 (some .boolean) :: ([.fieldLink RX6 60 "KegDepositsModel" "kinds" "I"] ++ wsX60)
def wsX6_isDay : List Cond := .code yX6_isDay cX6_isDay 2 (some .boolean) :: ([.constantLong RX6 63 (100000)])
def wsX6_price : List Cond := .code yX6_price cX6_price 8 (some .boolean) :: ([.constantLong RX6 63 (100000), .fieldLink RX6 20 "KegDepositsModel" "prices" "[I", .fieldLink RX6 13 "KegDepositsModel" "priceDays" "[J", .fieldLink RX6 17 "KegDepositsModel" "priceCents" "[J", .methodLink RX6 65 yX6_isKind, .instanceMethod yX6_isKind, .selects RX6 yX6_isKind yX6_isKind, .initialized RX6, .code yX6_isKind cX6_isKind 2 (some .boolean), .fieldLink RX6 60 "KegDepositsModel" "kinds" "I", .methodLink RX6 69 yX6_isDay, .static yX6_isDay, .code yX6_isDay cX6_isDay 2 (some .boolean)] ++ wsX60)
def wsX6_priceOn : List Cond := .code yX6_priceOn cX6_priceOn 11 (some .long) :: ([.constantLong RX6 73 (-1), .fieldLink RX6 20 "KegDepositsModel" "prices" "[I", .fieldLink RX6 13 "KegDepositsModel" "priceDays" "[J", .fieldLink RX6 17 "KegDepositsModel" "priceCents" "[J"] ++ wsX60)
def wsX6_move : List Cond := .code yX6_move cX6_move 7 none :: ([.fieldLink RX6 51 "KegDepositsModel" "loses" "[I", .fieldLink RX6 75 "KegDepositsModel" "changes" "I", .fieldLink RX6 48 "KegDepositsModel" "gains" "[I", .fieldLink RX6 54 "KegDepositsModel" "amounts" "[J", .fieldLink RX6 57 "KegDepositsModel" "changeDays" "[J"] ++ wsX60)
def wsX6_mayCome : List Cond := .code yX6_mayCome cX6_mayCome 6 (some .boolean) :: ([.constantLong RX6 63 (100000), .fieldLink RX6 81 "KegDepositsModel" "clock" "J", .methodLink RX6 78 yX6_isParty, .instanceMethod yX6_isParty, .selects RX6 yX6_isParty yX6_isParty, .initialized RX6, .code yX6_isParty cX6_isParty 2 (some .boolean), .fieldLink RX6 7 "KegDepositsModel" "parties" "I", .methodLink RX6 69 yX6_isDay, .static yX6_isDay, .code yX6_isDay cX6_isDay 2 (some .boolean)] ++ wsX60)
def wsX6_out_r1 : List Cond := [Cond.fieldLink RX6 89 "KegDepositsModel" "layers" "I", Cond.fieldLink RX6 39 "KegDepositsModel" "layerLeft" "[J", Cond.fieldLink RX6 81 "KegDepositsModel" "clock" "J", Cond.fieldLink RX6 33 "KegDepositsModel" "layerParty" "[I", Cond.fieldLink RX6 36 "KegDepositsModel" "layerKind" "[I", Cond.fieldLink RX6 42 "KegDepositsModel" "layerDay" "[J", Cond.fieldLink RX6 45 "KegDepositsModel" "layerPrice" "[J", Cond.methodLink RX6 85 yX6_mayCome, Cond.instanceMethod yX6_mayCome, Cond.selects RX6 yX6_mayCome yX6_mayCome, Cond.initialized RX6, Cond.code yX6_mayCome cX6_mayCome 6 (some .boolean), Cond.constantLong RX6 63 (100000), Cond.methodLink RX6 78 yX6_isParty, Cond.instanceMethod yX6_isParty, Cond.selects RX6 yX6_isParty yX6_isParty, Cond.code yX6_isParty cX6_isParty 2 (some .boolean), Cond.fieldLink RX6 7 "KegDepositsModel" "parties" "I", Cond.methodLink RX6 69 yX6_isDay, Cond.static yX6_isDay, Cond.code yX6_isDay cX6_isDay 2 (some .boolean), Cond.methodLink RX6 65 yX6_isKind, Cond.instanceMethod yX6_isKind, Cond.selects RX6 yX6_isKind yX6_isKind]
def wsX6_out_r2 : List Cond := [Cond.code yX6_isKind cX6_isKind 2 (some .boolean), Cond.fieldLink RX6 60 "KegDepositsModel" "kinds" "I", Cond.methodLink RX6 92 yX6_priceOn, Cond.instanceMethod yX6_priceOn, Cond.selects RX6 yX6_priceOn yX6_priceOn, Cond.code yX6_priceOn cX6_priceOn 11 (some .long), Cond.constantLong RX6 73 (-1), Cond.fieldLink RX6 20 "KegDepositsModel" "prices" "[I", Cond.fieldLink RX6 13 "KegDepositsModel" "priceDays" "[J", Cond.fieldLink RX6 17 "KegDepositsModel" "priceCents" "[J", Cond.methodLink RX6 96 yX6_move, Cond.instanceMethod yX6_move, Cond.selects RX6 yX6_move yX6_move, Cond.code yX6_move cX6_move 7 none, Cond.fieldLink RX6 51 "KegDepositsModel" "loses" "[I", Cond.fieldLink RX6 75 "KegDepositsModel" "changes" "I", Cond.fieldLink RX6 48 "KegDepositsModel" "gains" "[I", Cond.fieldLink RX6 54 "KegDepositsModel" "amounts" "[J", Cond.fieldLink RX6 57 "KegDepositsModel" "changeDays" "[J"]
def wsX6_out : List Cond := .code yX6_out cX6_out 9 (some .boolean) :: ((wsX6_out_r1 ++ wsX6_out_r2) ++ wsX60)
def wsX6_has : List Cond := .code yX6_has cX6_has 6 (some .long) :: ([.fieldLink RX6 89 "KegDepositsModel" "layers" "I", .fieldLink RX6 33 "KegDepositsModel" "layerParty" "[I", .fieldLink RX6 36 "KegDepositsModel" "layerKind" "[I", .fieldLink RX6 39 "KegDepositsModel" "layerLeft" "[J"] ++ wsX60)
def wsX6_take : List Cond := .code yX6_take cX6_take 12 (some .long) :: ([.fieldLink RX6 89 "KegDepositsModel" "layers" "I", .fieldLink RX6 33 "KegDepositsModel" "layerParty" "[I", .fieldLink RX6 36 "KegDepositsModel" "layerKind" "[I", .fieldLink RX6 39 "KegDepositsModel" "layerLeft" "[J", .fieldLink RX6 45 "KegDepositsModel" "layerPrice" "[J"] ++ wsX60)
def wsX6_back_r1 : List Cond := [Cond.fieldLink RX6 81 "KegDepositsModel" "clock" "J", Cond.methodLink RX6 85 yX6_mayCome, Cond.instanceMethod yX6_mayCome, Cond.selects RX6 yX6_mayCome yX6_mayCome, Cond.initialized RX6, Cond.code yX6_mayCome cX6_mayCome 6 (some .boolean), Cond.constantLong RX6 63 (100000), Cond.methodLink RX6 78 yX6_isParty, Cond.instanceMethod yX6_isParty, Cond.selects RX6 yX6_isParty yX6_isParty, Cond.code yX6_isParty cX6_isParty 2 (some .boolean), Cond.fieldLink RX6 7 "KegDepositsModel" "parties" "I", Cond.methodLink RX6 69 yX6_isDay, Cond.static yX6_isDay, Cond.code yX6_isDay cX6_isDay 2 (some .boolean), Cond.methodLink RX6 65 yX6_isKind, Cond.instanceMethod yX6_isKind, Cond.selects RX6 yX6_isKind yX6_isKind, Cond.code yX6_isKind cX6_isKind 2 (some .boolean), Cond.fieldLink RX6 60 "KegDepositsModel" "kinds" "I", Cond.methodLink RX6 100 yX6_has, Cond.instanceMethod yX6_has, Cond.selects RX6 yX6_has yX6_has, Cond.code yX6_has cX6_has 6 (some .long)]
def wsX6_back_r2 : List Cond := [Cond.fieldLink RX6 89 "KegDepositsModel" "layers" "I", Cond.fieldLink RX6 33 "KegDepositsModel" "layerParty" "[I", Cond.fieldLink RX6 36 "KegDepositsModel" "layerKind" "[I", Cond.fieldLink RX6 39 "KegDepositsModel" "layerLeft" "[J", Cond.methodLink RX6 104 yX6_take, Cond.instanceMethod yX6_take, Cond.selects RX6 yX6_take yX6_take, Cond.code yX6_take cX6_take 12 (some .long), Cond.fieldLink RX6 45 "KegDepositsModel" "layerPrice" "[J", Cond.methodLink RX6 96 yX6_move, Cond.instanceMethod yX6_move, Cond.selects RX6 yX6_move yX6_move, Cond.code yX6_move cX6_move 7 none, Cond.fieldLink RX6 51 "KegDepositsModel" "loses" "[I", Cond.fieldLink RX6 75 "KegDepositsModel" "changes" "I", Cond.fieldLink RX6 48 "KegDepositsModel" "gains" "[I", Cond.fieldLink RX6 54 "KegDepositsModel" "amounts" "[J", Cond.fieldLink RX6 57 "KegDepositsModel" "changeDays" "[J"]
def wsX6_back : List Cond := .code yX6_back cX6_back 7 (some .boolean) :: ((wsX6_back_r1 ++ wsX6_back_r2) ++ wsX60)
def wsX6_sampled_r1 : List Cond := [Cond.fieldLink RX6 60 "KegDepositsModel" "kinds" "I", Cond.fieldLink RX6 24 "KegDepositsModel" "shares" "[J", Cond.fieldLink RX6 30 "KegDepositsModel" "pieces" "[J", Cond.fieldLink RX6 27 "KegDepositsModel" "rests" "[J", Cond.constantLong RX6 108 (10000), Cond.fieldLink RX6 81 "KegDepositsModel" "clock" "J", Cond.methodLink RX6 85 yX6_mayCome, Cond.instanceMethod yX6_mayCome, Cond.selects RX6 yX6_mayCome yX6_mayCome, Cond.initialized RX6, Cond.code yX6_mayCome cX6_mayCome 6 (some .boolean), Cond.constantLong RX6 63 (100000), Cond.methodLink RX6 78 yX6_isParty, Cond.instanceMethod yX6_isParty, Cond.selects RX6 yX6_isParty yX6_isParty, Cond.code yX6_isParty cX6_isParty 2 (some .boolean), Cond.fieldLink RX6 7 "KegDepositsModel" "parties" "I", Cond.methodLink RX6 69 yX6_isDay, Cond.static yX6_isDay, Cond.code yX6_isDay cX6_isDay 2 (some .boolean), Cond.methodLink RX6 100 yX6_has, Cond.instanceMethod yX6_has, Cond.selects RX6 yX6_has yX6_has, Cond.code yX6_has cX6_has 6 (some .long)]
def wsX6_sampled_r2 : List Cond := [Cond.fieldLink RX6 89 "KegDepositsModel" "layers" "I", Cond.fieldLink RX6 33 "KegDepositsModel" "layerParty" "[I", Cond.fieldLink RX6 36 "KegDepositsModel" "layerKind" "[I", Cond.fieldLink RX6 39 "KegDepositsModel" "layerLeft" "[J", Cond.methodLink RX6 104 yX6_take, Cond.instanceMethod yX6_take, Cond.selects RX6 yX6_take yX6_take, Cond.code yX6_take cX6_take 12 (some .long), Cond.fieldLink RX6 45 "KegDepositsModel" "layerPrice" "[J", Cond.methodLink RX6 96 yX6_move, Cond.instanceMethod yX6_move, Cond.selects RX6 yX6_move yX6_move, Cond.code yX6_move cX6_move 7 none, Cond.fieldLink RX6 51 "KegDepositsModel" "loses" "[I", Cond.fieldLink RX6 75 "KegDepositsModel" "changes" "I", Cond.fieldLink RX6 48 "KegDepositsModel" "gains" "[I", Cond.fieldLink RX6 54 "KegDepositsModel" "amounts" "[J", Cond.fieldLink RX6 57 "KegDepositsModel" "changeDays" "[J"]
def wsX6_sampled : List Cond := .code yX6_sampled cX6_sampled 12 (some .boolean) :: ((wsX6_sampled_r1 ++ wsX6_sampled_r2) ++ wsX60)
def wsX6_share : List Cond := .code yX6_share cX6_share 6 (some .boolean) :: ([.constantLong RX6 108 (10000), .fieldLink RX6 24 "KegDepositsModel" "shares" "[J", .methodLink RX6 65 yX6_isKind, .instanceMethod yX6_isKind, .selects RX6 yX6_isKind yX6_isKind, .initialized RX6, .code yX6_isKind cX6_isKind 2 (some .boolean), .fieldLink RX6 60 "KegDepositsModel" "kinds" "I"] ++ wsX60)
def wsX6_balance : List Cond := .code yX6_balance cX6_balance 7 (some .long) :: ([.fieldLink RX6 75 "KegDepositsModel" "changes" "I", .fieldLink RX6 57 "KegDepositsModel" "changeDays" "[J", .fieldLink RX6 48 "KegDepositsModel" "gains" "[I", .fieldLink RX6 54 "KegDepositsModel" "amounts" "[J", .fieldLink RX6 51 "KegDepositsModel" "loses" "[I", .methodLink RX6 78 yX6_isParty, .instanceMethod yX6_isParty, .selects RX6 yX6_isParty yX6_isParty, .initialized RX6, .code yX6_isParty cX6_isParty 2 (some .boolean), .fieldLink RX6 7 "KegDepositsModel" "parties" "I"] ++ wsX60)
def wsX6_count : List Cond := .code yX6_count cX6_count 3 (some .long) :: ([.constantLong RX6 73 (-1), .methodLink RX6 78 yX6_isParty, .instanceMethod yX6_isParty, .selects RX6 yX6_isParty yX6_isParty, .initialized RX6, .code yX6_isParty cX6_isParty 2 (some .boolean), .fieldLink RX6 7 "KegDepositsModel" "parties" "I", .methodLink RX6 65 yX6_isKind, .instanceMethod yX6_isKind, .selects RX6 yX6_isKind yX6_isKind, .code yX6_isKind cX6_isKind 2 (some .boolean), .fieldLink RX6 60 "KegDepositsModel" "kinds" "I", .methodLink RX6 100 yX6_has, .instanceMethod yX6_has, .selects RX6 yX6_has yX6_has, .code yX6_has cX6_has 6 (some .long), .fieldLink RX6 89 "KegDepositsModel" "layers" "I", .fieldLink RX6 33 "KegDepositsModel" "layerParty" "[I", .fieldLink RX6 36 "KegDepositsModel" "layerKind" "[I", .fieldLink RX6 39 "KegDepositsModel" "layerLeft" "[J"] ++ wsX60)
def wsX6_lost : List Cond := .code yX6_lost cX6_lost 6 (some .long) :: ([.constantLong RX6 73 (-1), .fieldLink RX6 89 "KegDepositsModel" "layers" "I", .fieldLink RX6 36 "KegDepositsModel" "layerKind" "[I", .fieldLink RX6 81 "KegDepositsModel" "clock" "J", .fieldLink RX6 42 "KegDepositsModel" "layerDay" "[J", .constantLong RX6 110 (30), .fieldLink RX6 39 "KegDepositsModel" "layerLeft" "[J", .methodLink RX6 65 yX6_isKind, .instanceMethod yX6_isKind, .selects RX6 yX6_isKind yX6_isKind, .initialized RX6, .code yX6_isKind cX6_isKind 2 (some .boolean), .fieldLink RX6 60 "KegDepositsModel" "kinds" "I"] ++ wsX60)
def wsX6_worth : List Cond := .code yX6_worth cX6_worth 7 (some .long) :: ([.fieldLink RX6 60 "KegDepositsModel" "kinds" "I", .methodLink RX6 100 yX6_has, .instanceMethod yX6_has, .selects RX6 yX6_has yX6_has, .initialized RX6, .code yX6_has cX6_has 6 (some .long), .fieldLink RX6 89 "KegDepositsModel" "layers" "I", .fieldLink RX6 33 "KegDepositsModel" "layerParty" "[I", .fieldLink RX6 36 "KegDepositsModel" "layerKind" "[I", .fieldLink RX6 39 "KegDepositsModel" "layerLeft" "[J", .methodLink RX6 92 yX6_priceOn, .instanceMethod yX6_priceOn, .selects RX6 yX6_priceOn yX6_priceOn, .code yX6_priceOn cX6_priceOn 11 (some .long), .constantLong RX6 73 (-1), .fieldLink RX6 20 "KegDepositsModel" "prices" "[I", .fieldLink RX6 13 "KegDepositsModel" "priceDays" "[J", .fieldLink RX6 17 "KegDepositsModel" "priceCents" "[J"] ++ wsX60)
def wsX6_settle_r1 : List Cond := [Cond.constantLong RX6 110 (30), Cond.fieldLink RX6 81 "KegDepositsModel" "clock" "J", Cond.constantLong RX6 115 (2), Cond.methodLink RX6 78 yX6_isParty, Cond.instanceMethod yX6_isParty, Cond.selects RX6 yX6_isParty yX6_isParty, Cond.initialized RX6, Cond.code yX6_isParty cX6_isParty 2 (some .boolean), Cond.fieldLink RX6 7 "KegDepositsModel" "parties" "I", Cond.methodLink RX6 69 yX6_isDay, Cond.static yX6_isDay, Cond.code yX6_isDay cX6_isDay 2 (some .boolean), Cond.constantLong RX6 63 (100000), Cond.methodLink RX6 112 yX6_worth, Cond.instanceMethod yX6_worth, Cond.selects RX6 yX6_worth yX6_worth, Cond.code yX6_worth cX6_worth 7 (some .long), Cond.fieldLink RX6 60 "KegDepositsModel" "kinds" "I", Cond.methodLink RX6 100 yX6_has, Cond.instanceMethod yX6_has, Cond.selects RX6 yX6_has yX6_has, Cond.code yX6_has cX6_has 6 (some .long), Cond.fieldLink RX6 89 "KegDepositsModel" "layers" "I", Cond.fieldLink RX6 33 "KegDepositsModel" "layerParty" "[I"]
def wsX6_settle_r2 : List Cond := [Cond.fieldLink RX6 36 "KegDepositsModel" "layerKind" "[I", Cond.fieldLink RX6 39 "KegDepositsModel" "layerLeft" "[J", Cond.methodLink RX6 92 yX6_priceOn, Cond.instanceMethod yX6_priceOn, Cond.selects RX6 yX6_priceOn yX6_priceOn, Cond.code yX6_priceOn cX6_priceOn 11 (some .long), Cond.constantLong RX6 73 (-1), Cond.fieldLink RX6 20 "KegDepositsModel" "prices" "[I", Cond.fieldLink RX6 13 "KegDepositsModel" "priceDays" "[J", Cond.fieldLink RX6 17 "KegDepositsModel" "priceCents" "[J", Cond.methodLink RX6 96 yX6_move, Cond.instanceMethod yX6_move, Cond.selects RX6 yX6_move yX6_move, Cond.code yX6_move cX6_move 7 none, Cond.fieldLink RX6 51 "KegDepositsModel" "loses" "[I", Cond.fieldLink RX6 75 "KegDepositsModel" "changes" "I", Cond.fieldLink RX6 48 "KegDepositsModel" "gains" "[I", Cond.fieldLink RX6 54 "KegDepositsModel" "amounts" "[J", Cond.fieldLink RX6 57 "KegDepositsModel" "changeDays" "[J"]
def wsX6_settle : List Cond := .code yX6_settle cX6_settle 10 (some .int) :: ((wsX6_settle_r1 ++ wsX6_settle_r2) ++ wsX60)
def wsX6_rest : List Cond := .code yX6_rest cX6_rest 9 (some .long) :: ([.constantLong RX6 73 (-1), .constantLong RX6 108 (10000), .fieldLink RX6 27 "KegDepositsModel" "rests" "[J", .methodLink RX6 65 yX6_isKind, .instanceMethod yX6_isKind, .selects RX6 yX6_isKind yX6_isKind, .initialized RX6, .code yX6_isKind cX6_isKind 2 (some .boolean), .fieldLink RX6 60 "KegDepositsModel" "kinds" "I"] ++ wsX60)
def wsX6_sum : List Cond := .code yX6_sum cX6_sum 3 (some .long) :: ([])
def wsJ9_abs_067f4 : List Cond := .code yJ9_abs_067f4 cJ9_abs_067f4 2 (some .long) :: ([])
def wsJ9_min_f86c9 : List Cond := .code yJ9_min_f86c9 cJ9_min_f86c9 4 (some .long) :: ([])
def wsL_law_r1 : List Cond := [Cond.classLink RL 7 RX5, Cond.instantiable RX5 6, Cond.initialized RX5, Cond.classLink RL 10 RX6, Cond.instantiable RX6 20, Cond.initialized RX6, Cond.constantLong RL 22 (4294967295), Cond.methodLink RL 9 yX5_init, Cond.instanceMethod yX5_init, Cond.code yX5_init cX5_init 1 none, Cond.methodLink RX5 1 objectInit, Cond.instanceMethod objectInit, Cond.code objectInit ⟨#[0xb1]⟩ 1 none, Cond.classLink RX5 7 RX2, Cond.instantiable RX2 2, Cond.initialized RX2, Cond.fieldLink RX5 10 "KegDeposits" "house" "LKegDeposits$Party;", Cond.fieldLink RX5 16 "KegDeposits" "parties" "[LKegDeposits$Party;", Cond.classLink RX5 20 RX0, Cond.fieldLink RX5 22 "KegDeposits" "kinds" "[LKegDeposits$Kind;", Cond.instanceMethod yX2_init, Cond.code yX2_init cX2_init 1 none, Cond.methodLink RX2 1 objectInit, Cond.methodLink RL 12 yX6_init]
def wsL_law_r2 : List Cond := [Cond.instanceMethod yX6_init, Cond.code yX6_init cX6_init 1 none, Cond.methodLink RX6 1 objectInit, Cond.fieldLink RX6 7 "KegDepositsModel" "parties" "I", Cond.arrayClass .long, Cond.fieldLink RX6 13 "KegDepositsModel" "priceDays" "[J", Cond.fieldLink RX6 17 "KegDepositsModel" "priceCents" "[J", Cond.arrayClass .int, Cond.fieldLink RX6 20 "KegDepositsModel" "prices" "[I", Cond.fieldLink RX6 24 "KegDepositsModel" "shares" "[J", Cond.fieldLink RX6 27 "KegDepositsModel" "rests" "[J", Cond.fieldLink RX6 30 "KegDepositsModel" "pieces" "[J", Cond.fieldLink RX6 33 "KegDepositsModel" "layerParty" "[I", Cond.fieldLink RX6 36 "KegDepositsModel" "layerKind" "[I", Cond.fieldLink RX6 39 "KegDepositsModel" "layerLeft" "[J", Cond.fieldLink RX6 42 "KegDepositsModel" "layerDay" "[J", Cond.fieldLink RX6 45 "KegDepositsModel" "layerPrice" "[J", Cond.fieldLink RX6 48 "KegDepositsModel" "gains" "[I", Cond.fieldLink RX6 51 "KegDepositsModel" "loses" "[I", Cond.fieldLink RX6 54 "KegDepositsModel" "amounts" "[J", Cond.fieldLink RX6 57 "KegDepositsModel" "changeDays" "[J", Cond.methodLink RL 13 yX5_party, Cond.instanceMethod yX5_party, Cond.selects RX5 yX5_party yX5_party]
def wsL_law_r3 : List Cond := [Cond.code yX5_party cX5_party 2 (some .int), Cond.methodLink RL 17 yX6_party, Cond.instanceMethod yX6_party, Cond.selects RX6 yX6_party yX6_party, Cond.code yX6_party cX6_party 1 (some .int), Cond.methodLink RL 18 yX5_kind, Cond.instanceMethod yX5_kind, Cond.selects RX5 yX5_kind yX5_kind, Cond.code yX5_kind cX5_kind 2 (some .int), Cond.instantiable RX0 3, Cond.initialized RX0, Cond.instanceMethod yX0_init, Cond.code yX0_init cX0_init 1 none, Cond.methodLink RX0 3 objectInit, Cond.methodLink RL 21 yX6_kind, Cond.instanceMethod yX6_kind, Cond.selects RX6 yX6_kind yX6_kind, Cond.code yX6_kind cX6_kind 1 (some .int), Cond.fieldLink RX6 60 "KegDepositsModel" "kinds" "I", Cond.methodLink RL 24 yX5_price, Cond.instanceMethod yX5_price, Cond.selects RX5 yX5_price yX5_price, Cond.code yX5_price cX5_price 7 (some .boolean), Cond.constantLong RX5 35 (100000)]
def wsL_law_r4 : List Cond := [Cond.methodLink RX5 27 yX5_kindAt, Cond.instanceMethod yX5_kindAt, Cond.selects RX5 yX5_kindAt yX5_kindAt, Cond.code yX5_kindAt cX5_kindAt 2 (some (.object "KegDeposits$Kind")), Cond.methodLink RX5 31 yX5_isDay, Cond.static yX5_isDay, Cond.code yX5_isDay cX5_isDay 2 (some .boolean), Cond.methodLink RX5 37 yX0_tellPrice, Cond.instanceMethod yX0_tellPrice, Cond.selects RX0 yX0_tellPrice yX0_tellPrice, Cond.code yX0_tellPrice cX0_tellPrice 7 (some .boolean), Cond.fieldLink RX0 9 "KegDeposits$Kind" "prices" "LKegDeposits$Price;", Cond.classLink RX0 16 RX3, Cond.instantiable RX3 3, Cond.initialized RX3, Cond.methodLink RX0 27 yX3_init, Cond.instanceMethod yX3_init, Cond.code yX3_init cX3_init 6 none, Cond.methodLink RX3 1 objectInit, Cond.fieldLink RX3 7 "KegDeposits$Price" "day" "J", Cond.fieldLink RX3 13 "KegDeposits$Price" "cents" "J", Cond.fieldLink RX3 16 "KegDeposits$Price" "next" "LKegDeposits$Price;", Cond.methodLink RL 28 yX6_price, Cond.instanceMethod yX6_price]
def wsL_law_r5 : List Cond := [Cond.selects RX6 yX6_price yX6_price, Cond.code yX6_price cX6_price 8 (some .boolean), Cond.constantLong RX6 63 (100000), Cond.methodLink RX6 65 yX6_isKind, Cond.instanceMethod yX6_isKind, Cond.selects RX6 yX6_isKind yX6_isKind, Cond.code yX6_isKind cX6_isKind 2 (some .boolean), Cond.methodLink RX6 69 yX6_isDay, Cond.static yX6_isDay, Cond.code yX6_isDay cX6_isDay 2 (some .boolean), Cond.methodLink RL 29 yX5_out, Cond.instanceMethod yX5_out, Cond.selects RX5 yX5_out yX5_out, Cond.code yX5_out cX5_out 11 (some .boolean), Cond.classLink RX5 59 RX1, Cond.instantiable RX1 5, Cond.initialized RX1, Cond.methodLink RX5 41 yX5_customerAt, Cond.instanceMethod yX5_customerAt, Cond.selects RX5 yX5_customerAt yX5_customerAt, Cond.code yX5_customerAt cX5_customerAt 2 (some (.object "KegDeposits$Party")), Cond.methodLink RX5 97 yX5_partyAt, Cond.instanceMethod yX5_partyAt, Cond.selects RX5 yX5_partyAt yX5_partyAt]
def wsL_law_r6 : List Cond := [Cond.code yX5_partyAt cX5_partyAt 2 (some (.object "KegDeposits$Party")), Cond.methodLink RX5 45 yX5_isNumber, Cond.static yX5_isNumber, Cond.code yX5_isNumber cX5_isNumber 2 (some .boolean), Cond.methodLink RX5 48 yX5_mayMoveOn, Cond.instanceMethod yX5_mayMoveOn, Cond.selects RX5 yX5_mayMoveOn yX5_mayMoveOn, Cond.code yX5_mayMoveOn cX5_mayMoveOn 3 (some .boolean), Cond.fieldLink RX5 105 "KegDeposits" "clock" "J", Cond.fieldLink RX5 127 "KegDeposits" "movesDone" "I", Cond.methodLink RX5 51 yX5_layersInUse, Cond.instanceMethod yX5_layersInUse, Cond.selects RX5 yX5_layersInUse yX5_layersInUse, Cond.code yX5_layersInUse cX5_layersInUse 4 (some .int), Cond.methodLink RX5 150 yX2_layersInUse, Cond.instanceMethod yX2_layersInUse, Cond.selects RX2 yX2_layersInUse yX2_layersInUse, Cond.code yX2_layersInUse cX2_layersInUse 3 (some .int), Cond.fieldLink RX2 13 "KegDeposits$Party" "oldest" "LKegDeposits$Layer;", Cond.methodLink RX5 55 yX0_priceOn, Cond.instanceMethod yX0_priceOn, Cond.selects RX0 yX0_priceOn yX0_priceOn, Cond.code yX0_priceOn cX0_priceOn 8 (some .long), Cond.constantLong RX0 30 (-1)]
def wsL_law_r7 : List Cond := [Cond.methodLink RX5 61 yX1_init, Cond.instanceMethod yX1_init, Cond.code yX1_init cX1_init 8 none, Cond.methodLink RX1 1 objectInit, Cond.fieldLink RX1 7 "KegDeposits$Layer" "kind" "LKegDeposits$Kind;", Cond.fieldLink RX1 13 "KegDeposits$Layer" "day" "J", Cond.fieldLink RX1 17 "KegDeposits$Layer" "pieces" "J", Cond.fieldLink RX1 20 "KegDeposits$Layer" "cents" "J", Cond.methodLink RX5 64 yX2_addLayer, Cond.instanceMethod yX2_addLayer, Cond.selects RX2 yX2_addLayer yX2_addLayer, Cond.code yX2_addLayer cX2_addLayer 2 none, Cond.fieldLink RX2 7 "KegDeposits$Party" "newest" "LKegDeposits$Layer;", Cond.methodLink RX5 68 yX5_move, Cond.instanceMethod yX5_move, Cond.selects RX5 yX5_move yX5_move, Cond.code yX5_move cX5_move 7 none, Cond.classLink RX5 131 RX4, Cond.instantiable RX4 5, Cond.initialized RX4, Cond.fieldLink RX5 133 "KegDeposits" "latestTransfer" "LKegDeposits$Transfer;", Cond.methodLink RX5 137 yX4_init, Cond.instanceMethod yX4_init, Cond.code yX4_init cX4_init 8 none]
def wsL_law_r8 : List Cond := [Cond.methodLink RX4 1 objectInit, Cond.fieldLink RX4 7 "KegDeposits$Transfer" "day" "J", Cond.fieldLink RX4 13 "KegDeposits$Transfer" "cents" "J", Cond.fieldLink RX4 16 "KegDeposits$Transfer" "payer" "LKegDeposits$Party;", Cond.fieldLink RX4 20 "KegDeposits$Transfer" "taker" "LKegDeposits$Party;", Cond.fieldLink RX4 23 "KegDeposits$Transfer" "earlier" "LKegDeposits$Transfer;", Cond.methodLink RL 33 yX6_out, Cond.instanceMethod yX6_out, Cond.selects RX6 yX6_out yX6_out, Cond.code yX6_out cX6_out 9 (some .boolean), Cond.fieldLink RX6 89 "KegDepositsModel" "layers" "I", Cond.fieldLink RX6 81 "KegDepositsModel" "clock" "J", Cond.methodLink RX6 85 yX6_mayCome, Cond.instanceMethod yX6_mayCome, Cond.selects RX6 yX6_mayCome yX6_mayCome, Cond.code yX6_mayCome cX6_mayCome 6 (some .boolean), Cond.methodLink RX6 78 yX6_isParty, Cond.instanceMethod yX6_isParty, Cond.selects RX6 yX6_isParty yX6_isParty, Cond.code yX6_isParty cX6_isParty 2 (some .boolean), Cond.methodLink RX6 92 yX6_priceOn, Cond.instanceMethod yX6_priceOn, Cond.selects RX6 yX6_priceOn yX6_priceOn, Cond.code yX6_priceOn cX6_priceOn 11 (some .long)]
def wsL_law_r9 : List Cond := [Cond.constantLong RX6 73 (-1), Cond.methodLink RX6 96 yX6_move, Cond.instanceMethod yX6_move, Cond.selects RX6 yX6_move yX6_move, Cond.code yX6_move cX6_move 7 none, Cond.fieldLink RX6 75 "KegDepositsModel" "changes" "I", Cond.methodLink RL 34 yX5_back, Cond.instanceMethod yX5_back, Cond.selects RX5 yX5_back yX5_back, Cond.code yX5_back cX5_back 9 (some .boolean), Cond.methodLink RX5 72 yX2_piecesUpTo, Cond.instanceMethod yX2_piecesUpTo, Cond.selects RX2 yX2_piecesUpTo yX2_piecesUpTo, Cond.code yX2_piecesUpTo cX2_piecesUpTo 7 (some .long), Cond.methodLink RX5 76 yX2_giveBack, Cond.instanceMethod yX2_giveBack, Cond.selects RX2 yX2_giveBack yX2_giveBack, Cond.code yX2_giveBack cX2_giveBack 11 (some .long), Cond.methodLink RX2 32 Lib.MathLoose.min_long.x, Cond.static Lib.MathLoose.min_long.x, Cond.initialized "java/lang/Math", Cond.code Lib.MathLoose.min_long.x Lib.MathLoose.min_long.code 4 (some .long), Cond.methodLink RL 37 yX6_back, Cond.instanceMethod yX6_back]
def wsL_law_r10 : List Cond := [Cond.selects RX6 yX6_back yX6_back, Cond.code yX6_back cX6_back 7 (some .boolean), Cond.methodLink RX6 100 yX6_has, Cond.instanceMethod yX6_has, Cond.selects RX6 yX6_has yX6_has, Cond.code yX6_has cX6_has 6 (some .long), Cond.methodLink RX6 104 yX6_take, Cond.instanceMethod yX6_take, Cond.selects RX6 yX6_take yX6_take, Cond.code yX6_take cX6_take 12 (some .long), Cond.methodLink RL 38 yX5_sampled, Cond.instanceMethod yX5_sampled, Cond.selects RX5 yX5_sampled yX5_sampled, Cond.code yX5_sampled cX5_sampled 7 (some .boolean), Cond.methodLink RX5 79 yX5_sharesMakeOne, Cond.instanceMethod yX5_sharesMakeOne, Cond.selects RX5 yX5_sharesMakeOne yX5_sharesMakeOne, Cond.code yX5_sharesMakeOne cX5_sharesMakeOne 5 (some .boolean), Cond.constantLong RX5 91 (10000), Cond.methodLink RX5 83 yX5_hasLot, Cond.instanceMethod yX5_hasLot, Cond.selects RX5 yX5_hasLot yX5_hasLot, Cond.code yX5_hasLot cX5_hasLot 6 (some .boolean), Cond.methodLink RX5 151 yX0_partsOfLot]
def wsL_law_r11 : List Cond := [Cond.instanceMethod yX0_partsOfLot, Cond.selects RX0 yX0_partsOfLot yX0_partsOfLot, Cond.code yX0_partsOfLot cX0_partsOfLot 3 (some .long), Cond.fieldLink RX0 32 "KegDeposits$Kind" "restParts" "J", Cond.fieldLink RX0 35 "KegDeposits$Kind" "shareParts" "J", Cond.methodLink RX5 87 yX5_giveBackLot, Cond.instanceMethod yX5_giveBackLot, Cond.selects RX5 yX5_giveBackLot yX5_giveBackLot, Cond.code yX5_giveBackLot cX5_giveBackLot 10 (some .long), Cond.methodLink RL 41 yX6_sampled, Cond.instanceMethod yX6_sampled, Cond.selects RX6 yX6_sampled yX6_sampled, Cond.code yX6_sampled cX6_sampled 12 (some .boolean), Cond.constantLong RX6 108 (10000), Cond.methodLink RL 42 yX5_share, Cond.instanceMethod yX5_share, Cond.selects RX5 yX5_share yX5_share, Cond.code yX5_share cX5_share 7 (some .boolean), Cond.methodLink RL 45 yX6_share, Cond.instanceMethod yX6_share, Cond.selects RX6 yX6_share yX6_share, Cond.code yX6_share cX6_share 6 (some .boolean), Cond.methodLink RL 46 yX5_balance, Cond.instanceMethod yX5_balance]
def wsL_law_r12 : List Cond := [Cond.selects RX5 yX5_balance yX5_balance, Cond.code yX5_balance cX5_balance 5 (some .long), Cond.methodLink RX5 100 yX5_balanceOf, Cond.instanceMethod yX5_balanceOf, Cond.selects RX5 yX5_balanceOf yX5_balanceOf, Cond.code yX5_balanceOf cX5_balanceOf 7 (some .long), Cond.methodLink RX5 143 yX4_changeOf, Cond.instanceMethod yX4_changeOf, Cond.selects RX4 yX4_changeOf yX4_changeOf, Cond.code yX4_changeOf cX4_changeOf 2 (some .long), Cond.methodLink RL 50 yX6_balance, Cond.instanceMethod yX6_balance, Cond.selects RX6 yX6_balance yX6_balance, Cond.code yX6_balance cX6_balance 7 (some .long), Cond.methodLink RL 51 yX5_count, Cond.instanceMethod yX5_count, Cond.selects RX5 yX5_count yX5_count, Cond.code yX5_count cX5_count 5 (some .long), Cond.constantLong RX5 103 (-1), Cond.methodLink RL 55 yX6_count, Cond.instanceMethod yX6_count, Cond.selects RX6 yX6_count yX6_count, Cond.code yX6_count cX6_count 3 (some .long), Cond.methodLink RL 56 yX5_lost]
def wsL_law_r13 : List Cond := [Cond.instanceMethod yX5_lost, Cond.selects RX5 yX5_lost yX5_lost, Cond.code yX5_lost cX5_lost 10 (some .long), Cond.constantLong RX5 108 (30), Cond.methodLink RL 59 yX6_lost, Cond.instanceMethod yX6_lost, Cond.selects RX6 yX6_lost yX6_lost, Cond.code yX6_lost cX6_lost 6 (some .long), Cond.constantLong RX6 110 (30), Cond.methodLink RL 60 yX5_settle, Cond.instanceMethod yX5_settle, Cond.selects RX5 yX5_settle yX5_settle, Cond.code yX5_settle cX5_settle 13 (some .int), Cond.methodLink RX5 113 Lib.MathLoose.abs_long.x, Cond.static Lib.MathLoose.abs_long.x, Cond.code Lib.MathLoose.abs_long.x Lib.MathLoose.abs_long.code 2 (some .long), Cond.constantLong RX5 118 (2), Cond.methodLink RX5 110 yX5_worthOf, Cond.instanceMethod yX5_worthOf, Cond.selects RX5 yX5_worthOf yX5_worthOf, Cond.code yX5_worthOf cX5_worthOf 8 (some .long), Cond.methodLink RL 64 yX6_settle, Cond.instanceMethod yX6_settle, Cond.selects RX6 yX6_settle yX6_settle]
def wsL_law_r14 : List Cond := [Cond.code yX6_settle cX6_settle 10 (some .int), Cond.constantLong RX6 115 (2), Cond.methodLink RX6 112 yX6_worth, Cond.instanceMethod yX6_worth, Cond.selects RX6 yX6_worth yX6_worth, Cond.code yX6_worth cX6_worth 7 (some .long), Cond.methodLink RL 65 yX5_rest, Cond.instanceMethod yX5_rest, Cond.selects RX5 yX5_rest yX5_rest, Cond.code yX5_rest cX5_rest 6 (some .long), Cond.methodLink RX5 123 yX5_commonDivisor, Cond.static yX5_commonDivisor, Cond.code yX5_commonDivisor cX5_commonDivisor 11 (some .long), Cond.methodLink RL 68 yX6_rest, Cond.instanceMethod yX6_rest, Cond.selects RX6 yX6_rest yX6_rest, Cond.code yX6_rest cX6_rest 9 (some .long), Cond.methodLink RL 69 yX5_sum, Cond.instanceMethod yX5_sum, Cond.selects RX5 yX5_sum yX5_sum, Cond.code yX5_sum cX5_sum 7 (some .long), Cond.methodLink RL 73 yX6_sum, Cond.instanceMethod yX6_sum, Cond.selects RX6 yX6_sum yX6_sum]
def wsL_law_r15 : List Cond := [Cond.code yX6_sum cX6_sum 3 (some .long)]
def wsL_law : List Cond := (wsL_law_r1 ++ (wsL_law_r2 ++ (wsL_law_r3 ++ (wsL_law_r4 ++ (wsL_law_r5 ++ (wsL_law_r6 ++ (wsL_law_r7 ++ (wsL_law_r8 ++ (wsL_law_r9 ++ (wsL_law_r10 ++ (wsL_law_r11 ++ (wsL_law_r12 ++ (wsL_law_r13 ++ (wsL_law_r14 ++ wsL_law_r15)))))))))))))) ++ wsX50 ++ wsX60 ++ wsX20 ++ wsX00 ++ wsX30 ++ wsX10 ++ wsX40 ++ ([] : List Cond)
set_option maxRecDepth 20000 in
theorem wsL_law_in : ∀ w ∈ wsL_law, w ∈ lw_tbl := fun w h => (goodIn_p wsL_law [32, 35, 40, 310, 74, 378, 78, 82, 382, 99, 103, 106, 111, 116, 386, 390, 393, 134, 138, 142, 145, 149, 153, 157, 161, 167, 192, 196, 201, 398, 402, 406, 410, 415, 224, 228, 232, 235, 419, 423, 427, 239, 243, 248, 252, 256, 431, 260, 436, 264, 268, 272, 440, 276, 444, 281, 448, 286, 293, 290, 453, 457, 298, 301, 462, 305, 466] (by decide +kernel) (by decide +kernel) w h).1
theorem inlX0 : ∀ w ∈ wsX00, w ∈ wsL_law := fun _ h => List.mem_append_left _ (List.mem_append_left _ (List.mem_append_left _ (List.mem_append_left _ (List.mem_append_right _ h))))
theorem inX0 : ∀ w ∈ wsX00, w ∈ lw_tbl := fun w h => wsL_law_in w (inlX0 w h)
theorem inlX1 : ∀ w ∈ wsX10, w ∈ wsL_law := fun _ h => List.mem_append_left _ (List.mem_append_left _ (List.mem_append_right _ h))
theorem inX1 : ∀ w ∈ wsX10, w ∈ lw_tbl := fun w h => wsL_law_in w (inlX1 w h)
theorem inlX2 : ∀ w ∈ wsX20, w ∈ wsL_law := fun _ h => List.mem_append_left _ (List.mem_append_left _ (List.mem_append_left _ (List.mem_append_left _ (List.mem_append_left _ (List.mem_append_right _ h)))))
theorem inX2 : ∀ w ∈ wsX20, w ∈ lw_tbl := fun w h => wsL_law_in w (inlX2 w h)
theorem inlX3 : ∀ w ∈ wsX30, w ∈ wsL_law := fun _ h => List.mem_append_left _ (List.mem_append_left _ (List.mem_append_left _ (List.mem_append_right _ h)))
theorem inX3 : ∀ w ∈ wsX30, w ∈ lw_tbl := fun w h => wsL_law_in w (inlX3 w h)
theorem inlX4 : ∀ w ∈ wsX40, w ∈ wsL_law := fun _ h => List.mem_append_left _ (List.mem_append_right _ h)
theorem inX4 : ∀ w ∈ wsX40, w ∈ lw_tbl := fun w h => wsL_law_in w (inlX4 w h)
theorem inlX5 : ∀ w ∈ wsX50, w ∈ wsL_law := fun _ h => List.mem_append_left _ (List.mem_append_left _ (List.mem_append_left _ (List.mem_append_left _ (List.mem_append_left _ (List.mem_append_left _ (List.mem_append_left _ (List.mem_append_right _ h)))))))
theorem inX5 : ∀ w ∈ wsX50, w ∈ lw_tbl := fun w h => wsL_law_in w (inlX5 w h)
theorem inlX6 : ∀ w ∈ wsX60, w ∈ wsL_law := fun _ h => List.mem_append_left _ (List.mem_append_left _ (List.mem_append_left _ (List.mem_append_left _ (List.mem_append_left _ (List.mem_append_left _ (List.mem_append_right _ h))))))
theorem inX6 : ∀ w ∈ wsX60, w ∈ lw_tbl := fun w h => wsL_law_in w (inlX6 w h)
theorem inJ9 : ∀ w ∈ wsJ90, w ∈ lw_tbl := by decide +kernel
theorem dX0_init_0 : decode cX0_init 0 = .ok (.aload_n 0, 1) := by decide +kernel
theorem dX0_init_1 : decode cX0_init 1 = .ok (.invokespecial 3, 3) := by decide +kernel
theorem dX0_init_4 : decode cX0_init 4 = .ok (.return_, 1) := by decide +kernel
set_option maxRecDepth 20000 in
theorem ggX0_tellPrice_X3_init : GoodIn wsX0_tellPrice wsX3_init := goodIn_r _ [7, 8, 9, 10, 11, 12, 13, 17, 18, 19] (by decide +kernel) (by decide +kernel)
set_option maxRecDepth 20000 in
theorem gX0_tellPrice_X3_init : GoodIn wsX0_tellPrice (wsX3_init) := ggX0_tellPrice_X3_init
theorem dX0_tellPrice_0 : decode cX0_tellPrice 0 = .ok (.iconst 0, 1) := by decide +kernel
theorem dX0_tellPrice_1 : decode cX0_tellPrice 1 = .ok (.istore 5, 2) := by decide +kernel
theorem dX0_tellPrice_3 : decode cX0_tellPrice 3 = .ok (.aload_n 0, 1) := by decide +kernel
theorem dX0_tellPrice_4 : decode cX0_tellPrice 4 = .ok (.getfield 9, 3) := by decide +kernel
theorem dX0_tellPrice_7 : decode cX0_tellPrice 7 = .ok (.astore 6, 2) := by decide +kernel
theorem dX0_tellPrice_9 : decode cX0_tellPrice 9 = .ok (.aload 6, 2) := by decide +kernel
theorem dX0_tellPrice_11 : decode cX0_tellPrice 11 = .ok (.ifnull 34, 3) := by decide +kernel
theorem dX0_tellPrice_14 : decode cX0_tellPrice 14 = .ok (.aload 6, 2) := by decide +kernel
theorem dX0_tellPrice_16 : decode cX0_tellPrice 16 = .ok (.getfield 15, 3) := by decide +kernel
theorem dX0_tellPrice_19 : decode cX0_tellPrice 19 = .ok (.lload_n 1, 1) := by decide +kernel
theorem dX0_tellPrice_20 : decode cX0_tellPrice 20 = .ok (.lcmp, 1) := by decide +kernel
theorem dX0_tellPrice_21 : decode cX0_tellPrice 21 = .ok (.ifCond .ne 11, 3) := by decide +kernel
theorem dX0_tellPrice_24 : decode cX0_tellPrice 24 = .ok (.aload 6, 2) := by decide +kernel
theorem dX0_tellPrice_26 : decode cX0_tellPrice 26 = .ok (.lload_n 3, 1) := by decide +kernel
theorem dX0_tellPrice_27 : decode cX0_tellPrice 27 = .ok (.putfield 21, 3) := by decide +kernel
theorem dX0_tellPrice_30 : decode cX0_tellPrice 30 = .ok (.iconst 1, 1) := by decide +kernel
theorem dX0_tellPrice_31 : decode cX0_tellPrice 31 = .ok (.ireturn, 1) := by decide +kernel
theorem dX0_tellPrice_32 : decode cX0_tellPrice 32 = .ok (.iinc 5 1, 3) := by decide +kernel
theorem dX0_tellPrice_35 : decode cX0_tellPrice 35 = .ok (.aload 6, 2) := by decide +kernel
theorem dX0_tellPrice_37 : decode cX0_tellPrice 37 = .ok (.getfield 24, 3) := by decide +kernel
theorem dX0_tellPrice_40 : decode cX0_tellPrice 40 = .ok (.astore 6, 2) := by decide +kernel
theorem dX0_tellPrice_42 : decode cX0_tellPrice 42 = .ok (.goto (-33), 3) := by decide +kernel
theorem dX0_tellPrice_45 : decode cX0_tellPrice 45 = .ok (.iload 5, 2) := by decide +kernel
theorem dX0_tellPrice_47 : decode cX0_tellPrice 47 = .ok (.bipush 20, 2) := by decide +kernel
theorem dX0_tellPrice_49 : decode cX0_tellPrice 49 = .ok (.if_icmp .lt 5, 3) := by decide +kernel
theorem dX0_tellPrice_52 : decode cX0_tellPrice 52 = .ok (.iconst 0, 1) := by decide +kernel
theorem dX0_tellPrice_53 : decode cX0_tellPrice 53 = .ok (.ireturn, 1) := by decide +kernel
theorem dX0_tellPrice_54 : decode cX0_tellPrice 54 = .ok (.aload_n 0, 1) := by decide +kernel
theorem dX0_tellPrice_55 : decode cX0_tellPrice 55 = .ok (.new 16, 3) := by decide +kernel
theorem dX0_tellPrice_58 : decode cX0_tellPrice 58 = .ok (.dup, 1) := by decide +kernel
theorem dX0_tellPrice_59 : decode cX0_tellPrice 59 = .ok (.lload_n 1, 1) := by decide +kernel
theorem dX0_tellPrice_60 : decode cX0_tellPrice 60 = .ok (.lload_n 3, 1) := by decide +kernel
theorem dX0_tellPrice_61 : decode cX0_tellPrice 61 = .ok (.aload_n 0, 1) := by decide +kernel
theorem dX0_tellPrice_62 : decode cX0_tellPrice 62 = .ok (.getfield 9, 3) := by decide +kernel
theorem dX0_tellPrice_65 : decode cX0_tellPrice 65 = .ok (.invokespecial 27, 3) := by decide +kernel
theorem dX0_tellPrice_68 : decode cX0_tellPrice 68 = .ok (.putfield 9, 3) := by decide +kernel
theorem dX0_tellPrice_71 : decode cX0_tellPrice 71 = .ok (.iconst 1, 1) := by decide +kernel
theorem dX0_tellPrice_72 : decode cX0_tellPrice 72 = .ok (.ireturn, 1) := by decide +kernel
theorem dX0_priceOn_0 : decode cX0_priceOn 0 = .ok (.ldc2_w 30, 3) := by decide +kernel
theorem dX0_priceOn_3 : decode cX0_priceOn 3 = .ok (.lstore_n 3, 1) := by decide +kernel
theorem dX0_priceOn_4 : decode cX0_priceOn 4 = .ok (.lconst 0, 1) := by decide +kernel
theorem dX0_priceOn_5 : decode cX0_priceOn 5 = .ok (.lstore 5, 2) := by decide +kernel
theorem dX0_priceOn_7 : decode cX0_priceOn 7 = .ok (.aload_n 0, 1) := by decide +kernel
theorem dX0_priceOn_8 : decode cX0_priceOn 8 = .ok (.getfield 9, 3) := by decide +kernel
theorem dX0_priceOn_11 : decode cX0_priceOn 11 = .ok (.astore 7, 2) := by decide +kernel
theorem dX0_priceOn_13 : decode cX0_priceOn 13 = .ok (.aload 7, 2) := by decide +kernel
theorem dX0_priceOn_15 : decode cX0_priceOn 15 = .ok (.ifnull 46, 3) := by decide +kernel
theorem dX0_priceOn_18 : decode cX0_priceOn 18 = .ok (.aload 7, 2) := by decide +kernel
theorem dX0_priceOn_20 : decode cX0_priceOn 20 = .ok (.getfield 15, 3) := by decide +kernel
theorem dX0_priceOn_23 : decode cX0_priceOn 23 = .ok (.lload_n 1, 1) := by decide +kernel
theorem dX0_priceOn_24 : decode cX0_priceOn 24 = .ok (.lcmp, 1) := by decide +kernel
theorem dX0_priceOn_25 : decode cX0_priceOn 25 = .ok (.ifCond .gt 26, 3) := by decide +kernel
theorem dX0_priceOn_28 : decode cX0_priceOn 28 = .ok (.aload 7, 2) := by decide +kernel
theorem dX0_priceOn_30 : decode cX0_priceOn 30 = .ok (.getfield 15, 3) := by decide +kernel
theorem dX0_priceOn_33 : decode cX0_priceOn 33 = .ok (.lload_n 3, 1) := by decide +kernel
theorem dX0_priceOn_34 : decode cX0_priceOn 34 = .ok (.lcmp, 1) := by decide +kernel
theorem dX0_priceOn_35 : decode cX0_priceOn 35 = .ok (.ifCond .le 16, 3) := by decide +kernel
theorem dX0_priceOn_38 : decode cX0_priceOn 38 = .ok (.aload 7, 2) := by decide +kernel
theorem dX0_priceOn_40 : decode cX0_priceOn 40 = .ok (.getfield 15, 3) := by decide +kernel
theorem dX0_priceOn_43 : decode cX0_priceOn 43 = .ok (.lstore_n 3, 1) := by decide +kernel
theorem dX0_priceOn_44 : decode cX0_priceOn 44 = .ok (.aload 7, 2) := by decide +kernel
theorem dX0_priceOn_46 : decode cX0_priceOn 46 = .ok (.getfield 21, 3) := by decide +kernel
theorem dX0_priceOn_49 : decode cX0_priceOn 49 = .ok (.lstore 5, 2) := by decide +kernel
theorem dX0_priceOn_51 : decode cX0_priceOn 51 = .ok (.aload 7, 2) := by decide +kernel
theorem dX0_priceOn_53 : decode cX0_priceOn 53 = .ok (.getfield 24, 3) := by decide +kernel
theorem dX0_priceOn_56 : decode cX0_priceOn 56 = .ok (.astore 7, 2) := by decide +kernel
theorem dX0_priceOn_58 : decode cX0_priceOn 58 = .ok (.goto (-45), 3) := by decide +kernel
theorem dX0_priceOn_61 : decode cX0_priceOn 61 = .ok (.lload 5, 2) := by decide +kernel
theorem dX0_priceOn_63 : decode cX0_priceOn 63 = .ok (.lreturn, 1) := by decide +kernel
theorem dX0_partsOfLot_0 : decode cX0_partsOfLot 0 = .ok (.aload_n 0, 1) := by decide +kernel
theorem dX0_partsOfLot_1 : decode cX0_partsOfLot 1 = .ok (.getfield 32, 3) := by decide +kernel
theorem dX0_partsOfLot_4 : decode cX0_partsOfLot 4 = .ok (.lload_n 1, 1) := by decide +kernel
theorem dX0_partsOfLot_5 : decode cX0_partsOfLot 5 = .ok (.aload_n 0, 1) := by decide +kernel
theorem dX0_partsOfLot_6 : decode cX0_partsOfLot 6 = .ok (.getfield 35, 3) := by decide +kernel
theorem dX0_partsOfLot_9 : decode cX0_partsOfLot 9 = .ok (.lmul, 1) := by decide +kernel
theorem dX0_partsOfLot_10 : decode cX0_partsOfLot 10 = .ok (.ladd, 1) := by decide +kernel
theorem dX0_partsOfLot_11 : decode cX0_partsOfLot 11 = .ok (.lreturn, 1) := by decide +kernel
theorem dX1_init_0 : decode cX1_init 0 = .ok (.aload_n 0, 1) := by decide +kernel
theorem dX1_init_1 : decode cX1_init 1 = .ok (.invokespecial 1, 3) := by decide +kernel
theorem dX1_init_4 : decode cX1_init 4 = .ok (.aload_n 0, 1) := by decide +kernel
theorem dX1_init_5 : decode cX1_init 5 = .ok (.aload_n 1, 1) := by decide +kernel
theorem dX1_init_6 : decode cX1_init 6 = .ok (.putfield 7, 3) := by decide +kernel
theorem dX1_init_9 : decode cX1_init 9 = .ok (.aload_n 0, 1) := by decide +kernel
theorem dX1_init_10 : decode cX1_init 10 = .ok (.lload_n 2, 1) := by decide +kernel
theorem dX1_init_11 : decode cX1_init 11 = .ok (.putfield 13, 3) := by decide +kernel
theorem dX1_init_14 : decode cX1_init 14 = .ok (.aload_n 0, 1) := by decide +kernel
theorem dX1_init_15 : decode cX1_init 15 = .ok (.lload 4, 2) := by decide +kernel
theorem dX1_init_17 : decode cX1_init 17 = .ok (.putfield 17, 3) := by decide +kernel
theorem dX1_init_20 : decode cX1_init 20 = .ok (.aload_n 0, 1) := by decide +kernel
theorem dX1_init_21 : decode cX1_init 21 = .ok (.lload 6, 2) := by decide +kernel
theorem dX1_init_23 : decode cX1_init 23 = .ok (.putfield 20, 3) := by decide +kernel
theorem dX1_init_26 : decode cX1_init 26 = .ok (.return_, 1) := by decide +kernel
theorem dX2_init_0 : decode cX2_init 0 = .ok (.aload_n 0, 1) := by decide +kernel
theorem dX2_init_1 : decode cX2_init 1 = .ok (.invokespecial 1, 3) := by decide +kernel
theorem dX2_init_4 : decode cX2_init 4 = .ok (.return_, 1) := by decide +kernel
theorem dX2_addLayer_0 : decode cX2_addLayer 0 = .ok (.aload_n 0, 1) := by decide +kernel
theorem dX2_addLayer_1 : decode cX2_addLayer 1 = .ok (.getfield 7, 3) := by decide +kernel
theorem dX2_addLayer_4 : decode cX2_addLayer 4 = .ok (.ifnonnull 11, 3) := by decide +kernel
theorem dX2_addLayer_7 : decode cX2_addLayer 7 = .ok (.aload_n 0, 1) := by decide +kernel
theorem dX2_addLayer_8 : decode cX2_addLayer 8 = .ok (.aload_n 1, 1) := by decide +kernel
theorem dX2_addLayer_9 : decode cX2_addLayer 9 = .ok (.putfield 13, 3) := by decide +kernel
theorem dX2_addLayer_12 : decode cX2_addLayer 12 = .ok (.goto 11, 3) := by decide +kernel
theorem dX2_addLayer_15 : decode cX2_addLayer 15 = .ok (.aload_n 0, 1) := by decide +kernel
theorem dX2_addLayer_16 : decode cX2_addLayer 16 = .ok (.getfield 7, 3) := by decide +kernel
theorem dX2_addLayer_19 : decode cX2_addLayer 19 = .ok (.aload_n 1, 1) := by decide +kernel
theorem dX2_addLayer_20 : decode cX2_addLayer 20 = .ok (.putfield 16, 3) := by decide +kernel
theorem dX2_addLayer_23 : decode cX2_addLayer 23 = .ok (.aload_n 0, 1) := by decide +kernel
theorem dX2_addLayer_24 : decode cX2_addLayer 24 = .ok (.aload_n 1, 1) := by decide +kernel
theorem dX2_addLayer_25 : decode cX2_addLayer 25 = .ok (.putfield 7, 3) := by decide +kernel
theorem dX2_addLayer_28 : decode cX2_addLayer 28 = .ok (.return_, 1) := by decide +kernel
theorem dX2_piecesUpTo_0 : decode cX2_piecesUpTo 0 = .ok (.lconst 0, 1) := by decide +kernel
theorem dX2_piecesUpTo_1 : decode cX2_piecesUpTo 1 = .ok (.lstore 4, 2) := by decide +kernel
theorem dX2_piecesUpTo_3 : decode cX2_piecesUpTo 3 = .ok (.aload_n 0, 1) := by decide +kernel
theorem dX2_piecesUpTo_4 : decode cX2_piecesUpTo 4 = .ok (.getfield 13, 3) := by decide +kernel
theorem dX2_piecesUpTo_7 : decode cX2_piecesUpTo 7 = .ok (.astore 6, 2) := by decide +kernel
theorem dX2_piecesUpTo_9 : decode cX2_piecesUpTo 9 = .ok (.aload 6, 2) := by decide +kernel
theorem dX2_piecesUpTo_11 : decode cX2_piecesUpTo 11 = .ok (.ifnull 42, 3) := by decide +kernel
theorem dX2_piecesUpTo_14 : decode cX2_piecesUpTo 14 = .ok (.aload 6, 2) := by decide +kernel
theorem dX2_piecesUpTo_16 : decode cX2_piecesUpTo 16 = .ok (.getfield 21, 3) := by decide +kernel
theorem dX2_piecesUpTo_19 : decode cX2_piecesUpTo 19 = .ok (.aload_n 1, 1) := by decide +kernel
theorem dX2_piecesUpTo_20 : decode cX2_piecesUpTo 20 = .ok (.if_acmp .ne 23, 3) := by decide +kernel
theorem dX2_piecesUpTo_23 : decode cX2_piecesUpTo 23 = .ok (.aload 6, 2) := by decide +kernel
theorem dX2_piecesUpTo_25 : decode cX2_piecesUpTo 25 = .ok (.getfield 25, 3) := by decide +kernel
theorem dX2_piecesUpTo_28 : decode cX2_piecesUpTo 28 = .ok (.lload_n 2, 1) := by decide +kernel
theorem dX2_piecesUpTo_29 : decode cX2_piecesUpTo 29 = .ok (.lcmp, 1) := by decide +kernel
theorem dX2_piecesUpTo_30 : decode cX2_piecesUpTo 30 = .ok (.ifCond .gt 13, 3) := by decide +kernel
theorem dX2_piecesUpTo_33 : decode cX2_piecesUpTo 33 = .ok (.lload 4, 2) := by decide +kernel
theorem dX2_piecesUpTo_35 : decode cX2_piecesUpTo 35 = .ok (.aload 6, 2) := by decide +kernel
theorem dX2_piecesUpTo_37 : decode cX2_piecesUpTo 37 = .ok (.getfield 29, 3) := by decide +kernel
theorem dX2_piecesUpTo_40 : decode cX2_piecesUpTo 40 = .ok (.ladd, 1) := by decide +kernel
theorem dX2_piecesUpTo_41 : decode cX2_piecesUpTo 41 = .ok (.lstore 4, 2) := by decide +kernel
theorem dX2_piecesUpTo_43 : decode cX2_piecesUpTo 43 = .ok (.aload 6, 2) := by decide +kernel
theorem dX2_piecesUpTo_45 : decode cX2_piecesUpTo 45 = .ok (.getfield 16, 3) := by decide +kernel
theorem dX2_piecesUpTo_48 : decode cX2_piecesUpTo 48 = .ok (.astore 6, 2) := by decide +kernel
theorem dX2_piecesUpTo_50 : decode cX2_piecesUpTo 50 = .ok (.goto (-41), 3) := by decide +kernel
theorem dX2_piecesUpTo_53 : decode cX2_piecesUpTo 53 = .ok (.lload 4, 2) := by decide +kernel
theorem dX2_piecesUpTo_55 : decode cX2_piecesUpTo 55 = .ok (.lreturn, 1) := by decide +kernel
theorem dX2_giveBack_0 : decode cX2_giveBack 0 = .ok (.lload_n 2, 1) := by decide +kernel
theorem dX2_giveBack_1 : decode cX2_giveBack 1 = .ok (.lstore 4, 2) := by decide +kernel
theorem dX2_giveBack_3 : decode cX2_giveBack 3 = .ok (.lconst 0, 1) := by decide +kernel
theorem dX2_giveBack_4 : decode cX2_giveBack 4 = .ok (.lstore 6, 2) := by decide +kernel
theorem dX2_giveBack_6 : decode cX2_giveBack 6 = .ok (.aload_n 0, 1) := by decide +kernel
theorem dX2_giveBack_7 : decode cX2_giveBack 7 = .ok (.getfield 13, 3) := by decide +kernel
theorem dX2_giveBack_10 : decode cX2_giveBack 10 = .ok (.astore 8, 2) := by decide +kernel
theorem dX2_giveBack_12 : decode cX2_giveBack 12 = .ok (.aload 8, 2) := by decide +kernel
theorem dX2_giveBack_14 : decode cX2_giveBack 14 = .ok (.ifnull 66, 3) := by decide +kernel
theorem dX2_giveBack_17 : decode cX2_giveBack 17 = .ok (.aload 8, 2) := by decide +kernel
theorem dX2_giveBack_19 : decode cX2_giveBack 19 = .ok (.getfield 21, 3) := by decide +kernel
theorem dX2_giveBack_22 : decode cX2_giveBack 22 = .ok (.aload_n 1, 1) := by decide +kernel
theorem dX2_giveBack_23 : decode cX2_giveBack 23 = .ok (.if_acmp .ne 47, 3) := by decide +kernel
theorem dX2_giveBack_26 : decode cX2_giveBack 26 = .ok (.lload 4, 2) := by decide +kernel
theorem dX2_giveBack_28 : decode cX2_giveBack 28 = .ok (.aload 8, 2) := by decide +kernel
theorem dX2_giveBack_30 : decode cX2_giveBack 30 = .ok (.getfield 29, 3) := by decide +kernel
theorem dX2_giveBack_33 : decode cX2_giveBack 33 = .ok (.invokestatic 32, 3) := by decide +kernel
theorem dX2_giveBack_36 : decode cX2_giveBack 36 = .ok (.lstore 9, 2) := by decide +kernel
theorem dX2_giveBack_38 : decode cX2_giveBack 38 = .ok (.aload 8, 2) := by decide +kernel
theorem dX2_giveBack_40 : decode cX2_giveBack 40 = .ok (.dup, 1) := by decide +kernel
theorem dX2_giveBack_41 : decode cX2_giveBack 41 = .ok (.getfield 29, 3) := by decide +kernel
theorem dX2_giveBack_44 : decode cX2_giveBack 44 = .ok (.lload 9, 2) := by decide +kernel
theorem dX2_giveBack_46 : decode cX2_giveBack 46 = .ok (.lsub, 1) := by decide +kernel
theorem dX2_giveBack_47 : decode cX2_giveBack 47 = .ok (.putfield 29, 3) := by decide +kernel
theorem dX2_giveBack_50 : decode cX2_giveBack 50 = .ok (.lload 4, 2) := by decide +kernel
theorem dX2_giveBack_52 : decode cX2_giveBack 52 = .ok (.lload 9, 2) := by decide +kernel
theorem dX2_giveBack_54 : decode cX2_giveBack 54 = .ok (.lsub, 1) := by decide +kernel
theorem dX2_giveBack_55 : decode cX2_giveBack 55 = .ok (.lstore 4, 2) := by decide +kernel
theorem dX2_giveBack_57 : decode cX2_giveBack 57 = .ok (.lload 6, 2) := by decide +kernel
theorem dX2_giveBack_59 : decode cX2_giveBack 59 = .ok (.lload 9, 2) := by decide +kernel
theorem dX2_giveBack_61 : decode cX2_giveBack 61 = .ok (.aload 8, 2) := by decide +kernel
theorem dX2_giveBack_63 : decode cX2_giveBack 63 = .ok (.getfield 38, 3) := by decide +kernel
theorem dX2_giveBack_66 : decode cX2_giveBack 66 = .ok (.lmul, 1) := by decide +kernel
theorem dX2_giveBack_67 : decode cX2_giveBack 67 = .ok (.ladd, 1) := by decide +kernel
theorem dX2_giveBack_68 : decode cX2_giveBack 68 = .ok (.lstore 6, 2) := by decide +kernel
theorem dX2_giveBack_70 : decode cX2_giveBack 70 = .ok (.aload 8, 2) := by decide +kernel
theorem dX2_giveBack_72 : decode cX2_giveBack 72 = .ok (.getfield 16, 3) := by decide +kernel
theorem dX2_giveBack_75 : decode cX2_giveBack 75 = .ok (.astore 8, 2) := by decide +kernel
theorem dX2_giveBack_77 : decode cX2_giveBack 77 = .ok (.goto (-65), 3) := by decide +kernel
theorem dX2_giveBack_80 : decode cX2_giveBack 80 = .ok (.lload 6, 2) := by decide +kernel
theorem dX2_giveBack_82 : decode cX2_giveBack 82 = .ok (.lreturn, 1) := by decide +kernel
theorem dX2_layersInUse_0 : decode cX2_layersInUse 0 = .ok (.iconst 0, 1) := by decide +kernel
theorem dX2_layersInUse_1 : decode cX2_layersInUse 1 = .ok (.istore_n 1, 1) := by decide +kernel
theorem dX2_layersInUse_2 : decode cX2_layersInUse 2 = .ok (.aload_n 0, 1) := by decide +kernel
theorem dX2_layersInUse_3 : decode cX2_layersInUse 3 = .ok (.getfield 13, 3) := by decide +kernel
theorem dX2_layersInUse_6 : decode cX2_layersInUse 6 = .ok (.astore_n 2, 1) := by decide +kernel
theorem dX2_layersInUse_7 : decode cX2_layersInUse 7 = .ok (.aload_n 2, 1) := by decide +kernel
theorem dX2_layersInUse_8 : decode cX2_layersInUse 8 = .ok (.ifnull 23, 3) := by decide +kernel
theorem dX2_layersInUse_11 : decode cX2_layersInUse 11 = .ok (.aload_n 2, 1) := by decide +kernel
theorem dX2_layersInUse_12 : decode cX2_layersInUse 12 = .ok (.getfield 29, 3) := by decide +kernel
theorem dX2_layersInUse_15 : decode cX2_layersInUse 15 = .ok (.lconst 0, 1) := by decide +kernel
theorem dX2_layersInUse_16 : decode cX2_layersInUse 16 = .ok (.lcmp, 1) := by decide +kernel
theorem dX2_layersInUse_17 : decode cX2_layersInUse 17 = .ok (.ifCond .le 6, 3) := by decide +kernel
theorem dX2_layersInUse_20 : decode cX2_layersInUse 20 = .ok (.iinc 1 1, 3) := by decide +kernel
theorem dX2_layersInUse_23 : decode cX2_layersInUse 23 = .ok (.aload_n 2, 1) := by decide +kernel
theorem dX2_layersInUse_24 : decode cX2_layersInUse 24 = .ok (.getfield 16, 3) := by decide +kernel
theorem dX2_layersInUse_27 : decode cX2_layersInUse 27 = .ok (.astore_n 2, 1) := by decide +kernel
theorem dX2_layersInUse_28 : decode cX2_layersInUse 28 = .ok (.goto (-21), 3) := by decide +kernel
theorem dX2_layersInUse_31 : decode cX2_layersInUse 31 = .ok (.iload_n 1, 1) := by decide +kernel
theorem dX2_layersInUse_32 : decode cX2_layersInUse 32 = .ok (.ireturn, 1) := by decide +kernel
theorem dX3_init_0 : decode cX3_init 0 = .ok (.aload_n 0, 1) := by decide +kernel
theorem dX3_init_1 : decode cX3_init 1 = .ok (.invokespecial 1, 3) := by decide +kernel
theorem dX3_init_4 : decode cX3_init 4 = .ok (.aload_n 0, 1) := by decide +kernel
theorem dX3_init_5 : decode cX3_init 5 = .ok (.lload_n 1, 1) := by decide +kernel
theorem dX3_init_6 : decode cX3_init 6 = .ok (.putfield 7, 3) := by decide +kernel
theorem dX3_init_9 : decode cX3_init 9 = .ok (.aload_n 0, 1) := by decide +kernel
theorem dX3_init_10 : decode cX3_init 10 = .ok (.lload_n 3, 1) := by decide +kernel
theorem dX3_init_11 : decode cX3_init 11 = .ok (.putfield 13, 3) := by decide +kernel
theorem dX3_init_14 : decode cX3_init 14 = .ok (.aload_n 0, 1) := by decide +kernel
theorem dX3_init_15 : decode cX3_init 15 = .ok (.aload 5, 2) := by decide +kernel
theorem dX3_init_17 : decode cX3_init 17 = .ok (.putfield 16, 3) := by decide +kernel
theorem dX3_init_20 : decode cX3_init 20 = .ok (.return_, 1) := by decide +kernel
theorem dX4_init_0 : decode cX4_init 0 = .ok (.aload_n 0, 1) := by decide +kernel
theorem dX4_init_1 : decode cX4_init 1 = .ok (.invokespecial 1, 3) := by decide +kernel
theorem dX4_init_4 : decode cX4_init 4 = .ok (.aload_n 0, 1) := by decide +kernel
theorem dX4_init_5 : decode cX4_init 5 = .ok (.lload_n 1, 1) := by decide +kernel
theorem dX4_init_6 : decode cX4_init 6 = .ok (.putfield 7, 3) := by decide +kernel
theorem dX4_init_9 : decode cX4_init 9 = .ok (.aload_n 0, 1) := by decide +kernel
theorem dX4_init_10 : decode cX4_init 10 = .ok (.lload_n 3, 1) := by decide +kernel
theorem dX4_init_11 : decode cX4_init 11 = .ok (.putfield 13, 3) := by decide +kernel
theorem dX4_init_14 : decode cX4_init 14 = .ok (.aload_n 0, 1) := by decide +kernel
theorem dX4_init_15 : decode cX4_init 15 = .ok (.aload 5, 2) := by decide +kernel
theorem dX4_init_17 : decode cX4_init 17 = .ok (.putfield 16, 3) := by decide +kernel
theorem dX4_init_20 : decode cX4_init 20 = .ok (.aload_n 0, 1) := by decide +kernel
theorem dX4_init_21 : decode cX4_init 21 = .ok (.aload 6, 2) := by decide +kernel
theorem dX4_init_23 : decode cX4_init 23 = .ok (.putfield 20, 3) := by decide +kernel
theorem dX4_init_26 : decode cX4_init 26 = .ok (.aload_n 0, 1) := by decide +kernel
theorem dX4_init_27 : decode cX4_init 27 = .ok (.aload 7, 2) := by decide +kernel
theorem dX4_init_29 : decode cX4_init 29 = .ok (.putfield 23, 3) := by decide +kernel
theorem dX4_init_32 : decode cX4_init 32 = .ok (.return_, 1) := by decide +kernel
theorem dX4_changeOf_0 : decode cX4_changeOf 0 = .ok (.aload_n 1, 1) := by decide +kernel
theorem dX4_changeOf_1 : decode cX4_changeOf 1 = .ok (.aload_n 0, 1) := by decide +kernel
theorem dX4_changeOf_2 : decode cX4_changeOf 2 = .ok (.getfield 16, 3) := by decide +kernel
theorem dX4_changeOf_5 : decode cX4_changeOf 5 = .ok (.if_acmp .ne 9, 3) := by decide +kernel
theorem dX4_changeOf_8 : decode cX4_changeOf 8 = .ok (.aload_n 0, 1) := by decide +kernel
theorem dX4_changeOf_9 : decode cX4_changeOf 9 = .ok (.getfield 13, 3) := by decide +kernel
theorem dX4_changeOf_12 : decode cX4_changeOf 12 = .ok (.lneg, 1) := by decide +kernel
theorem dX4_changeOf_13 : decode cX4_changeOf 13 = .ok (.lreturn, 1) := by decide +kernel
theorem dX4_changeOf_14 : decode cX4_changeOf 14 = .ok (.aload_n 1, 1) := by decide +kernel
theorem dX4_changeOf_15 : decode cX4_changeOf 15 = .ok (.aload_n 0, 1) := by decide +kernel
theorem dX4_changeOf_16 : decode cX4_changeOf 16 = .ok (.getfield 20, 3) := by decide +kernel
theorem dX4_changeOf_19 : decode cX4_changeOf 19 = .ok (.if_acmp .ne 10, 3) := by decide +kernel
theorem dX4_changeOf_22 : decode cX4_changeOf 22 = .ok (.aload_n 0, 1) := by decide +kernel
theorem dX4_changeOf_23 : decode cX4_changeOf 23 = .ok (.getfield 13, 3) := by decide +kernel
theorem dX4_changeOf_26 : decode cX4_changeOf 26 = .ok (.goto 4, 3) := by decide +kernel
theorem dX4_changeOf_29 : decode cX4_changeOf 29 = .ok (.lconst 0, 1) := by decide +kernel
theorem dX4_changeOf_30 : decode cX4_changeOf 30 = .ok (.lreturn, 1) := by decide +kernel
set_option maxRecDepth 20000 in
theorem ggX5_init_X2_init : GoodIn wsX5_init wsX2_init := goodIn_r _ [12, 13, 2, 3] (by decide +kernel) (by decide +kernel)
set_option maxRecDepth 20000 in
theorem gX5_init_X2_init_n9 : GoodIn wsX5_init (wsX2_init) := ggX5_init_X2_init
theorem dX5_init_0 : decode cX5_init 0 = .ok (.aload_n 0, 1) := by decide +kernel
theorem dX5_init_1 : decode cX5_init 1 = .ok (.invokespecial 1, 3) := by decide +kernel
theorem dX5_init_4 : decode cX5_init 4 = .ok (.aload_n 0, 1) := by decide +kernel
theorem dX5_init_5 : decode cX5_init 5 = .ok (.new 7, 3) := by decide +kernel
theorem dX5_init_8 : decode cX5_init 8 = .ok (.dup, 1) := by decide +kernel
theorem dX5_init_9 : decode cX5_init 9 = .ok (.invokespecial 9, 3) := by decide +kernel
theorem dX5_init_12 : decode cX5_init 12 = .ok (.putfield 10, 3) := by decide +kernel
theorem dX5_init_15 : decode cX5_init 15 = .ok (.aload_n 0, 1) := by decide +kernel
theorem dX5_init_16 : decode cX5_init 16 = .ok (.bipush 24, 2) := by decide +kernel
theorem dX5_init_18 : decode cX5_init 18 = .ok (.anewarray 7, 3) := by decide +kernel
theorem dX5_init_21 : decode cX5_init 21 = .ok (.putfield 16, 3) := by decide +kernel
theorem dX5_init_24 : decode cX5_init 24 = .ok (.aload_n 0, 1) := by decide +kernel
theorem dX5_init_25 : decode cX5_init 25 = .ok (.bipush 12, 2) := by decide +kernel
theorem dX5_init_27 : decode cX5_init 27 = .ok (.anewarray 20, 3) := by decide +kernel
theorem dX5_init_30 : decode cX5_init 30 = .ok (.putfield 22, 3) := by decide +kernel
theorem dX5_init_33 : decode cX5_init 33 = .ok (.aload_n 0, 1) := by decide +kernel
theorem dX5_init_34 : decode cX5_init 34 = .ok (.getfield 16, 3) := by decide +kernel
theorem dX5_init_37 : decode cX5_init 37 = .ok (.iconst 0, 1) := by decide +kernel
theorem dX5_init_38 : decode cX5_init 38 = .ok (.aload_n 0, 1) := by decide +kernel
theorem dX5_init_39 : decode cX5_init 39 = .ok (.getfield 10, 3) := by decide +kernel
theorem dX5_init_42 : decode cX5_init 42 = .ok (.aastore, 1) := by decide +kernel
theorem dX5_init_43 : decode cX5_init 43 = .ok (.return_, 1) := by decide +kernel
set_option maxRecDepth 20000 in
theorem ggX5_party_X2_init : GoodIn wsX5_party wsX2_init := goodIn_r _ [6, 7, 8, 9] (by decide +kernel) (by decide +kernel)
set_option maxRecDepth 20000 in
theorem gX5_party_X2_init_n9 : GoodIn wsX5_party (wsX2_init) := ggX5_party_X2_init
theorem dX5_party_0 : decode cX5_party 0 = .ok (.iconst 0, 1) := by decide +kernel
theorem dX5_party_1 : decode cX5_party 1 = .ok (.istore_n 1, 1) := by decide +kernel
theorem dX5_party_2 : decode cX5_party 2 = .ok (.iload_n 1, 1) := by decide +kernel
theorem dX5_party_3 : decode cX5_party 3 = .ok (.aload_n 0, 1) := by decide +kernel
theorem dX5_party_4 : decode cX5_party 4 = .ok (.getfield 16, 3) := by decide +kernel
theorem dX5_party_7 : decode cX5_party 7 = .ok (.arraylength, 1) := by decide +kernel
theorem dX5_party_8 : decode cX5_party 8 = .ok (.if_icmp .ge 33, 3) := by decide +kernel
theorem dX5_party_11 : decode cX5_party 11 = .ok (.aload_n 0, 1) := by decide +kernel
theorem dX5_party_12 : decode cX5_party 12 = .ok (.getfield 16, 3) := by decide +kernel
theorem dX5_party_15 : decode cX5_party 15 = .ok (.iload_n 1, 1) := by decide +kernel
theorem dX5_party_16 : decode cX5_party 16 = .ok (.aaload, 1) := by decide +kernel
theorem dX5_party_17 : decode cX5_party 17 = .ok (.ifnonnull 18, 3) := by decide +kernel
theorem dX5_party_20 : decode cX5_party 20 = .ok (.aload_n 0, 1) := by decide +kernel
theorem dX5_party_21 : decode cX5_party 21 = .ok (.getfield 16, 3) := by decide +kernel
theorem dX5_party_24 : decode cX5_party 24 = .ok (.iload_n 1, 1) := by decide +kernel
theorem dX5_party_25 : decode cX5_party 25 = .ok (.new 7, 3) := by decide +kernel
theorem dX5_party_28 : decode cX5_party 28 = .ok (.dup, 1) := by decide +kernel
theorem dX5_party_29 : decode cX5_party 29 = .ok (.invokespecial 9, 3) := by decide +kernel
theorem dX5_party_32 : decode cX5_party 32 = .ok (.aastore, 1) := by decide +kernel
theorem dX5_party_33 : decode cX5_party 33 = .ok (.iload_n 1, 1) := by decide +kernel
theorem dX5_party_34 : decode cX5_party 34 = .ok (.ireturn, 1) := by decide +kernel
theorem dX5_party_35 : decode cX5_party 35 = .ok (.iinc 1 1, 3) := by decide +kernel
theorem dX5_party_38 : decode cX5_party 38 = .ok (.goto (-36), 3) := by decide +kernel
theorem dX5_party_41 : decode cX5_party 41 = .ok (.bipush (-2), 2) := by decide +kernel
theorem dX5_party_43 : decode cX5_party 43 = .ok (.ireturn, 1) := by decide +kernel
set_option maxRecDepth 20000 in
theorem ggX5_kind_X0_init : GoodIn wsX5_kind wsX0_init := goodIn_r _ [6, 7, 8, 9] (by decide +kernel) (by decide +kernel)
set_option maxRecDepth 20000 in
theorem gX5_kind_X0_init_n26 : GoodIn wsX5_kind (wsX0_init) := ggX5_kind_X0_init
theorem dX5_kind_0 : decode cX5_kind 0 = .ok (.iconst 0, 1) := by decide +kernel
theorem dX5_kind_1 : decode cX5_kind 1 = .ok (.istore_n 1, 1) := by decide +kernel
theorem dX5_kind_2 : decode cX5_kind 2 = .ok (.iload_n 1, 1) := by decide +kernel
theorem dX5_kind_3 : decode cX5_kind 3 = .ok (.aload_n 0, 1) := by decide +kernel
theorem dX5_kind_4 : decode cX5_kind 4 = .ok (.getfield 22, 3) := by decide +kernel
theorem dX5_kind_7 : decode cX5_kind 7 = .ok (.arraylength, 1) := by decide +kernel
theorem dX5_kind_8 : decode cX5_kind 8 = .ok (.if_icmp .ge 33, 3) := by decide +kernel
theorem dX5_kind_11 : decode cX5_kind 11 = .ok (.aload_n 0, 1) := by decide +kernel
theorem dX5_kind_12 : decode cX5_kind 12 = .ok (.getfield 22, 3) := by decide +kernel
theorem dX5_kind_15 : decode cX5_kind 15 = .ok (.iload_n 1, 1) := by decide +kernel
theorem dX5_kind_16 : decode cX5_kind 16 = .ok (.aaload, 1) := by decide +kernel
theorem dX5_kind_17 : decode cX5_kind 17 = .ok (.ifnonnull 18, 3) := by decide +kernel
theorem dX5_kind_20 : decode cX5_kind 20 = .ok (.aload_n 0, 1) := by decide +kernel
theorem dX5_kind_21 : decode cX5_kind 21 = .ok (.getfield 22, 3) := by decide +kernel
theorem dX5_kind_24 : decode cX5_kind 24 = .ok (.iload_n 1, 1) := by decide +kernel
theorem dX5_kind_25 : decode cX5_kind 25 = .ok (.new 20, 3) := by decide +kernel
theorem dX5_kind_28 : decode cX5_kind 28 = .ok (.dup, 1) := by decide +kernel
theorem dX5_kind_29 : decode cX5_kind 29 = .ok (.invokespecial 26, 3) := by decide +kernel
theorem dX5_kind_32 : decode cX5_kind 32 = .ok (.aastore, 1) := by decide +kernel
theorem dX5_kind_33 : decode cX5_kind 33 = .ok (.iload_n 1, 1) := by decide +kernel
theorem dX5_kind_34 : decode cX5_kind 34 = .ok (.ireturn, 1) := by decide +kernel
theorem dX5_kind_35 : decode cX5_kind 35 = .ok (.iinc 1 1, 3) := by decide +kernel
theorem dX5_kind_38 : decode cX5_kind 38 = .ok (.goto (-36), 3) := by decide +kernel
theorem dX5_kind_41 : decode cX5_kind 41 = .ok (.bipush (-2), 2) := by decide +kernel
theorem dX5_kind_43 : decode cX5_kind 43 = .ok (.ireturn, 1) := by decide +kernel
set_option maxRecDepth 20000 in
theorem ggX5_price_X5_kindAt : GoodIn wsX5_price wsX5_kindAt := goodIn_r _ [6, 7, 29, 30, 31, 32, 33, 34] (by decide +kernel) (by decide +kernel)
set_option maxRecDepth 20000 in
theorem gX5_price_X5_kindAt : GoodIn wsX5_price (wsV RX5 27 RX5 yX5_kindAt wsX5_kindAt) := goodIn_app (goodIn_of _ (by decide +kernel)) ggX5_price_X5_kindAt
set_option maxRecDepth 20000 in
theorem ggX5_price_X5_isDay : GoodIn wsX5_price wsX5_isDay := goodIn_r _ [10, 1] (by decide +kernel) (by decide +kernel)
set_option maxRecDepth 20000 in
theorem gX5_price_X5_isDay : GoodIn wsX5_price (va_wsS RX5 31 yX5_isDay wsX5_isDay) := goodIn_app (goodIn_of _ (by decide +kernel)) ggX5_price_X5_isDay
set_option maxRecDepth 20000 in
theorem ggX5_price_X0_tellPrice : GoodIn wsX5_price wsX0_tellPrice := goodIn_r _ [15, 16, 17, 18, 19, 20, 21, 22, 23, 24, 25, 26, 27, 28, 35, 36, 37, 38, 39, 40] (by decide +kernel) (by decide +kernel)
set_option maxRecDepth 20000 in
theorem gX5_price_X0_tellPrice : GoodIn wsX5_price (wsV RX5 37 RX0 yX0_tellPrice wsX0_tellPrice) := goodIn_app (goodIn_of _ (by decide +kernel)) ggX5_price_X0_tellPrice
theorem dX5_price_0 : decode cX5_price 0 = .ok (.aload_n 0, 1) := by decide +kernel
theorem dX5_price_1 : decode cX5_price 1 = .ok (.iload_n 1, 1) := by decide +kernel
theorem dX5_price_2 : decode cX5_price 2 = .ok (.invokevirtual 27, 3) := by decide +kernel
theorem dX5_price_5 : decode cX5_price 5 = .ok (.astore 6, 2) := by decide +kernel
theorem dX5_price_7 : decode cX5_price 7 = .ok (.aload 6, 2) := by decide +kernel
theorem dX5_price_9 : decode cX5_price 9 = .ok (.ifnull 26, 3) := by decide +kernel
theorem dX5_price_12 : decode cX5_price 12 = .ok (.lload_n 2, 1) := by decide +kernel
theorem dX5_price_13 : decode cX5_price 13 = .ok (.invokestatic 31, 3) := by decide +kernel
theorem dX5_price_16 : decode cX5_price 16 = .ok (.ifCond .eq 19, 3) := by decide +kernel
theorem dX5_price_19 : decode cX5_price 19 = .ok (.lload 4, 2) := by decide +kernel
theorem dX5_price_21 : decode cX5_price 21 = .ok (.lconst 0, 1) := by decide +kernel
theorem dX5_price_22 : decode cX5_price 22 = .ok (.lcmp, 1) := by decide +kernel
theorem dX5_price_23 : decode cX5_price 23 = .ok (.ifCond .lt 12, 3) := by decide +kernel
theorem dX5_price_26 : decode cX5_price 26 = .ok (.lload 4, 2) := by decide +kernel
theorem dX5_price_28 : decode cX5_price 28 = .ok (.ldc2_w 35, 3) := by decide +kernel
theorem dX5_price_31 : decode cX5_price 31 = .ok (.lcmp, 1) := by decide +kernel
theorem dX5_price_32 : decode cX5_price 32 = .ok (.ifCond .le 5, 3) := by decide +kernel
theorem dX5_price_35 : decode cX5_price 35 = .ok (.iconst 0, 1) := by decide +kernel
theorem dX5_price_36 : decode cX5_price 36 = .ok (.ireturn, 1) := by decide +kernel
theorem dX5_price_37 : decode cX5_price 37 = .ok (.aload 6, 2) := by decide +kernel
theorem dX5_price_39 : decode cX5_price 39 = .ok (.lload_n 2, 1) := by decide +kernel
theorem dX5_price_40 : decode cX5_price 40 = .ok (.lload 4, 2) := by decide +kernel
theorem dX5_price_42 : decode cX5_price 42 = .ok (.invokevirtual 37, 3) := by decide +kernel
theorem dX5_price_45 : decode cX5_price 45 = .ok (.ireturn, 1) := by decide +kernel
set_option maxRecDepth 20000 in
theorem ggX5_out_X5_customerAt : GoodIn wsX5_out wsX5_customerAt := goodIn_r _ [9, 10, 11, 12, 8, 13, 14, 87, 88, 89, 90, 91, 92] (by decide +kernel) (by decide +kernel)
set_option maxRecDepth 20000 in
theorem gX5_out_X5_customerAt : GoodIn wsX5_out (wsV RX5 41 RX5 yX5_customerAt wsX5_customerAt) := goodIn_app (goodIn_of _ (by decide +kernel)) ggX5_out_X5_customerAt
set_option maxRecDepth 20000 in
theorem ggX5_out_X5_kindAt : GoodIn wsX5_out wsX5_kindAt := goodIn_r _ [18, 19, 87, 88, 89, 90, 91, 92] (by decide +kernel) (by decide +kernel)
set_option maxRecDepth 20000 in
theorem gX5_out_X5_kindAt : GoodIn wsX5_out (wsV RX5 27 RX5 yX5_kindAt wsX5_kindAt) := goodIn_app (goodIn_of _ (by decide +kernel)) ggX5_out_X5_kindAt
set_option maxRecDepth 20000 in
theorem ggX5_out_X5_isNumber : GoodIn wsX5_out wsX5_isNumber := goodIn_r _ [22, 23] (by decide +kernel) (by decide +kernel)
set_option maxRecDepth 20000 in
theorem gX5_out_X5_isNumber : GoodIn wsX5_out (va_wsS RX5 45 yX5_isNumber wsX5_isNumber) := goodIn_app (goodIn_of _ (by decide +kernel)) ggX5_out_X5_isNumber
set_option maxRecDepth 20000 in
theorem ggX5_out_X5_mayMoveOn : GoodIn wsX5_out wsX5_mayMoveOn := goodIn_r _ [27, 28, 29, 30, 31, 8, 32, 23, 87, 88, 89, 90, 91, 92] (by decide +kernel) (by decide +kernel)
set_option maxRecDepth 20000 in
theorem gX5_out_X5_mayMoveOn : GoodIn wsX5_out (wsV RX5 48 RX5 yX5_mayMoveOn wsX5_mayMoveOn) := goodIn_app (goodIn_of _ (by decide +kernel)) ggX5_out_X5_mayMoveOn
set_option maxRecDepth 20000 in
theorem ggX5_out_X5_layersInUse : GoodIn wsX5_out wsX5_layersInUse := goodIn_r _ [36, 14, 37, 38, 39, 40, 41, 42, 87, 88, 89, 90, 91, 92, 93, 94, 82, 83, 84, 85, 86] (by decide +kernel) (by decide +kernel)
set_option maxRecDepth 20000 in
theorem gX5_out_X5_layersInUse : GoodIn wsX5_out (wsV RX5 51 RX5 yX5_layersInUse wsX5_layersInUse) := goodIn_app (goodIn_of _ (by decide +kernel)) ggX5_out_X5_layersInUse
set_option maxRecDepth 20000 in
theorem ggX5_out_X0_priceOn : GoodIn wsX5_out wsX0_priceOn := goodIn_r _ [47, 48, 49, 95, 96, 97, 98, 99, 100] (by decide +kernel) (by decide +kernel)
set_option maxRecDepth 20000 in
theorem gX5_out_X0_priceOn : GoodIn wsX5_out (wsV RX5 55 RX0 yX0_priceOn wsX0_priceOn) := goodIn_app (goodIn_of _ (by decide +kernel)) ggX5_out_X0_priceOn
set_option maxRecDepth 20000 in
theorem ggX5_out_X1_init : GoodIn wsX5_out wsX1_init := goodIn_r _ [52, 53, 54, 55, 56, 57, 58, 59, 82, 83, 84, 85, 86] (by decide +kernel) (by decide +kernel)
set_option maxRecDepth 20000 in
theorem gX5_out_X1_init : GoodIn wsX5_out (wsX1_init) := ggX5_out_X1_init
set_option maxRecDepth 20000 in
theorem ggX5_out_X2_addLayer : GoodIn wsX5_out wsX2_addLayer := goodIn_r _ [63, 64, 42, 93, 94, 82, 83, 84, 85, 86] (by decide +kernel) (by decide +kernel)
set_option maxRecDepth 20000 in
theorem gX5_out_X2_addLayer : GoodIn wsX5_out (wsV RX5 64 RX2 yX2_addLayer wsX2_addLayer) := goodIn_app (goodIn_of _ (by decide +kernel)) ggX5_out_X2_addLayer
set_option maxRecDepth 20000 in
theorem ggX5_out_X5_move : GoodIn wsX5_out wsX5_move := goodIn_r _ [68, 69, 70, 71, 72, 29, 28, 73, 74, 75, 76, 54, 55, 77, 78, 79, 80, 81, 101, 102, 103, 104, 105, 87, 88, 89, 90, 91, 92] (by decide +kernel) (by decide +kernel)
set_option maxRecDepth 20000 in
theorem gX5_out_X5_move : GoodIn wsX5_out (wsV RX5 68 RX5 yX5_move wsX5_move) := goodIn_app (goodIn_of _ (by decide +kernel)) ggX5_out_X5_move
theorem dX5_out_0 : decode cX5_out 0 = .ok (.aload_n 0, 1) := by decide +kernel
theorem dX5_out_1 : decode cX5_out 1 = .ok (.iload_n 1, 1) := by decide +kernel
theorem dX5_out_2 : decode cX5_out 2 = .ok (.invokevirtual 41, 3) := by decide +kernel
theorem dX5_out_5 : decode cX5_out 5 = .ok (.astore 7, 2) := by decide +kernel
theorem dX5_out_7 : decode cX5_out 7 = .ok (.aload_n 0, 1) := by decide +kernel
theorem dX5_out_8 : decode cX5_out 8 = .ok (.iload_n 2, 1) := by decide +kernel
theorem dX5_out_9 : decode cX5_out 9 = .ok (.invokevirtual 27, 3) := by decide +kernel
theorem dX5_out_12 : decode cX5_out 12 = .ok (.astore 8, 2) := by decide +kernel
theorem dX5_out_14 : decode cX5_out 14 = .ok (.aload 7, 2) := by decide +kernel
theorem dX5_out_16 : decode cX5_out 16 = .ok (.ifnull 34, 3) := by decide +kernel
theorem dX5_out_19 : decode cX5_out 19 = .ok (.aload 8, 2) := by decide +kernel
theorem dX5_out_21 : decode cX5_out 21 = .ok (.ifnull 29, 3) := by decide +kernel
theorem dX5_out_24 : decode cX5_out 24 = .ok (.lload_n 3, 1) := by decide +kernel
theorem dX5_out_25 : decode cX5_out 25 = .ok (.invokestatic 45, 3) := by decide +kernel
theorem dX5_out_28 : decode cX5_out 28 = .ok (.ifCond .eq 22, 3) := by decide +kernel
theorem dX5_out_31 : decode cX5_out 31 = .ok (.aload_n 0, 1) := by decide +kernel
theorem dX5_out_32 : decode cX5_out 32 = .ok (.lload 5, 2) := by decide +kernel
theorem dX5_out_34 : decode cX5_out 34 = .ok (.invokevirtual 48, 3) := by decide +kernel
theorem dX5_out_37 : decode cX5_out 37 = .ok (.ifCond .eq 13, 3) := by decide +kernel
theorem dX5_out_40 : decode cX5_out 40 = .ok (.aload_n 0, 1) := by decide +kernel
theorem dX5_out_41 : decode cX5_out 41 = .ok (.invokevirtual 51, 3) := by decide +kernel
theorem dX5_out_44 : decode cX5_out 44 = .ok (.sipush 400, 3) := by decide +kernel
theorem dX5_out_47 : decode cX5_out 47 = .ok (.if_icmp .lt 5, 3) := by decide +kernel
theorem dX5_out_50 : decode cX5_out 50 = .ok (.iconst 0, 1) := by decide +kernel
theorem dX5_out_51 : decode cX5_out 51 = .ok (.ireturn, 1) := by decide +kernel
theorem dX5_out_52 : decode cX5_out 52 = .ok (.aload 8, 2) := by decide +kernel
theorem dX5_out_54 : decode cX5_out 54 = .ok (.lload 5, 2) := by decide +kernel
theorem dX5_out_56 : decode cX5_out 56 = .ok (.invokevirtual 55, 3) := by decide +kernel
theorem dX5_out_59 : decode cX5_out 59 = .ok (.lstore 9, 2) := by decide +kernel
theorem dX5_out_61 : decode cX5_out 61 = .ok (.aload 7, 2) := by decide +kernel
theorem dX5_out_63 : decode cX5_out 63 = .ok (.new 59, 3) := by decide +kernel
theorem dX5_out_66 : decode cX5_out 66 = .ok (.dup, 1) := by decide +kernel
theorem dX5_out_67 : decode cX5_out 67 = .ok (.aload 8, 2) := by decide +kernel
theorem dX5_out_69 : decode cX5_out 69 = .ok (.lload 5, 2) := by decide +kernel
theorem dX5_out_71 : decode cX5_out 71 = .ok (.lload_n 3, 1) := by decide +kernel
theorem dX5_out_72 : decode cX5_out 72 = .ok (.lload 9, 2) := by decide +kernel
theorem dX5_out_74 : decode cX5_out 74 = .ok (.invokespecial 61, 3) := by decide +kernel
theorem dX5_out_77 : decode cX5_out 77 = .ok (.invokevirtual 64, 3) := by decide +kernel
theorem dX5_out_80 : decode cX5_out 80 = .ok (.aload_n 0, 1) := by decide +kernel
theorem dX5_out_81 : decode cX5_out 81 = .ok (.lload 5, 2) := by decide +kernel
theorem dX5_out_83 : decode cX5_out 83 = .ok (.lload_n 3, 1) := by decide +kernel
theorem dX5_out_84 : decode cX5_out 84 = .ok (.lload 9, 2) := by decide +kernel
theorem dX5_out_86 : decode cX5_out 86 = .ok (.lmul, 1) := by decide +kernel
theorem dX5_out_87 : decode cX5_out 87 = .ok (.aload 7, 2) := by decide +kernel
theorem dX5_out_89 : decode cX5_out 89 = .ok (.aload_n 0, 1) := by decide +kernel
theorem dX5_out_90 : decode cX5_out 90 = .ok (.getfield 10, 3) := by decide +kernel
theorem dX5_out_93 : decode cX5_out 93 = .ok (.invokevirtual 68, 3) := by decide +kernel
theorem dX5_out_96 : decode cX5_out 96 = .ok (.iconst 1, 1) := by decide +kernel
theorem dX5_out_97 : decode cX5_out 97 = .ok (.ireturn, 1) := by decide +kernel
set_option maxRecDepth 20000 in
theorem ggX5_back_X5_customerAt : GoodIn wsX5_back wsX5_customerAt := goodIn_r _ [7, 8, 9, 10, 6, 11, 12, 63, 64, 65, 66, 67, 68] (by decide +kernel) (by decide +kernel)
set_option maxRecDepth 20000 in
theorem gX5_back_X5_customerAt : GoodIn wsX5_back (wsV RX5 41 RX5 yX5_customerAt wsX5_customerAt) := goodIn_app (goodIn_of _ (by decide +kernel)) ggX5_back_X5_customerAt
set_option maxRecDepth 20000 in
theorem ggX5_back_X5_kindAt : GoodIn wsX5_back wsX5_kindAt := goodIn_r _ [16, 17, 63, 64, 65, 66, 67, 68] (by decide +kernel) (by decide +kernel)
set_option maxRecDepth 20000 in
theorem gX5_back_X5_kindAt : GoodIn wsX5_back (wsV RX5 27 RX5 yX5_kindAt wsX5_kindAt) := goodIn_app (goodIn_of _ (by decide +kernel)) ggX5_back_X5_kindAt
set_option maxRecDepth 20000 in
theorem ggX5_back_X5_isNumber : GoodIn wsX5_back wsX5_isNumber := goodIn_r _ [20, 1] (by decide +kernel) (by decide +kernel)
set_option maxRecDepth 20000 in
theorem gX5_back_X5_isNumber : GoodIn wsX5_back (va_wsS RX5 45 yX5_isNumber wsX5_isNumber) := goodIn_app (goodIn_of _ (by decide +kernel)) ggX5_back_X5_isNumber
set_option maxRecDepth 20000 in
theorem ggX5_back_X5_mayMoveOn : GoodIn wsX5_back wsX5_mayMoveOn := goodIn_r _ [24, 25, 26, 27, 28, 6, 29, 1, 63, 64, 65, 66, 67, 68] (by decide +kernel) (by decide +kernel)
set_option maxRecDepth 20000 in
theorem gX5_back_X5_mayMoveOn : GoodIn wsX5_back (wsV RX5 48 RX5 yX5_mayMoveOn wsX5_mayMoveOn) := goodIn_app (goodIn_of _ (by decide +kernel)) ggX5_back_X5_mayMoveOn
set_option maxRecDepth 20000 in
theorem ggX5_back_X2_piecesUpTo : GoodIn wsX5_back wsX2_piecesUpTo := goodIn_r _ [34, 35, 69, 70, 71, 72, 73, 74, 75] (by decide +kernel) (by decide +kernel)
set_option maxRecDepth 20000 in
theorem gX5_back_X2_piecesUpTo : GoodIn wsX5_back (wsV RX5 72 RX2 yX2_piecesUpTo wsX2_piecesUpTo) := goodIn_app (goodIn_of _ (by decide +kernel)) ggX5_back_X2_piecesUpTo
set_option maxRecDepth 20000 in
theorem ggX5_back_X2_giveBack : GoodIn wsX5_back wsX2_giveBack := goodIn_r _ [39, 35, 40, 41, 42, 43, 69, 70, 71, 72, 73, 74, 75] (by decide +kernel) (by decide +kernel)
set_option maxRecDepth 20000 in
theorem gX5_back_X2_giveBack : GoodIn wsX5_back (wsV RX5 76 RX2 yX2_giveBack wsX2_giveBack) := goodIn_app (goodIn_of _ (by decide +kernel)) ggX5_back_X2_giveBack
set_option maxRecDepth 20000 in
theorem ggX5_back_X5_move : GoodIn wsX5_back wsX5_move := goodIn_r _ [47, 48, 49, 50, 51, 26, 25, 52, 53, 54, 55, 56, 57, 58, 59, 60, 61, 62, 76, 77, 78, 79, 80, 63, 64, 65, 66, 67, 68] (by decide +kernel) (by decide +kernel)
set_option maxRecDepth 20000 in
theorem gX5_back_X5_move : GoodIn wsX5_back (wsV RX5 68 RX5 yX5_move wsX5_move) := goodIn_app (goodIn_of _ (by decide +kernel)) ggX5_back_X5_move
theorem dX5_back_0 : decode cX5_back 0 = .ok (.aload_n 0, 1) := by decide +kernel
theorem dX5_back_1 : decode cX5_back 1 = .ok (.iload_n 1, 1) := by decide +kernel
theorem dX5_back_2 : decode cX5_back 2 = .ok (.invokevirtual 41, 3) := by decide +kernel
theorem dX5_back_5 : decode cX5_back 5 = .ok (.astore 7, 2) := by decide +kernel
theorem dX5_back_7 : decode cX5_back 7 = .ok (.aload_n 0, 1) := by decide +kernel
theorem dX5_back_8 : decode cX5_back 8 = .ok (.iload_n 2, 1) := by decide +kernel
theorem dX5_back_9 : decode cX5_back 9 = .ok (.invokevirtual 27, 3) := by decide +kernel
theorem dX5_back_12 : decode cX5_back 12 = .ok (.astore 8, 2) := by decide +kernel
theorem dX5_back_14 : decode cX5_back 14 = .ok (.aload 7, 2) := by decide +kernel
theorem dX5_back_16 : decode cX5_back 16 = .ok (.ifnull 39, 3) := by decide +kernel
theorem dX5_back_19 : decode cX5_back 19 = .ok (.aload 8, 2) := by decide +kernel
theorem dX5_back_21 : decode cX5_back 21 = .ok (.ifnull 34, 3) := by decide +kernel
theorem dX5_back_24 : decode cX5_back 24 = .ok (.lload_n 3, 1) := by decide +kernel
theorem dX5_back_25 : decode cX5_back 25 = .ok (.invokestatic 45, 3) := by decide +kernel
theorem dX5_back_28 : decode cX5_back 28 = .ok (.ifCond .eq 27, 3) := by decide +kernel
theorem dX5_back_31 : decode cX5_back 31 = .ok (.aload_n 0, 1) := by decide +kernel
theorem dX5_back_32 : decode cX5_back 32 = .ok (.lload 5, 2) := by decide +kernel
theorem dX5_back_34 : decode cX5_back 34 = .ok (.invokevirtual 48, 3) := by decide +kernel
theorem dX5_back_37 : decode cX5_back 37 = .ok (.ifCond .eq 18, 3) := by decide +kernel
theorem dX5_back_40 : decode cX5_back 40 = .ok (.aload 7, 2) := by decide +kernel
theorem dX5_back_42 : decode cX5_back 42 = .ok (.aload 8, 2) := by decide +kernel
theorem dX5_back_44 : decode cX5_back 44 = .ok (.ldc2_w 35, 3) := by decide +kernel
theorem dX5_back_47 : decode cX5_back 47 = .ok (.invokevirtual 72, 3) := by decide +kernel
theorem dX5_back_50 : decode cX5_back 50 = .ok (.lload_n 3, 1) := by decide +kernel
theorem dX5_back_51 : decode cX5_back 51 = .ok (.lcmp, 1) := by decide +kernel
theorem dX5_back_52 : decode cX5_back 52 = .ok (.ifCond .ge 5, 3) := by decide +kernel
theorem dX5_back_55 : decode cX5_back 55 = .ok (.iconst 0, 1) := by decide +kernel
theorem dX5_back_56 : decode cX5_back 56 = .ok (.ireturn, 1) := by decide +kernel
theorem dX5_back_57 : decode cX5_back 57 = .ok (.aload_n 0, 1) := by decide +kernel
theorem dX5_back_58 : decode cX5_back 58 = .ok (.lload 5, 2) := by decide +kernel
theorem dX5_back_60 : decode cX5_back 60 = .ok (.aload 7, 2) := by decide +kernel
theorem dX5_back_62 : decode cX5_back 62 = .ok (.aload 8, 2) := by decide +kernel
theorem dX5_back_64 : decode cX5_back 64 = .ok (.lload_n 3, 1) := by decide +kernel
theorem dX5_back_65 : decode cX5_back 65 = .ok (.invokevirtual 76, 3) := by decide +kernel
theorem dX5_back_68 : decode cX5_back 68 = .ok (.aload_n 0, 1) := by decide +kernel
theorem dX5_back_69 : decode cX5_back 69 = .ok (.getfield 10, 3) := by decide +kernel
theorem dX5_back_72 : decode cX5_back 72 = .ok (.aload 7, 2) := by decide +kernel
theorem dX5_back_74 : decode cX5_back 74 = .ok (.invokevirtual 68, 3) := by decide +kernel
theorem dX5_back_77 : decode cX5_back 77 = .ok (.iconst 1, 1) := by decide +kernel
theorem dX5_back_78 : decode cX5_back 78 = .ok (.ireturn, 1) := by decide +kernel
set_option maxRecDepth 20000 in
theorem ggX5_sampled_X5_customerAt : GoodIn wsX5_sampled wsX5_customerAt := goodIn_r _ [6, 7, 8, 9, 5, 10, 11, 79, 80, 81, 82, 83, 84] (by decide +kernel) (by decide +kernel)
set_option maxRecDepth 20000 in
theorem gX5_sampled_X5_customerAt : GoodIn wsX5_sampled (wsV RX5 41 RX5 yX5_customerAt wsX5_customerAt) := goodIn_app (goodIn_of _ (by decide +kernel)) ggX5_sampled_X5_customerAt
set_option maxRecDepth 20000 in
theorem ggX5_sampled_X5_isNumber : GoodIn wsX5_sampled wsX5_isNumber := goodIn_r _ [14, 15] (by decide +kernel) (by decide +kernel)
set_option maxRecDepth 20000 in
theorem gX5_sampled_X5_isNumber : GoodIn wsX5_sampled (va_wsS RX5 45 yX5_isNumber wsX5_isNumber) := goodIn_app (goodIn_of _ (by decide +kernel)) ggX5_sampled_X5_isNumber
set_option maxRecDepth 20000 in
theorem ggX5_sampled_X5_mayMoveOn : GoodIn wsX5_sampled wsX5_mayMoveOn := goodIn_r _ [19, 20, 21, 22, 23, 5, 24, 15, 79, 80, 81, 82, 83, 84] (by decide +kernel) (by decide +kernel)
set_option maxRecDepth 20000 in
theorem gX5_sampled_X5_mayMoveOn : GoodIn wsX5_sampled (wsV RX5 48 RX5 yX5_mayMoveOn wsX5_mayMoveOn) := goodIn_app (goodIn_of _ (by decide +kernel)) ggX5_sampled_X5_mayMoveOn
set_option maxRecDepth 20000 in
theorem ggX5_sampled_X5_sharesMakeOne : GoodIn wsX5_sampled wsX5_sharesMakeOne := goodIn_r _ [28, 29, 30, 79, 80, 81, 82, 83, 84, 85, 86, 87] (by decide +kernel) (by decide +kernel)
set_option maxRecDepth 20000 in
theorem gX5_sampled_X5_sharesMakeOne : GoodIn wsX5_sampled (wsV RX5 79 RX5 yX5_sharesMakeOne wsX5_sharesMakeOne) := goodIn_app (goodIn_of _ (by decide +kernel)) ggX5_sampled_X5_sharesMakeOne
set_option maxRecDepth 20000 in
theorem ggX5_sampled_X5_hasLot : GoodIn wsX5_sampled wsX5_hasLot := goodIn_r _ [34, 29, 15, 30, 35, 36, 37, 38, 39, 40, 41, 42, 43, 44, 45, 46, 47, 79, 80, 81, 82, 83, 84, 88, 89, 90, 91, 92, 93, 94, 85, 86, 87] (by decide +kernel) (by decide +kernel)
set_option maxRecDepth 20000 in
theorem gX5_sampled_X5_hasLot : GoodIn wsX5_sampled (wsV RX5 83 RX5 yX5_hasLot wsX5_hasLot) := goodIn_app (goodIn_of _ (by decide +kernel)) ggX5_sampled_X5_hasLot
set_option maxRecDepth 20000 in
theorem ggX5_sampled_X5_giveBackLot : GoodIn wsX5_sampled wsX5_giveBackLot := goodIn_r _ [51, 29, 30, 41, 42, 43, 44, 45, 46, 47, 52, 53, 54, 38, 55, 40, 56, 57, 58, 59, 79, 80, 81, 82, 83, 84, 85, 86, 87, 88, 89, 90, 91, 92, 93, 94] (by decide +kernel) (by decide +kernel)
set_option maxRecDepth 20000 in
theorem gX5_sampled_X5_giveBackLot : GoodIn wsX5_sampled (wsV RX5 87 RX5 yX5_giveBackLot wsX5_giveBackLot) := goodIn_app (goodIn_of _ (by decide +kernel)) ggX5_sampled_X5_giveBackLot
set_option maxRecDepth 20000 in
theorem ggX5_sampled_X5_move : GoodIn wsX5_sampled wsX5_move := goodIn_r _ [63, 64, 65, 66, 67, 21, 20, 68, 69, 70, 71, 72, 73, 74, 75, 76, 77, 78, 95, 96, 97, 98, 99, 79, 80, 81, 82, 83, 84] (by decide +kernel) (by decide +kernel)
set_option maxRecDepth 20000 in
theorem gX5_sampled_X5_move : GoodIn wsX5_sampled (wsV RX5 68 RX5 yX5_move wsX5_move) := goodIn_app (goodIn_of _ (by decide +kernel)) ggX5_sampled_X5_move
theorem dX5_sampled_0 : decode cX5_sampled 0 = .ok (.aload_n 0, 1) := by decide +kernel
theorem dX5_sampled_1 : decode cX5_sampled 1 = .ok (.iload_n 1, 1) := by decide +kernel
theorem dX5_sampled_2 : decode cX5_sampled 2 = .ok (.invokevirtual 41, 3) := by decide +kernel
theorem dX5_sampled_5 : decode cX5_sampled 5 = .ok (.astore 6, 2) := by decide +kernel
theorem dX5_sampled_7 : decode cX5_sampled 7 = .ok (.aload 6, 2) := by decide +kernel
theorem dX5_sampled_9 : decode cX5_sampled 9 = .ok (.ifnull 36, 3) := by decide +kernel
theorem dX5_sampled_12 : decode cX5_sampled 12 = .ok (.lload_n 2, 1) := by decide +kernel
theorem dX5_sampled_13 : decode cX5_sampled 13 = .ok (.invokestatic 45, 3) := by decide +kernel
theorem dX5_sampled_16 : decode cX5_sampled 16 = .ok (.ifCond .eq 29, 3) := by decide +kernel
theorem dX5_sampled_19 : decode cX5_sampled 19 = .ok (.aload_n 0, 1) := by decide +kernel
theorem dX5_sampled_20 : decode cX5_sampled 20 = .ok (.lload 4, 2) := by decide +kernel
theorem dX5_sampled_22 : decode cX5_sampled 22 = .ok (.invokevirtual 48, 3) := by decide +kernel
theorem dX5_sampled_25 : decode cX5_sampled 25 = .ok (.ifCond .eq 20, 3) := by decide +kernel
theorem dX5_sampled_28 : decode cX5_sampled 28 = .ok (.aload_n 0, 1) := by decide +kernel
theorem dX5_sampled_29 : decode cX5_sampled 29 = .ok (.invokevirtual 79, 3) := by decide +kernel
theorem dX5_sampled_32 : decode cX5_sampled 32 = .ok (.ifCond .eq 13, 3) := by decide +kernel
theorem dX5_sampled_35 : decode cX5_sampled 35 = .ok (.aload_n 0, 1) := by decide +kernel
theorem dX5_sampled_36 : decode cX5_sampled 36 = .ok (.aload 6, 2) := by decide +kernel
theorem dX5_sampled_38 : decode cX5_sampled 38 = .ok (.lload_n 2, 1) := by decide +kernel
theorem dX5_sampled_39 : decode cX5_sampled 39 = .ok (.invokevirtual 83, 3) := by decide +kernel
theorem dX5_sampled_42 : decode cX5_sampled 42 = .ok (.ifCond .ne 5, 3) := by decide +kernel
theorem dX5_sampled_45 : decode cX5_sampled 45 = .ok (.iconst 0, 1) := by decide +kernel
theorem dX5_sampled_46 : decode cX5_sampled 46 = .ok (.ireturn, 1) := by decide +kernel
theorem dX5_sampled_47 : decode cX5_sampled 47 = .ok (.aload_n 0, 1) := by decide +kernel
theorem dX5_sampled_48 : decode cX5_sampled 48 = .ok (.lload 4, 2) := by decide +kernel
theorem dX5_sampled_50 : decode cX5_sampled 50 = .ok (.aload_n 0, 1) := by decide +kernel
theorem dX5_sampled_51 : decode cX5_sampled 51 = .ok (.aload 6, 2) := by decide +kernel
theorem dX5_sampled_53 : decode cX5_sampled 53 = .ok (.lload_n 2, 1) := by decide +kernel
theorem dX5_sampled_54 : decode cX5_sampled 54 = .ok (.invokevirtual 87, 3) := by decide +kernel
theorem dX5_sampled_57 : decode cX5_sampled 57 = .ok (.aload_n 0, 1) := by decide +kernel
theorem dX5_sampled_58 : decode cX5_sampled 58 = .ok (.getfield 10, 3) := by decide +kernel
theorem dX5_sampled_61 : decode cX5_sampled 61 = .ok (.aload 6, 2) := by decide +kernel
theorem dX5_sampled_63 : decode cX5_sampled 63 = .ok (.invokevirtual 68, 3) := by decide +kernel
theorem dX5_sampled_66 : decode cX5_sampled 66 = .ok (.iconst 1, 1) := by decide +kernel
theorem dX5_sampled_67 : decode cX5_sampled 67 = .ok (.ireturn, 1) := by decide +kernel
set_option maxRecDepth 20000 in
theorem ggX5_share_X5_kindAt : GoodIn wsX5_share wsX5_kindAt := goodIn_r _ [6, 7, 11, 12, 13, 14, 15, 16] (by decide +kernel) (by decide +kernel)
set_option maxRecDepth 20000 in
theorem gX5_share_X5_kindAt : GoodIn wsX5_share (wsV RX5 27 RX5 yX5_kindAt wsX5_kindAt) := goodIn_app (goodIn_of _ (by decide +kernel)) ggX5_share_X5_kindAt
theorem dX5_share_0 : decode cX5_share 0 = .ok (.aload_n 0, 1) := by decide +kernel
theorem dX5_share_1 : decode cX5_share 1 = .ok (.iload_n 1, 1) := by decide +kernel
theorem dX5_share_2 : decode cX5_share 2 = .ok (.invokevirtual 27, 3) := by decide +kernel
theorem dX5_share_5 : decode cX5_share 5 = .ok (.astore 6, 2) := by decide +kernel
theorem dX5_share_7 : decode cX5_share 7 = .ok (.aload 6, 2) := by decide +kernel
theorem dX5_share_9 : decode cX5_share 9 = .ok (.ifnull 45, 3) := by decide +kernel
theorem dX5_share_12 : decode cX5_share 12 = .ok (.lload 4, 2) := by decide +kernel
theorem dX5_share_14 : decode cX5_share 14 = .ok (.lconst 1, 1) := by decide +kernel
theorem dX5_share_15 : decode cX5_share 15 = .ok (.lcmp, 1) := by decide +kernel
theorem dX5_share_16 : decode cX5_share 16 = .ok (.ifCond .lt 38, 3) := by decide +kernel
theorem dX5_share_19 : decode cX5_share 19 = .ok (.lload 4, 2) := by decide +kernel
theorem dX5_share_21 : decode cX5_share 21 = .ok (.ldc2_w 91, 3) := by decide +kernel
theorem dX5_share_24 : decode cX5_share 24 = .ok (.lcmp, 1) := by decide +kernel
theorem dX5_share_25 : decode cX5_share 25 = .ok (.ifCond .gt 29, 3) := by decide +kernel
theorem dX5_share_28 : decode cX5_share 28 = .ok (.lload_n 2, 1) := by decide +kernel
theorem dX5_share_29 : decode cX5_share 29 = .ok (.lconst 0, 1) := by decide +kernel
theorem dX5_share_30 : decode cX5_share 30 = .ok (.lcmp, 1) := by decide +kernel
theorem dX5_share_31 : decode cX5_share 31 = .ok (.ifCond .lt 23, 3) := by decide +kernel
theorem dX5_share_34 : decode cX5_share 34 = .ok (.lload_n 2, 1) := by decide +kernel
theorem dX5_share_35 : decode cX5_share 35 = .ok (.lload 4, 2) := by decide +kernel
theorem dX5_share_37 : decode cX5_share 37 = .ok (.lcmp, 1) := by decide +kernel
theorem dX5_share_38 : decode cX5_share 38 = .ok (.ifCond .gt 16, 3) := by decide +kernel
theorem dX5_share_41 : decode cX5_share 41 = .ok (.lload_n 2, 1) := by decide +kernel
theorem dX5_share_42 : decode cX5_share 42 = .ok (.ldc2_w 91, 3) := by decide +kernel
theorem dX5_share_45 : decode cX5_share 45 = .ok (.lmul, 1) := by decide +kernel
theorem dX5_share_46 : decode cX5_share 46 = .ok (.lload 4, 2) := by decide +kernel
theorem dX5_share_48 : decode cX5_share 48 = .ok (.lrem, 1) := by decide +kernel
theorem dX5_share_49 : decode cX5_share 49 = .ok (.lconst 0, 1) := by decide +kernel
theorem dX5_share_50 : decode cX5_share 50 = .ok (.lcmp, 1) := by decide +kernel
theorem dX5_share_51 : decode cX5_share 51 = .ok (.ifCond .eq 5, 3) := by decide +kernel
theorem dX5_share_54 : decode cX5_share 54 = .ok (.iconst 0, 1) := by decide +kernel
theorem dX5_share_55 : decode cX5_share 55 = .ok (.ireturn, 1) := by decide +kernel
theorem dX5_share_56 : decode cX5_share 56 = .ok (.aload 6, 2) := by decide +kernel
theorem dX5_share_58 : decode cX5_share 58 = .ok (.lload_n 2, 1) := by decide +kernel
theorem dX5_share_59 : decode cX5_share 59 = .ok (.ldc2_w 91, 3) := by decide +kernel
theorem dX5_share_62 : decode cX5_share 62 = .ok (.lmul, 1) := by decide +kernel
theorem dX5_share_63 : decode cX5_share 63 = .ok (.lload 4, 2) := by decide +kernel
theorem dX5_share_65 : decode cX5_share 65 = .ok (.ldiv, 1) := by decide +kernel
theorem dX5_share_66 : decode cX5_share 66 = .ok (.putfield 93, 3) := by decide +kernel
theorem dX5_share_69 : decode cX5_share 69 = .ok (.iconst 1, 1) := by decide +kernel
theorem dX5_share_70 : decode cX5_share 70 = .ok (.ireturn, 1) := by decide +kernel
set_option maxRecDepth 20000 in
theorem ggX5_balance_X5_partyAt : GoodIn wsX5_balance wsX5_partyAt := goodIn_r _ [5, 6, 20, 21, 22, 23, 24, 25] (by decide +kernel) (by decide +kernel)
set_option maxRecDepth 20000 in
theorem gX5_balance_X5_partyAt : GoodIn wsX5_balance (wsV RX5 97 RX5 yX5_partyAt wsX5_partyAt) := goodIn_app (goodIn_of _ (by decide +kernel)) ggX5_balance_X5_partyAt
set_option maxRecDepth 20000 in
theorem ggX5_balance_X5_balanceOf : GoodIn wsX5_balance wsX5_balanceOf := goodIn_r _ [10, 11, 12, 13, 14, 15, 16, 17, 18, 19, 20, 21, 22, 23, 24, 25, 26, 27, 28, 29, 30] (by decide +kernel) (by decide +kernel)
set_option maxRecDepth 20000 in
theorem gX5_balance_X5_balanceOf : GoodIn wsX5_balance (wsV RX5 100 RX5 yX5_balanceOf wsX5_balanceOf) := goodIn_app (goodIn_of _ (by decide +kernel)) ggX5_balance_X5_balanceOf
theorem dX5_balance_0 : decode cX5_balance 0 = .ok (.aload_n 0, 1) := by decide +kernel
theorem dX5_balance_1 : decode cX5_balance 1 = .ok (.iload_n 1, 1) := by decide +kernel
theorem dX5_balance_2 : decode cX5_balance 2 = .ok (.invokevirtual 97, 3) := by decide +kernel
theorem dX5_balance_5 : decode cX5_balance 5 = .ok (.astore 4, 2) := by decide +kernel
theorem dX5_balance_7 : decode cX5_balance 7 = .ok (.aload 4, 2) := by decide +kernel
theorem dX5_balance_9 : decode cX5_balance 9 = .ok (.ifnonnull 7, 3) := by decide +kernel
theorem dX5_balance_12 : decode cX5_balance 12 = .ok (.lconst 0, 1) := by decide +kernel
theorem dX5_balance_13 : decode cX5_balance 13 = .ok (.goto 10, 3) := by decide +kernel
theorem dX5_balance_16 : decode cX5_balance 16 = .ok (.aload_n 0, 1) := by decide +kernel
theorem dX5_balance_17 : decode cX5_balance 17 = .ok (.aload 4, 2) := by decide +kernel
theorem dX5_balance_19 : decode cX5_balance 19 = .ok (.lload_n 2, 1) := by decide +kernel
theorem dX5_balance_20 : decode cX5_balance 20 = .ok (.invokevirtual 100, 3) := by decide +kernel
theorem dX5_balance_23 : decode cX5_balance 23 = .ok (.lreturn, 1) := by decide +kernel
set_option maxRecDepth 20000 in
theorem ggX5_count_X5_partyAt : GoodIn wsX5_count wsX5_partyAt := goodIn_r _ [7, 8, 20, 21, 22, 23, 24, 25] (by decide +kernel) (by decide +kernel)
set_option maxRecDepth 20000 in
theorem gX5_count_X5_partyAt : GoodIn wsX5_count (wsV RX5 97 RX5 yX5_partyAt wsX5_partyAt) := goodIn_app (goodIn_of _ (by decide +kernel)) ggX5_count_X5_partyAt
set_option maxRecDepth 20000 in
theorem ggX5_count_X5_kindAt : GoodIn wsX5_count wsX5_kindAt := goodIn_r _ [12, 13, 20, 21, 22, 23, 24, 25] (by decide +kernel) (by decide +kernel)
set_option maxRecDepth 20000 in
theorem gX5_count_X5_kindAt : GoodIn wsX5_count (wsV RX5 27 RX5 yX5_kindAt wsX5_kindAt) := goodIn_app (goodIn_of _ (by decide +kernel)) ggX5_count_X5_kindAt
set_option maxRecDepth 20000 in
theorem ggX5_count_X2_piecesUpTo : GoodIn wsX5_count wsX2_piecesUpTo := goodIn_r _ [18, 19, 26, 27, 28, 29, 30, 31, 32] (by decide +kernel) (by decide +kernel)
set_option maxRecDepth 20000 in
theorem gX5_count_X2_piecesUpTo : GoodIn wsX5_count (wsV RX5 72 RX2 yX2_piecesUpTo wsX2_piecesUpTo) := goodIn_app (goodIn_of _ (by decide +kernel)) ggX5_count_X2_piecesUpTo
theorem dX5_count_0 : decode cX5_count 0 = .ok (.aload_n 0, 1) := by decide +kernel
theorem dX5_count_1 : decode cX5_count 1 = .ok (.iload_n 1, 1) := by decide +kernel
theorem dX5_count_2 : decode cX5_count 2 = .ok (.invokevirtual 97, 3) := by decide +kernel
theorem dX5_count_5 : decode cX5_count 5 = .ok (.astore_n 3, 1) := by decide +kernel
theorem dX5_count_6 : decode cX5_count 6 = .ok (.aload_n 0, 1) := by decide +kernel
theorem dX5_count_7 : decode cX5_count 7 = .ok (.iload_n 2, 1) := by decide +kernel
theorem dX5_count_8 : decode cX5_count 8 = .ok (.invokevirtual 27, 3) := by decide +kernel
theorem dX5_count_11 : decode cX5_count 11 = .ok (.astore 4, 2) := by decide +kernel
theorem dX5_count_13 : decode cX5_count 13 = .ok (.aload_n 3, 1) := by decide +kernel
theorem dX5_count_14 : decode cX5_count 14 = .ok (.ifnull 8, 3) := by decide +kernel
theorem dX5_count_17 : decode cX5_count 17 = .ok (.aload 4, 2) := by decide +kernel
theorem dX5_count_19 : decode cX5_count 19 = .ok (.ifnonnull 9, 3) := by decide +kernel
theorem dX5_count_22 : decode cX5_count 22 = .ok (.ldc2_w 103, 3) := by decide +kernel
theorem dX5_count_25 : decode cX5_count 25 = .ok (.goto 12, 3) := by decide +kernel
theorem dX5_count_28 : decode cX5_count 28 = .ok (.aload_n 3, 1) := by decide +kernel
theorem dX5_count_29 : decode cX5_count 29 = .ok (.aload 4, 2) := by decide +kernel
theorem dX5_count_31 : decode cX5_count 31 = .ok (.ldc2_w 35, 3) := by decide +kernel
theorem dX5_count_34 : decode cX5_count 34 = .ok (.invokevirtual 72, 3) := by decide +kernel
theorem dX5_count_37 : decode cX5_count 37 = .ok (.lreturn, 1) := by decide +kernel
set_option maxRecDepth 20000 in
theorem ggX5_lost_X5_kindAt : GoodIn wsX5_lost wsX5_kindAt := goodIn_r _ [9, 10, 17, 18, 19, 20, 21, 22] (by decide +kernel) (by decide +kernel)
set_option maxRecDepth 20000 in
theorem gX5_lost_X5_kindAt : GoodIn wsX5_lost (wsV RX5 27 RX5 yX5_kindAt wsX5_kindAt) := goodIn_app (goodIn_of _ (by decide +kernel)) ggX5_lost_X5_kindAt
set_option maxRecDepth 20000 in
theorem ggX5_lost_X2_piecesUpTo : GoodIn wsX5_lost wsX2_piecesUpTo := goodIn_r _ [15, 16, 23, 24, 25, 26, 27, 28, 29] (by decide +kernel) (by decide +kernel)
set_option maxRecDepth 20000 in
theorem gX5_lost_X2_piecesUpTo : GoodIn wsX5_lost (wsV RX5 72 RX2 yX2_piecesUpTo wsX2_piecesUpTo) := goodIn_app (goodIn_of _ (by decide +kernel)) ggX5_lost_X2_piecesUpTo
theorem dX5_lost_0 : decode cX5_lost 0 = .ok (.aload_n 0, 1) := by decide +kernel
theorem dX5_lost_1 : decode cX5_lost 1 = .ok (.iload_n 1, 1) := by decide +kernel
theorem dX5_lost_2 : decode cX5_lost 2 = .ok (.invokevirtual 27, 3) := by decide +kernel
theorem dX5_lost_5 : decode cX5_lost 5 = .ok (.astore_n 3, 1) := by decide +kernel
theorem dX5_lost_6 : decode cX5_lost 6 = .ok (.aload_n 3, 1) := by decide +kernel
theorem dX5_lost_7 : decode cX5_lost 7 = .ok (.ifnull 7, 3) := by decide +kernel
theorem dX5_lost_10 : decode cX5_lost 10 = .ok (.iload_n 2, 1) := by decide +kernel
theorem dX5_lost_11 : decode cX5_lost 11 = .ok (.ifCond .ge 7, 3) := by decide +kernel
theorem dX5_lost_14 : decode cX5_lost 14 = .ok (.ldc2_w 103, 3) := by decide +kernel
theorem dX5_lost_17 : decode cX5_lost 17 = .ok (.lreturn, 1) := by decide +kernel
theorem dX5_lost_18 : decode cX5_lost 18 = .ok (.aload_n 0, 1) := by decide +kernel
theorem dX5_lost_19 : decode cX5_lost 19 = .ok (.getfield 105, 3) := by decide +kernel
theorem dX5_lost_22 : decode cX5_lost 22 = .ok (.iload_n 2, 1) := by decide +kernel
theorem dX5_lost_23 : decode cX5_lost 23 = .ok (.i2l, 1) := by decide +kernel
theorem dX5_lost_24 : decode cX5_lost 24 = .ok (.ldc2_w 108, 3) := by decide +kernel
theorem dX5_lost_27 : decode cX5_lost 27 = .ok (.lmul, 1) := by decide +kernel
theorem dX5_lost_28 : decode cX5_lost 28 = .ok (.lsub, 1) := by decide +kernel
theorem dX5_lost_29 : decode cX5_lost 29 = .ok (.lstore 4, 2) := by decide +kernel
theorem dX5_lost_31 : decode cX5_lost 31 = .ok (.lconst 0, 1) := by decide +kernel
theorem dX5_lost_32 : decode cX5_lost 32 = .ok (.lstore 6, 2) := by decide +kernel
theorem dX5_lost_34 : decode cX5_lost 34 = .ok (.iconst 0, 1) := by decide +kernel
theorem dX5_lost_35 : decode cX5_lost 35 = .ok (.istore 8, 2) := by decide +kernel
theorem dX5_lost_37 : decode cX5_lost 37 = .ok (.iload 8, 2) := by decide +kernel
theorem dX5_lost_39 : decode cX5_lost 39 = .ok (.aload_n 0, 1) := by decide +kernel
theorem dX5_lost_40 : decode cX5_lost 40 = .ok (.getfield 16, 3) := by decide +kernel
theorem dX5_lost_43 : decode cX5_lost 43 = .ok (.arraylength, 1) := by decide +kernel
theorem dX5_lost_44 : decode cX5_lost 44 = .ok (.if_icmp .ge 36, 3) := by decide +kernel
theorem dX5_lost_47 : decode cX5_lost 47 = .ok (.aload_n 0, 1) := by decide +kernel
theorem dX5_lost_48 : decode cX5_lost 48 = .ok (.getfield 16, 3) := by decide +kernel
theorem dX5_lost_51 : decode cX5_lost 51 = .ok (.iload 8, 2) := by decide +kernel
theorem dX5_lost_53 : decode cX5_lost 53 = .ok (.aaload, 1) := by decide +kernel
theorem dX5_lost_54 : decode cX5_lost 54 = .ok (.astore 9, 2) := by decide +kernel
theorem dX5_lost_56 : decode cX5_lost 56 = .ok (.aload 9, 2) := by decide +kernel
theorem dX5_lost_58 : decode cX5_lost 58 = .ok (.ifnull 16, 3) := by decide +kernel
theorem dX5_lost_61 : decode cX5_lost 61 = .ok (.lload 6, 2) := by decide +kernel
theorem dX5_lost_63 : decode cX5_lost 63 = .ok (.aload 9, 2) := by decide +kernel
theorem dX5_lost_65 : decode cX5_lost 65 = .ok (.aload_n 3, 1) := by decide +kernel
theorem dX5_lost_66 : decode cX5_lost 66 = .ok (.lload 4, 2) := by decide +kernel
theorem dX5_lost_68 : decode cX5_lost 68 = .ok (.invokevirtual 72, 3) := by decide +kernel
theorem dX5_lost_71 : decode cX5_lost 71 = .ok (.ladd, 1) := by decide +kernel
theorem dX5_lost_72 : decode cX5_lost 72 = .ok (.lstore 6, 2) := by decide +kernel
theorem dX5_lost_74 : decode cX5_lost 74 = .ok (.iinc 8 1, 3) := by decide +kernel
theorem dX5_lost_77 : decode cX5_lost 77 = .ok (.goto (-40), 3) := by decide +kernel
theorem dX5_lost_80 : decode cX5_lost 80 = .ok (.lload 6, 2) := by decide +kernel
theorem dX5_lost_82 : decode cX5_lost 82 = .ok (.lreturn, 1) := by decide +kernel
set_option maxRecDepth 20000 in
theorem ggX5_settle_X5_customerAt : GoodIn wsX5_settle wsX5_customerAt := goodIn_r _ [11, 12, 13, 14, 10, 15, 16, 64, 65, 66, 67, 68, 69] (by decide +kernel) (by decide +kernel)
set_option maxRecDepth 20000 in
theorem gX5_settle_X5_customerAt : GoodIn wsX5_settle (wsV RX5 41 RX5 yX5_customerAt wsX5_customerAt) := goodIn_app (goodIn_of _ (by decide +kernel)) ggX5_settle_X5_customerAt
set_option maxRecDepth 20000 in
theorem ggX5_settle_X5_mayMoveOn : GoodIn wsX5_settle wsX5_mayMoveOn := goodIn_r _ [20, 21, 22, 23, 24, 10, 25, 26, 64, 65, 66, 67, 68, 69] (by decide +kernel) (by decide +kernel)
set_option maxRecDepth 20000 in
theorem gX5_settle_X5_mayMoveOn : GoodIn wsX5_settle (wsV RX5 48 RX5 yX5_mayMoveOn wsX5_mayMoveOn) := goodIn_app (goodIn_of _ (by decide +kernel)) ggX5_settle_X5_mayMoveOn
set_option maxRecDepth 20000 in
theorem ggX5_settle_X5_worthOf : GoodIn wsX5_settle wsX5_worthOf := goodIn_r _ [30, 31, 26, 32, 33, 34, 35, 36, 37, 38, 39, 40, 41, 42, 43, 44, 64, 65, 66, 67, 68, 69, 70, 71, 72, 73, 74, 75, 76, 77, 78, 79, 80, 81, 82] (by decide +kernel) (by decide +kernel)
set_option maxRecDepth 20000 in
theorem gX5_settle_X5_worthOf : GoodIn wsX5_settle (wsV RX5 110 RX5 yX5_worthOf wsX5_worthOf) := goodIn_app (goodIn_of _ (by decide +kernel)) ggX5_settle_X5_worthOf
set_option maxRecDepth 20000 in
theorem ggX5_settle_X5_move : GoodIn wsX5_settle wsX5_move := goodIn_r _ [48, 49, 50, 51, 52, 22, 21, 53, 54, 55, 56, 57, 58, 59, 60, 61, 62, 63, 83, 84, 85, 86, 87, 64, 65, 66, 67, 68, 69] (by decide +kernel) (by decide +kernel)
set_option maxRecDepth 20000 in
theorem gX5_settle_X5_move : GoodIn wsX5_settle (wsV RX5 68 RX5 yX5_move wsX5_move) := goodIn_app (goodIn_of _ (by decide +kernel)) ggX5_settle_X5_move
theorem dX5_settle_0 : decode cX5_settle 0 = .ok (.aload_n 0, 1) := by decide +kernel
theorem dX5_settle_1 : decode cX5_settle 1 = .ok (.iload_n 1, 1) := by decide +kernel
theorem dX5_settle_2 : decode cX5_settle 2 = .ok (.invokevirtual 41, 3) := by decide +kernel
theorem dX5_settle_5 : decode cX5_settle 5 = .ok (.astore 4, 2) := by decide +kernel
theorem dX5_settle_7 : decode cX5_settle 7 = .ok (.aload_n 0, 1) := by decide +kernel
theorem dX5_settle_8 : decode cX5_settle 8 = .ok (.iload_n 2, 1) := by decide +kernel
theorem dX5_settle_9 : decode cX5_settle 9 = .ok (.invokevirtual 41, 3) := by decide +kernel
theorem dX5_settle_12 : decode cX5_settle 12 = .ok (.astore 5, 2) := by decide +kernel
theorem dX5_settle_14 : decode cX5_settle 14 = .ok (.iload_n 3, 1) := by decide +kernel
theorem dX5_settle_15 : decode cX5_settle 15 = .ok (.i2l, 1) := by decide +kernel
theorem dX5_settle_16 : decode cX5_settle 16 = .ok (.ldc2_w 108, 3) := by decide +kernel
theorem dX5_settle_19 : decode cX5_settle 19 = .ok (.lmul, 1) := by decide +kernel
theorem dX5_settle_20 : decode cX5_settle 20 = .ok (.lstore 6, 2) := by decide +kernel
theorem dX5_settle_22 : decode cX5_settle 22 = .ok (.aload 4, 2) := by decide +kernel
theorem dX5_settle_24 : decode cX5_settle 24 = .ok (.ifnull 24, 3) := by decide +kernel
theorem dX5_settle_27 : decode cX5_settle 27 = .ok (.aload 5, 2) := by decide +kernel
theorem dX5_settle_29 : decode cX5_settle 29 = .ok (.ifnull 19, 3) := by decide +kernel
theorem dX5_settle_32 : decode cX5_settle 32 = .ok (.aload 4, 2) := by decide +kernel
theorem dX5_settle_34 : decode cX5_settle 34 = .ok (.aload 5, 2) := by decide +kernel
theorem dX5_settle_36 : decode cX5_settle 36 = .ok (.if_acmp .eq 12, 3) := by decide +kernel
theorem dX5_settle_39 : decode cX5_settle 39 = .ok (.aload_n 0, 1) := by decide +kernel
theorem dX5_settle_40 : decode cX5_settle 40 = .ok (.lload 6, 2) := by decide +kernel
theorem dX5_settle_42 : decode cX5_settle 42 = .ok (.invokevirtual 48, 3) := by decide +kernel
theorem dX5_settle_45 : decode cX5_settle 45 = .ok (.ifCond .ne 6, 3) := by decide +kernel
theorem dX5_settle_48 : decode cX5_settle 48 = .ok (.bipush (-2), 2) := by decide +kernel
theorem dX5_settle_50 : decode cX5_settle 50 = .ok (.ireturn, 1) := by decide +kernel
theorem dX5_settle_51 : decode cX5_settle 51 = .ok (.aload_n 0, 1) := by decide +kernel
theorem dX5_settle_52 : decode cX5_settle 52 = .ok (.aload 4, 2) := by decide +kernel
theorem dX5_settle_54 : decode cX5_settle 54 = .ok (.lload 6, 2) := by decide +kernel
theorem dX5_settle_56 : decode cX5_settle 56 = .ok (.invokevirtual 110, 3) := by decide +kernel
theorem dX5_settle_59 : decode cX5_settle 59 = .ok (.aload_n 0, 1) := by decide +kernel
theorem dX5_settle_60 : decode cX5_settle 60 = .ok (.aload 5, 2) := by decide +kernel
theorem dX5_settle_62 : decode cX5_settle 62 = .ok (.lload 6, 2) := by decide +kernel
theorem dX5_settle_64 : decode cX5_settle 64 = .ok (.invokevirtual 110, 3) := by decide +kernel
theorem dX5_settle_67 : decode cX5_settle 67 = .ok (.lsub, 1) := by decide +kernel
theorem dX5_settle_68 : decode cX5_settle 68 = .ok (.lstore 8, 2) := by decide +kernel
theorem dX5_settle_70 : decode cX5_settle 70 = .ok (.lload 8, 2) := by decide +kernel
theorem dX5_settle_72 : decode cX5_settle 72 = .ok (.lconst 0, 1) := by decide +kernel
theorem dX5_settle_73 : decode cX5_settle 73 = .ok (.lcmp, 1) := by decide +kernel
theorem dX5_settle_74 : decode cX5_settle 74 = .ok (.ifCond .le 7, 3) := by decide +kernel
theorem dX5_settle_77 : decode cX5_settle 77 = .ok (.iconst 1, 1) := by decide +kernel
theorem dX5_settle_78 : decode cX5_settle 78 = .ok (.goto 4, 3) := by decide +kernel
theorem dX5_settle_81 : decode cX5_settle 81 = .ok (.iconst 0, 1) := by decide +kernel
theorem dX5_settle_82 : decode cX5_settle 82 = .ok (.istore 10, 2) := by decide +kernel
theorem dX5_settle_84 : decode cX5_settle 84 = .ok (.lload 8, 2) := by decide +kernel
theorem dX5_settle_86 : decode cX5_settle 86 = .ok (.invokestatic 113, 3) := by decide +kernel
theorem dX5_settle_89 : decode cX5_settle 89 = .ok (.ldc2_w 118, 3) := by decide +kernel
theorem dX5_settle_92 : decode cX5_settle 92 = .ok (.ldiv, 1) := by decide +kernel
theorem dX5_settle_93 : decode cX5_settle 93 = .ok (.lstore 11, 2) := by decide +kernel
theorem dX5_settle_95 : decode cX5_settle 95 = .ok (.aload_n 0, 1) := by decide +kernel
theorem dX5_settle_96 : decode cX5_settle 96 = .ok (.lload 6, 2) := by decide +kernel
theorem dX5_settle_98 : decode cX5_settle 98 = .ok (.lload 11, 2) := by decide +kernel
theorem dX5_settle_100 : decode cX5_settle 100 = .ok (.iload 10, 2) := by decide +kernel
theorem dX5_settle_102 : decode cX5_settle 102 = .ok (.ifCond .eq 8, 3) := by decide +kernel
theorem dX5_settle_105 : decode cX5_settle 105 = .ok (.aload 4, 2) := by decide +kernel
theorem dX5_settle_107 : decode cX5_settle 107 = .ok (.goto 5, 3) := by decide +kernel
theorem dX5_settle_110 : decode cX5_settle 110 = .ok (.aload 5, 2) := by decide +kernel
theorem dX5_settle_112 : decode cX5_settle 112 = .ok (.iload 10, 2) := by decide +kernel
theorem dX5_settle_114 : decode cX5_settle 114 = .ok (.ifCond .eq 8, 3) := by decide +kernel
theorem dX5_settle_117 : decode cX5_settle 117 = .ok (.aload 5, 2) := by decide +kernel
theorem dX5_settle_119 : decode cX5_settle 119 = .ok (.goto 5, 3) := by decide +kernel
theorem dX5_settle_122 : decode cX5_settle 122 = .ok (.aload 4, 2) := by decide +kernel
theorem dX5_settle_124 : decode cX5_settle 124 = .ok (.invokevirtual 68, 3) := by decide +kernel
theorem dX5_settle_127 : decode cX5_settle 127 = .ok (.lload 11, 2) := by decide +kernel
theorem dX5_settle_129 : decode cX5_settle 129 = .ok (.lconst 0, 1) := by decide +kernel
theorem dX5_settle_130 : decode cX5_settle 130 = .ok (.lcmp, 1) := by decide +kernel
theorem dX5_settle_131 : decode cX5_settle 131 = .ok (.ifCond .ne 5, 3) := by decide +kernel
theorem dX5_settle_134 : decode cX5_settle 134 = .ok (.iconst 0, 1) := by decide +kernel
theorem dX5_settle_135 : decode cX5_settle 135 = .ok (.ireturn, 1) := by decide +kernel
theorem dX5_settle_136 : decode cX5_settle 136 = .ok (.iload 10, 2) := by decide +kernel
theorem dX5_settle_138 : decode cX5_settle 138 = .ok (.ifCond .eq 7, 3) := by decide +kernel
theorem dX5_settle_141 : decode cX5_settle 141 = .ok (.iconst 1, 1) := by decide +kernel
theorem dX5_settle_142 : decode cX5_settle 142 = .ok (.goto 4, 3) := by decide +kernel
theorem dX5_settle_145 : decode cX5_settle 145 = .ok (.iconst (-1), 1) := by decide +kernel
theorem dX5_settle_146 : decode cX5_settle 146 = .ok (.ireturn, 1) := by decide +kernel
set_option maxRecDepth 20000 in
theorem ggX5_rest_X5_kindAt : GoodIn wsX5_rest wsX5_kindAt := goodIn_r _ [7, 8, 15, 16, 17, 18, 19, 20] (by decide +kernel) (by decide +kernel)
set_option maxRecDepth 20000 in
theorem gX5_rest_X5_kindAt : GoodIn wsX5_rest (wsV RX5 27 RX5 yX5_kindAt wsX5_kindAt) := goodIn_app (goodIn_of _ (by decide +kernel)) ggX5_rest_X5_kindAt
set_option maxRecDepth 20000 in
theorem ggX5_rest_X5_commonDivisor : GoodIn wsX5_rest wsX5_commonDivisor := goodIn_r _ [11] (by decide +kernel) (by decide +kernel)
set_option maxRecDepth 20000 in
theorem gX5_rest_X5_commonDivisor : GoodIn wsX5_rest (va_wsS RX5 123 yX5_commonDivisor wsX5_commonDivisor) := goodIn_app (goodIn_of _ (by decide +kernel)) ggX5_rest_X5_commonDivisor
theorem dX5_rest_0 : decode cX5_rest 0 = .ok (.aload_n 0, 1) := by decide +kernel
theorem dX5_rest_1 : decode cX5_rest 1 = .ok (.iload_n 1, 1) := by decide +kernel
theorem dX5_rest_2 : decode cX5_rest 2 = .ok (.invokevirtual 27, 3) := by decide +kernel
theorem dX5_rest_5 : decode cX5_rest 5 = .ok (.astore_n 3, 1) := by decide +kernel
theorem dX5_rest_6 : decode cX5_rest 6 = .ok (.aload_n 3, 1) := by decide +kernel
theorem dX5_rest_7 : decode cX5_rest 7 = .ok (.ifnull 12, 3) := by decide +kernel
theorem dX5_rest_10 : decode cX5_rest 10 = .ok (.iload_n 2, 1) := by decide +kernel
theorem dX5_rest_11 : decode cX5_rest 11 = .ok (.ifCond .lt 8, 3) := by decide +kernel
theorem dX5_rest_14 : decode cX5_rest 14 = .ok (.iload_n 2, 1) := by decide +kernel
theorem dX5_rest_15 : decode cX5_rest 15 = .ok (.iconst 1, 1) := by decide +kernel
theorem dX5_rest_16 : decode cX5_rest 16 = .ok (.if_icmp .le 7, 3) := by decide +kernel
theorem dX5_rest_19 : decode cX5_rest 19 = .ok (.ldc2_w 103, 3) := by decide +kernel
theorem dX5_rest_22 : decode cX5_rest 22 = .ok (.lreturn, 1) := by decide +kernel
theorem dX5_rest_23 : decode cX5_rest 23 = .ok (.ldc2_w 91, 3) := by decide +kernel
theorem dX5_rest_26 : decode cX5_rest 26 = .ok (.aload_n 3, 1) := by decide +kernel
theorem dX5_rest_27 : decode cX5_rest 27 = .ok (.getfield 120, 3) := by decide +kernel
theorem dX5_rest_30 : decode cX5_rest 30 = .ok (.invokestatic 123, 3) := by decide +kernel
theorem dX5_rest_33 : decode cX5_rest 33 = .ok (.lstore 4, 2) := by decide +kernel
theorem dX5_rest_35 : decode cX5_rest 35 = .ok (.lload 4, 2) := by decide +kernel
theorem dX5_rest_37 : decode cX5_rest 37 = .ok (.lconst 1, 1) := by decide +kernel
theorem dX5_rest_38 : decode cX5_rest 38 = .ok (.lcmp, 1) := by decide +kernel
theorem dX5_rest_39 : decode cX5_rest 39 = .ok (.ifCond .ge 7, 3) := by decide +kernel
theorem dX5_rest_42 : decode cX5_rest 42 = .ok (.ldc2_w 103, 3) := by decide +kernel
theorem dX5_rest_45 : decode cX5_rest 45 = .ok (.lreturn, 1) := by decide +kernel
theorem dX5_rest_46 : decode cX5_rest 46 = .ok (.iload_n 2, 1) := by decide +kernel
theorem dX5_rest_47 : decode cX5_rest 47 = .ok (.ifCond .ne 13, 3) := by decide +kernel
theorem dX5_rest_50 : decode cX5_rest 50 = .ok (.aload_n 3, 1) := by decide +kernel
theorem dX5_rest_51 : decode cX5_rest 51 = .ok (.getfield 120, 3) := by decide +kernel
theorem dX5_rest_54 : decode cX5_rest 54 = .ok (.lload 4, 2) := by decide +kernel
theorem dX5_rest_56 : decode cX5_rest 56 = .ok (.ldiv, 1) := by decide +kernel
theorem dX5_rest_57 : decode cX5_rest 57 = .ok (.goto 9, 3) := by decide +kernel
theorem dX5_rest_60 : decode cX5_rest 60 = .ok (.ldc2_w 91, 3) := by decide +kernel
theorem dX5_rest_63 : decode cX5_rest 63 = .ok (.lload 4, 2) := by decide +kernel
theorem dX5_rest_65 : decode cX5_rest 65 = .ok (.ldiv, 1) := by decide +kernel
theorem dX5_rest_66 : decode cX5_rest 66 = .ok (.lreturn, 1) := by decide +kernel
set_option maxRecDepth 20000 in
theorem ggX5_sum_X5_balanceOf : GoodIn wsX5_sum wsX5_balanceOf := goodIn_r _ [6, 7, 8, 9, 10, 11, 12, 13, 14, 15, 16, 17, 18, 19, 20, 21, 22, 23, 24, 25, 26] (by decide +kernel) (by decide +kernel)
set_option maxRecDepth 20000 in
theorem gX5_sum_X5_balanceOf : GoodIn wsX5_sum (wsV RX5 100 RX5 yX5_balanceOf wsX5_balanceOf) := goodIn_app (goodIn_of _ (by decide +kernel)) ggX5_sum_X5_balanceOf
theorem dX5_sum_0 : decode cX5_sum 0 = .ok (.lconst 0, 1) := by decide +kernel
theorem dX5_sum_1 : decode cX5_sum 1 = .ok (.lstore_n 3, 1) := by decide +kernel
theorem dX5_sum_2 : decode cX5_sum 2 = .ok (.iconst 0, 1) := by decide +kernel
theorem dX5_sum_3 : decode cX5_sum 3 = .ok (.istore 5, 2) := by decide +kernel
theorem dX5_sum_5 : decode cX5_sum 5 = .ok (.iload 5, 2) := by decide +kernel
theorem dX5_sum_7 : decode cX5_sum 7 = .ok (.aload_n 0, 1) := by decide +kernel
theorem dX5_sum_8 : decode cX5_sum 8 = .ok (.getfield 16, 3) := by decide +kernel
theorem dX5_sum_11 : decode cX5_sum 11 = .ok (.arraylength, 1) := by decide +kernel
theorem dX5_sum_12 : decode cX5_sum 12 = .ok (.if_icmp .ge 33, 3) := by decide +kernel
theorem dX5_sum_15 : decode cX5_sum 15 = .ok (.aload_n 0, 1) := by decide +kernel
theorem dX5_sum_16 : decode cX5_sum 16 = .ok (.getfield 16, 3) := by decide +kernel
theorem dX5_sum_19 : decode cX5_sum 19 = .ok (.iload 5, 2) := by decide +kernel
theorem dX5_sum_21 : decode cX5_sum 21 = .ok (.aaload, 1) := by decide +kernel
theorem dX5_sum_22 : decode cX5_sum 22 = .ok (.astore 6, 2) := by decide +kernel
theorem dX5_sum_24 : decode cX5_sum 24 = .ok (.aload 6, 2) := by decide +kernel
theorem dX5_sum_26 : decode cX5_sum 26 = .ok (.ifnull 13, 3) := by decide +kernel
theorem dX5_sum_29 : decode cX5_sum 29 = .ok (.lload_n 3, 1) := by decide +kernel
theorem dX5_sum_30 : decode cX5_sum 30 = .ok (.aload_n 0, 1) := by decide +kernel
theorem dX5_sum_31 : decode cX5_sum 31 = .ok (.aload 6, 2) := by decide +kernel
theorem dX5_sum_33 : decode cX5_sum 33 = .ok (.lload_n 1, 1) := by decide +kernel
theorem dX5_sum_34 : decode cX5_sum 34 = .ok (.invokevirtual 100, 3) := by decide +kernel
theorem dX5_sum_37 : decode cX5_sum 37 = .ok (.ladd, 1) := by decide +kernel
theorem dX5_sum_38 : decode cX5_sum 38 = .ok (.lstore_n 3, 1) := by decide +kernel
theorem dX5_sum_39 : decode cX5_sum 39 = .ok (.iinc 5 1, 3) := by decide +kernel
theorem dX5_sum_42 : decode cX5_sum 42 = .ok (.goto (-37), 3) := by decide +kernel
theorem dX5_sum_45 : decode cX5_sum 45 = .ok (.lload_n 3, 1) := by decide +kernel
theorem dX5_sum_46 : decode cX5_sum 46 = .ok (.lreturn, 1) := by decide +kernel
theorem dX5_partyAt_0 : decode cX5_partyAt 0 = .ok (.iload_n 1, 1) := by decide +kernel
theorem dX5_partyAt_1 : decode cX5_partyAt 1 = .ok (.ifCond .lt 21, 3) := by decide +kernel
theorem dX5_partyAt_4 : decode cX5_partyAt 4 = .ok (.iload_n 1, 1) := by decide +kernel
theorem dX5_partyAt_5 : decode cX5_partyAt 5 = .ok (.aload_n 0, 1) := by decide +kernel
theorem dX5_partyAt_6 : decode cX5_partyAt 6 = .ok (.getfield 16, 3) := by decide +kernel
theorem dX5_partyAt_9 : decode cX5_partyAt 9 = .ok (.arraylength, 1) := by decide +kernel
theorem dX5_partyAt_10 : decode cX5_partyAt 10 = .ok (.if_icmp .ge 12, 3) := by decide +kernel
theorem dX5_partyAt_13 : decode cX5_partyAt 13 = .ok (.aload_n 0, 1) := by decide +kernel
theorem dX5_partyAt_14 : decode cX5_partyAt 14 = .ok (.getfield 16, 3) := by decide +kernel
theorem dX5_partyAt_17 : decode cX5_partyAt 17 = .ok (.iload_n 1, 1) := by decide +kernel
theorem dX5_partyAt_18 : decode cX5_partyAt 18 = .ok (.aaload, 1) := by decide +kernel
theorem dX5_partyAt_19 : decode cX5_partyAt 19 = .ok (.goto 4, 3) := by decide +kernel
theorem dX5_partyAt_22 : decode cX5_partyAt 22 = .ok (.aconst_null, 1) := by decide +kernel
theorem dX5_partyAt_23 : decode cX5_partyAt 23 = .ok (.areturn, 1) := by decide +kernel
set_option maxRecDepth 20000 in
theorem ggX5_customerAt_X5_partyAt : GoodIn wsX5_customerAt wsX5_partyAt := goodIn_r _ [5, 6, 7, 8, 9, 10, 11, 12] (by decide +kernel) (by decide +kernel)
set_option maxRecDepth 20000 in
theorem gX5_customerAt_X5_partyAt : GoodIn wsX5_customerAt (wsV RX5 97 RX5 yX5_partyAt wsX5_partyAt) := goodIn_app (goodIn_of _ (by decide +kernel)) ggX5_customerAt_X5_partyAt
theorem dX5_customerAt_0 : decode cX5_customerAt 0 = .ok (.iload_n 1, 1) := by decide +kernel
theorem dX5_customerAt_1 : decode cX5_customerAt 1 = .ok (.ifCond .ne 7, 3) := by decide +kernel
theorem dX5_customerAt_4 : decode cX5_customerAt 4 = .ok (.aconst_null, 1) := by decide +kernel
theorem dX5_customerAt_5 : decode cX5_customerAt 5 = .ok (.goto 8, 3) := by decide +kernel
theorem dX5_customerAt_8 : decode cX5_customerAt 8 = .ok (.aload_n 0, 1) := by decide +kernel
theorem dX5_customerAt_9 : decode cX5_customerAt 9 = .ok (.iload_n 1, 1) := by decide +kernel
theorem dX5_customerAt_10 : decode cX5_customerAt 10 = .ok (.invokevirtual 97, 3) := by decide +kernel
theorem dX5_customerAt_13 : decode cX5_customerAt 13 = .ok (.areturn, 1) := by decide +kernel
theorem dX5_kindAt_0 : decode cX5_kindAt 0 = .ok (.iload_n 1, 1) := by decide +kernel
theorem dX5_kindAt_1 : decode cX5_kindAt 1 = .ok (.ifCond .lt 21, 3) := by decide +kernel
theorem dX5_kindAt_4 : decode cX5_kindAt 4 = .ok (.iload_n 1, 1) := by decide +kernel
theorem dX5_kindAt_5 : decode cX5_kindAt 5 = .ok (.aload_n 0, 1) := by decide +kernel
theorem dX5_kindAt_6 : decode cX5_kindAt 6 = .ok (.getfield 22, 3) := by decide +kernel
theorem dX5_kindAt_9 : decode cX5_kindAt 9 = .ok (.arraylength, 1) := by decide +kernel
theorem dX5_kindAt_10 : decode cX5_kindAt 10 = .ok (.if_icmp .ge 12, 3) := by decide +kernel
theorem dX5_kindAt_13 : decode cX5_kindAt 13 = .ok (.aload_n 0, 1) := by decide +kernel
theorem dX5_kindAt_14 : decode cX5_kindAt 14 = .ok (.getfield 22, 3) := by decide +kernel
theorem dX5_kindAt_17 : decode cX5_kindAt 17 = .ok (.iload_n 1, 1) := by decide +kernel
theorem dX5_kindAt_18 : decode cX5_kindAt 18 = .ok (.aaload, 1) := by decide +kernel
theorem dX5_kindAt_19 : decode cX5_kindAt 19 = .ok (.goto 4, 3) := by decide +kernel
theorem dX5_kindAt_22 : decode cX5_kindAt 22 = .ok (.aconst_null, 1) := by decide +kernel
theorem dX5_kindAt_23 : decode cX5_kindAt 23 = .ok (.areturn, 1) := by decide +kernel
theorem dX5_isDay_0 : decode cX5_isDay 0 = .ok (.lload_n 0, 1) := by decide +kernel
theorem dX5_isDay_1 : decode cX5_isDay 1 = .ok (.lconst 0, 1) := by decide +kernel
theorem dX5_isDay_2 : decode cX5_isDay 2 = .ok (.lcmp, 1) := by decide +kernel
theorem dX5_isDay_3 : decode cX5_isDay 3 = .ok (.ifCond .lt 15, 3) := by decide +kernel
theorem dX5_isDay_6 : decode cX5_isDay 6 = .ok (.lload_n 0, 1) := by decide +kernel
theorem dX5_isDay_7 : decode cX5_isDay 7 = .ok (.ldc2_w 35, 3) := by decide +kernel
theorem dX5_isDay_10 : decode cX5_isDay 10 = .ok (.lcmp, 1) := by decide +kernel
theorem dX5_isDay_11 : decode cX5_isDay 11 = .ok (.ifCond .gt 7, 3) := by decide +kernel
theorem dX5_isDay_14 : decode cX5_isDay 14 = .ok (.iconst 1, 1) := by decide +kernel
theorem dX5_isDay_15 : decode cX5_isDay 15 = .ok (.goto 4, 3) := by decide +kernel
theorem dX5_isDay_18 : decode cX5_isDay 18 = .ok (.iconst 0, 1) := by decide +kernel
theorem dX5_isDay_19 : decode cX5_isDay 19 = .ok (.ireturn, 1) := by decide +kernel
theorem dX5_isNumber_0 : decode cX5_isNumber 0 = .ok (.lload_n 0, 1) := by decide +kernel
theorem dX5_isNumber_1 : decode cX5_isNumber 1 = .ok (.lconst 1, 1) := by decide +kernel
theorem dX5_isNumber_2 : decode cX5_isNumber 2 = .ok (.lcmp, 1) := by decide +kernel
theorem dX5_isNumber_3 : decode cX5_isNumber 3 = .ok (.ifCond .lt 15, 3) := by decide +kernel
theorem dX5_isNumber_6 : decode cX5_isNumber 6 = .ok (.lload_n 0, 1) := by decide +kernel
theorem dX5_isNumber_7 : decode cX5_isNumber 7 = .ok (.ldc2_w 35, 3) := by decide +kernel
theorem dX5_isNumber_10 : decode cX5_isNumber 10 = .ok (.lcmp, 1) := by decide +kernel
theorem dX5_isNumber_11 : decode cX5_isNumber 11 = .ok (.ifCond .gt 7, 3) := by decide +kernel
theorem dX5_isNumber_14 : decode cX5_isNumber 14 = .ok (.iconst 1, 1) := by decide +kernel
theorem dX5_isNumber_15 : decode cX5_isNumber 15 = .ok (.goto 4, 3) := by decide +kernel
theorem dX5_isNumber_18 : decode cX5_isNumber 18 = .ok (.iconst 0, 1) := by decide +kernel
theorem dX5_isNumber_19 : decode cX5_isNumber 19 = .ok (.ireturn, 1) := by decide +kernel
set_option maxRecDepth 20000 in
theorem ggX5_mayMoveOn_X5_isDay : GoodIn wsX5_mayMoveOn wsX5_isDay := goodIn_r _ [6, 7] (by decide +kernel) (by decide +kernel)
set_option maxRecDepth 20000 in
theorem gX5_mayMoveOn_X5_isDay : GoodIn wsX5_mayMoveOn (va_wsS RX5 31 yX5_isDay wsX5_isDay) := goodIn_app (goodIn_of _ (by decide +kernel)) ggX5_mayMoveOn_X5_isDay
theorem dX5_mayMoveOn_0 : decode cX5_mayMoveOn 0 = .ok (.lload_n 1, 1) := by decide +kernel
theorem dX5_mayMoveOn_1 : decode cX5_mayMoveOn 1 = .ok (.invokestatic 31, 3) := by decide +kernel
theorem dX5_mayMoveOn_4 : decode cX5_mayMoveOn 4 = .ok (.ifCond .eq 26, 3) := by decide +kernel
theorem dX5_mayMoveOn_7 : decode cX5_mayMoveOn 7 = .ok (.lload_n 1, 1) := by decide +kernel
theorem dX5_mayMoveOn_8 : decode cX5_mayMoveOn 8 = .ok (.aload_n 0, 1) := by decide +kernel
theorem dX5_mayMoveOn_9 : decode cX5_mayMoveOn 9 = .ok (.getfield 105, 3) := by decide +kernel
theorem dX5_mayMoveOn_12 : decode cX5_mayMoveOn 12 = .ok (.lcmp, 1) := by decide +kernel
theorem dX5_mayMoveOn_13 : decode cX5_mayMoveOn 13 = .ok (.ifCond .lt 17, 3) := by decide +kernel
theorem dX5_mayMoveOn_16 : decode cX5_mayMoveOn 16 = .ok (.aload_n 0, 1) := by decide +kernel
theorem dX5_mayMoveOn_17 : decode cX5_mayMoveOn 17 = .ok (.getfield 127, 3) := by decide +kernel
theorem dX5_mayMoveOn_20 : decode cX5_mayMoveOn 20 = .ok (.sipush 512, 3) := by decide +kernel
theorem dX5_mayMoveOn_23 : decode cX5_mayMoveOn 23 = .ok (.if_icmp .ge 7, 3) := by decide +kernel
theorem dX5_mayMoveOn_26 : decode cX5_mayMoveOn 26 = .ok (.iconst 1, 1) := by decide +kernel
theorem dX5_mayMoveOn_27 : decode cX5_mayMoveOn 27 = .ok (.goto 4, 3) := by decide +kernel
theorem dX5_mayMoveOn_30 : decode cX5_mayMoveOn 30 = .ok (.iconst 0, 1) := by decide +kernel
theorem dX5_mayMoveOn_31 : decode cX5_mayMoveOn 31 = .ok (.ireturn, 1) := by decide +kernel
set_option maxRecDepth 20000 in
theorem ggX5_move_X4_init : GoodIn wsX5_move wsX4_init := goodIn_r _ [9, 10, 11, 12, 13, 14, 15, 16, 17, 18, 19, 20, 21, 22] (by decide +kernel) (by decide +kernel)
set_option maxRecDepth 20000 in
theorem gX5_move_X4_init : GoodIn wsX5_move (wsX4_init) := ggX5_move_X4_init
theorem dX5_move_0 : decode cX5_move 0 = .ok (.aload_n 0, 1) := by decide +kernel
theorem dX5_move_1 : decode cX5_move 1 = .ok (.new 131, 3) := by decide +kernel
theorem dX5_move_4 : decode cX5_move 4 = .ok (.dup, 1) := by decide +kernel
theorem dX5_move_5 : decode cX5_move 5 = .ok (.lload_n 1, 1) := by decide +kernel
theorem dX5_move_6 : decode cX5_move 6 = .ok (.lload_n 3, 1) := by decide +kernel
theorem dX5_move_7 : decode cX5_move 7 = .ok (.aload 5, 2) := by decide +kernel
theorem dX5_move_9 : decode cX5_move 9 = .ok (.aload 6, 2) := by decide +kernel
theorem dX5_move_11 : decode cX5_move 11 = .ok (.aload_n 0, 1) := by decide +kernel
theorem dX5_move_12 : decode cX5_move 12 = .ok (.getfield 133, 3) := by decide +kernel
theorem dX5_move_15 : decode cX5_move 15 = .ok (.invokespecial 137, 3) := by decide +kernel
theorem dX5_move_18 : decode cX5_move 18 = .ok (.putfield 133, 3) := by decide +kernel
theorem dX5_move_21 : decode cX5_move 21 = .ok (.aload_n 0, 1) := by decide +kernel
theorem dX5_move_22 : decode cX5_move 22 = .ok (.dup, 1) := by decide +kernel
theorem dX5_move_23 : decode cX5_move 23 = .ok (.getfield 127, 3) := by decide +kernel
theorem dX5_move_26 : decode cX5_move 26 = .ok (.iconst 1, 1) := by decide +kernel
theorem dX5_move_27 : decode cX5_move 27 = .ok (.iadd, 1) := by decide +kernel
theorem dX5_move_28 : decode cX5_move 28 = .ok (.putfield 127, 3) := by decide +kernel
theorem dX5_move_31 : decode cX5_move 31 = .ok (.aload_n 0, 1) := by decide +kernel
theorem dX5_move_32 : decode cX5_move 32 = .ok (.lload_n 1, 1) := by decide +kernel
theorem dX5_move_33 : decode cX5_move 33 = .ok (.putfield 105, 3) := by decide +kernel
theorem dX5_move_36 : decode cX5_move 36 = .ok (.return_, 1) := by decide +kernel
set_option maxRecDepth 20000 in
theorem ggX5_balanceOf_X4_changeOf : GoodIn wsX5_balanceOf wsX4_changeOf := goodIn_r _ [6, 7, 8, 9, 16, 17, 18, 19, 20] (by decide +kernel) (by decide +kernel)
set_option maxRecDepth 20000 in
theorem gX5_balanceOf_X4_changeOf : GoodIn wsX5_balanceOf (wsV RX5 143 RX4 yX4_changeOf wsX4_changeOf) := goodIn_app (goodIn_of _ (by decide +kernel)) ggX5_balanceOf_X4_changeOf
theorem dX5_balanceOf_0 : decode cX5_balanceOf 0 = .ok (.lconst 0, 1) := by decide +kernel
theorem dX5_balanceOf_1 : decode cX5_balanceOf 1 = .ok (.lstore 4, 2) := by decide +kernel
theorem dX5_balanceOf_3 : decode cX5_balanceOf 3 = .ok (.aload_n 0, 1) := by decide +kernel
theorem dX5_balanceOf_4 : decode cX5_balanceOf 4 = .ok (.getfield 133, 3) := by decide +kernel
theorem dX5_balanceOf_7 : decode cX5_balanceOf 7 = .ok (.astore 6, 2) := by decide +kernel
theorem dX5_balanceOf_9 : decode cX5_balanceOf 9 = .ok (.aload 6, 2) := by decide +kernel
theorem dX5_balanceOf_11 : decode cX5_balanceOf 11 = .ok (.ifnull 34, 3) := by decide +kernel
theorem dX5_balanceOf_14 : decode cX5_balanceOf 14 = .ok (.aload 6, 2) := by decide +kernel
theorem dX5_balanceOf_16 : decode cX5_balanceOf 16 = .ok (.getfield 140, 3) := by decide +kernel
theorem dX5_balanceOf_19 : decode cX5_balanceOf 19 = .ok (.lload_n 2, 1) := by decide +kernel
theorem dX5_balanceOf_20 : decode cX5_balanceOf 20 = .ok (.lcmp, 1) := by decide +kernel
theorem dX5_balanceOf_21 : decode cX5_balanceOf 21 = .ok (.ifCond .gt 14, 3) := by decide +kernel
theorem dX5_balanceOf_24 : decode cX5_balanceOf 24 = .ok (.lload 4, 2) := by decide +kernel
theorem dX5_balanceOf_26 : decode cX5_balanceOf 26 = .ok (.aload 6, 2) := by decide +kernel
theorem dX5_balanceOf_28 : decode cX5_balanceOf 28 = .ok (.aload_n 1, 1) := by decide +kernel
theorem dX5_balanceOf_29 : decode cX5_balanceOf 29 = .ok (.invokevirtual 143, 3) := by decide +kernel
theorem dX5_balanceOf_32 : decode cX5_balanceOf 32 = .ok (.ladd, 1) := by decide +kernel
theorem dX5_balanceOf_33 : decode cX5_balanceOf 33 = .ok (.lstore 4, 2) := by decide +kernel
theorem dX5_balanceOf_35 : decode cX5_balanceOf 35 = .ok (.aload 6, 2) := by decide +kernel
theorem dX5_balanceOf_37 : decode cX5_balanceOf 37 = .ok (.getfield 147, 3) := by decide +kernel
theorem dX5_balanceOf_40 : decode cX5_balanceOf 40 = .ok (.astore 6, 2) := by decide +kernel
theorem dX5_balanceOf_42 : decode cX5_balanceOf 42 = .ok (.goto (-33), 3) := by decide +kernel
theorem dX5_balanceOf_45 : decode cX5_balanceOf 45 = .ok (.lload 4, 2) := by decide +kernel
theorem dX5_balanceOf_47 : decode cX5_balanceOf 47 = .ok (.lreturn, 1) := by decide +kernel
set_option maxRecDepth 20000 in
theorem ggX5_layersInUse_X2_layersInUse : GoodIn wsX5_layersInUse wsX2_layersInUse := goodIn_r _ [6, 7, 14, 15, 16, 17, 18, 19, 20] (by decide +kernel) (by decide +kernel)
set_option maxRecDepth 20000 in
theorem gX5_layersInUse_X2_layersInUse : GoodIn wsX5_layersInUse (wsV RX5 150 RX2 yX2_layersInUse wsX2_layersInUse) := goodIn_app (goodIn_of _ (by decide +kernel)) ggX5_layersInUse_X2_layersInUse
theorem dX5_layersInUse_0 : decode cX5_layersInUse 0 = .ok (.iconst 0, 1) := by decide +kernel
theorem dX5_layersInUse_1 : decode cX5_layersInUse 1 = .ok (.istore_n 1, 1) := by decide +kernel
theorem dX5_layersInUse_2 : decode cX5_layersInUse 2 = .ok (.iconst 0, 1) := by decide +kernel
theorem dX5_layersInUse_3 : decode cX5_layersInUse 3 = .ok (.istore_n 2, 1) := by decide +kernel
theorem dX5_layersInUse_4 : decode cX5_layersInUse 4 = .ok (.iload_n 2, 1) := by decide +kernel
theorem dX5_layersInUse_5 : decode cX5_layersInUse 5 = .ok (.aload_n 0, 1) := by decide +kernel
theorem dX5_layersInUse_6 : decode cX5_layersInUse 6 = .ok (.getfield 16, 3) := by decide +kernel
theorem dX5_layersInUse_9 : decode cX5_layersInUse 9 = .ok (.arraylength, 1) := by decide +kernel
theorem dX5_layersInUse_10 : decode cX5_layersInUse 10 = .ok (.if_icmp .ge 27, 3) := by decide +kernel
theorem dX5_layersInUse_13 : decode cX5_layersInUse 13 = .ok (.aload_n 0, 1) := by decide +kernel
theorem dX5_layersInUse_14 : decode cX5_layersInUse 14 = .ok (.getfield 16, 3) := by decide +kernel
theorem dX5_layersInUse_17 : decode cX5_layersInUse 17 = .ok (.iload_n 2, 1) := by decide +kernel
theorem dX5_layersInUse_18 : decode cX5_layersInUse 18 = .ok (.aaload, 1) := by decide +kernel
theorem dX5_layersInUse_19 : decode cX5_layersInUse 19 = .ok (.astore_n 3, 1) := by decide +kernel
theorem dX5_layersInUse_20 : decode cX5_layersInUse 20 = .ok (.aload_n 3, 1) := by decide +kernel
theorem dX5_layersInUse_21 : decode cX5_layersInUse 21 = .ok (.ifnull 10, 3) := by decide +kernel
theorem dX5_layersInUse_24 : decode cX5_layersInUse 24 = .ok (.iload_n 1, 1) := by decide +kernel
theorem dX5_layersInUse_25 : decode cX5_layersInUse 25 = .ok (.aload_n 3, 1) := by decide +kernel
theorem dX5_layersInUse_26 : decode cX5_layersInUse 26 = .ok (.invokevirtual 150, 3) := by decide +kernel
theorem dX5_layersInUse_29 : decode cX5_layersInUse 29 = .ok (.iadd, 1) := by decide +kernel
theorem dX5_layersInUse_30 : decode cX5_layersInUse 30 = .ok (.istore_n 1, 1) := by decide +kernel
theorem dX5_layersInUse_31 : decode cX5_layersInUse 31 = .ok (.iinc 2 1, 3) := by decide +kernel
theorem dX5_layersInUse_34 : decode cX5_layersInUse 34 = .ok (.goto (-30), 3) := by decide +kernel
theorem dX5_layersInUse_37 : decode cX5_layersInUse 37 = .ok (.iload_n 1, 1) := by decide +kernel
theorem dX5_layersInUse_38 : decode cX5_layersInUse 38 = .ok (.ireturn, 1) := by decide +kernel
theorem dX5_sharesMakeOne_0 : decode cX5_sharesMakeOne 0 = .ok (.lconst 0, 1) := by decide +kernel
theorem dX5_sharesMakeOne_1 : decode cX5_sharesMakeOne 1 = .ok (.lstore_n 1, 1) := by decide +kernel
theorem dX5_sharesMakeOne_2 : decode cX5_sharesMakeOne 2 = .ok (.iconst 0, 1) := by decide +kernel
theorem dX5_sharesMakeOne_3 : decode cX5_sharesMakeOne 3 = .ok (.istore_n 3, 1) := by decide +kernel
theorem dX5_sharesMakeOne_4 : decode cX5_sharesMakeOne 4 = .ok (.iload_n 3, 1) := by decide +kernel
theorem dX5_sharesMakeOne_5 : decode cX5_sharesMakeOne 5 = .ok (.aload_n 0, 1) := by decide +kernel
theorem dX5_sharesMakeOne_6 : decode cX5_sharesMakeOne 6 = .ok (.getfield 22, 3) := by decide +kernel
theorem dX5_sharesMakeOne_9 : decode cX5_sharesMakeOne 9 = .ok (.arraylength, 1) := by decide +kernel
theorem dX5_sharesMakeOne_10 : decode cX5_sharesMakeOne 10 = .ok (.if_icmp .ge 30, 3) := by decide +kernel
theorem dX5_sharesMakeOne_13 : decode cX5_sharesMakeOne 13 = .ok (.aload_n 0, 1) := by decide +kernel
theorem dX5_sharesMakeOne_14 : decode cX5_sharesMakeOne 14 = .ok (.getfield 22, 3) := by decide +kernel
theorem dX5_sharesMakeOne_17 : decode cX5_sharesMakeOne 17 = .ok (.iload_n 3, 1) := by decide +kernel
theorem dX5_sharesMakeOne_18 : decode cX5_sharesMakeOne 18 = .ok (.aaload, 1) := by decide +kernel
theorem dX5_sharesMakeOne_19 : decode cX5_sharesMakeOne 19 = .ok (.astore 4, 2) := by decide +kernel
theorem dX5_sharesMakeOne_21 : decode cX5_sharesMakeOne 21 = .ok (.aload 4, 2) := by decide +kernel
theorem dX5_sharesMakeOne_23 : decode cX5_sharesMakeOne 23 = .ok (.ifnull 11, 3) := by decide +kernel
theorem dX5_sharesMakeOne_26 : decode cX5_sharesMakeOne 26 = .ok (.lload_n 1, 1) := by decide +kernel
theorem dX5_sharesMakeOne_27 : decode cX5_sharesMakeOne 27 = .ok (.aload 4, 2) := by decide +kernel
theorem dX5_sharesMakeOne_29 : decode cX5_sharesMakeOne 29 = .ok (.getfield 93, 3) := by decide +kernel
theorem dX5_sharesMakeOne_32 : decode cX5_sharesMakeOne 32 = .ok (.ladd, 1) := by decide +kernel
theorem dX5_sharesMakeOne_33 : decode cX5_sharesMakeOne 33 = .ok (.lstore_n 1, 1) := by decide +kernel
theorem dX5_sharesMakeOne_34 : decode cX5_sharesMakeOne 34 = .ok (.iinc 3 1, 3) := by decide +kernel
theorem dX5_sharesMakeOne_37 : decode cX5_sharesMakeOne 37 = .ok (.goto (-33), 3) := by decide +kernel
theorem dX5_sharesMakeOne_40 : decode cX5_sharesMakeOne 40 = .ok (.lload_n 1, 1) := by decide +kernel
theorem dX5_sharesMakeOne_41 : decode cX5_sharesMakeOne 41 = .ok (.ldc2_w 91, 3) := by decide +kernel
theorem dX5_sharesMakeOne_44 : decode cX5_sharesMakeOne 44 = .ok (.lcmp, 1) := by decide +kernel
theorem dX5_sharesMakeOne_45 : decode cX5_sharesMakeOne 45 = .ok (.ifCond .ne 7, 3) := by decide +kernel
theorem dX5_sharesMakeOne_48 : decode cX5_sharesMakeOne 48 = .ok (.iconst 1, 1) := by decide +kernel
theorem dX5_sharesMakeOne_49 : decode cX5_sharesMakeOne 49 = .ok (.goto 4, 3) := by decide +kernel
theorem dX5_sharesMakeOne_52 : decode cX5_sharesMakeOne 52 = .ok (.iconst 0, 1) := by decide +kernel
theorem dX5_sharesMakeOne_53 : decode cX5_sharesMakeOne 53 = .ok (.ireturn, 1) := by decide +kernel
set_option maxRecDepth 20000 in
theorem ggX5_hasLot_X2_piecesUpTo : GoodIn wsX5_hasLot wsX2_piecesUpTo := goodIn_r _ [8, 9, 23, 24, 25, 26, 27, 28, 29] (by decide +kernel) (by decide +kernel)
set_option maxRecDepth 20000 in
theorem gX5_hasLot_X2_piecesUpTo : GoodIn wsX5_hasLot (wsV RX5 72 RX2 yX2_piecesUpTo wsX2_piecesUpTo) := goodIn_app (goodIn_of _ (by decide +kernel)) ggX5_hasLot_X2_piecesUpTo
set_option maxRecDepth 20000 in
theorem ggX5_hasLot_X0_partsOfLot : GoodIn wsX5_hasLot wsX0_partsOfLot := goodIn_r _ [14, 15, 16, 30, 31, 32] (by decide +kernel) (by decide +kernel)
set_option maxRecDepth 20000 in
theorem gX5_hasLot_X0_partsOfLot : GoodIn wsX5_hasLot (wsV RX5 151 RX0 yX0_partsOfLot wsX0_partsOfLot) := goodIn_app (goodIn_of _ (by decide +kernel)) ggX5_hasLot_X0_partsOfLot
theorem dX5_hasLot_0 : decode cX5_hasLot 0 = .ok (.iconst 0, 1) := by decide +kernel
theorem dX5_hasLot_1 : decode cX5_hasLot 1 = .ok (.istore 4, 2) := by decide +kernel
theorem dX5_hasLot_3 : decode cX5_hasLot 3 = .ok (.iload 4, 2) := by decide +kernel
theorem dX5_hasLot_5 : decode cX5_hasLot 5 = .ok (.aload_n 0, 1) := by decide +kernel
theorem dX5_hasLot_6 : decode cX5_hasLot 6 = .ok (.getfield 22, 3) := by decide +kernel
theorem dX5_hasLot_9 : decode cX5_hasLot 9 = .ok (.arraylength, 1) := by decide +kernel
theorem dX5_hasLot_10 : decode cX5_hasLot 10 = .ok (.if_icmp .ge 48, 3) := by decide +kernel
theorem dX5_hasLot_13 : decode cX5_hasLot 13 = .ok (.aload_n 0, 1) := by decide +kernel
theorem dX5_hasLot_14 : decode cX5_hasLot 14 = .ok (.getfield 22, 3) := by decide +kernel
theorem dX5_hasLot_17 : decode cX5_hasLot 17 = .ok (.iload 4, 2) := by decide +kernel
theorem dX5_hasLot_19 : decode cX5_hasLot 19 = .ok (.aaload, 1) := by decide +kernel
theorem dX5_hasLot_20 : decode cX5_hasLot 20 = .ok (.astore 5, 2) := by decide +kernel
theorem dX5_hasLot_22 : decode cX5_hasLot 22 = .ok (.aload 5, 2) := by decide +kernel
theorem dX5_hasLot_24 : decode cX5_hasLot 24 = .ok (.ifnull 28, 3) := by decide +kernel
theorem dX5_hasLot_27 : decode cX5_hasLot 27 = .ok (.aload_n 1, 1) := by decide +kernel
theorem dX5_hasLot_28 : decode cX5_hasLot 28 = .ok (.aload 5, 2) := by decide +kernel
theorem dX5_hasLot_30 : decode cX5_hasLot 30 = .ok (.ldc2_w 35, 3) := by decide +kernel
theorem dX5_hasLot_33 : decode cX5_hasLot 33 = .ok (.invokevirtual 72, 3) := by decide +kernel
theorem dX5_hasLot_36 : decode cX5_hasLot 36 = .ok (.aload 5, 2) := by decide +kernel
theorem dX5_hasLot_38 : decode cX5_hasLot 38 = .ok (.lload_n 2, 1) := by decide +kernel
theorem dX5_hasLot_39 : decode cX5_hasLot 39 = .ok (.invokevirtual 151, 3) := by decide +kernel
theorem dX5_hasLot_42 : decode cX5_hasLot 42 = .ok (.ldc2_w 91, 3) := by decide +kernel
theorem dX5_hasLot_45 : decode cX5_hasLot 45 = .ok (.ldiv, 1) := by decide +kernel
theorem dX5_hasLot_46 : decode cX5_hasLot 46 = .ok (.lcmp, 1) := by decide +kernel
theorem dX5_hasLot_47 : decode cX5_hasLot 47 = .ok (.ifCond .ge 5, 3) := by decide +kernel
theorem dX5_hasLot_50 : decode cX5_hasLot 50 = .ok (.iconst 0, 1) := by decide +kernel
theorem dX5_hasLot_51 : decode cX5_hasLot 51 = .ok (.ireturn, 1) := by decide +kernel
theorem dX5_hasLot_52 : decode cX5_hasLot 52 = .ok (.iinc 4 1, 3) := by decide +kernel
theorem dX5_hasLot_55 : decode cX5_hasLot 55 = .ok (.goto (-52), 3) := by decide +kernel
theorem dX5_hasLot_58 : decode cX5_hasLot 58 = .ok (.iconst 1, 1) := by decide +kernel
theorem dX5_hasLot_59 : decode cX5_hasLot 59 = .ok (.ireturn, 1) := by decide +kernel
set_option maxRecDepth 20000 in
theorem ggX5_giveBackLot_X0_partsOfLot : GoodIn wsX5_giveBackLot wsX0_partsOfLot := goodIn_r _ [7, 8, 9, 26, 27, 28] (by decide +kernel) (by decide +kernel)
set_option maxRecDepth 20000 in
theorem gX5_giveBackLot_X0_partsOfLot : GoodIn wsX5_giveBackLot (wsV RX5 151 RX0 yX0_partsOfLot wsX0_partsOfLot) := goodIn_app (goodIn_of _ (by decide +kernel)) ggX5_giveBackLot_X0_partsOfLot
set_option maxRecDepth 20000 in
theorem ggX5_giveBackLot_X2_giveBack : GoodIn wsX5_giveBackLot wsX2_giveBack := goodIn_r _ [14, 15, 16, 17, 18, 19, 29, 30, 31, 32, 33, 34, 35] (by decide +kernel) (by decide +kernel)
set_option maxRecDepth 20000 in
theorem gX5_giveBackLot_X2_giveBack : GoodIn wsX5_giveBackLot (wsV RX5 76 RX2 yX2_giveBack wsX2_giveBack) := goodIn_app (goodIn_of _ (by decide +kernel)) ggX5_giveBackLot_X2_giveBack
theorem dX5_giveBackLot_0 : decode cX5_giveBackLot 0 = .ok (.lconst 0, 1) := by decide +kernel
theorem dX5_giveBackLot_1 : decode cX5_giveBackLot 1 = .ok (.lstore 4, 2) := by decide +kernel
theorem dX5_giveBackLot_3 : decode cX5_giveBackLot 3 = .ok (.iconst 0, 1) := by decide +kernel
theorem dX5_giveBackLot_4 : decode cX5_giveBackLot 4 = .ok (.istore 6, 2) := by decide +kernel
theorem dX5_giveBackLot_6 : decode cX5_giveBackLot 6 = .ok (.iload 6, 2) := by decide +kernel
theorem dX5_giveBackLot_8 : decode cX5_giveBackLot 8 = .ok (.aload_n 0, 1) := by decide +kernel
theorem dX5_giveBackLot_9 : decode cX5_giveBackLot 9 = .ok (.getfield 22, 3) := by decide +kernel
theorem dX5_giveBackLot_12 : decode cX5_giveBackLot 12 = .ok (.arraylength, 1) := by decide +kernel
theorem dX5_giveBackLot_13 : decode cX5_giveBackLot 13 = .ok (.if_icmp .ge 59, 3) := by decide +kernel
theorem dX5_giveBackLot_16 : decode cX5_giveBackLot 16 = .ok (.aload_n 0, 1) := by decide +kernel
theorem dX5_giveBackLot_17 : decode cX5_giveBackLot 17 = .ok (.getfield 22, 3) := by decide +kernel
theorem dX5_giveBackLot_20 : decode cX5_giveBackLot 20 = .ok (.iload 6, 2) := by decide +kernel
theorem dX5_giveBackLot_22 : decode cX5_giveBackLot 22 = .ok (.aaload, 1) := by decide +kernel
theorem dX5_giveBackLot_23 : decode cX5_giveBackLot 23 = .ok (.astore 7, 2) := by decide +kernel
theorem dX5_giveBackLot_25 : decode cX5_giveBackLot 25 = .ok (.aload 7, 2) := by decide +kernel
theorem dX5_giveBackLot_27 : decode cX5_giveBackLot 27 = .ok (.ifnull 39, 3) := by decide +kernel
theorem dX5_giveBackLot_30 : decode cX5_giveBackLot 30 = .ok (.aload 7, 2) := by decide +kernel
theorem dX5_giveBackLot_32 : decode cX5_giveBackLot 32 = .ok (.lload_n 2, 1) := by decide +kernel
theorem dX5_giveBackLot_33 : decode cX5_giveBackLot 33 = .ok (.invokevirtual 151, 3) := by decide +kernel
theorem dX5_giveBackLot_36 : decode cX5_giveBackLot 36 = .ok (.lstore 8, 2) := by decide +kernel
theorem dX5_giveBackLot_38 : decode cX5_giveBackLot 38 = .ok (.lload 4, 2) := by decide +kernel
theorem dX5_giveBackLot_40 : decode cX5_giveBackLot 40 = .ok (.aload_n 1, 1) := by decide +kernel
theorem dX5_giveBackLot_41 : decode cX5_giveBackLot 41 = .ok (.aload 7, 2) := by decide +kernel
theorem dX5_giveBackLot_43 : decode cX5_giveBackLot 43 = .ok (.lload 8, 2) := by decide +kernel
theorem dX5_giveBackLot_45 : decode cX5_giveBackLot 45 = .ok (.ldc2_w 91, 3) := by decide +kernel
theorem dX5_giveBackLot_48 : decode cX5_giveBackLot 48 = .ok (.ldiv, 1) := by decide +kernel
theorem dX5_giveBackLot_49 : decode cX5_giveBackLot 49 = .ok (.invokevirtual 76, 3) := by decide +kernel
theorem dX5_giveBackLot_52 : decode cX5_giveBackLot 52 = .ok (.ladd, 1) := by decide +kernel
theorem dX5_giveBackLot_53 : decode cX5_giveBackLot 53 = .ok (.lstore 4, 2) := by decide +kernel
theorem dX5_giveBackLot_55 : decode cX5_giveBackLot 55 = .ok (.aload 7, 2) := by decide +kernel
theorem dX5_giveBackLot_57 : decode cX5_giveBackLot 57 = .ok (.lload 8, 2) := by decide +kernel
theorem dX5_giveBackLot_59 : decode cX5_giveBackLot 59 = .ok (.ldc2_w 91, 3) := by decide +kernel
theorem dX5_giveBackLot_62 : decode cX5_giveBackLot 62 = .ok (.lrem, 1) := by decide +kernel
theorem dX5_giveBackLot_63 : decode cX5_giveBackLot 63 = .ok (.putfield 120, 3) := by decide +kernel
theorem dX5_giveBackLot_66 : decode cX5_giveBackLot 66 = .ok (.iinc 6 1, 3) := by decide +kernel
theorem dX5_giveBackLot_69 : decode cX5_giveBackLot 69 = .ok (.goto (-63), 3) := by decide +kernel
theorem dX5_giveBackLot_72 : decode cX5_giveBackLot 72 = .ok (.lload 4, 2) := by decide +kernel
theorem dX5_giveBackLot_74 : decode cX5_giveBackLot 74 = .ok (.lreturn, 1) := by decide +kernel
set_option maxRecDepth 20000 in
theorem ggX5_worthOf_X2_piecesUpTo : GoodIn wsX5_worthOf wsX2_piecesUpTo := goodIn_r _ [7, 8, 22, 23, 24, 25, 26, 27, 28] (by decide +kernel) (by decide +kernel)
set_option maxRecDepth 20000 in
theorem gX5_worthOf_X2_piecesUpTo : GoodIn wsX5_worthOf (wsV RX5 72 RX2 yX2_piecesUpTo wsX2_piecesUpTo) := goodIn_app (goodIn_of _ (by decide +kernel)) ggX5_worthOf_X2_piecesUpTo
set_option maxRecDepth 20000 in
theorem ggX5_worthOf_X0_priceOn : GoodIn wsX5_worthOf wsX0_priceOn := goodIn_r _ [13, 14, 15, 29, 30, 31, 32, 33, 34] (by decide +kernel) (by decide +kernel)
set_option maxRecDepth 20000 in
theorem gX5_worthOf_X0_priceOn : GoodIn wsX5_worthOf (wsV RX5 55 RX0 yX0_priceOn wsX0_priceOn) := goodIn_app (goodIn_of _ (by decide +kernel)) ggX5_worthOf_X0_priceOn
theorem dX5_worthOf_0 : decode cX5_worthOf 0 = .ok (.lconst 0, 1) := by decide +kernel
theorem dX5_worthOf_1 : decode cX5_worthOf 1 = .ok (.lstore 4, 2) := by decide +kernel
theorem dX5_worthOf_3 : decode cX5_worthOf 3 = .ok (.iconst 0, 1) := by decide +kernel
theorem dX5_worthOf_4 : decode cX5_worthOf 4 = .ok (.istore 6, 2) := by decide +kernel
theorem dX5_worthOf_6 : decode cX5_worthOf 6 = .ok (.iload 6, 2) := by decide +kernel
theorem dX5_worthOf_8 : decode cX5_worthOf 8 = .ok (.aload_n 0, 1) := by decide +kernel
theorem dX5_worthOf_9 : decode cX5_worthOf 9 = .ok (.getfield 22, 3) := by decide +kernel
theorem dX5_worthOf_12 : decode cX5_worthOf 12 = .ok (.arraylength, 1) := by decide +kernel
theorem dX5_worthOf_13 : decode cX5_worthOf 13 = .ok (.if_icmp .ge 44, 3) := by decide +kernel
theorem dX5_worthOf_16 : decode cX5_worthOf 16 = .ok (.aload_n 0, 1) := by decide +kernel
theorem dX5_worthOf_17 : decode cX5_worthOf 17 = .ok (.getfield 22, 3) := by decide +kernel
theorem dX5_worthOf_20 : decode cX5_worthOf 20 = .ok (.iload 6, 2) := by decide +kernel
theorem dX5_worthOf_22 : decode cX5_worthOf 22 = .ok (.aaload, 1) := by decide +kernel
theorem dX5_worthOf_23 : decode cX5_worthOf 23 = .ok (.astore 7, 2) := by decide +kernel
theorem dX5_worthOf_25 : decode cX5_worthOf 25 = .ok (.aload 7, 2) := by decide +kernel
theorem dX5_worthOf_27 : decode cX5_worthOf 27 = .ok (.ifnull 24, 3) := by decide +kernel
theorem dX5_worthOf_30 : decode cX5_worthOf 30 = .ok (.lload 4, 2) := by decide +kernel
theorem dX5_worthOf_32 : decode cX5_worthOf 32 = .ok (.aload_n 1, 1) := by decide +kernel
theorem dX5_worthOf_33 : decode cX5_worthOf 33 = .ok (.aload 7, 2) := by decide +kernel
theorem dX5_worthOf_35 : decode cX5_worthOf 35 = .ok (.ldc2_w 35, 3) := by decide +kernel
theorem dX5_worthOf_38 : decode cX5_worthOf 38 = .ok (.invokevirtual 72, 3) := by decide +kernel
theorem dX5_worthOf_41 : decode cX5_worthOf 41 = .ok (.aload 7, 2) := by decide +kernel
theorem dX5_worthOf_43 : decode cX5_worthOf 43 = .ok (.lload_n 2, 1) := by decide +kernel
theorem dX5_worthOf_44 : decode cX5_worthOf 44 = .ok (.invokevirtual 55, 3) := by decide +kernel
theorem dX5_worthOf_47 : decode cX5_worthOf 47 = .ok (.lmul, 1) := by decide +kernel
theorem dX5_worthOf_48 : decode cX5_worthOf 48 = .ok (.ladd, 1) := by decide +kernel
theorem dX5_worthOf_49 : decode cX5_worthOf 49 = .ok (.lstore 4, 2) := by decide +kernel
theorem dX5_worthOf_51 : decode cX5_worthOf 51 = .ok (.iinc 6 1, 3) := by decide +kernel
theorem dX5_worthOf_54 : decode cX5_worthOf 54 = .ok (.goto (-48), 3) := by decide +kernel
theorem dX5_worthOf_57 : decode cX5_worthOf 57 = .ok (.lload 4, 2) := by decide +kernel
theorem dX5_worthOf_59 : decode cX5_worthOf 59 = .ok (.lreturn, 1) := by decide +kernel
theorem dX5_commonDivisor_0 : decode cX5_commonDivisor 0 = .ok (.lload_n 0, 1) := by decide +kernel
theorem dX5_commonDivisor_1 : decode cX5_commonDivisor 1 = .ok (.lstore 4, 2) := by decide +kernel
theorem dX5_commonDivisor_3 : decode cX5_commonDivisor 3 = .ok (.lload_n 2, 1) := by decide +kernel
theorem dX5_commonDivisor_4 : decode cX5_commonDivisor 4 = .ok (.lstore 6, 2) := by decide +kernel
theorem dX5_commonDivisor_6 : decode cX5_commonDivisor 6 = .ok (.iconst 0, 1) := by decide +kernel
theorem dX5_commonDivisor_7 : decode cX5_commonDivisor 7 = .ok (.istore 8, 2) := by decide +kernel
theorem dX5_commonDivisor_9 : decode cX5_commonDivisor 9 = .ok (.iload 8, 2) := by decide +kernel
theorem dX5_commonDivisor_11 : decode cX5_commonDivisor 11 = .ok (.bipush 100, 2) := by decide +kernel
theorem dX5_commonDivisor_13 : decode cX5_commonDivisor 13 = .ok (.if_icmp .ge 31, 3) := by decide +kernel
theorem dX5_commonDivisor_16 : decode cX5_commonDivisor 16 = .ok (.lload 6, 2) := by decide +kernel
theorem dX5_commonDivisor_18 : decode cX5_commonDivisor 18 = .ok (.lconst 0, 1) := by decide +kernel
theorem dX5_commonDivisor_19 : decode cX5_commonDivisor 19 = .ok (.lcmp, 1) := by decide +kernel
theorem dX5_commonDivisor_20 : decode cX5_commonDivisor 20 = .ok (.ifCond .eq 24, 3) := by decide +kernel
theorem dX5_commonDivisor_23 : decode cX5_commonDivisor 23 = .ok (.lload 4, 2) := by decide +kernel
theorem dX5_commonDivisor_25 : decode cX5_commonDivisor 25 = .ok (.lload 6, 2) := by decide +kernel
theorem dX5_commonDivisor_27 : decode cX5_commonDivisor 27 = .ok (.lrem, 1) := by decide +kernel
theorem dX5_commonDivisor_28 : decode cX5_commonDivisor 28 = .ok (.lstore 9, 2) := by decide +kernel
theorem dX5_commonDivisor_30 : decode cX5_commonDivisor 30 = .ok (.lload 6, 2) := by decide +kernel
theorem dX5_commonDivisor_32 : decode cX5_commonDivisor 32 = .ok (.lstore 4, 2) := by decide +kernel
theorem dX5_commonDivisor_34 : decode cX5_commonDivisor 34 = .ok (.lload 9, 2) := by decide +kernel
theorem dX5_commonDivisor_36 : decode cX5_commonDivisor 36 = .ok (.lstore 6, 2) := by decide +kernel
theorem dX5_commonDivisor_38 : decode cX5_commonDivisor 38 = .ok (.iinc 8 1, 3) := by decide +kernel
theorem dX5_commonDivisor_41 : decode cX5_commonDivisor 41 = .ok (.goto (-32), 3) := by decide +kernel
theorem dX5_commonDivisor_44 : decode cX5_commonDivisor 44 = .ok (.lload 4, 2) := by decide +kernel
theorem dX5_commonDivisor_46 : decode cX5_commonDivisor 46 = .ok (.lreturn, 1) := by decide +kernel
theorem dX6_init_0 : decode cX6_init 0 = .ok (.aload_n 0, 1) := by decide +kernel
theorem dX6_init_1 : decode cX6_init 1 = .ok (.invokespecial 1, 3) := by decide +kernel
theorem dX6_init_4 : decode cX6_init 4 = .ok (.aload_n 0, 1) := by decide +kernel
theorem dX6_init_5 : decode cX6_init 5 = .ok (.iconst 1, 1) := by decide +kernel
theorem dX6_init_6 : decode cX6_init 6 = .ok (.putfield 7, 3) := by decide +kernel
theorem dX6_init_9 : decode cX6_init 9 = .ok (.aload_n 0, 1) := by decide +kernel
theorem dX6_init_10 : decode cX6_init 10 = .ok (.sipush 240, 3) := by decide +kernel
theorem dX6_init_13 : decode cX6_init 13 = .ok (.newarray .long, 2) := by decide +kernel
theorem dX6_init_15 : decode cX6_init 15 = .ok (.putfield 13, 3) := by decide +kernel
theorem dX6_init_18 : decode cX6_init 18 = .ok (.aload_n 0, 1) := by decide +kernel
theorem dX6_init_19 : decode cX6_init 19 = .ok (.sipush 240, 3) := by decide +kernel
theorem dX6_init_22 : decode cX6_init 22 = .ok (.newarray .long, 2) := by decide +kernel
theorem dX6_init_24 : decode cX6_init 24 = .ok (.putfield 17, 3) := by decide +kernel
theorem dX6_init_27 : decode cX6_init 27 = .ok (.aload_n 0, 1) := by decide +kernel
theorem dX6_init_28 : decode cX6_init 28 = .ok (.bipush 12, 2) := by decide +kernel
theorem dX6_init_30 : decode cX6_init 30 = .ok (.newarray .int, 2) := by decide +kernel
theorem dX6_init_32 : decode cX6_init 32 = .ok (.putfield 20, 3) := by decide +kernel
theorem dX6_init_35 : decode cX6_init 35 = .ok (.aload_n 0, 1) := by decide +kernel
theorem dX6_init_36 : decode cX6_init 36 = .ok (.bipush 12, 2) := by decide +kernel
theorem dX6_init_38 : decode cX6_init 38 = .ok (.newarray .long, 2) := by decide +kernel
theorem dX6_init_40 : decode cX6_init 40 = .ok (.putfield 24, 3) := by decide +kernel
theorem dX6_init_43 : decode cX6_init 43 = .ok (.aload_n 0, 1) := by decide +kernel
theorem dX6_init_44 : decode cX6_init 44 = .ok (.bipush 12, 2) := by decide +kernel
theorem dX6_init_46 : decode cX6_init 46 = .ok (.newarray .long, 2) := by decide +kernel
theorem dX6_init_48 : decode cX6_init 48 = .ok (.putfield 27, 3) := by decide +kernel
theorem dX6_init_51 : decode cX6_init 51 = .ok (.aload_n 0, 1) := by decide +kernel
theorem dX6_init_52 : decode cX6_init 52 = .ok (.bipush 12, 2) := by decide +kernel
theorem dX6_init_54 : decode cX6_init 54 = .ok (.newarray .long, 2) := by decide +kernel
theorem dX6_init_56 : decode cX6_init 56 = .ok (.putfield 30, 3) := by decide +kernel
theorem dX6_init_59 : decode cX6_init 59 = .ok (.aload_n 0, 1) := by decide +kernel
theorem dX6_init_60 : decode cX6_init 60 = .ok (.sipush 4100, 3) := by decide +kernel
theorem dX6_init_63 : decode cX6_init 63 = .ok (.newarray .int, 2) := by decide +kernel
theorem dX6_init_65 : decode cX6_init 65 = .ok (.putfield 33, 3) := by decide +kernel
theorem dX6_init_68 : decode cX6_init 68 = .ok (.aload_n 0, 1) := by decide +kernel
theorem dX6_init_69 : decode cX6_init 69 = .ok (.sipush 4100, 3) := by decide +kernel
theorem dX6_init_72 : decode cX6_init 72 = .ok (.newarray .int, 2) := by decide +kernel
theorem dX6_init_74 : decode cX6_init 74 = .ok (.putfield 36, 3) := by decide +kernel
theorem dX6_init_77 : decode cX6_init 77 = .ok (.aload_n 0, 1) := by decide +kernel
theorem dX6_init_78 : decode cX6_init 78 = .ok (.sipush 4100, 3) := by decide +kernel
theorem dX6_init_81 : decode cX6_init 81 = .ok (.newarray .long, 2) := by decide +kernel
theorem dX6_init_83 : decode cX6_init 83 = .ok (.putfield 39, 3) := by decide +kernel
theorem dX6_init_86 : decode cX6_init 86 = .ok (.aload_n 0, 1) := by decide +kernel
theorem dX6_init_87 : decode cX6_init 87 = .ok (.sipush 4100, 3) := by decide +kernel
theorem dX6_init_90 : decode cX6_init 90 = .ok (.newarray .long, 2) := by decide +kernel
theorem dX6_init_92 : decode cX6_init 92 = .ok (.putfield 42, 3) := by decide +kernel
theorem dX6_init_95 : decode cX6_init 95 = .ok (.aload_n 0, 1) := by decide +kernel
theorem dX6_init_96 : decode cX6_init 96 = .ok (.sipush 4100, 3) := by decide +kernel
theorem dX6_init_99 : decode cX6_init 99 = .ok (.newarray .long, 2) := by decide +kernel
theorem dX6_init_101 : decode cX6_init 101 = .ok (.putfield 45, 3) := by decide +kernel
theorem dX6_init_104 : decode cX6_init 104 = .ok (.aload_n 0, 1) := by decide +kernel
theorem dX6_init_105 : decode cX6_init 105 = .ok (.sipush 4100, 3) := by decide +kernel
theorem dX6_init_108 : decode cX6_init 108 = .ok (.newarray .int, 2) := by decide +kernel
theorem dX6_init_110 : decode cX6_init 110 = .ok (.putfield 48, 3) := by decide +kernel
theorem dX6_init_113 : decode cX6_init 113 = .ok (.aload_n 0, 1) := by decide +kernel
theorem dX6_init_114 : decode cX6_init 114 = .ok (.sipush 4100, 3) := by decide +kernel
theorem dX6_init_117 : decode cX6_init 117 = .ok (.newarray .int, 2) := by decide +kernel
theorem dX6_init_119 : decode cX6_init 119 = .ok (.putfield 51, 3) := by decide +kernel
theorem dX6_init_122 : decode cX6_init 122 = .ok (.aload_n 0, 1) := by decide +kernel
theorem dX6_init_123 : decode cX6_init 123 = .ok (.sipush 4100, 3) := by decide +kernel
theorem dX6_init_126 : decode cX6_init 126 = .ok (.newarray .long, 2) := by decide +kernel
theorem dX6_init_128 : decode cX6_init 128 = .ok (.putfield 54, 3) := by decide +kernel
theorem dX6_init_131 : decode cX6_init 131 = .ok (.aload_n 0, 1) := by decide +kernel
theorem dX6_init_132 : decode cX6_init 132 = .ok (.sipush 4100, 3) := by decide +kernel
theorem dX6_init_135 : decode cX6_init 135 = .ok (.newarray .long, 2) := by decide +kernel
theorem dX6_init_137 : decode cX6_init 137 = .ok (.putfield 57, 3) := by decide +kernel
theorem dX6_init_140 : decode cX6_init 140 = .ok (.return_, 1) := by decide +kernel
theorem dX6_party_0 : decode cX6_party 0 = .ok (.aload_n 0, 1) := by decide +kernel
theorem dX6_party_1 : decode cX6_party 1 = .ok (.getfield 7, 3) := by decide +kernel
theorem dX6_party_4 : decode cX6_party 4 = .ok (.bipush 24, 2) := by decide +kernel
theorem dX6_party_6 : decode cX6_party 6 = .ok (.if_icmp .ne 6, 3) := by decide +kernel
theorem dX6_party_9 : decode cX6_party 9 = .ok (.bipush (-2), 2) := by decide +kernel
theorem dX6_party_11 : decode cX6_party 11 = .ok (.ireturn, 1) := by decide +kernel
theorem dX6_party_12 : decode cX6_party 12 = .ok (.aload_n 0, 1) := by decide +kernel
theorem dX6_party_13 : decode cX6_party 13 = .ok (.dup, 1) := by decide +kernel
theorem dX6_party_14 : decode cX6_party 14 = .ok (.getfield 7, 3) := by decide +kernel
theorem dX6_party_17 : decode cX6_party 17 = .ok (.iconst 1, 1) := by decide +kernel
theorem dX6_party_18 : decode cX6_party 18 = .ok (.iadd, 1) := by decide +kernel
theorem dX6_party_19 : decode cX6_party 19 = .ok (.putfield 7, 3) := by decide +kernel
theorem dX6_party_22 : decode cX6_party 22 = .ok (.aload_n 0, 1) := by decide +kernel
theorem dX6_party_23 : decode cX6_party 23 = .ok (.getfield 7, 3) := by decide +kernel
theorem dX6_party_26 : decode cX6_party 26 = .ok (.iconst 1, 1) := by decide +kernel
theorem dX6_party_27 : decode cX6_party 27 = .ok (.isub, 1) := by decide +kernel
theorem dX6_party_28 : decode cX6_party 28 = .ok (.ireturn, 1) := by decide +kernel
theorem dX6_kind_0 : decode cX6_kind 0 = .ok (.aload_n 0, 1) := by decide +kernel
theorem dX6_kind_1 : decode cX6_kind 1 = .ok (.getfield 60, 3) := by decide +kernel
theorem dX6_kind_4 : decode cX6_kind 4 = .ok (.bipush 12, 2) := by decide +kernel
theorem dX6_kind_6 : decode cX6_kind 6 = .ok (.if_icmp .ne 6, 3) := by decide +kernel
theorem dX6_kind_9 : decode cX6_kind 9 = .ok (.bipush (-2), 2) := by decide +kernel
theorem dX6_kind_11 : decode cX6_kind 11 = .ok (.ireturn, 1) := by decide +kernel
theorem dX6_kind_12 : decode cX6_kind 12 = .ok (.aload_n 0, 1) := by decide +kernel
theorem dX6_kind_13 : decode cX6_kind 13 = .ok (.dup, 1) := by decide +kernel
theorem dX6_kind_14 : decode cX6_kind 14 = .ok (.getfield 60, 3) := by decide +kernel
theorem dX6_kind_17 : decode cX6_kind 17 = .ok (.iconst 1, 1) := by decide +kernel
theorem dX6_kind_18 : decode cX6_kind 18 = .ok (.iadd, 1) := by decide +kernel
theorem dX6_kind_19 : decode cX6_kind 19 = .ok (.putfield 60, 3) := by decide +kernel
theorem dX6_kind_22 : decode cX6_kind 22 = .ok (.aload_n 0, 1) := by decide +kernel
theorem dX6_kind_23 : decode cX6_kind 23 = .ok (.getfield 60, 3) := by decide +kernel
theorem dX6_kind_26 : decode cX6_kind 26 = .ok (.iconst 1, 1) := by decide +kernel
theorem dX6_kind_27 : decode cX6_kind 27 = .ok (.isub, 1) := by decide +kernel
theorem dX6_kind_28 : decode cX6_kind 28 = .ok (.ireturn, 1) := by decide +kernel
theorem dX6_isParty_0 : decode cX6_isParty 0 = .ok (.iload_n 1, 1) := by decide +kernel
theorem dX6_isParty_1 : decode cX6_isParty 1 = .ok (.ifCond .lt 15, 3) := by decide +kernel
theorem dX6_isParty_4 : decode cX6_isParty 4 = .ok (.iload_n 1, 1) := by decide +kernel
theorem dX6_isParty_5 : decode cX6_isParty 5 = .ok (.aload_n 0, 1) := by decide +kernel
theorem dX6_isParty_6 : decode cX6_isParty 6 = .ok (.getfield 7, 3) := by decide +kernel
theorem dX6_isParty_9 : decode cX6_isParty 9 = .ok (.if_icmp .ge 7, 3) := by decide +kernel
theorem dX6_isParty_12 : decode cX6_isParty 12 = .ok (.iconst 1, 1) := by decide +kernel
theorem dX6_isParty_13 : decode cX6_isParty 13 = .ok (.goto 4, 3) := by decide +kernel
theorem dX6_isParty_16 : decode cX6_isParty 16 = .ok (.iconst 0, 1) := by decide +kernel
theorem dX6_isParty_17 : decode cX6_isParty 17 = .ok (.ireturn, 1) := by decide +kernel
theorem dX6_isKind_0 : decode cX6_isKind 0 = .ok (.iload_n 1, 1) := by decide +kernel
theorem dX6_isKind_1 : decode cX6_isKind 1 = .ok (.ifCond .lt 15, 3) := by decide +kernel
theorem dX6_isKind_4 : decode cX6_isKind 4 = .ok (.iload_n 1, 1) := by decide +kernel
theorem dX6_isKind_5 : decode cX6_isKind 5 = .ok (.aload_n 0, 1) := by decide +kernel
theorem dX6_isKind_6 : decode cX6_isKind 6 = .ok (.getfield 60, 3) := by decide +kernel
theorem dX6_isKind_9 : decode cX6_isKind 9 = .ok (.if_icmp .ge 7, 3) := by decide +kernel
theorem dX6_isKind_12 : decode cX6_isKind 12 = .ok (.iconst 1, 1) := by decide +kernel
theorem dX6_isKind_13 : decode cX6_isKind 13 = .ok (.goto 4, 3) := by decide +kernel
theorem dX6_isKind_16 : decode cX6_isKind 16 = .ok (.iconst 0, 1) := by decide +kernel
theorem dX6_isKind_17 : decode cX6_isKind 17 = .ok (.ireturn, 1) := by decide +kernel
theorem dX6_isDay_0 : decode cX6_isDay 0 = .ok (.lload_n 0, 1) := by decide +kernel
theorem dX6_isDay_1 : decode cX6_isDay 1 = .ok (.lconst 0, 1) := by decide +kernel
theorem dX6_isDay_2 : decode cX6_isDay 2 = .ok (.lcmp, 1) := by decide +kernel
theorem dX6_isDay_3 : decode cX6_isDay 3 = .ok (.ifCond .lt 15, 3) := by decide +kernel
theorem dX6_isDay_6 : decode cX6_isDay 6 = .ok (.lload_n 0, 1) := by decide +kernel
theorem dX6_isDay_7 : decode cX6_isDay 7 = .ok (.ldc2_w 63, 3) := by decide +kernel
theorem dX6_isDay_10 : decode cX6_isDay 10 = .ok (.lcmp, 1) := by decide +kernel
theorem dX6_isDay_11 : decode cX6_isDay 11 = .ok (.ifCond .gt 7, 3) := by decide +kernel
theorem dX6_isDay_14 : decode cX6_isDay 14 = .ok (.iconst 1, 1) := by decide +kernel
theorem dX6_isDay_15 : decode cX6_isDay 15 = .ok (.goto 4, 3) := by decide +kernel
theorem dX6_isDay_18 : decode cX6_isDay 18 = .ok (.iconst 0, 1) := by decide +kernel
theorem dX6_isDay_19 : decode cX6_isDay 19 = .ok (.ireturn, 1) := by decide +kernel
set_option maxRecDepth 20000 in
theorem ggX6_price_X6_isKind : GoodIn wsX6_price wsX6_isKind := goodIn_r _ [9, 10, 14, 15, 16, 17, 18, 19, 20, 21, 22, 23, 24, 25, 26, 27, 28, 29, 30, 31, 32, 33] (by decide +kernel) (by decide +kernel)
set_option maxRecDepth 20000 in
theorem gX6_price_X6_isKind : GoodIn wsX6_price (wsV RX6 65 RX6 yX6_isKind wsX6_isKind) := goodIn_app (goodIn_of _ (by decide +kernel)) ggX6_price_X6_isKind
set_option maxRecDepth 20000 in
theorem ggX6_price_X6_isDay : GoodIn wsX6_price wsX6_isDay := goodIn_r _ [13, 1] (by decide +kernel) (by decide +kernel)
set_option maxRecDepth 20000 in
theorem gX6_price_X6_isDay : GoodIn wsX6_price (va_wsS RX6 69 yX6_isDay wsX6_isDay) := goodIn_app (goodIn_of _ (by decide +kernel)) ggX6_price_X6_isDay
theorem dX6_price_0 : decode cX6_price 0 = .ok (.aload_n 0, 1) := by decide +kernel
theorem dX6_price_1 : decode cX6_price 1 = .ok (.iload_n 1, 1) := by decide +kernel
theorem dX6_price_2 : decode cX6_price 2 = .ok (.invokevirtual 65, 3) := by decide +kernel
theorem dX6_price_5 : decode cX6_price 5 = .ok (.ifCond .eq 26, 3) := by decide +kernel
theorem dX6_price_8 : decode cX6_price 8 = .ok (.lload_n 2, 1) := by decide +kernel
theorem dX6_price_9 : decode cX6_price 9 = .ok (.invokestatic 69, 3) := by decide +kernel
theorem dX6_price_12 : decode cX6_price 12 = .ok (.ifCond .eq 19, 3) := by decide +kernel
theorem dX6_price_15 : decode cX6_price 15 = .ok (.lload 4, 2) := by decide +kernel
theorem dX6_price_17 : decode cX6_price 17 = .ok (.lconst 0, 1) := by decide +kernel
theorem dX6_price_18 : decode cX6_price 18 = .ok (.lcmp, 1) := by decide +kernel
theorem dX6_price_19 : decode cX6_price 19 = .ok (.ifCond .lt 12, 3) := by decide +kernel
theorem dX6_price_22 : decode cX6_price 22 = .ok (.lload 4, 2) := by decide +kernel
theorem dX6_price_24 : decode cX6_price 24 = .ok (.ldc2_w 63, 3) := by decide +kernel
theorem dX6_price_27 : decode cX6_price 27 = .ok (.lcmp, 1) := by decide +kernel
theorem dX6_price_28 : decode cX6_price 28 = .ok (.ifCond .le 5, 3) := by decide +kernel
theorem dX6_price_31 : decode cX6_price 31 = .ok (.iconst 0, 1) := by decide +kernel
theorem dX6_price_32 : decode cX6_price 32 = .ok (.ireturn, 1) := by decide +kernel
theorem dX6_price_33 : decode cX6_price 33 = .ok (.aload_n 0, 1) := by decide +kernel
theorem dX6_price_34 : decode cX6_price 34 = .ok (.getfield 20, 3) := by decide +kernel
theorem dX6_price_37 : decode cX6_price 37 = .ok (.iload_n 1, 1) := by decide +kernel
theorem dX6_price_38 : decode cX6_price 38 = .ok (.iaload, 1) := by decide +kernel
theorem dX6_price_39 : decode cX6_price 39 = .ok (.istore 6, 2) := by decide +kernel
theorem dX6_price_41 : decode cX6_price 41 = .ok (.iconst 0, 1) := by decide +kernel
theorem dX6_price_42 : decode cX6_price 42 = .ok (.istore 7, 2) := by decide +kernel
theorem dX6_price_44 : decode cX6_price 44 = .ok (.iload 7, 2) := by decide +kernel
theorem dX6_price_46 : decode cX6_price 46 = .ok (.aload_n 0, 1) := by decide +kernel
theorem dX6_price_47 : decode cX6_price 47 = .ok (.getfield 20, 3) := by decide +kernel
theorem dX6_price_50 : decode cX6_price 50 = .ok (.iload_n 1, 1) := by decide +kernel
theorem dX6_price_51 : decode cX6_price 51 = .ok (.iaload, 1) := by decide +kernel
theorem dX6_price_52 : decode cX6_price 52 = .ok (.if_icmp .ge 35, 3) := by decide +kernel
theorem dX6_price_55 : decode cX6_price 55 = .ok (.aload_n 0, 1) := by decide +kernel
theorem dX6_price_56 : decode cX6_price 56 = .ok (.getfield 13, 3) := by decide +kernel
theorem dX6_price_59 : decode cX6_price 59 = .ok (.bipush 20, 2) := by decide +kernel
theorem dX6_price_61 : decode cX6_price 61 = .ok (.iload_n 1, 1) := by decide +kernel
theorem dX6_price_62 : decode cX6_price 62 = .ok (.imul, 1) := by decide +kernel
theorem dX6_price_63 : decode cX6_price 63 = .ok (.iload 7, 2) := by decide +kernel
theorem dX6_price_65 : decode cX6_price 65 = .ok (.iadd, 1) := by decide +kernel
theorem dX6_price_66 : decode cX6_price 66 = .ok (.laload, 1) := by decide +kernel
theorem dX6_price_67 : decode cX6_price 67 = .ok (.lload_n 2, 1) := by decide +kernel
theorem dX6_price_68 : decode cX6_price 68 = .ok (.lcmp, 1) := by decide +kernel
theorem dX6_price_69 : decode cX6_price 69 = .ok (.ifCond .ne 8, 3) := by decide +kernel
theorem dX6_price_72 : decode cX6_price 72 = .ok (.iload 7, 2) := by decide +kernel
theorem dX6_price_74 : decode cX6_price 74 = .ok (.goto 5, 3) := by decide +kernel
theorem dX6_price_77 : decode cX6_price 77 = .ok (.iload 6, 2) := by decide +kernel
theorem dX6_price_79 : decode cX6_price 79 = .ok (.istore 6, 2) := by decide +kernel
theorem dX6_price_81 : decode cX6_price 81 = .ok (.iinc 7 1, 3) := by decide +kernel
theorem dX6_price_84 : decode cX6_price 84 = .ok (.goto (-40), 3) := by decide +kernel
theorem dX6_price_87 : decode cX6_price 87 = .ok (.iload 6, 2) := by decide +kernel
theorem dX6_price_89 : decode cX6_price 89 = .ok (.bipush 20, 2) := by decide +kernel
theorem dX6_price_91 : decode cX6_price 91 = .ok (.if_icmp .ne 5, 3) := by decide +kernel
theorem dX6_price_94 : decode cX6_price 94 = .ok (.iconst 0, 1) := by decide +kernel
theorem dX6_price_95 : decode cX6_price 95 = .ok (.ireturn, 1) := by decide +kernel
theorem dX6_price_96 : decode cX6_price 96 = .ok (.aload_n 0, 1) := by decide +kernel
theorem dX6_price_97 : decode cX6_price 97 = .ok (.getfield 13, 3) := by decide +kernel
theorem dX6_price_100 : decode cX6_price 100 = .ok (.bipush 20, 2) := by decide +kernel
theorem dX6_price_102 : decode cX6_price 102 = .ok (.iload_n 1, 1) := by decide +kernel
theorem dX6_price_103 : decode cX6_price 103 = .ok (.imul, 1) := by decide +kernel
theorem dX6_price_104 : decode cX6_price 104 = .ok (.iload 6, 2) := by decide +kernel
theorem dX6_price_106 : decode cX6_price 106 = .ok (.iadd, 1) := by decide +kernel
theorem dX6_price_107 : decode cX6_price 107 = .ok (.lload_n 2, 1) := by decide +kernel
theorem dX6_price_108 : decode cX6_price 108 = .ok (.lastore, 1) := by decide +kernel
theorem dX6_price_109 : decode cX6_price 109 = .ok (.aload_n 0, 1) := by decide +kernel
theorem dX6_price_110 : decode cX6_price 110 = .ok (.getfield 17, 3) := by decide +kernel
theorem dX6_price_113 : decode cX6_price 113 = .ok (.bipush 20, 2) := by decide +kernel
theorem dX6_price_115 : decode cX6_price 115 = .ok (.iload_n 1, 1) := by decide +kernel
theorem dX6_price_116 : decode cX6_price 116 = .ok (.imul, 1) := by decide +kernel
theorem dX6_price_117 : decode cX6_price 117 = .ok (.iload 6, 2) := by decide +kernel
theorem dX6_price_119 : decode cX6_price 119 = .ok (.iadd, 1) := by decide +kernel
theorem dX6_price_120 : decode cX6_price 120 = .ok (.lload 4, 2) := by decide +kernel
theorem dX6_price_122 : decode cX6_price 122 = .ok (.lastore, 1) := by decide +kernel
theorem dX6_price_123 : decode cX6_price 123 = .ok (.aload_n 0, 1) := by decide +kernel
theorem dX6_price_124 : decode cX6_price 124 = .ok (.getfield 20, 3) := by decide +kernel
theorem dX6_price_127 : decode cX6_price 127 = .ok (.iload_n 1, 1) := by decide +kernel
theorem dX6_price_128 : decode cX6_price 128 = .ok (.dup2, 1) := by decide +kernel
theorem dX6_price_129 : decode cX6_price 129 = .ok (.iaload, 1) := by decide +kernel
theorem dX6_price_130 : decode cX6_price 130 = .ok (.iload 6, 2) := by decide +kernel
theorem dX6_price_132 : decode cX6_price 132 = .ok (.aload_n 0, 1) := by decide +kernel
theorem dX6_price_133 : decode cX6_price 133 = .ok (.getfield 20, 3) := by decide +kernel
theorem dX6_price_136 : decode cX6_price 136 = .ok (.iload_n 1, 1) := by decide +kernel
theorem dX6_price_137 : decode cX6_price 137 = .ok (.iaload, 1) := by decide +kernel
theorem dX6_price_138 : decode cX6_price 138 = .ok (.if_icmp .ne 7, 3) := by decide +kernel
theorem dX6_price_141 : decode cX6_price 141 = .ok (.iconst 1, 1) := by decide +kernel
theorem dX6_price_142 : decode cX6_price 142 = .ok (.goto 4, 3) := by decide +kernel
theorem dX6_price_145 : decode cX6_price 145 = .ok (.iconst 0, 1) := by decide +kernel
theorem dX6_price_146 : decode cX6_price 146 = .ok (.iadd, 1) := by decide +kernel
theorem dX6_price_147 : decode cX6_price 147 = .ok (.iastore, 1) := by decide +kernel
theorem dX6_price_148 : decode cX6_price 148 = .ok (.iconst 1, 1) := by decide +kernel
theorem dX6_price_149 : decode cX6_price 149 = .ok (.ireturn, 1) := by decide +kernel
theorem dX6_priceOn_0 : decode cX6_priceOn 0 = .ok (.ldc2_w 73, 3) := by decide +kernel
theorem dX6_priceOn_3 : decode cX6_priceOn 3 = .ok (.lstore 4, 2) := by decide +kernel
theorem dX6_priceOn_5 : decode cX6_priceOn 5 = .ok (.lconst 0, 1) := by decide +kernel
theorem dX6_priceOn_6 : decode cX6_priceOn 6 = .ok (.lstore 6, 2) := by decide +kernel
theorem dX6_priceOn_8 : decode cX6_priceOn 8 = .ok (.iconst 0, 1) := by decide +kernel
theorem dX6_priceOn_9 : decode cX6_priceOn 9 = .ok (.istore 8, 2) := by decide +kernel
theorem dX6_priceOn_11 : decode cX6_priceOn 11 = .ok (.iload 8, 2) := by decide +kernel
theorem dX6_priceOn_13 : decode cX6_priceOn 13 = .ok (.aload_n 0, 1) := by decide +kernel
theorem dX6_priceOn_14 : decode cX6_priceOn 14 = .ok (.getfield 20, 3) := by decide +kernel
theorem dX6_priceOn_17 : decode cX6_priceOn 17 = .ok (.iload_n 1, 1) := by decide +kernel
theorem dX6_priceOn_18 : decode cX6_priceOn 18 = .ok (.iaload, 1) := by decide +kernel
theorem dX6_priceOn_19 : decode cX6_priceOn 19 = .ok (.if_icmp .ge 56, 3) := by decide +kernel
theorem dX6_priceOn_22 : decode cX6_priceOn 22 = .ok (.aload_n 0, 1) := by decide +kernel
theorem dX6_priceOn_23 : decode cX6_priceOn 23 = .ok (.getfield 13, 3) := by decide +kernel
theorem dX6_priceOn_26 : decode cX6_priceOn 26 = .ok (.bipush 20, 2) := by decide +kernel
theorem dX6_priceOn_28 : decode cX6_priceOn 28 = .ok (.iload_n 1, 1) := by decide +kernel
theorem dX6_priceOn_29 : decode cX6_priceOn 29 = .ok (.imul, 1) := by decide +kernel
theorem dX6_priceOn_30 : decode cX6_priceOn 30 = .ok (.iload 8, 2) := by decide +kernel
theorem dX6_priceOn_32 : decode cX6_priceOn 32 = .ok (.iadd, 1) := by decide +kernel
theorem dX6_priceOn_33 : decode cX6_priceOn 33 = .ok (.laload, 1) := by decide +kernel
theorem dX6_priceOn_34 : decode cX6_priceOn 34 = .ok (.lstore 9, 2) := by decide +kernel
theorem dX6_priceOn_36 : decode cX6_priceOn 36 = .ok (.lload 9, 2) := by decide +kernel
theorem dX6_priceOn_38 : decode cX6_priceOn 38 = .ok (.lload_n 2, 1) := by decide +kernel
theorem dX6_priceOn_39 : decode cX6_priceOn 39 = .ok (.lcmp, 1) := by decide +kernel
theorem dX6_priceOn_40 : decode cX6_priceOn 40 = .ok (.ifCond .gt 29, 3) := by decide +kernel
theorem dX6_priceOn_43 : decode cX6_priceOn 43 = .ok (.lload 9, 2) := by decide +kernel
theorem dX6_priceOn_45 : decode cX6_priceOn 45 = .ok (.lload 4, 2) := by decide +kernel
theorem dX6_priceOn_47 : decode cX6_priceOn 47 = .ok (.lcmp, 1) := by decide +kernel
theorem dX6_priceOn_48 : decode cX6_priceOn 48 = .ok (.ifCond .le 21, 3) := by decide +kernel
theorem dX6_priceOn_51 : decode cX6_priceOn 51 = .ok (.lload 9, 2) := by decide +kernel
theorem dX6_priceOn_53 : decode cX6_priceOn 53 = .ok (.lstore 4, 2) := by decide +kernel
theorem dX6_priceOn_55 : decode cX6_priceOn 55 = .ok (.aload_n 0, 1) := by decide +kernel
theorem dX6_priceOn_56 : decode cX6_priceOn 56 = .ok (.getfield 17, 3) := by decide +kernel
theorem dX6_priceOn_59 : decode cX6_priceOn 59 = .ok (.bipush 20, 2) := by decide +kernel
theorem dX6_priceOn_61 : decode cX6_priceOn 61 = .ok (.iload_n 1, 1) := by decide +kernel
theorem dX6_priceOn_62 : decode cX6_priceOn 62 = .ok (.imul, 1) := by decide +kernel
theorem dX6_priceOn_63 : decode cX6_priceOn 63 = .ok (.iload 8, 2) := by decide +kernel
theorem dX6_priceOn_65 : decode cX6_priceOn 65 = .ok (.iadd, 1) := by decide +kernel
theorem dX6_priceOn_66 : decode cX6_priceOn 66 = .ok (.laload, 1) := by decide +kernel
theorem dX6_priceOn_67 : decode cX6_priceOn 67 = .ok (.lstore 6, 2) := by decide +kernel
theorem dX6_priceOn_69 : decode cX6_priceOn 69 = .ok (.iinc 8 1, 3) := by decide +kernel
theorem dX6_priceOn_72 : decode cX6_priceOn 72 = .ok (.goto (-61), 3) := by decide +kernel
theorem dX6_priceOn_75 : decode cX6_priceOn 75 = .ok (.lload 6, 2) := by decide +kernel
theorem dX6_priceOn_77 : decode cX6_priceOn 77 = .ok (.lreturn, 1) := by decide +kernel
theorem dX6_move_0 : decode cX6_move 0 = .ok (.aload_n 0, 1) := by decide +kernel
theorem dX6_move_1 : decode cX6_move 1 = .ok (.getfield 51, 3) := by decide +kernel
theorem dX6_move_4 : decode cX6_move 4 = .ok (.aload_n 0, 1) := by decide +kernel
theorem dX6_move_5 : decode cX6_move 5 = .ok (.getfield 75, 3) := by decide +kernel
theorem dX6_move_8 : decode cX6_move 8 = .ok (.iload_n 1, 1) := by decide +kernel
theorem dX6_move_9 : decode cX6_move 9 = .ok (.iastore, 1) := by decide +kernel
theorem dX6_move_10 : decode cX6_move 10 = .ok (.aload_n 0, 1) := by decide +kernel
theorem dX6_move_11 : decode cX6_move 11 = .ok (.getfield 48, 3) := by decide +kernel
theorem dX6_move_14 : decode cX6_move 14 = .ok (.aload_n 0, 1) := by decide +kernel
theorem dX6_move_15 : decode cX6_move 15 = .ok (.getfield 75, 3) := by decide +kernel
theorem dX6_move_18 : decode cX6_move 18 = .ok (.iload_n 2, 1) := by decide +kernel
theorem dX6_move_19 : decode cX6_move 19 = .ok (.iastore, 1) := by decide +kernel
theorem dX6_move_20 : decode cX6_move 20 = .ok (.aload_n 0, 1) := by decide +kernel
theorem dX6_move_21 : decode cX6_move 21 = .ok (.getfield 54, 3) := by decide +kernel
theorem dX6_move_24 : decode cX6_move 24 = .ok (.aload_n 0, 1) := by decide +kernel
theorem dX6_move_25 : decode cX6_move 25 = .ok (.getfield 75, 3) := by decide +kernel
theorem dX6_move_28 : decode cX6_move 28 = .ok (.lload_n 3, 1) := by decide +kernel
theorem dX6_move_29 : decode cX6_move 29 = .ok (.lastore, 1) := by decide +kernel
theorem dX6_move_30 : decode cX6_move 30 = .ok (.aload_n 0, 1) := by decide +kernel
theorem dX6_move_31 : decode cX6_move 31 = .ok (.getfield 57, 3) := by decide +kernel
theorem dX6_move_34 : decode cX6_move 34 = .ok (.aload_n 0, 1) := by decide +kernel
theorem dX6_move_35 : decode cX6_move 35 = .ok (.getfield 75, 3) := by decide +kernel
theorem dX6_move_38 : decode cX6_move 38 = .ok (.lload 5, 2) := by decide +kernel
theorem dX6_move_40 : decode cX6_move 40 = .ok (.lastore, 1) := by decide +kernel
theorem dX6_move_41 : decode cX6_move 41 = .ok (.aload_n 0, 1) := by decide +kernel
theorem dX6_move_42 : decode cX6_move 42 = .ok (.dup, 1) := by decide +kernel
theorem dX6_move_43 : decode cX6_move 43 = .ok (.getfield 75, 3) := by decide +kernel
theorem dX6_move_46 : decode cX6_move 46 = .ok (.iconst 1, 1) := by decide +kernel
theorem dX6_move_47 : decode cX6_move 47 = .ok (.iadd, 1) := by decide +kernel
theorem dX6_move_48 : decode cX6_move 48 = .ok (.putfield 75, 3) := by decide +kernel
theorem dX6_move_51 : decode cX6_move 51 = .ok (.return_, 1) := by decide +kernel
set_option maxRecDepth 20000 in
theorem ggX6_mayCome_X6_isParty : GoodIn wsX6_mayCome wsX6_isParty := goodIn_r _ [7, 8, 12, 13, 14, 15, 16, 17, 18, 19, 20, 21, 22, 23, 24, 25, 26, 27, 28, 29, 30, 31] (by decide +kernel) (by decide +kernel)
set_option maxRecDepth 20000 in
theorem gX6_mayCome_X6_isParty : GoodIn wsX6_mayCome (wsV RX6 78 RX6 yX6_isParty wsX6_isParty) := goodIn_app (goodIn_of _ (by decide +kernel)) ggX6_mayCome_X6_isParty
set_option maxRecDepth 20000 in
theorem ggX6_mayCome_X6_isDay : GoodIn wsX6_mayCome wsX6_isDay := goodIn_r _ [11, 1] (by decide +kernel) (by decide +kernel)
set_option maxRecDepth 20000 in
theorem gX6_mayCome_X6_isDay : GoodIn wsX6_mayCome (va_wsS RX6 69 yX6_isDay wsX6_isDay) := goodIn_app (goodIn_of _ (by decide +kernel)) ggX6_mayCome_X6_isDay
theorem dX6_mayCome_0 : decode cX6_mayCome 0 = .ok (.aload_n 0, 1) := by decide +kernel
theorem dX6_mayCome_1 : decode cX6_mayCome 1 = .ok (.iload_n 1, 1) := by decide +kernel
theorem dX6_mayCome_2 : decode cX6_mayCome 2 = .ok (.invokevirtual 78, 3) := by decide +kernel
theorem dX6_mayCome_5 : decode cX6_mayCome 5 = .ok (.ifCond .eq 43, 3) := by decide +kernel
theorem dX6_mayCome_8 : decode cX6_mayCome 8 = .ok (.iload_n 1, 1) := by decide +kernel
theorem dX6_mayCome_9 : decode cX6_mayCome 9 = .ok (.ifCond .le 39, 3) := by decide +kernel
theorem dX6_mayCome_12 : decode cX6_mayCome 12 = .ok (.lload_n 2, 1) := by decide +kernel
theorem dX6_mayCome_13 : decode cX6_mayCome 13 = .ok (.lconst 1, 1) := by decide +kernel
theorem dX6_mayCome_14 : decode cX6_mayCome 14 = .ok (.lcmp, 1) := by decide +kernel
theorem dX6_mayCome_15 : decode cX6_mayCome 15 = .ok (.ifCond .lt 33, 3) := by decide +kernel
theorem dX6_mayCome_18 : decode cX6_mayCome 18 = .ok (.lload_n 2, 1) := by decide +kernel
theorem dX6_mayCome_19 : decode cX6_mayCome 19 = .ok (.ldc2_w 63, 3) := by decide +kernel
theorem dX6_mayCome_22 : decode cX6_mayCome 22 = .ok (.lcmp, 1) := by decide +kernel
theorem dX6_mayCome_23 : decode cX6_mayCome 23 = .ok (.ifCond .gt 25, 3) := by decide +kernel
theorem dX6_mayCome_26 : decode cX6_mayCome 26 = .ok (.lload 4, 2) := by decide +kernel
theorem dX6_mayCome_28 : decode cX6_mayCome 28 = .ok (.invokestatic 69, 3) := by decide +kernel
theorem dX6_mayCome_31 : decode cX6_mayCome 31 = .ok (.ifCond .eq 17, 3) := by decide +kernel
theorem dX6_mayCome_34 : decode cX6_mayCome 34 = .ok (.lload 4, 2) := by decide +kernel
theorem dX6_mayCome_36 : decode cX6_mayCome 36 = .ok (.aload_n 0, 1) := by decide +kernel
theorem dX6_mayCome_37 : decode cX6_mayCome 37 = .ok (.getfield 81, 3) := by decide +kernel
theorem dX6_mayCome_40 : decode cX6_mayCome 40 = .ok (.lcmp, 1) := by decide +kernel
theorem dX6_mayCome_41 : decode cX6_mayCome 41 = .ok (.ifCond .lt 7, 3) := by decide +kernel
theorem dX6_mayCome_44 : decode cX6_mayCome 44 = .ok (.iconst 1, 1) := by decide +kernel
theorem dX6_mayCome_45 : decode cX6_mayCome 45 = .ok (.goto 4, 3) := by decide +kernel
theorem dX6_mayCome_48 : decode cX6_mayCome 48 = .ok (.iconst 0, 1) := by decide +kernel
theorem dX6_mayCome_49 : decode cX6_mayCome 49 = .ok (.ireturn, 1) := by decide +kernel
set_option maxRecDepth 20000 in
theorem ggX6_out_X6_mayCome : GoodIn wsX6_out wsX6_mayCome := goodIn_r _ [12, 13, 3, 14, 15, 16, 11, 17, 18, 19, 20, 21, 44, 45, 46, 47, 48, 49, 50, 51, 52, 53, 54, 55, 56, 57, 58, 59, 60, 61, 62, 63] (by decide +kernel) (by decide +kernel)
set_option maxRecDepth 20000 in
theorem gX6_out_X6_mayCome : GoodIn wsX6_out (wsV RX6 85 RX6 yX6_mayCome wsX6_mayCome) := goodIn_app (goodIn_of _ (by decide +kernel)) ggX6_out_X6_mayCome
set_option maxRecDepth 20000 in
theorem ggX6_out_X6_isKind : GoodIn wsX6_out wsX6_isKind := goodIn_r _ [25, 26, 44, 45, 46, 47, 48, 49, 50, 51, 52, 53, 54, 55, 56, 57, 58, 59, 60, 61, 62, 63] (by decide +kernel) (by decide +kernel)
set_option maxRecDepth 20000 in
theorem gX6_out_X6_isKind : GoodIn wsX6_out (wsV RX6 65 RX6 yX6_isKind wsX6_isKind) := goodIn_app (goodIn_of _ (by decide +kernel)) ggX6_out_X6_isKind
set_option maxRecDepth 20000 in
theorem ggX6_out_X6_priceOn : GoodIn wsX6_out wsX6_priceOn := goodIn_r _ [30, 31, 32, 33, 34, 44, 45, 46, 47, 48, 49, 50, 51, 52, 53, 54, 55, 56, 57, 58, 59, 60, 61, 62, 63] (by decide +kernel) (by decide +kernel)
set_option maxRecDepth 20000 in
theorem gX6_out_X6_priceOn : GoodIn wsX6_out (wsV RX6 92 RX6 yX6_priceOn wsX6_priceOn) := goodIn_app (goodIn_of _ (by decide +kernel)) ggX6_out_X6_priceOn
set_option maxRecDepth 20000 in
theorem ggX6_out_X6_move : GoodIn wsX6_out wsX6_move := goodIn_r _ [38, 39, 40, 41, 42, 43, 44, 45, 46, 47, 48, 49, 50, 51, 52, 53, 54, 55, 56, 57, 58, 59, 60, 61, 62, 63] (by decide +kernel) (by decide +kernel)
set_option maxRecDepth 20000 in
theorem gX6_out_X6_move : GoodIn wsX6_out (wsV RX6 96 RX6 yX6_move wsX6_move) := goodIn_app (goodIn_of _ (by decide +kernel)) ggX6_out_X6_move
theorem dX6_out_0 : decode cX6_out 0 = .ok (.aload_n 0, 1) := by decide +kernel
theorem dX6_out_1 : decode cX6_out 1 = .ok (.iload_n 1, 1) := by decide +kernel
theorem dX6_out_2 : decode cX6_out 2 = .ok (.lload_n 3, 1) := by decide +kernel
theorem dX6_out_3 : decode cX6_out 3 = .ok (.lload 5, 2) := by decide +kernel
theorem dX6_out_5 : decode cX6_out 5 = .ok (.invokevirtual 85, 3) := by decide +kernel
theorem dX6_out_8 : decode cX6_out 8 = .ok (.ifCond .eq 11, 3) := by decide +kernel
theorem dX6_out_11 : decode cX6_out 11 = .ok (.aload_n 0, 1) := by decide +kernel
theorem dX6_out_12 : decode cX6_out 12 = .ok (.iload_n 2, 1) := by decide +kernel
theorem dX6_out_13 : decode cX6_out 13 = .ok (.invokevirtual 65, 3) := by decide +kernel
theorem dX6_out_16 : decode cX6_out 16 = .ok (.ifCond .ne 5, 3) := by decide +kernel
theorem dX6_out_19 : decode cX6_out 19 = .ok (.iconst 0, 1) := by decide +kernel
theorem dX6_out_20 : decode cX6_out 20 = .ok (.ireturn, 1) := by decide +kernel
theorem dX6_out_21 : decode cX6_out 21 = .ok (.iconst 0, 1) := by decide +kernel
theorem dX6_out_22 : decode cX6_out 22 = .ok (.istore 7, 2) := by decide +kernel
theorem dX6_out_24 : decode cX6_out 24 = .ok (.iconst 0, 1) := by decide +kernel
theorem dX6_out_25 : decode cX6_out 25 = .ok (.istore 8, 2) := by decide +kernel
theorem dX6_out_27 : decode cX6_out 27 = .ok (.iload 8, 2) := by decide +kernel
theorem dX6_out_29 : decode cX6_out 29 = .ok (.aload_n 0, 1) := by decide +kernel
theorem dX6_out_30 : decode cX6_out 30 = .ok (.getfield 89, 3) := by decide +kernel
theorem dX6_out_33 : decode cX6_out 33 = .ok (.if_icmp .ge 31, 3) := by decide +kernel
theorem dX6_out_36 : decode cX6_out 36 = .ok (.iload 7, 2) := by decide +kernel
theorem dX6_out_38 : decode cX6_out 38 = .ok (.aload_n 0, 1) := by decide +kernel
theorem dX6_out_39 : decode cX6_out 39 = .ok (.getfield 39, 3) := by decide +kernel
theorem dX6_out_42 : decode cX6_out 42 = .ok (.iload 8, 2) := by decide +kernel
theorem dX6_out_44 : decode cX6_out 44 = .ok (.laload, 1) := by decide +kernel
theorem dX6_out_45 : decode cX6_out 45 = .ok (.lconst 0, 1) := by decide +kernel
theorem dX6_out_46 : decode cX6_out 46 = .ok (.lcmp, 1) := by decide +kernel
theorem dX6_out_47 : decode cX6_out 47 = .ok (.ifCond .le 7, 3) := by decide +kernel
theorem dX6_out_50 : decode cX6_out 50 = .ok (.iconst 1, 1) := by decide +kernel
theorem dX6_out_51 : decode cX6_out 51 = .ok (.goto 4, 3) := by decide +kernel
theorem dX6_out_54 : decode cX6_out 54 = .ok (.iconst 0, 1) := by decide +kernel
theorem dX6_out_55 : decode cX6_out 55 = .ok (.iadd, 1) := by decide +kernel
theorem dX6_out_56 : decode cX6_out 56 = .ok (.istore 7, 2) := by decide +kernel
theorem dX6_out_58 : decode cX6_out 58 = .ok (.iinc 8 1, 3) := by decide +kernel
theorem dX6_out_61 : decode cX6_out 61 = .ok (.goto (-34), 3) := by decide +kernel
theorem dX6_out_64 : decode cX6_out 64 = .ok (.iload 7, 2) := by decide +kernel
theorem dX6_out_66 : decode cX6_out 66 = .ok (.sipush 400, 3) := by decide +kernel
theorem dX6_out_69 : decode cX6_out 69 = .ok (.if_icmp .ne 5, 3) := by decide +kernel
theorem dX6_out_72 : decode cX6_out 72 = .ok (.iconst 0, 1) := by decide +kernel
theorem dX6_out_73 : decode cX6_out 73 = .ok (.ireturn, 1) := by decide +kernel
theorem dX6_out_74 : decode cX6_out 74 = .ok (.aload_n 0, 1) := by decide +kernel
theorem dX6_out_75 : decode cX6_out 75 = .ok (.lload 5, 2) := by decide +kernel
theorem dX6_out_77 : decode cX6_out 77 = .ok (.putfield 81, 3) := by decide +kernel
theorem dX6_out_80 : decode cX6_out 80 = .ok (.aload_n 0, 1) := by decide +kernel
theorem dX6_out_81 : decode cX6_out 81 = .ok (.getfield 33, 3) := by decide +kernel
theorem dX6_out_84 : decode cX6_out 84 = .ok (.aload_n 0, 1) := by decide +kernel
theorem dX6_out_85 : decode cX6_out 85 = .ok (.getfield 89, 3) := by decide +kernel
theorem dX6_out_88 : decode cX6_out 88 = .ok (.iload_n 1, 1) := by decide +kernel
theorem dX6_out_89 : decode cX6_out 89 = .ok (.iastore, 1) := by decide +kernel
theorem dX6_out_90 : decode cX6_out 90 = .ok (.aload_n 0, 1) := by decide +kernel
theorem dX6_out_91 : decode cX6_out 91 = .ok (.getfield 36, 3) := by decide +kernel
theorem dX6_out_94 : decode cX6_out 94 = .ok (.aload_n 0, 1) := by decide +kernel
theorem dX6_out_95 : decode cX6_out 95 = .ok (.getfield 89, 3) := by decide +kernel
theorem dX6_out_98 : decode cX6_out 98 = .ok (.iload_n 2, 1) := by decide +kernel
theorem dX6_out_99 : decode cX6_out 99 = .ok (.iastore, 1) := by decide +kernel
theorem dX6_out_100 : decode cX6_out 100 = .ok (.aload_n 0, 1) := by decide +kernel
theorem dX6_out_101 : decode cX6_out 101 = .ok (.getfield 39, 3) := by decide +kernel
theorem dX6_out_104 : decode cX6_out 104 = .ok (.aload_n 0, 1) := by decide +kernel
theorem dX6_out_105 : decode cX6_out 105 = .ok (.getfield 89, 3) := by decide +kernel
theorem dX6_out_108 : decode cX6_out 108 = .ok (.lload_n 3, 1) := by decide +kernel
theorem dX6_out_109 : decode cX6_out 109 = .ok (.lastore, 1) := by decide +kernel
theorem dX6_out_110 : decode cX6_out 110 = .ok (.aload_n 0, 1) := by decide +kernel
theorem dX6_out_111 : decode cX6_out 111 = .ok (.getfield 42, 3) := by decide +kernel
theorem dX6_out_114 : decode cX6_out 114 = .ok (.aload_n 0, 1) := by decide +kernel
theorem dX6_out_115 : decode cX6_out 115 = .ok (.getfield 89, 3) := by decide +kernel
theorem dX6_out_118 : decode cX6_out 118 = .ok (.lload 5, 2) := by decide +kernel
theorem dX6_out_120 : decode cX6_out 120 = .ok (.lastore, 1) := by decide +kernel
theorem dX6_out_121 : decode cX6_out 121 = .ok (.aload_n 0, 1) := by decide +kernel
theorem dX6_out_122 : decode cX6_out 122 = .ok (.getfield 45, 3) := by decide +kernel
theorem dX6_out_125 : decode cX6_out 125 = .ok (.aload_n 0, 1) := by decide +kernel
theorem dX6_out_126 : decode cX6_out 126 = .ok (.getfield 89, 3) := by decide +kernel
theorem dX6_out_129 : decode cX6_out 129 = .ok (.aload_n 0, 1) := by decide +kernel
theorem dX6_out_130 : decode cX6_out 130 = .ok (.iload_n 2, 1) := by decide +kernel
theorem dX6_out_131 : decode cX6_out 131 = .ok (.lload 5, 2) := by decide +kernel
theorem dX6_out_133 : decode cX6_out 133 = .ok (.invokevirtual 92, 3) := by decide +kernel
theorem dX6_out_136 : decode cX6_out 136 = .ok (.lastore, 1) := by decide +kernel
theorem dX6_out_137 : decode cX6_out 137 = .ok (.aload_n 0, 1) := by decide +kernel
theorem dX6_out_138 : decode cX6_out 138 = .ok (.iload_n 1, 1) := by decide +kernel
theorem dX6_out_139 : decode cX6_out 139 = .ok (.iconst 0, 1) := by decide +kernel
theorem dX6_out_140 : decode cX6_out 140 = .ok (.lload_n 3, 1) := by decide +kernel
theorem dX6_out_141 : decode cX6_out 141 = .ok (.aload_n 0, 1) := by decide +kernel
theorem dX6_out_142 : decode cX6_out 142 = .ok (.getfield 45, 3) := by decide +kernel
theorem dX6_out_145 : decode cX6_out 145 = .ok (.aload_n 0, 1) := by decide +kernel
theorem dX6_out_146 : decode cX6_out 146 = .ok (.getfield 89, 3) := by decide +kernel
theorem dX6_out_149 : decode cX6_out 149 = .ok (.laload, 1) := by decide +kernel
theorem dX6_out_150 : decode cX6_out 150 = .ok (.lmul, 1) := by decide +kernel
theorem dX6_out_151 : decode cX6_out 151 = .ok (.lload 5, 2) := by decide +kernel
theorem dX6_out_153 : decode cX6_out 153 = .ok (.invokevirtual 96, 3) := by decide +kernel
theorem dX6_out_156 : decode cX6_out 156 = .ok (.aload_n 0, 1) := by decide +kernel
theorem dX6_out_157 : decode cX6_out 157 = .ok (.dup, 1) := by decide +kernel
theorem dX6_out_158 : decode cX6_out 158 = .ok (.getfield 89, 3) := by decide +kernel
theorem dX6_out_161 : decode cX6_out 161 = .ok (.iconst 1, 1) := by decide +kernel
theorem dX6_out_162 : decode cX6_out 162 = .ok (.iadd, 1) := by decide +kernel
theorem dX6_out_163 : decode cX6_out 163 = .ok (.putfield 89, 3) := by decide +kernel
theorem dX6_out_166 : decode cX6_out 166 = .ok (.iconst 1, 1) := by decide +kernel
theorem dX6_out_167 : decode cX6_out 167 = .ok (.ireturn, 1) := by decide +kernel
theorem dX6_has_0 : decode cX6_has 0 = .ok (.lconst 0, 1) := by decide +kernel
theorem dX6_has_1 : decode cX6_has 1 = .ok (.lstore_n 3, 1) := by decide +kernel
theorem dX6_has_2 : decode cX6_has 2 = .ok (.iconst 0, 1) := by decide +kernel
theorem dX6_has_3 : decode cX6_has 3 = .ok (.istore 5, 2) := by decide +kernel
theorem dX6_has_5 : decode cX6_has 5 = .ok (.iload 5, 2) := by decide +kernel
theorem dX6_has_7 : decode cX6_has 7 = .ok (.aload_n 0, 1) := by decide +kernel
theorem dX6_has_8 : decode cX6_has 8 = .ok (.getfield 89, 3) := by decide +kernel
theorem dX6_has_11 : decode cX6_has 11 = .ok (.if_icmp .ge 45, 3) := by decide +kernel
theorem dX6_has_14 : decode cX6_has 14 = .ok (.lload_n 3, 1) := by decide +kernel
theorem dX6_has_15 : decode cX6_has 15 = .ok (.aload_n 0, 1) := by decide +kernel
theorem dX6_has_16 : decode cX6_has 16 = .ok (.getfield 33, 3) := by decide +kernel
theorem dX6_has_19 : decode cX6_has 19 = .ok (.iload 5, 2) := by decide +kernel
theorem dX6_has_21 : decode cX6_has 21 = .ok (.iaload, 1) := by decide +kernel
theorem dX6_has_22 : decode cX6_has 22 = .ok (.iload_n 1, 1) := by decide +kernel
theorem dX6_has_23 : decode cX6_has 23 = .ok (.if_icmp .ne 24, 3) := by decide +kernel
theorem dX6_has_26 : decode cX6_has 26 = .ok (.aload_n 0, 1) := by decide +kernel
theorem dX6_has_27 : decode cX6_has 27 = .ok (.getfield 36, 3) := by decide +kernel
theorem dX6_has_30 : decode cX6_has 30 = .ok (.iload 5, 2) := by decide +kernel
theorem dX6_has_32 : decode cX6_has 32 = .ok (.iaload, 1) := by decide +kernel
theorem dX6_has_33 : decode cX6_has 33 = .ok (.iload_n 2, 1) := by decide +kernel
theorem dX6_has_34 : decode cX6_has 34 = .ok (.if_icmp .ne 13, 3) := by decide +kernel
theorem dX6_has_37 : decode cX6_has 37 = .ok (.aload_n 0, 1) := by decide +kernel
theorem dX6_has_38 : decode cX6_has 38 = .ok (.getfield 39, 3) := by decide +kernel
theorem dX6_has_41 : decode cX6_has 41 = .ok (.iload 5, 2) := by decide +kernel
theorem dX6_has_43 : decode cX6_has 43 = .ok (.laload, 1) := by decide +kernel
theorem dX6_has_44 : decode cX6_has 44 = .ok (.goto 4, 3) := by decide +kernel
theorem dX6_has_47 : decode cX6_has 47 = .ok (.lconst 0, 1) := by decide +kernel
theorem dX6_has_48 : decode cX6_has 48 = .ok (.ladd, 1) := by decide +kernel
theorem dX6_has_49 : decode cX6_has 49 = .ok (.lstore_n 3, 1) := by decide +kernel
theorem dX6_has_50 : decode cX6_has 50 = .ok (.iinc 5 1, 3) := by decide +kernel
theorem dX6_has_53 : decode cX6_has 53 = .ok (.goto (-48), 3) := by decide +kernel
theorem dX6_has_56 : decode cX6_has 56 = .ok (.lload_n 3, 1) := by decide +kernel
theorem dX6_has_57 : decode cX6_has 57 = .ok (.lreturn, 1) := by decide +kernel
theorem dX6_take_0 : decode cX6_take 0 = .ok (.lload_n 3, 1) := by decide +kernel
theorem dX6_take_1 : decode cX6_take 1 = .ok (.lstore 5, 2) := by decide +kernel
theorem dX6_take_3 : decode cX6_take 3 = .ok (.lconst 0, 1) := by decide +kernel
theorem dX6_take_4 : decode cX6_take 4 = .ok (.lstore 7, 2) := by decide +kernel
theorem dX6_take_6 : decode cX6_take 6 = .ok (.iconst 0, 1) := by decide +kernel
theorem dX6_take_7 : decode cX6_take 7 = .ok (.istore 9, 2) := by decide +kernel
theorem dX6_take_9 : decode cX6_take 9 = .ok (.iload 9, 2) := by decide +kernel
theorem dX6_take_11 : decode cX6_take 11 = .ok (.aload_n 0, 1) := by decide +kernel
theorem dX6_take_12 : decode cX6_take 12 = .ok (.getfield 89, 3) := by decide +kernel
theorem dX6_take_15 : decode cX6_take 15 = .ok (.if_icmp .ge 92, 3) := by decide +kernel
theorem dX6_take_18 : decode cX6_take 18 = .ok (.aload_n 0, 1) := by decide +kernel
theorem dX6_take_19 : decode cX6_take 19 = .ok (.getfield 33, 3) := by decide +kernel
theorem dX6_take_22 : decode cX6_take 22 = .ok (.iload 9, 2) := by decide +kernel
theorem dX6_take_24 : decode cX6_take 24 = .ok (.iaload, 1) := by decide +kernel
theorem dX6_take_25 : decode cX6_take 25 = .ok (.iload_n 1, 1) := by decide +kernel
theorem dX6_take_26 : decode cX6_take 26 = .ok (.if_icmp .ne 75, 3) := by decide +kernel
theorem dX6_take_29 : decode cX6_take 29 = .ok (.aload_n 0, 1) := by decide +kernel
theorem dX6_take_30 : decode cX6_take 30 = .ok (.getfield 36, 3) := by decide +kernel
theorem dX6_take_33 : decode cX6_take 33 = .ok (.iload 9, 2) := by decide +kernel
theorem dX6_take_35 : decode cX6_take 35 = .ok (.iaload, 1) := by decide +kernel
theorem dX6_take_36 : decode cX6_take 36 = .ok (.iload_n 2, 1) := by decide +kernel
theorem dX6_take_37 : decode cX6_take 37 = .ok (.if_icmp .ne 64, 3) := by decide +kernel
theorem dX6_take_40 : decode cX6_take 40 = .ok (.aload_n 0, 1) := by decide +kernel
theorem dX6_take_41 : decode cX6_take 41 = .ok (.getfield 39, 3) := by decide +kernel
theorem dX6_take_44 : decode cX6_take 44 = .ok (.iload 9, 2) := by decide +kernel
theorem dX6_take_46 : decode cX6_take 46 = .ok (.laload, 1) := by decide +kernel
theorem dX6_take_47 : decode cX6_take 47 = .ok (.lload 5, 2) := by decide +kernel
theorem dX6_take_49 : decode cX6_take 49 = .ok (.lcmp, 1) := by decide +kernel
theorem dX6_take_50 : decode cX6_take 50 = .ok (.ifCond .ge 13, 3) := by decide +kernel
theorem dX6_take_53 : decode cX6_take 53 = .ok (.aload_n 0, 1) := by decide +kernel
theorem dX6_take_54 : decode cX6_take 54 = .ok (.getfield 39, 3) := by decide +kernel
theorem dX6_take_57 : decode cX6_take 57 = .ok (.iload 9, 2) := by decide +kernel
theorem dX6_take_59 : decode cX6_take 59 = .ok (.laload, 1) := by decide +kernel
theorem dX6_take_60 : decode cX6_take 60 = .ok (.goto 5, 3) := by decide +kernel
theorem dX6_take_63 : decode cX6_take 63 = .ok (.lload 5, 2) := by decide +kernel
theorem dX6_take_65 : decode cX6_take 65 = .ok (.lstore 10, 2) := by decide +kernel
theorem dX6_take_67 : decode cX6_take 67 = .ok (.aload_n 0, 1) := by decide +kernel
theorem dX6_take_68 : decode cX6_take 68 = .ok (.getfield 39, 3) := by decide +kernel
theorem dX6_take_71 : decode cX6_take 71 = .ok (.iload 9, 2) := by decide +kernel
theorem dX6_take_73 : decode cX6_take 73 = .ok (.dup2, 1) := by decide +kernel
theorem dX6_take_74 : decode cX6_take 74 = .ok (.laload, 1) := by decide +kernel
theorem dX6_take_75 : decode cX6_take 75 = .ok (.lload 10, 2) := by decide +kernel
theorem dX6_take_77 : decode cX6_take 77 = .ok (.lsub, 1) := by decide +kernel
theorem dX6_take_78 : decode cX6_take 78 = .ok (.lastore, 1) := by decide +kernel
theorem dX6_take_79 : decode cX6_take 79 = .ok (.lload 5, 2) := by decide +kernel
theorem dX6_take_81 : decode cX6_take 81 = .ok (.lload 10, 2) := by decide +kernel
theorem dX6_take_83 : decode cX6_take 83 = .ok (.lsub, 1) := by decide +kernel
theorem dX6_take_84 : decode cX6_take 84 = .ok (.lstore 5, 2) := by decide +kernel
theorem dX6_take_86 : decode cX6_take 86 = .ok (.lload 7, 2) := by decide +kernel
theorem dX6_take_88 : decode cX6_take 88 = .ok (.lload 10, 2) := by decide +kernel
theorem dX6_take_90 : decode cX6_take 90 = .ok (.aload_n 0, 1) := by decide +kernel
theorem dX6_take_91 : decode cX6_take 91 = .ok (.getfield 45, 3) := by decide +kernel
theorem dX6_take_94 : decode cX6_take 94 = .ok (.iload 9, 2) := by decide +kernel
theorem dX6_take_96 : decode cX6_take 96 = .ok (.laload, 1) := by decide +kernel
theorem dX6_take_97 : decode cX6_take 97 = .ok (.lmul, 1) := by decide +kernel
theorem dX6_take_98 : decode cX6_take 98 = .ok (.ladd, 1) := by decide +kernel
theorem dX6_take_99 : decode cX6_take 99 = .ok (.lstore 7, 2) := by decide +kernel
theorem dX6_take_101 : decode cX6_take 101 = .ok (.iinc 9 1, 3) := by decide +kernel
theorem dX6_take_104 : decode cX6_take 104 = .ok (.goto (-95), 3) := by decide +kernel
theorem dX6_take_107 : decode cX6_take 107 = .ok (.lload 7, 2) := by decide +kernel
theorem dX6_take_109 : decode cX6_take 109 = .ok (.lreturn, 1) := by decide +kernel
set_option maxRecDepth 20000 in
theorem ggX6_back_X6_mayCome : GoodIn wsX6_back wsX6_mayCome := goodIn_r _ [6, 7, 1, 8, 9, 10, 5, 11, 12, 13, 14, 15, 43, 44, 45, 46, 47, 48, 49, 50, 51, 52, 53, 54, 55, 56, 57, 58, 59, 60, 61, 62] (by decide +kernel) (by decide +kernel)
set_option maxRecDepth 20000 in
theorem gX6_back_X6_mayCome : GoodIn wsX6_back (wsV RX6 85 RX6 yX6_mayCome wsX6_mayCome) := goodIn_app (goodIn_of _ (by decide +kernel)) ggX6_back_X6_mayCome
set_option maxRecDepth 20000 in
theorem ggX6_back_X6_isKind : GoodIn wsX6_back wsX6_isKind := goodIn_r _ [19, 20, 43, 44, 45, 46, 47, 48, 49, 50, 51, 52, 53, 54, 55, 56, 57, 58, 59, 60, 61, 62] (by decide +kernel) (by decide +kernel)
set_option maxRecDepth 20000 in
theorem gX6_back_X6_isKind : GoodIn wsX6_back (wsV RX6 65 RX6 yX6_isKind wsX6_isKind) := goodIn_app (goodIn_of _ (by decide +kernel)) ggX6_back_X6_isKind
set_option maxRecDepth 20000 in
theorem ggX6_back_X6_has : GoodIn wsX6_back wsX6_has := goodIn_r _ [24, 25, 26, 27, 28, 43, 44, 45, 46, 47, 48, 49, 50, 51, 52, 53, 54, 55, 56, 57, 58, 59, 60, 61, 62] (by decide +kernel) (by decide +kernel)
set_option maxRecDepth 20000 in
theorem gX6_back_X6_has : GoodIn wsX6_back (wsV RX6 100 RX6 yX6_has wsX6_has) := goodIn_app (goodIn_of _ (by decide +kernel)) ggX6_back_X6_has
set_option maxRecDepth 20000 in
theorem ggX6_back_X6_take : GoodIn wsX6_back wsX6_take := goodIn_r _ [32, 25, 26, 27, 28, 33, 43, 44, 45, 46, 47, 48, 49, 50, 51, 52, 53, 54, 55, 56, 57, 58, 59, 60, 61, 62] (by decide +kernel) (by decide +kernel)
set_option maxRecDepth 20000 in
theorem gX6_back_X6_take : GoodIn wsX6_back (wsV RX6 104 RX6 yX6_take wsX6_take) := goodIn_app (goodIn_of _ (by decide +kernel)) ggX6_back_X6_take
set_option maxRecDepth 20000 in
theorem ggX6_back_X6_move : GoodIn wsX6_back wsX6_move := goodIn_r _ [37, 38, 39, 40, 41, 42, 43, 44, 45, 46, 47, 48, 49, 50, 51, 52, 53, 54, 55, 56, 57, 58, 59, 60, 61, 62] (by decide +kernel) (by decide +kernel)
set_option maxRecDepth 20000 in
theorem gX6_back_X6_move : GoodIn wsX6_back (wsV RX6 96 RX6 yX6_move wsX6_move) := goodIn_app (goodIn_of _ (by decide +kernel)) ggX6_back_X6_move
theorem dX6_back_0 : decode cX6_back 0 = .ok (.aload_n 0, 1) := by decide +kernel
theorem dX6_back_1 : decode cX6_back 1 = .ok (.iload_n 1, 1) := by decide +kernel
theorem dX6_back_2 : decode cX6_back 2 = .ok (.lload_n 3, 1) := by decide +kernel
theorem dX6_back_3 : decode cX6_back 3 = .ok (.lload 5, 2) := by decide +kernel
theorem dX6_back_5 : decode cX6_back 5 = .ok (.invokevirtual 85, 3) := by decide +kernel
theorem dX6_back_8 : decode cX6_back 8 = .ok (.ifCond .eq 22, 3) := by decide +kernel
theorem dX6_back_11 : decode cX6_back 11 = .ok (.aload_n 0, 1) := by decide +kernel
theorem dX6_back_12 : decode cX6_back 12 = .ok (.iload_n 2, 1) := by decide +kernel
theorem dX6_back_13 : decode cX6_back 13 = .ok (.invokevirtual 65, 3) := by decide +kernel
theorem dX6_back_16 : decode cX6_back 16 = .ok (.ifCond .eq 14, 3) := by decide +kernel
theorem dX6_back_19 : decode cX6_back 19 = .ok (.aload_n 0, 1) := by decide +kernel
theorem dX6_back_20 : decode cX6_back 20 = .ok (.iload_n 1, 1) := by decide +kernel
theorem dX6_back_21 : decode cX6_back 21 = .ok (.iload_n 2, 1) := by decide +kernel
theorem dX6_back_22 : decode cX6_back 22 = .ok (.invokevirtual 100, 3) := by decide +kernel
theorem dX6_back_25 : decode cX6_back 25 = .ok (.lload_n 3, 1) := by decide +kernel
theorem dX6_back_26 : decode cX6_back 26 = .ok (.lcmp, 1) := by decide +kernel
theorem dX6_back_27 : decode cX6_back 27 = .ok (.ifCond .ge 5, 3) := by decide +kernel
theorem dX6_back_30 : decode cX6_back 30 = .ok (.iconst 0, 1) := by decide +kernel
theorem dX6_back_31 : decode cX6_back 31 = .ok (.ireturn, 1) := by decide +kernel
theorem dX6_back_32 : decode cX6_back 32 = .ok (.aload_n 0, 1) := by decide +kernel
theorem dX6_back_33 : decode cX6_back 33 = .ok (.lload 5, 2) := by decide +kernel
theorem dX6_back_35 : decode cX6_back 35 = .ok (.putfield 81, 3) := by decide +kernel
theorem dX6_back_38 : decode cX6_back 38 = .ok (.aload_n 0, 1) := by decide +kernel
theorem dX6_back_39 : decode cX6_back 39 = .ok (.iconst 0, 1) := by decide +kernel
theorem dX6_back_40 : decode cX6_back 40 = .ok (.iload_n 1, 1) := by decide +kernel
theorem dX6_back_41 : decode cX6_back 41 = .ok (.aload_n 0, 1) := by decide +kernel
theorem dX6_back_42 : decode cX6_back 42 = .ok (.iload_n 1, 1) := by decide +kernel
theorem dX6_back_43 : decode cX6_back 43 = .ok (.iload_n 2, 1) := by decide +kernel
theorem dX6_back_44 : decode cX6_back 44 = .ok (.lload_n 3, 1) := by decide +kernel
theorem dX6_back_45 : decode cX6_back 45 = .ok (.invokevirtual 104, 3) := by decide +kernel
theorem dX6_back_48 : decode cX6_back 48 = .ok (.lload 5, 2) := by decide +kernel
theorem dX6_back_50 : decode cX6_back 50 = .ok (.invokevirtual 96, 3) := by decide +kernel
theorem dX6_back_53 : decode cX6_back 53 = .ok (.iconst 1, 1) := by decide +kernel
theorem dX6_back_54 : decode cX6_back 54 = .ok (.ireturn, 1) := by decide +kernel
set_option maxRecDepth 20000 in
theorem ggX6_sampled_X6_mayCome : GoodIn wsX6_sampled wsX6_mayCome := goodIn_r _ [11, 12, 6, 13, 14, 15, 10, 16, 17, 18, 19, 20, 43, 44, 45, 46, 47, 48, 49, 50, 51, 52, 53, 54, 55, 56, 57, 58, 59, 60, 61, 62] (by decide +kernel) (by decide +kernel)
set_option maxRecDepth 20000 in
theorem gX6_sampled_X6_mayCome : GoodIn wsX6_sampled (wsV RX6 85 RX6 yX6_mayCome wsX6_mayCome) := goodIn_app (goodIn_of _ (by decide +kernel)) ggX6_sampled_X6_mayCome
set_option maxRecDepth 20000 in
theorem ggX6_sampled_X6_has : GoodIn wsX6_sampled wsX6_has := goodIn_r _ [24, 25, 26, 27, 28, 43, 44, 45, 46, 47, 48, 49, 50, 51, 52, 53, 54, 55, 56, 57, 58, 59, 60, 61, 62] (by decide +kernel) (by decide +kernel)
set_option maxRecDepth 20000 in
theorem gX6_sampled_X6_has : GoodIn wsX6_sampled (wsV RX6 100 RX6 yX6_has wsX6_has) := goodIn_app (goodIn_of _ (by decide +kernel)) ggX6_sampled_X6_has
set_option maxRecDepth 20000 in
theorem ggX6_sampled_X6_take : GoodIn wsX6_sampled wsX6_take := goodIn_r _ [32, 25, 26, 27, 28, 33, 43, 44, 45, 46, 47, 48, 49, 50, 51, 52, 53, 54, 55, 56, 57, 58, 59, 60, 61, 62] (by decide +kernel) (by decide +kernel)
set_option maxRecDepth 20000 in
theorem gX6_sampled_X6_take : GoodIn wsX6_sampled (wsV RX6 104 RX6 yX6_take wsX6_take) := goodIn_app (goodIn_of _ (by decide +kernel)) ggX6_sampled_X6_take
set_option maxRecDepth 20000 in
theorem ggX6_sampled_X6_move : GoodIn wsX6_sampled wsX6_move := goodIn_r _ [37, 38, 39, 40, 41, 42, 43, 44, 45, 46, 47, 48, 49, 50, 51, 52, 53, 54, 55, 56, 57, 58, 59, 60, 61, 62] (by decide +kernel) (by decide +kernel)
set_option maxRecDepth 20000 in
theorem gX6_sampled_X6_move : GoodIn wsX6_sampled (wsV RX6 96 RX6 yX6_move wsX6_move) := goodIn_app (goodIn_of _ (by decide +kernel)) ggX6_sampled_X6_move
theorem dX6_sampled_0 : decode cX6_sampled 0 = .ok (.aload_n 0, 1) := by decide +kernel
theorem dX6_sampled_1 : decode cX6_sampled 1 = .ok (.iload_n 1, 1) := by decide +kernel
theorem dX6_sampled_2 : decode cX6_sampled 2 = .ok (.lload_n 2, 1) := by decide +kernel
theorem dX6_sampled_3 : decode cX6_sampled 3 = .ok (.lload 4, 2) := by decide +kernel
theorem dX6_sampled_5 : decode cX6_sampled 5 = .ok (.invokevirtual 85, 3) := by decide +kernel
theorem dX6_sampled_8 : decode cX6_sampled 8 = .ok (.ifCond .ne 5, 3) := by decide +kernel
theorem dX6_sampled_11 : decode cX6_sampled 11 = .ok (.iconst 0, 1) := by decide +kernel
theorem dX6_sampled_12 : decode cX6_sampled 12 = .ok (.ireturn, 1) := by decide +kernel
theorem dX6_sampled_13 : decode cX6_sampled 13 = .ok (.lconst 0, 1) := by decide +kernel
theorem dX6_sampled_14 : decode cX6_sampled 14 = .ok (.lstore 6, 2) := by decide +kernel
theorem dX6_sampled_16 : decode cX6_sampled 16 = .ok (.iconst 1, 1) := by decide +kernel
theorem dX6_sampled_17 : decode cX6_sampled 17 = .ok (.istore 8, 2) := by decide +kernel
theorem dX6_sampled_19 : decode cX6_sampled 19 = .ok (.iconst 0, 1) := by decide +kernel
theorem dX6_sampled_20 : decode cX6_sampled 20 = .ok (.istore 9, 2) := by decide +kernel
theorem dX6_sampled_22 : decode cX6_sampled 22 = .ok (.iload 9, 2) := by decide +kernel
theorem dX6_sampled_24 : decode cX6_sampled 24 = .ok (.aload_n 0, 1) := by decide +kernel
theorem dX6_sampled_25 : decode cX6_sampled 25 = .ok (.getfield 60, 3) := by decide +kernel
theorem dX6_sampled_28 : decode cX6_sampled 28 = .ok (.if_icmp .ge 79, 3) := by decide +kernel
theorem dX6_sampled_31 : decode cX6_sampled 31 = .ok (.lload 6, 2) := by decide +kernel
theorem dX6_sampled_33 : decode cX6_sampled 33 = .ok (.aload_n 0, 1) := by decide +kernel
theorem dX6_sampled_34 : decode cX6_sampled 34 = .ok (.getfield 24, 3) := by decide +kernel
theorem dX6_sampled_37 : decode cX6_sampled 37 = .ok (.iload 9, 2) := by decide +kernel
theorem dX6_sampled_39 : decode cX6_sampled 39 = .ok (.laload, 1) := by decide +kernel
theorem dX6_sampled_40 : decode cX6_sampled 40 = .ok (.ladd, 1) := by decide +kernel
theorem dX6_sampled_41 : decode cX6_sampled 41 = .ok (.lstore 6, 2) := by decide +kernel
theorem dX6_sampled_43 : decode cX6_sampled 43 = .ok (.aload_n 0, 1) := by decide +kernel
theorem dX6_sampled_44 : decode cX6_sampled 44 = .ok (.getfield 30, 3) := by decide +kernel
theorem dX6_sampled_47 : decode cX6_sampled 47 = .ok (.iload 9, 2) := by decide +kernel
theorem dX6_sampled_49 : decode cX6_sampled 49 = .ok (.aload_n 0, 1) := by decide +kernel
theorem dX6_sampled_50 : decode cX6_sampled 50 = .ok (.getfield 27, 3) := by decide +kernel
theorem dX6_sampled_53 : decode cX6_sampled 53 = .ok (.iload 9, 2) := by decide +kernel
theorem dX6_sampled_55 : decode cX6_sampled 55 = .ok (.laload, 1) := by decide +kernel
theorem dX6_sampled_56 : decode cX6_sampled 56 = .ok (.lload_n 2, 1) := by decide +kernel
theorem dX6_sampled_57 : decode cX6_sampled 57 = .ok (.aload_n 0, 1) := by decide +kernel
theorem dX6_sampled_58 : decode cX6_sampled 58 = .ok (.getfield 24, 3) := by decide +kernel
theorem dX6_sampled_61 : decode cX6_sampled 61 = .ok (.iload 9, 2) := by decide +kernel
theorem dX6_sampled_63 : decode cX6_sampled 63 = .ok (.laload, 1) := by decide +kernel
theorem dX6_sampled_64 : decode cX6_sampled 64 = .ok (.lmul, 1) := by decide +kernel
theorem dX6_sampled_65 : decode cX6_sampled 65 = .ok (.ladd, 1) := by decide +kernel
theorem dX6_sampled_66 : decode cX6_sampled 66 = .ok (.ldc2_w 108, 3) := by decide +kernel
theorem dX6_sampled_69 : decode cX6_sampled 69 = .ok (.ldiv, 1) := by decide +kernel
theorem dX6_sampled_70 : decode cX6_sampled 70 = .ok (.lastore, 1) := by decide +kernel
theorem dX6_sampled_71 : decode cX6_sampled 71 = .ok (.iload 8, 2) := by decide +kernel
theorem dX6_sampled_73 : decode cX6_sampled 73 = .ok (.ifCond .eq 25, 3) := by decide +kernel
theorem dX6_sampled_76 : decode cX6_sampled 76 = .ok (.aload_n 0, 1) := by decide +kernel
theorem dX6_sampled_77 : decode cX6_sampled 77 = .ok (.iload_n 1, 1) := by decide +kernel
theorem dX6_sampled_78 : decode cX6_sampled 78 = .ok (.iload 9, 2) := by decide +kernel
theorem dX6_sampled_80 : decode cX6_sampled 80 = .ok (.invokevirtual 100, 3) := by decide +kernel
theorem dX6_sampled_83 : decode cX6_sampled 83 = .ok (.aload_n 0, 1) := by decide +kernel
theorem dX6_sampled_84 : decode cX6_sampled 84 = .ok (.getfield 30, 3) := by decide +kernel
theorem dX6_sampled_87 : decode cX6_sampled 87 = .ok (.iload 9, 2) := by decide +kernel
theorem dX6_sampled_89 : decode cX6_sampled 89 = .ok (.laload, 1) := by decide +kernel
theorem dX6_sampled_90 : decode cX6_sampled 90 = .ok (.lcmp, 1) := by decide +kernel
theorem dX6_sampled_91 : decode cX6_sampled 91 = .ok (.ifCond .lt 7, 3) := by decide +kernel
theorem dX6_sampled_94 : decode cX6_sampled 94 = .ok (.iconst 1, 1) := by decide +kernel
theorem dX6_sampled_95 : decode cX6_sampled 95 = .ok (.goto 4, 3) := by decide +kernel
theorem dX6_sampled_98 : decode cX6_sampled 98 = .ok (.iconst 0, 1) := by decide +kernel
theorem dX6_sampled_99 : decode cX6_sampled 99 = .ok (.istore 8, 2) := by decide +kernel
theorem dX6_sampled_101 : decode cX6_sampled 101 = .ok (.iinc 9 1, 3) := by decide +kernel
theorem dX6_sampled_104 : decode cX6_sampled 104 = .ok (.goto (-82), 3) := by decide +kernel
theorem dX6_sampled_107 : decode cX6_sampled 107 = .ok (.lload 6, 2) := by decide +kernel
theorem dX6_sampled_109 : decode cX6_sampled 109 = .ok (.ldc2_w 108, 3) := by decide +kernel
theorem dX6_sampled_112 : decode cX6_sampled 112 = .ok (.lcmp, 1) := by decide +kernel
theorem dX6_sampled_113 : decode cX6_sampled 113 = .ok (.ifCond .ne 8, 3) := by decide +kernel
theorem dX6_sampled_116 : decode cX6_sampled 116 = .ok (.iload 8, 2) := by decide +kernel
theorem dX6_sampled_118 : decode cX6_sampled 118 = .ok (.ifCond .ne 5, 3) := by decide +kernel
theorem dX6_sampled_121 : decode cX6_sampled 121 = .ok (.iconst 0, 1) := by decide +kernel
theorem dX6_sampled_122 : decode cX6_sampled 122 = .ok (.ireturn, 1) := by decide +kernel
theorem dX6_sampled_123 : decode cX6_sampled 123 = .ok (.aload_n 0, 1) := by decide +kernel
theorem dX6_sampled_124 : decode cX6_sampled 124 = .ok (.lload 4, 2) := by decide +kernel
theorem dX6_sampled_126 : decode cX6_sampled 126 = .ok (.putfield 81, 3) := by decide +kernel
theorem dX6_sampled_129 : decode cX6_sampled 129 = .ok (.lconst 0, 1) := by decide +kernel
theorem dX6_sampled_130 : decode cX6_sampled 130 = .ok (.lstore 9, 2) := by decide +kernel
theorem dX6_sampled_132 : decode cX6_sampled 132 = .ok (.iconst 0, 1) := by decide +kernel
theorem dX6_sampled_133 : decode cX6_sampled 133 = .ok (.istore 11, 2) := by decide +kernel
theorem dX6_sampled_135 : decode cX6_sampled 135 = .ok (.iload 11, 2) := by decide +kernel
theorem dX6_sampled_137 : decode cX6_sampled 137 = .ok (.aload_n 0, 1) := by decide +kernel
theorem dX6_sampled_138 : decode cX6_sampled 138 = .ok (.getfield 60, 3) := by decide +kernel
theorem dX6_sampled_141 : decode cX6_sampled 141 = .ok (.if_icmp .ge 56, 3) := by decide +kernel
theorem dX6_sampled_144 : decode cX6_sampled 144 = .ok (.aload_n 0, 1) := by decide +kernel
theorem dX6_sampled_145 : decode cX6_sampled 145 = .ok (.getfield 27, 3) := by decide +kernel
theorem dX6_sampled_148 : decode cX6_sampled 148 = .ok (.iload 11, 2) := by decide +kernel
theorem dX6_sampled_150 : decode cX6_sampled 150 = .ok (.aload_n 0, 1) := by decide +kernel
theorem dX6_sampled_151 : decode cX6_sampled 151 = .ok (.getfield 27, 3) := by decide +kernel
theorem dX6_sampled_154 : decode cX6_sampled 154 = .ok (.iload 11, 2) := by decide +kernel
theorem dX6_sampled_156 : decode cX6_sampled 156 = .ok (.laload, 1) := by decide +kernel
theorem dX6_sampled_157 : decode cX6_sampled 157 = .ok (.lload_n 2, 1) := by decide +kernel
theorem dX6_sampled_158 : decode cX6_sampled 158 = .ok (.aload_n 0, 1) := by decide +kernel
theorem dX6_sampled_159 : decode cX6_sampled 159 = .ok (.getfield 24, 3) := by decide +kernel
theorem dX6_sampled_162 : decode cX6_sampled 162 = .ok (.iload 11, 2) := by decide +kernel
theorem dX6_sampled_164 : decode cX6_sampled 164 = .ok (.laload, 1) := by decide +kernel
theorem dX6_sampled_165 : decode cX6_sampled 165 = .ok (.lmul, 1) := by decide +kernel
theorem dX6_sampled_166 : decode cX6_sampled 166 = .ok (.ladd, 1) := by decide +kernel
theorem dX6_sampled_167 : decode cX6_sampled 167 = .ok (.ldc2_w 108, 3) := by decide +kernel
theorem dX6_sampled_170 : decode cX6_sampled 170 = .ok (.lrem, 1) := by decide +kernel
theorem dX6_sampled_171 : decode cX6_sampled 171 = .ok (.lastore, 1) := by decide +kernel
theorem dX6_sampled_172 : decode cX6_sampled 172 = .ok (.lload 9, 2) := by decide +kernel
theorem dX6_sampled_174 : decode cX6_sampled 174 = .ok (.aload_n 0, 1) := by decide +kernel
theorem dX6_sampled_175 : decode cX6_sampled 175 = .ok (.iload_n 1, 1) := by decide +kernel
theorem dX6_sampled_176 : decode cX6_sampled 176 = .ok (.iload 11, 2) := by decide +kernel
theorem dX6_sampled_178 : decode cX6_sampled 178 = .ok (.aload_n 0, 1) := by decide +kernel
theorem dX6_sampled_179 : decode cX6_sampled 179 = .ok (.getfield 30, 3) := by decide +kernel
theorem dX6_sampled_182 : decode cX6_sampled 182 = .ok (.iload 11, 2) := by decide +kernel
theorem dX6_sampled_184 : decode cX6_sampled 184 = .ok (.laload, 1) := by decide +kernel
theorem dX6_sampled_185 : decode cX6_sampled 185 = .ok (.invokevirtual 104, 3) := by decide +kernel
theorem dX6_sampled_188 : decode cX6_sampled 188 = .ok (.ladd, 1) := by decide +kernel
theorem dX6_sampled_189 : decode cX6_sampled 189 = .ok (.lstore 9, 2) := by decide +kernel
theorem dX6_sampled_191 : decode cX6_sampled 191 = .ok (.iinc 11 1, 3) := by decide +kernel
theorem dX6_sampled_194 : decode cX6_sampled 194 = .ok (.goto (-59), 3) := by decide +kernel
theorem dX6_sampled_197 : decode cX6_sampled 197 = .ok (.aload_n 0, 1) := by decide +kernel
theorem dX6_sampled_198 : decode cX6_sampled 198 = .ok (.iconst 0, 1) := by decide +kernel
theorem dX6_sampled_199 : decode cX6_sampled 199 = .ok (.iload_n 1, 1) := by decide +kernel
theorem dX6_sampled_200 : decode cX6_sampled 200 = .ok (.lload 9, 2) := by decide +kernel
theorem dX6_sampled_202 : decode cX6_sampled 202 = .ok (.lload 4, 2) := by decide +kernel
theorem dX6_sampled_204 : decode cX6_sampled 204 = .ok (.invokevirtual 96, 3) := by decide +kernel
theorem dX6_sampled_207 : decode cX6_sampled 207 = .ok (.iconst 1, 1) := by decide +kernel
theorem dX6_sampled_208 : decode cX6_sampled 208 = .ok (.ireturn, 1) := by decide +kernel
set_option maxRecDepth 20000 in
theorem ggX6_share_X6_isKind : GoodIn wsX6_share wsX6_isKind := goodIn_r _ [7, 8, 9, 10, 11, 12, 13, 14, 15, 16, 17, 18, 19, 20, 21, 22, 23, 24, 25, 26, 27, 28] (by decide +kernel) (by decide +kernel)
set_option maxRecDepth 20000 in
theorem gX6_share_X6_isKind : GoodIn wsX6_share (wsV RX6 65 RX6 yX6_isKind wsX6_isKind) := goodIn_app (goodIn_of _ (by decide +kernel)) ggX6_share_X6_isKind
theorem dX6_share_0 : decode cX6_share 0 = .ok (.aload_n 0, 1) := by decide +kernel
theorem dX6_share_1 : decode cX6_share 1 = .ok (.iload_n 1, 1) := by decide +kernel
theorem dX6_share_2 : decode cX6_share 2 = .ok (.invokevirtual 65, 3) := by decide +kernel
theorem dX6_share_5 : decode cX6_share 5 = .ok (.ifCond .eq 45, 3) := by decide +kernel
theorem dX6_share_8 : decode cX6_share 8 = .ok (.lload 4, 2) := by decide +kernel
theorem dX6_share_10 : decode cX6_share 10 = .ok (.lconst 1, 1) := by decide +kernel
theorem dX6_share_11 : decode cX6_share 11 = .ok (.lcmp, 1) := by decide +kernel
theorem dX6_share_12 : decode cX6_share 12 = .ok (.ifCond .lt 38, 3) := by decide +kernel
theorem dX6_share_15 : decode cX6_share 15 = .ok (.lload 4, 2) := by decide +kernel
theorem dX6_share_17 : decode cX6_share 17 = .ok (.ldc2_w 108, 3) := by decide +kernel
theorem dX6_share_20 : decode cX6_share 20 = .ok (.lcmp, 1) := by decide +kernel
theorem dX6_share_21 : decode cX6_share 21 = .ok (.ifCond .gt 29, 3) := by decide +kernel
theorem dX6_share_24 : decode cX6_share 24 = .ok (.lload_n 2, 1) := by decide +kernel
theorem dX6_share_25 : decode cX6_share 25 = .ok (.lconst 0, 1) := by decide +kernel
theorem dX6_share_26 : decode cX6_share 26 = .ok (.lcmp, 1) := by decide +kernel
theorem dX6_share_27 : decode cX6_share 27 = .ok (.ifCond .lt 23, 3) := by decide +kernel
theorem dX6_share_30 : decode cX6_share 30 = .ok (.lload_n 2, 1) := by decide +kernel
theorem dX6_share_31 : decode cX6_share 31 = .ok (.lload 4, 2) := by decide +kernel
theorem dX6_share_33 : decode cX6_share 33 = .ok (.lcmp, 1) := by decide +kernel
theorem dX6_share_34 : decode cX6_share 34 = .ok (.ifCond .gt 16, 3) := by decide +kernel
theorem dX6_share_37 : decode cX6_share 37 = .ok (.lload_n 2, 1) := by decide +kernel
theorem dX6_share_38 : decode cX6_share 38 = .ok (.ldc2_w 108, 3) := by decide +kernel
theorem dX6_share_41 : decode cX6_share 41 = .ok (.lmul, 1) := by decide +kernel
theorem dX6_share_42 : decode cX6_share 42 = .ok (.lload 4, 2) := by decide +kernel
theorem dX6_share_44 : decode cX6_share 44 = .ok (.lrem, 1) := by decide +kernel
theorem dX6_share_45 : decode cX6_share 45 = .ok (.lconst 0, 1) := by decide +kernel
theorem dX6_share_46 : decode cX6_share 46 = .ok (.lcmp, 1) := by decide +kernel
theorem dX6_share_47 : decode cX6_share 47 = .ok (.ifCond .eq 5, 3) := by decide +kernel
theorem dX6_share_50 : decode cX6_share 50 = .ok (.iconst 0, 1) := by decide +kernel
theorem dX6_share_51 : decode cX6_share 51 = .ok (.ireturn, 1) := by decide +kernel
theorem dX6_share_52 : decode cX6_share 52 = .ok (.aload_n 0, 1) := by decide +kernel
theorem dX6_share_53 : decode cX6_share 53 = .ok (.getfield 24, 3) := by decide +kernel
theorem dX6_share_56 : decode cX6_share 56 = .ok (.iload_n 1, 1) := by decide +kernel
theorem dX6_share_57 : decode cX6_share 57 = .ok (.lload_n 2, 1) := by decide +kernel
theorem dX6_share_58 : decode cX6_share 58 = .ok (.ldc2_w 108, 3) := by decide +kernel
theorem dX6_share_61 : decode cX6_share 61 = .ok (.lmul, 1) := by decide +kernel
theorem dX6_share_62 : decode cX6_share 62 = .ok (.lload 4, 2) := by decide +kernel
theorem dX6_share_64 : decode cX6_share 64 = .ok (.ldiv, 1) := by decide +kernel
theorem dX6_share_65 : decode cX6_share 65 = .ok (.lastore, 1) := by decide +kernel
theorem dX6_share_66 : decode cX6_share 66 = .ok (.iconst 1, 1) := by decide +kernel
theorem dX6_share_67 : decode cX6_share 67 = .ok (.ireturn, 1) := by decide +kernel
set_option maxRecDepth 20000 in
theorem ggX6_balance_X6_isParty : GoodIn wsX6_balance wsX6_isParty := goodIn_r _ [10, 11, 12, 13, 14, 15, 16, 17, 18, 19, 20, 21, 22, 23, 24, 25, 26, 27, 28, 29, 30, 31] (by decide +kernel) (by decide +kernel)
set_option maxRecDepth 20000 in
theorem gX6_balance_X6_isParty : GoodIn wsX6_balance (wsV RX6 78 RX6 yX6_isParty wsX6_isParty) := goodIn_app (goodIn_of _ (by decide +kernel)) ggX6_balance_X6_isParty
theorem dX6_balance_0 : decode cX6_balance 0 = .ok (.lconst 0, 1) := by decide +kernel
theorem dX6_balance_1 : decode cX6_balance 1 = .ok (.lstore 4, 2) := by decide +kernel
theorem dX6_balance_3 : decode cX6_balance 3 = .ok (.iconst 0, 1) := by decide +kernel
theorem dX6_balance_4 : decode cX6_balance 4 = .ok (.istore 6, 2) := by decide +kernel
theorem dX6_balance_6 : decode cX6_balance 6 = .ok (.iload 6, 2) := by decide +kernel
theorem dX6_balance_8 : decode cX6_balance 8 = .ok (.aload_n 0, 1) := by decide +kernel
theorem dX6_balance_9 : decode cX6_balance 9 = .ok (.getfield 75, 3) := by decide +kernel
theorem dX6_balance_12 : decode cX6_balance 12 = .ok (.if_icmp .ge 83, 3) := by decide +kernel
theorem dX6_balance_15 : decode cX6_balance 15 = .ok (.aload_n 0, 1) := by decide +kernel
theorem dX6_balance_16 : decode cX6_balance 16 = .ok (.getfield 57, 3) := by decide +kernel
theorem dX6_balance_19 : decode cX6_balance 19 = .ok (.iload 6, 2) := by decide +kernel
theorem dX6_balance_21 : decode cX6_balance 21 = .ok (.laload, 1) := by decide +kernel
theorem dX6_balance_22 : decode cX6_balance 22 = .ok (.lload_n 2, 1) := by decide +kernel
theorem dX6_balance_23 : decode cX6_balance 23 = .ok (.lcmp, 1) := by decide +kernel
theorem dX6_balance_24 : decode cX6_balance 24 = .ok (.ifCond .gt 65, 3) := by decide +kernel
theorem dX6_balance_27 : decode cX6_balance 27 = .ok (.aload_n 0, 1) := by decide +kernel
theorem dX6_balance_28 : decode cX6_balance 28 = .ok (.iload_n 1, 1) := by decide +kernel
theorem dX6_balance_29 : decode cX6_balance 29 = .ok (.invokevirtual 78, 3) := by decide +kernel
theorem dX6_balance_32 : decode cX6_balance 32 = .ok (.ifCond .eq 57, 3) := by decide +kernel
theorem dX6_balance_35 : decode cX6_balance 35 = .ok (.lload 4, 2) := by decide +kernel
theorem dX6_balance_37 : decode cX6_balance 37 = .ok (.aload_n 0, 1) := by decide +kernel
theorem dX6_balance_38 : decode cX6_balance 38 = .ok (.getfield 48, 3) := by decide +kernel
theorem dX6_balance_41 : decode cX6_balance 41 = .ok (.iload 6, 2) := by decide +kernel
theorem dX6_balance_43 : decode cX6_balance 43 = .ok (.iaload, 1) := by decide +kernel
theorem dX6_balance_44 : decode cX6_balance 44 = .ok (.iload_n 1, 1) := by decide +kernel
theorem dX6_balance_45 : decode cX6_balance 45 = .ok (.if_icmp .ne 13, 3) := by decide +kernel
theorem dX6_balance_48 : decode cX6_balance 48 = .ok (.aload_n 0, 1) := by decide +kernel
theorem dX6_balance_49 : decode cX6_balance 49 = .ok (.getfield 54, 3) := by decide +kernel
theorem dX6_balance_52 : decode cX6_balance 52 = .ok (.iload 6, 2) := by decide +kernel
theorem dX6_balance_54 : decode cX6_balance 54 = .ok (.laload, 1) := by decide +kernel
theorem dX6_balance_55 : decode cX6_balance 55 = .ok (.goto 4, 3) := by decide +kernel
theorem dX6_balance_58 : decode cX6_balance 58 = .ok (.lconst 0, 1) := by decide +kernel
theorem dX6_balance_59 : decode cX6_balance 59 = .ok (.ladd, 1) := by decide +kernel
theorem dX6_balance_60 : decode cX6_balance 60 = .ok (.lstore 4, 2) := by decide +kernel
theorem dX6_balance_62 : decode cX6_balance 62 = .ok (.lload 4, 2) := by decide +kernel
theorem dX6_balance_64 : decode cX6_balance 64 = .ok (.aload_n 0, 1) := by decide +kernel
theorem dX6_balance_65 : decode cX6_balance 65 = .ok (.getfield 51, 3) := by decide +kernel
theorem dX6_balance_68 : decode cX6_balance 68 = .ok (.iload 6, 2) := by decide +kernel
theorem dX6_balance_70 : decode cX6_balance 70 = .ok (.iaload, 1) := by decide +kernel
theorem dX6_balance_71 : decode cX6_balance 71 = .ok (.iload_n 1, 1) := by decide +kernel
theorem dX6_balance_72 : decode cX6_balance 72 = .ok (.if_icmp .ne 13, 3) := by decide +kernel
theorem dX6_balance_75 : decode cX6_balance 75 = .ok (.aload_n 0, 1) := by decide +kernel
theorem dX6_balance_76 : decode cX6_balance 76 = .ok (.getfield 54, 3) := by decide +kernel
theorem dX6_balance_79 : decode cX6_balance 79 = .ok (.iload 6, 2) := by decide +kernel
theorem dX6_balance_81 : decode cX6_balance 81 = .ok (.laload, 1) := by decide +kernel
theorem dX6_balance_82 : decode cX6_balance 82 = .ok (.goto 4, 3) := by decide +kernel
theorem dX6_balance_85 : decode cX6_balance 85 = .ok (.lconst 0, 1) := by decide +kernel
theorem dX6_balance_86 : decode cX6_balance 86 = .ok (.lsub, 1) := by decide +kernel
theorem dX6_balance_87 : decode cX6_balance 87 = .ok (.lstore 4, 2) := by decide +kernel
theorem dX6_balance_89 : decode cX6_balance 89 = .ok (.iinc 6 1, 3) := by decide +kernel
theorem dX6_balance_92 : decode cX6_balance 92 = .ok (.goto (-86), 3) := by decide +kernel
theorem dX6_balance_95 : decode cX6_balance 95 = .ok (.lload 4, 2) := by decide +kernel
theorem dX6_balance_97 : decode cX6_balance 97 = .ok (.lreturn, 1) := by decide +kernel
set_option maxRecDepth 20000 in
theorem ggX6_count_X6_isParty : GoodIn wsX6_count wsX6_isParty := goodIn_r _ [6, 7, 21, 22, 23, 24, 25, 26, 27, 28, 29, 30, 31, 32, 33, 34, 35, 36, 37, 38, 39, 40] (by decide +kernel) (by decide +kernel)
set_option maxRecDepth 20000 in
theorem gX6_count_X6_isParty : GoodIn wsX6_count (wsV RX6 78 RX6 yX6_isParty wsX6_isParty) := goodIn_app (goodIn_of _ (by decide +kernel)) ggX6_count_X6_isParty
set_option maxRecDepth 20000 in
theorem ggX6_count_X6_isKind : GoodIn wsX6_count wsX6_isKind := goodIn_r _ [11, 12, 21, 22, 23, 24, 25, 26, 27, 28, 29, 30, 31, 32, 33, 34, 35, 36, 37, 38, 39, 40] (by decide +kernel) (by decide +kernel)
set_option maxRecDepth 20000 in
theorem gX6_count_X6_isKind : GoodIn wsX6_count (wsV RX6 65 RX6 yX6_isKind wsX6_isKind) := goodIn_app (goodIn_of _ (by decide +kernel)) ggX6_count_X6_isKind
set_option maxRecDepth 20000 in
theorem ggX6_count_X6_has : GoodIn wsX6_count wsX6_has := goodIn_r _ [16, 17, 18, 19, 20, 21, 22, 23, 24, 25, 26, 27, 28, 29, 30, 31, 32, 33, 34, 35, 36, 37, 38, 39, 40] (by decide +kernel) (by decide +kernel)
set_option maxRecDepth 20000 in
theorem gX6_count_X6_has : GoodIn wsX6_count (wsV RX6 100 RX6 yX6_has wsX6_has) := goodIn_app (goodIn_of _ (by decide +kernel)) ggX6_count_X6_has
theorem dX6_count_0 : decode cX6_count 0 = .ok (.aload_n 0, 1) := by decide +kernel
theorem dX6_count_1 : decode cX6_count 1 = .ok (.iload_n 1, 1) := by decide +kernel
theorem dX6_count_2 : decode cX6_count 2 = .ok (.invokevirtual 78, 3) := by decide +kernel
theorem dX6_count_5 : decode cX6_count 5 = .ok (.ifCond .eq 20, 3) := by decide +kernel
theorem dX6_count_8 : decode cX6_count 8 = .ok (.aload_n 0, 1) := by decide +kernel
theorem dX6_count_9 : decode cX6_count 9 = .ok (.iload_n 2, 1) := by decide +kernel
theorem dX6_count_10 : decode cX6_count 10 = .ok (.invokevirtual 65, 3) := by decide +kernel
theorem dX6_count_13 : decode cX6_count 13 = .ok (.ifCond .eq 12, 3) := by decide +kernel
theorem dX6_count_16 : decode cX6_count 16 = .ok (.aload_n 0, 1) := by decide +kernel
theorem dX6_count_17 : decode cX6_count 17 = .ok (.iload_n 1, 1) := by decide +kernel
theorem dX6_count_18 : decode cX6_count 18 = .ok (.iload_n 2, 1) := by decide +kernel
theorem dX6_count_19 : decode cX6_count 19 = .ok (.invokevirtual 100, 3) := by decide +kernel
theorem dX6_count_22 : decode cX6_count 22 = .ok (.goto 6, 3) := by decide +kernel
theorem dX6_count_25 : decode cX6_count 25 = .ok (.ldc2_w 73, 3) := by decide +kernel
theorem dX6_count_28 : decode cX6_count 28 = .ok (.lreturn, 1) := by decide +kernel
set_option maxRecDepth 20000 in
theorem ggX6_lost_X6_isKind : GoodIn wsX6_lost wsX6_isKind := goodIn_r _ [12, 13, 14, 15, 16, 17, 18, 19, 20, 21, 22, 23, 24, 25, 26, 27, 28, 29, 30, 31, 32, 33] (by decide +kernel) (by decide +kernel)
set_option maxRecDepth 20000 in
theorem gX6_lost_X6_isKind : GoodIn wsX6_lost (wsV RX6 65 RX6 yX6_isKind wsX6_isKind) := goodIn_app (goodIn_of _ (by decide +kernel)) ggX6_lost_X6_isKind
theorem dX6_lost_0 : decode cX6_lost 0 = .ok (.aload_n 0, 1) := by decide +kernel
theorem dX6_lost_1 : decode cX6_lost 1 = .ok (.iload_n 1, 1) := by decide +kernel
theorem dX6_lost_2 : decode cX6_lost 2 = .ok (.invokevirtual 65, 3) := by decide +kernel
theorem dX6_lost_5 : decode cX6_lost 5 = .ok (.ifCond .eq 7, 3) := by decide +kernel
theorem dX6_lost_8 : decode cX6_lost 8 = .ok (.iload_n 2, 1) := by decide +kernel
theorem dX6_lost_9 : decode cX6_lost 9 = .ok (.ifCond .ge 7, 3) := by decide +kernel
theorem dX6_lost_12 : decode cX6_lost 12 = .ok (.ldc2_w 73, 3) := by decide +kernel
theorem dX6_lost_15 : decode cX6_lost 15 = .ok (.lreturn, 1) := by decide +kernel
theorem dX6_lost_16 : decode cX6_lost 16 = .ok (.lconst 0, 1) := by decide +kernel
theorem dX6_lost_17 : decode cX6_lost 17 = .ok (.lstore_n 3, 1) := by decide +kernel
theorem dX6_lost_18 : decode cX6_lost 18 = .ok (.iconst 0, 1) := by decide +kernel
theorem dX6_lost_19 : decode cX6_lost 19 = .ok (.istore 5, 2) := by decide +kernel
theorem dX6_lost_21 : decode cX6_lost 21 = .ok (.iload 5, 2) := by decide +kernel
theorem dX6_lost_23 : decode cX6_lost 23 = .ok (.aload_n 0, 1) := by decide +kernel
theorem dX6_lost_24 : decode cX6_lost 24 = .ok (.getfield 89, 3) := by decide +kernel
theorem dX6_lost_27 : decode cX6_lost 27 = .ok (.if_icmp .ge 56, 3) := by decide +kernel
theorem dX6_lost_30 : decode cX6_lost 30 = .ok (.lload_n 3, 1) := by decide +kernel
theorem dX6_lost_31 : decode cX6_lost 31 = .ok (.aload_n 0, 1) := by decide +kernel
theorem dX6_lost_32 : decode cX6_lost 32 = .ok (.getfield 36, 3) := by decide +kernel
theorem dX6_lost_35 : decode cX6_lost 35 = .ok (.iload 5, 2) := by decide +kernel
theorem dX6_lost_37 : decode cX6_lost 37 = .ok (.iaload, 1) := by decide +kernel
theorem dX6_lost_38 : decode cX6_lost 38 = .ok (.iload_n 1, 1) := by decide +kernel
theorem dX6_lost_39 : decode cX6_lost 39 = .ok (.if_icmp .ne 35, 3) := by decide +kernel
theorem dX6_lost_42 : decode cX6_lost 42 = .ok (.aload_n 0, 1) := by decide +kernel
theorem dX6_lost_43 : decode cX6_lost 43 = .ok (.getfield 81, 3) := by decide +kernel
theorem dX6_lost_46 : decode cX6_lost 46 = .ok (.aload_n 0, 1) := by decide +kernel
theorem dX6_lost_47 : decode cX6_lost 47 = .ok (.getfield 42, 3) := by decide +kernel
theorem dX6_lost_50 : decode cX6_lost 50 = .ok (.iload 5, 2) := by decide +kernel
theorem dX6_lost_52 : decode cX6_lost 52 = .ok (.laload, 1) := by decide +kernel
theorem dX6_lost_53 : decode cX6_lost 53 = .ok (.lsub, 1) := by decide +kernel
theorem dX6_lost_54 : decode cX6_lost 54 = .ok (.iload_n 2, 1) := by decide +kernel
theorem dX6_lost_55 : decode cX6_lost 55 = .ok (.i2l, 1) := by decide +kernel
theorem dX6_lost_56 : decode cX6_lost 56 = .ok (.ldc2_w 110, 3) := by decide +kernel
theorem dX6_lost_59 : decode cX6_lost 59 = .ok (.lmul, 1) := by decide +kernel
theorem dX6_lost_60 : decode cX6_lost 60 = .ok (.lcmp, 1) := by decide +kernel
theorem dX6_lost_61 : decode cX6_lost 61 = .ok (.ifCond .lt 13, 3) := by decide +kernel
theorem dX6_lost_64 : decode cX6_lost 64 = .ok (.aload_n 0, 1) := by decide +kernel
theorem dX6_lost_65 : decode cX6_lost 65 = .ok (.getfield 39, 3) := by decide +kernel
theorem dX6_lost_68 : decode cX6_lost 68 = .ok (.iload 5, 2) := by decide +kernel
theorem dX6_lost_70 : decode cX6_lost 70 = .ok (.laload, 1) := by decide +kernel
theorem dX6_lost_71 : decode cX6_lost 71 = .ok (.goto 4, 3) := by decide +kernel
theorem dX6_lost_74 : decode cX6_lost 74 = .ok (.lconst 0, 1) := by decide +kernel
theorem dX6_lost_75 : decode cX6_lost 75 = .ok (.ladd, 1) := by decide +kernel
theorem dX6_lost_76 : decode cX6_lost 76 = .ok (.lstore_n 3, 1) := by decide +kernel
theorem dX6_lost_77 : decode cX6_lost 77 = .ok (.iinc 5 1, 3) := by decide +kernel
theorem dX6_lost_80 : decode cX6_lost 80 = .ok (.goto (-59), 3) := by decide +kernel
theorem dX6_lost_83 : decode cX6_lost 83 = .ok (.lload_n 3, 1) := by decide +kernel
theorem dX6_lost_84 : decode cX6_lost 84 = .ok (.lreturn, 1) := by decide +kernel
set_option maxRecDepth 20000 in
theorem ggX6_worth_X6_has : GoodIn wsX6_worth wsX6_has := goodIn_r _ [6, 7, 8, 9, 10, 19, 20, 21, 22, 23, 24, 25, 26, 27, 28, 29, 30, 31, 32, 33, 34, 35, 36, 37, 38] (by decide +kernel) (by decide +kernel)
set_option maxRecDepth 20000 in
theorem gX6_worth_X6_has : GoodIn wsX6_worth (wsV RX6 100 RX6 yX6_has wsX6_has) := goodIn_app (goodIn_of _ (by decide +kernel)) ggX6_worth_X6_has
set_option maxRecDepth 20000 in
theorem ggX6_worth_X6_priceOn : GoodIn wsX6_worth wsX6_priceOn := goodIn_r _ [14, 15, 16, 17, 18, 19, 20, 21, 22, 23, 24, 25, 26, 27, 28, 29, 30, 31, 32, 33, 34, 35, 36, 37, 38] (by decide +kernel) (by decide +kernel)
set_option maxRecDepth 20000 in
theorem gX6_worth_X6_priceOn : GoodIn wsX6_worth (wsV RX6 92 RX6 yX6_priceOn wsX6_priceOn) := goodIn_app (goodIn_of _ (by decide +kernel)) ggX6_worth_X6_priceOn
theorem dX6_worth_0 : decode cX6_worth 0 = .ok (.lconst 0, 1) := by decide +kernel
theorem dX6_worth_1 : decode cX6_worth 1 = .ok (.lstore 4, 2) := by decide +kernel
theorem dX6_worth_3 : decode cX6_worth 3 = .ok (.iconst 0, 1) := by decide +kernel
theorem dX6_worth_4 : decode cX6_worth 4 = .ok (.istore 6, 2) := by decide +kernel
theorem dX6_worth_6 : decode cX6_worth 6 = .ok (.iload 6, 2) := by decide +kernel
theorem dX6_worth_8 : decode cX6_worth 8 = .ok (.aload_n 0, 1) := by decide +kernel
theorem dX6_worth_9 : decode cX6_worth 9 = .ok (.getfield 60, 3) := by decide +kernel
theorem dX6_worth_12 : decode cX6_worth 12 = .ok (.if_icmp .ge 29, 3) := by decide +kernel
theorem dX6_worth_15 : decode cX6_worth 15 = .ok (.lload 4, 2) := by decide +kernel
theorem dX6_worth_17 : decode cX6_worth 17 = .ok (.aload_n 0, 1) := by decide +kernel
theorem dX6_worth_18 : decode cX6_worth 18 = .ok (.iload_n 1, 1) := by decide +kernel
theorem dX6_worth_19 : decode cX6_worth 19 = .ok (.iload 6, 2) := by decide +kernel
theorem dX6_worth_21 : decode cX6_worth 21 = .ok (.invokevirtual 100, 3) := by decide +kernel
theorem dX6_worth_24 : decode cX6_worth 24 = .ok (.aload_n 0, 1) := by decide +kernel
theorem dX6_worth_25 : decode cX6_worth 25 = .ok (.iload 6, 2) := by decide +kernel
theorem dX6_worth_27 : decode cX6_worth 27 = .ok (.lload_n 2, 1) := by decide +kernel
theorem dX6_worth_28 : decode cX6_worth 28 = .ok (.invokevirtual 92, 3) := by decide +kernel
theorem dX6_worth_31 : decode cX6_worth 31 = .ok (.lmul, 1) := by decide +kernel
theorem dX6_worth_32 : decode cX6_worth 32 = .ok (.ladd, 1) := by decide +kernel
theorem dX6_worth_33 : decode cX6_worth 33 = .ok (.lstore 4, 2) := by decide +kernel
theorem dX6_worth_35 : decode cX6_worth 35 = .ok (.iinc 6 1, 3) := by decide +kernel
theorem dX6_worth_38 : decode cX6_worth 38 = .ok (.goto (-32), 3) := by decide +kernel
theorem dX6_worth_41 : decode cX6_worth 41 = .ok (.lload 4, 2) := by decide +kernel
theorem dX6_worth_43 : decode cX6_worth 43 = .ok (.lreturn, 1) := by decide +kernel
set_option maxRecDepth 20000 in
theorem ggX6_settle_X6_isParty : GoodIn wsX6_settle wsX6_isParty := goodIn_r _ [8, 9, 44, 45, 46, 47, 48, 49, 50, 51, 52, 53, 54, 55, 56, 57, 58, 59, 60, 61, 62, 63] (by decide +kernel) (by decide +kernel)
set_option maxRecDepth 20000 in
theorem gX6_settle_X6_isParty : GoodIn wsX6_settle (wsV RX6 78 RX6 yX6_isParty wsX6_isParty) := goodIn_app (goodIn_of _ (by decide +kernel)) ggX6_settle_X6_isParty
set_option maxRecDepth 20000 in
theorem ggX6_settle_X6_isDay : GoodIn wsX6_settle wsX6_isDay := goodIn_r _ [12, 13] (by decide +kernel) (by decide +kernel)
set_option maxRecDepth 20000 in
theorem gX6_settle_X6_isDay : GoodIn wsX6_settle (va_wsS RX6 69 yX6_isDay wsX6_isDay) := goodIn_app (goodIn_of _ (by decide +kernel)) ggX6_settle_X6_isDay
set_option maxRecDepth 20000 in
theorem ggX6_settle_X6_worth : GoodIn wsX6_settle wsX6_worth := goodIn_r _ [17, 18, 19, 20, 21, 7, 22, 23, 24, 25, 26, 27, 28, 29, 30, 31, 32, 33, 34, 44, 45, 46, 47, 48, 49, 50, 51, 52, 53, 54, 55, 56, 57, 58, 59, 60, 61, 62, 63] (by decide +kernel) (by decide +kernel)
set_option maxRecDepth 20000 in
theorem gX6_settle_X6_worth : GoodIn wsX6_settle (wsV RX6 112 RX6 yX6_worth wsX6_worth) := goodIn_app (goodIn_of _ (by decide +kernel)) ggX6_settle_X6_worth
set_option maxRecDepth 20000 in
theorem ggX6_settle_X6_move : GoodIn wsX6_settle wsX6_move := goodIn_r _ [38, 39, 40, 41, 42, 43, 44, 45, 46, 47, 48, 49, 50, 51, 52, 53, 54, 55, 56, 57, 58, 59, 60, 61, 62, 63] (by decide +kernel) (by decide +kernel)
set_option maxRecDepth 20000 in
theorem gX6_settle_X6_move : GoodIn wsX6_settle (wsV RX6 96 RX6 yX6_move wsX6_move) := goodIn_app (goodIn_of _ (by decide +kernel)) ggX6_settle_X6_move
theorem dX6_settle_0 : decode cX6_settle 0 = .ok (.iload_n 3, 1) := by decide +kernel
theorem dX6_settle_1 : decode cX6_settle 1 = .ok (.i2l, 1) := by decide +kernel
theorem dX6_settle_2 : decode cX6_settle 2 = .ok (.ldc2_w 110, 3) := by decide +kernel
theorem dX6_settle_5 : decode cX6_settle 5 = .ok (.lmul, 1) := by decide +kernel
theorem dX6_settle_6 : decode cX6_settle 6 = .ok (.lstore 4, 2) := by decide +kernel
theorem dX6_settle_8 : decode cX6_settle 8 = .ok (.aload_n 0, 1) := by decide +kernel
theorem dX6_settle_9 : decode cX6_settle 9 = .ok (.iload_n 1, 1) := by decide +kernel
theorem dX6_settle_10 : decode cX6_settle 10 = .ok (.invokevirtual 78, 3) := by decide +kernel
theorem dX6_settle_13 : decode cX6_settle 13 = .ok (.ifCond .eq 42, 3) := by decide +kernel
theorem dX6_settle_16 : decode cX6_settle 16 = .ok (.aload_n 0, 1) := by decide +kernel
theorem dX6_settle_17 : decode cX6_settle 17 = .ok (.iload_n 2, 1) := by decide +kernel
theorem dX6_settle_18 : decode cX6_settle 18 = .ok (.invokevirtual 78, 3) := by decide +kernel
theorem dX6_settle_21 : decode cX6_settle 21 = .ok (.ifCond .eq 34, 3) := by decide +kernel
theorem dX6_settle_24 : decode cX6_settle 24 = .ok (.iload_n 1, 1) := by decide +kernel
theorem dX6_settle_25 : decode cX6_settle 25 = .ok (.ifCond .eq 30, 3) := by decide +kernel
theorem dX6_settle_28 : decode cX6_settle 28 = .ok (.iload_n 2, 1) := by decide +kernel
theorem dX6_settle_29 : decode cX6_settle 29 = .ok (.ifCond .eq 26, 3) := by decide +kernel
theorem dX6_settle_32 : decode cX6_settle 32 = .ok (.iload_n 1, 1) := by decide +kernel
theorem dX6_settle_33 : decode cX6_settle 33 = .ok (.iload_n 2, 1) := by decide +kernel
theorem dX6_settle_34 : decode cX6_settle 34 = .ok (.if_icmp .eq 21, 3) := by decide +kernel
theorem dX6_settle_37 : decode cX6_settle 37 = .ok (.lload 4, 2) := by decide +kernel
theorem dX6_settle_39 : decode cX6_settle 39 = .ok (.invokestatic 69, 3) := by decide +kernel
theorem dX6_settle_42 : decode cX6_settle 42 = .ok (.ifCond .eq 13, 3) := by decide +kernel
theorem dX6_settle_45 : decode cX6_settle 45 = .ok (.lload 4, 2) := by decide +kernel
theorem dX6_settle_47 : decode cX6_settle 47 = .ok (.aload_n 0, 1) := by decide +kernel
theorem dX6_settle_48 : decode cX6_settle 48 = .ok (.getfield 81, 3) := by decide +kernel
theorem dX6_settle_51 : decode cX6_settle 51 = .ok (.lcmp, 1) := by decide +kernel
theorem dX6_settle_52 : decode cX6_settle 52 = .ok (.ifCond .ge 6, 3) := by decide +kernel
theorem dX6_settle_55 : decode cX6_settle 55 = .ok (.bipush (-2), 2) := by decide +kernel
theorem dX6_settle_57 : decode cX6_settle 57 = .ok (.ireturn, 1) := by decide +kernel
theorem dX6_settle_58 : decode cX6_settle 58 = .ok (.aload_n 0, 1) := by decide +kernel
theorem dX6_settle_59 : decode cX6_settle 59 = .ok (.lload 4, 2) := by decide +kernel
theorem dX6_settle_61 : decode cX6_settle 61 = .ok (.putfield 81, 3) := by decide +kernel
theorem dX6_settle_64 : decode cX6_settle 64 = .ok (.aload_n 0, 1) := by decide +kernel
theorem dX6_settle_65 : decode cX6_settle 65 = .ok (.iload_n 1, 1) := by decide +kernel
theorem dX6_settle_66 : decode cX6_settle 66 = .ok (.lload 4, 2) := by decide +kernel
theorem dX6_settle_68 : decode cX6_settle 68 = .ok (.invokevirtual 112, 3) := by decide +kernel
theorem dX6_settle_71 : decode cX6_settle 71 = .ok (.aload_n 0, 1) := by decide +kernel
theorem dX6_settle_72 : decode cX6_settle 72 = .ok (.iload_n 2, 1) := by decide +kernel
theorem dX6_settle_73 : decode cX6_settle 73 = .ok (.lload 4, 2) := by decide +kernel
theorem dX6_settle_75 : decode cX6_settle 75 = .ok (.invokevirtual 112, 3) := by decide +kernel
theorem dX6_settle_78 : decode cX6_settle 78 = .ok (.lsub, 1) := by decide +kernel
theorem dX6_settle_79 : decode cX6_settle 79 = .ok (.lstore 6, 2) := by decide +kernel
theorem dX6_settle_81 : decode cX6_settle 81 = .ok (.lload 6, 2) := by decide +kernel
theorem dX6_settle_83 : decode cX6_settle 83 = .ok (.lconst 0, 1) := by decide +kernel
theorem dX6_settle_84 : decode cX6_settle 84 = .ok (.lcmp, 1) := by decide +kernel
theorem dX6_settle_85 : decode cX6_settle 85 = .ok (.ifCond .ge 9, 3) := by decide +kernel
theorem dX6_settle_88 : decode cX6_settle 88 = .ok (.lload 6, 2) := by decide +kernel
theorem dX6_settle_90 : decode cX6_settle 90 = .ok (.lneg, 1) := by decide +kernel
theorem dX6_settle_91 : decode cX6_settle 91 = .ok (.goto 5, 3) := by decide +kernel
theorem dX6_settle_94 : decode cX6_settle 94 = .ok (.lload 6, 2) := by decide +kernel
theorem dX6_settle_96 : decode cX6_settle 96 = .ok (.ldc2_w 115, 3) := by decide +kernel
theorem dX6_settle_99 : decode cX6_settle 99 = .ok (.ldiv, 1) := by decide +kernel
theorem dX6_settle_100 : decode cX6_settle 100 = .ok (.lstore 8, 2) := by decide +kernel
theorem dX6_settle_102 : decode cX6_settle 102 = .ok (.aload_n 0, 1) := by decide +kernel
theorem dX6_settle_103 : decode cX6_settle 103 = .ok (.lload 6, 2) := by decide +kernel
theorem dX6_settle_105 : decode cX6_settle 105 = .ok (.lconst 0, 1) := by decide +kernel
theorem dX6_settle_106 : decode cX6_settle 106 = .ok (.lcmp, 1) := by decide +kernel
theorem dX6_settle_107 : decode cX6_settle 107 = .ok (.ifCond .ge 7, 3) := by decide +kernel
theorem dX6_settle_110 : decode cX6_settle 110 = .ok (.iload_n 2, 1) := by decide +kernel
theorem dX6_settle_111 : decode cX6_settle 111 = .ok (.goto 4, 3) := by decide +kernel
theorem dX6_settle_114 : decode cX6_settle 114 = .ok (.iload_n 1, 1) := by decide +kernel
theorem dX6_settle_115 : decode cX6_settle 115 = .ok (.lload 6, 2) := by decide +kernel
theorem dX6_settle_117 : decode cX6_settle 117 = .ok (.lconst 0, 1) := by decide +kernel
theorem dX6_settle_118 : decode cX6_settle 118 = .ok (.lcmp, 1) := by decide +kernel
theorem dX6_settle_119 : decode cX6_settle 119 = .ok (.ifCond .ge 7, 3) := by decide +kernel
theorem dX6_settle_122 : decode cX6_settle 122 = .ok (.iload_n 1, 1) := by decide +kernel
theorem dX6_settle_123 : decode cX6_settle 123 = .ok (.goto 4, 3) := by decide +kernel
theorem dX6_settle_126 : decode cX6_settle 126 = .ok (.iload_n 2, 1) := by decide +kernel
theorem dX6_settle_127 : decode cX6_settle 127 = .ok (.lload 8, 2) := by decide +kernel
theorem dX6_settle_129 : decode cX6_settle 129 = .ok (.lload 4, 2) := by decide +kernel
theorem dX6_settle_131 : decode cX6_settle 131 = .ok (.invokevirtual 96, 3) := by decide +kernel
theorem dX6_settle_134 : decode cX6_settle 134 = .ok (.lload 8, 2) := by decide +kernel
theorem dX6_settle_136 : decode cX6_settle 136 = .ok (.lconst 0, 1) := by decide +kernel
theorem dX6_settle_137 : decode cX6_settle 137 = .ok (.lcmp, 1) := by decide +kernel
theorem dX6_settle_138 : decode cX6_settle 138 = .ok (.ifCond .ne 7, 3) := by decide +kernel
theorem dX6_settle_141 : decode cX6_settle 141 = .ok (.iconst 0, 1) := by decide +kernel
theorem dX6_settle_142 : decode cX6_settle 142 = .ok (.goto 15, 3) := by decide +kernel
theorem dX6_settle_145 : decode cX6_settle 145 = .ok (.lload 6, 2) := by decide +kernel
theorem dX6_settle_147 : decode cX6_settle 147 = .ok (.lconst 0, 1) := by decide +kernel
theorem dX6_settle_148 : decode cX6_settle 148 = .ok (.lcmp, 1) := by decide +kernel
theorem dX6_settle_149 : decode cX6_settle 149 = .ok (.ifCond .ge 7, 3) := by decide +kernel
theorem dX6_settle_152 : decode cX6_settle 152 = .ok (.iconst (-1), 1) := by decide +kernel
theorem dX6_settle_153 : decode cX6_settle 153 = .ok (.goto 4, 3) := by decide +kernel
theorem dX6_settle_156 : decode cX6_settle 156 = .ok (.iconst 1, 1) := by decide +kernel
theorem dX6_settle_157 : decode cX6_settle 157 = .ok (.ireturn, 1) := by decide +kernel
set_option maxRecDepth 20000 in
theorem ggX6_rest_X6_isKind : GoodIn wsX6_rest wsX6_isKind := goodIn_r _ [8, 9, 10, 11, 12, 13, 14, 15, 16, 17, 18, 19, 20, 21, 22, 23, 24, 25, 26, 27, 28, 29] (by decide +kernel) (by decide +kernel)
set_option maxRecDepth 20000 in
theorem gX6_rest_X6_isKind : GoodIn wsX6_rest (wsV RX6 65 RX6 yX6_isKind wsX6_isKind) := goodIn_app (goodIn_of _ (by decide +kernel)) ggX6_rest_X6_isKind
theorem dX6_rest_0 : decode cX6_rest 0 = .ok (.aload_n 0, 1) := by decide +kernel
theorem dX6_rest_1 : decode cX6_rest 1 = .ok (.iload_n 1, 1) := by decide +kernel
theorem dX6_rest_2 : decode cX6_rest 2 = .ok (.invokevirtual 65, 3) := by decide +kernel
theorem dX6_rest_5 : decode cX6_rest 5 = .ok (.ifCond .eq 12, 3) := by decide +kernel
theorem dX6_rest_8 : decode cX6_rest 8 = .ok (.iload_n 2, 1) := by decide +kernel
theorem dX6_rest_9 : decode cX6_rest 9 = .ok (.ifCond .lt 8, 3) := by decide +kernel
theorem dX6_rest_12 : decode cX6_rest 12 = .ok (.iload_n 2, 1) := by decide +kernel
theorem dX6_rest_13 : decode cX6_rest 13 = .ok (.iconst 1, 1) := by decide +kernel
theorem dX6_rest_14 : decode cX6_rest 14 = .ok (.if_icmp .le 7, 3) := by decide +kernel
theorem dX6_rest_17 : decode cX6_rest 17 = .ok (.ldc2_w 73, 3) := by decide +kernel
theorem dX6_rest_20 : decode cX6_rest 20 = .ok (.lreturn, 1) := by decide +kernel
theorem dX6_rest_21 : decode cX6_rest 21 = .ok (.ldc2_w 108, 3) := by decide +kernel
theorem dX6_rest_24 : decode cX6_rest 24 = .ok (.lstore_n 3, 1) := by decide +kernel
theorem dX6_rest_25 : decode cX6_rest 25 = .ok (.aload_n 0, 1) := by decide +kernel
theorem dX6_rest_26 : decode cX6_rest 26 = .ok (.getfield 27, 3) := by decide +kernel
theorem dX6_rest_29 : decode cX6_rest 29 = .ok (.iload_n 1, 1) := by decide +kernel
theorem dX6_rest_30 : decode cX6_rest 30 = .ok (.laload, 1) := by decide +kernel
theorem dX6_rest_31 : decode cX6_rest 31 = .ok (.lstore 5, 2) := by decide +kernel
theorem dX6_rest_33 : decode cX6_rest 33 = .ok (.lload 5, 2) := by decide +kernel
theorem dX6_rest_35 : decode cX6_rest 35 = .ok (.lconst 0, 1) := by decide +kernel
theorem dX6_rest_36 : decode cX6_rest 36 = .ok (.lcmp, 1) := by decide +kernel
theorem dX6_rest_37 : decode cX6_rest 37 = .ok (.ifCond .le 19, 3) := by decide +kernel
theorem dX6_rest_40 : decode cX6_rest 40 = .ok (.lload_n 3, 1) := by decide +kernel
theorem dX6_rest_41 : decode cX6_rest 41 = .ok (.lload 5, 2) := by decide +kernel
theorem dX6_rest_43 : decode cX6_rest 43 = .ok (.lrem, 1) := by decide +kernel
theorem dX6_rest_44 : decode cX6_rest 44 = .ok (.lstore 7, 2) := by decide +kernel
theorem dX6_rest_46 : decode cX6_rest 46 = .ok (.lload 5, 2) := by decide +kernel
theorem dX6_rest_48 : decode cX6_rest 48 = .ok (.lstore_n 3, 1) := by decide +kernel
theorem dX6_rest_49 : decode cX6_rest 49 = .ok (.lload 7, 2) := by decide +kernel
theorem dX6_rest_51 : decode cX6_rest 51 = .ok (.lstore 5, 2) := by decide +kernel
theorem dX6_rest_53 : decode cX6_rest 53 = .ok (.goto (-20), 3) := by decide +kernel
theorem dX6_rest_56 : decode cX6_rest 56 = .ok (.iload_n 2, 1) := by decide +kernel
theorem dX6_rest_57 : decode cX6_rest 57 = .ok (.ifCond .ne 14, 3) := by decide +kernel
theorem dX6_rest_60 : decode cX6_rest 60 = .ok (.aload_n 0, 1) := by decide +kernel
theorem dX6_rest_61 : decode cX6_rest 61 = .ok (.getfield 27, 3) := by decide +kernel
theorem dX6_rest_64 : decode cX6_rest 64 = .ok (.iload_n 1, 1) := by decide +kernel
theorem dX6_rest_65 : decode cX6_rest 65 = .ok (.laload, 1) := by decide +kernel
theorem dX6_rest_66 : decode cX6_rest 66 = .ok (.lload_n 3, 1) := by decide +kernel
theorem dX6_rest_67 : decode cX6_rest 67 = .ok (.ldiv, 1) := by decide +kernel
theorem dX6_rest_68 : decode cX6_rest 68 = .ok (.goto 8, 3) := by decide +kernel
theorem dX6_rest_71 : decode cX6_rest 71 = .ok (.ldc2_w 108, 3) := by decide +kernel
theorem dX6_rest_74 : decode cX6_rest 74 = .ok (.lload_n 3, 1) := by decide +kernel
theorem dX6_rest_75 : decode cX6_rest 75 = .ok (.ldiv, 1) := by decide +kernel
theorem dX6_rest_76 : decode cX6_rest 76 = .ok (.lreturn, 1) := by decide +kernel
theorem dX6_sum_0 : decode cX6_sum 0 = .ok (.lconst 0, 1) := by decide +kernel
theorem dX6_sum_1 : decode cX6_sum 1 = .ok (.lreturn, 1) := by decide +kernel
theorem dJ9_abs_067f4_0 : decode cJ9_abs_067f4 0 = .ok (.lload_n 0, 1) := by decide +kernel
theorem dJ9_abs_067f4_1 : decode cJ9_abs_067f4 1 = .ok (.lconst 0, 1) := by decide +kernel
theorem dJ9_abs_067f4_2 : decode cJ9_abs_067f4 2 = .ok (.lcmp, 1) := by decide +kernel
theorem dJ9_abs_067f4_3 : decode cJ9_abs_067f4 3 = .ok (.ifCond .ge 8, 3) := by decide +kernel
theorem dJ9_abs_067f4_6 : decode cJ9_abs_067f4 6 = .ok (.lload_n 0, 1) := by decide +kernel
theorem dJ9_abs_067f4_7 : decode cJ9_abs_067f4 7 = .ok (.lneg, 1) := by decide +kernel
theorem dJ9_abs_067f4_8 : decode cJ9_abs_067f4 8 = .ok (.goto 4, 3) := by decide +kernel
theorem dJ9_abs_067f4_11 : decode cJ9_abs_067f4 11 = .ok (.lload_n 0, 1) := by decide +kernel
theorem dJ9_abs_067f4_12 : decode cJ9_abs_067f4 12 = .ok (.lreturn, 1) := by decide +kernel
theorem dJ9_min_f86c9_0 : decode cJ9_min_f86c9 0 = .ok (.lload_n 0, 1) := by decide +kernel
theorem dJ9_min_f86c9_1 : decode cJ9_min_f86c9 1 = .ok (.lload_n 2, 1) := by decide +kernel
theorem dJ9_min_f86c9_2 : decode cJ9_min_f86c9 2 = .ok (.lcmp, 1) := by decide +kernel
theorem dJ9_min_f86c9_3 : decode cJ9_min_f86c9 3 = .ok (.ifCond .gt 7, 3) := by decide +kernel
theorem dJ9_min_f86c9_6 : decode cJ9_min_f86c9 6 = .ok (.lload_n 0, 1) := by decide +kernel
theorem dJ9_min_f86c9_7 : decode cJ9_min_f86c9 7 = .ok (.goto 4, 3) := by decide +kernel
theorem dJ9_min_f86c9_10 : decode cJ9_min_f86c9 10 = .ok (.lload_n 2, 1) := by decide +kernel
theorem dJ9_min_f86c9_11 : decode cJ9_min_f86c9 11 = .ok (.lreturn, 1) := by decide +kernel
set_option maxRecDepth 20000 in
theorem ggL_law_X5_init : GoodIn wsL_law wsX5_init := goodIn_r _ [9, 10, 11, 12, 13, 14, 15, 16, 17, 18, 19, 20, 21, 22, 363, 364, 337, 338, 339, 340, 341, 342] (by decide +kernel) (by decide +kernel)
set_option maxRecDepth 20000 in
theorem gL_law_X5_init : GoodIn wsL_law (wsX5_init) := ggL_law_X5_init
set_option maxRecDepth 20000 in
theorem ggL_law_X6_init : GoodIn wsL_law wsX6_init := goodIn_r _ [25, 26, 11, 12, 27, 28, 29, 30, 31, 32, 33, 34, 35, 36, 37, 38, 39, 40, 41, 42, 43, 44, 343, 344, 345, 346, 347, 348, 349, 350, 351, 352, 353, 354, 355, 356, 357, 358, 359, 360, 361, 362] (by decide +kernel) (by decide +kernel)
set_option maxRecDepth 20000 in
theorem gL_law_X6_init : GoodIn wsL_law (wsX6_init) := ggL_law_X6_init
set_option maxRecDepth 20000 in
theorem ggL_law_X5_party : GoodIn wsL_law wsX5_party := goodIn_r _ [48, 17, 13, 14, 15, 20, 21, 22, 11, 12, 337, 338, 339, 340, 341, 342, 363, 364] (by decide +kernel) (by decide +kernel)
set_option maxRecDepth 20000 in
theorem gL_law_X5_party : GoodIn wsL_law (wsV RL 13 RX5 yX5_party wsX5_party) := goodIn_app (goodIn_of _ (by decide +kernel)) ggL_law_X5_party
set_option maxRecDepth 20000 in
theorem ggL_law_X6_party : GoodIn wsL_law wsX6_party := goodIn_r _ [52, 27, 343, 344, 345, 346, 347, 348, 349, 350, 351, 352, 353, 354, 355, 356, 357, 358, 359, 360, 361, 362] (by decide +kernel) (by decide +kernel)
set_option maxRecDepth 20000 in
theorem gL_law_X6_party : GoodIn wsL_law (wsV RL 17 RX6 yX6_party wsX6_party) := goodIn_app (goodIn_of _ (by decide +kernel)) ggL_law_X6_party
set_option maxRecDepth 20000 in
theorem ggL_law_X5_kind : GoodIn wsL_law wsX5_kind := goodIn_r _ [56, 19, 18, 57, 58, 59, 60, 61, 11, 12, 337, 338, 339, 340, 341, 342, 365, 366, 367] (by decide +kernel) (by decide +kernel)
set_option maxRecDepth 20000 in
theorem gL_law_X5_kind : GoodIn wsL_law (wsV RL 18 RX5 yX5_kind wsX5_kind) := goodIn_app (goodIn_of _ (by decide +kernel)) ggL_law_X5_kind
set_option maxRecDepth 20000 in
theorem ggL_law_X6_kind : GoodIn wsL_law wsX6_kind := goodIn_r _ [65, 66, 343, 344, 345, 346, 347, 348, 349, 350, 351, 352, 353, 354, 355, 356, 357, 358, 359, 360, 361, 362] (by decide +kernel) (by decide +kernel)
set_option maxRecDepth 20000 in
theorem gL_law_X6_kind : GoodIn wsL_law (wsV RL 21 RX6 yX6_kind wsX6_kind) := goodIn_app (goodIn_of _ (by decide +kernel)) ggL_law_X6_kind
set_option maxRecDepth 20000 in
theorem ggL_law_X5_price : GoodIn wsL_law wsX5_price := goodIn_r _ [70, 71, 72, 73, 74, 2, 75, 19, 76, 77, 78, 79, 80, 81, 58, 82, 83, 84, 85, 86, 87, 88, 89, 90, 11, 12, 91, 92, 93, 337, 338, 339, 340, 341, 342, 365, 366, 367, 368, 369, 370] (by decide +kernel) (by decide +kernel)
set_option maxRecDepth 20000 in
theorem gL_law_X5_price : GoodIn wsL_law (wsV RL 24 RX5 yX5_price wsX5_price) := goodIn_app (goodIn_of _ (by decide +kernel)) ggL_law_X5_price
set_option maxRecDepth 20000 in
theorem ggL_law_X6_price : GoodIn wsL_law wsX6_price := goodIn_r _ [97, 98, 32, 29, 30, 99, 100, 101, 5, 102, 66, 103, 104, 105, 343, 344, 345, 346, 347, 348, 349, 350, 351, 352, 353, 354, 355, 356, 357, 358, 359, 360, 361, 362] (by decide +kernel) (by decide +kernel)
set_option maxRecDepth 20000 in
theorem gL_law_X6_price : GoodIn wsL_law (wsV RL 28 RX6 yX6_price wsX6_price) := goodIn_app (goodIn_of _ (by decide +kernel)) ggL_law_X6_price
set_option maxRecDepth 20000 in
theorem ggL_law_X5_out : GoodIn wsL_law wsX5_out := goodIn_r _ [109, 110, 111, 112, 16, 113, 114, 115, 2, 116, 117, 118, 119, 120, 17, 72, 73, 74, 75, 19, 121, 122, 123, 71, 124, 125, 126, 127, 128, 129, 76, 77, 78, 130, 131, 132, 133, 134, 135, 136, 15, 137, 138, 139, 140, 141, 58, 142, 143, 83, 144, 145, 146, 147, 11, 12, 148, 149, 150, 151, 152, 153, 154, 155, 156, 157, 158, 159, 160, 161, 162, 163, 164, 165, 166, 167, 168, 169, 170, 171, 172, 173, 371, 372, 373, 374, 375, 337, 338, 339, 340, 341, 342, 363, 364, 365, 366, 367, 368, 369, 370, 376, 377, 378, 379, 380] (by decide +kernel) (by decide +kernel)
set_option maxRecDepth 20000 in
theorem gL_law_X5_out : GoodIn wsL_law (wsV RL 29 RX5 yX5_out wsX5_out) := goodIn_app (goodIn_of _ (by decide +kernel)) ggL_law_X5_out
set_option maxRecDepth 20000 in
theorem ggL_law_X6_out : GoodIn wsL_law wsX6_out := goodIn_r _ [177, 178, 38, 179, 36, 37, 39, 40, 180, 181, 182, 5, 183, 98, 184, 185, 186, 187, 27, 103, 104, 105, 99, 100, 101, 102, 66, 188, 189, 190, 191, 192, 32, 29, 30, 193, 194, 195, 196, 42, 197, 41, 43, 44, 343, 344, 345, 346, 347, 348, 349, 350, 351, 352, 353, 354, 355, 356, 357, 358, 359, 360, 361, 362] (by decide +kernel) (by decide +kernel)
set_option maxRecDepth 20000 in
theorem gL_law_X6_out : GoodIn wsL_law (wsV RL 33 RX6 yX6_out wsX6_out) := goodIn_app (goodIn_of _ (by decide +kernel)) ggL_law_X6_out
set_option maxRecDepth 20000 in
theorem ggL_law_X5_back : GoodIn wsL_law wsX5_back := goodIn_r _ [201, 71, 16, 113, 114, 115, 2, 116, 117, 118, 119, 120, 17, 72, 73, 74, 75, 19, 121, 122, 123, 124, 125, 126, 127, 128, 129, 76, 77, 78, 202, 203, 204, 15, 205, 138, 206, 207, 208, 209, 210, 211, 212, 213, 157, 158, 159, 160, 161, 162, 163, 164, 165, 166, 167, 168, 11, 12, 169, 170, 171, 172, 173, 337, 338, 339, 340, 341, 342, 363, 364, 371, 372, 373, 374, 375, 376, 377, 378, 379, 380] (by decide +kernel) (by decide +kernel)
set_option maxRecDepth 20000 in
theorem gL_law_X5_back : GoodIn wsL_law (wsV RL 34 RX5 yX5_back wsX5_back) := goodIn_app (goodIn_of _ (by decide +kernel)) ggL_law_X5_back
set_option maxRecDepth 20000 in
theorem ggL_law_X6_back : GoodIn wsL_law wsX6_back := goodIn_r _ [217, 179, 180, 181, 182, 5, 183, 98, 184, 185, 186, 187, 27, 103, 104, 105, 99, 100, 101, 102, 66, 218, 219, 220, 221, 178, 36, 37, 38, 222, 223, 224, 225, 40, 193, 194, 195, 196, 42, 197, 41, 43, 44, 343, 344, 345, 346, 347, 348, 349, 350, 351, 352, 353, 354, 355, 356, 357, 358, 359, 360, 361, 362] (by decide +kernel) (by decide +kernel)
set_option maxRecDepth 20000 in
theorem gL_law_X6_back : GoodIn wsL_law (wsV RL 37 RX6 yX6_back wsX6_back) := goodIn_app (goodIn_of _ (by decide +kernel)) ggL_law_X6_back
set_option maxRecDepth 20000 in
theorem ggL_law_X5_sampled : GoodIn wsL_law wsX5_sampled := goodIn_r _ [229, 16, 113, 114, 115, 2, 116, 117, 118, 119, 120, 17, 121, 122, 123, 71, 124, 125, 126, 127, 128, 129, 76, 77, 78, 230, 231, 232, 233, 19, 234, 235, 236, 237, 238, 202, 203, 204, 15, 205, 138, 239, 240, 241, 58, 242, 243, 244, 245, 246, 247, 248, 206, 207, 208, 209, 210, 211, 212, 213, 157, 158, 159, 160, 161, 162, 163, 164, 165, 166, 167, 168, 11, 12, 169, 170, 171, 172, 173, 337, 338, 339, 340, 341, 342, 365, 366, 367, 363, 364, 371, 372, 373, 374, 375, 376, 377, 378, 379, 380] (by decide +kernel) (by decide +kernel)
set_option maxRecDepth 20000 in
theorem gL_law_X5_sampled : GoodIn wsL_law (wsV RL 38 RX5 yX5_sampled wsX5_sampled) := goodIn_app (goodIn_of _ (by decide +kernel)) ggL_law_X5_sampled
set_option maxRecDepth 20000 in
theorem ggL_law_X6_sampled : GoodIn wsL_law wsX6_sampled := goodIn_r _ [252, 66, 33, 35, 34, 253, 179, 180, 181, 182, 5, 183, 98, 184, 185, 186, 187, 27, 103, 104, 105, 218, 219, 220, 221, 178, 36, 37, 38, 222, 223, 224, 225, 40, 193, 194, 195, 196, 42, 197, 41, 43, 44, 343, 344, 345, 346, 347, 348, 349, 350, 351, 352, 353, 354, 355, 356, 357, 358, 359, 360, 361, 362] (by decide +kernel) (by decide +kernel)
set_option maxRecDepth 20000 in
theorem gL_law_X6_sampled : GoodIn wsL_law (wsV RL 41 RX6 yX6_sampled wsX6_sampled) := goodIn_app (goodIn_of _ (by decide +kernel)) ggL_law_X6_sampled
set_option maxRecDepth 20000 in
theorem ggL_law_X5_share : GoodIn wsL_law wsX5_share := goodIn_r _ [257, 234, 72, 73, 74, 2, 75, 19, 365, 366, 367, 337, 338, 339, 340, 341, 342] (by decide +kernel) (by decide +kernel)
set_option maxRecDepth 20000 in
theorem gL_law_X5_share : GoodIn wsL_law (wsV RL 42 RX5 yX5_share wsX5_share) := goodIn_app (goodIn_of _ (by decide +kernel)) ggL_law_X5_share
set_option maxRecDepth 20000 in
theorem ggL_law_X6_share : GoodIn wsL_law wsX6_share := goodIn_r _ [261, 253, 33, 99, 100, 101, 5, 102, 66, 343, 344, 345, 346, 347, 348, 349, 350, 351, 352, 353, 354, 355, 356, 357, 358, 359, 360, 361, 362] (by decide +kernel) (by decide +kernel)
set_option maxRecDepth 20000 in
theorem gL_law_X6_share : GoodIn wsL_law (wsV RL 45 RX6 yX6_share wsX6_share) := goodIn_app (goodIn_of _ (by decide +kernel)) ggL_law_X6_share
set_option maxRecDepth 20000 in
theorem ggL_law_X5_balance : GoodIn wsL_law wsX5_balance := goodIn_r _ [265, 117, 118, 119, 2, 120, 17, 266, 267, 268, 269, 164, 270, 271, 272, 163, 273, 171, 170, 172, 337, 338, 339, 340, 341, 342, 376, 377, 378, 379, 380] (by decide +kernel) (by decide +kernel)
set_option maxRecDepth 20000 in
theorem gL_law_X5_balance : GoodIn wsL_law (wsV RL 46 RX5 yX5_balance wsX5_balance) := goodIn_app (goodIn_of _ (by decide +kernel)) ggL_law_X5_balance
set_option maxRecDepth 20000 in
theorem ggL_law_X6_balance : GoodIn wsL_law wsX6_balance := goodIn_r _ [277, 197, 44, 41, 43, 42, 184, 185, 186, 5, 187, 27, 343, 344, 345, 346, 347, 348, 349, 350, 351, 352, 353, 354, 355, 356, 357, 358, 359, 360, 361, 362] (by decide +kernel) (by decide +kernel)
set_option maxRecDepth 20000 in
theorem gL_law_X6_balance : GoodIn wsL_law (wsV RL 50 RX6 yX6_balance wsX6_balance) := goodIn_app (goodIn_of _ (by decide +kernel)) ggL_law_X6_balance
set_option maxRecDepth 20000 in
theorem ggL_law_X5_count : GoodIn wsL_law wsX5_count := goodIn_r _ [281, 282, 71, 117, 118, 119, 2, 120, 17, 72, 73, 74, 75, 19, 202, 203, 204, 15, 205, 138, 337, 338, 339, 340, 341, 342, 363, 364, 371, 372, 373, 374, 375] (by decide +kernel) (by decide +kernel)
set_option maxRecDepth 20000 in
theorem gL_law_X5_count : GoodIn wsL_law (wsV RL 51 RX5 yX5_count wsX5_count) := goodIn_app (goodIn_of _ (by decide +kernel)) ggL_law_X5_count
set_option maxRecDepth 20000 in
theorem ggL_law_X6_count : GoodIn wsL_law wsX6_count := goodIn_r _ [286, 192, 184, 185, 186, 5, 187, 27, 99, 100, 101, 102, 66, 218, 219, 220, 221, 178, 36, 37, 38, 343, 344, 345, 346, 347, 348, 349, 350, 351, 352, 353, 354, 355, 356, 357, 358, 359, 360, 361, 362] (by decide +kernel) (by decide +kernel)
set_option maxRecDepth 20000 in
theorem gL_law_X6_count : GoodIn wsL_law (wsV RL 55 RX6 yX6_count wsX6_count) := goodIn_app (goodIn_of _ (by decide +kernel)) ggL_law_X6_count
set_option maxRecDepth 20000 in
theorem ggL_law_X5_lost : GoodIn wsL_law wsX5_lost := goodIn_r _ [290, 282, 128, 291, 17, 72, 73, 74, 2, 75, 19, 202, 203, 204, 15, 205, 138, 337, 338, 339, 340, 341, 342, 363, 364, 371, 372, 373, 374, 375] (by decide +kernel) (by decide +kernel)
set_option maxRecDepth 20000 in
theorem gL_law_X5_lost : GoodIn wsL_law (wsV RL 56 RX5 yX5_lost wsX5_lost) := goodIn_app (goodIn_of _ (by decide +kernel)) ggL_law_X5_lost
set_option maxRecDepth 20000 in
theorem ggL_law_X6_lost : GoodIn wsL_law wsX6_lost := goodIn_r _ [295, 192, 178, 37, 179, 39, 296, 38, 99, 100, 101, 5, 102, 66, 343, 344, 345, 346, 347, 348, 349, 350, 351, 352, 353, 354, 355, 356, 357, 358, 359, 360, 361, 362] (by decide +kernel) (by decide +kernel)
set_option maxRecDepth 20000 in
theorem gL_law_X6_lost : GoodIn wsL_law (wsV RL 59 RX6 yX6_lost wsX6_lost) := goodIn_app (goodIn_of _ (by decide +kernel)) ggL_law_X6_lost
set_option maxRecDepth 20000 in
theorem ggL_law_X5_settle : GoodIn wsL_law wsX5_settle := goodIn_r _ [300, 291, 301, 302, 212, 303, 304, 113, 114, 115, 2, 116, 117, 118, 119, 120, 17, 124, 125, 126, 127, 128, 129, 76, 77, 78, 71, 305, 306, 307, 308, 19, 202, 203, 204, 15, 205, 138, 139, 140, 141, 58, 142, 143, 83, 157, 158, 159, 160, 161, 162, 163, 164, 165, 166, 167, 168, 11, 12, 169, 170, 171, 172, 173, 337, 338, 339, 340, 341, 342, 363, 364, 371, 372, 373, 374, 375, 365, 366, 367, 368, 369, 370, 376, 377, 378, 379, 380] (by decide +kernel) (by decide +kernel)
set_option maxRecDepth 20000 in
theorem gL_law_X5_settle : GoodIn wsL_law (wsV RL 60 RX5 yX5_settle wsX5_settle) := goodIn_app (goodIn_of _ (by decide +kernel)) ggL_law_X5_settle
set_option maxRecDepth 20000 in
theorem ggL_law_X6_settle : GoodIn wsL_law wsX6_settle := goodIn_r _ [312, 296, 179, 313, 184, 185, 186, 5, 187, 27, 103, 104, 105, 98, 314, 315, 316, 317, 66, 218, 219, 220, 221, 178, 36, 37, 38, 188, 189, 190, 191, 192, 32, 29, 30, 193, 194, 195, 196, 42, 197, 41, 43, 44, 343, 344, 345, 346, 347, 348, 349, 350, 351, 352, 353, 354, 355, 356, 357, 358, 359, 360, 361, 362] (by decide +kernel) (by decide +kernel)
set_option maxRecDepth 20000 in
theorem gL_law_X6_settle : GoodIn wsL_law (wsV RL 64 RX6 yX6_settle wsX6_settle) := goodIn_app (goodIn_of _ (by decide +kernel)) ggL_law_X6_settle
set_option maxRecDepth 20000 in
theorem ggL_law_X5_rest : GoodIn wsL_law wsX5_rest := goodIn_r _ [321, 282, 234, 72, 73, 74, 2, 75, 19, 322, 323, 324, 365, 366, 367, 337, 338, 339, 340, 341, 342] (by decide +kernel) (by decide +kernel)
set_option maxRecDepth 20000 in
theorem gL_law_X5_rest : GoodIn wsL_law (wsV RL 65 RX5 yX5_rest wsX5_rest) := goodIn_app (goodIn_of _ (by decide +kernel)) ggL_law_X5_rest
set_option maxRecDepth 20000 in
theorem ggL_law_X6_rest : GoodIn wsL_law wsX6_rest := goodIn_r _ [328, 192, 253, 34, 99, 100, 101, 5, 102, 66, 343, 344, 345, 346, 347, 348, 349, 350, 351, 352, 353, 354, 355, 356, 357, 358, 359, 360, 361, 362] (by decide +kernel) (by decide +kernel)
set_option maxRecDepth 20000 in
theorem gL_law_X6_rest : GoodIn wsL_law (wsV RL 68 RX6 yX6_rest wsX6_rest) := goodIn_app (goodIn_of _ (by decide +kernel)) ggL_law_X6_rest
set_option maxRecDepth 20000 in
theorem ggL_law_X5_sum : GoodIn wsL_law wsX5_sum := goodIn_r _ [332, 17, 266, 267, 268, 2, 269, 164, 270, 271, 272, 163, 273, 171, 170, 172, 337, 338, 339, 340, 341, 342, 376, 377, 378, 379, 380] (by decide +kernel) (by decide +kernel)
set_option maxRecDepth 20000 in
theorem gL_law_X5_sum : GoodIn wsL_law (wsV RL 69 RX5 yX5_sum wsX5_sum) := goodIn_app (goodIn_of _ (by decide +kernel)) ggL_law_X5_sum
set_option maxRecDepth 20000 in
theorem ggL_law_X6_sum : GoodIn wsL_law wsX6_sum := goodIn_r _ [336] (by decide +kernel) (by decide +kernel)
set_option maxRecDepth 20000 in
theorem gL_law_X6_sum : GoodIn wsL_law (wsV RL 73 RX6 yX6_sum wsX6_sum) := goodIn_app (goodIn_of _ (by decide +kernel)) ggL_law_X6_sum
theorem dL_law_0 : decode cL_law 0 = .ok (.new 7, 3) := by decide +kernel
theorem dL_law_3 : decode cL_law 3 = .ok (.dup, 1) := by decide +kernel
theorem dL_law_4 : decode cL_law 4 = .ok (.invokespecial 9, 3) := by decide +kernel
theorem dL_law_7 : decode cL_law 7 = .ok (.astore_n 1, 1) := by decide +kernel
theorem dL_law_8 : decode cL_law 8 = .ok (.new 10, 3) := by decide +kernel
theorem dL_law_11 : decode cL_law 11 = .ok (.dup, 1) := by decide +kernel
theorem dL_law_12 : decode cL_law 12 = .ok (.invokespecial 12, 3) := by decide +kernel
theorem dL_law_15 : decode cL_law 15 = .ok (.astore_n 2, 1) := by decide +kernel
theorem dL_law_16 : decode cL_law 16 = .ok (.iconst 0, 1) := by decide +kernel
theorem dL_law_17 : decode cL_law 17 = .ok (.istore_n 3, 1) := by decide +kernel
theorem dL_law_18 : decode cL_law 18 = .ok (.iload_n 3, 1) := by decide +kernel
theorem dL_law_19 : decode cL_law 19 = .ok (.aload_n 0, 1) := by decide +kernel
theorem dL_law_20 : decode cL_law 20 = .ok (.arraylength, 1) := by decide +kernel
theorem dL_law_21 : decode cL_law 21 = .ok (.bipush 7, 2) := by decide +kernel
theorem dL_law_23 : decode cL_law 23 = .ok (.isub, 1) := by decide +kernel
theorem dL_law_24 : decode cL_law 24 = .ok (.if_icmp .gt 910, 3) := by decide +kernel
theorem dL_law_27 : decode cL_law 27 = .ok (.aload_n 0, 1) := by decide +kernel
theorem dL_law_28 : decode cL_law 28 = .ok (.iload_n 3, 1) := by decide +kernel
theorem dL_law_29 : decode cL_law 29 = .ok (.iaload, 1) := by decide +kernel
theorem dL_law_30 : decode cL_law 30 = .ok (.bipush 15, 2) := by decide +kernel
theorem dL_law_32 : decode cL_law 32 = .ok (.iand, 1) := by decide +kernel
theorem dL_law_33 : decode cL_law 33 = .ok (.tableswitch 895 0 12 #[67, 80, 93, 196, 311, 426, 529, 632, 696, 730, 764, 807, 841], 67) := by decide +kernel
theorem dL_law_100 : decode cL_law 100 = .ok (.aload_n 1, 1) := by decide +kernel
theorem dL_law_101 : decode cL_law 101 = .ok (.invokevirtual 13, 3) := by decide +kernel
theorem dL_law_104 : decode cL_law 104 = .ok (.aload_n 2, 1) := by decide +kernel
theorem dL_law_105 : decode cL_law 105 = .ok (.invokevirtual 17, 3) := by decide +kernel
theorem dL_law_108 : decode cL_law 108 = .ok (.if_icmp .eq 820, 3) := by decide +kernel
theorem dL_law_111 : decode cL_law 111 = .ok (.iconst 0, 1) := by decide +kernel
theorem dL_law_112 : decode cL_law 112 = .ok (.ireturn, 1) := by decide +kernel
theorem dL_law_113 : decode cL_law 113 = .ok (.aload_n 1, 1) := by decide +kernel
theorem dL_law_114 : decode cL_law 114 = .ok (.invokevirtual 18, 3) := by decide +kernel
theorem dL_law_117 : decode cL_law 117 = .ok (.aload_n 2, 1) := by decide +kernel
theorem dL_law_118 : decode cL_law 118 = .ok (.invokevirtual 21, 3) := by decide +kernel
theorem dL_law_121 : decode cL_law 121 = .ok (.if_icmp .eq 807, 3) := by decide +kernel
theorem dL_law_124 : decode cL_law 124 = .ok (.iconst 0, 1) := by decide +kernel
theorem dL_law_125 : decode cL_law 125 = .ok (.ireturn, 1) := by decide +kernel
theorem dL_law_126 : decode cL_law 126 = .ok (.aload_n 1, 1) := by decide +kernel
theorem dL_law_127 : decode cL_law 127 = .ok (.aload_n 0, 1) := by decide +kernel
theorem dL_law_128 : decode cL_law 128 = .ok (.iload_n 3, 1) := by decide +kernel
theorem dL_law_129 : decode cL_law 129 = .ok (.iconst 1, 1) := by decide +kernel
theorem dL_law_130 : decode cL_law 130 = .ok (.iadd, 1) := by decide +kernel
theorem dL_law_131 : decode cL_law 131 = .ok (.iaload, 1) := by decide +kernel
theorem dL_law_132 : decode cL_law 132 = .ok (.aload_n 0, 1) := by decide +kernel
theorem dL_law_133 : decode cL_law 133 = .ok (.iload_n 3, 1) := by decide +kernel
theorem dL_law_134 : decode cL_law 134 = .ok (.iconst 2, 1) := by decide +kernel
theorem dL_law_135 : decode cL_law 135 = .ok (.iadd, 1) := by decide +kernel
theorem dL_law_136 : decode cL_law 136 = .ok (.iaload, 1) := by decide +kernel
theorem dL_law_137 : decode cL_law 137 = .ok (.i2l, 1) := by decide +kernel
theorem dL_law_138 : decode cL_law 138 = .ok (.bipush 32, 2) := by decide +kernel
theorem dL_law_140 : decode cL_law 140 = .ok (.lshl, 1) := by decide +kernel
theorem dL_law_141 : decode cL_law 141 = .ok (.aload_n 0, 1) := by decide +kernel
theorem dL_law_142 : decode cL_law 142 = .ok (.iload_n 3, 1) := by decide +kernel
theorem dL_law_143 : decode cL_law 143 = .ok (.iconst 3, 1) := by decide +kernel
theorem dL_law_144 : decode cL_law 144 = .ok (.iadd, 1) := by decide +kernel
theorem dL_law_145 : decode cL_law 145 = .ok (.iaload, 1) := by decide +kernel
theorem dL_law_146 : decode cL_law 146 = .ok (.i2l, 1) := by decide +kernel
theorem dL_law_147 : decode cL_law 147 = .ok (.ldc2_w 22, 3) := by decide +kernel
theorem dL_law_150 : decode cL_law 150 = .ok (.land, 1) := by decide +kernel
theorem dL_law_151 : decode cL_law 151 = .ok (.lor, 1) := by decide +kernel
theorem dL_law_152 : decode cL_law 152 = .ok (.aload_n 0, 1) := by decide +kernel
theorem dL_law_153 : decode cL_law 153 = .ok (.iload_n 3, 1) := by decide +kernel
theorem dL_law_154 : decode cL_law 154 = .ok (.iconst 4, 1) := by decide +kernel
theorem dL_law_155 : decode cL_law 155 = .ok (.iadd, 1) := by decide +kernel
theorem dL_law_156 : decode cL_law 156 = .ok (.iaload, 1) := by decide +kernel
theorem dL_law_157 : decode cL_law 157 = .ok (.i2l, 1) := by decide +kernel
theorem dL_law_158 : decode cL_law 158 = .ok (.bipush 32, 2) := by decide +kernel
theorem dL_law_160 : decode cL_law 160 = .ok (.lshl, 1) := by decide +kernel
theorem dL_law_161 : decode cL_law 161 = .ok (.aload_n 0, 1) := by decide +kernel
theorem dL_law_162 : decode cL_law 162 = .ok (.iload_n 3, 1) := by decide +kernel
theorem dL_law_163 : decode cL_law 163 = .ok (.iconst 5, 1) := by decide +kernel
theorem dL_law_164 : decode cL_law 164 = .ok (.iadd, 1) := by decide +kernel
theorem dL_law_165 : decode cL_law 165 = .ok (.iaload, 1) := by decide +kernel
theorem dL_law_166 : decode cL_law 166 = .ok (.i2l, 1) := by decide +kernel
theorem dL_law_167 : decode cL_law 167 = .ok (.ldc2_w 22, 3) := by decide +kernel
theorem dL_law_170 : decode cL_law 170 = .ok (.land, 1) := by decide +kernel
theorem dL_law_171 : decode cL_law 171 = .ok (.lor, 1) := by decide +kernel
theorem dL_law_172 : decode cL_law 172 = .ok (.invokevirtual 24, 3) := by decide +kernel
theorem dL_law_175 : decode cL_law 175 = .ok (.aload_n 2, 1) := by decide +kernel
theorem dL_law_176 : decode cL_law 176 = .ok (.aload_n 0, 1) := by decide +kernel
theorem dL_law_177 : decode cL_law 177 = .ok (.iload_n 3, 1) := by decide +kernel
theorem dL_law_178 : decode cL_law 178 = .ok (.iconst 1, 1) := by decide +kernel
theorem dL_law_179 : decode cL_law 179 = .ok (.iadd, 1) := by decide +kernel
theorem dL_law_180 : decode cL_law 180 = .ok (.iaload, 1) := by decide +kernel
theorem dL_law_181 : decode cL_law 181 = .ok (.aload_n 0, 1) := by decide +kernel
theorem dL_law_182 : decode cL_law 182 = .ok (.iload_n 3, 1) := by decide +kernel
theorem dL_law_183 : decode cL_law 183 = .ok (.iconst 2, 1) := by decide +kernel
theorem dL_law_184 : decode cL_law 184 = .ok (.iadd, 1) := by decide +kernel
theorem dL_law_185 : decode cL_law 185 = .ok (.iaload, 1) := by decide +kernel
theorem dL_law_186 : decode cL_law 186 = .ok (.i2l, 1) := by decide +kernel
theorem dL_law_187 : decode cL_law 187 = .ok (.bipush 32, 2) := by decide +kernel
theorem dL_law_189 : decode cL_law 189 = .ok (.lshl, 1) := by decide +kernel
theorem dL_law_190 : decode cL_law 190 = .ok (.aload_n 0, 1) := by decide +kernel
theorem dL_law_191 : decode cL_law 191 = .ok (.iload_n 3, 1) := by decide +kernel
theorem dL_law_192 : decode cL_law 192 = .ok (.iconst 3, 1) := by decide +kernel
theorem dL_law_193 : decode cL_law 193 = .ok (.iadd, 1) := by decide +kernel
theorem dL_law_194 : decode cL_law 194 = .ok (.iaload, 1) := by decide +kernel
theorem dL_law_195 : decode cL_law 195 = .ok (.i2l, 1) := by decide +kernel
theorem dL_law_196 : decode cL_law 196 = .ok (.ldc2_w 22, 3) := by decide +kernel
theorem dL_law_199 : decode cL_law 199 = .ok (.land, 1) := by decide +kernel
theorem dL_law_200 : decode cL_law 200 = .ok (.lor, 1) := by decide +kernel
theorem dL_law_201 : decode cL_law 201 = .ok (.aload_n 0, 1) := by decide +kernel
theorem dL_law_202 : decode cL_law 202 = .ok (.iload_n 3, 1) := by decide +kernel
theorem dL_law_203 : decode cL_law 203 = .ok (.iconst 4, 1) := by decide +kernel
theorem dL_law_204 : decode cL_law 204 = .ok (.iadd, 1) := by decide +kernel
theorem dL_law_205 : decode cL_law 205 = .ok (.iaload, 1) := by decide +kernel
theorem dL_law_206 : decode cL_law 206 = .ok (.i2l, 1) := by decide +kernel
theorem dL_law_207 : decode cL_law 207 = .ok (.bipush 32, 2) := by decide +kernel
theorem dL_law_209 : decode cL_law 209 = .ok (.lshl, 1) := by decide +kernel
theorem dL_law_210 : decode cL_law 210 = .ok (.aload_n 0, 1) := by decide +kernel
theorem dL_law_211 : decode cL_law 211 = .ok (.iload_n 3, 1) := by decide +kernel
theorem dL_law_212 : decode cL_law 212 = .ok (.iconst 5, 1) := by decide +kernel
theorem dL_law_213 : decode cL_law 213 = .ok (.iadd, 1) := by decide +kernel
theorem dL_law_214 : decode cL_law 214 = .ok (.iaload, 1) := by decide +kernel
theorem dL_law_215 : decode cL_law 215 = .ok (.i2l, 1) := by decide +kernel
theorem dL_law_216 : decode cL_law 216 = .ok (.ldc2_w 22, 3) := by decide +kernel
theorem dL_law_219 : decode cL_law 219 = .ok (.land, 1) := by decide +kernel
theorem dL_law_220 : decode cL_law 220 = .ok (.lor, 1) := by decide +kernel
theorem dL_law_221 : decode cL_law 221 = .ok (.invokevirtual 28, 3) := by decide +kernel
theorem dL_law_224 : decode cL_law 224 = .ok (.if_icmp .eq 704, 3) := by decide +kernel
theorem dL_law_227 : decode cL_law 227 = .ok (.iconst 0, 1) := by decide +kernel
theorem dL_law_228 : decode cL_law 228 = .ok (.ireturn, 1) := by decide +kernel
theorem dL_law_229 : decode cL_law 229 = .ok (.aload_n 1, 1) := by decide +kernel
theorem dL_law_230 : decode cL_law 230 = .ok (.aload_n 0, 1) := by decide +kernel
theorem dL_law_231 : decode cL_law 231 = .ok (.iload_n 3, 1) := by decide +kernel
theorem dL_law_232 : decode cL_law 232 = .ok (.iconst 1, 1) := by decide +kernel
theorem dL_law_233 : decode cL_law 233 = .ok (.iadd, 1) := by decide +kernel
theorem dL_law_234 : decode cL_law 234 = .ok (.iaload, 1) := by decide +kernel
theorem dL_law_235 : decode cL_law 235 = .ok (.aload_n 0, 1) := by decide +kernel
theorem dL_law_236 : decode cL_law 236 = .ok (.iload_n 3, 1) := by decide +kernel
theorem dL_law_237 : decode cL_law 237 = .ok (.iconst 2, 1) := by decide +kernel
theorem dL_law_238 : decode cL_law 238 = .ok (.iadd, 1) := by decide +kernel
theorem dL_law_239 : decode cL_law 239 = .ok (.iaload, 1) := by decide +kernel
theorem dL_law_240 : decode cL_law 240 = .ok (.aload_n 0, 1) := by decide +kernel
theorem dL_law_241 : decode cL_law 241 = .ok (.iload_n 3, 1) := by decide +kernel
theorem dL_law_242 : decode cL_law 242 = .ok (.iconst 3, 1) := by decide +kernel
theorem dL_law_243 : decode cL_law 243 = .ok (.iadd, 1) := by decide +kernel
theorem dL_law_244 : decode cL_law 244 = .ok (.iaload, 1) := by decide +kernel
theorem dL_law_245 : decode cL_law 245 = .ok (.i2l, 1) := by decide +kernel
theorem dL_law_246 : decode cL_law 246 = .ok (.bipush 32, 2) := by decide +kernel
theorem dL_law_248 : decode cL_law 248 = .ok (.lshl, 1) := by decide +kernel
theorem dL_law_249 : decode cL_law 249 = .ok (.aload_n 0, 1) := by decide +kernel
theorem dL_law_250 : decode cL_law 250 = .ok (.iload_n 3, 1) := by decide +kernel
theorem dL_law_251 : decode cL_law 251 = .ok (.iconst 4, 1) := by decide +kernel
theorem dL_law_252 : decode cL_law 252 = .ok (.iadd, 1) := by decide +kernel
theorem dL_law_253 : decode cL_law 253 = .ok (.iaload, 1) := by decide +kernel
theorem dL_law_254 : decode cL_law 254 = .ok (.i2l, 1) := by decide +kernel
theorem dL_law_255 : decode cL_law 255 = .ok (.ldc2_w 22, 3) := by decide +kernel
theorem dL_law_258 : decode cL_law 258 = .ok (.land, 1) := by decide +kernel
theorem dL_law_259 : decode cL_law 259 = .ok (.lor, 1) := by decide +kernel
theorem dL_law_260 : decode cL_law 260 = .ok (.aload_n 0, 1) := by decide +kernel
theorem dL_law_261 : decode cL_law 261 = .ok (.iload_n 3, 1) := by decide +kernel
theorem dL_law_262 : decode cL_law 262 = .ok (.iconst 5, 1) := by decide +kernel
theorem dL_law_263 : decode cL_law 263 = .ok (.iadd, 1) := by decide +kernel
theorem dL_law_264 : decode cL_law 264 = .ok (.iaload, 1) := by decide +kernel
theorem dL_law_265 : decode cL_law 265 = .ok (.i2l, 1) := by decide +kernel
theorem dL_law_266 : decode cL_law 266 = .ok (.bipush 32, 2) := by decide +kernel
theorem dL_law_268 : decode cL_law 268 = .ok (.lshl, 1) := by decide +kernel
theorem dL_law_269 : decode cL_law 269 = .ok (.aload_n 0, 1) := by decide +kernel
theorem dL_law_270 : decode cL_law 270 = .ok (.iload_n 3, 1) := by decide +kernel
theorem dL_law_271 : decode cL_law 271 = .ok (.bipush 6, 2) := by decide +kernel
theorem dL_law_273 : decode cL_law 273 = .ok (.iadd, 1) := by decide +kernel
theorem dL_law_274 : decode cL_law 274 = .ok (.iaload, 1) := by decide +kernel
theorem dL_law_275 : decode cL_law 275 = .ok (.i2l, 1) := by decide +kernel
theorem dL_law_276 : decode cL_law 276 = .ok (.ldc2_w 22, 3) := by decide +kernel
theorem dL_law_279 : decode cL_law 279 = .ok (.land, 1) := by decide +kernel
theorem dL_law_280 : decode cL_law 280 = .ok (.lor, 1) := by decide +kernel
theorem dL_law_281 : decode cL_law 281 = .ok (.invokevirtual 29, 3) := by decide +kernel
theorem dL_law_284 : decode cL_law 284 = .ok (.aload_n 2, 1) := by decide +kernel
theorem dL_law_285 : decode cL_law 285 = .ok (.aload_n 0, 1) := by decide +kernel
theorem dL_law_286 : decode cL_law 286 = .ok (.iload_n 3, 1) := by decide +kernel
theorem dL_law_287 : decode cL_law 287 = .ok (.iconst 1, 1) := by decide +kernel
theorem dL_law_288 : decode cL_law 288 = .ok (.iadd, 1) := by decide +kernel
theorem dL_law_289 : decode cL_law 289 = .ok (.iaload, 1) := by decide +kernel
theorem dL_law_290 : decode cL_law 290 = .ok (.aload_n 0, 1) := by decide +kernel
theorem dL_law_291 : decode cL_law 291 = .ok (.iload_n 3, 1) := by decide +kernel
theorem dL_law_292 : decode cL_law 292 = .ok (.iconst 2, 1) := by decide +kernel
theorem dL_law_293 : decode cL_law 293 = .ok (.iadd, 1) := by decide +kernel
theorem dL_law_294 : decode cL_law 294 = .ok (.iaload, 1) := by decide +kernel
theorem dL_law_295 : decode cL_law 295 = .ok (.aload_n 0, 1) := by decide +kernel
theorem dL_law_296 : decode cL_law 296 = .ok (.iload_n 3, 1) := by decide +kernel
theorem dL_law_297 : decode cL_law 297 = .ok (.iconst 3, 1) := by decide +kernel
theorem dL_law_298 : decode cL_law 298 = .ok (.iadd, 1) := by decide +kernel
theorem dL_law_299 : decode cL_law 299 = .ok (.iaload, 1) := by decide +kernel
theorem dL_law_300 : decode cL_law 300 = .ok (.i2l, 1) := by decide +kernel
theorem dL_law_301 : decode cL_law 301 = .ok (.bipush 32, 2) := by decide +kernel
theorem dL_law_303 : decode cL_law 303 = .ok (.lshl, 1) := by decide +kernel
theorem dL_law_304 : decode cL_law 304 = .ok (.aload_n 0, 1) := by decide +kernel
theorem dL_law_305 : decode cL_law 305 = .ok (.iload_n 3, 1) := by decide +kernel
theorem dL_law_306 : decode cL_law 306 = .ok (.iconst 4, 1) := by decide +kernel
theorem dL_law_307 : decode cL_law 307 = .ok (.iadd, 1) := by decide +kernel
theorem dL_law_308 : decode cL_law 308 = .ok (.iaload, 1) := by decide +kernel
theorem dL_law_309 : decode cL_law 309 = .ok (.i2l, 1) := by decide +kernel
theorem dL_law_310 : decode cL_law 310 = .ok (.ldc2_w 22, 3) := by decide +kernel
theorem dL_law_313 : decode cL_law 313 = .ok (.land, 1) := by decide +kernel
theorem dL_law_314 : decode cL_law 314 = .ok (.lor, 1) := by decide +kernel
theorem dL_law_315 : decode cL_law 315 = .ok (.aload_n 0, 1) := by decide +kernel
theorem dL_law_316 : decode cL_law 316 = .ok (.iload_n 3, 1) := by decide +kernel
theorem dL_law_317 : decode cL_law 317 = .ok (.iconst 5, 1) := by decide +kernel
theorem dL_law_318 : decode cL_law 318 = .ok (.iadd, 1) := by decide +kernel
theorem dL_law_319 : decode cL_law 319 = .ok (.iaload, 1) := by decide +kernel
theorem dL_law_320 : decode cL_law 320 = .ok (.i2l, 1) := by decide +kernel
theorem dL_law_321 : decode cL_law 321 = .ok (.bipush 32, 2) := by decide +kernel
theorem dL_law_323 : decode cL_law 323 = .ok (.lshl, 1) := by decide +kernel
theorem dL_law_324 : decode cL_law 324 = .ok (.aload_n 0, 1) := by decide +kernel
theorem dL_law_325 : decode cL_law 325 = .ok (.iload_n 3, 1) := by decide +kernel
theorem dL_law_326 : decode cL_law 326 = .ok (.bipush 6, 2) := by decide +kernel
theorem dL_law_328 : decode cL_law 328 = .ok (.iadd, 1) := by decide +kernel
theorem dL_law_329 : decode cL_law 329 = .ok (.iaload, 1) := by decide +kernel
theorem dL_law_330 : decode cL_law 330 = .ok (.i2l, 1) := by decide +kernel
theorem dL_law_331 : decode cL_law 331 = .ok (.ldc2_w 22, 3) := by decide +kernel
theorem dL_law_334 : decode cL_law 334 = .ok (.land, 1) := by decide +kernel
theorem dL_law_335 : decode cL_law 335 = .ok (.lor, 1) := by decide +kernel
theorem dL_law_336 : decode cL_law 336 = .ok (.invokevirtual 33, 3) := by decide +kernel
theorem dL_law_339 : decode cL_law 339 = .ok (.if_icmp .eq 589, 3) := by decide +kernel
theorem dL_law_342 : decode cL_law 342 = .ok (.iconst 0, 1) := by decide +kernel
theorem dL_law_343 : decode cL_law 343 = .ok (.ireturn, 1) := by decide +kernel
theorem dL_law_344 : decode cL_law 344 = .ok (.aload_n 1, 1) := by decide +kernel
theorem dL_law_345 : decode cL_law 345 = .ok (.aload_n 0, 1) := by decide +kernel
theorem dL_law_346 : decode cL_law 346 = .ok (.iload_n 3, 1) := by decide +kernel
theorem dL_law_347 : decode cL_law 347 = .ok (.iconst 1, 1) := by decide +kernel
theorem dL_law_348 : decode cL_law 348 = .ok (.iadd, 1) := by decide +kernel
theorem dL_law_349 : decode cL_law 349 = .ok (.iaload, 1) := by decide +kernel
theorem dL_law_350 : decode cL_law 350 = .ok (.aload_n 0, 1) := by decide +kernel
theorem dL_law_351 : decode cL_law 351 = .ok (.iload_n 3, 1) := by decide +kernel
theorem dL_law_352 : decode cL_law 352 = .ok (.iconst 2, 1) := by decide +kernel
theorem dL_law_353 : decode cL_law 353 = .ok (.iadd, 1) := by decide +kernel
theorem dL_law_354 : decode cL_law 354 = .ok (.iaload, 1) := by decide +kernel
theorem dL_law_355 : decode cL_law 355 = .ok (.aload_n 0, 1) := by decide +kernel
theorem dL_law_356 : decode cL_law 356 = .ok (.iload_n 3, 1) := by decide +kernel
theorem dL_law_357 : decode cL_law 357 = .ok (.iconst 3, 1) := by decide +kernel
theorem dL_law_358 : decode cL_law 358 = .ok (.iadd, 1) := by decide +kernel
theorem dL_law_359 : decode cL_law 359 = .ok (.iaload, 1) := by decide +kernel
theorem dL_law_360 : decode cL_law 360 = .ok (.i2l, 1) := by decide +kernel
theorem dL_law_361 : decode cL_law 361 = .ok (.bipush 32, 2) := by decide +kernel
theorem dL_law_363 : decode cL_law 363 = .ok (.lshl, 1) := by decide +kernel
theorem dL_law_364 : decode cL_law 364 = .ok (.aload_n 0, 1) := by decide +kernel
theorem dL_law_365 : decode cL_law 365 = .ok (.iload_n 3, 1) := by decide +kernel
theorem dL_law_366 : decode cL_law 366 = .ok (.iconst 4, 1) := by decide +kernel
theorem dL_law_367 : decode cL_law 367 = .ok (.iadd, 1) := by decide +kernel
theorem dL_law_368 : decode cL_law 368 = .ok (.iaload, 1) := by decide +kernel
theorem dL_law_369 : decode cL_law 369 = .ok (.i2l, 1) := by decide +kernel
theorem dL_law_370 : decode cL_law 370 = .ok (.ldc2_w 22, 3) := by decide +kernel
theorem dL_law_373 : decode cL_law 373 = .ok (.land, 1) := by decide +kernel
theorem dL_law_374 : decode cL_law 374 = .ok (.lor, 1) := by decide +kernel
theorem dL_law_375 : decode cL_law 375 = .ok (.aload_n 0, 1) := by decide +kernel
theorem dL_law_376 : decode cL_law 376 = .ok (.iload_n 3, 1) := by decide +kernel
theorem dL_law_377 : decode cL_law 377 = .ok (.iconst 5, 1) := by decide +kernel
theorem dL_law_378 : decode cL_law 378 = .ok (.iadd, 1) := by decide +kernel
theorem dL_law_379 : decode cL_law 379 = .ok (.iaload, 1) := by decide +kernel
theorem dL_law_380 : decode cL_law 380 = .ok (.i2l, 1) := by decide +kernel
theorem dL_law_381 : decode cL_law 381 = .ok (.bipush 32, 2) := by decide +kernel
theorem dL_law_383 : decode cL_law 383 = .ok (.lshl, 1) := by decide +kernel
theorem dL_law_384 : decode cL_law 384 = .ok (.aload_n 0, 1) := by decide +kernel
theorem dL_law_385 : decode cL_law 385 = .ok (.iload_n 3, 1) := by decide +kernel
theorem dL_law_386 : decode cL_law 386 = .ok (.bipush 6, 2) := by decide +kernel
theorem dL_law_388 : decode cL_law 388 = .ok (.iadd, 1) := by decide +kernel
theorem dL_law_389 : decode cL_law 389 = .ok (.iaload, 1) := by decide +kernel
theorem dL_law_390 : decode cL_law 390 = .ok (.i2l, 1) := by decide +kernel
theorem dL_law_391 : decode cL_law 391 = .ok (.ldc2_w 22, 3) := by decide +kernel
theorem dL_law_394 : decode cL_law 394 = .ok (.land, 1) := by decide +kernel
theorem dL_law_395 : decode cL_law 395 = .ok (.lor, 1) := by decide +kernel
theorem dL_law_396 : decode cL_law 396 = .ok (.invokevirtual 34, 3) := by decide +kernel
theorem dL_law_399 : decode cL_law 399 = .ok (.aload_n 2, 1) := by decide +kernel
theorem dL_law_400 : decode cL_law 400 = .ok (.aload_n 0, 1) := by decide +kernel
theorem dL_law_401 : decode cL_law 401 = .ok (.iload_n 3, 1) := by decide +kernel
theorem dL_law_402 : decode cL_law 402 = .ok (.iconst 1, 1) := by decide +kernel
theorem dL_law_403 : decode cL_law 403 = .ok (.iadd, 1) := by decide +kernel
theorem dL_law_404 : decode cL_law 404 = .ok (.iaload, 1) := by decide +kernel
theorem dL_law_405 : decode cL_law 405 = .ok (.aload_n 0, 1) := by decide +kernel
theorem dL_law_406 : decode cL_law 406 = .ok (.iload_n 3, 1) := by decide +kernel
theorem dL_law_407 : decode cL_law 407 = .ok (.iconst 2, 1) := by decide +kernel
theorem dL_law_408 : decode cL_law 408 = .ok (.iadd, 1) := by decide +kernel
theorem dL_law_409 : decode cL_law 409 = .ok (.iaload, 1) := by decide +kernel
theorem dL_law_410 : decode cL_law 410 = .ok (.aload_n 0, 1) := by decide +kernel
theorem dL_law_411 : decode cL_law 411 = .ok (.iload_n 3, 1) := by decide +kernel
theorem dL_law_412 : decode cL_law 412 = .ok (.iconst 3, 1) := by decide +kernel
theorem dL_law_413 : decode cL_law 413 = .ok (.iadd, 1) := by decide +kernel
theorem dL_law_414 : decode cL_law 414 = .ok (.iaload, 1) := by decide +kernel
theorem dL_law_415 : decode cL_law 415 = .ok (.i2l, 1) := by decide +kernel
theorem dL_law_416 : decode cL_law 416 = .ok (.bipush 32, 2) := by decide +kernel
theorem dL_law_418 : decode cL_law 418 = .ok (.lshl, 1) := by decide +kernel
theorem dL_law_419 : decode cL_law 419 = .ok (.aload_n 0, 1) := by decide +kernel
theorem dL_law_420 : decode cL_law 420 = .ok (.iload_n 3, 1) := by decide +kernel
theorem dL_law_421 : decode cL_law 421 = .ok (.iconst 4, 1) := by decide +kernel
theorem dL_law_422 : decode cL_law 422 = .ok (.iadd, 1) := by decide +kernel
theorem dL_law_423 : decode cL_law 423 = .ok (.iaload, 1) := by decide +kernel
theorem dL_law_424 : decode cL_law 424 = .ok (.i2l, 1) := by decide +kernel
theorem dL_law_425 : decode cL_law 425 = .ok (.ldc2_w 22, 3) := by decide +kernel
theorem dL_law_428 : decode cL_law 428 = .ok (.land, 1) := by decide +kernel
theorem dL_law_429 : decode cL_law 429 = .ok (.lor, 1) := by decide +kernel
theorem dL_law_430 : decode cL_law 430 = .ok (.aload_n 0, 1) := by decide +kernel
theorem dL_law_431 : decode cL_law 431 = .ok (.iload_n 3, 1) := by decide +kernel
theorem dL_law_432 : decode cL_law 432 = .ok (.iconst 5, 1) := by decide +kernel
theorem dL_law_433 : decode cL_law 433 = .ok (.iadd, 1) := by decide +kernel
theorem dL_law_434 : decode cL_law 434 = .ok (.iaload, 1) := by decide +kernel
theorem dL_law_435 : decode cL_law 435 = .ok (.i2l, 1) := by decide +kernel
theorem dL_law_436 : decode cL_law 436 = .ok (.bipush 32, 2) := by decide +kernel
theorem dL_law_438 : decode cL_law 438 = .ok (.lshl, 1) := by decide +kernel
theorem dL_law_439 : decode cL_law 439 = .ok (.aload_n 0, 1) := by decide +kernel
theorem dL_law_440 : decode cL_law 440 = .ok (.iload_n 3, 1) := by decide +kernel
theorem dL_law_441 : decode cL_law 441 = .ok (.bipush 6, 2) := by decide +kernel
theorem dL_law_443 : decode cL_law 443 = .ok (.iadd, 1) := by decide +kernel
theorem dL_law_444 : decode cL_law 444 = .ok (.iaload, 1) := by decide +kernel
theorem dL_law_445 : decode cL_law 445 = .ok (.i2l, 1) := by decide +kernel
theorem dL_law_446 : decode cL_law 446 = .ok (.ldc2_w 22, 3) := by decide +kernel
theorem dL_law_449 : decode cL_law 449 = .ok (.land, 1) := by decide +kernel
theorem dL_law_450 : decode cL_law 450 = .ok (.lor, 1) := by decide +kernel
theorem dL_law_451 : decode cL_law 451 = .ok (.invokevirtual 37, 3) := by decide +kernel
theorem dL_law_454 : decode cL_law 454 = .ok (.if_icmp .eq 474, 3) := by decide +kernel
theorem dL_law_457 : decode cL_law 457 = .ok (.iconst 0, 1) := by decide +kernel
theorem dL_law_458 : decode cL_law 458 = .ok (.ireturn, 1) := by decide +kernel
theorem dL_law_459 : decode cL_law 459 = .ok (.aload_n 1, 1) := by decide +kernel
theorem dL_law_460 : decode cL_law 460 = .ok (.aload_n 0, 1) := by decide +kernel
theorem dL_law_461 : decode cL_law 461 = .ok (.iload_n 3, 1) := by decide +kernel
theorem dL_law_462 : decode cL_law 462 = .ok (.iconst 1, 1) := by decide +kernel
theorem dL_law_463 : decode cL_law 463 = .ok (.iadd, 1) := by decide +kernel
theorem dL_law_464 : decode cL_law 464 = .ok (.iaload, 1) := by decide +kernel
theorem dL_law_465 : decode cL_law 465 = .ok (.aload_n 0, 1) := by decide +kernel
theorem dL_law_466 : decode cL_law 466 = .ok (.iload_n 3, 1) := by decide +kernel
theorem dL_law_467 : decode cL_law 467 = .ok (.iconst 2, 1) := by decide +kernel
theorem dL_law_468 : decode cL_law 468 = .ok (.iadd, 1) := by decide +kernel
theorem dL_law_469 : decode cL_law 469 = .ok (.iaload, 1) := by decide +kernel
theorem dL_law_470 : decode cL_law 470 = .ok (.i2l, 1) := by decide +kernel
theorem dL_law_471 : decode cL_law 471 = .ok (.bipush 32, 2) := by decide +kernel
theorem dL_law_473 : decode cL_law 473 = .ok (.lshl, 1) := by decide +kernel
theorem dL_law_474 : decode cL_law 474 = .ok (.aload_n 0, 1) := by decide +kernel
theorem dL_law_475 : decode cL_law 475 = .ok (.iload_n 3, 1) := by decide +kernel
theorem dL_law_476 : decode cL_law 476 = .ok (.iconst 3, 1) := by decide +kernel
theorem dL_law_477 : decode cL_law 477 = .ok (.iadd, 1) := by decide +kernel
theorem dL_law_478 : decode cL_law 478 = .ok (.iaload, 1) := by decide +kernel
theorem dL_law_479 : decode cL_law 479 = .ok (.i2l, 1) := by decide +kernel
theorem dL_law_480 : decode cL_law 480 = .ok (.ldc2_w 22, 3) := by decide +kernel
theorem dL_law_483 : decode cL_law 483 = .ok (.land, 1) := by decide +kernel
theorem dL_law_484 : decode cL_law 484 = .ok (.lor, 1) := by decide +kernel
theorem dL_law_485 : decode cL_law 485 = .ok (.aload_n 0, 1) := by decide +kernel
theorem dL_law_486 : decode cL_law 486 = .ok (.iload_n 3, 1) := by decide +kernel
theorem dL_law_487 : decode cL_law 487 = .ok (.iconst 4, 1) := by decide +kernel
theorem dL_law_488 : decode cL_law 488 = .ok (.iadd, 1) := by decide +kernel
theorem dL_law_489 : decode cL_law 489 = .ok (.iaload, 1) := by decide +kernel
theorem dL_law_490 : decode cL_law 490 = .ok (.i2l, 1) := by decide +kernel
theorem dL_law_491 : decode cL_law 491 = .ok (.bipush 32, 2) := by decide +kernel
theorem dL_law_493 : decode cL_law 493 = .ok (.lshl, 1) := by decide +kernel
theorem dL_law_494 : decode cL_law 494 = .ok (.aload_n 0, 1) := by decide +kernel
theorem dL_law_495 : decode cL_law 495 = .ok (.iload_n 3, 1) := by decide +kernel
theorem dL_law_496 : decode cL_law 496 = .ok (.iconst 5, 1) := by decide +kernel
theorem dL_law_497 : decode cL_law 497 = .ok (.iadd, 1) := by decide +kernel
theorem dL_law_498 : decode cL_law 498 = .ok (.iaload, 1) := by decide +kernel
theorem dL_law_499 : decode cL_law 499 = .ok (.i2l, 1) := by decide +kernel
theorem dL_law_500 : decode cL_law 500 = .ok (.ldc2_w 22, 3) := by decide +kernel
theorem dL_law_503 : decode cL_law 503 = .ok (.land, 1) := by decide +kernel
theorem dL_law_504 : decode cL_law 504 = .ok (.lor, 1) := by decide +kernel
theorem dL_law_505 : decode cL_law 505 = .ok (.invokevirtual 38, 3) := by decide +kernel
theorem dL_law_508 : decode cL_law 508 = .ok (.aload_n 2, 1) := by decide +kernel
theorem dL_law_509 : decode cL_law 509 = .ok (.aload_n 0, 1) := by decide +kernel
theorem dL_law_510 : decode cL_law 510 = .ok (.iload_n 3, 1) := by decide +kernel
theorem dL_law_511 : decode cL_law 511 = .ok (.iconst 1, 1) := by decide +kernel
theorem dL_law_512 : decode cL_law 512 = .ok (.iadd, 1) := by decide +kernel
theorem dL_law_513 : decode cL_law 513 = .ok (.iaload, 1) := by decide +kernel
theorem dL_law_514 : decode cL_law 514 = .ok (.aload_n 0, 1) := by decide +kernel
theorem dL_law_515 : decode cL_law 515 = .ok (.iload_n 3, 1) := by decide +kernel
theorem dL_law_516 : decode cL_law 516 = .ok (.iconst 2, 1) := by decide +kernel
theorem dL_law_517 : decode cL_law 517 = .ok (.iadd, 1) := by decide +kernel
theorem dL_law_518 : decode cL_law 518 = .ok (.iaload, 1) := by decide +kernel
theorem dL_law_519 : decode cL_law 519 = .ok (.i2l, 1) := by decide +kernel
theorem dL_law_520 : decode cL_law 520 = .ok (.bipush 32, 2) := by decide +kernel
theorem dL_law_522 : decode cL_law 522 = .ok (.lshl, 1) := by decide +kernel
theorem dL_law_523 : decode cL_law 523 = .ok (.aload_n 0, 1) := by decide +kernel
theorem dL_law_524 : decode cL_law 524 = .ok (.iload_n 3, 1) := by decide +kernel
theorem dL_law_525 : decode cL_law 525 = .ok (.iconst 3, 1) := by decide +kernel
theorem dL_law_526 : decode cL_law 526 = .ok (.iadd, 1) := by decide +kernel
theorem dL_law_527 : decode cL_law 527 = .ok (.iaload, 1) := by decide +kernel
theorem dL_law_528 : decode cL_law 528 = .ok (.i2l, 1) := by decide +kernel
theorem dL_law_529 : decode cL_law 529 = .ok (.ldc2_w 22, 3) := by decide +kernel
theorem dL_law_532 : decode cL_law 532 = .ok (.land, 1) := by decide +kernel
theorem dL_law_533 : decode cL_law 533 = .ok (.lor, 1) := by decide +kernel
theorem dL_law_534 : decode cL_law 534 = .ok (.aload_n 0, 1) := by decide +kernel
theorem dL_law_535 : decode cL_law 535 = .ok (.iload_n 3, 1) := by decide +kernel
theorem dL_law_536 : decode cL_law 536 = .ok (.iconst 4, 1) := by decide +kernel
theorem dL_law_537 : decode cL_law 537 = .ok (.iadd, 1) := by decide +kernel
theorem dL_law_538 : decode cL_law 538 = .ok (.iaload, 1) := by decide +kernel
theorem dL_law_539 : decode cL_law 539 = .ok (.i2l, 1) := by decide +kernel
theorem dL_law_540 : decode cL_law 540 = .ok (.bipush 32, 2) := by decide +kernel
theorem dL_law_542 : decode cL_law 542 = .ok (.lshl, 1) := by decide +kernel
theorem dL_law_543 : decode cL_law 543 = .ok (.aload_n 0, 1) := by decide +kernel
theorem dL_law_544 : decode cL_law 544 = .ok (.iload_n 3, 1) := by decide +kernel
theorem dL_law_545 : decode cL_law 545 = .ok (.iconst 5, 1) := by decide +kernel
theorem dL_law_546 : decode cL_law 546 = .ok (.iadd, 1) := by decide +kernel
theorem dL_law_547 : decode cL_law 547 = .ok (.iaload, 1) := by decide +kernel
theorem dL_law_548 : decode cL_law 548 = .ok (.i2l, 1) := by decide +kernel
theorem dL_law_549 : decode cL_law 549 = .ok (.ldc2_w 22, 3) := by decide +kernel
theorem dL_law_552 : decode cL_law 552 = .ok (.land, 1) := by decide +kernel
theorem dL_law_553 : decode cL_law 553 = .ok (.lor, 1) := by decide +kernel
theorem dL_law_554 : decode cL_law 554 = .ok (.invokevirtual 41, 3) := by decide +kernel
theorem dL_law_557 : decode cL_law 557 = .ok (.if_icmp .eq 371, 3) := by decide +kernel
theorem dL_law_560 : decode cL_law 560 = .ok (.iconst 0, 1) := by decide +kernel
theorem dL_law_561 : decode cL_law 561 = .ok (.ireturn, 1) := by decide +kernel
theorem dL_law_562 : decode cL_law 562 = .ok (.aload_n 1, 1) := by decide +kernel
theorem dL_law_563 : decode cL_law 563 = .ok (.aload_n 0, 1) := by decide +kernel
theorem dL_law_564 : decode cL_law 564 = .ok (.iload_n 3, 1) := by decide +kernel
theorem dL_law_565 : decode cL_law 565 = .ok (.iconst 1, 1) := by decide +kernel
theorem dL_law_566 : decode cL_law 566 = .ok (.iadd, 1) := by decide +kernel
theorem dL_law_567 : decode cL_law 567 = .ok (.iaload, 1) := by decide +kernel
theorem dL_law_568 : decode cL_law 568 = .ok (.aload_n 0, 1) := by decide +kernel
theorem dL_law_569 : decode cL_law 569 = .ok (.iload_n 3, 1) := by decide +kernel
theorem dL_law_570 : decode cL_law 570 = .ok (.iconst 2, 1) := by decide +kernel
theorem dL_law_571 : decode cL_law 571 = .ok (.iadd, 1) := by decide +kernel
theorem dL_law_572 : decode cL_law 572 = .ok (.iaload, 1) := by decide +kernel
theorem dL_law_573 : decode cL_law 573 = .ok (.i2l, 1) := by decide +kernel
theorem dL_law_574 : decode cL_law 574 = .ok (.bipush 32, 2) := by decide +kernel
theorem dL_law_576 : decode cL_law 576 = .ok (.lshl, 1) := by decide +kernel
theorem dL_law_577 : decode cL_law 577 = .ok (.aload_n 0, 1) := by decide +kernel
theorem dL_law_578 : decode cL_law 578 = .ok (.iload_n 3, 1) := by decide +kernel
theorem dL_law_579 : decode cL_law 579 = .ok (.iconst 3, 1) := by decide +kernel
theorem dL_law_580 : decode cL_law 580 = .ok (.iadd, 1) := by decide +kernel
theorem dL_law_581 : decode cL_law 581 = .ok (.iaload, 1) := by decide +kernel
theorem dL_law_582 : decode cL_law 582 = .ok (.i2l, 1) := by decide +kernel
theorem dL_law_583 : decode cL_law 583 = .ok (.ldc2_w 22, 3) := by decide +kernel
theorem dL_law_586 : decode cL_law 586 = .ok (.land, 1) := by decide +kernel
theorem dL_law_587 : decode cL_law 587 = .ok (.lor, 1) := by decide +kernel
theorem dL_law_588 : decode cL_law 588 = .ok (.aload_n 0, 1) := by decide +kernel
theorem dL_law_589 : decode cL_law 589 = .ok (.iload_n 3, 1) := by decide +kernel
theorem dL_law_590 : decode cL_law 590 = .ok (.iconst 4, 1) := by decide +kernel
theorem dL_law_591 : decode cL_law 591 = .ok (.iadd, 1) := by decide +kernel
theorem dL_law_592 : decode cL_law 592 = .ok (.iaload, 1) := by decide +kernel
theorem dL_law_593 : decode cL_law 593 = .ok (.i2l, 1) := by decide +kernel
theorem dL_law_594 : decode cL_law 594 = .ok (.bipush 32, 2) := by decide +kernel
theorem dL_law_596 : decode cL_law 596 = .ok (.lshl, 1) := by decide +kernel
theorem dL_law_597 : decode cL_law 597 = .ok (.aload_n 0, 1) := by decide +kernel
theorem dL_law_598 : decode cL_law 598 = .ok (.iload_n 3, 1) := by decide +kernel
theorem dL_law_599 : decode cL_law 599 = .ok (.iconst 5, 1) := by decide +kernel
theorem dL_law_600 : decode cL_law 600 = .ok (.iadd, 1) := by decide +kernel
theorem dL_law_601 : decode cL_law 601 = .ok (.iaload, 1) := by decide +kernel
theorem dL_law_602 : decode cL_law 602 = .ok (.i2l, 1) := by decide +kernel
theorem dL_law_603 : decode cL_law 603 = .ok (.ldc2_w 22, 3) := by decide +kernel
theorem dL_law_606 : decode cL_law 606 = .ok (.land, 1) := by decide +kernel
theorem dL_law_607 : decode cL_law 607 = .ok (.lor, 1) := by decide +kernel
theorem dL_law_608 : decode cL_law 608 = .ok (.invokevirtual 42, 3) := by decide +kernel
theorem dL_law_611 : decode cL_law 611 = .ok (.aload_n 2, 1) := by decide +kernel
theorem dL_law_612 : decode cL_law 612 = .ok (.aload_n 0, 1) := by decide +kernel
theorem dL_law_613 : decode cL_law 613 = .ok (.iload_n 3, 1) := by decide +kernel
theorem dL_law_614 : decode cL_law 614 = .ok (.iconst 1, 1) := by decide +kernel
theorem dL_law_615 : decode cL_law 615 = .ok (.iadd, 1) := by decide +kernel
theorem dL_law_616 : decode cL_law 616 = .ok (.iaload, 1) := by decide +kernel
theorem dL_law_617 : decode cL_law 617 = .ok (.aload_n 0, 1) := by decide +kernel
theorem dL_law_618 : decode cL_law 618 = .ok (.iload_n 3, 1) := by decide +kernel
theorem dL_law_619 : decode cL_law 619 = .ok (.iconst 2, 1) := by decide +kernel
theorem dL_law_620 : decode cL_law 620 = .ok (.iadd, 1) := by decide +kernel
theorem dL_law_621 : decode cL_law 621 = .ok (.iaload, 1) := by decide +kernel
theorem dL_law_622 : decode cL_law 622 = .ok (.i2l, 1) := by decide +kernel
theorem dL_law_623 : decode cL_law 623 = .ok (.bipush 32, 2) := by decide +kernel
theorem dL_law_625 : decode cL_law 625 = .ok (.lshl, 1) := by decide +kernel
theorem dL_law_626 : decode cL_law 626 = .ok (.aload_n 0, 1) := by decide +kernel
theorem dL_law_627 : decode cL_law 627 = .ok (.iload_n 3, 1) := by decide +kernel
theorem dL_law_628 : decode cL_law 628 = .ok (.iconst 3, 1) := by decide +kernel
theorem dL_law_629 : decode cL_law 629 = .ok (.iadd, 1) := by decide +kernel
theorem dL_law_630 : decode cL_law 630 = .ok (.iaload, 1) := by decide +kernel
theorem dL_law_631 : decode cL_law 631 = .ok (.i2l, 1) := by decide +kernel
theorem dL_law_632 : decode cL_law 632 = .ok (.ldc2_w 22, 3) := by decide +kernel
theorem dL_law_635 : decode cL_law 635 = .ok (.land, 1) := by decide +kernel
theorem dL_law_636 : decode cL_law 636 = .ok (.lor, 1) := by decide +kernel
theorem dL_law_637 : decode cL_law 637 = .ok (.aload_n 0, 1) := by decide +kernel
theorem dL_law_638 : decode cL_law 638 = .ok (.iload_n 3, 1) := by decide +kernel
theorem dL_law_639 : decode cL_law 639 = .ok (.iconst 4, 1) := by decide +kernel
theorem dL_law_640 : decode cL_law 640 = .ok (.iadd, 1) := by decide +kernel
theorem dL_law_641 : decode cL_law 641 = .ok (.iaload, 1) := by decide +kernel
theorem dL_law_642 : decode cL_law 642 = .ok (.i2l, 1) := by decide +kernel
theorem dL_law_643 : decode cL_law 643 = .ok (.bipush 32, 2) := by decide +kernel
theorem dL_law_645 : decode cL_law 645 = .ok (.lshl, 1) := by decide +kernel
theorem dL_law_646 : decode cL_law 646 = .ok (.aload_n 0, 1) := by decide +kernel
theorem dL_law_647 : decode cL_law 647 = .ok (.iload_n 3, 1) := by decide +kernel
theorem dL_law_648 : decode cL_law 648 = .ok (.iconst 5, 1) := by decide +kernel
theorem dL_law_649 : decode cL_law 649 = .ok (.iadd, 1) := by decide +kernel
theorem dL_law_650 : decode cL_law 650 = .ok (.iaload, 1) := by decide +kernel
theorem dL_law_651 : decode cL_law 651 = .ok (.i2l, 1) := by decide +kernel
theorem dL_law_652 : decode cL_law 652 = .ok (.ldc2_w 22, 3) := by decide +kernel
theorem dL_law_655 : decode cL_law 655 = .ok (.land, 1) := by decide +kernel
theorem dL_law_656 : decode cL_law 656 = .ok (.lor, 1) := by decide +kernel
theorem dL_law_657 : decode cL_law 657 = .ok (.invokevirtual 45, 3) := by decide +kernel
theorem dL_law_660 : decode cL_law 660 = .ok (.if_icmp .eq 268, 3) := by decide +kernel
theorem dL_law_663 : decode cL_law 663 = .ok (.iconst 0, 1) := by decide +kernel
theorem dL_law_664 : decode cL_law 664 = .ok (.ireturn, 1) := by decide +kernel
theorem dL_law_665 : decode cL_law 665 = .ok (.aload_n 1, 1) := by decide +kernel
theorem dL_law_666 : decode cL_law 666 = .ok (.aload_n 0, 1) := by decide +kernel
theorem dL_law_667 : decode cL_law 667 = .ok (.iload_n 3, 1) := by decide +kernel
theorem dL_law_668 : decode cL_law 668 = .ok (.iconst 1, 1) := by decide +kernel
theorem dL_law_669 : decode cL_law 669 = .ok (.iadd, 1) := by decide +kernel
theorem dL_law_670 : decode cL_law 670 = .ok (.iaload, 1) := by decide +kernel
theorem dL_law_671 : decode cL_law 671 = .ok (.aload_n 0, 1) := by decide +kernel
theorem dL_law_672 : decode cL_law 672 = .ok (.iload_n 3, 1) := by decide +kernel
theorem dL_law_673 : decode cL_law 673 = .ok (.iconst 2, 1) := by decide +kernel
theorem dL_law_674 : decode cL_law 674 = .ok (.iadd, 1) := by decide +kernel
theorem dL_law_675 : decode cL_law 675 = .ok (.iaload, 1) := by decide +kernel
theorem dL_law_676 : decode cL_law 676 = .ok (.i2l, 1) := by decide +kernel
theorem dL_law_677 : decode cL_law 677 = .ok (.bipush 32, 2) := by decide +kernel
theorem dL_law_679 : decode cL_law 679 = .ok (.lshl, 1) := by decide +kernel
theorem dL_law_680 : decode cL_law 680 = .ok (.aload_n 0, 1) := by decide +kernel
theorem dL_law_681 : decode cL_law 681 = .ok (.iload_n 3, 1) := by decide +kernel
theorem dL_law_682 : decode cL_law 682 = .ok (.iconst 3, 1) := by decide +kernel
theorem dL_law_683 : decode cL_law 683 = .ok (.iadd, 1) := by decide +kernel
theorem dL_law_684 : decode cL_law 684 = .ok (.iaload, 1) := by decide +kernel
theorem dL_law_685 : decode cL_law 685 = .ok (.i2l, 1) := by decide +kernel
theorem dL_law_686 : decode cL_law 686 = .ok (.ldc2_w 22, 3) := by decide +kernel
theorem dL_law_689 : decode cL_law 689 = .ok (.land, 1) := by decide +kernel
theorem dL_law_690 : decode cL_law 690 = .ok (.lor, 1) := by decide +kernel
theorem dL_law_691 : decode cL_law 691 = .ok (.invokevirtual 46, 3) := by decide +kernel
theorem dL_law_694 : decode cL_law 694 = .ok (.aload_n 2, 1) := by decide +kernel
theorem dL_law_695 : decode cL_law 695 = .ok (.aload_n 0, 1) := by decide +kernel
theorem dL_law_696 : decode cL_law 696 = .ok (.iload_n 3, 1) := by decide +kernel
theorem dL_law_697 : decode cL_law 697 = .ok (.iconst 1, 1) := by decide +kernel
theorem dL_law_698 : decode cL_law 698 = .ok (.iadd, 1) := by decide +kernel
theorem dL_law_699 : decode cL_law 699 = .ok (.iaload, 1) := by decide +kernel
theorem dL_law_700 : decode cL_law 700 = .ok (.aload_n 0, 1) := by decide +kernel
theorem dL_law_701 : decode cL_law 701 = .ok (.iload_n 3, 1) := by decide +kernel
theorem dL_law_702 : decode cL_law 702 = .ok (.iconst 2, 1) := by decide +kernel
theorem dL_law_703 : decode cL_law 703 = .ok (.iadd, 1) := by decide +kernel
theorem dL_law_704 : decode cL_law 704 = .ok (.iaload, 1) := by decide +kernel
theorem dL_law_705 : decode cL_law 705 = .ok (.i2l, 1) := by decide +kernel
theorem dL_law_706 : decode cL_law 706 = .ok (.bipush 32, 2) := by decide +kernel
theorem dL_law_708 : decode cL_law 708 = .ok (.lshl, 1) := by decide +kernel
theorem dL_law_709 : decode cL_law 709 = .ok (.aload_n 0, 1) := by decide +kernel
theorem dL_law_710 : decode cL_law 710 = .ok (.iload_n 3, 1) := by decide +kernel
theorem dL_law_711 : decode cL_law 711 = .ok (.iconst 3, 1) := by decide +kernel
theorem dL_law_712 : decode cL_law 712 = .ok (.iadd, 1) := by decide +kernel
theorem dL_law_713 : decode cL_law 713 = .ok (.iaload, 1) := by decide +kernel
theorem dL_law_714 : decode cL_law 714 = .ok (.i2l, 1) := by decide +kernel
theorem dL_law_715 : decode cL_law 715 = .ok (.ldc2_w 22, 3) := by decide +kernel
theorem dL_law_718 : decode cL_law 718 = .ok (.land, 1) := by decide +kernel
theorem dL_law_719 : decode cL_law 719 = .ok (.lor, 1) := by decide +kernel
theorem dL_law_720 : decode cL_law 720 = .ok (.invokevirtual 50, 3) := by decide +kernel
theorem dL_law_723 : decode cL_law 723 = .ok (.lcmp, 1) := by decide +kernel
theorem dL_law_724 : decode cL_law 724 = .ok (.ifCond .eq 204, 3) := by decide +kernel
theorem dL_law_727 : decode cL_law 727 = .ok (.iconst 0, 1) := by decide +kernel
theorem dL_law_728 : decode cL_law 728 = .ok (.ireturn, 1) := by decide +kernel
theorem dL_law_729 : decode cL_law 729 = .ok (.aload_n 1, 1) := by decide +kernel
theorem dL_law_730 : decode cL_law 730 = .ok (.aload_n 0, 1) := by decide +kernel
theorem dL_law_731 : decode cL_law 731 = .ok (.iload_n 3, 1) := by decide +kernel
theorem dL_law_732 : decode cL_law 732 = .ok (.iconst 1, 1) := by decide +kernel
theorem dL_law_733 : decode cL_law 733 = .ok (.iadd, 1) := by decide +kernel
theorem dL_law_734 : decode cL_law 734 = .ok (.iaload, 1) := by decide +kernel
theorem dL_law_735 : decode cL_law 735 = .ok (.aload_n 0, 1) := by decide +kernel
theorem dL_law_736 : decode cL_law 736 = .ok (.iload_n 3, 1) := by decide +kernel
theorem dL_law_737 : decode cL_law 737 = .ok (.iconst 2, 1) := by decide +kernel
theorem dL_law_738 : decode cL_law 738 = .ok (.iadd, 1) := by decide +kernel
theorem dL_law_739 : decode cL_law 739 = .ok (.iaload, 1) := by decide +kernel
theorem dL_law_740 : decode cL_law 740 = .ok (.invokevirtual 51, 3) := by decide +kernel
theorem dL_law_743 : decode cL_law 743 = .ok (.aload_n 2, 1) := by decide +kernel
theorem dL_law_744 : decode cL_law 744 = .ok (.aload_n 0, 1) := by decide +kernel
theorem dL_law_745 : decode cL_law 745 = .ok (.iload_n 3, 1) := by decide +kernel
theorem dL_law_746 : decode cL_law 746 = .ok (.iconst 1, 1) := by decide +kernel
theorem dL_law_747 : decode cL_law 747 = .ok (.iadd, 1) := by decide +kernel
theorem dL_law_748 : decode cL_law 748 = .ok (.iaload, 1) := by decide +kernel
theorem dL_law_749 : decode cL_law 749 = .ok (.aload_n 0, 1) := by decide +kernel
theorem dL_law_750 : decode cL_law 750 = .ok (.iload_n 3, 1) := by decide +kernel
theorem dL_law_751 : decode cL_law 751 = .ok (.iconst 2, 1) := by decide +kernel
theorem dL_law_752 : decode cL_law 752 = .ok (.iadd, 1) := by decide +kernel
theorem dL_law_753 : decode cL_law 753 = .ok (.iaload, 1) := by decide +kernel
theorem dL_law_754 : decode cL_law 754 = .ok (.invokevirtual 55, 3) := by decide +kernel
theorem dL_law_757 : decode cL_law 757 = .ok (.lcmp, 1) := by decide +kernel
theorem dL_law_758 : decode cL_law 758 = .ok (.ifCond .eq 170, 3) := by decide +kernel
theorem dL_law_761 : decode cL_law 761 = .ok (.iconst 0, 1) := by decide +kernel
theorem dL_law_762 : decode cL_law 762 = .ok (.ireturn, 1) := by decide +kernel
theorem dL_law_763 : decode cL_law 763 = .ok (.aload_n 1, 1) := by decide +kernel
theorem dL_law_764 : decode cL_law 764 = .ok (.aload_n 0, 1) := by decide +kernel
theorem dL_law_765 : decode cL_law 765 = .ok (.iload_n 3, 1) := by decide +kernel
theorem dL_law_766 : decode cL_law 766 = .ok (.iconst 1, 1) := by decide +kernel
theorem dL_law_767 : decode cL_law 767 = .ok (.iadd, 1) := by decide +kernel
theorem dL_law_768 : decode cL_law 768 = .ok (.iaload, 1) := by decide +kernel
theorem dL_law_769 : decode cL_law 769 = .ok (.aload_n 0, 1) := by decide +kernel
theorem dL_law_770 : decode cL_law 770 = .ok (.iload_n 3, 1) := by decide +kernel
theorem dL_law_771 : decode cL_law 771 = .ok (.iconst 2, 1) := by decide +kernel
theorem dL_law_772 : decode cL_law 772 = .ok (.iadd, 1) := by decide +kernel
theorem dL_law_773 : decode cL_law 773 = .ok (.iaload, 1) := by decide +kernel
theorem dL_law_774 : decode cL_law 774 = .ok (.invokevirtual 56, 3) := by decide +kernel
theorem dL_law_777 : decode cL_law 777 = .ok (.aload_n 2, 1) := by decide +kernel
theorem dL_law_778 : decode cL_law 778 = .ok (.aload_n 0, 1) := by decide +kernel
theorem dL_law_779 : decode cL_law 779 = .ok (.iload_n 3, 1) := by decide +kernel
theorem dL_law_780 : decode cL_law 780 = .ok (.iconst 1, 1) := by decide +kernel
theorem dL_law_781 : decode cL_law 781 = .ok (.iadd, 1) := by decide +kernel
theorem dL_law_782 : decode cL_law 782 = .ok (.iaload, 1) := by decide +kernel
theorem dL_law_783 : decode cL_law 783 = .ok (.aload_n 0, 1) := by decide +kernel
theorem dL_law_784 : decode cL_law 784 = .ok (.iload_n 3, 1) := by decide +kernel
theorem dL_law_785 : decode cL_law 785 = .ok (.iconst 2, 1) := by decide +kernel
theorem dL_law_786 : decode cL_law 786 = .ok (.iadd, 1) := by decide +kernel
theorem dL_law_787 : decode cL_law 787 = .ok (.iaload, 1) := by decide +kernel
theorem dL_law_788 : decode cL_law 788 = .ok (.invokevirtual 59, 3) := by decide +kernel
theorem dL_law_791 : decode cL_law 791 = .ok (.lcmp, 1) := by decide +kernel
theorem dL_law_792 : decode cL_law 792 = .ok (.ifCond .eq 136, 3) := by decide +kernel
theorem dL_law_795 : decode cL_law 795 = .ok (.iconst 0, 1) := by decide +kernel
theorem dL_law_796 : decode cL_law 796 = .ok (.ireturn, 1) := by decide +kernel
theorem dL_law_797 : decode cL_law 797 = .ok (.aload_n 1, 1) := by decide +kernel
theorem dL_law_798 : decode cL_law 798 = .ok (.aload_n 0, 1) := by decide +kernel
theorem dL_law_799 : decode cL_law 799 = .ok (.iload_n 3, 1) := by decide +kernel
theorem dL_law_800 : decode cL_law 800 = .ok (.iconst 1, 1) := by decide +kernel
theorem dL_law_801 : decode cL_law 801 = .ok (.iadd, 1) := by decide +kernel
theorem dL_law_802 : decode cL_law 802 = .ok (.iaload, 1) := by decide +kernel
theorem dL_law_803 : decode cL_law 803 = .ok (.aload_n 0, 1) := by decide +kernel
theorem dL_law_804 : decode cL_law 804 = .ok (.iload_n 3, 1) := by decide +kernel
theorem dL_law_805 : decode cL_law 805 = .ok (.iconst 2, 1) := by decide +kernel
theorem dL_law_806 : decode cL_law 806 = .ok (.iadd, 1) := by decide +kernel
theorem dL_law_807 : decode cL_law 807 = .ok (.iaload, 1) := by decide +kernel
theorem dL_law_808 : decode cL_law 808 = .ok (.aload_n 0, 1) := by decide +kernel
theorem dL_law_809 : decode cL_law 809 = .ok (.iload_n 3, 1) := by decide +kernel
theorem dL_law_810 : decode cL_law 810 = .ok (.iconst 3, 1) := by decide +kernel
theorem dL_law_811 : decode cL_law 811 = .ok (.iadd, 1) := by decide +kernel
theorem dL_law_812 : decode cL_law 812 = .ok (.iaload, 1) := by decide +kernel
theorem dL_law_813 : decode cL_law 813 = .ok (.invokevirtual 60, 3) := by decide +kernel
theorem dL_law_816 : decode cL_law 816 = .ok (.aload_n 2, 1) := by decide +kernel
theorem dL_law_817 : decode cL_law 817 = .ok (.aload_n 0, 1) := by decide +kernel
theorem dL_law_818 : decode cL_law 818 = .ok (.iload_n 3, 1) := by decide +kernel
theorem dL_law_819 : decode cL_law 819 = .ok (.iconst 1, 1) := by decide +kernel
theorem dL_law_820 : decode cL_law 820 = .ok (.iadd, 1) := by decide +kernel
theorem dL_law_821 : decode cL_law 821 = .ok (.iaload, 1) := by decide +kernel
theorem dL_law_822 : decode cL_law 822 = .ok (.aload_n 0, 1) := by decide +kernel
theorem dL_law_823 : decode cL_law 823 = .ok (.iload_n 3, 1) := by decide +kernel
theorem dL_law_824 : decode cL_law 824 = .ok (.iconst 2, 1) := by decide +kernel
theorem dL_law_825 : decode cL_law 825 = .ok (.iadd, 1) := by decide +kernel
theorem dL_law_826 : decode cL_law 826 = .ok (.iaload, 1) := by decide +kernel
theorem dL_law_827 : decode cL_law 827 = .ok (.aload_n 0, 1) := by decide +kernel
theorem dL_law_828 : decode cL_law 828 = .ok (.iload_n 3, 1) := by decide +kernel
theorem dL_law_829 : decode cL_law 829 = .ok (.iconst 3, 1) := by decide +kernel
theorem dL_law_830 : decode cL_law 830 = .ok (.iadd, 1) := by decide +kernel
theorem dL_law_831 : decode cL_law 831 = .ok (.iaload, 1) := by decide +kernel
theorem dL_law_832 : decode cL_law 832 = .ok (.invokevirtual 64, 3) := by decide +kernel
theorem dL_law_835 : decode cL_law 835 = .ok (.if_icmp .eq 93, 3) := by decide +kernel
theorem dL_law_838 : decode cL_law 838 = .ok (.iconst 0, 1) := by decide +kernel
theorem dL_law_839 : decode cL_law 839 = .ok (.ireturn, 1) := by decide +kernel
theorem dL_law_840 : decode cL_law 840 = .ok (.aload_n 1, 1) := by decide +kernel
theorem dL_law_841 : decode cL_law 841 = .ok (.aload_n 0, 1) := by decide +kernel
theorem dL_law_842 : decode cL_law 842 = .ok (.iload_n 3, 1) := by decide +kernel
theorem dL_law_843 : decode cL_law 843 = .ok (.iconst 1, 1) := by decide +kernel
theorem dL_law_844 : decode cL_law 844 = .ok (.iadd, 1) := by decide +kernel
theorem dL_law_845 : decode cL_law 845 = .ok (.iaload, 1) := by decide +kernel
theorem dL_law_846 : decode cL_law 846 = .ok (.aload_n 0, 1) := by decide +kernel
theorem dL_law_847 : decode cL_law 847 = .ok (.iload_n 3, 1) := by decide +kernel
theorem dL_law_848 : decode cL_law 848 = .ok (.iconst 2, 1) := by decide +kernel
theorem dL_law_849 : decode cL_law 849 = .ok (.iadd, 1) := by decide +kernel
theorem dL_law_850 : decode cL_law 850 = .ok (.iaload, 1) := by decide +kernel
theorem dL_law_851 : decode cL_law 851 = .ok (.invokevirtual 65, 3) := by decide +kernel
theorem dL_law_854 : decode cL_law 854 = .ok (.aload_n 2, 1) := by decide +kernel
theorem dL_law_855 : decode cL_law 855 = .ok (.aload_n 0, 1) := by decide +kernel
theorem dL_law_856 : decode cL_law 856 = .ok (.iload_n 3, 1) := by decide +kernel
theorem dL_law_857 : decode cL_law 857 = .ok (.iconst 1, 1) := by decide +kernel
theorem dL_law_858 : decode cL_law 858 = .ok (.iadd, 1) := by decide +kernel
theorem dL_law_859 : decode cL_law 859 = .ok (.iaload, 1) := by decide +kernel
theorem dL_law_860 : decode cL_law 860 = .ok (.aload_n 0, 1) := by decide +kernel
theorem dL_law_861 : decode cL_law 861 = .ok (.iload_n 3, 1) := by decide +kernel
theorem dL_law_862 : decode cL_law 862 = .ok (.iconst 2, 1) := by decide +kernel
theorem dL_law_863 : decode cL_law 863 = .ok (.iadd, 1) := by decide +kernel
theorem dL_law_864 : decode cL_law 864 = .ok (.iaload, 1) := by decide +kernel
theorem dL_law_865 : decode cL_law 865 = .ok (.invokevirtual 68, 3) := by decide +kernel
theorem dL_law_868 : decode cL_law 868 = .ok (.lcmp, 1) := by decide +kernel
theorem dL_law_869 : decode cL_law 869 = .ok (.ifCond .eq 59, 3) := by decide +kernel
theorem dL_law_872 : decode cL_law 872 = .ok (.iconst 0, 1) := by decide +kernel
theorem dL_law_873 : decode cL_law 873 = .ok (.ireturn, 1) := by decide +kernel
theorem dL_law_874 : decode cL_law 874 = .ok (.aload_n 1, 1) := by decide +kernel
theorem dL_law_875 : decode cL_law 875 = .ok (.aload_n 0, 1) := by decide +kernel
theorem dL_law_876 : decode cL_law 876 = .ok (.iload_n 3, 1) := by decide +kernel
theorem dL_law_877 : decode cL_law 877 = .ok (.iconst 1, 1) := by decide +kernel
theorem dL_law_878 : decode cL_law 878 = .ok (.iadd, 1) := by decide +kernel
theorem dL_law_879 : decode cL_law 879 = .ok (.iaload, 1) := by decide +kernel
theorem dL_law_880 : decode cL_law 880 = .ok (.i2l, 1) := by decide +kernel
theorem dL_law_881 : decode cL_law 881 = .ok (.bipush 32, 2) := by decide +kernel
theorem dL_law_883 : decode cL_law 883 = .ok (.lshl, 1) := by decide +kernel
theorem dL_law_884 : decode cL_law 884 = .ok (.aload_n 0, 1) := by decide +kernel
theorem dL_law_885 : decode cL_law 885 = .ok (.iload_n 3, 1) := by decide +kernel
theorem dL_law_886 : decode cL_law 886 = .ok (.iconst 2, 1) := by decide +kernel
theorem dL_law_887 : decode cL_law 887 = .ok (.iadd, 1) := by decide +kernel
theorem dL_law_888 : decode cL_law 888 = .ok (.iaload, 1) := by decide +kernel
theorem dL_law_889 : decode cL_law 889 = .ok (.i2l, 1) := by decide +kernel
theorem dL_law_890 : decode cL_law 890 = .ok (.ldc2_w 22, 3) := by decide +kernel
theorem dL_law_893 : decode cL_law 893 = .ok (.land, 1) := by decide +kernel
theorem dL_law_894 : decode cL_law 894 = .ok (.lor, 1) := by decide +kernel
theorem dL_law_895 : decode cL_law 895 = .ok (.invokevirtual 69, 3) := by decide +kernel
theorem dL_law_898 : decode cL_law 898 = .ok (.aload_n 2, 1) := by decide +kernel
theorem dL_law_899 : decode cL_law 899 = .ok (.aload_n 0, 1) := by decide +kernel
theorem dL_law_900 : decode cL_law 900 = .ok (.iload_n 3, 1) := by decide +kernel
theorem dL_law_901 : decode cL_law 901 = .ok (.iconst 1, 1) := by decide +kernel
theorem dL_law_902 : decode cL_law 902 = .ok (.iadd, 1) := by decide +kernel
theorem dL_law_903 : decode cL_law 903 = .ok (.iaload, 1) := by decide +kernel
theorem dL_law_904 : decode cL_law 904 = .ok (.i2l, 1) := by decide +kernel
theorem dL_law_905 : decode cL_law 905 = .ok (.bipush 32, 2) := by decide +kernel
theorem dL_law_907 : decode cL_law 907 = .ok (.lshl, 1) := by decide +kernel
theorem dL_law_908 : decode cL_law 908 = .ok (.aload_n 0, 1) := by decide +kernel
theorem dL_law_909 : decode cL_law 909 = .ok (.iload_n 3, 1) := by decide +kernel
theorem dL_law_910 : decode cL_law 910 = .ok (.iconst 2, 1) := by decide +kernel
theorem dL_law_911 : decode cL_law 911 = .ok (.iadd, 1) := by decide +kernel
theorem dL_law_912 : decode cL_law 912 = .ok (.iaload, 1) := by decide +kernel
theorem dL_law_913 : decode cL_law 913 = .ok (.i2l, 1) := by decide +kernel
theorem dL_law_914 : decode cL_law 914 = .ok (.ldc2_w 22, 3) := by decide +kernel
theorem dL_law_917 : decode cL_law 917 = .ok (.land, 1) := by decide +kernel
theorem dL_law_918 : decode cL_law 918 = .ok (.lor, 1) := by decide +kernel
theorem dL_law_919 : decode cL_law 919 = .ok (.invokevirtual 73, 3) := by decide +kernel
theorem dL_law_922 : decode cL_law 922 = .ok (.lcmp, 1) := by decide +kernel
theorem dL_law_923 : decode cL_law 923 = .ok (.ifCond .eq 5, 3) := by decide +kernel
theorem dL_law_926 : decode cL_law 926 = .ok (.iconst 0, 1) := by decide +kernel
theorem dL_law_927 : decode cL_law 927 = .ok (.ireturn, 1) := by decide +kernel
theorem dL_law_928 : decode cL_law 928 = .ok (.iinc 3 7, 3) := by decide +kernel
theorem dL_law_931 : decode cL_law 931 = .ok (.goto (-913), 3) := by decide +kernel
theorem dL_law_934 : decode cL_law 934 = .ok (.iconst 1, 1) := by decide +kernel
theorem dL_law_935 : decode cL_law 935 = .ok (.ireturn, 1) := by decide +kernel
abbrev vwCl : List vw_C := [(RX0, TX0, 3), (RX1, TX1, 5), (RX2, TX2, 2), (RX3, TX3, 3), (RX4, TX4, 5), (RX5, TX5, 6), (RX6, TX6, 20)]
end
section
/-! The heap as a partial map from addresses to what the cells hold; rules of the machine over it. -/
abbrev zk_G : Type := va_G × (ClassId × ClassId × ClassId × ClassId)
abbrev zk_M : Type := Nat → Option va_E
abbrev zk_ty (g : zk_G) : List (ClassId × FieldType) := [(g.2.1, .long), (g.2.2.1, .int), (g.2.2.2.1, .object "KegDeposits$Party"), (g.2.2.2.2, .object "KegDeposits$Kind")]
abbrev zk_aJ (g : zk_G) (n : Nat) (f : Nat → Int64) : va_E := .inl (g.2.1, n, .inr (.inl f))
abbrev zk_aI (g : zk_G) (n : Nat) (f : Nat → Int32) : va_E := .inl (g.2.2.1, n, .inl f)
abbrev zk_aP (g : zk_G) (n : Nat) (f : Nat → Option Nat) : va_E := .inl (g.2.2.2.1, n, .inr (.inr (.inr (.inr f))))
abbrev zk_aQ (g : zk_G) (n : Nat) (f : Nat → Option Nat) : va_E := .inl (g.2.2.2.2, n, .inr (.inr (.inr (.inr f))))
-- words of nest mates: in no method's own list, so they ride with the state
abbrev zk_F6 : Type := String × Nat × String × String × String × String
def zk_nf : List zk_F6 := [("KegDeposits", 93, "KegDeposits$Kind", "shareParts", "J", "KegDeposits"), ("KegDeposits", 120, "KegDeposits$Kind", "restParts", "J", "KegDeposits"), ("KegDeposits$Kind", 15, "KegDeposits$Price", "day", "J", "KegDeposits"), ("KegDeposits$Kind", 24, "KegDeposits$Price", "next", "LKegDeposits$Price;", "KegDeposits"), ("KegDeposits$Kind", 21, "KegDeposits$Price", "cents", "J", "KegDeposits"), ("KegDeposits$Party", 21, "KegDeposits$Layer", "kind", "LKegDeposits$Kind;", "KegDeposits"), ("KegDeposits$Party", 25, "KegDeposits$Layer", "day", "J", "KegDeposits"), ("KegDeposits$Party", 38, "KegDeposits$Layer", "cents", "J", "KegDeposits"), ("KegDeposits$Party", 29, "KegDeposits$Layer", "pieces", "J", "KegDeposits"), ("KegDeposits$Party", 16, "KegDeposits$Layer", "younger", "LKegDeposits$Layer;", "KegDeposits"), ("KegDeposits", 140, "KegDeposits$Transfer", "day", "J", "KegDeposits"), ("KegDeposits", 147, "KegDeposits$Transfer", "earlier", "LKegDeposits$Transfer;", "KegDeposits")]
def zk_nm : List (String × Nat × MethodName × String) := [("KegDeposits", 9, yX2_init, "KegDeposits"), ("KegDeposits", 26, yX0_init, "KegDeposits")]
def zk_N (U : State) : Prop := (∀ q ∈ zk_nf, va_Nw (.fieldLinkNest q.1 q.2.1 q.2.2.1 q.2.2.2.1 q.2.2.2.2.1 q.2.2.2.2.2) U) ∧ ∀ q ∈ zk_nm, va_Nw (.methodLinkNest q.1 q.2.1 q.2.2.1 q.2.2.2) U
theorem zk_N_warm {s U : State} (hW : s.WarmedH U.vm) (h : zk_N s) : zk_N U := ⟨fun q hq => va_Nw.warmF hW (h.1 q hq), fun q hq => va_Nw.warmM hW (h.2 q hq)⟩
theorem zk_N_same {u U : State} (e : u.vm = U.vm) (h : zk_N u) : zk_N U := ⟨fun q hq => va_Nw.same rfl e (h.1 q hq), fun q hq => va_Nw.same rfl e (h.2 q hq)⟩
theorem zk_nfu {args : Array Value} {s : State} (h : zk_N s) (i : Nat) {q : zk_F6} (e : zk_nf[i]? = some q) : (Cond.fieldLinkNest q.1 q.2.1 q.2.2.1 q.2.2.2.1 q.2.2.2.2.1 q.2.2.2.2.2).before args s = true := va_Nw.use rfl (h.1 q (List.mem_of_getElem? e))
theorem zk_nmu {s : State} (h : zk_N s) (i : Nat) {q : String × Nat × MethodName × String} (e : zk_nm[i]? = some q) : va_Nw (.methodLinkNest q.1 q.2.1 q.2.2.1 q.2.2.2) s := h.2 q (List.mem_of_getElem? e)
def zk_H (g : zk_G) (z : Nat) (M : zk_M) (H : Heap) : Prop := z ≤ H.size ∧ ∀ (a : Nat) (e : va_E), M a = some e → z ≤ a ∧ va_at g.1 vwCl (a, e) H
def zk_U (g : zk_G) (z : Nat) (M : zk_M) (U : State) : Prop := zk_H g z M U.heap ∧ va_K g.1 vwCl (zk_ty g) U ∧ zk_N U
def zk_up (M : zk_M) (a : Nat) (e : va_E) : zk_M := fun b => if b = a then some e else M b
theorem zk_up_s (M : zk_M) (a : Nat) (e : va_E) : zk_up M a e a = some e := by simp [zk_up]
theorem zk_up_n (M : zk_M) {a b : Nat} (e : va_E) (h : b ≠ a) : zk_up M a e b = M b := by simp [zk_up, h]
theorem zk_one {g : zk_G} {z : Nat} {M : zk_M} {H : Heap} {a : Nat} {e : va_E} (h : zk_H g z M H) (he : M a = some e) : va_P g.1 vwCl [(a, e)] H := by
  intro k q hk
  match k, hk with
  | 0, hk => cases hk; exact (h.2 a e he).2
  | k + 1, hk => simp at hk
theorem zk_lt {g : zk_G} {z : Nat} {M : zk_M} {H : Heap} {a : Nat} {e : va_E} (h : zk_H g z M H) (he : M a = some e) : a < H.size := (h.2 a e he).2.lt
theorem zk_fresh {g : zk_G} {z : Nat} {M : zk_M} {H : Heap} (h : zk_H g z M H) : M H.size = none := by
  cases hm : M H.size with
  | none => rfl
  | some e => exact absurd (zk_lt h hm) (Nat.lt_irrefl _)
theorem zk_set {g : zk_G} {z : Nat} {M : zk_M} {H H1 : Heap} {a : Nat} {e0 e : va_E} (h : zk_H g z M H) (he : M a = some e0) (h1 : va_at g.1 vwCl (a, e) H1) (hz : H1.size = H.size) (oq : ∀ q : Nat, q ≠ a → H1[q]? = H[q]?) : zk_H g z (zk_up M a e) H1 := by
  refine ⟨by rw [hz]; exact h.1, fun b eb hb => ?_⟩
  by_cases hab : b = a
  · subst hab
    rw [zk_up_s] at hb
    cases hb
    exact ⟨(h.2 b e0 he).1, h1⟩
  · rw [zk_up_n M e hab] at hb
    exact ⟨(h.2 b eb hb).1, (h.2 b eb hb).2.kept (oq b hab)⟩
theorem zk_add {g : zk_G} {z : Nat} {M : zk_M} {H H1 : Heap} {e : va_E} (h : zk_H g z M H) (h1 : va_at g.1 vwCl (H.size, e) H1) (hz : H1.size = H.size + 1) (oq : ∀ q : Nat, q < H.size → H1[q]? = H[q]?) : zk_H g z (zk_up M H.size e) H1 := by
  refine ⟨by rw [hz]; exact Nat.le_succ_of_le h.1, fun b eb hb => ?_⟩
  by_cases hab : b = H.size
  · subst hab
    rw [zk_up_s] at hb
    cases hb
    exact ⟨h.1, h1⟩
  · rw [zk_up_n M e hab] at hb
    exact ⟨(h.2 b eb hb).1, (h.2 b eb hb).2.kept (oq b (zk_lt h hb))⟩
theorem zk_blind {g : zk_G} {z : Nat} {M : zk_M} {av : List Value} : FrameBlind (va_Pc av (zk_U g z M)) := fun a U _ mk q => ⟨q.1, q.2.1, va_K.moved (u := U) (U := U.calling _ mk a) (Vm.Alike.refl U.vm) q.2.2.1, zk_N_same rfl q.2.2.2⟩
theorem zk_preV {g : zk_G} {z : Nat} {M : zk_M} {s : State} {H : Heap} (hH : zk_H g z M H) (hK : va_K g.1 vwCl (zk_ty g) s) (hN : zk_N s) {b : Nat} {As : List Value} {ci : Nat} {fs : List Value} {q : vw_C} (he : M b = some (.inr (ci, fs))) (hc : vwCl[ci]? = some q) : PreV s H q.1 b (va_Pc (.ref b :: As) (zk_U g z M)) As :=
  ⟨zk_blind, va_recv hK (zk_one hH he) hc (q0 := 0) rfl, fun U hU hW => ⟨rfl, by rw [hU]; exact hH, va_K.moved hW.alike hK, zk_N_warm hW hN⟩⟩
theorem zk_preS {g : zk_G} {z : Nat} {M : zk_M} {s : State} {H : Heap} (hH : zk_H g z M H) (hK : va_K g.1 vwCl (zk_ty g) s) (hN : zk_N s) {As : List Value} : PreS s H (va_Pc As (zk_U g z M)) As :=
  ⟨zk_blind, fun U hU hW => ⟨rfl, by rw [hU]; exact hH, va_K.moved hW.alike hK, zk_N_warm hW hN⟩⟩
def zk_B (g : zk_G) (z : Nat) (u : zk_M) (t : State) : Prop := zk_H g z u t.heap
section ZK
variable {p : Program} {l : Launch} {e : Env} {R : Room} {s : State} {m : MethodId} {args : Array Value} {below : List Frame} {meth : Method} {c : Code} {H : Heap} {locs : List Loc} {cells slots : Nat} {Q : State → Prop}
variable {cc : ByteArray} {pc : Nat} {ls : Array Slot} {rest : List Value} {a : Nat} {H0 : Heap} {g : zk_G} {z : Nat} {M : zk_M}
theorem zk_get (hexec : p.tables.exec = Jvm.exec) (hb : c.code = cc) {own C : String} {T : u_T} {N ci index : Nat} {Ts : List Cond} (hts : ∀ w ∈ Ts, w.before args s = true) (hin : ∀ w ∈ u_ws C T N, w ∈ Ts) (hown : s.vm.findClass own = some m.cls) (hK : va_K g.1 vwCl (zk_ty g) s) (hH : zk_H g z M H) {fs : List Value} (he : M a = some (.inr (ci, fs))) (hc : vwCl[ci]? = some (C, T, N)) (k : Nat) (hk : k < N) (hlink : (Cond.fieldLink own index (T k).1 (T k).2.1 (T k).2.2.1).before args s = true) {v : Value} (hv : fs[k]? = some v) (hdg : decode cc pc = .ok (.getfield index, 3))
    (kk : W p l e R s m args below meth c H locs cells slots Q (F0 m (pc + 3) ls (v :: rest))) : W p l e R s m args below meth c H locs cells slots Q (F0 m pc ls (.ref a :: rest)) :=
  va_get hexec hb hts hin hown hK (zk_one hH he) 0 rfl hc k hk hlink (fun _ h => h) hv hdg kk
theorem zk_put (hexec : p.tables.exec = Jvm.exec) (hb : c.code = cc) {own C : String} {T : u_T} {N ci index : Nat} {Ts : List Cond} (hts : ∀ w ∈ Ts, w.before args s = true) (hin : ∀ w ∈ u_ws C T N, w ∈ Ts) (ty0 : Nat → FieldType) (hty : ∀ k, k < N → parseFieldDescriptor (T k).2.2.1 = some (ty0 k)) (hnm : ∀ a, a < N → ∀ b, b < N → a ≠ b → (T a).2.1 ≠ (T b).2.1) (hown : s.vm.findClass own = some m.cls) (hK : va_K g.1 vwCl (zk_ty g) s) (hH : zk_H g z M H) (hS0 : va_S (fun q => z ≤ q) H0 H locs) {fs : List Value} (he : M a = some (.inr (ci, fs))) (hc : vwCl[ci]? = some (C, T, N)) (k : Nat) (hk : k < N) (hlink : (Cond.fieldLink own index (T k).1 (T k).2.1 (T k).2.2.1).before args s = true) (hfin : (T k).2.2.2 = false) {v : Value} (hn : narrow (ty0 k) v = v) (hfit : fits (ty0 k) v = true) (hl : k < fs.length)
    (hdg : decode cc pc = .ok (.putfield index, 3)) (kk : ∀ (H1 : Heap) (locs1 : List Loc), zk_H g z (zk_up M a (.inr (ci, fs.set k v))) H1 → va_S (fun q => z ≤ q) H0 H1 locs1 → W p l e R s m args below meth c H1 locs1 cells slots Q (F0 m (pc + 3) ls rest)) : W p l e R s m args below meth c H locs cells slots Q (F0 m pc ls (v :: .ref a :: rest)) := by
  have hap := va_apart (own := own) hts hin ty0 hty hnm hK hc
  obtain ⟨r, h1, cell, q1, q2, q3, q4⟩ := (hH.2 a _ he).2
  have hr : r = (C, T, N) := Option.some.inj (h1.symm.trans hc)
  subst hr
  obtain ⟨hS, hfc, kC, hkC, hkind⟩ := hK.1 ci _ hc
  obtain ⟨cf, kf, fi, f, hi, hsl⟩ := hS k hk
  have hlay := hts _ (hin _ (u_in_lay hk))
  unfold u_lay at hlay
  rw [if_neg (by rw [hfin]; decide)] at hlay
  have hst := (u_facts hfc hkC (u_lays hts hin hk) hi).1
  have h6 := u_store hfc hkC hkind hlay hi (hty k hk) hn hfit
  refine W.putK hexec hb (f := f) ⟨hown, hlink, ⟨_, _, _, hi⟩, hst⟩ (by rw [q2]; exact h6) q1 q3 (by rw [hsl]; exact k2_hasslot (q4 k hk)) rfl rfl hdg fun H' e1 e2 e3 => ?_
  rw [hsl] at e1 ⊢
  exact kk H' _ (zk_set hH he ⟨_, hc, t_OB.to (V := updV (vp_V fs) k v) ⟨_, e1, q2, q3, t_set q4 hap hk v⟩ (fun j _ => vp_updV_set hl v j)⟩ e2 e3) (hS0.put e2 e3 (hH.2 a _ he).1)
theorem zk_getN (hexec : p.tables.exec = Jvm.exec) (hb : c.code = cc) {own C host : String} {T : u_T} {N ci index : Nat} {Ts : List Cond} (hts : ∀ w ∈ Ts, w.before args s = true) (hin : ∀ w ∈ u_ws C T N, w ∈ Ts) (hown : s.vm.findClass own = some m.cls) (hK : va_K g.1 vwCl (zk_ty g) s) (hH : zk_H g z M H) {fs : List Value} (he : M a = some (.inr (ci, fs))) (hc : vwCl[ci]? = some (C, T, N)) (k : Nat) (hk : k < N) (hlink : (Cond.fieldLinkNest own index (T k).1 (T k).2.1 (T k).2.2.1 host).before args s = true) {v : Value} (hv : fs[k]? = some v) (hdg : decode cc pc = .ok (.getfield index, 3))
    (kk : W p l e R s m args below meth c H locs cells slots Q (F0 m (pc + 3) ls (v :: rest))) : W p l e R s m args below meth c H locs cells slots Q (F0 m pc ls (.ref a :: rest)) :=
  va_getN hexec hb hts hin hown hK (zk_one hH he) 0 rfl hc k hk hlink (fun _ h => h) hv hdg kk
theorem zk_putN (hexec : p.tables.exec = Jvm.exec) (hb : c.code = cc) {own C host : String} {T : u_T} {N ci index : Nat} {Ts : List Cond} (hts : ∀ w ∈ Ts, w.before args s = true) (hin : ∀ w ∈ u_ws C T N, w ∈ Ts) (ty0 : Nat → FieldType) (hty : ∀ k, k < N → parseFieldDescriptor (T k).2.2.1 = some (ty0 k)) (hnm : ∀ a, a < N → ∀ b, b < N → a ≠ b → (T a).2.1 ≠ (T b).2.1) (hown : s.vm.findClass own = some m.cls) (hK : va_K g.1 vwCl (zk_ty g) s) (hH : zk_H g z M H) (hS0 : va_S (fun q => z ≤ q) H0 H locs) {fs : List Value} (he : M a = some (.inr (ci, fs))) (hc : vwCl[ci]? = some (C, T, N)) (k : Nat) (hk : k < N) (hlink : (Cond.fieldLinkNest own index (T k).1 (T k).2.1 (T k).2.2.1 host).before args s = true) (hfin : (T k).2.2.2 = false) {v : Value} (hn : narrow (ty0 k) v = v) (hfit : fits (ty0 k) v = true) (hl : k < fs.length)
    (hdg : decode cc pc = .ok (.putfield index, 3)) (kk : ∀ (H1 : Heap) (locs1 : List Loc), zk_H g z (zk_up M a (.inr (ci, fs.set k v))) H1 → va_S (fun q => z ≤ q) H0 H1 locs1 → W p l e R s m args below meth c H1 locs1 cells slots Q (F0 m (pc + 3) ls rest)) : W p l e R s m args below meth c H locs cells slots Q (F0 m pc ls (v :: .ref a :: rest)) := by
  have hap := va_apart (own := own) hts hin ty0 hty hnm hK hc
  obtain ⟨r, h1, cell, q1, q2, q3, q4⟩ := (hH.2 a _ he).2
  have hr : r = (C, T, N) := Option.some.inj (h1.symm.trans hc)
  subst hr
  obtain ⟨hS, hfc, kC, hkC, hkind⟩ := hK.1 ci _ hc
  obtain ⟨cf, kf, fi, f, hi, hsl⟩ := hS k hk
  have hlay := hts _ (hin _ (u_in_lay hk))
  unfold u_lay at hlay
  rw [if_neg (by rw [hfin]; decide)] at hlay
  have hst := (u_facts hfc hkC (u_lays hts hin hk) hi).1
  have h6 := u_store hfc hkC hkind hlay hi (hty k hk) hn hfit
  refine va_WputK hexec hb (f := f) hown hlink hi hst (by rw [q2]; exact h6) q1 q3 (by rw [hsl]; exact k2_hasslot (q4 k hk)) rfl rfl hdg fun H' e1 e2 e3 => ?_
  rw [hsl] at e1 ⊢
  exact kk H' _ (zk_set hH he ⟨_, hc, t_OB.to (V := updV (vp_V fs) k v) ⟨_, e1, q2, q3, t_set q4 hap hk v⟩ (fun j _ => vp_updV_set hl v j)⟩ e2 e3) (hS0.put e2 e3 (hH.2 a _ he).1)
theorem zk_putF (hexec : p.tables.exec = Jvm.exec) (hb : c.code = cc) {own C : String} {T : u_T} {N ci index : Nat} {Ts : List Cond} (hts : ∀ w ∈ Ts, w.before args s = true) (hin : ∀ w ∈ u_ws C T N, w ∈ Ts) (ty0 : Nat → FieldType) (hty : ∀ k, k < N → parseFieldDescriptor (T k).2.2.1 = some (ty0 k)) (hnm : ∀ a, a < N → ∀ b, b < N → a ≠ b → (T a).2.1 ≠ (T b).2.1) (hown : s.vm.findClass own = some m.cls) (hK : va_K g.1 vwCl (zk_ty g) s) (hH : zk_H g z M H) (hS0 : va_S (fun q => z ≤ q) H0 H locs) {fs : List Value} (he : M a = some (.inr (ci, fs))) (hc : vwCl[ci]? = some (C, T, N)) (k : Nat) (hk : k < N) (hlink : (Cond.fieldLink own index (T k).1 (T k).2.1 (T k).2.2.1).before args s = true) (hfin : (T k).2.2.2 = true) (hin2 : meth.name = "<init>") (hdecl : (T k).1 = own) {v : Value} (hn : narrow (ty0 k) v = v) (hfit : fits (ty0 k) v = true) (hl : k < fs.length)
    (hdg : decode cc pc = .ok (.putfield index, 3)) (kk : ∀ (H1 : Heap) (locs1 : List Loc), zk_H g z (zk_up M a (.inr (ci, fs.set k v))) H1 → va_S (fun q => z ≤ q) H0 H1 locs1 → W p l e R s m args below meth c H1 locs1 cells slots Q (F0 m (pc + 3) ls rest)) : W p l e R s m args below meth c H locs cells slots Q (F0 m pc ls (v :: .ref a :: rest)) := by
  have hap := va_apart (own := own) hts hin ty0 hty hnm hK hc
  obtain ⟨r, h1, cell, q1, q2, q3, q4⟩ := (hH.2 a _ he).2
  have hr : r = (C, T, N) := Option.some.inj (h1.symm.trans hc)
  subst hr
  obtain ⟨hS, hfc, kC, hkC, hkind⟩ := hK.1 ci _ hc
  obtain ⟨cf, kf, fi, f, hi, hsl⟩ := hS k hk
  have hlay := hts _ (hin _ (u_in_lay hk))
  unfold u_lay at hlay
  rw [if_pos hfin] at hlay
  have hst := (u_facts hfc hkC (u_lays hts hin hk) hi).1
  have hcf : m.cls = cf := by
    obtain ⟨_, _, c', _, _, _, -, -, hf', -, -, -, hown2, -⟩ := Cond.laysFinal_spec hlay
    have e1 : c' = cf := by have := hi.symm.trans hf'; simp at this; exact this.1.symm
    rw [hdecl] at hown2
    rw [← e1]; exact Option.some.inj (hown.symm.trans hown2)
  have h6 := u_fits hfc hkC hkind (Or.inr hlay) hi (hty k hk) hn hfit
  refine W.putFinK hexec hb hown hlink hi hst hcf hin2 (by rw [q2]; exact h6) q1 q3 (by rw [hsl]; exact k2_hasslot (q4 k hk)) rfl rfl hdg fun H' e1 e2 e3 => ?_
  rw [hsl] at e1 ⊢
  exact kk H' _ (zk_set hH he ⟨_, hc, t_OB.to (V := updV (vp_V fs) k v) ⟨_, e1, q2, q3, t_set q4 hap hk v⟩ (fun j _ => vp_updV_set hl v j)⟩ e2 e3) (hS0.put e2 e3 (hH.2 a _ he).1)
theorem zk_lald (hexec : p.tables.exec = Jvm.exec) (hb : c.code = cc) (hK : va_K g.1 vwCl (zk_ty g) s) (hH : zk_H g z M H) {n : Nat} {f : Nat → Int64} (he : M a = some (zk_aJ g n f)) {i : Int32} (hin : vp_in i n) (hdg : decode cc pc = .ok (.laload, 1))
    (kk : W p l e R s m args below meth c H locs cells slots Q (F0 m (pc + 1) ls (.long (f i.toNatClampNeg) :: rest))) : W p l e R s m args below meth c H locs cells slots Q (F0 m pc ls (.int i :: .ref a :: rest)) :=
  va_lald hexec hb hK (zk_one hH he) 0 0 rfl rfl hin hdg kk
theorem zk_iald (hexec : p.tables.exec = Jvm.exec) (hb : c.code = cc) (hK : va_K g.1 vwCl (zk_ty g) s) (hH : zk_H g z M H) {n : Nat} {f : Nat → Int32} (he : M a = some (zk_aI g n f)) {i : Int32} (hin : vp_in i n) (hdg : decode cc pc = .ok (.iaload, 1))
    (kk : W p l e R s m args below meth c H locs cells slots Q (F0 m (pc + 1) ls (.int (f i.toNatClampNeg) :: rest))) : W p l e R s m args below meth c H locs cells slots Q (F0 m pc ls (.int i :: .ref a :: rest)) :=
  va_iald hexec hb hK (zk_one hH he) 0 1 rfl rfl hin hdg kk
theorem zk_aldP (hexec : p.tables.exec = Jvm.exec) (hb : c.code = cc) (hK : va_K g.1 vwCl (zk_ty g) s) (hH : zk_H g z M H) {n : Nat} {f : Nat → Option Nat} (he : M a = some (zk_aP g n f)) {i : Int32} (hin : vp_in i n) (hdg : decode cc pc = .ok (.aaload, 1))
    (kk : W p l e R s m args below meth c H locs cells slots Q (F0 m (pc + 1) ls (va_rf (f i.toNatClampNeg) :: rest))) : W p l e R s m args below meth c H locs cells slots Q (F0 m pc ls (.int i :: .ref a :: rest)) :=
  va_aldq hexec hb hK (zk_one hH he) 0 2 rfl rfl hin hdg kk
theorem zk_aldQ (hexec : p.tables.exec = Jvm.exec) (hb : c.code = cc) (hK : va_K g.1 vwCl (zk_ty g) s) (hH : zk_H g z M H) {n : Nat} {f : Nat → Option Nat} (he : M a = some (zk_aQ g n f)) {i : Int32} (hin : vp_in i n) (hdg : decode cc pc = .ok (.aaload, 1))
    (kk : W p l e R s m args below meth c H locs cells slots Q (F0 m (pc + 1) ls (va_rf (f i.toNatClampNeg) :: rest))) : W p l e R s m args below meth c H locs cells slots Q (F0 m pc ls (.int i :: .ref a :: rest)) :=
  va_aldq hexec hb hK (zk_one hH he) 0 3 rfl rfl hin hdg kk
theorem zk_alen (hexec : p.tables.exec = Jvm.exec) (hb : c.code = cc) (hK : va_K g.1 vwCl (zk_ty g) s) (hH : zk_H g z M H) (t0 : Nat) {cA : ClassId} {x : vp_A} (he : M a = some (.inl (cA, x))) {ty : FieldType} (ht : (zk_ty g)[t0]? = some (cA, ty)) {v : Int32} (hv : Int32.ofNat x.1 = v) (hdg : decode cc pc = .ok (.arraylength, 1))
    (kk : W p l e R s m args below meth c H locs cells slots Q (F0 m (pc + 1) ls (.int v :: rest))) : W p l e R s m args below meth c H locs cells slots Q (F0 m pc ls (.ref a :: rest)) :=
  va_alen hexec hb hK (zk_one hH he) 0 t0 rfl ht hv hdg kk
theorem zk_last (hexec : p.tables.exec = Jvm.exec) (hb : c.code = cc) (hK : va_K g.1 vwCl (zk_ty g) s) (hH : zk_H g z M H) (hS : va_S (fun q => z ≤ q) H0 H locs) {n : Nat} {f : Nat → Int64} (he : M a = some (zk_aJ g n f)) {i : Int32} {x : Int64} (hin : vp_in i n) (hdg : decode cc pc = .ok (.lastore, 1))
    (kk : ∀ (H1 : Heap) (locs1 : List Loc), zk_H g z (zk_up M a (zk_aJ g n (vp_updL f i.toNatClampNeg x))) H1 → va_S (fun q => z ≤ q) H0 H1 locs1 → W p l e R s m args below meth c H1 locs1 cells slots Q (F0 m (pc + 1) ls rest)) : W p l e R s m args below meth c H locs cells slots Q (F0 m pc ls (.long x :: .int i :: .ref a :: rest)) := by
  refine W.last hexec hb ((hH.2 a _ he).2) ((hK.2 0 _ rfl).1 n (fun j => .long (f j))) (fun q => by cases q) (by show ¬ (i < 0 ∨ (arrV _ _ _).slots.size ≤ _); rw [arrV_size]; exact hin) rfl rfl hdg fun H1 e z1 oq => ?_
  refine kk H1 _ (zk_set hH he ?_ z1 oq) (hS.put z1 oq (hH.2 a _ he).1)
  show H1[a]? = some (vp_cell _ _)
  rw [e]
  rw [vp_cell_l, vp_cell_l, arrV_store]
  congr 2
  funext q
  by_cases hq : q = i.toNatClampNeg
  · subst hq
    simp [updV, vp_updL]
  · simp [updV, vp_updL, hq]
theorem zk_iast (hexec : p.tables.exec = Jvm.exec) (hb : c.code = cc) (hK : va_K g.1 vwCl (zk_ty g) s) (hH : zk_H g z M H) (hS : va_S (fun q => z ≤ q) H0 H locs) {n : Nat} {f : Nat → Int32} (he : M a = some (zk_aI g n f)) {i : Int32} {x : Int32} (hin : vp_in i n) (hdg : decode cc pc = .ok (.iastore, 1))
    (kk : ∀ (H1 : Heap) (locs1 : List Loc), zk_H g z (zk_up M a (zk_aI g n (upd f i.toNatClampNeg x))) H1 → va_S (fun q => z ≤ q) H0 H1 locs1 → W p l e R s m args below meth c H1 locs1 cells slots Q (F0 m (pc + 1) ls rest)) : W p l e R s m args below meth c H locs cells slots Q (F0 m pc ls (.int x :: .int i :: .ref a :: rest)) := by
  refine W.iast hexec hb ((hH.2 a _ he).2) ((hK.2 1 _ rfl).1 n (fun j => .int (f j))) (fun q => by cases q) (by show ¬ (i < 0 ∨ (arrV _ _ _).slots.size ≤ _); rw [arrV_size]; exact hin) rfl rfl hdg fun H1 e z1 oq => ?_
  refine kk H1 _ (zk_set hH he ?_ z1 oq) (hS.put z1 oq (hH.2 a _ he).1)
  show H1[a]? = some (vp_cell _ _)
  rw [e]
  rw [vp_cell_i, vp_cell_i, arrV_store]
  congr 2
  funext q
  by_cases hq : q = i.toNatClampNeg
  · subst hq
    simp [updV, upd]
  · simp [updV, upd, hq]
theorem zk_astq (hexec : p.tables.exec = Jvm.exec) (hb : c.code = cc) (hK : va_K g.1 vwCl (zk_ty g) s) (hH : zk_H g z M H) (hS : va_S (fun q => z ≤ q) H0 H locs) (t0 ci : Nat) {cA : ClassId} {r : vw_C} {n v : Nat} {vs : List Value} {f : Nat → Option Nat} (he : M a = some (.inl (cA, n, .inr (.inr (.inr (.inr f)))))) (ht : (zk_ty g)[t0]? = some (cA, .object r.1)) (hv : M v = some (.inr (ci, vs))) (hc : vwCl[ci]? = some r) {i : Int32} (hin : vp_in i n) (hdg : decode cc pc = .ok (.aastore, 1))
    (kk : ∀ (H1 : Heap) (locs1 : List Loc), zk_H g z (zk_up M a (.inl (cA, n, .inr (.inr (.inr (.inr (va_up f i.toNatClampNeg (some v)))))))) H1 → va_S (fun q => z ≤ q) H0 H1 locs1 → W p l e R s m args below meth c H1 locs1 cells slots Q (F0 m (pc + 1) ls rest)) : W p l e R s m args below meth c H locs cells slots Q (F0 m pc ls (.ref v :: .int i :: .ref a :: rest)) := by
  have hlt : i.toNatClampNeg < n := Nat.not_le.mp fun q => hin (Or.inr q)
  have h0 : ¬ i < 0 := fun q => hin (Or.inl q)
  obtain ⟨r', hr', cellV, g1, g2, g3, -⟩ := (hH.2 v _ hv).2
  have hcls := (hK.1 ci r hc).2
  obtain ⟨kA, comp, k1, k2, k3, -⟩ := (hK.2 t0 _ ht).2
  have hcomp : comp = g.1.1 ci := Option.some.inj (k3.symm.trans hcls.1)
  subst hcomp
  obtain ⟨kC, hkC, -⟩ := hcls.2
  refine W.aast hexec hb ((hH.2 a _ he).2) (fun q h => by cases h) (fun h => by cases h) k1 k2 rfl hkC ⟨h0, by show _ < (arrV _ _ _).slots.size; rw [arrV_size]; exact hlt⟩ g1 (fun q h => by rw [g3] at h; cases h) (by rw [g2]; exact hkC) (by rw [g2]; exact va_assign hcls) rfl rfl hdg fun H1 e z1 oq => ?_
  refine kk H1 _ (zk_set hH he ?_ z1 oq) (hS.put z1 oq (hH.2 a _ he).1)
  show H1[a]? = some (vp_cell _ _)
  rw [e]
  rw [vp_cell_q, vp_cell_q, arrV_store]
  congr 2
  funext q
  by_cases hq : q = i.toNatClampNeg
  · subst hq
    simp [updV, va_up, va_rf]
  · simp [updV, va_up, hq]
theorem zk_new (hexec : p.tables.exec = Jvm.exec) (hb : c.code = cc) {own C : String} {T : u_T} {N ci index : Nat} {Ts : List Cond} (hts : ∀ w ∈ Ts, w.before args s = true) (hin : ∀ w ∈ u_ws C T N, w ∈ Ts) (ty : Nat → FieldType) (hty : ∀ k, k < N → parseFieldDescriptor (T k).2.2.1 = some (ty k)) (hown : s.vm.findClass own = some m.cls) (hcl : (Cond.classLink own index C).before args s = true) (hinst : (Cond.instantiable C N).before args s = true) (hini : (Cond.initialized C).before args s = true)
    (hK : va_K g.1 vwCl (zk_ty g) s) (hH : zk_H g z M H) (hS : va_S (fun q => z ≤ q) H0 H locs) (hc : vwCl[ci]? = some (C, T, N)) {fs : List Value} (hfs : ∀ j, j < N → defaultValue (ty j) = vp_V fs j) (hcells : cells + 1 ≤ R.cells) (hslots : slots + N ≤ R.slots) (hdg : decode cc pc = .ok (.new index, 3))
    (kk : ∀ (q : Nat) (H1 : Heap), M q = none → zk_H g z (zk_up M q (.inr (ci, fs))) H1 → va_S (fun q => z ≤ q) H0 H1 locs →
      W p l e R s m args below meth c H1 locs (cells + 1) (slots + N) Q (F0 m (pc + 3) ls (.ref q :: rest))) : W p l e R s m args below meth c H locs cells slots Q (F0 m pc ls rest) := by
  have hKn := hK.1 ci _ hc
  refine W.newcK hexec hb hown hcl hinst hini rfl hdg hcells hslots hKn.2.1 rfl fun H1 kC hkC e1 z1 o1 => ?_
  refine kk H.size H1 (zk_fresh hH) (zk_add hH ?_ z1 o1) ⟨Nat.le_trans hS.1 (by omega), fun x h1 h2 => (o1 x (Nat.lt_of_lt_of_le h1 hS.1)).trans (hS.2.1 x h1 h2), hS.2.2⟩
  exact ⟨_, hc, (u_born ty hts hin hKn hkC e1 hty).to hfs⟩
theorem zk_newa (hexec : p.tables.exec = Jvm.exec) (hb : c.code = cc) {atype : ArrayType} (harr : (Cond.arrayClass (newarray.typeOf atype)).before args s = true) {ty : FieldType} (hty : newarray.typeOf atype = ty) (hK : va_K g.1 vwCl (zk_ty g) s) (hH : zk_H g z M H) (hS : va_S (fun q => z ≤ q) H0 H locs) (t0 : Nat) {cA : ClassId} (ht : (zk_ty g)[t0]? = some (cA, ty))
    {n : Int32} {N' : Nat} {a0 : vp_A} (ha : vp_cell cA a0 = arrV cA N' (fun _ => defaultValue ty)) (hn : ¬ n < 0) (hN : n.toNatClampNeg = N') (hbytes : N' * componentBytes ty ≤ 536870912) (hcells : cells + 1 ≤ R.cells) (hslots : slots + N' ≤ R.slots) (hdg : decode cc pc = .ok (.newarray atype, 2))
    (kk : ∀ (q : Nat) (H1 : Heap), M q = none → zk_H g z (zk_up M q (.inl (cA, a0))) H1 → va_S (fun q => z ≤ q) H0 H1 locs →
      W p l e R s m args below meth c H1 locs (cells + 1) (slots + N') Q (F0 m (pc + 2) ls (.ref q :: rest))) : W p l e R s m args below meth c H locs cells slots Q (F0 m pc ls (.int n :: rest)) := by
  subst hty
  refine va_newaK hexec hb harr rfl hdg rfl hn hN hbytes hcells hslots rfl fun H1 cA' e1 z1 o1 hAr hNm => ?_
  have hcA : cA' = cA := by
    have h2 := (hK.2 t0 _ ht).2
    have h3 : s.vm.findClass ("[" ++ (newarray.typeOf atype).toString) = some cA := by cases atype <;> exact h2
    exact Option.some.inj (hNm.symm.trans h3)
  subst hcA
  refine kk H.size H1 (zk_fresh hH) (zk_add hH ?_ z1 o1) ⟨Nat.le_trans hS.1 (by omega), fun x h1 h2 => (o1 x (Nat.lt_of_lt_of_le h1 hS.1)).trans (hS.2.1 x h1 h2), hS.2.2⟩
  show H1[H.size]? = some (vp_cell _ _)
  rw [ha]
  exact e1
theorem zk_newq (hexec : p.tables.exec = Jvm.exec) (hb : c.code = cc) {own C : String} {index : Nat} (hown : s.vm.findClass own = some m.cls) (hclink : (Cond.classLink own index C).before args s = true) (hover : va_AO C s) (hK : va_K g.1 vwCl (zk_ty g) s) (hH : zk_H g z M H) (hS : va_S (fun q => z ≤ q) H0 H locs) (t0 : Nat) {cA : ClassId} (ht : (zk_ty g)[t0]? = some (cA, .object C))
    {n : Int32} {N' : Nat} (hn : ¬ n < 0) (hN : n.toNatClampNeg = N') (hbytes : N' * 4 ≤ 536870912) (hcells : cells + 1 ≤ R.cells) (hslots : slots + N' ≤ R.slots) (hdg : decode cc pc = .ok (.anewarray index, 3))
    (kk : ∀ (q : Nat) (H1 : Heap), M q = none → zk_H g z (zk_up M q (.inl (cA, N', .inr (.inr (.inr (.inr (fun _ => none))))))) H1 → va_S (fun q => z ≤ q) H0 H1 locs →
      W p l e R s m args below meth c H1 locs (cells + 1) (slots + N') Q (F0 m (pc + 3) ls (.ref q :: rest))) : W p l e R s m args below meth c H locs cells slots Q (F0 m pc ls (.int n :: rest)) := by
  subst hN
  refine W.anew hexec hb hown hclink (va_AO.use hover) rfl hdg rfl hn hbytes hcells hslots fun cA' kA comp f1 f2 f3 f4 => ?_
  have hcA : cA' = cA := by
    obtain ⟨kA2, comp2, g1, g2, g3, g4⟩ := (hK.2 t0 _ ht).2
    exact Option.some.inj (f1.symm.trans g4)
  subst hcA
  generalize hH1 : H.push ({ cls := cA', slots := Array.replicate n.toNatClampNeg .null, vm := .none } : Cell) = H1
  have z1 : H1.size = H.size + 1 := by rw [← hH1, Array.size_push]
  have e1 : H1[H.size]? = some (arrV cA' n.toNatClampNeg (fun _ => .null)) := by rw [← hH1, Array.getElem?_push_size, ← arrV_new]
  have o1 : ∀ q : Nat, q < H.size → H1[q]? = H[q]? := fun q hq => by rw [← hH1, Array.getElem?_push, if_neg (Nat.ne_of_lt hq)]
  refine kk H.size H1 (zk_fresh hH) (zk_add hH ?_ z1 o1) ⟨Nat.le_trans hS.1 (by omega), fun x h1 h2 => (o1 x (Nat.lt_of_lt_of_le h1 hS.1)).trans (hS.2.1 x h1 h2), hS.2.2⟩
  show H1[H.size]? = some (vp_cell _ _)
  rw [vp_cell_q]
  exact e1
-- long compares with the branch behind
theorem zk_lc_eq (hexec : p.tables.exec = Jvm.exec) (hb : c.code = cc) {x y : Int64} {off : Int} {tgt : Nat} (hd1 : decode cc pc = .ok (.lcmp, 1)) (hd2 : decode cc (pc + 1) = .ok (.ifCond .eq off, 3)) (ht : ((pc + 1 : Nat) : Int) + off = (tgt : Int))
    (kt : x = y → W p l e R s m args below meth c H locs cells slots Q (F0 m tgt ls rest)) (kf : ¬ x = y → W p l e R s m args below meth c H locs cells slots Q (F0 m (pc + 1 + 3) ls rest)) : W p l e R s m args below meth c H locs cells slots Q (F0 m pc ls (.long y :: .long x :: rest)) :=
  W.lcmp hexec hb hd1 (lv_if_eq hexec hb hd2 ht (fun h => kt ((lg_cmp_eq x y).mp h)) (fun h => kf (fun q => h ((lg_cmp_eq x y).mpr q))))
theorem zk_lc_ne (hexec : p.tables.exec = Jvm.exec) (hb : c.code = cc) {x y : Int64} {off : Int} {tgt : Nat} (hd1 : decode cc pc = .ok (.lcmp, 1)) (hd2 : decode cc (pc + 1) = .ok (.ifCond .ne off, 3)) (ht : ((pc + 1 : Nat) : Int) + off = (tgt : Int))
    (kt : ¬ x = y → W p l e R s m args below meth c H locs cells slots Q (F0 m tgt ls rest)) (kf : x = y → W p l e R s m args below meth c H locs cells slots Q (F0 m (pc + 1 + 3) ls rest)) : W p l e R s m args below meth c H locs cells slots Q (F0 m pc ls (.long y :: .long x :: rest)) :=
  W.lcmp hexec hb hd1 (lv_if_ne hexec hb hd2 ht (fun h => kt (fun q => h ((lg_cmp_eq x y).mpr q))) (fun h => kf ((lg_cmp_eq x y).mp h)))
theorem zk_lc_lt (hexec : p.tables.exec = Jvm.exec) (hb : c.code = cc) {x y : Int64} {off : Int} {tgt : Nat} (hd1 : decode cc pc = .ok (.lcmp, 1)) (hd2 : decode cc (pc + 1) = .ok (.ifCond .lt off, 3)) (ht : ((pc + 1 : Nat) : Int) + off = (tgt : Int))
    (kt : x < y → W p l e R s m args below meth c H locs cells slots Q (F0 m tgt ls rest)) (kf : ¬ x < y → W p l e R s m args below meth c H locs cells slots Q (F0 m (pc + 1 + 3) ls rest)) : W p l e R s m args below meth c H locs cells slots Q (F0 m pc ls (.long y :: .long x :: rest)) :=
  W.lcmp hexec hb hd1 (lv_if_lt hexec hb hd2 ht (fun h => kt ((lg_cmp_lt x y).mp h)) (fun h => kf (fun q => h ((lg_cmp_lt x y).mpr q))))
theorem zk_lc_ge (hexec : p.tables.exec = Jvm.exec) (hb : c.code = cc) {x y : Int64} {off : Int} {tgt : Nat} (hd1 : decode cc pc = .ok (.lcmp, 1)) (hd2 : decode cc (pc + 1) = .ok (.ifCond .ge off, 3)) (ht : ((pc + 1 : Nat) : Int) + off = (tgt : Int))
    (kt : y ≤ x → W p l e R s m args below meth c H locs cells slots Q (F0 m tgt ls rest)) (kf : ¬ y ≤ x → W p l e R s m args below meth c H locs cells slots Q (F0 m (pc + 1 + 3) ls rest)) : W p l e R s m args below meth c H locs cells slots Q (F0 m pc ls (.long y :: .long x :: rest)) :=
  W.lcmp hexec hb hd1 (lv_if_ge hexec hb hd2 ht (fun h => kt ((lg_cmp_ge x y).mp h)) (fun h => kf (fun q => h ((lg_cmp_ge x y).mpr q))))
theorem zk_lc_gt (hexec : p.tables.exec = Jvm.exec) (hb : c.code = cc) {x y : Int64} {off : Int} {tgt : Nat} (hd1 : decode cc pc = .ok (.lcmp, 1)) (hd2 : decode cc (pc + 1) = .ok (.ifCond .gt off, 3)) (ht : ((pc + 1 : Nat) : Int) + off = (tgt : Int))
    (kt : y < x → W p l e R s m args below meth c H locs cells slots Q (F0 m tgt ls rest)) (kf : ¬ y < x → W p l e R s m args below meth c H locs cells slots Q (F0 m (pc + 1 + 3) ls rest)) : W p l e R s m args below meth c H locs cells slots Q (F0 m pc ls (.long y :: .long x :: rest)) :=
  W.lcmp hexec hb hd1 (lv_if_gt hexec hb hd2 ht (fun h => kt ((lg_cmp_gt x y).mp h)) (fun h => kf (fun q => h ((lg_cmp_gt x y).mpr q))))
theorem zk_lc_le (hexec : p.tables.exec = Jvm.exec) (hb : c.code = cc) {x y : Int64} {off : Int} {tgt : Nat} (hd1 : decode cc pc = .ok (.lcmp, 1)) (hd2 : decode cc (pc + 1) = .ok (.ifCond .le off, 3)) (ht : ((pc + 1 : Nat) : Int) + off = (tgt : Int))
    (kt : x ≤ y → W p l e R s m args below meth c H locs cells slots Q (F0 m tgt ls rest)) (kf : ¬ x ≤ y → W p l e R s m args below meth c H locs cells slots Q (F0 m (pc + 1 + 3) ls rest)) : W p l e R s m args below meth c H locs cells slots Q (F0 m pc ls (.long y :: .long x :: rest)) :=
  W.lcmp hexec hb hd1 (lv_if_le hexec hb hd2 ht (fun h => kt ((lg_cmp_le x y).mp h)) (fun h => kf (fun q => h ((lg_cmp_le x y).mpr q))))
-- ends of a method that only reads
theorem zk_lretS {post : Int64 → Prop} {v : Int64} (hexec : p.tables.exec = Jvm.exec) (hb : c.code = cc) (hr : meth.sig.returnType = some .long) (hlocks : meth.locks = false) (hp : post v) (hdg : decode cc pc = .ok (.lreturn, 1)) : W p l e R s m args below meth c s.heap [] 0 0 (MQ below (vp_Sl post) args s 0 0 (fun _ => False)) (F0 m pc ls [.long v]) :=
  W.lret hexec hb hr (fun _ ht _ => ⟨v, rfl, hp, ht⟩) (fun _ h => by cases h) hdg
theorem zk_zretS {post : Int32 → Prop} {v : Int32} {ty : FieldType} (hexec : p.tables.exec = Jvm.exec) (hb : c.code = cc) (hr : meth.sig.returnType = some ty) (hlocks : meth.locks = false) (hn : narrow ty (.int v) = .int v) (hp : post v) (hdg : decode cc pc = .ok (.ireturn, 1)) : W p l e R s m args below meth c s.heap [] 0 0 (MQ below (vp_Si post) args s 0 0 (fun _ => False)) (F0 m pc ls [.int v]) :=
  W.zret hexec hb hr hn (fun _ ht _ => ⟨v, rfl, hp, ht⟩) (fun _ h => by cases h) hdg
theorem zk_aretS {post : Option Nat → Prop} {r : Option Nat} {C : String} (hexec : p.tables.exec = Jvm.exec) (hb : c.code = cc) (hr : meth.sig.returnType = some (.object C)) (hlocks : meth.locks = false) (hp : post r) (hdg : decode cc pc = .ok (.areturn, 1)) : W p l e R s m args below meth c s.heap [] 0 0 (MQ below (va_Sq post) args s 0 0 (fun _ => False)) (F0 m pc ls [va_rf r]) :=
  W.aret hexec hb hr (Or.inl ⟨_, rfl⟩) (by cases r with | none => exact Or.inl rfl | some x => exact Or.inr ⟨x, rfl⟩) (fun _ ht _ => ⟨r, rfl, hp, ht⟩) (fun _ h => by cases h) hdg
-- ends of a method that writes
theorem zk_vret {post : zk_M → Prop} {mc ms : Nat} (hexec : p.tables.exec = Jvm.exec) (hb : c.code = cc) (hr : meth.sig.returnType = none) (hlocks : meth.locks = false) (hH : zk_H g z M H) (hS : va_S (fun q => z ≤ q) s.heap H locs) (hc : cells ≤ mc) (hs : slots ≤ ms) (hp : post M) (hdg : decode cc pc = .ok (.return_, 1)) : W p l e R s m args below meth c H locs cells slots (MQ below (va_Qv post (zk_B g z) (fun q => z ≤ q)) args s mc ms (fun q => z ≤ q)) (F0 m pc ls []) :=
  W.widen hc hs (W.vret hexec hb hr (fun t ht _ => ⟨⟨M, rfl, hp, by unfold zk_B; rw [ht]; exact hH⟩, hS.F ht⟩) hS.2.2 hdg)
theorem zk_lret {post : Int64 → zk_M → Prop} {v : Int64} {mc ms : Nat} (hexec : p.tables.exec = Jvm.exec) (hb : c.code = cc) (hr : meth.sig.returnType = some .long) (hlocks : meth.locks = false) (hH : zk_H g z M H) (hS : va_S (fun q => z ≤ q) s.heap H locs) (hc : cells ≤ mc) (hs : slots ≤ ms) (hp : post v M) (hdg : decode cc pc = .ok (.lreturn, 1)) : W p l e R s m args below meth c H locs cells slots (MQ below (va_Ql post (zk_B g z) (fun q => z ≤ q)) args s mc ms (fun q => z ≤ q)) (F0 m pc ls [.long v]) :=
  W.widen hc hs (W.lret hexec hb hr (fun t ht _ => ⟨⟨v, M, rfl, hp, by unfold zk_B; rw [ht]; exact hH⟩, hS.F ht⟩) hS.2.2 hdg)
theorem zk_zret {post : Int32 → zk_M → Prop} {v : Int32} {ty : FieldType} {mc ms : Nat} (hexec : p.tables.exec = Jvm.exec) (hb : c.code = cc) (hr : meth.sig.returnType = some ty) (hlocks : meth.locks = false) (hn : narrow ty (.int v) = .int v) (hH : zk_H g z M H) (hS : va_S (fun q => z ≤ q) s.heap H locs) (hc : cells ≤ mc) (hs : slots ≤ ms) (hp : post v M) (hdg : decode cc pc = .ok (.ireturn, 1)) : W p l e R s m args below meth c H locs cells slots (MQ below (va_Qi post (zk_B g z) (fun q => z ≤ q)) args s mc ms (fun q => z ≤ q)) (F0 m pc ls [.int v]) :=
  W.widen hc hs (W.zret hexec hb hr hn (fun t ht _ => ⟨⟨v, M, rfl, hp, by unfold zk_B; rw [ht]; exact hH⟩, hS.F ht⟩) hS.2.2 hdg)
-- calls of methods that write
variable {st0 : List Value} {av : Array Value} {mc ms : Nat}
theorem zk_callv {post : zk_M → Prop} (hr : va_Run p l e R s m args below meth c H locs cells slots mc ms (F0 m pc ls st0) rest (va_Qv post (zk_B g z) (fun q => z ≤ q) av) (fun q => z ≤ q)) (hS : va_S (fun q => z ≤ q) H0 H locs)
    (kk : ∀ (u : zk_M) (H1 : Heap) (locs1 : List Loc), zk_H g z u H1 → post u → va_S (fun q => z ≤ q) H0 H1 locs1 → W p l e R s m args below meth c H1 locs1 (cells + mc) (slots + ms) Q (F0 m (pc + 3) ls rest)) : W p l e R s m args below meth c H locs cells slots Q (F0 m pc ls st0) :=
  va_callv hr hS (fun _ _ h => h) (fun _ h => h) (fun u t H1 locs1 ht _ hp hB _ _ hS1 => kk u H1 locs1 (by unfold zk_B at hB; rw [ht] at hB; exact hB) hp hS1)
theorem zk_calli {post : Int32 → zk_M → Prop} (hr : va_Run p l e R s m args below meth c H locs cells slots mc ms (F0 m pc ls st0) rest (va_Qi post (zk_B g z) (fun q => z ≤ q) av) (fun q => z ≤ q)) (hS : va_S (fun q => z ≤ q) H0 H locs)
    (kk : ∀ (r : Int32) (u : zk_M) (H1 : Heap) (locs1 : List Loc), zk_H g z u H1 → post r u → va_S (fun q => z ≤ q) H0 H1 locs1 → W p l e R s m args below meth c H1 locs1 (cells + mc) (slots + ms) Q (F0 m (pc + 3) ls (.int r :: rest))) : W p l e R s m args below meth c H locs cells slots Q (F0 m pc ls st0) :=
  va_calli hr hS (fun _ _ h => h) (fun _ h => h) (fun r u t H1 locs1 ht _ hp hB _ _ hS1 => kk r u H1 locs1 (by unfold zk_B at hB; rw [ht] at hB; exact hB) hp hS1)
theorem zk_calll {post : Int64 → zk_M → Prop} (hr : va_Run p l e R s m args below meth c H locs cells slots mc ms (F0 m pc ls st0) rest (va_Ql post (zk_B g z) (fun q => z ≤ q) av) (fun q => z ≤ q)) (hS : va_S (fun q => z ≤ q) H0 H locs)
    (kk : ∀ (r : Int64) (u : zk_M) (H1 : Heap) (locs1 : List Loc), zk_H g z u H1 → post r u → va_S (fun q => z ≤ q) H0 H1 locs1 → W p l e R s m args below meth c H1 locs1 (cells + mc) (slots + ms) Q (F0 m (pc + 3) ls (.long r :: rest))) : W p l e R s m args below meth c H locs cells slots Q (F0 m pc ls st0) :=
  va_calll hr hS (fun _ _ h => h) (fun _ h => h) (fun r u t H1 locs1 ht _ hp hB _ _ hS1 => kk r u H1 locs1 (by unfold zk_B at hB; rw [ht] at hB; exact hB) hp hS1)
end ZK

theorem zk_ne {M : zk_M} {a b : Nat} {x y : va_E} (ha : M a = some x) (hb : M b = some y) (h : x ≠ y) : a ≠ b := fun e => by
  subst e
  rw [ha] at hb
  exact h (Option.some.inj hb)
theorem zk_ne_none {M : zk_M} {a b : Nat} {x : va_E} (ha : M a = some x) (hb : M b = none) : a ≠ b := fun e => by
  subst e
  rw [ha] at hb
  cases hb
theorem zk_ne_ci {M : zk_M} {a b : Nat} {i j : Nat} {x y : List Value} (ha : M a = some (.inr (i, x))) (hb : M b = some (.inr (j, y))) (h : i ≠ j) : a ≠ b := zk_ne ha hb (fun e => h (by injection e with e; injection e))
theorem zk_ne_lr {M : zk_M} {a b : Nat} {x y} (ha : M a = some (.inl x)) (hb : M b = some (.inr y)) : a ≠ b := zk_ne ha hb (fun e => by cases e)
theorem zk_ne_rl {M : zk_M} {a b : Nat} {x y} (ha : M a = some (.inr x)) (hb : M b = some (.inl y)) : a ≠ b := zk_ne ha hb (fun e => by cases e)
theorem zk_fitR {C : String} (r : Option Nat) : fits (.object C) (va_rf r) = true := by cases r <;> rfl
theorem zk_narR {C : String} (r : Option Nat) : narrow (.object C) (va_rf r) = va_rf r := by cases r <;> rfl
section ZN
variable {p : Program} {l : Launch} {e : Env} {R : Room} {s : State} {m : MethodId} {args : Array Value} {below : List Frame} {meth : Method} {c : Code} {H : Heap} {locs : List Loc} {cells slots : Nat} {Q : State → Prop}
variable {cc : ByteArray} {pc : Nat} {ls : Array Slot} {rest : List Value}
theorem zk_astore_n (hexec : p.tables.exec = Jvm.exec) (hb : c.code = cc) {k : Fin 4} {i nL : Nat} {r : Option Nat} {lv lv' : List (Nat × Value)} (hdg : decode cc pc = .ok (.astore_n k, 1)) (hi : (k : Nat) = i) (h : lv_has ls nL lv) (hn : i < nL) (hl : (i, va_rf r) :: lv.filter (fun q => !(q.1 == i) && !(q.1 + 1 == i && q.2.category == 2)) = lv')
    (kk : ∀ ls' : Array Slot, lv_has ls' nL lv' → W p l e R s m args below meth c H locs cells slots Q (F0 m (pc + 1) ls' rest)) : W p l e R s m args below meth c H locs cells slots Q (F0 m pc ls (va_rf r :: rest)) := by
  cases r with
  | none => exact lv_astore_nN hexec hb hdg hi h hn hl kk
  | some x => exact lv_astore_n hexec hb hdg hi h hn hl kk
theorem zk_astore (hexec : p.tables.exec = Jvm.exec) (hb : c.code = cc) {i nL : Nat} {r : Option Nat} {lv lv' : List (Nat × Value)} (hdg : decode cc pc = .ok (.astore i, 2)) (h : lv_has ls nL lv) (hn : i < nL) (hl : (i, va_rf r) :: lv.filter (fun q => !(q.1 == i) && !(q.1 + 1 == i && q.2.category == 2)) = lv')
    (kk : ∀ ls' : Array Slot, lv_has ls' nL lv' → W p l e R s m args below meth c H locs cells slots Q (F0 m (pc + 2) ls' rest)) : W p l e R s m args below meth c H locs cells slots Q (F0 m pc ls (va_rf r :: rest)) := by
  cases r with
  | none => exact lv_astoreN hexec hb hdg h hn hl kk
  | some x => exact lv_astore hexec hb hdg h hn hl kk
end ZN
theorem zk_nf_0 {args : Array Value} {s : State} (h : zk_N s) : (Cond.fieldLinkNest "KegDeposits" 93 "KegDeposits$Kind" "shareParts" "J" "KegDeposits").before args s = true := zk_nfu h 0 rfl
theorem zk_nf_1 {args : Array Value} {s : State} (h : zk_N s) : (Cond.fieldLinkNest "KegDeposits" 120 "KegDeposits$Kind" "restParts" "J" "KegDeposits").before args s = true := zk_nfu h 1 rfl
theorem zk_nf_2 {args : Array Value} {s : State} (h : zk_N s) : (Cond.fieldLinkNest "KegDeposits$Kind" 15 "KegDeposits$Price" "day" "J" "KegDeposits").before args s = true := zk_nfu h 2 rfl
theorem zk_nf_3 {args : Array Value} {s : State} (h : zk_N s) : (Cond.fieldLinkNest "KegDeposits$Kind" 24 "KegDeposits$Price" "next" "LKegDeposits$Price;" "KegDeposits").before args s = true := zk_nfu h 3 rfl
theorem zk_nf_4 {args : Array Value} {s : State} (h : zk_N s) : (Cond.fieldLinkNest "KegDeposits$Kind" 21 "KegDeposits$Price" "cents" "J" "KegDeposits").before args s = true := zk_nfu h 4 rfl
theorem zk_nf_5 {args : Array Value} {s : State} (h : zk_N s) : (Cond.fieldLinkNest "KegDeposits$Party" 21 "KegDeposits$Layer" "kind" "LKegDeposits$Kind;" "KegDeposits").before args s = true := zk_nfu h 5 rfl
theorem zk_nf_6 {args : Array Value} {s : State} (h : zk_N s) : (Cond.fieldLinkNest "KegDeposits$Party" 25 "KegDeposits$Layer" "day" "J" "KegDeposits").before args s = true := zk_nfu h 6 rfl
theorem zk_nf_7 {args : Array Value} {s : State} (h : zk_N s) : (Cond.fieldLinkNest "KegDeposits$Party" 38 "KegDeposits$Layer" "cents" "J" "KegDeposits").before args s = true := zk_nfu h 7 rfl
theorem zk_nf_8 {args : Array Value} {s : State} (h : zk_N s) : (Cond.fieldLinkNest "KegDeposits$Party" 29 "KegDeposits$Layer" "pieces" "J" "KegDeposits").before args s = true := zk_nfu h 8 rfl
theorem zk_nf_9 {args : Array Value} {s : State} (h : zk_N s) : (Cond.fieldLinkNest "KegDeposits$Party" 16 "KegDeposits$Layer" "younger" "LKegDeposits$Layer;" "KegDeposits").before args s = true := zk_nfu h 9 rfl
theorem zk_nf_10 {args : Array Value} {s : State} (h : zk_N s) : (Cond.fieldLinkNest "KegDeposits" 140 "KegDeposits$Transfer" "day" "J" "KegDeposits").before args s = true := zk_nfu h 10 rfl
theorem zk_nf_11 {args : Array Value} {s : State} (h : zk_N s) : (Cond.fieldLinkNest "KegDeposits" 147 "KegDeposits$Transfer" "earlier" "LKegDeposits$Transfer;" "KegDeposits").before args s = true := zk_nfu h 11 rfl
theorem zk_nm_0 {s : State} (h : zk_N s) : va_Nw (.methodLinkNest "KegDeposits" 9 yX2_init "KegDeposits") s := zk_nmu h 0 rfl
theorem zk_nm_1 {s : State} (h : zk_N s) : va_Nw (.methodLinkNest "KegDeposits" 26 yX0_init "KegDeposits") s := zk_nmu h 1 rfl
end
section
/-! The state of one side (the class, or the reference): a tuple; zs_x reads a place, zs_x_ writes it. -/
abbrev zs_S : Type := Nat × Nat × Nat × Nat × Int64 × (Nat → Nat) × (Nat → Int64) × (Nat → Int64) × (Nat → Int64) × (Nat → Int64) × (Nat → Nat) × (Nat → Nat) × (Nat → Int64) × (Nat → Int64) × (Nat → Int64) × (Nat → Nat) × (Nat → Nat) × (Nat → Int64) × (Nat → Int64)
def zs_np (S : zs_S) : Nat := S.1
def zs_nk (S : zs_S) : Nat := S.2.1
def zs_nl (S : zs_S) : Nat := S.2.2.1
def zs_nc (S : zs_S) : Nat := S.2.2.2.1
def zs_ck (S : zs_S) : Int64 := S.2.2.2.2.1
def zs_pn (S : zs_S) : Nat → Nat := S.2.2.2.2.2.1
def zs_pd (S : zs_S) : Nat → Int64 := S.2.2.2.2.2.2.1
def zs_pc (S : zs_S) : Nat → Int64 := S.2.2.2.2.2.2.2.1
def zs_sh (S : zs_S) : Nat → Int64 := S.2.2.2.2.2.2.2.2.1
def zs_rs (S : zs_S) : Nat → Int64 := S.2.2.2.2.2.2.2.2.2.1
def zs_lp (S : zs_S) : Nat → Nat := S.2.2.2.2.2.2.2.2.2.2.1
def zs_lk (S : zs_S) : Nat → Nat := S.2.2.2.2.2.2.2.2.2.2.2.1
def zs_ll (S : zs_S) : Nat → Int64 := S.2.2.2.2.2.2.2.2.2.2.2.2.1
def zs_ld (S : zs_S) : Nat → Int64 := S.2.2.2.2.2.2.2.2.2.2.2.2.2.1
def zs_lc (S : zs_S) : Nat → Int64 := S.2.2.2.2.2.2.2.2.2.2.2.2.2.2.1
def zs_tp (S : zs_S) : Nat → Nat := S.2.2.2.2.2.2.2.2.2.2.2.2.2.2.2.1
def zs_tt (S : zs_S) : Nat → Nat := S.2.2.2.2.2.2.2.2.2.2.2.2.2.2.2.2.1
def zs_ta (S : zs_S) : Nat → Int64 := S.2.2.2.2.2.2.2.2.2.2.2.2.2.2.2.2.2.1
def zs_td (S : zs_S) : Nat → Int64 := S.2.2.2.2.2.2.2.2.2.2.2.2.2.2.2.2.2.2
def zs_np_ (S : zs_S) (v : Nat) : zs_S := (v, S.2.1, S.2.2.1, S.2.2.2.1, S.2.2.2.2.1, S.2.2.2.2.2.1, S.2.2.2.2.2.2.1, S.2.2.2.2.2.2.2.1, S.2.2.2.2.2.2.2.2.1, S.2.2.2.2.2.2.2.2.2.1, S.2.2.2.2.2.2.2.2.2.2.1, S.2.2.2.2.2.2.2.2.2.2.2.1, S.2.2.2.2.2.2.2.2.2.2.2.2.1, S.2.2.2.2.2.2.2.2.2.2.2.2.2.1, S.2.2.2.2.2.2.2.2.2.2.2.2.2.2.1, S.2.2.2.2.2.2.2.2.2.2.2.2.2.2.2.1, S.2.2.2.2.2.2.2.2.2.2.2.2.2.2.2.2.1, S.2.2.2.2.2.2.2.2.2.2.2.2.2.2.2.2.2.1, S.2.2.2.2.2.2.2.2.2.2.2.2.2.2.2.2.2.2)
def zs_nk_ (S : zs_S) (v : Nat) : zs_S := (S.1, v, S.2.2.1, S.2.2.2.1, S.2.2.2.2.1, S.2.2.2.2.2.1, S.2.2.2.2.2.2.1, S.2.2.2.2.2.2.2.1, S.2.2.2.2.2.2.2.2.1, S.2.2.2.2.2.2.2.2.2.1, S.2.2.2.2.2.2.2.2.2.2.1, S.2.2.2.2.2.2.2.2.2.2.2.1, S.2.2.2.2.2.2.2.2.2.2.2.2.1, S.2.2.2.2.2.2.2.2.2.2.2.2.2.1, S.2.2.2.2.2.2.2.2.2.2.2.2.2.2.1, S.2.2.2.2.2.2.2.2.2.2.2.2.2.2.2.1, S.2.2.2.2.2.2.2.2.2.2.2.2.2.2.2.2.1, S.2.2.2.2.2.2.2.2.2.2.2.2.2.2.2.2.2.1, S.2.2.2.2.2.2.2.2.2.2.2.2.2.2.2.2.2.2)
def zs_nl_ (S : zs_S) (v : Nat) : zs_S := (S.1, S.2.1, v, S.2.2.2.1, S.2.2.2.2.1, S.2.2.2.2.2.1, S.2.2.2.2.2.2.1, S.2.2.2.2.2.2.2.1, S.2.2.2.2.2.2.2.2.1, S.2.2.2.2.2.2.2.2.2.1, S.2.2.2.2.2.2.2.2.2.2.1, S.2.2.2.2.2.2.2.2.2.2.2.1, S.2.2.2.2.2.2.2.2.2.2.2.2.1, S.2.2.2.2.2.2.2.2.2.2.2.2.2.1, S.2.2.2.2.2.2.2.2.2.2.2.2.2.2.1, S.2.2.2.2.2.2.2.2.2.2.2.2.2.2.2.1, S.2.2.2.2.2.2.2.2.2.2.2.2.2.2.2.2.1, S.2.2.2.2.2.2.2.2.2.2.2.2.2.2.2.2.2.1, S.2.2.2.2.2.2.2.2.2.2.2.2.2.2.2.2.2.2)
def zs_nc_ (S : zs_S) (v : Nat) : zs_S := (S.1, S.2.1, S.2.2.1, v, S.2.2.2.2.1, S.2.2.2.2.2.1, S.2.2.2.2.2.2.1, S.2.2.2.2.2.2.2.1, S.2.2.2.2.2.2.2.2.1, S.2.2.2.2.2.2.2.2.2.1, S.2.2.2.2.2.2.2.2.2.2.1, S.2.2.2.2.2.2.2.2.2.2.2.1, S.2.2.2.2.2.2.2.2.2.2.2.2.1, S.2.2.2.2.2.2.2.2.2.2.2.2.2.1, S.2.2.2.2.2.2.2.2.2.2.2.2.2.2.1, S.2.2.2.2.2.2.2.2.2.2.2.2.2.2.2.1, S.2.2.2.2.2.2.2.2.2.2.2.2.2.2.2.2.1, S.2.2.2.2.2.2.2.2.2.2.2.2.2.2.2.2.2.1, S.2.2.2.2.2.2.2.2.2.2.2.2.2.2.2.2.2.2)
def zs_ck_ (S : zs_S) (v : Int64) : zs_S := (S.1, S.2.1, S.2.2.1, S.2.2.2.1, v, S.2.2.2.2.2.1, S.2.2.2.2.2.2.1, S.2.2.2.2.2.2.2.1, S.2.2.2.2.2.2.2.2.1, S.2.2.2.2.2.2.2.2.2.1, S.2.2.2.2.2.2.2.2.2.2.1, S.2.2.2.2.2.2.2.2.2.2.2.1, S.2.2.2.2.2.2.2.2.2.2.2.2.1, S.2.2.2.2.2.2.2.2.2.2.2.2.2.1, S.2.2.2.2.2.2.2.2.2.2.2.2.2.2.1, S.2.2.2.2.2.2.2.2.2.2.2.2.2.2.2.1, S.2.2.2.2.2.2.2.2.2.2.2.2.2.2.2.2.1, S.2.2.2.2.2.2.2.2.2.2.2.2.2.2.2.2.2.1, S.2.2.2.2.2.2.2.2.2.2.2.2.2.2.2.2.2.2)
def zs_pn_ (S : zs_S) (v : Nat → Nat) : zs_S := (S.1, S.2.1, S.2.2.1, S.2.2.2.1, S.2.2.2.2.1, v, S.2.2.2.2.2.2.1, S.2.2.2.2.2.2.2.1, S.2.2.2.2.2.2.2.2.1, S.2.2.2.2.2.2.2.2.2.1, S.2.2.2.2.2.2.2.2.2.2.1, S.2.2.2.2.2.2.2.2.2.2.2.1, S.2.2.2.2.2.2.2.2.2.2.2.2.1, S.2.2.2.2.2.2.2.2.2.2.2.2.2.1, S.2.2.2.2.2.2.2.2.2.2.2.2.2.2.1, S.2.2.2.2.2.2.2.2.2.2.2.2.2.2.2.1, S.2.2.2.2.2.2.2.2.2.2.2.2.2.2.2.2.1, S.2.2.2.2.2.2.2.2.2.2.2.2.2.2.2.2.2.1, S.2.2.2.2.2.2.2.2.2.2.2.2.2.2.2.2.2.2)
def zs_pd_ (S : zs_S) (v : Nat → Int64) : zs_S := (S.1, S.2.1, S.2.2.1, S.2.2.2.1, S.2.2.2.2.1, S.2.2.2.2.2.1, v, S.2.2.2.2.2.2.2.1, S.2.2.2.2.2.2.2.2.1, S.2.2.2.2.2.2.2.2.2.1, S.2.2.2.2.2.2.2.2.2.2.1, S.2.2.2.2.2.2.2.2.2.2.2.1, S.2.2.2.2.2.2.2.2.2.2.2.2.1, S.2.2.2.2.2.2.2.2.2.2.2.2.2.1, S.2.2.2.2.2.2.2.2.2.2.2.2.2.2.1, S.2.2.2.2.2.2.2.2.2.2.2.2.2.2.2.1, S.2.2.2.2.2.2.2.2.2.2.2.2.2.2.2.2.1, S.2.2.2.2.2.2.2.2.2.2.2.2.2.2.2.2.2.1, S.2.2.2.2.2.2.2.2.2.2.2.2.2.2.2.2.2.2)
def zs_pc_ (S : zs_S) (v : Nat → Int64) : zs_S := (S.1, S.2.1, S.2.2.1, S.2.2.2.1, S.2.2.2.2.1, S.2.2.2.2.2.1, S.2.2.2.2.2.2.1, v, S.2.2.2.2.2.2.2.2.1, S.2.2.2.2.2.2.2.2.2.1, S.2.2.2.2.2.2.2.2.2.2.1, S.2.2.2.2.2.2.2.2.2.2.2.1, S.2.2.2.2.2.2.2.2.2.2.2.2.1, S.2.2.2.2.2.2.2.2.2.2.2.2.2.1, S.2.2.2.2.2.2.2.2.2.2.2.2.2.2.1, S.2.2.2.2.2.2.2.2.2.2.2.2.2.2.2.1, S.2.2.2.2.2.2.2.2.2.2.2.2.2.2.2.2.1, S.2.2.2.2.2.2.2.2.2.2.2.2.2.2.2.2.2.1, S.2.2.2.2.2.2.2.2.2.2.2.2.2.2.2.2.2.2)
def zs_sh_ (S : zs_S) (v : Nat → Int64) : zs_S := (S.1, S.2.1, S.2.2.1, S.2.2.2.1, S.2.2.2.2.1, S.2.2.2.2.2.1, S.2.2.2.2.2.2.1, S.2.2.2.2.2.2.2.1, v, S.2.2.2.2.2.2.2.2.2.1, S.2.2.2.2.2.2.2.2.2.2.1, S.2.2.2.2.2.2.2.2.2.2.2.1, S.2.2.2.2.2.2.2.2.2.2.2.2.1, S.2.2.2.2.2.2.2.2.2.2.2.2.2.1, S.2.2.2.2.2.2.2.2.2.2.2.2.2.2.1, S.2.2.2.2.2.2.2.2.2.2.2.2.2.2.2.1, S.2.2.2.2.2.2.2.2.2.2.2.2.2.2.2.2.1, S.2.2.2.2.2.2.2.2.2.2.2.2.2.2.2.2.2.1, S.2.2.2.2.2.2.2.2.2.2.2.2.2.2.2.2.2.2)
def zs_rs_ (S : zs_S) (v : Nat → Int64) : zs_S := (S.1, S.2.1, S.2.2.1, S.2.2.2.1, S.2.2.2.2.1, S.2.2.2.2.2.1, S.2.2.2.2.2.2.1, S.2.2.2.2.2.2.2.1, S.2.2.2.2.2.2.2.2.1, v, S.2.2.2.2.2.2.2.2.2.2.1, S.2.2.2.2.2.2.2.2.2.2.2.1, S.2.2.2.2.2.2.2.2.2.2.2.2.1, S.2.2.2.2.2.2.2.2.2.2.2.2.2.1, S.2.2.2.2.2.2.2.2.2.2.2.2.2.2.1, S.2.2.2.2.2.2.2.2.2.2.2.2.2.2.2.1, S.2.2.2.2.2.2.2.2.2.2.2.2.2.2.2.2.1, S.2.2.2.2.2.2.2.2.2.2.2.2.2.2.2.2.2.1, S.2.2.2.2.2.2.2.2.2.2.2.2.2.2.2.2.2.2)
def zs_lp_ (S : zs_S) (v : Nat → Nat) : zs_S := (S.1, S.2.1, S.2.2.1, S.2.2.2.1, S.2.2.2.2.1, S.2.2.2.2.2.1, S.2.2.2.2.2.2.1, S.2.2.2.2.2.2.2.1, S.2.2.2.2.2.2.2.2.1, S.2.2.2.2.2.2.2.2.2.1, v, S.2.2.2.2.2.2.2.2.2.2.2.1, S.2.2.2.2.2.2.2.2.2.2.2.2.1, S.2.2.2.2.2.2.2.2.2.2.2.2.2.1, S.2.2.2.2.2.2.2.2.2.2.2.2.2.2.1, S.2.2.2.2.2.2.2.2.2.2.2.2.2.2.2.1, S.2.2.2.2.2.2.2.2.2.2.2.2.2.2.2.2.1, S.2.2.2.2.2.2.2.2.2.2.2.2.2.2.2.2.2.1, S.2.2.2.2.2.2.2.2.2.2.2.2.2.2.2.2.2.2)
def zs_lk_ (S : zs_S) (v : Nat → Nat) : zs_S := (S.1, S.2.1, S.2.2.1, S.2.2.2.1, S.2.2.2.2.1, S.2.2.2.2.2.1, S.2.2.2.2.2.2.1, S.2.2.2.2.2.2.2.1, S.2.2.2.2.2.2.2.2.1, S.2.2.2.2.2.2.2.2.2.1, S.2.2.2.2.2.2.2.2.2.2.1, v, S.2.2.2.2.2.2.2.2.2.2.2.2.1, S.2.2.2.2.2.2.2.2.2.2.2.2.2.1, S.2.2.2.2.2.2.2.2.2.2.2.2.2.2.1, S.2.2.2.2.2.2.2.2.2.2.2.2.2.2.2.1, S.2.2.2.2.2.2.2.2.2.2.2.2.2.2.2.2.1, S.2.2.2.2.2.2.2.2.2.2.2.2.2.2.2.2.2.1, S.2.2.2.2.2.2.2.2.2.2.2.2.2.2.2.2.2.2)
def zs_ll_ (S : zs_S) (v : Nat → Int64) : zs_S := (S.1, S.2.1, S.2.2.1, S.2.2.2.1, S.2.2.2.2.1, S.2.2.2.2.2.1, S.2.2.2.2.2.2.1, S.2.2.2.2.2.2.2.1, S.2.2.2.2.2.2.2.2.1, S.2.2.2.2.2.2.2.2.2.1, S.2.2.2.2.2.2.2.2.2.2.1, S.2.2.2.2.2.2.2.2.2.2.2.1, v, S.2.2.2.2.2.2.2.2.2.2.2.2.2.1, S.2.2.2.2.2.2.2.2.2.2.2.2.2.2.1, S.2.2.2.2.2.2.2.2.2.2.2.2.2.2.2.1, S.2.2.2.2.2.2.2.2.2.2.2.2.2.2.2.2.1, S.2.2.2.2.2.2.2.2.2.2.2.2.2.2.2.2.2.1, S.2.2.2.2.2.2.2.2.2.2.2.2.2.2.2.2.2.2)
def zs_ld_ (S : zs_S) (v : Nat → Int64) : zs_S := (S.1, S.2.1, S.2.2.1, S.2.2.2.1, S.2.2.2.2.1, S.2.2.2.2.2.1, S.2.2.2.2.2.2.1, S.2.2.2.2.2.2.2.1, S.2.2.2.2.2.2.2.2.1, S.2.2.2.2.2.2.2.2.2.1, S.2.2.2.2.2.2.2.2.2.2.1, S.2.2.2.2.2.2.2.2.2.2.2.1, S.2.2.2.2.2.2.2.2.2.2.2.2.1, v, S.2.2.2.2.2.2.2.2.2.2.2.2.2.2.1, S.2.2.2.2.2.2.2.2.2.2.2.2.2.2.2.1, S.2.2.2.2.2.2.2.2.2.2.2.2.2.2.2.2.1, S.2.2.2.2.2.2.2.2.2.2.2.2.2.2.2.2.2.1, S.2.2.2.2.2.2.2.2.2.2.2.2.2.2.2.2.2.2)
def zs_lc_ (S : zs_S) (v : Nat → Int64) : zs_S := (S.1, S.2.1, S.2.2.1, S.2.2.2.1, S.2.2.2.2.1, S.2.2.2.2.2.1, S.2.2.2.2.2.2.1, S.2.2.2.2.2.2.2.1, S.2.2.2.2.2.2.2.2.1, S.2.2.2.2.2.2.2.2.2.1, S.2.2.2.2.2.2.2.2.2.2.1, S.2.2.2.2.2.2.2.2.2.2.2.1, S.2.2.2.2.2.2.2.2.2.2.2.2.1, S.2.2.2.2.2.2.2.2.2.2.2.2.2.1, v, S.2.2.2.2.2.2.2.2.2.2.2.2.2.2.2.1, S.2.2.2.2.2.2.2.2.2.2.2.2.2.2.2.2.1, S.2.2.2.2.2.2.2.2.2.2.2.2.2.2.2.2.2.1, S.2.2.2.2.2.2.2.2.2.2.2.2.2.2.2.2.2.2)
def zs_tp_ (S : zs_S) (v : Nat → Nat) : zs_S := (S.1, S.2.1, S.2.2.1, S.2.2.2.1, S.2.2.2.2.1, S.2.2.2.2.2.1, S.2.2.2.2.2.2.1, S.2.2.2.2.2.2.2.1, S.2.2.2.2.2.2.2.2.1, S.2.2.2.2.2.2.2.2.2.1, S.2.2.2.2.2.2.2.2.2.2.1, S.2.2.2.2.2.2.2.2.2.2.2.1, S.2.2.2.2.2.2.2.2.2.2.2.2.1, S.2.2.2.2.2.2.2.2.2.2.2.2.2.1, S.2.2.2.2.2.2.2.2.2.2.2.2.2.2.1, v, S.2.2.2.2.2.2.2.2.2.2.2.2.2.2.2.2.1, S.2.2.2.2.2.2.2.2.2.2.2.2.2.2.2.2.2.1, S.2.2.2.2.2.2.2.2.2.2.2.2.2.2.2.2.2.2)
def zs_tt_ (S : zs_S) (v : Nat → Nat) : zs_S := (S.1, S.2.1, S.2.2.1, S.2.2.2.1, S.2.2.2.2.1, S.2.2.2.2.2.1, S.2.2.2.2.2.2.1, S.2.2.2.2.2.2.2.1, S.2.2.2.2.2.2.2.2.1, S.2.2.2.2.2.2.2.2.2.1, S.2.2.2.2.2.2.2.2.2.2.1, S.2.2.2.2.2.2.2.2.2.2.2.1, S.2.2.2.2.2.2.2.2.2.2.2.2.1, S.2.2.2.2.2.2.2.2.2.2.2.2.2.1, S.2.2.2.2.2.2.2.2.2.2.2.2.2.2.1, S.2.2.2.2.2.2.2.2.2.2.2.2.2.2.2.1, v, S.2.2.2.2.2.2.2.2.2.2.2.2.2.2.2.2.2.1, S.2.2.2.2.2.2.2.2.2.2.2.2.2.2.2.2.2.2)
def zs_ta_ (S : zs_S) (v : Nat → Int64) : zs_S := (S.1, S.2.1, S.2.2.1, S.2.2.2.1, S.2.2.2.2.1, S.2.2.2.2.2.1, S.2.2.2.2.2.2.1, S.2.2.2.2.2.2.2.1, S.2.2.2.2.2.2.2.2.1, S.2.2.2.2.2.2.2.2.2.1, S.2.2.2.2.2.2.2.2.2.2.1, S.2.2.2.2.2.2.2.2.2.2.2.1, S.2.2.2.2.2.2.2.2.2.2.2.2.1, S.2.2.2.2.2.2.2.2.2.2.2.2.2.1, S.2.2.2.2.2.2.2.2.2.2.2.2.2.2.1, S.2.2.2.2.2.2.2.2.2.2.2.2.2.2.2.1, S.2.2.2.2.2.2.2.2.2.2.2.2.2.2.2.2.1, v, S.2.2.2.2.2.2.2.2.2.2.2.2.2.2.2.2.2.2)
def zs_td_ (S : zs_S) (v : Nat → Int64) : zs_S := (S.1, S.2.1, S.2.2.1, S.2.2.2.1, S.2.2.2.2.1, S.2.2.2.2.2.1, S.2.2.2.2.2.2.1, S.2.2.2.2.2.2.2.1, S.2.2.2.2.2.2.2.2.1, S.2.2.2.2.2.2.2.2.2.1, S.2.2.2.2.2.2.2.2.2.2.1, S.2.2.2.2.2.2.2.2.2.2.2.1, S.2.2.2.2.2.2.2.2.2.2.2.2.1, S.2.2.2.2.2.2.2.2.2.2.2.2.2.1, S.2.2.2.2.2.2.2.2.2.2.2.2.2.2.1, S.2.2.2.2.2.2.2.2.2.2.2.2.2.2.2.1, S.2.2.2.2.2.2.2.2.2.2.2.2.2.2.2.2.1, S.2.2.2.2.2.2.2.2.2.2.2.2.2.2.2.2.2.1, v)
theorem zs_eta (S : zs_S) : S = (zs_np S, zs_nk S, zs_nl S, zs_nc S, zs_ck S, zs_pn S, zs_pd S, zs_pc S, zs_sh S, zs_rs S, zs_lp S, zs_lk S, zs_ll S, zs_ld S, zs_lc S, zs_tp S, zs_tt S, zs_ta S, zs_td S) := rfl
abbrev zs_L : Type := Nat × Nat × Nat
abbrev zs_Z : Type := zs_L → Nat
/-- both sides, and the reference's scratch row -/
abbrev zs_X : Type := zs_S × zs_S × (Nat → Int64)
/-- the first place from a on, n places long, where lp is p -/
def zs_fst (lp : Nat → Nat) (p a : Nat) : Nat → Option Nat
  | 0 => none
  | n + 1 => if lp a = p then some a else zs_fst lp p (a + 1) n
/-- the last place below n where lp is p -/
def zs_lst (lp : Nat → Nat) (p : Nat) : Nat → Option Nat
  | 0 => none
  | n + 1 => if lp n = p then some n else zs_lst lp p n
/-- the first layer of party p from place a on -/
def zs_nx (S : zs_S) (p a : Nat) : Option Nat := zs_fst (zs_lp S) p a (zs_nl S - a)
def zs_prev (n : Nat) (f : Nat → Nat) : Option Nat := match n with
  | 0 => none
  | k + 1 => some (f k)
def zs_ok (X : zs_X) (q : zs_L) : Prop := match q with
  | (0, i, j) => i = 0 ∧ j = 0
  | (1, i, j) => i = 0 ∧ j = 0
  | (2, i, j) => i = 0 ∧ j = 0
  | (3, p, j) => p < zs_np X.1 ∧ j = 0
  | (4, k, j) => k < zs_nk X.1 ∧ j = 0
  | (5, k, j) => k < zs_nk X.1 ∧ j < zs_pn X.1 k
  | (6, i, j) => i < zs_nl X.1 ∧ j = 0
  | (7, i, j) => i < zs_nc X.1 ∧ j = 0
  | (8, i, j) => i < 16 ∧ j = 0
  | _ => False
def zs_mod (g : zk_G) (D : zs_S) (ps : Nat → Int64) (Z : zs_Z) (j : Nat) : va_E := match j with
  | 0 => .inr (6, [.int (nI (zs_np D)), .int (nI (zs_nk D)), .long (zs_ck D), .ref (Z (8, 1, 0)), .ref (Z (8, 2, 0)), .ref (Z (8, 3, 0)), .ref (Z (8, 4, 0)), .ref (Z (8, 5, 0)), .ref (Z (8, 6, 0)), .int (nI (zs_nl D)), .ref (Z (8, 7, 0)), .ref (Z (8, 8, 0)), .ref (Z (8, 9, 0)), .ref (Z (8, 10, 0)), .ref (Z (8, 11, 0)), .int (nI (zs_nc D)), .ref (Z (8, 12, 0)), .ref (Z (8, 13, 0)), .ref (Z (8, 14, 0)), .ref (Z (8, 15, 0))])
  | 1 => zk_aJ g 240 (zs_pd D)
  | 2 => zk_aJ g 240 (zs_pc D)
  | 3 => zk_aI g 12 (fun k => nI (zs_pn D k))
  | 4 => zk_aJ g 12 (zs_sh D)
  | 5 => zk_aJ g 12 (zs_rs D)
  | 6 => zk_aJ g 12 ps
  | 7 => zk_aI g 4100 (fun i => nI (zs_lp D i))
  | 8 => zk_aI g 4100 (fun i => nI (zs_lk D i))
  | 9 => zk_aJ g 4100 (zs_ll D)
  | 10 => zk_aJ g 4100 (zs_ld D)
  | 11 => zk_aJ g 4100 (zs_lc D)
  | 12 => zk_aI g 4100 (fun i => nI (zs_tt D i))
  | 13 => zk_aI g 4100 (fun i => nI (zs_tp D i))
  | 14 => zk_aJ g 4100 (zs_ta D)
  | _ => zk_aJ g 4100 (zs_td D)
/-- what the cell of a label holds -/
def zs_cont (g : zk_G) (X : zs_X) (Z : zs_Z) (q : zs_L) : va_E := match q with
  | (0, _, _) => .inr (5, [.ref (Z (3, 0, 0)), .ref (Z (1, 0, 0)), .ref (Z (2, 0, 0)), va_rf (zs_prev (zs_nc X.1) (fun i => Z (7, i, 0))), .int (nI (zs_nc X.1)), .long (zs_ck X.1)])
  | (1, _, _) => zk_aP g 24 (fun p => if p < zs_np X.1 then some (Z (3, p, 0)) else none)
  | (2, _, _) => zk_aQ g 12 (fun k => if k < zs_nk X.1 then some (Z (4, k, 0)) else none)
  | (3, p, _) => .inr (2, [va_rf ((zs_nx X.1 p 0).map (fun i => Z (6, i, 0))), va_rf ((zs_lst (zs_lp X.1) p (zs_nl X.1)).map (fun i => Z (6, i, 0)))])
  | (4, k, _) => .inr (0, [va_rf (zs_prev (zs_pn X.1 k) (fun j => Z (5, k, j))), .long (zs_sh X.1 k), .long (zs_rs X.1 k)])
  | (5, k, j) => .inr (3, [.long (zs_pd X.1 (20 * k + j)), va_rf (zs_prev j (fun j => Z (5, k, j))), .long (zs_pc X.1 (20 * k + j))])
  | (6, i, _) => .inr (1, [.ref (Z (4, zs_lk X.1 i, 0)), .long (zs_ld X.1 i), .long (zs_lc X.1 i), .long (zs_ll X.1 i), va_rf ((zs_nx X.1 (zs_lp X.1 i) (i + 1)).map (fun i => Z (6, i, 0)))])
  | (7, i, _) => .inr (4, [.long (zs_td X.1 i), .long (zs_ta X.1 i), .ref (Z (3, zs_tp X.1 i, 0)), .ref (Z (3, zs_tt X.1 i, 0)), va_rf (zs_prev i (fun i => Z (7, i, 0)))])
  | (8, j, _) => zs_mod g X.2.1 X.2.2 Z j
  | _ => .inr (0, [])
/-- the heap's picture holds the state -/
def zs_R (g : zk_G) (X : zs_X) (Z : zs_Z) (M : zk_M) : Prop := (∀ q, zs_ok X q → M (Z q) = some (zs_cont g X Z q)) ∧ ∀ q r, zs_ok X q → zs_ok X r → Z q = Z r → q = r
/-- bounds that hold between calls -/
def zs_Ib (S : zs_S) (n : Nat) : Prop := 1 ≤ zs_np S ∧ zs_np S ≤ 24 ∧ zs_nk S ≤ 12 ∧ zs_nl S ≤ n ∧ zs_nc S ≤ n ∧ 0 ≤ zs_ck S ∧ zs_ck S ≤ 100000
def zs_Ik (S : zs_S) : Prop := (∀ k, zs_pn S k ≤ 20) ∧ (∀ k, zs_nk S ≤ k → zs_pn S k = 0 ∧ zs_sh S k = 0 ∧ zs_rs S k = 0) ∧ (∀ k, 0 ≤ zs_sh S k ∧ zs_sh S k ≤ 10000 ∧ 0 ≤ zs_rs S k ∧ zs_rs S k < 10000) ∧ (∀ k j, j < zs_pn S k → 0 ≤ zs_pd S (20 * k + j)) ∧ ∀ k i j, i < zs_pn S k → j < zs_pn S k → zs_pd S (20 * k + i) = zs_pd S (20 * k + j) → i = j
def zs_cnt (ll : Nat → Int64) : Nat → Nat
  | 0 => 0
  | n + 1 => zs_cnt ll n + (if 0 < ll n then 1 else 0)
def zs_Il (S : zs_S) : Prop := (∀ i, i < zs_nl S → zs_lp S i < zs_np S ∧ zs_lk S i < zs_nk S ∧ 0 ≤ zs_ld S i ∧ zs_ld S i ≤ 100000 ∧ 0 ≤ zs_ll S i ∧ zs_ll S i ≤ 100000) ∧ zs_cnt (zs_ll S) (zs_nl S) ≤ 400
def zs_It (S : zs_S) : Prop := ∀ i, i < zs_nc S → zs_tp S i < zs_np S ∧ zs_tt S i < zs_np S ∧ zs_tp S i ≠ zs_tt S i
def zs_I (S : zs_S) (n : Nat) : Prop := zs_Ib S n ∧ zs_Ik S ∧ zs_Il S ∧ zs_It S
theorem zs_fst_none {lp : Nat → Nat} {p : Nat} : ∀ {n a : Nat}, zs_fst lp p a n = none → ∀ j, a ≤ j → j < a + n → lp j ≠ p := by
  intro n
  induction n with
  | zero => intro a _ j h1 h2; omega
  | succ n ih =>
    intro a h j h1 h2
    unfold zs_fst at h
    split at h
    · cases h
    · rename_i hne
      rcases Nat.eq_or_lt_of_le h1 with q | q
      · subst q; exact hne
      · exact ih h j q (by omega)
theorem zs_fst_some {lp : Nat → Nat} {p : Nat} : ∀ {n a i : Nat}, zs_fst lp p a n = some i → a ≤ i ∧ i < a + n ∧ lp i = p ∧ ∀ j, a ≤ j → j < i → lp j ≠ p := by
  intro n
  induction n with
  | zero => intro a i h; cases h
  | succ n ih =>
    intro a i h
    unfold zs_fst at h
    split at h
    · rename_i he
      cases h
      exact ⟨Nat.le_refl _, by omega, he, fun j h1 h2 => by omega⟩
    · rename_i hne
      obtain ⟨h1, h2, h3, h4⟩ := ih h
      refine ⟨by omega, by omega, h3, fun j g1 g2 => ?_⟩
      rcases Nat.eq_or_lt_of_le g1 with q | q
      · subst q; exact hne
      · exact h4 j q g2
theorem zs_nx_none {S : zs_S} {p a : Nat} (h : zs_nx S p a = none) : ∀ j, a ≤ j → j < zs_nl S → zs_lp S j ≠ p := fun j h1 h2 => zs_fst_none h j h1 (by omega)
theorem zs_nx_some {S : zs_S} {p a i : Nat} (h : zs_nx S p a = some i) : a ≤ i ∧ i < zs_nl S ∧ zs_lp S i = p ∧ ∀ j, a ≤ j → j < i → zs_lp S j ≠ p := by
  obtain ⟨h1, h2, h3, h4⟩ := zs_fst_some h
  exact ⟨h1, by omega, h3, h4⟩
/-- a fold over the places below n -/
def zs_sum (f : Nat → Int64) : Nat → Int64
  | 0 => 0
  | n + 1 => zs_sum f n + f n
theorem zs_sum_skip {f : Nat → Int64} {a : Nat} : ∀ (d : Nat), (∀ j, a ≤ j → j < a + d → f j = 0) → zs_sum f (a + d) = zs_sum f a := by
  intro d
  induction d with
  | zero => intro _; rfl
  | succ d ih =>
    intro h
    show zs_sum f (a + d) + f (a + d) = _
    rw [ih (fun j h1 h2 => h j h1 (by omega)), h (a + d) (by omega) (by omega)]
    simp
theorem zs_sum_to {f : Nat → Int64} {a b : Nat} (hab : a ≤ b) (h : ∀ j, a ≤ j → j < b → f j = 0) : zs_sum f b = zs_sum f a := by
  obtain ⟨d, rfl⟩ := Nat.exists_eq_add_of_le hab
  exact zs_sum_skip d h
theorem zs_sum_congr {f g : Nat → Int64} : ∀ (n : Nat), (∀ j, j < n → f j = g j) → zs_sum f n = zs_sum g n := by
  intro n
  induction n with
  | zero => intro _; rfl
  | succ n ih => intro h; show zs_sum f n + f n = zs_sum g n + g n; rw [ih (fun j q => h j (by omega)), h n (by omega)]
/-- pieces of a kind of a party that went out on a day or before it -/
def zs_pupf (S : zs_S) (p k : Nat) (d : Int64) (i : Nat) : Int64 := if zs_lp S i = p ∧ zs_lk S i = k ∧ zs_ld S i ≤ d then zs_ll S i else 0
def zs_pup (S : zs_S) (p k : Nat) (d : Int64) : Int64 := zs_sum (zs_pupf S p k d) (zs_nl S)
def zs_hasf (S : zs_S) (p k : Nat) (i : Nat) : Int64 := if zs_lp S i = p ∧ zs_lk S i = k then zs_ll S i else 0
def zs_has (S : zs_S) (p k : Nat) : Int64 := zs_sum (zs_hasf S p k) (zs_nl S)
theorem zs_pup_has {S : zs_S} (hI : zs_Il S) (p k : Nat) : zs_pup S p k 100000 = zs_has S p k := by
  refine zs_sum_congr _ fun j hj => ?_
  have h := (hI.1 j hj).2.2.2.1
  simp only [zs_pupf, zs_hasf, h, and_true]
end
section
theorem zs_sum_step {f : Nat → Int64} {a i : Nat} (h : a ≤ i) (hz : ∀ j, a ≤ j → j < i → f j = 0) : zs_sum f (i + 1) = zs_sum f a + f i := by
  show zs_sum f i + f i = _
  rw [zs_sum_to h hz]
theorem inw_wsX2_piecesUpTo_1 : ∀ w ∈ u_ws RX1 TX1 5, w ∈ wsX2_piecesUpTo := by decide +kernel
theorem inw_wsX2_piecesUpTo_2 : ∀ w ∈ u_ws RX2 TX2 2, w ∈ wsX2_piecesUpTo := by decide +kernel
set_option maxHeartbeats 4000000 in
set_option maxRecDepth 100000 in
/-- the pieces of a kind of a party that went out up to a day -/
theorem zc_X2_piecesUpTo (l : Launch) {g : zk_G} {z : Nat} {M : zk_M} {X : zs_X} {Z : zs_Z} (hR : zs_R g X Z M) (hI : ∀ i, i < zs_nl X.1 → zs_lk X.1 i < zs_nk X.1) {p k : Nat} (hp : p < zs_np X.1) (hk : k < zs_nk X.1) (dy : Int64) : Met l yX2_piecesUpTo wsX2_piecesUpTo ({ frames := 0, cells := 0, slots := 0, locals := 0 } : Room) (va_Pc [.ref (Z (3, p, 0)), .ref (Z (4, k, 0)), .long dy] (zk_U g z M)) (vp_Sl (fun r => r = zs_pup X.1 p k dy)) 0 0 (fun _ => False) := by
  refine Met.ofW (cc := cX2_piecesUpTo) (maxL := 7) (ret := (some .long)) (by decide) rfl ?_
  intro P0 e0 s m0 args below meth c0 s₁ B hml hv
  obtain ⟨rfl, hH, hK, hN⟩ := hv
  have hx := B.exec
  have hb := B.bytes
  have hr := B.returns
  have hts := atoms_spec (ws := wsX2_piecesUpTo) B.pre
  have hown : s.vm.findClass RX2 = some m0.cls := findClass_of_methodNamed B.named
  have hlocks := B.notSynchronized
  have hl := lv_entry ([.ref (Z (3, p, 0)), .ref (Z (4, k, 0)), .long dy]) (n := 7) (Nat.le_of_ble_eq_true rfl)
  rw [lg_entry_eq]
  generalize (lg_sl ([.ref (Z (3, p, 0)), .ref (Z (4, k, 0)), .long dy]) ++ List.replicate (7 - (lg_sl ([.ref (Z (3, p, 0)), .ref (Z (4, k, 0)), .long dy])).length) Slot.unset).toArray = ls at hl ⊢
  have hl : lv_has ls 7 [(0, .ref (Z (3, p, 0))), (1, .ref (Z (4, k, 0))), (2, .long dy)] := hl
  have hP : M (Z (3, p, 0)) = some (.inr (2, [va_rf ((zs_nx X.1 p 0).map (fun i => Z (6, i, 0))), va_rf ((zs_lst (zs_lp X.1) p (zs_nl X.1)).map (fun i => Z (6, i, 0)))])) := hR.1 (3, p, 0) ⟨hp, rfl⟩
  refine lv_lconst (v := 0) hx hb dX2_piecesUpTo_0 (by decide) ?_
  refine lv_lstore (lv' := [(4, .long 0), (0, .ref (Z (3, p, 0))), (1, .ref (Z (4, k, 0))), (2, .long dy)]) hx hb dX2_piecesUpTo_1 hl (by decide) rfl (fun ls hl => ?_)
  refine lv_aload_n hx hb dX2_piecesUpTo_3 rfl (lv_at hl 1 rfl) ?_
  refine zk_get (ci := 2) (v := va_rf ((zs_nx X.1 p 0).map (fun i => Z (6, i, 0)))) (C := RX2) (T := TX2) (N := 2) hx hb hts inw_wsX2_piecesUpTo_2 hown hK hH hP rfl 0 (by decide) (hts (.fieldLink RX2 13 "KegDeposits$Party" "oldest" "LKegDeposits$Layer;") (by decide +kernel)) rfl dX2_piecesUpTo_4 ?_
  refine zk_astore (lv' := [(6, va_rf ((zs_nx X.1 p 0).map (fun i => Z (6, i, 0)))), (4, .long 0), (0, .ref (Z (3, p, 0))), (1, .ref (Z (4, k, 0))), (2, .long dy)]) hx hb dX2_piecesUpTo_7 hl (by decide) rfl (fun ls hl => ?_)
  have loop : ∀ (n a : Nat) (acc : Int64) (ls : Array Slot), zs_nl X.1 - a < n → a ≤ zs_nl X.1 → acc = zs_sum (zs_pupf X.1 p k dy) a → lv_has ls 7 [(6, va_rf ((zs_nx X.1 p a).map (fun i => Z (6, i, 0)))), (4, .long acc), (0, .ref (Z (3, p, 0))), (1, .ref (Z (4, k, 0))), (2, .long dy)] → W P0 l e0 (headSpec wsX2_piecesUpTo ({ frames := 0, cells := 0, slots := 0, locals := 0 } : Room)).room s m0 ([.ref (Z (3, p, 0)), .ref (Z (4, k, 0)), .long dy] : List Value).toArray below meth c0 s.heap [] 0 0 (MQ below (vp_Sl (fun r => r = zs_pup X.1 p k dy)) ([.ref (Z (3, p, 0)), .ref (Z (4, k, 0)), .long dy] : List Value).toArray s 0 0 (fun _ => False)) (F0 m0 9 ls []) := by
    intro n
    induction n with
    | zero => intro a acc ls hn; omega
    | succ n ih =>
      intro a acc ls hn ha hacc hl
      cases hnx : zs_nx X.1 p a with
      | none =>
        rw [hnx] at hl
        have hl : lv_has ls 7 [(6, .null), (4, .long acc), (0, .ref (Z (3, p, 0))), (1, .ref (Z (4, k, 0))), (2, .long dy)] := hl
        refine lv_aloadN hx hb dX2_piecesUpTo_9 (lv_at hl 0 rfl) ?_
        refine lv_ifnullN (tgt := 53) hx hb dX2_piecesUpTo_11 (by decide) ?_
        refine lv_lload hx hb dX2_piecesUpTo_53 (lv_at hl 1 rfl) ?_
        exact zk_lretS hx hb hr hlocks (by rw [hacc]; exact (zs_sum_to ha (fun j h1 h2 => by simp [zs_pupf, zs_nx_none hnx j h1 h2])).symm) dX2_piecesUpTo_55
      | some i =>
        obtain ⟨h1, h2, h3, h4⟩ := zs_nx_some hnx
        rw [hnx] at hl
        have hl : lv_has ls 7 [(6, .ref (Z (6, i, 0))), (4, .long acc), (0, .ref (Z (3, p, 0))), (1, .ref (Z (4, k, 0))), (2, .long dy)] := hl
        have hL : M (Z (6, i, 0)) = some (.inr (1, [.ref (Z (4, zs_lk X.1 i, 0)), .long (zs_ld X.1 i), .long (zs_lc X.1 i), .long (zs_ll X.1 i), va_rf ((zs_nx X.1 p (i + 1)).map (fun i => Z (6, i, 0)))])) := by rw [← h3]; exact hR.1 (6, i, 0) ⟨h2, rfl⟩
        have hs := zs_sum_step (f := zs_pupf X.1 p k dy) h1 (fun j g1 g2 => by simp [zs_pupf, h4 j g1 g2])
        refine lv_aload hx hb dX2_piecesUpTo_9 (lv_at hl 0 rfl) ?_
        refine lv_ifnull hx hb dX2_piecesUpTo_11 ?_
        refine lv_aload hx hb dX2_piecesUpTo_14 (lv_at hl 0 rfl) ?_
        refine zk_getN (ci := 1) (v := .ref (Z (4, zs_lk X.1 i, 0))) (C := RX1) (T := TX1) (N := 5) hx hb hts inw_wsX2_piecesUpTo_1 hown hK hH hL rfl 0 (by decide) (zk_nf_5 hN) rfl dX2_piecesUpTo_16 ?_
        refine lv_aload_n hx hb dX2_piecesUpTo_19 rfl (lv_at hl 3 rfl) ?_
        refine lv_acmp_ne (rx := (some (Z (4, zs_lk X.1 i, 0)))) (ry := (some (Z (4, k, 0)))) (tgt := 43) hx hb dX2_piecesUpTo_20 (by decide) (fun h_20 => ?_) (fun h_20 => ?_)
        · skip
          have hkk : ¬ zs_lk X.1 i = k := fun q => h_20 (by rw [q])
          refine lv_aload hx hb dX2_piecesUpTo_43 (lv_at hl 0 rfl) ?_
          refine zk_getN (ci := 1) (v := va_rf ((zs_nx X.1 p (i + 1)).map (fun i => Z (6, i, 0)))) (C := RX1) (T := TX1) (N := 5) hx hb hts inw_wsX2_piecesUpTo_1 hown hK hH hL rfl 4 (by decide) (zk_nf_9 hN) rfl dX2_piecesUpTo_45 ?_
          refine zk_astore (lv' := [(6, va_rf ((zs_nx X.1 p (i + 1)).map (fun i => Z (6, i, 0)))), (4, .long acc), (0, .ref (Z (3, p, 0))), (1, .ref (Z (4, k, 0))), (2, .long dy)]) hx hb dX2_piecesUpTo_48 hl (by decide) rfl (fun ls hl => ?_)
          refine lv_goto (tgt := 9) hx hb dX2_piecesUpTo_50 (by decide) ?_
          exact ih (i + 1) _ ls (by omega) (by omega) (by rw [hs, hacc]; simp [zs_pupf, hkk]) (lv_sub hl [0, 1, 2, 3, 4] rfl)
        · skip
          have hkk : zs_lk X.1 i = k := by have := hR.2 (4, zs_lk X.1 i, 0) (4, k, 0) ⟨hI i h2, rfl⟩ ⟨hk, rfl⟩ (Option.some.inj h_20); simpa using this
          refine lv_aload hx hb dX2_piecesUpTo_23 (lv_at hl 0 rfl) ?_
          refine zk_getN (ci := 1) (v := .long (zs_ld X.1 i)) (C := RX1) (T := TX1) (N := 5) hx hb hts inw_wsX2_piecesUpTo_1 hown hK hH hL rfl 1 (by decide) (zk_nf_6 hN) rfl dX2_piecesUpTo_25 ?_
          refine lv_lload_n hx hb dX2_piecesUpTo_28 rfl (lv_at hl 4 rfl) ?_
          refine zk_lc_gt (tgt := 43) hx hb dX2_piecesUpTo_29 dX2_piecesUpTo_30 (by decide) (fun h_29 => ?_) (fun h_29 => ?_)
          · skip
            have hdd : ¬ zs_ld X.1 i ≤ dy := fun q => absurd h_29 (Int64.not_lt.mpr q)
            refine lv_aload hx hb dX2_piecesUpTo_43 (lv_at hl 0 rfl) ?_
            refine zk_getN (ci := 1) (v := va_rf ((zs_nx X.1 p (i + 1)).map (fun i => Z (6, i, 0)))) (C := RX1) (T := TX1) (N := 5) hx hb hts inw_wsX2_piecesUpTo_1 hown hK hH hL rfl 4 (by decide) (zk_nf_9 hN) rfl dX2_piecesUpTo_45 ?_
            refine zk_astore (lv' := [(6, va_rf ((zs_nx X.1 p (i + 1)).map (fun i => Z (6, i, 0)))), (4, .long acc), (0, .ref (Z (3, p, 0))), (1, .ref (Z (4, k, 0))), (2, .long dy)]) hx hb dX2_piecesUpTo_48 hl (by decide) rfl (fun ls hl => ?_)
            refine lv_goto (tgt := 9) hx hb dX2_piecesUpTo_50 (by decide) ?_
            exact ih (i + 1) _ ls (by omega) (by omega) (by rw [hs, hacc]; simp [zs_pupf, hdd]) (lv_sub hl [0, 1, 2, 3, 4] rfl)
          · skip
            have hdd : zs_ld X.1 i ≤ dy := Int64.not_lt.mp h_29
            refine lv_lload hx hb dX2_piecesUpTo_33 (lv_at hl 1 rfl) ?_
            refine lv_aload hx hb dX2_piecesUpTo_35 (lv_at hl 0 rfl) ?_
            refine zk_getN (ci := 1) (v := .long (zs_ll X.1 i)) (C := RX1) (T := TX1) (N := 5) hx hb hts inw_wsX2_piecesUpTo_1 hown hK hH hL rfl 3 (by decide) (zk_nf_8 hN) rfl dX2_piecesUpTo_37 ?_
            refine lv_ladd hx hb dX2_piecesUpTo_40 ?_
            refine lv_lstore (lv' := [(4, .long (acc + zs_ll X.1 i)), (6, .ref (Z (6, i, 0))), (0, .ref (Z (3, p, 0))), (1, .ref (Z (4, k, 0))), (2, .long dy)]) hx hb dX2_piecesUpTo_41 hl (by decide) rfl (fun ls hl => ?_)
            refine lv_aload hx hb dX2_piecesUpTo_43 (lv_at hl 1 rfl) ?_
            refine zk_getN (ci := 1) (v := va_rf ((zs_nx X.1 p (i + 1)).map (fun i => Z (6, i, 0)))) (C := RX1) (T := TX1) (N := 5) hx hb hts inw_wsX2_piecesUpTo_1 hown hK hH hL rfl 4 (by decide) (zk_nf_9 hN) rfl dX2_piecesUpTo_45 ?_
            refine zk_astore (lv' := [(6, va_rf ((zs_nx X.1 p (i + 1)).map (fun i => Z (6, i, 0)))), (4, .long (acc + zs_ll X.1 i)), (0, .ref (Z (3, p, 0))), (1, .ref (Z (4, k, 0))), (2, .long dy)]) hx hb dX2_piecesUpTo_48 hl (by decide) rfl (fun ls hl => ?_)
            refine lv_goto (tgt := 9) hx hb dX2_piecesUpTo_50 (by decide) ?_
            exact ih (i + 1) _ ls (by omega) (by omega) (by rw [hs, hacc]; simp [zs_pupf, h3, hkk, hdd]) (lv_sub hl [0, 1, 2, 3, 4] rfl)
  exact loop (zs_nl X.1 + 1) 0 0 ls (by omega) (by omega) rfl (lv_sub hl [0, 1, 2, 3, 4] rfl)
end
section
theorem zs_R_write {g : zk_G} {X X' : zs_X} {Z : zs_Z} {M : zk_M} (hR : zs_R g X Z M) (lab : zs_L) (hlab : zs_ok X lab) (hok : ∀ q, zs_ok X' q ↔ zs_ok X q) (hc : ∀ q, zs_ok X q → q ≠ lab → zs_cont g X' Z q = zs_cont g X Z q) {e : va_E} (he : e = zs_cont g X' Z lab) : zs_R g X' Z (zk_up M (Z lab) e) := by
  refine ⟨fun q hq => ?_, fun q r hq hr => hR.2 q r ((hok q).mp hq) ((hok r).mp hr)⟩
  by_cases h : q = lab
  · rw [h, zk_up_s, he]
  · have hq' := (hok q).mp hq
    rw [zk_up_n _ _ (fun ez => h (hR.2 q lab hq' hlab ez)), hc q hq' h]
    exact hR.1 q hq'
/-- the address function with one more label -/
def zs_Zup (Z : zs_Z) (lab : zs_L) (a : Nat) : zs_Z := fun q => if q = lab then a else Z q
theorem zs_Zup_s (Z : zs_Z) (lab : zs_L) (a : Nat) : zs_Zup Z lab a lab = a := by simp [zs_Zup]
theorem zs_Zup_n (Z : zs_Z) {lab q : zs_L} (a : Nat) (h : q ≠ lab) : zs_Zup Z lab a q = Z q := by simp [zs_Zup, h]
/-- a new cell at a fresh address, and others written -/
theorem zs_R_new {g : zk_G} {X X' : zs_X} {Z : zs_Z} {M M' : zk_M} {a : Nat} (hR : zs_R g X Z M) (lab : zs_L) (ha : M a = none) (hlab : ¬ zs_ok X lab) (hok : ∀ q, zs_ok X' q ↔ zs_ok X q ∨ q = lab) (W0 : List zs_L) (hM : ∀ b, b ≠ a → (∀ q ∈ W0, b ≠ Z q) → M' b = M b) (hc : ∀ q, zs_ok X q → q ∉ W0 → zs_cont g X' (zs_Zup Z lab a) q = zs_cont g X Z q) (hW0 : ∀ q ∈ W0, zs_ok X q) (hw : ∀ q, zs_ok X q → q ∈ W0 → M' (Z q) = some (zs_cont g X' (zs_Zup Z lab a) q)) (hn : M' a = some (zs_cont g X' (zs_Zup Z lab a) lab)) : zs_R g X' (zs_Zup Z lab a) M' := by
  have hz : ∀ q, zs_ok X q → q ≠ lab := fun q hq e => hlab (e ▸ hq)
  have hza : ∀ q, zs_ok X q → Z q ≠ a := fun q hq e => by
    have := hR.1 q hq
    rw [e, ha] at this
    cases this
  refine ⟨fun q hq => ?_, fun q r hq hr e => ?_⟩
  · rcases (hok q).mp hq with h | h
    · rw [zs_Zup_n Z a (hz q h)]
      by_cases hm : q ∈ W0
      · exact hw q h hm
      · rw [hM _ (hza q h) (fun r hr e => hm (by rw [hR.2 q r h (hW0 r hr) e]; exact hr)), hc q h hm]
        exact hR.1 q h
    · rw [h, zs_Zup_s]
      exact hn
  · rcases (hok q).mp hq with h | h <;> rcases (hok r).mp hr with h' | h'
    · rw [zs_Zup_n Z a (hz q h), zs_Zup_n Z a (hz r h')] at e
      exact hR.2 q r h h' e
    · rw [h', zs_Zup_s, zs_Zup_n Z a (hz q h)] at e
      exact absurd e (hza q h)
    · rw [h, zs_Zup_s, zs_Zup_n Z a (hz r h')] at e
      exact absurd e.symm (hza r h')
    · rw [h, h']
theorem zs_R_ll {g : zk_G} {X : zs_X} {Z : zs_Z} {M : zk_M} (hR : zs_R g X Z M) {i : Nat} (hi : i < zs_nl X.1) (v : Int64) : zs_R g (zs_ll_ X.1 (vp_updL (zs_ll X.1) i v), X.2) Z (zk_up M (Z (6, i, 0)) (.inr (1, [.ref (Z (4, zs_lk X.1 i, 0)), .long (zs_ld X.1 i), .long (zs_lc X.1 i), .long v, va_rf ((zs_nx X.1 (zs_lp X.1 i) (i + 1)).map (fun i => Z (6, i, 0)))]))) := by
  refine zs_R_write (X' := (zs_ll_ X.1 (vp_updL (zs_ll X.1) i v), X.2)) hR (6, i, 0) ⟨hi, rfl⟩ (fun q => Iff.rfl) (fun q hq hne => ?_) ?_
  · rcases q with ⟨t, a, b⟩
    match t with
    | 0 => rfl
    | 1 => rfl
    | 2 => rfl
    | 3 => rfl
    | 4 => rfl
    | 5 => rfl
    | 6 =>
      obtain ⟨_, hb⟩ : a < zs_nl X.1 ∧ b = 0 := hq
      have ha : a ≠ i := fun e => hne (by rw [e, hb])
      have : vp_updL (zs_ll X.1) i v a = zs_ll X.1 a := by simp [vp_updL, ha]
      show (.inr (1, [_, _, _, .long (vp_updL (zs_ll X.1) i v a), _]) : va_E) = _
      rw [this]
      rfl
    | 7 => rfl
    | 8 => rfl
    | n + 9 => rfl
  · show _ = (.inr (1, [_, _, _, .long (vp_updL (zs_ll X.1) i v i), _]) : va_E)
    have : vp_updL (zs_ll X.1) i v i = v := by simp [vp_updL]
    rw [this]
    rfl
theorem zs_R_sh {g : zk_G} {X : zs_X} {Z : zs_Z} {M : zk_M} (hR : zs_R g X Z M) {k : Nat} (hk : k < zs_nk X.1) (v : Int64) : zs_R g (zs_sh_ X.1 (vp_updL (zs_sh X.1) k v), X.2) Z (zk_up M (Z (4, k, 0)) (.inr (0, [va_rf (zs_prev (zs_pn X.1 k) (fun j => Z (5, k, j))), .long v, .long (zs_rs X.1 k)]))) := by
  refine zs_R_write (X' := (zs_sh_ X.1 (vp_updL (zs_sh X.1) k v), X.2)) hR (4, k, 0) ⟨hk, rfl⟩ (fun q => Iff.rfl) (fun q hq hne => ?_) ?_
  · rcases q with ⟨t, a, b⟩
    match t with
    | 0 => rfl
    | 1 => rfl
    | 2 => rfl
    | 3 => rfl
    | 4 =>
      obtain ⟨_, hb⟩ : a < zs_nk X.1 ∧ b = 0 := hq
      have ha : a ≠ k := fun e => hne (by rw [e, hb])
      have : vp_updL (zs_sh X.1) k v a = zs_sh X.1 a := by simp [vp_updL, ha]
      show (.inr (0, [_, .long (vp_updL (zs_sh X.1) k v a), _]) : va_E) = _
      rw [this]
      rfl
    | 5 => rfl
    | 6 => rfl
    | 7 => rfl
    | 8 => rfl
    | n + 9 => rfl
  · show _ = (.inr (0, [_, .long (vp_updL (zs_sh X.1) k v k), _]) : va_E)
    have : vp_updL (zs_sh X.1) k v k = v := by simp [vp_updL]
    rw [this]
    rfl
theorem zs_R_rs {g : zk_G} {X : zs_X} {Z : zs_Z} {M : zk_M} (hR : zs_R g X Z M) {k : Nat} (hk : k < zs_nk X.1) (v : Int64) : zs_R g (zs_rs_ X.1 (vp_updL (zs_rs X.1) k v), X.2) Z (zk_up M (Z (4, k, 0)) (.inr (0, [va_rf (zs_prev (zs_pn X.1 k) (fun j => Z (5, k, j))), .long (zs_sh X.1 k), .long v]))) := by
  refine zs_R_write (X' := (zs_rs_ X.1 (vp_updL (zs_rs X.1) k v), X.2)) hR (4, k, 0) ⟨hk, rfl⟩ (fun q => Iff.rfl) (fun q hq hne => ?_) ?_
  · rcases q with ⟨t, a, b⟩
    match t with
    | 0 => rfl
    | 1 => rfl
    | 2 => rfl
    | 3 => rfl
    | 4 =>
      obtain ⟨_, hb⟩ : a < zs_nk X.1 ∧ b = 0 := hq
      have ha : a ≠ k := fun e => hne (by rw [e, hb])
      have : vp_updL (zs_rs X.1) k v a = zs_rs X.1 a := by simp [vp_updL, ha]
      show (.inr (0, [_, _, .long (vp_updL (zs_rs X.1) k v a)]) : va_E) = _
      rw [this]
      rfl
    | 5 => rfl
    | 6 => rfl
    | 7 => rfl
    | 8 => rfl
    | n + 9 => rfl
  · show _ = (.inr (0, [_, _, .long (vp_updL (zs_rs X.1) k v k)]) : va_E)
    have : vp_updL (zs_rs X.1) k v k = v := by simp [vp_updL]
    rw [this]
    rfl
theorem zs_R_pc {g : zk_G} {X : zs_X} {Z : zs_Z} {M : zk_M} (hR : zs_R g X Z M) (hI : zs_Ik X.1) {k j : Nat} (hk : k < zs_nk X.1) (hj : j < zs_pn X.1 k) (v : Int64) : zs_R g (zs_pc_ X.1 (vp_updL (zs_pc X.1) (20 * k + j) v), X.2) Z (zk_up M (Z (5, k, j)) (.inr (3, [.long (zs_pd X.1 (20 * k + j)), va_rf (zs_prev j (fun j => Z (5, k, j))), .long v]))) := by
  refine zs_R_write (X' := (zs_pc_ X.1 (vp_updL (zs_pc X.1) (20 * k + j) v), X.2)) hR (5, k, j) ⟨hk, hj⟩ (fun q => Iff.rfl) (fun q hq hne => ?_) ?_
  · rcases q with ⟨t, a, b⟩
    match t with
    | 0 => rfl
    | 1 => rfl
    | 2 => rfl
    | 3 => rfl
    | 4 => rfl
    | 5 =>
      obtain ⟨_, hb⟩ : a < zs_nk X.1 ∧ b < zs_pn X.1 a := hq
      have h1 := hI.1 a
      have h2 := hI.1 k
      have ha : 20 * a + b ≠ 20 * k + j := fun e => hne (by
        have e1 : a = k := by omega
        have e2 : b = j := by omega
        rw [e1, e2])
      have : vp_updL (zs_pc X.1) (20 * k + j) v (20 * a + b) = zs_pc X.1 (20 * a + b) := by simp [vp_updL, ha]
      show (.inr (3, [_, _, .long (vp_updL (zs_pc X.1) (20 * k + j) v (20 * a + b))]) : va_E) = _
      rw [this]
      rfl
    | 6 => rfl
    | 7 => rfl
    | 8 => rfl
    | n + 9 => rfl
  · show _ = (.inr (3, [_, _, .long (vp_updL (zs_pc X.1) (20 * k + j) v (20 * k + j))]) : va_E)
    have : vp_updL (zs_pc X.1) (20 * k + j) v (20 * k + j) = v := by simp [vp_updL]
    rw [this]
    rfl
/-- one row of the reference is written -/
theorem zs_R_mod {g : zk_G} {X : zs_X} {Z : zs_Z} {M : zk_M} (hR : zs_R g X Z M) (D : zs_S) (ps : Nat → Int64) (j : Nat) (hj : j < 16) (hc : ∀ i, i < 16 → i ≠ j → zs_mod g D ps Z i = zs_mod g X.2.1 X.2.2 Z i) {e : va_E} (he : e = zs_mod g D ps Z j) : zs_R g (X.1, D, ps) Z (zk_up M (Z (8, j, 0)) e) := by
  refine zs_R_write (X' := (X.1, D, ps)) hR (8, j, 0) ⟨hj, rfl⟩ (fun q => Iff.rfl) (fun q hq hne => ?_) he
  rcases q with ⟨t, a, b⟩
  match t with
  | 0 => rfl
  | 1 => rfl
  | 2 => rfl
  | 3 => rfl
  | 4 => rfl
  | 5 => rfl
  | 6 => rfl
  | 7 => rfl
  | 8 =>
  obtain ⟨h1, hb⟩ : a < 16 ∧ b = 0 := hq
  exact hc a h1 (fun e => hne (by rw [e, hb]))
  | n + 9 => rfl
end
section
theorem zs_prev_congr {n : Nat} {f h : Nat → Nat} (e : ∀ k, k + 1 = n → f k = h k) : zs_prev n f = zs_prev n h := by
  cases n with
  | zero => rfl
  | succ k => show some (f k) = some (h k); rw [e k rfl]
theorem zs_map_congr {o : Option Nat} {f h : Nat → Nat} (e : ∀ i, o = some i → f i = h i) : o.map f = o.map h := by
  cases o with
  | none => rfl
  | some i => show some (f i) = some (h i); rw [e i rfl]
theorem zs_lst_some {lp : Nat → Nat} {p : Nat} : ∀ {n i : Nat}, zs_lst lp p n = some i → i < n ∧ lp i = p ∧ ∀ j, i < j → j < n → lp j ≠ p := by
  intro n
  induction n with
  | zero => intro i h; cases h
  | succ n ih =>
    intro i h
    unfold zs_lst at h
    split at h
    · rename_i he
      cases h
      exact ⟨Nat.lt_succ_self _, he, fun j h1 h2 => by omega⟩
    · rename_i hne
      obtain ⟨h1, h2, h3⟩ := ih h
      refine ⟨by omega, h2, fun j g1 g2 => ?_⟩
      rcases Nat.eq_or_lt_of_le (Nat.le_of_lt_succ g2) with q | q
      · rw [q]; exact hne
      · exact h3 j g1 q
theorem zs_lst_none {lp : Nat → Nat} {p : Nat} : ∀ {n : Nat}, zs_lst lp p n = none → ∀ j, j < n → lp j ≠ p := by
  intro n
  induction n with
  | zero => intro _ j h; omega
  | succ n ih =>
    intro h j hj
    unfold zs_lst at h
    split at h
    · cases h
    · rename_i hne
      rcases Nat.eq_or_lt_of_le (Nat.le_of_lt_succ hj) with q | q
      · rw [q]; exact hne
      · exact ih h j q
theorem zs_lst_of {lp : Nat → Nat} {p : Nat} : ∀ {n : Nat}, (∀ j, j < n → lp j ≠ p) → zs_lst lp p n = none := by
  intro n
  induction n with
  | zero => intro _; rfl
  | succ n ih =>
    intro h
    unfold zs_lst
    rw [if_neg (h n (Nat.lt_succ_self _))]
    exact ih (fun j hj => h j (by omega))
theorem zs_fst_of {lp : Nat → Nat} {p : Nat} : ∀ {n a : Nat}, (∀ j, a ≤ j → j < a + n → lp j ≠ p) → zs_fst lp p a n = none := by
  intro n
  induction n with
  | zero => intro a _; rfl
  | succ n ih =>
    intro a h
    unfold zs_fst
    rw [if_neg (h a (Nat.le_refl _) (by omega))]
    exact ih (fun j h1 h2 => h j (by omega) (by omega))
theorem zs_fst_snoc {lp lp' : Nat → Nat} {p : Nat} : ∀ {n a : Nat}, (∀ j, a ≤ j → j < a + n → lp' j = lp j) → zs_fst lp' p a (n + 1) = (match zs_fst lp p a n with | some i => some i | none => if lp' (a + n) = p then some (a + n) else none) := by
  intro n
  induction n with
  | zero => intro a _; rfl
  | succ n ih =>
    intro a h
    show (if lp' a = p then some a else zs_fst lp' p (a + 1) (n + 1)) = (match (if lp a = p then some a else zs_fst lp p (a + 1) n) with | some i => some i | none => _)
    rw [h a (Nat.le_refl _) (by omega)]
    by_cases hp : lp a = p
    · simp [hp]
    · rw [if_neg hp, if_neg hp, ih (fun j h1 h2 => h j (by omega) (by omega))]
      rw [show a + 1 + n = a + (n + 1) by omega]
theorem zs_lst_snoc {lp lp' : Nat → Nat} {p : Nat} : ∀ {n : Nat}, (∀ j, j < n → lp' j = lp j) → zs_lst lp' p n = zs_lst lp p n := by
  intro n
  induction n with
  | zero => intro _; rfl
  | succ n ih =>
    intro h
    unfold zs_lst
    rw [h n (Nat.lt_succ_self _), ih (fun j hj => h j (by omega))]
/-- what a cell refers to are labels of the state: a new label changes none of them -/
theorem zs_cont_Zup {g : zk_G} {X : zs_X} {Z : zs_Z} {n : Nat} (hI : zs_I X.1 n) {lab : zs_L} (hlab : ¬ zs_ok X lab) (a : Nat) (q : zs_L) (hq : zs_ok X q) : zs_cont g X (zs_Zup Z lab a) q = zs_cont g X Z q := by
  have key : ∀ r, zs_ok X r → zs_Zup Z lab a r = Z r := fun r hr => zs_Zup_n Z a (fun e => hlab (e ▸ hr))
  have hnp : 0 < zs_np X.1 := hI.1.1
  rcases q with ⟨t, i, b⟩
  match t with
  | 0 =>
    show (.inr (5, [.ref (zs_Zup Z lab a (3, 0, 0)), .ref (zs_Zup Z lab a (1, 0, 0)), .ref (zs_Zup Z lab a (2, 0, 0)), va_rf (zs_prev (zs_nc X.1) (fun i => zs_Zup Z lab a (7, i, 0))), _, _]) : va_E) = _
    rw [key (3, 0, 0) ⟨hnp, rfl⟩, key (1, 0, 0) ⟨rfl, rfl⟩, key (2, 0, 0) ⟨rfl, rfl⟩, zs_prev_congr (h := fun i => Z (7, i, 0)) (fun k hk => key (7, k, 0) ⟨by omega, rfl⟩)]
    rfl
  | 1 =>
    show zk_aP g 24 (fun p => if p < zs_np X.1 then some (zs_Zup Z lab a (3, p, 0)) else none) = zk_aP g 24 _
    congr 6
    funext p
    by_cases hp : p < zs_np X.1
    · rw [if_pos hp, if_pos hp, key (3, p, 0) ⟨hp, rfl⟩]
    · rw [if_neg hp, if_neg hp]
  | 2 =>
    show zk_aQ g 12 (fun p => if p < zs_nk X.1 then some (zs_Zup Z lab a (4, p, 0)) else none) = zk_aQ g 12 _
    congr 6
    funext p
    by_cases hp : p < zs_nk X.1
    · rw [if_pos hp, if_pos hp, key (4, p, 0) ⟨hp, rfl⟩]
    · rw [if_neg hp, if_neg hp]
  | 3 =>
    show (.inr (2, [va_rf ((zs_nx X.1 i 0).map (fun i => zs_Zup Z lab a (6, i, 0))), va_rf ((zs_lst (zs_lp X.1) i (zs_nl X.1)).map (fun i => zs_Zup Z lab a (6, i, 0)))]) : va_E) = _
    rw [zs_map_congr (h := fun i => Z (6, i, 0)) (fun j hj => key (6, j, 0) ⟨(zs_nx_some hj).2.1, rfl⟩), zs_map_congr (o := zs_lst _ _ _) (h := fun i => Z (6, i, 0)) (fun j hj => key (6, j, 0) ⟨(zs_lst_some hj).1, rfl⟩)]
    rfl
  | 4 =>
    obtain ⟨h1, -⟩ : i < zs_nk X.1 ∧ b = 0 := hq
    show (.inr (0, [va_rf (zs_prev (zs_pn X.1 i) (fun j => zs_Zup Z lab a (5, i, j))), _, _]) : va_E) = _
    rw [zs_prev_congr (h := fun j => Z (5, i, j)) (fun k hk => key (5, i, k) ⟨h1, by omega⟩)]
    rfl
  | 5 =>
    obtain ⟨h1, h2⟩ : i < zs_nk X.1 ∧ b < zs_pn X.1 i := hq
    show (.inr (3, [_, va_rf (zs_prev b (fun j => zs_Zup Z lab a (5, i, j))), _]) : va_E) = _
    rw [zs_prev_congr (h := fun j => Z (5, i, j)) (fun k hk => key (5, i, k) ⟨h1, by omega⟩)]
    rfl
  | 6 =>
    obtain ⟨h1, h2⟩ : i < zs_nl X.1 ∧ b = 0 := hq
    show (.inr (1, [.ref (zs_Zup Z lab a (4, zs_lk X.1 i, 0)), _, _, _, va_rf ((zs_nx X.1 (zs_lp X.1 i) (i + 1)).map (fun i => zs_Zup Z lab a (6, i, 0)))]) : va_E) = _
    rw [key (4, zs_lk X.1 i, 0) ⟨(hI.2.2.1.1 i h1).2.1, rfl⟩, zs_map_congr (h := fun i => Z (6, i, 0)) (fun j hj => key (6, j, 0) ⟨(zs_nx_some hj).2.1, rfl⟩)]
    rfl
  | 7 =>
    obtain ⟨h1, h2⟩ : i < zs_nc X.1 ∧ b = 0 := hq
    obtain ⟨t1, t2, -⟩ := hI.2.2.2 i h1
    show (.inr (4, [_, _, .ref (zs_Zup Z lab a (3, zs_tp X.1 i, 0)), .ref (zs_Zup Z lab a (3, zs_tt X.1 i, 0)), va_rf (zs_prev i (fun i => zs_Zup Z lab a (7, i, 0)))]) : va_E) = _
    rw [key (3, zs_tp X.1 i, 0) ⟨t1, rfl⟩, key (3, zs_tt X.1 i, 0) ⟨t2, rfl⟩, zs_prev_congr (h := fun i => Z (7, i, 0)) (fun k hk => key (7, k, 0) ⟨by omega, rfl⟩)]
    rfl
  | 8 =>
    obtain ⟨h1, h2⟩ : i < 16 ∧ b = 0 := hq
    show zs_mod g X.2.1 X.2.2 (zs_Zup Z lab a) i = zs_mod g X.2.1 X.2.2 Z i
    match i with
    | 0 =>
      have k8 : ∀ j, j < 16 → zs_Zup Z lab a (8, j, 0) = Z (8, j, 0) := fun j hj => key (8, j, 0) ⟨hj, rfl⟩
      simp only [zs_mod, k8 1 (by decide), k8 2 (by decide), k8 3 (by decide), k8 4 (by decide), k8 5 (by decide), k8 6 (by decide), k8 7 (by decide), k8 8 (by decide), k8 9 (by decide), k8 10 (by decide), k8 11 (by decide), k8 12 (by decide), k8 13 (by decide), k8 14 (by decide), k8 15 (by decide)]
    | 1 => rfl
    | 2 => rfl
    | 3 => rfl
    | 4 => rfl
    | 5 => rfl
    | 6 => rfl
    | 7 => rfl
    | 8 => rfl
    | 9 => rfl
    | 10 => rfl
    | 11 => rfl
    | 12 => rfl
    | 13 => rfl
    | 14 => rfl
    | n + 15 => rfl
  | n + 9 => rfl
theorem zs_R_party {g : zk_G} {X : zs_X} {Z : zs_Z} {M M' : zk_M} {n a : Nat} (hR : zs_R g X Z M) (hI : zs_I X.1 n) (ha : M a = none) (hM : ∀ b, b ≠ a → b ≠ Z (1, 0, 0) → M' b = M b) (h1 : M' (Z (1, 0, 0)) = some (zk_aP g 24 (va_up (fun p => if p < zs_np X.1 then some (Z (3, p, 0)) else none) (zs_np X.1) (some a)))) (h2 : M' a = some (.inr (2, [.null, .null]))) : zs_R g (zs_np_ X.1 (zs_np X.1 + 1), X.2) (zs_Zup Z (3, zs_np X.1, 0) a) M' := by
  have hlab : ¬ zs_ok X (3, zs_np X.1, 0) := fun h => Nat.lt_irrefl _ h.1
  refine zs_R_new (X' := (zs_np_ X.1 (zs_np X.1 + 1), X.2)) hR (3, zs_np X.1, 0) ha hlab ?_ [(1, 0, 0)] (fun b hb hw => hM b hb (hw _ (by simp))) ?_ ?_ ?_ ?_
  · intro q
    rcases q with ⟨t, i, b⟩
    match t with
    | 3 =>
      show (i < zs_np X.1 + 1 ∧ b = 0) ↔ (i < zs_np X.1 ∧ b = 0) ∨ (3, i, b) = (3, zs_np X.1, 0)
      simp only [Prod.mk.injEq, true_and]
      omega
    | 0 | 1 | 2 | 4 | 5 | 6 | 7 | 8 => exact ⟨fun h => Or.inl h, fun h => h.elim id (fun e => by simp at e)⟩
    | n + 9 => exact ⟨fun h => Or.inl h, fun h => h.elim id (fun e => by simp at e)⟩
  · intro q hq hn
    rw [← zs_cont_Zup hI hlab a q hq]
    rcases q with ⟨t, i, b⟩
    match t with
    | 1 =>
      obtain ⟨e1, e2⟩ : i = 0 ∧ b = 0 := hq
      subst e1; subst e2
      exact absurd (by simp) hn
    | 0 | 2 | 3 | 4 | 5 | 6 | 7 | 8 => rfl
    | n + 9 => rfl
  · intro q hq
    rw [List.mem_singleton.mp hq]
    exact ⟨rfl, rfl⟩
  · intro q hq hw
    rw [List.mem_singleton.mp hw, h1]
    show some (zk_aP g 24 _) = some (zk_aP g 24 (fun p => if p < zs_np X.1 + 1 then some (zs_Zup Z (3, zs_np X.1, 0) a (3, p, 0)) else none))
    congr 7
    funext p
    by_cases hp : p < zs_np X.1
    · have hne : p ≠ zs_np X.1 := by omega
      have : zs_Zup Z (3, zs_np X.1, 0) a (3, p, 0) = Z (3, p, 0) := zs_Zup_n Z a (by simp [hne])
      simp only [va_up, if_neg hne, if_pos hp, if_pos (Nat.lt_succ_of_lt hp), this]
    · by_cases he : p = zs_np X.1
      · subst he
        simp only [va_up, if_true, Nat.lt_succ_self, zs_Zup_s]
      · simp only [va_up, if_neg he, if_neg hp, if_neg (show ¬ p < zs_np X.1 + 1 by omega)]
  · rw [h2]
    show _ = some (.inr (2, [va_rf ((zs_nx X.1 (zs_np X.1) 0).map _), va_rf ((zs_lst (zs_lp X.1) (zs_np X.1) (zs_nl X.1)).map _)]) : va_E)
    have hno : ∀ j, j < zs_nl X.1 → zs_lp X.1 j ≠ zs_np X.1 := fun j hj => by have := (hI.2.2.1.1 j hj).1; omega
    rw [show zs_nx X.1 (zs_np X.1) 0 = none from zs_fst_of (fun j _ h => hno j (by omega)), zs_lst_of hno]
    rfl
theorem zs_R_kind {g : zk_G} {X : zs_X} {Z : zs_Z} {M M' : zk_M} {n a : Nat} (hR : zs_R g X Z M) (hI : zs_I X.1 n) (ha : M a = none) (hM : ∀ b, b ≠ a → b ≠ Z (2, 0, 0) → M' b = M b) (h1 : M' (Z (2, 0, 0)) = some (zk_aQ g 12 (va_up (fun p => if p < zs_nk X.1 then some (Z (4, p, 0)) else none) (zs_nk X.1) (some a)))) (h2 : M' a = some (.inr (0, [.null, .long 0, .long 0]))) : zs_R g (zs_nk_ X.1 (zs_nk X.1 + 1), X.2) (zs_Zup Z (4, zs_nk X.1, 0) a) M' := by
  have hlab : ¬ zs_ok X (4, zs_nk X.1, 0) := fun h => Nat.lt_irrefl _ h.1
  refine zs_R_new (X' := (zs_nk_ X.1 (zs_nk X.1 + 1), X.2)) hR (4, zs_nk X.1, 0) ha hlab ?_ [(2, 0, 0)] (fun b hb hw => hM b hb (hw _ (by simp))) ?_ ?_ ?_ ?_
  · intro q
    rcases q with ⟨t, i, b⟩
    match t with
    | 4 =>
      show (i < zs_nk X.1 + 1 ∧ b = 0) ↔ (i < zs_nk X.1 ∧ b = 0) ∨ (4, i, b) = (4, zs_nk X.1, 0)
      simp only [Prod.mk.injEq, true_and]
      omega
    | 5 =>
      refine ⟨fun h => Or.inl ?_, fun h => h.elim (fun h => ⟨Nat.lt_succ_of_lt h.1, h.2⟩) (fun e => by simp at e)⟩
      obtain ⟨h5, h6⟩ : i < zs_nk X.1 + 1 ∧ b < zs_pn X.1 i := h
      refine ⟨?_, h6⟩
      rcases Nat.eq_or_lt_of_le (Nat.le_of_lt_succ h5) with e | e
      · rw [(hI.2.1.2.1 i (by omega)).1] at h6
        omega
      · exact e
    | 0 | 1 | 2 | 3 | 6 | 7 | 8 => exact ⟨fun h => Or.inl h, fun h => h.elim id (fun e => by simp at e)⟩
    | n + 9 => exact ⟨fun h => Or.inl h, fun h => h.elim id (fun e => by simp at e)⟩
  · intro q hq hn
    rw [← zs_cont_Zup hI hlab a q hq]
    rcases q with ⟨t, i, b⟩
    match t with
    | 2 =>
      obtain ⟨e1, e2⟩ : i = 0 ∧ b = 0 := hq
      subst e1; subst e2
      exact absurd (by simp) hn
    | 0 | 1 | 3 | 4 | 5 | 6 | 7 | 8 => rfl
    | n + 9 => rfl
  · intro q hq
    rw [List.mem_singleton.mp hq]
    exact ⟨rfl, rfl⟩
  · intro q hq hw
    rw [List.mem_singleton.mp hw, h1]
    show some (zk_aQ g 12 _) = some (zk_aQ g 12 (fun p => if p < zs_nk X.1 + 1 then some (zs_Zup Z (4, zs_nk X.1, 0) a (4, p, 0)) else none))
    congr 7
    funext p
    by_cases hp : p < zs_nk X.1
    · have hne : p ≠ zs_nk X.1 := by omega
      have : zs_Zup Z (4, zs_nk X.1, 0) a (4, p, 0) = Z (4, p, 0) := zs_Zup_n Z a (by simp [hne])
      simp only [va_up, if_neg hne, if_pos hp, if_pos (Nat.lt_succ_of_lt hp), this]
    · by_cases he : p = zs_nk X.1
      · subst he
        simp only [va_up, if_true, Nat.lt_succ_self, zs_Zup_s]
      · simp only [va_up, if_neg he, if_neg hp, if_neg (show ¬ p < zs_nk X.1 + 1 by omega)]
  · rw [h2]
    show _ = some (.inr (0, [va_rf (zs_prev (zs_pn X.1 (zs_nk X.1)) _), .long (zs_sh X.1 (zs_nk X.1)), .long (zs_rs X.1 (zs_nk X.1))]) : va_E)
    obtain ⟨e1, e2, e3⟩ := hI.2.1.2.1 (zs_nk X.1) (Nat.le_refl _)
    rw [e1, e2, e3]
    rfl
def zs_addp (S : zs_S) (k : Nat) (d c : Int64) : zs_S := (zs_np S, zs_nk S, zs_nl S, zs_nc S, zs_ck S, va_up (zs_pn S) k (zs_pn S k + 1), vp_updL (zs_pd S) (20 * k + zs_pn S k) d, vp_updL (zs_pc S) (20 * k + zs_pn S k) c, zs_sh S, zs_rs S, zs_lp S, zs_lk S, zs_ll S, zs_ld S, zs_lc S, zs_tp S, zs_tt S, zs_ta S, zs_td S)
/-- a price: a new one of kind k -/
theorem zs_R_price {g : zk_G} {X : zs_X} {Z : zs_Z} {M M' : zk_M} {n a k : Nat} (hR : zs_R g X Z M) (hI : zs_I X.1 n) (hk : k < zs_nk X.1) (hp : zs_pn X.1 k < 20) (d c : Int64) (ha : M a = none) (hM : ∀ b, b ≠ a → b ≠ Z (4, k, 0) → M' b = M b) (h1 : M' (Z (4, k, 0)) = some (.inr (0, [.ref a, .long (zs_sh X.1 k), .long (zs_rs X.1 k)]))) (h2 : M' a = some (.inr (3, [.long d, va_rf (zs_prev (zs_pn X.1 k) (fun j => Z (5, k, j))), .long c]))) : zs_R g (zs_addp X.1 k d c, X.2) (zs_Zup Z (5, k, zs_pn X.1 k) a) M' := by
  have hlab : ¬ zs_ok X (5, k, zs_pn X.1 k) := fun h => Nat.lt_irrefl _ h.2
  have hkey : ∀ r, zs_ok X r → zs_Zup Z (5, k, zs_pn X.1 k) a r = Z r := fun r hr => zs_Zup_n Z a (fun e => hlab (e ▸ hr))
  refine zs_R_new (X' := (zs_addp X.1 k d c, X.2)) hR (5, k, zs_pn X.1 k) ha hlab ?_ [(4, k, 0)] (fun b hb hw => hM b hb (hw _ (by simp))) ?_ ?_ ?_ ?_
  · intro q
    rcases q with ⟨t, i, b⟩
    match t with
    | 5 =>
      show (i < zs_nk X.1 ∧ b < va_up (zs_pn X.1) k (zs_pn X.1 k + 1) i) ↔ (i < zs_nk X.1 ∧ b < zs_pn X.1 i) ∨ (5, i, b) = (5, k, zs_pn X.1 k)
      simp only [Prod.mk.injEq, true_and]
      by_cases he : i = k
      · subst he
        simp only [va_up, if_true, true_and]
        constructor
        · intro h; rcases Nat.eq_or_lt_of_le (Nat.le_of_lt_succ h.2) with e | e
          · exact Or.inr e
          · exact Or.inl ⟨h.1, e⟩
        · intro h; rcases h with h | h
          · exact ⟨h.1, Nat.lt_succ_of_lt h.2⟩
          · exact ⟨hk, by omega⟩
      · simp only [va_up, he, false_and, or_false, if_false]
    | 0 | 1 | 2 | 3 | 4 | 6 | 7 | 8 => exact ⟨fun h => Or.inl h, fun h => h.elim id (fun e => by simp at e)⟩
    | n + 9 => exact ⟨fun h => Or.inl h, fun h => h.elim id (fun e => by simp at e)⟩
  · intro q hq hn
    rw [← zs_cont_Zup hI hlab a q hq]
    rcases q with ⟨t, i, b⟩
    match t with
    | 4 =>
      obtain ⟨e1, e2⟩ : i < zs_nk X.1 ∧ b = 0 := hq
      subst e2
      have he : i ≠ k := fun e => hn (by rw [e]; simp)
      show (.inr (0, [va_rf (zs_prev (va_up (zs_pn X.1) k (zs_pn X.1 k + 1) i) _), _, _]) : va_E) = _
      rw [show va_up (zs_pn X.1) k (zs_pn X.1 k + 1) i = zs_pn X.1 i by simp [va_up, he]]
      rfl
    | 5 =>
      obtain ⟨e1, e2⟩ : i < zs_nk X.1 ∧ b < zs_pn X.1 i := hq
      have h5 := hI.2.1.1 i
      have he : 20 * i + b ≠ 20 * k + zs_pn X.1 k := fun e => by
        have e1 : i = k := by omega
        subst e1
        omega
      show (.inr (3, [.long (vp_updL (zs_pd X.1) (20 * k + zs_pn X.1 k) d (20 * i + b)), _, .long (vp_updL (zs_pc X.1) (20 * k + zs_pn X.1 k) c (20 * i + b))]) : va_E) = _
      rw [show vp_updL (zs_pd X.1) (20 * k + zs_pn X.1 k) d (20 * i + b) = zs_pd X.1 (20 * i + b) by simp [vp_updL, he], show vp_updL (zs_pc X.1) (20 * k + zs_pn X.1 k) c (20 * i + b) = zs_pc X.1 (20 * i + b) by simp [vp_updL, he]]
      rfl
    | 0 | 1 | 2 | 3 | 6 | 7 | 8 => rfl
    | n + 9 => rfl
  · intro q hq
    rw [List.mem_singleton.mp hq]
    exact ⟨hk, rfl⟩
  · intro q hq hw
    rw [List.mem_singleton.mp hw, h1]
    show _ = some (.inr (0, [va_rf (zs_prev (va_up (zs_pn X.1) k (zs_pn X.1 k + 1) k) (fun j => zs_Zup Z (5, k, zs_pn X.1 k) a (5, k, j))), _, _]) : va_E)
    rw [show va_up (zs_pn X.1) k (zs_pn X.1 k + 1) k = zs_pn X.1 k + 1 by simp [va_up]]
    show _ = some (.inr (0, [va_rf (some (zs_Zup Z (5, k, zs_pn X.1 k) a (5, k, zs_pn X.1 k))), _, _]) : va_E)
    rw [zs_Zup_s]
    rfl
  · rw [h2]
    show _ = some (.inr (3, [.long (vp_updL (zs_pd X.1) (20 * k + zs_pn X.1 k) d (20 * k + zs_pn X.1 k)), va_rf (zs_prev (zs_pn X.1 k) (fun j => zs_Zup Z (5, k, zs_pn X.1 k) a (5, k, j))), .long (vp_updL (zs_pc X.1) (20 * k + zs_pn X.1 k) c (20 * k + zs_pn X.1 k))]) : va_E)
    rw [show vp_updL (zs_pd X.1) (20 * k + zs_pn X.1 k) d (20 * k + zs_pn X.1 k) = d by simp [vp_updL], show vp_updL (zs_pc X.1) (20 * k + zs_pn X.1 k) c (20 * k + zs_pn X.1 k) = c by simp [vp_updL], zs_prev_congr (h := fun j => Z (5, k, j)) (fun j hj => hkey (5, k, j) ⟨hk, by omega⟩)]
/-- a transfer of c cents on day d, from party x to party y -/
def zs_mv (S : zs_S) (x y : Nat) (c d : Int64) : zs_S := (zs_np S, zs_nk S, zs_nl S, zs_nc S + 1, d, zs_pn S, zs_pd S, zs_pc S, zs_sh S, zs_rs S, zs_lp S, zs_lk S, zs_ll S, zs_ld S, zs_lc S, va_up (zs_tp S) (zs_nc S) x, va_up (zs_tt S) (zs_nc S) y, vp_updL (zs_ta S) (zs_nc S) c, vp_updL (zs_td S) (zs_nc S) d)
theorem zs_R_move {g : zk_G} {X : zs_X} {Z : zs_Z} {M M' : zk_M} {n a x y : Nat} (hR : zs_R g X Z M) (hI : zs_I X.1 n) (hx : x < zs_np X.1) (hy : y < zs_np X.1) (c d : Int64) (ha : M a = none) (hM : ∀ b, b ≠ a → b ≠ Z (0, 0, 0) → M' b = M b) (h1 : M' (Z (0, 0, 0)) = some (.inr (5, [.ref (Z (3, 0, 0)), .ref (Z (1, 0, 0)), .ref (Z (2, 0, 0)), .ref a, .int (nI (zs_nc X.1 + 1)), .long d]))) (h2 : M' a = some (.inr (4, [.long d, .long c, .ref (Z (3, x, 0)), .ref (Z (3, y, 0)), va_rf (zs_prev (zs_nc X.1) (fun i => Z (7, i, 0)))]))) : zs_R g (zs_mv X.1 x y c d, X.2) (zs_Zup Z (7, zs_nc X.1, 0) a) M' := by
  have hlab : ¬ zs_ok X (7, zs_nc X.1, 0) := fun h => Nat.lt_irrefl _ h.1
  have hkey : ∀ r, zs_ok X r → zs_Zup Z (7, zs_nc X.1, 0) a r = Z r := fun r hr => zs_Zup_n Z a (fun e => hlab (e ▸ hr))
  have hnp : 0 < zs_np X.1 := hI.1.1
  refine zs_R_new (X' := (zs_mv X.1 x y c d, X.2)) hR (7, zs_nc X.1, 0) ha hlab ?_ [(0, 0, 0)] (fun b hb hw => hM b hb (hw _ (by simp))) ?_ ?_ ?_ ?_
  · intro q
    rcases q with ⟨t, i, b⟩
    match t with
    | 7 =>
      show (i < zs_nc X.1 + 1 ∧ b = 0) ↔ (i < zs_nc X.1 ∧ b = 0) ∨ (7, i, b) = (7, zs_nc X.1, 0)
      simp only [Prod.mk.injEq, true_and]
      omega
    | 0 | 1 | 2 | 3 | 4 | 5 | 6 | 8 => exact ⟨fun h => Or.inl h, fun h => h.elim id (fun e => by simp at e)⟩
    | n + 9 => exact ⟨fun h => Or.inl h, fun h => h.elim id (fun e => by simp at e)⟩
  · intro q hq hn
    rw [← zs_cont_Zup hI hlab a q hq]
    rcases q with ⟨t, i, b⟩
    match t with
    | 0 =>
      obtain ⟨e1, e2⟩ : i = 0 ∧ b = 0 := hq
      subst e1; subst e2
      exact absurd (by simp) hn
    | 7 =>
      obtain ⟨e1, e2⟩ : i < zs_nc X.1 ∧ b = 0 := hq
      have he : i ≠ zs_nc X.1 := by omega
      show (.inr (4, [.long (vp_updL (zs_td X.1) (zs_nc X.1) d i), .long (vp_updL (zs_ta X.1) (zs_nc X.1) c i), .ref (zs_Zup Z (7, zs_nc X.1, 0) a (3, va_up (zs_tp X.1) (zs_nc X.1) x i, 0)), .ref (zs_Zup Z (7, zs_nc X.1, 0) a (3, va_up (zs_tt X.1) (zs_nc X.1) y i, 0)), _]) : va_E) = _
      rw [show vp_updL (zs_td X.1) (zs_nc X.1) d i = zs_td X.1 i by simp [vp_updL, he], show vp_updL (zs_ta X.1) (zs_nc X.1) c i = zs_ta X.1 i by simp [vp_updL, he], show va_up (zs_tp X.1) (zs_nc X.1) x i = zs_tp X.1 i by simp [va_up, he], show va_up (zs_tt X.1) (zs_nc X.1) y i = zs_tt X.1 i by simp [va_up, he]]
      rfl
    | 1 | 2 | 3 | 4 | 5 | 6 | 8 => rfl
    | n + 9 => rfl
  · intro q hq
    rw [List.mem_singleton.mp hq]
    exact ⟨rfl, rfl⟩
  · intro q hq hw
    rw [List.mem_singleton.mp hw, h1]
    show _ = some (.inr (5, [.ref (zs_Zup Z (7, zs_nc X.1, 0) a (3, 0, 0)), .ref (zs_Zup Z (7, zs_nc X.1, 0) a (1, 0, 0)), .ref (zs_Zup Z (7, zs_nc X.1, 0) a (2, 0, 0)), .ref (zs_Zup Z (7, zs_nc X.1, 0) a (7, zs_nc X.1, 0)), _, _]) : va_E)
    rw [hkey (3, 0, 0) ⟨hnp, rfl⟩, hkey (1, 0, 0) ⟨rfl, rfl⟩, hkey (2, 0, 0) ⟨rfl, rfl⟩, zs_Zup_s]
    rfl
  · rw [h2]
    show _ = some (.inr (4, [.long (vp_updL (zs_td X.1) (zs_nc X.1) d (zs_nc X.1)), .long (vp_updL (zs_ta X.1) (zs_nc X.1) c (zs_nc X.1)), .ref (zs_Zup Z (7, zs_nc X.1, 0) a (3, va_up (zs_tp X.1) (zs_nc X.1) x (zs_nc X.1), 0)), .ref (zs_Zup Z (7, zs_nc X.1, 0) a (3, va_up (zs_tt X.1) (zs_nc X.1) y (zs_nc X.1), 0)), va_rf (zs_prev (zs_nc X.1) (fun i => zs_Zup Z (7, zs_nc X.1, 0) a (7, i, 0)))]) : va_E)
    rw [show vp_updL (zs_td X.1) (zs_nc X.1) d (zs_nc X.1) = d by simp [vp_updL], show vp_updL (zs_ta X.1) (zs_nc X.1) c (zs_nc X.1) = c by simp [vp_updL], show va_up (zs_tp X.1) (zs_nc X.1) x (zs_nc X.1) = x by simp [va_up], show va_up (zs_tt X.1) (zs_nc X.1) y (zs_nc X.1) = y by simp [va_up], hkey (3, x, 0) ⟨hx, rfl⟩, hkey (3, y, 0) ⟨hy, rfl⟩, zs_prev_congr (h := fun i => Z (7, i, 0)) (fun j hj => hkey (7, j, 0) ⟨by omega, rfl⟩)]
/-- a layer of party p, kind k -/
def zs_lay (S : zs_S) (p k : Nat) (n d c : Int64) : zs_S := (zs_np S, zs_nk S, zs_nl S + 1, zs_nc S, zs_ck S, zs_pn S, zs_pd S, zs_pc S, zs_sh S, zs_rs S, va_up (zs_lp S) (zs_nl S) p, va_up (zs_lk S) (zs_nl S) k, vp_updL (zs_ll S) (zs_nl S) n, vp_updL (zs_ld S) (zs_nl S) d, vp_updL (zs_lc S) (zs_nl S) c, zs_tp S, zs_tt S, zs_ta S, zs_td S)
theorem zs_lay_nx {S : zs_S} {p k : Nat} {n d c : Int64} (q a : Nat) (h : a ≤ zs_nl S) : zs_nx (zs_lay S p k n d c) q a = (match zs_nx S q a with | some i => some i | none => if p = q then some (zs_nl S) else none) := by
  show zs_fst (va_up (zs_lp S) (zs_nl S) p) q a (zs_nl S + 1 - a) = _
  rw [show zs_nl S + 1 - a = (zs_nl S - a) + 1 by omega, zs_fst_snoc (lp := zs_lp S) (fun j h1 h2 => by simp [va_up, show j ≠ zs_nl S by omega]), show a + (zs_nl S - a) = zs_nl S by omega]
  simp only [va_up, if_true]
  rfl
theorem zs_lay_lst {S : zs_S} {p k : Nat} {n d c : Int64} (q : Nat) : zs_lst (zs_lp (zs_lay S p k n d c)) q (zs_nl (zs_lay S p k n d c)) = if p = q then some (zs_nl S) else zs_lst (zs_lp S) q (zs_nl S) := by
  show zs_lst (va_up (zs_lp S) (zs_nl S) p) q (zs_nl S + 1) = _
  show (if va_up (zs_lp S) (zs_nl S) p (zs_nl S) = q then some (zs_nl S) else zs_lst (va_up (zs_lp S) (zs_nl S) p) q (zs_nl S)) = _
  rw [show va_up (zs_lp S) (zs_nl S) p (zs_nl S) = p by simp [va_up], zs_lst_snoc (lp := zs_lp S) (fun j hj => by simp [va_up, show j ≠ zs_nl S by omega])]
theorem zs_R_lay {g : zk_G} {X : zs_X} {Z : zs_Z} {M M' : zk_M} {n a p k : Nat} (hR : zs_R g X Z M) (hI : zs_I X.1 n) (hp : p < zs_np X.1) (hk : k < zs_nk X.1) (m d c : Int64) (ha : M a = none) (hM : ∀ b, b ≠ a → b ≠ Z (3, p, 0) → (∀ i, zs_lst (zs_lp X.1) p (zs_nl X.1) = some i → b ≠ Z (6, i, 0)) → M' b = M b)
    (h1 : M' (Z (3, p, 0)) = some (.inr (2, [va_rf (match zs_lst (zs_lp X.1) p (zs_nl X.1) with | none => some a | some _ => (zs_nx X.1 p 0).map (fun i => Z (6, i, 0))), .ref a])))
    (h3 : ∀ i, zs_lst (zs_lp X.1) p (zs_nl X.1) = some i → M' (Z (6, i, 0)) = some (.inr (1, [.ref (Z (4, zs_lk X.1 i, 0)), .long (zs_ld X.1 i), .long (zs_lc X.1 i), .long (zs_ll X.1 i), .ref a])))
    (h2 : M' a = some (.inr (1, [.ref (Z (4, k, 0)), .long d, .long c, .long m, .null]))) : zs_R g (zs_lay X.1 p k m d c, X.2) (zs_Zup Z (6, zs_nl X.1, 0) a) M' := by
  have hlab : ¬ zs_ok X (6, zs_nl X.1, 0) := fun h => Nat.lt_irrefl _ h.1
  have hkey : ∀ r, zs_ok X r → zs_Zup Z (6, zs_nl X.1, 0) a r = Z r := fun r hr => zs_Zup_n Z a (fun e => hlab (e ▸ hr))
  refine zs_R_new (X' := (zs_lay X.1 p k m d c, X.2)) hR (6, zs_nl X.1, 0) ha hlab ?_ ((3, p, 0) :: (zs_lst (zs_lp X.1) p (zs_nl X.1)).toList.map (fun i => (6, i, 0))) (fun b hb hw => hM b hb (hw _ (by simp)) (fun i hi => hw _ (by simp [hi]))) ?_ ?_ ?_ ?_
  · intro q
    rcases q with ⟨t, i, b⟩
    match t with
    | 6 =>
      show (i < zs_nl X.1 + 1 ∧ b = 0) ↔ (i < zs_nl X.1 ∧ b = 0) ∨ (6, i, b) = (6, zs_nl X.1, 0)
      simp only [Prod.mk.injEq, true_and]
      omega
    | 0 | 1 | 2 | 3 | 4 | 5 | 7 | 8 => exact ⟨fun h => Or.inl h, fun h => h.elim id (fun e => by simp at e)⟩
    | n + 9 => exact ⟨fun h => Or.inl h, fun h => h.elim id (fun e => by simp at e)⟩
  · intro q hq hn
    rw [← zs_cont_Zup hI hlab a q hq]
    rcases q with ⟨t, i, b⟩
    match t with
    | 3 =>
      obtain ⟨e1, e2⟩ : i < zs_np X.1 ∧ b = 0 := hq
      subst e2
      have he : ¬ p = i := fun e => hn (by rw [e]; simp)
      show (.inr (2, [va_rf ((zs_nx (zs_lay X.1 p k m d c) i 0).map _), va_rf ((zs_lst (zs_lp (zs_lay X.1 p k m d c)) i (zs_nl (zs_lay X.1 p k m d c))).map _)]) : va_E) = _
      rw [zs_lay_nx i 0 (Nat.zero_le _), zs_lay_lst, if_neg he, if_neg he]
      cases hx : zs_nx X.1 i 0 with
      | none => show _ = (.inr (2, [va_rf ((zs_nx X.1 i 0).map _), _]) : va_E); rw [hx]
      | some j => show _ = (.inr (2, [va_rf ((zs_nx X.1 i 0).map _), _]) : va_E); rw [hx]
    | 6 =>
      obtain ⟨e1, e2⟩ : i < zs_nl X.1 ∧ b = 0 := hq
      subst e2
      have he : i ≠ zs_nl X.1 := by omega
      show (.inr (1, [.ref (zs_Zup Z (6, zs_nl X.1, 0) a (4, va_up (zs_lk X.1) (zs_nl X.1) k i, 0)), .long (vp_updL (zs_ld X.1) (zs_nl X.1) d i), .long (vp_updL (zs_lc X.1) (zs_nl X.1) c i), .long (vp_updL (zs_ll X.1) (zs_nl X.1) m i), va_rf ((zs_nx (zs_lay X.1 p k m d c) (va_up (zs_lp X.1) (zs_nl X.1) p i) (i + 1)).map _)]) : va_E) = (.inr (1, [.ref (zs_Zup Z (6, zs_nl X.1, 0) a (4, zs_lk X.1 i, 0)), .long (zs_ld X.1 i), .long (zs_lc X.1 i), .long (zs_ll X.1 i), va_rf ((zs_nx X.1 (zs_lp X.1 i) (i + 1)).map _)]) : va_E)
      rw [show vp_updL (zs_ld X.1) (zs_nl X.1) d i = zs_ld X.1 i by simp [vp_updL, he], show vp_updL (zs_lc X.1) (zs_nl X.1) c i = zs_lc X.1 i by simp [vp_updL, he], show vp_updL (zs_ll X.1) (zs_nl X.1) m i = zs_ll X.1 i by simp [vp_updL, he], show va_up (zs_lk X.1) (zs_nl X.1) k i = zs_lk X.1 i by simp [va_up, he], show va_up (zs_lp X.1) (zs_nl X.1) p i = zs_lp X.1 i by simp [va_up, he], zs_lay_nx _ (i + 1) (by omega)]
      cases hx : zs_nx X.1 (zs_lp X.1 i) (i + 1) with
      | some j => rfl
      | none =>
        have hpi : ¬ p = zs_lp X.1 i := fun e => by
          refine hn ?_
          have hl : zs_lst (zs_lp X.1) p (zs_nl X.1) = some i := by
            cases hl : zs_lst (zs_lp X.1) p (zs_nl X.1) with
            | none => exact absurd e.symm (zs_lst_none hl i e1)
            | some j =>
              obtain ⟨g1, g2, g3⟩ := zs_lst_some hl
              rcases Nat.lt_trichotomy j i with q | q | q
              · exact absurd e.symm (g3 i q e1)
              · rw [q]
              · exact absurd (g2.trans e) (zs_nx_none hx j q g1)
          simp [hl]
        simp only [if_neg hpi]
    | 0 | 1 | 2 | 4 | 5 | 7 | 8 => rfl
    | n + 9 => rfl
  · intro q hq
    rcases List.mem_cons.mp hq with h | h
    · rw [h]; exact ⟨hp, rfl⟩
    · obtain ⟨i, hi, rfl⟩ := List.mem_map.mp h
      exact ⟨(zs_lst_some (by simpa using hi)).1, rfl⟩
  · intro q hq hw
    rcases List.mem_cons.mp hw with h | h
    · rw [h, h1]
      show _ = some (.inr (2, [va_rf ((zs_nx (zs_lay X.1 p k m d c) p 0).map (fun i => zs_Zup Z (6, zs_nl X.1, 0) a (6, i, 0))), va_rf ((zs_lst (zs_lp (zs_lay X.1 p k m d c)) p (zs_nl (zs_lay X.1 p k m d c))).map (fun i => zs_Zup Z (6, zs_nl X.1, 0) a (6, i, 0)))]) : va_E)
      rw [zs_lay_nx p 0 (Nat.zero_le _), zs_lay_lst]
      simp only [if_true]
      cases hl : zs_lst (zs_lp X.1) p (zs_nl X.1) with
      | none =>
        rw [show zs_nx X.1 p 0 = none from zs_fst_of (fun j _ h => zs_lst_none hl j (by omega))]
        simp only [Option.map_some, zs_Zup_s]
        rfl
      | some j =>
        obtain ⟨g1, g2, g3⟩ := zs_lst_some hl
        cases hx : zs_nx X.1 p 0 with
        | none => exact absurd g2 (zs_nx_none hx j (Nat.zero_le _) g1)
        | some j2 =>
          simp only [Option.map_some, zs_Zup_s]
          rw [hkey (6, j2, 0) ⟨(zs_nx_some hx).2.1, rfl⟩]
          rfl
    · obtain ⟨i, hi, rfl⟩ := List.mem_map.mp h
      have hl : zs_lst (zs_lp X.1) p (zs_nl X.1) = some i := by simpa using hi
      obtain ⟨g1, g2, g3⟩ := zs_lst_some hl
      have he : i ≠ zs_nl X.1 := by omega
      rw [h3 i hl]
      show _ = some (.inr (1, [.ref (zs_Zup Z (6, zs_nl X.1, 0) a (4, va_up (zs_lk X.1) (zs_nl X.1) k i, 0)), .long (vp_updL (zs_ld X.1) (zs_nl X.1) d i), .long (vp_updL (zs_lc X.1) (zs_nl X.1) c i), .long (vp_updL (zs_ll X.1) (zs_nl X.1) m i), va_rf ((zs_nx (zs_lay X.1 p k m d c) (va_up (zs_lp X.1) (zs_nl X.1) p i) (i + 1)).map (fun i => zs_Zup Z (6, zs_nl X.1, 0) a (6, i, 0)))]) : va_E)
      rw [show vp_updL (zs_ld X.1) (zs_nl X.1) d i = zs_ld X.1 i by simp [vp_updL, he], show vp_updL (zs_lc X.1) (zs_nl X.1) c i = zs_lc X.1 i by simp [vp_updL, he], show vp_updL (zs_ll X.1) (zs_nl X.1) m i = zs_ll X.1 i by simp [vp_updL, he], show va_up (zs_lk X.1) (zs_nl X.1) k i = zs_lk X.1 i by simp [va_up, he], show va_up (zs_lp X.1) (zs_nl X.1) p i = p by simp [va_up, he, g2], zs_lay_nx _ (i + 1) (by omega), show zs_nx X.1 p (i + 1) = none from zs_fst_of (fun j h4 h5 => g3 j (by omega) (by omega)), hkey (4, zs_lk X.1 i, 0) ⟨(hI.2.2.1.1 i g1).2.1, rfl⟩]
      simp only [if_true, Option.map_some, zs_Zup_s]
      rfl
  · rw [h2]
    show _ = some (.inr (1, [.ref (zs_Zup Z (6, zs_nl X.1, 0) a (4, va_up (zs_lk X.1) (zs_nl X.1) k (zs_nl X.1), 0)), .long (vp_updL (zs_ld X.1) (zs_nl X.1) d (zs_nl X.1)), .long (vp_updL (zs_lc X.1) (zs_nl X.1) c (zs_nl X.1)), .long (vp_updL (zs_ll X.1) (zs_nl X.1) m (zs_nl X.1)), va_rf ((zs_nx (zs_lay X.1 p k m d c) (va_up (zs_lp X.1) (zs_nl X.1) p (zs_nl X.1)) (zs_nl X.1 + 1)).map _)]) : va_E)
    rw [show vp_updL (zs_ld X.1) (zs_nl X.1) d (zs_nl X.1) = d by simp [vp_updL], show vp_updL (zs_lc X.1) (zs_nl X.1) c (zs_nl X.1) = c by simp [vp_updL], show vp_updL (zs_ll X.1) (zs_nl X.1) m (zs_nl X.1) = m by simp [vp_updL], show va_up (zs_lk X.1) (zs_nl X.1) k (zs_nl X.1) = k by simp [va_up], show zs_nx (zs_lay X.1 p k m d c) (va_up (zs_lp X.1) (zs_nl X.1) p (zs_nl X.1)) (zs_nl X.1 + 1) = none from zs_fst_of (fun j h4 h5 => absurd h5 (by show ¬ j < zs_nl X.1 + 1 + (zs_nl X.1 + 1 - (zs_nl X.1 + 1)); omega)), hkey (4, k, 0) ⟨hk, rfl⟩]
    rfl
end
section
def zk_chg (M : zk_M) (a : Nat) (e : va_E) (u : zk_M) : Prop := u a = some e ∧ ∀ b, b ≠ a → u b = M b
/-- what transfer i changes of party p's balance -/
def zs_chg (S : zs_S) (p i : Nat) : Int64 := if zs_tp S i = p then -zs_ta S i else if zs_tt S i = p then zs_ta S i else 0
theorem inw_wsX3_init_3 : ∀ w ∈ u_ws RX3 TX3 3, w ∈ wsX3_init := by decide +kernel
set_option maxHeartbeats 4000000 in
set_option maxRecDepth 100000 in
theorem zc_X3_init_n (l : Launch) {g : zk_G} {z : Nat} {M : zk_M} {a : Nat} (dy ct : Int64) (hm : M a = some (.inr (3, [.long 0, .null, .long 0]))) : Met l yX3_init wsX3_init ({ frames := 1, cells := 0, slots := 0, locals := 12 } : Room) (va_Pc [.ref a, .long dy, .long ct, .null] (zk_U g z M)) (va_Qv (fun u => zk_chg M a (.inr (3, [.long dy, .null, .long ct])) u) (zk_B g z) (fun q => z ≤ q)) 0 0 (fun q => z ≤ q) := by
  refine Met.ofW (cc := cX3_init) (maxL := 6) (ret := none) (by decide) rfl ?_
  intro P0 e0 s m0 args below meth c0 s₁ B hml hv
  obtain ⟨rfl, hH, hK, hN⟩ := hv
  have hx := B.exec
  have hb := B.bytes
  have hr := B.returns
  have hts := atoms_spec (ws := wsX3_init) B.pre
  have hown : s.vm.findClass RX3 = some m0.cls := findClass_of_methodNamed B.named
  have hlocks := B.notSynchronized
  have hin2 : meth.name = "<init>" := (name_of_methodNamed B.named B.method).1
  have hS : va_S (fun q => z ≤ q) s.heap s.heap [] := va_S.rf
  have hl := lv_entry ([.ref a, .long dy, .long ct, .null]) (n := 6) (Nat.le_of_ble_eq_true rfl)
  rw [lg_entry_eq]
  generalize (lg_sl ([.ref a, .long dy, .long ct, .null]) ++ List.replicate (6 - (lg_sl ([.ref a, .long dy, .long ct, .null])).length) Slot.unset).toArray = ls at hl ⊢
  have hl : lv_has ls 6 [(0, .ref a), (1, .long dy), (3, .long ct), (5, .null)] := hl
  refine lv_aload_n hx hb dX3_init_0 rfl (lv_at hl 0 rfl) ?_
  refine W.objInit hx hb hown (hts (.methodLink RX3 1 objectInit) (by decide +kernel)) (hts (.instanceMethod objectInit) (by decide +kernel)) (hts (.code objectInit ⟨#[0xb1]⟩ 1 none) (by decide +kernel)) rfl (by rw [hml]; exact hl.1) rfl dX3_init_1 (Nat.le_of_ble_eq_true rfl) (Nat.le_of_ble_eq_true rfl) ?_
  refine W.eq (g2 := F0 m0 4 ls []) rfl ?_
  refine lv_aload_n hx hb dX3_init_4 rfl (lv_at hl 0 rfl) ?_
  refine lv_lload_n hx hb dX3_init_5 rfl (lv_at hl 1 rfl) ?_
  refine zk_putF (ci := 3) (v := .long dy) (C := RX3) (T := TX3) (N := 3) hx hb hts inw_wsX3_init_3 tyX3 tyX3_ok nmX3 hown hK hH hS hm rfl 0 (by decide) (hts (.fieldLink RX3 7 "KegDeposits$Price" "day" "J") (by decide +kernel)) rfl hin2 rfl rfl rfl (Nat.le_of_ble_eq_true rfl) dX3_init_6 (fun H locs hH hS => ?_)
  obtain ⟨M_6, eM_6⟩ : ∃ w_0 : zk_M, w_0 = zk_up M a (.inr (3, [.long dy, .null, .long 0])) := ⟨_, rfl⟩
  have hH : zk_H g z M_6 H := by rw [eM_6]; exact hH
  have e_6 : M_6 a = some (.inr (3, [.long dy, .null, .long 0])) := by rw [eM_6]; exact zk_up_s _ _ _
  refine lv_aload_n hx hb dX3_init_9 rfl (lv_at hl 0 rfl) ?_
  refine lv_lload_n hx hb dX3_init_10 rfl (lv_at hl 2 rfl) ?_
  refine zk_put (ci := 3) (v := .long ct) (C := RX3) (T := TX3) (N := 3) hx hb hts inw_wsX3_init_3 tyX3 tyX3_ok nmX3 hown hK hH hS e_6 rfl 2 (by decide) (hts (.fieldLink RX3 13 "KegDeposits$Price" "cents" "J") (by decide +kernel)) rfl rfl rfl (Nat.le_of_ble_eq_true rfl) dX3_init_11 (fun H locs hH hS => ?_)
  obtain ⟨M_11, eM_11⟩ : ∃ w_0 : zk_M, w_0 = zk_up M_6 a (.inr (3, [.long dy, .null, .long ct])) := ⟨_, rfl⟩
  have hH : zk_H g z M_11 H := by rw [eM_11]; exact hH
  have e_11 : M_11 a = some (.inr (3, [.long dy, .null, .long ct])) := by rw [eM_11]; exact zk_up_s _ _ _
  refine lv_aload_n hx hb dX3_init_14 rfl (lv_at hl 0 rfl) ?_
  refine lv_aloadN hx hb dX3_init_15 (lv_at hl 3 rfl) ?_
  refine zk_putF (ci := 3) (v := .null) (C := RX3) (T := TX3) (N := 3) hx hb hts inw_wsX3_init_3 tyX3 tyX3_ok nmX3 hown hK hH hS e_11 rfl 1 (by decide) (hts (.fieldLink RX3 16 "KegDeposits$Price" "next" "LKegDeposits$Price;") (by decide +kernel)) rfl hin2 rfl rfl rfl (Nat.le_of_ble_eq_true rfl) dX3_init_17 (fun H locs hH hS => ?_)
  obtain ⟨M_17, eM_17⟩ : ∃ w_0 : zk_M, w_0 = zk_up M_11 a (.inr (3, [.long dy, .null, .long ct])) := ⟨_, rfl⟩
  have hH : zk_H g z M_17 H := by rw [eM_17]; exact hH
  have e_17 : M_17 a = some (.inr (3, [.long dy, .null, .long ct])) := by rw [eM_17]; exact zk_up_s _ _ _
  exact zk_vret hx hb hr hlocks hH hS (by decide) (by decide) ⟨e_17, fun b hb => by rw [eM_17, zk_up_n _ _ hb, eM_11, zk_up_n _ _ hb, eM_6, zk_up_n _ _ hb]⟩ dX3_init_20

set_option maxHeartbeats 4000000 in
set_option maxRecDepth 100000 in
theorem zc_X3_init_s (l : Launch) {g : zk_G} {z : Nat} {M : zk_M} {a : Nat} (dy ct : Int64) (x : Nat) (hm : M a = some (.inr (3, [.long 0, .null, .long 0]))) : Met l yX3_init wsX3_init ({ frames := 1, cells := 0, slots := 0, locals := 12 } : Room) (va_Pc [.ref a, .long dy, .long ct, .ref x] (zk_U g z M)) (va_Qv (fun u => zk_chg M a (.inr (3, [.long dy, .ref x, .long ct])) u) (zk_B g z) (fun q => z ≤ q)) 0 0 (fun q => z ≤ q) := by
  refine Met.ofW (cc := cX3_init) (maxL := 6) (ret := none) (by decide) rfl ?_
  intro P0 e0 s m0 args below meth c0 s₁ B hml hv
  obtain ⟨rfl, hH, hK, hN⟩ := hv
  have hx := B.exec
  have hb := B.bytes
  have hr := B.returns
  have hts := atoms_spec (ws := wsX3_init) B.pre
  have hown : s.vm.findClass RX3 = some m0.cls := findClass_of_methodNamed B.named
  have hlocks := B.notSynchronized
  have hin2 : meth.name = "<init>" := (name_of_methodNamed B.named B.method).1
  have hS : va_S (fun q => z ≤ q) s.heap s.heap [] := va_S.rf
  have hl := lv_entry ([.ref a, .long dy, .long ct, .ref x]) (n := 6) (Nat.le_of_ble_eq_true rfl)
  rw [lg_entry_eq]
  generalize (lg_sl ([.ref a, .long dy, .long ct, .ref x]) ++ List.replicate (6 - (lg_sl ([.ref a, .long dy, .long ct, .ref x])).length) Slot.unset).toArray = ls at hl ⊢
  have hl : lv_has ls 6 [(0, .ref a), (1, .long dy), (3, .long ct), (5, .ref x)] := hl
  refine lv_aload_n hx hb dX3_init_0 rfl (lv_at hl 0 rfl) ?_
  refine W.objInit hx hb hown (hts (.methodLink RX3 1 objectInit) (by decide +kernel)) (hts (.instanceMethod objectInit) (by decide +kernel)) (hts (.code objectInit ⟨#[0xb1]⟩ 1 none) (by decide +kernel)) rfl (by rw [hml]; exact hl.1) rfl dX3_init_1 (Nat.le_of_ble_eq_true rfl) (Nat.le_of_ble_eq_true rfl) ?_
  refine W.eq (g2 := F0 m0 4 ls []) rfl ?_
  refine lv_aload_n hx hb dX3_init_4 rfl (lv_at hl 0 rfl) ?_
  refine lv_lload_n hx hb dX3_init_5 rfl (lv_at hl 1 rfl) ?_
  refine zk_putF (ci := 3) (v := .long dy) (C := RX3) (T := TX3) (N := 3) hx hb hts inw_wsX3_init_3 tyX3 tyX3_ok nmX3 hown hK hH hS hm rfl 0 (by decide) (hts (.fieldLink RX3 7 "KegDeposits$Price" "day" "J") (by decide +kernel)) rfl hin2 rfl rfl rfl (Nat.le_of_ble_eq_true rfl) dX3_init_6 (fun H locs hH hS => ?_)
  obtain ⟨M_6, eM_6⟩ : ∃ w_0 : zk_M, w_0 = zk_up M a (.inr (3, [.long dy, .null, .long 0])) := ⟨_, rfl⟩
  have hH : zk_H g z M_6 H := by rw [eM_6]; exact hH
  have e_6 : M_6 a = some (.inr (3, [.long dy, .null, .long 0])) := by rw [eM_6]; exact zk_up_s _ _ _
  refine lv_aload_n hx hb dX3_init_9 rfl (lv_at hl 0 rfl) ?_
  refine lv_lload_n hx hb dX3_init_10 rfl (lv_at hl 2 rfl) ?_
  refine zk_put (ci := 3) (v := .long ct) (C := RX3) (T := TX3) (N := 3) hx hb hts inw_wsX3_init_3 tyX3 tyX3_ok nmX3 hown hK hH hS e_6 rfl 2 (by decide) (hts (.fieldLink RX3 13 "KegDeposits$Price" "cents" "J") (by decide +kernel)) rfl rfl rfl (Nat.le_of_ble_eq_true rfl) dX3_init_11 (fun H locs hH hS => ?_)
  obtain ⟨M_11, eM_11⟩ : ∃ w_0 : zk_M, w_0 = zk_up M_6 a (.inr (3, [.long dy, .null, .long ct])) := ⟨_, rfl⟩
  have hH : zk_H g z M_11 H := by rw [eM_11]; exact hH
  have e_11 : M_11 a = some (.inr (3, [.long dy, .null, .long ct])) := by rw [eM_11]; exact zk_up_s _ _ _
  refine lv_aload_n hx hb dX3_init_14 rfl (lv_at hl 0 rfl) ?_
  refine lv_aload hx hb dX3_init_15 (lv_at hl 3 rfl) ?_
  refine zk_putF (ci := 3) (v := .ref x) (C := RX3) (T := TX3) (N := 3) hx hb hts inw_wsX3_init_3 tyX3 tyX3_ok nmX3 hown hK hH hS e_11 rfl 1 (by decide) (hts (.fieldLink RX3 16 "KegDeposits$Price" "next" "LKegDeposits$Price;") (by decide +kernel)) rfl hin2 rfl rfl rfl (Nat.le_of_ble_eq_true rfl) dX3_init_17 (fun H locs hH hS => ?_)
  obtain ⟨M_17, eM_17⟩ : ∃ w_0 : zk_M, w_0 = zk_up M_11 a (.inr (3, [.long dy, .ref x, .long ct])) := ⟨_, rfl⟩
  have hH : zk_H g z M_17 H := by rw [eM_17]; exact hH
  have e_17 : M_17 a = some (.inr (3, [.long dy, .ref x, .long ct])) := by rw [eM_17]; exact zk_up_s _ _ _
  exact zk_vret hx hb hr hlocks hH hS (by decide) (by decide) ⟨e_17, fun b hb => by rw [eM_17, zk_up_n _ _ hb, eM_11, zk_up_n _ _ hb, eM_6, zk_up_n _ _ hb]⟩ dX3_init_20

theorem zc_X3_init (l : Launch) {g : zk_G} {z : Nat} {M : zk_M} {a : Nat} (dy ct : Int64) (r : Option Nat) (hm : M a = some (.inr (3, [.long 0, .null, .long 0]))) : Met l yX3_init wsX3_init ({ frames := 1, cells := 0, slots := 0, locals := 12 } : Room) (va_Pc [.ref a, .long dy, .long ct, va_rf r] (zk_U g z M)) (va_Qv (fun u => zk_chg M a (.inr (3, [.long dy, va_rf r, .long ct])) u) (zk_B g z) (fun q => z ≤ q)) 0 0 (fun q => z ≤ q) := by
  cases r with
  | none => exact zc_X3_init_n l dy ct hm
  | some x => exact zc_X3_init_s l dy ct x hm

theorem inw_wsX1_init_1 : ∀ w ∈ u_ws RX1 TX1 5, w ∈ wsX1_init := by decide +kernel
set_option maxHeartbeats 4000000 in
set_option maxRecDepth 100000 in
theorem zc_X1_init (l : Launch) {g : zk_G} {z : Nat} {M : zk_M} {a k : Nat} (dy pc ct : Int64) (hm : M a = some (.inr (1, [.null, .long 0, .long 0, .long 0, .null]))) : Met l yX1_init wsX1_init ({ frames := 1, cells := 0, slots := 0, locals := 12 } : Room) (va_Pc [.ref a, .ref k, .long dy, .long pc, .long ct] (zk_U g z M)) (va_Qv (fun u => zk_chg M a (.inr (1, [.ref k, .long dy, .long ct, .long pc, .null])) u) (zk_B g z) (fun q => z ≤ q)) 0 0 (fun q => z ≤ q) := by
  refine Met.ofW (cc := cX1_init) (maxL := 8) (ret := none) (by decide) rfl ?_
  intro P0 e0 s m0 args below meth c0 s₁ B hml hv
  obtain ⟨rfl, hH, hK, hN⟩ := hv
  have hx := B.exec
  have hb := B.bytes
  have hr := B.returns
  have hts := atoms_spec (ws := wsX1_init) B.pre
  have hown : s.vm.findClass RX1 = some m0.cls := findClass_of_methodNamed B.named
  have hlocks := B.notSynchronized
  have hin2 : meth.name = "<init>" := (name_of_methodNamed B.named B.method).1
  have hS : va_S (fun q => z ≤ q) s.heap s.heap [] := va_S.rf
  have hl := lv_entry ([.ref a, .ref k, .long dy, .long pc, .long ct]) (n := 8) (Nat.le_of_ble_eq_true rfl)
  rw [lg_entry_eq]
  generalize (lg_sl ([.ref a, .ref k, .long dy, .long pc, .long ct]) ++ List.replicate (8 - (lg_sl ([.ref a, .ref k, .long dy, .long pc, .long ct])).length) Slot.unset).toArray = ls at hl ⊢
  have hl : lv_has ls 8 [(0, .ref a), (1, .ref k), (2, .long dy), (4, .long pc), (6, .long ct)] := hl
  refine lv_aload_n hx hb dX1_init_0 rfl (lv_at hl 0 rfl) ?_
  refine W.objInit hx hb hown (hts (.methodLink RX1 1 objectInit) (by decide +kernel)) (hts (.instanceMethod objectInit) (by decide +kernel)) (hts (.code objectInit ⟨#[0xb1]⟩ 1 none) (by decide +kernel)) rfl (by rw [hml]; exact hl.1) rfl dX1_init_1 (Nat.le_of_ble_eq_true rfl) (Nat.le_of_ble_eq_true rfl) ?_
  refine W.eq (g2 := F0 m0 4 ls []) rfl ?_
  refine lv_aload_n hx hb dX1_init_4 rfl (lv_at hl 0 rfl) ?_
  refine lv_aload_n hx hb dX1_init_5 rfl (lv_at hl 1 rfl) ?_
  refine zk_putF (ci := 1) (v := .ref k) (C := RX1) (T := TX1) (N := 5) hx hb hts inw_wsX1_init_1 tyX1 tyX1_ok nmX1 hown hK hH hS hm rfl 0 (by decide) (hts (.fieldLink RX1 7 "KegDeposits$Layer" "kind" "LKegDeposits$Kind;") (by decide +kernel)) rfl hin2 rfl rfl rfl (Nat.le_of_ble_eq_true rfl) dX1_init_6 (fun H locs hH hS => ?_)
  obtain ⟨M_6, eM_6⟩ : ∃ w_0 : zk_M, w_0 = zk_up M a (.inr (1, [.ref k, .long 0, .long 0, .long 0, .null])) := ⟨_, rfl⟩
  have hH : zk_H g z M_6 H := by rw [eM_6]; exact hH
  have e_6 : M_6 a = some (.inr (1, [.ref k, .long 0, .long 0, .long 0, .null])) := by rw [eM_6]; exact zk_up_s _ _ _
  refine lv_aload_n hx hb dX1_init_9 rfl (lv_at hl 0 rfl) ?_
  refine lv_lload_n hx hb dX1_init_10 rfl (lv_at hl 2 rfl) ?_
  refine zk_putF (ci := 1) (v := .long dy) (C := RX1) (T := TX1) (N := 5) hx hb hts inw_wsX1_init_1 tyX1 tyX1_ok nmX1 hown hK hH hS e_6 rfl 1 (by decide) (hts (.fieldLink RX1 13 "KegDeposits$Layer" "day" "J") (by decide +kernel)) rfl hin2 rfl rfl rfl (Nat.le_of_ble_eq_true rfl) dX1_init_11 (fun H locs hH hS => ?_)
  obtain ⟨M_11, eM_11⟩ : ∃ w_0 : zk_M, w_0 = zk_up M_6 a (.inr (1, [.ref k, .long dy, .long 0, .long 0, .null])) := ⟨_, rfl⟩
  have hH : zk_H g z M_11 H := by rw [eM_11]; exact hH
  have e_11 : M_11 a = some (.inr (1, [.ref k, .long dy, .long 0, .long 0, .null])) := by rw [eM_11]; exact zk_up_s _ _ _
  refine lv_aload_n hx hb dX1_init_14 rfl (lv_at hl 0 rfl) ?_
  refine lv_lload hx hb dX1_init_15 (lv_at hl 3 rfl) ?_
  refine zk_put (ci := 1) (v := .long pc) (C := RX1) (T := TX1) (N := 5) hx hb hts inw_wsX1_init_1 tyX1 tyX1_ok nmX1 hown hK hH hS e_11 rfl 3 (by decide) (hts (.fieldLink RX1 17 "KegDeposits$Layer" "pieces" "J") (by decide +kernel)) rfl rfl rfl (Nat.le_of_ble_eq_true rfl) dX1_init_17 (fun H locs hH hS => ?_)
  obtain ⟨M_17, eM_17⟩ : ∃ w_0 : zk_M, w_0 = zk_up M_11 a (.inr (1, [.ref k, .long dy, .long 0, .long pc, .null])) := ⟨_, rfl⟩
  have hH : zk_H g z M_17 H := by rw [eM_17]; exact hH
  have e_17 : M_17 a = some (.inr (1, [.ref k, .long dy, .long 0, .long pc, .null])) := by rw [eM_17]; exact zk_up_s _ _ _
  refine lv_aload_n hx hb dX1_init_20 rfl (lv_at hl 0 rfl) ?_
  refine lv_lload hx hb dX1_init_21 (lv_at hl 4 rfl) ?_
  refine zk_putF (ci := 1) (v := .long ct) (C := RX1) (T := TX1) (N := 5) hx hb hts inw_wsX1_init_1 tyX1 tyX1_ok nmX1 hown hK hH hS e_17 rfl 2 (by decide) (hts (.fieldLink RX1 20 "KegDeposits$Layer" "cents" "J") (by decide +kernel)) rfl hin2 rfl rfl rfl (Nat.le_of_ble_eq_true rfl) dX1_init_23 (fun H locs hH hS => ?_)
  obtain ⟨M_23, eM_23⟩ : ∃ w_0 : zk_M, w_0 = zk_up M_17 a (.inr (1, [.ref k, .long dy, .long ct, .long pc, .null])) := ⟨_, rfl⟩
  have hH : zk_H g z M_23 H := by rw [eM_23]; exact hH
  have e_23 : M_23 a = some (.inr (1, [.ref k, .long dy, .long ct, .long pc, .null])) := by rw [eM_23]; exact zk_up_s _ _ _
  exact zk_vret hx hb hr hlocks hH hS (by decide) (by decide) ⟨e_23, fun b hb => by rw [eM_23, zk_up_n _ _ hb, eM_17, zk_up_n _ _ hb, eM_11, zk_up_n _ _ hb, eM_6, zk_up_n _ _ hb]⟩ dX1_init_26

theorem inw_wsX4_init_4 : ∀ w ∈ u_ws RX4 TX4 5, w ∈ wsX4_init := by decide +kernel
set_option maxHeartbeats 4000000 in
set_option maxRecDepth 100000 in
theorem zc_X4_init_n (l : Launch) {g : zk_G} {z : Nat} {M : zk_M} {a y w : Nat} (dy ct : Int64) (hm : M a = some (.inr (4, [.long 0, .long 0, .null, .null, .null]))) : Met l yX4_init wsX4_init ({ frames := 1, cells := 0, slots := 0, locals := 12 } : Room) (va_Pc [.ref a, .long dy, .long ct, .ref y, .ref w, .null] (zk_U g z M)) (va_Qv (fun u => zk_chg M a (.inr (4, [.long dy, .long ct, .ref y, .ref w, .null])) u) (zk_B g z) (fun q => z ≤ q)) 0 0 (fun q => z ≤ q) := by
  refine Met.ofW (cc := cX4_init) (maxL := 8) (ret := none) (by decide) rfl ?_
  intro P0 e0 s m0 args below meth c0 s₁ B hml hv
  obtain ⟨rfl, hH, hK, hN⟩ := hv
  have hx := B.exec
  have hb := B.bytes
  have hr := B.returns
  have hts := atoms_spec (ws := wsX4_init) B.pre
  have hown : s.vm.findClass RX4 = some m0.cls := findClass_of_methodNamed B.named
  have hlocks := B.notSynchronized
  have hin2 : meth.name = "<init>" := (name_of_methodNamed B.named B.method).1
  have hS : va_S (fun q => z ≤ q) s.heap s.heap [] := va_S.rf
  have hl := lv_entry ([.ref a, .long dy, .long ct, .ref y, .ref w, .null]) (n := 8) (Nat.le_of_ble_eq_true rfl)
  rw [lg_entry_eq]
  generalize (lg_sl ([.ref a, .long dy, .long ct, .ref y, .ref w, .null]) ++ List.replicate (8 - (lg_sl ([.ref a, .long dy, .long ct, .ref y, .ref w, .null])).length) Slot.unset).toArray = ls at hl ⊢
  have hl : lv_has ls 8 [(0, .ref a), (1, .long dy), (3, .long ct), (5, .ref y), (6, .ref w), (7, .null)] := hl
  refine lv_aload_n hx hb dX4_init_0 rfl (lv_at hl 0 rfl) ?_
  refine W.objInit hx hb hown (hts (.methodLink RX4 1 objectInit) (by decide +kernel)) (hts (.instanceMethod objectInit) (by decide +kernel)) (hts (.code objectInit ⟨#[0xb1]⟩ 1 none) (by decide +kernel)) rfl (by rw [hml]; exact hl.1) rfl dX4_init_1 (Nat.le_of_ble_eq_true rfl) (Nat.le_of_ble_eq_true rfl) ?_
  refine W.eq (g2 := F0 m0 4 ls []) rfl ?_
  refine lv_aload_n hx hb dX4_init_4 rfl (lv_at hl 0 rfl) ?_
  refine lv_lload_n hx hb dX4_init_5 rfl (lv_at hl 1 rfl) ?_
  refine zk_putF (ci := 4) (v := .long dy) (C := RX4) (T := TX4) (N := 5) hx hb hts inw_wsX4_init_4 tyX4 tyX4_ok nmX4 hown hK hH hS hm rfl 0 (by decide) (hts (.fieldLink RX4 7 "KegDeposits$Transfer" "day" "J") (by decide +kernel)) rfl hin2 rfl rfl rfl (Nat.le_of_ble_eq_true rfl) dX4_init_6 (fun H locs hH hS => ?_)
  obtain ⟨M_6, eM_6⟩ : ∃ w_0 : zk_M, w_0 = zk_up M a (.inr (4, [.long dy, .long 0, .null, .null, .null])) := ⟨_, rfl⟩
  have hH : zk_H g z M_6 H := by rw [eM_6]; exact hH
  have e_6 : M_6 a = some (.inr (4, [.long dy, .long 0, .null, .null, .null])) := by rw [eM_6]; exact zk_up_s _ _ _
  refine lv_aload_n hx hb dX4_init_9 rfl (lv_at hl 0 rfl) ?_
  refine lv_lload_n hx hb dX4_init_10 rfl (lv_at hl 2 rfl) ?_
  refine zk_putF (ci := 4) (v := .long ct) (C := RX4) (T := TX4) (N := 5) hx hb hts inw_wsX4_init_4 tyX4 tyX4_ok nmX4 hown hK hH hS e_6 rfl 1 (by decide) (hts (.fieldLink RX4 13 "KegDeposits$Transfer" "cents" "J") (by decide +kernel)) rfl hin2 rfl rfl rfl (Nat.le_of_ble_eq_true rfl) dX4_init_11 (fun H locs hH hS => ?_)
  obtain ⟨M_11, eM_11⟩ : ∃ w_0 : zk_M, w_0 = zk_up M_6 a (.inr (4, [.long dy, .long ct, .null, .null, .null])) := ⟨_, rfl⟩
  have hH : zk_H g z M_11 H := by rw [eM_11]; exact hH
  have e_11 : M_11 a = some (.inr (4, [.long dy, .long ct, .null, .null, .null])) := by rw [eM_11]; exact zk_up_s _ _ _
  refine lv_aload_n hx hb dX4_init_14 rfl (lv_at hl 0 rfl) ?_
  refine lv_aload hx hb dX4_init_15 (lv_at hl 3 rfl) ?_
  refine zk_putF (ci := 4) (v := .ref y) (C := RX4) (T := TX4) (N := 5) hx hb hts inw_wsX4_init_4 tyX4 tyX4_ok nmX4 hown hK hH hS e_11 rfl 2 (by decide) (hts (.fieldLink RX4 16 "KegDeposits$Transfer" "payer" "LKegDeposits$Party;") (by decide +kernel)) rfl hin2 rfl rfl rfl (Nat.le_of_ble_eq_true rfl) dX4_init_17 (fun H locs hH hS => ?_)
  obtain ⟨M_17, eM_17⟩ : ∃ w_0 : zk_M, w_0 = zk_up M_11 a (.inr (4, [.long dy, .long ct, .ref y, .null, .null])) := ⟨_, rfl⟩
  have hH : zk_H g z M_17 H := by rw [eM_17]; exact hH
  have e_17 : M_17 a = some (.inr (4, [.long dy, .long ct, .ref y, .null, .null])) := by rw [eM_17]; exact zk_up_s _ _ _
  refine lv_aload_n hx hb dX4_init_20 rfl (lv_at hl 0 rfl) ?_
  refine lv_aload hx hb dX4_init_21 (lv_at hl 4 rfl) ?_
  refine zk_putF (ci := 4) (v := .ref w) (C := RX4) (T := TX4) (N := 5) hx hb hts inw_wsX4_init_4 tyX4 tyX4_ok nmX4 hown hK hH hS e_17 rfl 3 (by decide) (hts (.fieldLink RX4 20 "KegDeposits$Transfer" "taker" "LKegDeposits$Party;") (by decide +kernel)) rfl hin2 rfl rfl rfl (Nat.le_of_ble_eq_true rfl) dX4_init_23 (fun H locs hH hS => ?_)
  obtain ⟨M_23, eM_23⟩ : ∃ w_0 : zk_M, w_0 = zk_up M_17 a (.inr (4, [.long dy, .long ct, .ref y, .ref w, .null])) := ⟨_, rfl⟩
  have hH : zk_H g z M_23 H := by rw [eM_23]; exact hH
  have e_23 : M_23 a = some (.inr (4, [.long dy, .long ct, .ref y, .ref w, .null])) := by rw [eM_23]; exact zk_up_s _ _ _
  refine lv_aload_n hx hb dX4_init_26 rfl (lv_at hl 0 rfl) ?_
  refine lv_aloadN hx hb dX4_init_27 (lv_at hl 5 rfl) ?_
  refine zk_putF (ci := 4) (v := .null) (C := RX4) (T := TX4) (N := 5) hx hb hts inw_wsX4_init_4 tyX4 tyX4_ok nmX4 hown hK hH hS e_23 rfl 4 (by decide) (hts (.fieldLink RX4 23 "KegDeposits$Transfer" "earlier" "LKegDeposits$Transfer;") (by decide +kernel)) rfl hin2 rfl rfl rfl (Nat.le_of_ble_eq_true rfl) dX4_init_29 (fun H locs hH hS => ?_)
  obtain ⟨M_29, eM_29⟩ : ∃ w_0 : zk_M, w_0 = zk_up M_23 a (.inr (4, [.long dy, .long ct, .ref y, .ref w, .null])) := ⟨_, rfl⟩
  have hH : zk_H g z M_29 H := by rw [eM_29]; exact hH
  have e_29 : M_29 a = some (.inr (4, [.long dy, .long ct, .ref y, .ref w, .null])) := by rw [eM_29]; exact zk_up_s _ _ _
  exact zk_vret hx hb hr hlocks hH hS (by decide) (by decide) ⟨e_29, fun b hb => by rw [eM_29, zk_up_n _ _ hb, eM_23, zk_up_n _ _ hb, eM_17, zk_up_n _ _ hb, eM_11, zk_up_n _ _ hb, eM_6, zk_up_n _ _ hb]⟩ dX4_init_32

set_option maxHeartbeats 4000000 in
set_option maxRecDepth 100000 in
theorem zc_X4_init_s (l : Launch) {g : zk_G} {z : Nat} {M : zk_M} {a y w : Nat} (dy ct : Int64) (x : Nat) (hm : M a = some (.inr (4, [.long 0, .long 0, .null, .null, .null]))) : Met l yX4_init wsX4_init ({ frames := 1, cells := 0, slots := 0, locals := 12 } : Room) (va_Pc [.ref a, .long dy, .long ct, .ref y, .ref w, .ref x] (zk_U g z M)) (va_Qv (fun u => zk_chg M a (.inr (4, [.long dy, .long ct, .ref y, .ref w, .ref x])) u) (zk_B g z) (fun q => z ≤ q)) 0 0 (fun q => z ≤ q) := by
  refine Met.ofW (cc := cX4_init) (maxL := 8) (ret := none) (by decide) rfl ?_
  intro P0 e0 s m0 args below meth c0 s₁ B hml hv
  obtain ⟨rfl, hH, hK, hN⟩ := hv
  have hx := B.exec
  have hb := B.bytes
  have hr := B.returns
  have hts := atoms_spec (ws := wsX4_init) B.pre
  have hown : s.vm.findClass RX4 = some m0.cls := findClass_of_methodNamed B.named
  have hlocks := B.notSynchronized
  have hin2 : meth.name = "<init>" := (name_of_methodNamed B.named B.method).1
  have hS : va_S (fun q => z ≤ q) s.heap s.heap [] := va_S.rf
  have hl := lv_entry ([.ref a, .long dy, .long ct, .ref y, .ref w, .ref x]) (n := 8) (Nat.le_of_ble_eq_true rfl)
  rw [lg_entry_eq]
  generalize (lg_sl ([.ref a, .long dy, .long ct, .ref y, .ref w, .ref x]) ++ List.replicate (8 - (lg_sl ([.ref a, .long dy, .long ct, .ref y, .ref w, .ref x])).length) Slot.unset).toArray = ls at hl ⊢
  have hl : lv_has ls 8 [(0, .ref a), (1, .long dy), (3, .long ct), (5, .ref y), (6, .ref w), (7, .ref x)] := hl
  refine lv_aload_n hx hb dX4_init_0 rfl (lv_at hl 0 rfl) ?_
  refine W.objInit hx hb hown (hts (.methodLink RX4 1 objectInit) (by decide +kernel)) (hts (.instanceMethod objectInit) (by decide +kernel)) (hts (.code objectInit ⟨#[0xb1]⟩ 1 none) (by decide +kernel)) rfl (by rw [hml]; exact hl.1) rfl dX4_init_1 (Nat.le_of_ble_eq_true rfl) (Nat.le_of_ble_eq_true rfl) ?_
  refine W.eq (g2 := F0 m0 4 ls []) rfl ?_
  refine lv_aload_n hx hb dX4_init_4 rfl (lv_at hl 0 rfl) ?_
  refine lv_lload_n hx hb dX4_init_5 rfl (lv_at hl 1 rfl) ?_
  refine zk_putF (ci := 4) (v := .long dy) (C := RX4) (T := TX4) (N := 5) hx hb hts inw_wsX4_init_4 tyX4 tyX4_ok nmX4 hown hK hH hS hm rfl 0 (by decide) (hts (.fieldLink RX4 7 "KegDeposits$Transfer" "day" "J") (by decide +kernel)) rfl hin2 rfl rfl rfl (Nat.le_of_ble_eq_true rfl) dX4_init_6 (fun H locs hH hS => ?_)
  obtain ⟨M_6, eM_6⟩ : ∃ w_0 : zk_M, w_0 = zk_up M a (.inr (4, [.long dy, .long 0, .null, .null, .null])) := ⟨_, rfl⟩
  have hH : zk_H g z M_6 H := by rw [eM_6]; exact hH
  have e_6 : M_6 a = some (.inr (4, [.long dy, .long 0, .null, .null, .null])) := by rw [eM_6]; exact zk_up_s _ _ _
  refine lv_aload_n hx hb dX4_init_9 rfl (lv_at hl 0 rfl) ?_
  refine lv_lload_n hx hb dX4_init_10 rfl (lv_at hl 2 rfl) ?_
  refine zk_putF (ci := 4) (v := .long ct) (C := RX4) (T := TX4) (N := 5) hx hb hts inw_wsX4_init_4 tyX4 tyX4_ok nmX4 hown hK hH hS e_6 rfl 1 (by decide) (hts (.fieldLink RX4 13 "KegDeposits$Transfer" "cents" "J") (by decide +kernel)) rfl hin2 rfl rfl rfl (Nat.le_of_ble_eq_true rfl) dX4_init_11 (fun H locs hH hS => ?_)
  obtain ⟨M_11, eM_11⟩ : ∃ w_0 : zk_M, w_0 = zk_up M_6 a (.inr (4, [.long dy, .long ct, .null, .null, .null])) := ⟨_, rfl⟩
  have hH : zk_H g z M_11 H := by rw [eM_11]; exact hH
  have e_11 : M_11 a = some (.inr (4, [.long dy, .long ct, .null, .null, .null])) := by rw [eM_11]; exact zk_up_s _ _ _
  refine lv_aload_n hx hb dX4_init_14 rfl (lv_at hl 0 rfl) ?_
  refine lv_aload hx hb dX4_init_15 (lv_at hl 3 rfl) ?_
  refine zk_putF (ci := 4) (v := .ref y) (C := RX4) (T := TX4) (N := 5) hx hb hts inw_wsX4_init_4 tyX4 tyX4_ok nmX4 hown hK hH hS e_11 rfl 2 (by decide) (hts (.fieldLink RX4 16 "KegDeposits$Transfer" "payer" "LKegDeposits$Party;") (by decide +kernel)) rfl hin2 rfl rfl rfl (Nat.le_of_ble_eq_true rfl) dX4_init_17 (fun H locs hH hS => ?_)
  obtain ⟨M_17, eM_17⟩ : ∃ w_0 : zk_M, w_0 = zk_up M_11 a (.inr (4, [.long dy, .long ct, .ref y, .null, .null])) := ⟨_, rfl⟩
  have hH : zk_H g z M_17 H := by rw [eM_17]; exact hH
  have e_17 : M_17 a = some (.inr (4, [.long dy, .long ct, .ref y, .null, .null])) := by rw [eM_17]; exact zk_up_s _ _ _
  refine lv_aload_n hx hb dX4_init_20 rfl (lv_at hl 0 rfl) ?_
  refine lv_aload hx hb dX4_init_21 (lv_at hl 4 rfl) ?_
  refine zk_putF (ci := 4) (v := .ref w) (C := RX4) (T := TX4) (N := 5) hx hb hts inw_wsX4_init_4 tyX4 tyX4_ok nmX4 hown hK hH hS e_17 rfl 3 (by decide) (hts (.fieldLink RX4 20 "KegDeposits$Transfer" "taker" "LKegDeposits$Party;") (by decide +kernel)) rfl hin2 rfl rfl rfl (Nat.le_of_ble_eq_true rfl) dX4_init_23 (fun H locs hH hS => ?_)
  obtain ⟨M_23, eM_23⟩ : ∃ w_0 : zk_M, w_0 = zk_up M_17 a (.inr (4, [.long dy, .long ct, .ref y, .ref w, .null])) := ⟨_, rfl⟩
  have hH : zk_H g z M_23 H := by rw [eM_23]; exact hH
  have e_23 : M_23 a = some (.inr (4, [.long dy, .long ct, .ref y, .ref w, .null])) := by rw [eM_23]; exact zk_up_s _ _ _
  refine lv_aload_n hx hb dX4_init_26 rfl (lv_at hl 0 rfl) ?_
  refine lv_aload hx hb dX4_init_27 (lv_at hl 5 rfl) ?_
  refine zk_putF (ci := 4) (v := .ref x) (C := RX4) (T := TX4) (N := 5) hx hb hts inw_wsX4_init_4 tyX4 tyX4_ok nmX4 hown hK hH hS e_23 rfl 4 (by decide) (hts (.fieldLink RX4 23 "KegDeposits$Transfer" "earlier" "LKegDeposits$Transfer;") (by decide +kernel)) rfl hin2 rfl rfl rfl (Nat.le_of_ble_eq_true rfl) dX4_init_29 (fun H locs hH hS => ?_)
  obtain ⟨M_29, eM_29⟩ : ∃ w_0 : zk_M, w_0 = zk_up M_23 a (.inr (4, [.long dy, .long ct, .ref y, .ref w, .ref x])) := ⟨_, rfl⟩
  have hH : zk_H g z M_29 H := by rw [eM_29]; exact hH
  have e_29 : M_29 a = some (.inr (4, [.long dy, .long ct, .ref y, .ref w, .ref x])) := by rw [eM_29]; exact zk_up_s _ _ _
  exact zk_vret hx hb hr hlocks hH hS (by decide) (by decide) ⟨e_29, fun b hb => by rw [eM_29, zk_up_n _ _ hb, eM_23, zk_up_n _ _ hb, eM_17, zk_up_n _ _ hb, eM_11, zk_up_n _ _ hb, eM_6, zk_up_n _ _ hb]⟩ dX4_init_32

theorem zc_X4_init (l : Launch) {g : zk_G} {z : Nat} {M : zk_M} {a y w : Nat} (dy ct : Int64) (r : Option Nat) (hm : M a = some (.inr (4, [.long 0, .long 0, .null, .null, .null]))) : Met l yX4_init wsX4_init ({ frames := 1, cells := 0, slots := 0, locals := 12 } : Room) (va_Pc [.ref a, .long dy, .long ct, .ref y, .ref w, va_rf r] (zk_U g z M)) (va_Qv (fun u => zk_chg M a (.inr (4, [.long dy, .long ct, .ref y, .ref w, va_rf r])) u) (zk_B g z) (fun q => z ≤ q)) 0 0 (fun q => z ≤ q) := by
  cases r with
  | none => exact zc_X4_init_n l dy ct hm
  | some x => exact zc_X4_init_s l dy ct x hm

set_option maxHeartbeats 4000000 in
set_option maxRecDepth 100000 in
theorem zc_X2_init (l : Launch) {g : zk_G} {z : Nat} {M : zk_M} {a : Nat} (hm : M a = some (.inr (2, [.null, .null]))) : Met l yX2_init wsX2_init ({ frames := 1, cells := 0, slots := 0, locals := 12 } : Room) (va_Pc [.ref a] (zk_U g z M)) (va_Qv (fun u => zk_chg M a (.inr (2, [.null, .null])) u) (zk_B g z) (fun q => z ≤ q)) 0 0 (fun q => z ≤ q) := by
  refine Met.ofW (cc := cX2_init) (maxL := 1) (ret := none) (by decide) rfl ?_
  intro P0 e0 s m0 args below meth c0 s₁ B hml hv
  obtain ⟨rfl, hH, hK, hN⟩ := hv
  have hx := B.exec
  have hb := B.bytes
  have hr := B.returns
  have hts := atoms_spec (ws := wsX2_init) B.pre
  have hown : s.vm.findClass RX2 = some m0.cls := findClass_of_methodNamed B.named
  have hlocks := B.notSynchronized
  have hin2 : meth.name = "<init>" := (name_of_methodNamed B.named B.method).1
  have hS : va_S (fun q => z ≤ q) s.heap s.heap [] := va_S.rf
  have hl := lv_entry ([.ref a]) (n := 1) (Nat.le_of_ble_eq_true rfl)
  rw [lg_entry_eq]
  generalize (lg_sl ([.ref a]) ++ List.replicate (1 - (lg_sl ([.ref a])).length) Slot.unset).toArray = ls at hl ⊢
  have hl : lv_has ls 1 [(0, .ref a)] := hl
  refine lv_aload_n hx hb dX2_init_0 rfl (lv_at hl 0 rfl) ?_
  refine W.objInit hx hb hown (hts (.methodLink RX2 1 objectInit) (by decide +kernel)) (hts (.instanceMethod objectInit) (by decide +kernel)) (hts (.code objectInit ⟨#[0xb1]⟩ 1 none) (by decide +kernel)) rfl (by rw [hml]; exact hl.1) rfl dX2_init_1 (Nat.le_of_ble_eq_true rfl) (Nat.le_of_ble_eq_true rfl) ?_
  refine W.eq (g2 := F0 m0 4 ls []) rfl ?_
  exact zk_vret hx hb hr hlocks hH hS (by decide) (by decide) ⟨hm, fun _ _ => rfl⟩ dX2_init_4

set_option maxHeartbeats 4000000 in
set_option maxRecDepth 100000 in
theorem zc_X0_init (l : Launch) {g : zk_G} {z : Nat} {M : zk_M} {a : Nat} (hm : M a = some (.inr (0, [.null, .long 0, .long 0]))) : Met l yX0_init wsX0_init ({ frames := 1, cells := 0, slots := 0, locals := 12 } : Room) (va_Pc [.ref a] (zk_U g z M)) (va_Qv (fun u => zk_chg M a (.inr (0, [.null, .long 0, .long 0])) u) (zk_B g z) (fun q => z ≤ q)) 0 0 (fun q => z ≤ q) := by
  refine Met.ofW (cc := cX0_init) (maxL := 1) (ret := none) (by decide) rfl ?_
  intro P0 e0 s m0 args below meth c0 s₁ B hml hv
  obtain ⟨rfl, hH, hK, hN⟩ := hv
  have hx := B.exec
  have hb := B.bytes
  have hr := B.returns
  have hts := atoms_spec (ws := wsX0_init) B.pre
  have hown : s.vm.findClass RX0 = some m0.cls := findClass_of_methodNamed B.named
  have hlocks := B.notSynchronized
  have hin2 : meth.name = "<init>" := (name_of_methodNamed B.named B.method).1
  have hS : va_S (fun q => z ≤ q) s.heap s.heap [] := va_S.rf
  have hl := lv_entry ([.ref a]) (n := 1) (Nat.le_of_ble_eq_true rfl)
  rw [lg_entry_eq]
  generalize (lg_sl ([.ref a]) ++ List.replicate (1 - (lg_sl ([.ref a])).length) Slot.unset).toArray = ls at hl ⊢
  have hl : lv_has ls 1 [(0, .ref a)] := hl
  refine lv_aload_n hx hb dX0_init_0 rfl (lv_at hl 0 rfl) ?_
  refine W.objInit hx hb hown (hts (.methodLink RX0 3 objectInit) (by decide +kernel)) (hts (.instanceMethod objectInit) (by decide +kernel)) (hts (.code objectInit ⟨#[0xb1]⟩ 1 none) (by decide +kernel)) rfl (by rw [hml]; exact hl.1) rfl dX0_init_1 (Nat.le_of_ble_eq_true rfl) (Nat.le_of_ble_eq_true rfl) ?_
  refine W.eq (g2 := F0 m0 4 ls []) rfl ?_
  exact zk_vret hx hb hr hlocks hH hS (by decide) (by decide) ⟨hm, fun _ _ => rfl⟩ dX0_init_4

theorem inw_wsX0_partsOfLot_0 : ∀ w ∈ u_ws RX0 TX0 3, w ∈ wsX0_partsOfLot := by decide +kernel
set_option maxHeartbeats 4000000 in
set_option maxRecDepth 100000 in
theorem zc_X0_partsOfLot (l : Launch) {g : zk_G} {z : Nat} {M : zk_M} {X : zs_X} {Z : zs_Z} (hR : zs_R g X Z M) {k : Nat} (hk : k < zs_nk X.1) (n : Int64) : Met l yX0_partsOfLot wsX0_partsOfLot ({ frames := 0, cells := 0, slots := 0, locals := 0 } : Room) (va_Pc [.ref (Z (4, k, 0)), .long n] (zk_U g z M)) (vp_Sl (fun r => r = zs_rs X.1 k + n * zs_sh X.1 k)) 0 0 (fun _ => False) := by
  refine Met.ofW (cc := cX0_partsOfLot) (maxL := 3) (ret := (some .long)) (by decide) rfl ?_
  intro P0 e0 s m0 args below meth c0 s₁ B hml hv
  obtain ⟨rfl, hH, hK, hN⟩ := hv
  have hx := B.exec
  have hb := B.bytes
  have hr := B.returns
  have hts := atoms_spec (ws := wsX0_partsOfLot) B.pre
  have hown : s.vm.findClass RX0 = some m0.cls := findClass_of_methodNamed B.named
  have hlocks := B.notSynchronized
  have hl := lv_entry ([.ref (Z (4, k, 0)), .long n]) (n := 3) (Nat.le_of_ble_eq_true rfl)
  rw [lg_entry_eq]
  generalize (lg_sl ([.ref (Z (4, k, 0)), .long n]) ++ List.replicate (3 - (lg_sl ([.ref (Z (4, k, 0)), .long n])).length) Slot.unset).toArray = ls at hl ⊢
  have hl : lv_has ls 3 [(0, .ref (Z (4, k, 0))), (1, .long n)] := hl
  have hK0 : M (Z (4, k, 0)) = some (.inr (0, [va_rf (zs_prev (zs_pn X.1 k) (fun j => Z (5, k, j))), .long (zs_sh X.1 k), .long (zs_rs X.1 k)])) := hR.1 (4, k, 0) ⟨hk, rfl⟩
  refine lv_aload_n hx hb dX0_partsOfLot_0 rfl (lv_at hl 0 rfl) ?_
  refine zk_get (ci := 0) (v := .long (zs_rs X.1 k)) (C := RX0) (T := TX0) (N := 3) hx hb hts inw_wsX0_partsOfLot_0 hown hK hH hK0 rfl 2 (by decide) (hts (.fieldLink RX0 32 "KegDeposits$Kind" "restParts" "J") (by decide +kernel)) rfl dX0_partsOfLot_1 ?_
  refine lv_lload_n hx hb dX0_partsOfLot_4 rfl (lv_at hl 1 rfl) ?_
  refine lv_aload_n hx hb dX0_partsOfLot_5 rfl (lv_at hl 0 rfl) ?_
  refine zk_get (ci := 0) (v := .long (zs_sh X.1 k)) (C := RX0) (T := TX0) (N := 3) hx hb hts inw_wsX0_partsOfLot_0 hown hK hH hK0 rfl 1 (by decide) (hts (.fieldLink RX0 35 "KegDeposits$Kind" "shareParts" "J") (by decide +kernel)) rfl dX0_partsOfLot_6 ?_
  refine lv_lmul hx hb dX0_partsOfLot_9 ?_
  refine lv_ladd hx hb dX0_partsOfLot_10 ?_
  exact zk_lretS hx hb hr hlocks rfl dX0_partsOfLot_11

theorem inw_wsX4_changeOf_4 : ∀ w ∈ u_ws RX4 TX4 5, w ∈ wsX4_changeOf := by decide +kernel
set_option maxHeartbeats 4000000 in
set_option maxRecDepth 100000 in
theorem zc_X4_changeOf (l : Launch) {g : zk_G} {z : Nat} {M : zk_M} {X : zs_X} {Z : zs_Z} (hR : zs_R g X Z M) (hI : zs_It X.1) {i p : Nat} (hi : i < zs_nc X.1) (hp : p < zs_np X.1) : Met l yX4_changeOf wsX4_changeOf ({ frames := 0, cells := 0, slots := 0, locals := 0 } : Room) (va_Pc [.ref (Z (7, i, 0)), .ref (Z (3, p, 0))] (zk_U g z M)) (vp_Sl (fun r => r = zs_chg X.1 p i)) 0 0 (fun _ => False) := by
  refine Met.ofW (cc := cX4_changeOf) (maxL := 2) (ret := (some .long)) (by decide) rfl ?_
  intro P0 e0 s m0 args below meth c0 s₁ B hml hv
  obtain ⟨rfl, hH, hK, hN⟩ := hv
  have hx := B.exec
  have hb := B.bytes
  have hr := B.returns
  have hts := atoms_spec (ws := wsX4_changeOf) B.pre
  have hown : s.vm.findClass RX4 = some m0.cls := findClass_of_methodNamed B.named
  have hlocks := B.notSynchronized
  have hl := lv_entry ([.ref (Z (7, i, 0)), .ref (Z (3, p, 0))]) (n := 2) (Nat.le_of_ble_eq_true rfl)
  rw [lg_entry_eq]
  generalize (lg_sl ([.ref (Z (7, i, 0)), .ref (Z (3, p, 0))]) ++ List.replicate (2 - (lg_sl ([.ref (Z (7, i, 0)), .ref (Z (3, p, 0))])).length) Slot.unset).toArray = ls at hl ⊢
  have hl : lv_has ls 2 [(0, .ref (Z (7, i, 0))), (1, .ref (Z (3, p, 0)))] := hl
  have hT : M (Z (7, i, 0)) = some (.inr (4, [.long (zs_td X.1 i), .long (zs_ta X.1 i), .ref (Z (3, zs_tp X.1 i, 0)), .ref (Z (3, zs_tt X.1 i, 0)), va_rf (zs_prev i (fun i => Z (7, i, 0)))])) := hR.1 (7, i, 0) ⟨hi, rfl⟩
  obtain ⟨t1, t2, -⟩ := hI i hi
  have inj : ∀ x, x < zs_np X.1 → (some (Z (3, p, 0)) = some (Z (3, x, 0)) ↔ x = p) := fun x hx => ⟨fun e => by have := hR.2 (3, p, 0) (3, x, 0) ⟨hp, rfl⟩ ⟨hx, rfl⟩ (Option.some.inj e); simpa using this.symm, fun e => by rw [e]⟩
  refine lv_aload_n hx hb dX4_changeOf_0 rfl (lv_at hl 1 rfl) ?_
  refine lv_aload_n hx hb dX4_changeOf_1 rfl (lv_at hl 0 rfl) ?_
  refine zk_get (ci := 4) (v := .ref (Z (3, zs_tp X.1 i, 0))) (C := RX4) (T := TX4) (N := 5) hx hb hts inw_wsX4_changeOf_4 hown hK hH hT rfl 2 (by decide) (hts (.fieldLink RX4 16 "KegDeposits$Transfer" "payer" "LKegDeposits$Party;") (by decide +kernel)) rfl dX4_changeOf_2 ?_
  refine lv_acmp_ne (rx := (some (Z (3, p, 0)))) (ry := (some (Z (3, zs_tp X.1 i, 0)))) (tgt := 14) hx hb dX4_changeOf_5 (by decide) (fun h_5 => ?_) (fun h_5 => ?_)
  · skip
    refine lv_aload_n hx hb dX4_changeOf_14 rfl (lv_at hl 1 rfl) ?_
    refine lv_aload_n hx hb dX4_changeOf_15 rfl (lv_at hl 0 rfl) ?_
    refine zk_get (ci := 4) (v := .ref (Z (3, zs_tt X.1 i, 0))) (C := RX4) (T := TX4) (N := 5) hx hb hts inw_wsX4_changeOf_4 hown hK hH hT rfl 3 (by decide) (hts (.fieldLink RX4 20 "KegDeposits$Transfer" "taker" "LKegDeposits$Party;") (by decide +kernel)) rfl dX4_changeOf_16 ?_
    refine lv_acmp_ne (rx := (some (Z (3, p, 0)))) (ry := (some (Z (3, zs_tt X.1 i, 0)))) (tgt := 29) hx hb dX4_changeOf_19 (by decide) (fun h_19 => ?_) (fun h_19 => ?_)
    · skip
      refine lv_lconst (v := 0) hx hb dX4_changeOf_29 (by decide) ?_
      exact zk_lretS hx hb hr hlocks (by simp only [zs_chg, if_neg (fun q => h_5 ((inj _ t1).mpr q)), if_neg (fun q => h_19 ((inj _ t2).mpr q))]) dX4_changeOf_30
    · skip
      refine lv_aload_n hx hb dX4_changeOf_22 rfl (lv_at hl 0 rfl) ?_
      refine zk_get (ci := 4) (v := .long (zs_ta X.1 i)) (C := RX4) (T := TX4) (N := 5) hx hb hts inw_wsX4_changeOf_4 hown hK hH hT rfl 1 (by decide) (hts (.fieldLink RX4 13 "KegDeposits$Transfer" "cents" "J") (by decide +kernel)) rfl dX4_changeOf_23 ?_
      refine lv_goto (tgt := 30) hx hb dX4_changeOf_26 (by decide) ?_
      exact zk_lretS hx hb hr hlocks (by simp only [zs_chg, if_neg (fun q => h_5 ((inj _ t1).mpr q)), if_pos ((inj _ t2).mp h_19)]) dX4_changeOf_30
  · skip
    refine lv_aload_n hx hb dX4_changeOf_8 rfl (lv_at hl 0 rfl) ?_
    refine zk_get (ci := 4) (v := .long (zs_ta X.1 i)) (C := RX4) (T := TX4) (N := 5) hx hb hts inw_wsX4_changeOf_4 hown hK hH hT rfl 1 (by decide) (hts (.fieldLink RX4 13 "KegDeposits$Transfer" "cents" "J") (by decide +kernel)) rfl dX4_changeOf_9 ?_
    refine lv_lneg hx hb dX4_changeOf_12 ?_
    exact zk_lretS hx hb hr hlocks (by simp only [zs_chg, if_pos ((inj _ t1).mp h_5)]) dX4_changeOf_13
end
section
/-- the same labels keep their cells -/
def zs_P (g : zk_G) (X : zs_X) (Z : zs_Z) (X' : zs_X) (u : zk_M) : Prop := ∃ Z', zs_R g X' Z' u ∧ ∀ q, zs_ok X q → Z' q = Z q
def zs_nsum (f : Nat → Nat) : Nat → Nat
  | 0 => 0
  | n + 1 => zs_nsum f n + f n
theorem zs_nsum_to {f : Nat → Nat} {a : Nat} : ∀ {b : Nat}, a ≤ b → (∀ j, a ≤ j → j < b → f j = 0) → zs_nsum f b = zs_nsum f a := by
  intro b
  induction b with
  | zero => intro h _; rw [Nat.le_zero.mp h]
  | succ b ih =>
    intro h hz
    rcases Nat.eq_or_lt_of_le h with q | q
    · rw [q]
    · show zs_nsum f b + f b = _
      rw [hz b (by omega) (by omega), ih (by omega) (fun j h1 h2 => hz j h1 (by omega))]
      rfl
theorem zs_nsum_step {f : Nat → Nat} {a i : Nat} (h : a ≤ i) (hz : ∀ j, a ≤ j → j < i → f j = 0) : zs_nsum f (i + 1) = zs_nsum f a + f i := by
  show zs_nsum f i + f i = _
  rw [zs_nsum_to h hz]
theorem zs_nsum_le {f h : Nat → Nat} : ∀ {n : Nat}, (∀ j, j < n → f j ≤ h j) → zs_nsum f n ≤ zs_nsum h n := by
  intro n
  induction n with
  | zero => intro _; exact Nat.le_refl _
  | succ n ih => intro hh; exact Nat.add_le_add (ih (fun j hj => hh j (by omega))) (hh n (by omega))
theorem zs_nsum_congr {f h : Nat → Nat} : ∀ {n : Nat}, (∀ j, j < n → f j = h j) → zs_nsum f n = zs_nsum h n := by
  intro n
  induction n with
  | zero => intro _; rfl
  | succ n ih => intro hh; show zs_nsum f n + f n = zs_nsum h n + h n; rw [ih (fun j hj => hh j (by omega)), hh n (by omega)]
theorem zs_nsum_one {f : Nat → Nat} : ∀ {n : Nat}, (∀ j, j < n → f j ≤ 1) → zs_nsum f n ≤ n := by
  intro n
  induction n with
  | zero => intro _; exact Nat.le_refl _
  | succ n ih => intro hh; exact Nat.add_le_add (ih (fun j hj => hh j (by omega))) (hh n (by omega))
theorem zs_cnt_nsum (ll : Nat → Int64) (n : Nat) : zs_cnt ll n = zs_nsum (fun i => if 0 < ll i then 1 else 0) n := by
  induction n with
  | zero => rfl
  | succ n ih => show zs_cnt ll n + _ = zs_nsum _ n + _; rw [ih]
def zs_cpf (S : zs_S) (p i : Nat) : Nat := if zs_lp S i = p ∧ 0 < zs_ll S i then 1 else 0
/-- the layers of party p that aren't empty -/
def zs_cntp (S : zs_S) (p : Nat) : Nat := zs_nsum (zs_cpf S p) (zs_nl S)
/-- n pieces of kind k taken from party p's layers, oldest first, after i layers: what is left in each, what is still wanting, the worth -/
def zs_take (S : zs_S) (p k : Nat) (n : Int64) : Nat → (Nat → Int64) × Int64 × Int64
  | 0 => (zs_ll S, n, 0)
  | i + 1 => if zs_lp S i = p ∧ zs_lk S i = k then (vp_updL (zs_take S p k n i).1 i ((zs_take S p k n i).1 i - (if (zs_take S p k n i).1 i < (zs_take S p k n i).2.1 then (zs_take S p k n i).1 i else (zs_take S p k n i).2.1)), (zs_take S p k n i).2.1 - (if (zs_take S p k n i).1 i < (zs_take S p k n i).2.1 then (zs_take S p k n i).1 i else (zs_take S p k n i).2.1), (zs_take S p k n i).2.2 + (if (zs_take S p k n i).1 i < (zs_take S p k n i).2.1 then (zs_take S p k n i).1 i else (zs_take S p k n i).2.1) * zs_lc S i) else zs_take S p k n i
theorem zs_take_pos {S : zs_S} {p k : Nat} {n : Int64} {i : Nat} {f : Nat → Int64} {lf wo : Int64} (e : zs_take S p k n i = (f, lf, wo)) (h : zs_lp S i = p ∧ zs_lk S i = k) : zs_take S p k n (i + 1) = (vp_updL f i (f i - (if f i < lf then f i else lf)), lf - (if f i < lf then f i else lf), wo + (if f i < lf then f i else lf) * zs_lc S i) := by
  simp only [zs_take, if_pos h, e]
theorem zs_take_neg {S : zs_S} {p k : Nat} {n : Int64} {i : Nat} (h : ¬ (zs_lp S i = p ∧ zs_lk S i = k)) : zs_take S p k n (i + 1) = zs_take S p k n i := if_neg h
theorem zs_take_to {S : zs_S} {p k : Nat} {n : Int64} {a : Nat} : ∀ {b : Nat}, a ≤ b → (∀ j, a ≤ j → j < b → zs_lp S j ≠ p) → zs_take S p k n b = zs_take S p k n a := by
  intro b
  induction b with
  | zero => intro h _; rw [Nat.le_zero.mp h]
  | succ b ih =>
    intro h hz
    rcases Nat.eq_or_lt_of_le h with q | q
    · rw [q]
    · have := hz b (by omega) (by omega)
      rw [zs_take_neg (fun e => this e.1)]
      exact ih (by omega) (fun j h1 h2 => hz j h1 (by omega))
theorem zs_take_hit {S : zs_S} {p k : Nat} {n : Int64} {a i : Nat} {f : Nat → Int64} {lf wo : Int64} (e : (f, lf, wo) = zs_take S p k n a) (h : a ≤ i) (hz : ∀ j, a ≤ j → j < i → zs_lp S j ≠ p) (h1 : zs_lp S i = p) (h2 : zs_lk S i = k) : (vp_updL f i (f i - (if f i < lf then f i else lf)), lf - (if f i < lf then f i else lf), wo + (if f i < lf then f i else lf) * zs_lc S i) = zs_take S p k n (i + 1) :=
  (zs_take_pos ((zs_take_to h hz).trans e.symm) ⟨h1, h2⟩).symm
theorem zs_take_miss {S : zs_S} {p k : Nat} {n : Int64} {a i : Nat} {f : Nat → Int64} {lf wo : Int64} (e : (f, lf, wo) = zs_take S p k n a) (h : a ≤ i) (hz : ∀ j, a ≤ j → j < i → zs_lp S j ≠ p) (h2 : ¬ zs_lk S i = k) : (f, lf, wo) = zs_take S p k n (i + 1) :=
  (e.trans (zs_take_to h hz).symm).trans (zs_take_neg (fun q => h2 q.2)).symm
theorem zs_nI_step (c : Nat) (b : Prop) [Decidable b] : nI c + nI (if b then 1 else 0) = nI (c + if b then 1 else 0) := nI_add _ _
def zs_best (q c : Nat → Int64) (d : Int64) (Q : Nat → Prop) (L C : Int64) : Prop := (L = -1 ∧ C = 0 ∧ ∀ j, Q j → ¬ q j ≤ d) ∨ ∃ j, Q j ∧ q j ≤ d ∧ L = q j ∧ C = c j ∧ ∀ i, Q i → q i ≤ d → q i ≤ q j
theorem zs_m1 {x : Int64} (h : 0 ≤ x) : -1 < x := by
  rw [Int64.le_iff_toInt_le] at h
  rw [Int64.lt_iff_toInt_lt]
  have h1 : (-1 : Int64).toInt = -1 := rfl
  have h2 : (0 : Int64).toInt = 0 := rfl
  omega
theorem zs_best_in {q c : Nat → Int64} {d : Int64} {Q Q' : Nat → Prop} {L C : Int64} (h : zs_best q c d Q L C) {j : Nat} (hQ : ∀ i, Q' i ↔ Q i ∨ i = j) (h1 : q j ≤ d) (h2 : L < q j) : zs_best q c d Q' (q j) (c j) := by
  refine Or.inr ⟨j, (hQ j).mpr (Or.inr rfl), h1, rfl, rfl, fun i hi hd => ?_⟩
  rcases (hQ i).mp hi with hi | hi
  · rcases h with ⟨_, _, h3⟩ | ⟨k, _, _, h4, _, h5⟩
    · exact absurd hd (h3 i hi)
    · have := h5 i hi hd
      rw [← h4] at this
      exact Int64.le_of_lt (Int64.lt_of_le_of_lt this h2)
  · rw [hi]; exact Int64.le_refl _
theorem zs_best_out {q c : Nat → Int64} {d : Int64} {Q Q' : Nat → Prop} {L C : Int64} (h : zs_best q c d Q L C) {j : Nat} (hQ : ∀ i, Q' i ↔ Q i ∨ i = j) (h0 : 0 ≤ q j) (h1 : ¬ (q j ≤ d ∧ L < q j)) : zs_best q c d Q' L C := by
  rcases h with ⟨e1, e2, h3⟩ | ⟨k, g1, g2, g3, g4, g5⟩
  · refine Or.inl ⟨e1, e2, fun i hi => ?_⟩
    rcases (hQ i).mp hi with hi | hi
    · exact h3 i hi
    · rw [hi]; exact fun hd => h1 ⟨hd, by rw [e1]; exact zs_m1 h0⟩
  · refine Or.inr ⟨k, (hQ k).mpr (Or.inl g1), g2, g3, g4, fun i hi hd => ?_⟩
    rcases (hQ i).mp hi with hi | hi
    · exact g5 i hi hd
    · rw [hi] at hd ⊢
      rw [← g3]
      exact Int64.not_lt.mp (fun q => h1 ⟨hd, q⟩)
theorem zs_best_one {q c : Nat → Int64} {d : Int64} {Q : Nat → Prop} {L C L' C' : Int64} (hq : ∀ i j, Q i → Q j → q i = q j → i = j) (h : zs_best q c d Q L C) (h' : zs_best q c d Q L' C') : C = C' := by
  rcases h with ⟨_, e2, h3⟩ | ⟨k, g1, g2, g3, g4, g5⟩ <;> rcases h' with ⟨_, e2', h3'⟩ | ⟨k', g1', g2', g3', g4', g5'⟩
  · rw [e2, e2']
  · exact absurd g2' (h3 k' g1')
  · exact absurd g2 (h3' k g1)
  · have : k = k' := hq k k' g1 g1' (Int64.le_antisymm (g5' k g1 g2) (g5 k' g1' g2'))
    rw [g4, g4', this]
/-- the reference's search of the price: ascending -/
def zs_po (q c : Nat → Int64) (d : Int64) : Nat → Int64 × Int64
  | 0 => (-1, 0)
  | n + 1 => if q n ≤ d ∧ (zs_po q c d n).1 < q n then (q n, c n) else zs_po q c d n
theorem zs_po_best {q c : Nat → Int64} {d : Int64} : ∀ {n : Nat}, (∀ j, j < n → 0 ≤ q j) → zs_best q c d (fun i => i < n) (zs_po q c d n).1 (zs_po q c d n).2 := by
  intro n
  induction n with
  | zero => intro _; exact Or.inl ⟨rfl, rfl, fun j hj => by omega⟩
  | succ n ih =>
    intro h
    have h1 := ih (fun j hj => h j (by omega))
    unfold zs_po
    split
    · rename_i hc
      exact zs_best_in h1 (fun i => by omega) hc.1 hc.2
    · rename_i hc
      exact zs_best_out h1 (fun i => by omega) (h n (by omega)) hc
/-- the price of kind k on day d -/
def zs_pr (S : zs_S) (k : Nat) (d : Int64) : Int64 := (zs_po (fun j => zs_pd S (20 * k + j)) (fun j => zs_pc S (20 * k + j)) d (zs_pn S k)).2
theorem zs_pr_of {S : zs_S} (hI : zs_Ik S) {k : Nat} {d L C : Int64} (h : zs_best (fun j => zs_pd S (20 * k + j)) (fun j => zs_pc S (20 * k + j)) d (fun i => i < zs_pn S k) L C) : C = zs_pr S k d :=
  zs_best_one (fun i j hi hj e => hI.2.2.2.2 k i j hi hj e) h (zs_po_best (fun j hj => hI.2.2.2.1 k j hj))
/-- the last place below n where q is d; b if there is none -/
def zs_at (q : Nat → Int64) (d : Int64) (b : Nat) : Nat → Nat
  | 0 => b
  | n + 1 => if q n = d then n else zs_at q d b n
theorem zs_at_lt {q : Nat → Int64} {d : Int64} {b : Nat} : ∀ {n : Nat}, zs_at q d b n = b ∨ zs_at q d b n < n := by
  intro n
  induction n with
  | zero => exact Or.inl rfl
  | succ n ih =>
    unfold zs_at
    split
    · exact Or.inr (Nat.lt_succ_self _)
    · rcases ih with h | h
      · exact Or.inl h
      · exact Or.inr (by omega)
/-- a price told: whether it is taken, and the state -/
def zs_tell (S : zs_S) (k : Nat) (d c : Int64) : Int32 × zs_S :=
  if zs_at (fun j => zs_pd S (20 * k + j)) d (zs_pn S k) (zs_pn S k) < zs_pn S k then (1, zs_pc_ S (vp_updL (zs_pc S) (20 * k + zs_at (fun j => zs_pd S (20 * k + j)) d (zs_pn S k) (zs_pn S k)) c))
  else if zs_pn S k < 20 then (1, zs_addp S k d c) else (0, S)
/-- what addLayer changes -/
def zs_alp (X : zs_X) (Z : zs_Z) (M : zk_M) (p a : Nat) (u : zk_M) : Prop := u (Z (3, p, 0)) = some (.inr (2, [va_rf (match zs_lst (zs_lp X.1) p (zs_nl X.1) with | none => some a | some _ => (zs_nx X.1 p 0).map (fun i => Z (6, i, 0))), .ref a])) ∧ (∀ i, zs_lst (zs_lp X.1) p (zs_nl X.1) = some i → u (Z (6, i, 0)) = some (.inr (1, [.ref (Z (4, zs_lk X.1 i, 0)), .long (zs_ld X.1 i), .long (zs_lc X.1 i), .long (zs_ll X.1 i), .ref a]))) ∧ ∀ b, b ≠ Z (3, p, 0) → (∀ i, zs_lst (zs_lp X.1) p (zs_nl X.1) = some i → b ≠ Z (6, i, 0)) → u b = M b
theorem inw_wsX2_layersInUse_1 : ∀ w ∈ u_ws RX1 TX1 5, w ∈ wsX2_layersInUse := by decide +kernel
theorem inw_wsX2_layersInUse_2 : ∀ w ∈ u_ws RX2 TX2 2, w ∈ wsX2_layersInUse := by decide +kernel
set_option maxHeartbeats 4000000 in
set_option maxRecDepth 100000 in
theorem zc_X2_layersInUse (l : Launch) {g : zk_G} {z : Nat} {M : zk_M} {X : zs_X} {Z : zs_Z} (hR : zs_R g X Z M) {p : Nat} (hp : p < zs_np X.1) : Met l yX2_layersInUse wsX2_layersInUse ({ frames := 0, cells := 0, slots := 0, locals := 0 } : Room) (va_Pc [.ref (Z (3, p, 0))] (zk_U g z M)) (vp_Si (fun r => r = nI (zs_cntp X.1 p))) 0 0 (fun _ => False) := by
  refine Met.ofW (cc := cX2_layersInUse) (maxL := 3) (ret := (some .int)) (by decide) rfl ?_
  intro P0 e0 s m0 args below meth c0 s₁ B hml hv
  obtain ⟨rfl, hH, hK, hN⟩ := hv
  have hx := B.exec
  have hb := B.bytes
  have hr := B.returns
  have hts := atoms_spec (ws := wsX2_layersInUse) B.pre
  have hown : s.vm.findClass RX2 = some m0.cls := findClass_of_methodNamed B.named
  have hlocks := B.notSynchronized
  have hl := lv_entry ([.ref (Z (3, p, 0))]) (n := 3) (Nat.le_of_ble_eq_true rfl)
  rw [lg_entry_eq]
  generalize (lg_sl ([.ref (Z (3, p, 0))]) ++ List.replicate (3 - (lg_sl ([.ref (Z (3, p, 0))])).length) Slot.unset).toArray = ls at hl ⊢
  have hl : lv_has ls 3 [(0, .ref (Z (3, p, 0)))] := hl
  have hP : M (Z (3, p, 0)) = some (.inr (2, [va_rf ((zs_nx X.1 p 0).map (fun i => Z (6, i, 0))), va_rf ((zs_lst (zs_lp X.1) p (zs_nl X.1)).map (fun i => Z (6, i, 0)))])) := hR.1 (3, p, 0) ⟨hp, rfl⟩
  refine lv_iconst (v := 0) hx hb dX2_layersInUse_0 (by decide) ?_
  refine lv_istore_n (lv' := [(1, .int 0), (0, .ref (Z (3, p, 0)))]) hx hb dX2_layersInUse_1 rfl hl (by decide) rfl (fun ls hl => ?_)
  refine lv_aload_n hx hb dX2_layersInUse_2 rfl (lv_at hl 1 rfl) ?_
  refine zk_get (ci := 2) (v := va_rf ((zs_nx X.1 p 0).map (fun i => Z (6, i, 0)))) (C := RX2) (T := TX2) (N := 2) hx hb hts inw_wsX2_layersInUse_2 hown hK hH hP rfl 0 (by decide) (hts (.fieldLink RX2 13 "KegDeposits$Party" "oldest" "LKegDeposits$Layer;") (by decide +kernel)) rfl dX2_layersInUse_3 ?_
  refine zk_astore_n (lv' := [(2, va_rf ((zs_nx X.1 p 0).map (fun i => Z (6, i, 0)))), (1, .int 0), (0, .ref (Z (3, p, 0)))]) hx hb dX2_layersInUse_6 rfl hl (by decide) rfl (fun ls hl => ?_)
  have loop : ∀ (n a : Nat) (acc : Int32) (ls : Array Slot), zs_nl X.1 - a < n → a ≤ zs_nl X.1 → acc = nI (zs_nsum (zs_cpf X.1 p) a) → lv_has ls 3 [(2, va_rf ((zs_nx X.1 p a).map (fun i => Z (6, i, 0)))), (1, .int acc), (0, .ref (Z (3, p, 0)))] → W P0 l e0 (headSpec wsX2_layersInUse ({ frames := 0, cells := 0, slots := 0, locals := 0 } : Room)).room s m0 ([.ref (Z (3, p, 0))] : List Value).toArray below meth c0 s.heap [] 0 0 (MQ below (vp_Si (fun r => r = nI (zs_cntp X.1 p))) ([.ref (Z (3, p, 0))] : List Value).toArray s 0 0 (fun _ => False)) (F0 m0 7 ls []) := by
    intro n
    induction n with
    | zero => intro a acc ls hn; omega
    | succ n ih =>
      intro a acc ls hn ha hacc hl
      cases hnx : zs_nx X.1 p a with
      | none =>
        rw [hnx] at hl
        have hl : lv_has ls 3 [(2, .null), (1, .int acc), (0, .ref (Z (3, p, 0)))] := hl
        refine lv_aload_nN hx hb dX2_layersInUse_7 rfl (lv_at hl 0 rfl) ?_
        refine lv_ifnullN (tgt := 31) hx hb dX2_layersInUse_8 (by decide) ?_
        refine lv_iload_n hx hb dX2_layersInUse_31 rfl (lv_at hl 1 rfl) ?_
        exact zk_zretS hx hb hr hlocks (by first | rfl | decide) (by rw [hacc]; unfold zs_cntp; rw [zs_nsum_to ha (fun j h1 h2 => by simp [zs_cpf, zs_nx_none hnx j h1 h2])]) dX2_layersInUse_32
      | some i =>
        obtain ⟨h1, h2, h3, h4⟩ := zs_nx_some hnx
        rw [hnx] at hl
        have hl : lv_has ls 3 [(2, .ref (Z (6, i, 0))), (1, .int acc), (0, .ref (Z (3, p, 0)))] := hl
        have hL : M (Z (6, i, 0)) = some (.inr (1, [.ref (Z (4, zs_lk X.1 i, 0)), .long (zs_ld X.1 i), .long (zs_lc X.1 i), .long (zs_ll X.1 i), va_rf ((zs_nx X.1 p (i + 1)).map (fun i => Z (6, i, 0)))])) := by rw [← h3]; exact hR.1 (6, i, 0) ⟨h2, rfl⟩
        have hs := zs_nsum_step (f := zs_cpf X.1 p) h1 (fun j g1 g2 => by simp [zs_cpf, h4 j g1 g2])
        refine lv_aload_n hx hb dX2_layersInUse_7 rfl (lv_at hl 0 rfl) ?_
        refine lv_ifnull hx hb dX2_layersInUse_8 ?_
        refine lv_aload_n hx hb dX2_layersInUse_11 rfl (lv_at hl 0 rfl) ?_
        refine zk_getN (ci := 1) (v := .long (zs_ll X.1 i)) (C := RX1) (T := TX1) (N := 5) hx hb hts inw_wsX2_layersInUse_1 hown hK hH hL rfl 3 (by decide) (zk_nf_8 hN) rfl dX2_layersInUse_12 ?_
        refine lv_lconst (v := 0) hx hb dX2_layersInUse_15 (by decide) ?_
        refine zk_lc_le (tgt := 23) hx hb dX2_layersInUse_16 dX2_layersInUse_17 (by decide) (fun h_16 => ?_) (fun h_16 => ?_)
        · skip
          have hz : ¬ 0 < zs_ll X.1 i := fun q => absurd h_16 (Int64.not_le.mpr q)
          refine lv_aload_n hx hb dX2_layersInUse_23 rfl (lv_at hl 0 rfl) ?_
          refine zk_getN (ci := 1) (v := va_rf ((zs_nx X.1 p (i + 1)).map (fun i => Z (6, i, 0)))) (C := RX1) (T := TX1) (N := 5) hx hb hts inw_wsX2_layersInUse_1 hown hK hH hL rfl 4 (by decide) (zk_nf_9 hN) rfl dX2_layersInUse_24 ?_
          refine zk_astore_n (lv' := [(2, va_rf ((zs_nx X.1 p (i + 1)).map (fun i => Z (6, i, 0)))), (1, .int acc), (0, .ref (Z (3, p, 0)))]) hx hb dX2_layersInUse_27 rfl hl (by decide) rfl (fun ls hl => ?_)
          refine lv_goto (tgt := 7) hx hb dX2_layersInUse_28 (by decide) ?_
          exact ih (i + 1) _ ls (by omega) (by omega) (by rw [hs, hacc]; simp [zs_cpf, hz]) (lv_sub hl [0, 1, 2] rfl)
        · skip
          have hz : 0 < zs_ll X.1 i := Int64.not_le.mp h_16
          refine lv_iinc (v := (acc + 1)) (lv' := [(1, .int (acc + 1)), (2, .ref (Z (6, i, 0))), (0, .ref (Z (3, p, 0)))]) hx hb dX2_layersInUse_20 hl (k := 1) rfl rfl (by decide) rfl (fun ls hl => ?_)
          refine lv_aload_n hx hb dX2_layersInUse_23 rfl (lv_at hl 1 rfl) ?_
          refine zk_getN (ci := 1) (v := va_rf ((zs_nx X.1 p (i + 1)).map (fun i => Z (6, i, 0)))) (C := RX1) (T := TX1) (N := 5) hx hb hts inw_wsX2_layersInUse_1 hown hK hH hL rfl 4 (by decide) (zk_nf_9 hN) rfl dX2_layersInUse_24 ?_
          refine zk_astore_n (lv' := [(2, va_rf ((zs_nx X.1 p (i + 1)).map (fun i => Z (6, i, 0)))), (1, .int (acc + 1)), (0, .ref (Z (3, p, 0)))]) hx hb dX2_layersInUse_27 rfl hl (by decide) rfl (fun ls hl => ?_)
          refine lv_goto (tgt := 7) hx hb dX2_layersInUse_28 (by decide) ?_
          exact ih (i + 1) _ ls (by omega) (by omega) (by rw [hs, hacc]; simp only [zs_cpf, h3, hz, and_self, if_true]; exact nI_add _ 1) (lv_sub hl [0, 1, 2] rfl)
  exact loop (zs_nl X.1 + 1) 0 0 ls (by omega) (by omega) rfl (lv_sub hl [0, 1, 2] rfl)

theorem inw_wsX2_giveBack_1 : ∀ w ∈ u_ws RX1 TX1 5, w ∈ wsX2_giveBack := by decide +kernel
theorem inw_wsX2_giveBack_2 : ∀ w ∈ u_ws RX2 TX2 2, w ∈ wsX2_giveBack := by decide +kernel
set_option maxHeartbeats 4000000 in
set_option maxRecDepth 100000 in
theorem zc_X2_giveBack (l : Launch) {g : zk_G} {z : Nat} {M : zk_M} {X : zs_X} {Z : zs_Z} (hR : zs_R g X Z M) (hI : ∀ i, i < zs_nl X.1 → zs_lk X.1 i < zs_nk X.1) {p k : Nat} (hp : p < zs_np X.1) (hk : k < zs_nk X.1) (num : Int64) : Met l yX2_giveBack wsX2_giveBack ({ frames := 1, cells := 0, slots := 0, locals := 20 } : Room) (va_Pc [.ref (Z (3, p, 0)), .ref (Z (4, k, 0)), .long num] (zk_U g z M)) (va_Ql (fun r u => r = (zs_take X.1 p k num (zs_nl X.1)).2.2 ∧ zs_R g (zs_ll_ X.1 (zs_take X.1 p k num (zs_nl X.1)).1, X.2) Z u) (zk_B g z) (fun q => z ≤ q)) 0 0 (fun q => z ≤ q) := by
  refine Met.ofW (cc := cX2_giveBack) (maxL := 11) (ret := (some .long)) (by decide) rfl ?_
  intro P0 e0 s m0 args below meth c0 s₁ B hml hv
  obtain ⟨rfl, hH, hK, hN⟩ := hv
  have hx := B.exec
  have hb := B.bytes
  have hr := B.returns
  have hts := atoms_spec (ws := wsX2_giveBack) B.pre
  have hown : s.vm.findClass RX2 = some m0.cls := findClass_of_methodNamed B.named
  have hlocks := B.notSynchronized
  have hS : va_S (fun q => z ≤ q) s.heap s.heap [] := va_S.rf
  have hl := lv_entry ([.ref (Z (3, p, 0)), .ref (Z (4, k, 0)), .long num]) (n := 11) (Nat.le_of_ble_eq_true rfl)
  rw [lg_entry_eq]
  generalize (lg_sl ([.ref (Z (3, p, 0)), .ref (Z (4, k, 0)), .long num]) ++ List.replicate (11 - (lg_sl ([.ref (Z (3, p, 0)), .ref (Z (4, k, 0)), .long num])).length) Slot.unset).toArray = ls at hl ⊢
  have hl : lv_has ls 11 [(0, .ref (Z (3, p, 0))), (1, .ref (Z (4, k, 0))), (2, .long num)] := hl
  have hP : M (Z (3, p, 0)) = some (.inr (2, [va_rf ((zs_nx X.1 p 0).map (fun i => Z (6, i, 0))), va_rf ((zs_lst (zs_lp X.1) p (zs_nl X.1)).map (fun i => Z (6, i, 0)))])) := hR.1 (3, p, 0) ⟨hp, rfl⟩
  refine lv_lload_n hx hb dX2_giveBack_0 rfl (lv_at hl 2 rfl) ?_
  refine lv_lstore (lv' := [(4, .long num), (0, .ref (Z (3, p, 0))), (1, .ref (Z (4, k, 0))), (2, .long num)]) hx hb dX2_giveBack_1 hl (by decide) rfl (fun ls hl => ?_)
  refine lv_lconst (v := 0) hx hb dX2_giveBack_3 (by decide) ?_
  refine lv_lstore (lv' := [(6, .long 0), (4, .long num), (0, .ref (Z (3, p, 0))), (1, .ref (Z (4, k, 0))), (2, .long num)]) hx hb dX2_giveBack_4 hl (by decide) rfl (fun ls hl => ?_)
  refine lv_aload_n hx hb dX2_giveBack_6 rfl (lv_at hl 2 rfl) ?_
  refine zk_get (ci := 2) (v := va_rf ((zs_nx X.1 p 0).map (fun i => Z (6, i, 0)))) (C := RX2) (T := TX2) (N := 2) hx hb hts inw_wsX2_giveBack_2 hown hK hH hP rfl 0 (by decide) (hts (.fieldLink RX2 13 "KegDeposits$Party" "oldest" "LKegDeposits$Layer;") (by decide +kernel)) rfl dX2_giveBack_7 ?_
  refine zk_astore (lv' := [(8, va_rf ((zs_nx X.1 p 0).map (fun i => Z (6, i, 0)))), (6, .long 0), (4, .long num), (0, .ref (Z (3, p, 0))), (1, .ref (Z (4, k, 0))), (2, .long num)]) hx hb dX2_giveBack_10 hl (by decide) rfl (fun ls hl => ?_)
  have loop : ∀ (n a : Nat) (f : Nat → Int64) (lf : Int64) (wo : Int64) (Mx : zk_M) (H : Heap) (locs : List Loc) (ls : Array Slot), zs_nl X.1 - a < n → a ≤ zs_nl X.1 → (f, lf, wo) = zs_take X.1 p k num a → zs_R g (zs_ll_ X.1 f, X.2) Z Mx → zk_H g z Mx H → va_S (fun q => z ≤ q) s.heap H locs → lv_has ls 11 [(8, va_rf ((zs_nx X.1 p a).map (fun i => Z (6, i, 0)))), (4, .long lf), (6, .long wo), (0, .ref (Z (3, p, 0))), (1, .ref (Z (4, k, 0)))] → W P0 l e0 (headSpec wsX2_giveBack ({ frames := 1, cells := 0, slots := 0, locals := 20 } : Room)).room s m0 ([.ref (Z (3, p, 0)), .ref (Z (4, k, 0)), .long num] : List Value).toArray below meth c0 H locs 0 0 (MQ below (va_Ql (fun r u => r = (zs_take X.1 p k num (zs_nl X.1)).2.2 ∧ zs_R g (zs_ll_ X.1 (zs_take X.1 p k num (zs_nl X.1)).1, X.2) Z u) (zk_B g z) (fun q => z ≤ q)) ([.ref (Z (3, p, 0)), .ref (Z (4, k, 0)), .long num] : List Value).toArray s 0 0 (fun q => z ≤ q)) (F0 m0 12 ls []) := by
    intro n
    induction n with
    | zero => intro a f lf wo Mx H locs ls hn; omega
    | succ n ih =>
      intro a f lf wo Mx H locs ls hn ha he hRx hH hS hl
      cases hnx : zs_nx X.1 p a with
      | none =>
        rw [hnx] at hl
        have hl : lv_has ls 11 [(8, .null), (4, .long lf), (6, .long wo), (0, .ref (Z (3, p, 0))), (1, .ref (Z (4, k, 0)))] := hl
        refine lv_aloadN hx hb dX2_giveBack_12 (lv_at hl 0 rfl) ?_
        refine lv_ifnullN (tgt := 80) hx hb dX2_giveBack_14 (by decide) ?_
        refine lv_lload hx hb dX2_giveBack_80 (lv_at hl 2 rfl) ?_
        exact zk_lret hx hb hr hlocks hH hS (by decide) (by decide) (by rw [zs_take_to ha (fun j h1 h2 => zs_nx_none hnx j h1 h2), ← he]; exact ⟨rfl, hRx⟩) dX2_giveBack_82
      | some i =>
        obtain ⟨h1, h2, h3, h4⟩ := zs_nx_some hnx
        rw [hnx] at hl
        have hl : lv_has ls 11 [(8, .ref (Z (6, i, 0))), (4, .long lf), (6, .long wo), (0, .ref (Z (3, p, 0))), (1, .ref (Z (4, k, 0)))] := hl
        have hL : Mx (Z (6, i, 0)) = some (.inr (1, [.ref (Z (4, zs_lk X.1 i, 0)), .long (zs_ld X.1 i), .long (zs_lc X.1 i), .long (f i), va_rf ((zs_nx X.1 p (i + 1)).map (fun i => Z (6, i, 0)))])) := by rw [← h3]; exact hRx.1 (6, i, 0) ⟨h2, rfl⟩
        refine lv_aload hx hb dX2_giveBack_12 (lv_at hl 0 rfl) ?_
        refine lv_ifnull hx hb dX2_giveBack_14 ?_
        refine lv_aload hx hb dX2_giveBack_17 (lv_at hl 0 rfl) ?_
        refine zk_getN (ci := 1) (v := .ref (Z (4, zs_lk X.1 i, 0))) (C := RX1) (T := TX1) (N := 5) hx hb hts inw_wsX2_giveBack_1 hown hK hH hL rfl 0 (by decide) (zk_nf_5 hN) rfl dX2_giveBack_19 ?_
        refine lv_aload_n hx hb dX2_giveBack_22 rfl (lv_at hl 4 rfl) ?_
        refine lv_acmp_ne (rx := (some (Z (4, zs_lk X.1 i, 0)))) (ry := (some (Z (4, k, 0)))) (tgt := 70) hx hb dX2_giveBack_23 (by decide) (fun h_23 => ?_) (fun h_23 => ?_)
        · skip
          have hkk : ¬ zs_lk X.1 i = k := fun q => h_23 (by rw [q])
          refine lv_aload hx hb dX2_giveBack_70 (lv_at hl 0 rfl) ?_
          refine zk_getN (ci := 1) (v := va_rf ((zs_nx X.1 p (i + 1)).map (fun i => Z (6, i, 0)))) (C := RX1) (T := TX1) (N := 5) hx hb hts inw_wsX2_giveBack_1 hown hK hH hL rfl 4 (by decide) (zk_nf_9 hN) rfl dX2_giveBack_72 ?_
          refine zk_astore (lv' := [(8, va_rf ((zs_nx X.1 p (i + 1)).map (fun i => Z (6, i, 0)))), (4, .long lf), (6, .long wo), (0, .ref (Z (3, p, 0))), (1, .ref (Z (4, k, 0)))]) hx hb dX2_giveBack_75 hl (by decide) rfl (fun ls hl => ?_)
          refine lv_goto (tgt := 12) hx hb dX2_giveBack_77 (by decide) ?_
          exact ih (i + 1) _ _ _ _ _ _ ls (by omega) (by omega) (zs_take_miss he h1 h4 hkk) hRx hH hS (lv_sub hl [0, 1, 2, 3, 4] rfl)
        · skip
          have hkk : zs_lk X.1 i = k := by have := hR.2 (4, zs_lk X.1 i, 0) (4, k, 0) ⟨hI i h2, rfl⟩ ⟨hk, rfl⟩ (Option.some.inj h_23); simpa using this
          refine lv_lload hx hb dX2_giveBack_26 (lv_at hl 1 rfl) ?_
          refine lv_aload hx hb dX2_giveBack_28 (lv_at hl 0 rfl) ?_
          refine zk_getN (ci := 1) (v := .long (f i)) (C := RX1) (T := TX1) (N := 5) hx hb hts inw_wsX2_giveBack_1 hown hK hH hL rfl 3 (by decide) (zk_nf_8 hN) rfl dX2_giveBack_30 ?_
          refine va_mmin_long hx hb (hml.trans hl.1.symm) hown (hts (.methodLink RX2 32 Lib.MathLoose.min_long.x) (by decide +kernel)) (hts (.static Lib.MathLoose.min_long.x) (by decide +kernel)) (hts (.initialized "java/lang/Math") (by decide +kernel)) (hts (.code Lib.MathLoose.min_long.x Lib.MathLoose.min_long.code 4 (some .long)) (by decide +kernel)) (Nat.le_of_ble_eq_true rfl) (Nat.le_of_ble_eq_true rfl) (Nat.le_of_ble_eq_true rfl) (Nat.le_of_ble_eq_true rfl) dX2_giveBack_33 ?_
          refine lv_lstore (lv' := [(9, .long (if f i < lf then f i else lf)), (8, .ref (Z (6, i, 0))), (4, .long lf), (6, .long wo), (0, .ref (Z (3, p, 0))), (1, .ref (Z (4, k, 0)))]) hx hb dX2_giveBack_36 hl (by decide) rfl (fun ls hl => ?_)
          refine lv_aload hx hb dX2_giveBack_38 (lv_at hl 1 rfl) ?_
          refine lv_dup hx hb dX2_giveBack_40 rfl ?_
          refine zk_getN (ci := 1) (v := .long (f i)) (C := RX1) (T := TX1) (N := 5) hx hb hts inw_wsX2_giveBack_1 hown hK hH hL rfl 3 (by decide) (zk_nf_8 hN) rfl dX2_giveBack_41 ?_
          refine lv_lload hx hb dX2_giveBack_44 (lv_at hl 0 rfl) ?_
          refine lv_lsub hx hb dX2_giveBack_46 ?_
          refine zk_putN (ci := 1) (v := .long (f i - (if f i < lf then f i else lf))) (C := RX1) (T := TX1) (N := 5) hx hb hts inw_wsX2_giveBack_1 tyX1 tyX1_ok nmX1 hown hK hH hS hL rfl 3 (by decide) (zk_nf_8 hN) rfl rfl rfl (Nat.le_of_ble_eq_true rfl) dX2_giveBack_47 (fun H locs hH hS => ?_)
          obtain ⟨M_47, eM_47⟩ : ∃ w_0 : zk_M, w_0 = zk_up Mx (Z (6, i, 0)) (.inr (1, [.ref (Z (4, zs_lk X.1 i, 0)), .long (zs_ld X.1 i), .long (zs_lc X.1 i), .long (f i - (if f i < lf then f i else lf)), va_rf ((zs_nx X.1 p (i + 1)).map (fun i => Z (6, i, 0)))])) := ⟨_, rfl⟩
          have hH : zk_H g z M_47 H := by rw [eM_47]; exact hH
          have e_47 : M_47 (Z (6, i, 0)) = some (.inr (1, [.ref (Z (4, zs_lk X.1 i, 0)), .long (zs_ld X.1 i), .long (zs_lc X.1 i), .long (f i - (if f i < lf then f i else lf)), va_rf ((zs_nx X.1 p (i + 1)).map (fun i => Z (6, i, 0)))])) := by rw [eM_47]; exact zk_up_s _ _ _
          refine lv_lload hx hb dX2_giveBack_50 (lv_at hl 2 rfl) ?_
          refine lv_lload hx hb dX2_giveBack_52 (lv_at hl 0 rfl) ?_
          refine lv_lsub hx hb dX2_giveBack_54 ?_
          refine lv_lstore (lv' := [(4, .long (lf - (if f i < lf then f i else lf))), (9, .long (if f i < lf then f i else lf)), (8, .ref (Z (6, i, 0))), (6, .long wo), (0, .ref (Z (3, p, 0))), (1, .ref (Z (4, k, 0)))]) hx hb dX2_giveBack_55 hl (by decide) rfl (fun ls hl => ?_)
          refine lv_lload hx hb dX2_giveBack_57 (lv_at hl 3 rfl) ?_
          refine lv_lload hx hb dX2_giveBack_59 (lv_at hl 1 rfl) ?_
          refine lv_aload hx hb dX2_giveBack_61 (lv_at hl 2 rfl) ?_
          refine zk_getN (ci := 1) (v := .long (zs_lc X.1 i)) (C := RX1) (T := TX1) (N := 5) hx hb hts inw_wsX2_giveBack_1 hown hK hH e_47 rfl 2 (by decide) (zk_nf_7 hN) rfl dX2_giveBack_63 ?_
          refine lv_lmul hx hb dX2_giveBack_66 ?_
          refine lv_ladd hx hb dX2_giveBack_67 ?_
          refine lv_lstore (lv' := [(6, .long (wo + ((if f i < lf then f i else lf) * zs_lc X.1 i))), (4, .long (lf - (if f i < lf then f i else lf))), (9, .long (if f i < lf then f i else lf)), (8, .ref (Z (6, i, 0))), (0, .ref (Z (3, p, 0))), (1, .ref (Z (4, k, 0)))]) hx hb dX2_giveBack_68 hl (by decide) rfl (fun ls hl => ?_)
          refine lv_aload hx hb dX2_giveBack_70 (lv_at hl 3 rfl) ?_
          refine zk_getN (ci := 1) (v := va_rf ((zs_nx X.1 p (i + 1)).map (fun i => Z (6, i, 0)))) (C := RX1) (T := TX1) (N := 5) hx hb hts inw_wsX2_giveBack_1 hown hK hH e_47 rfl 4 (by decide) (zk_nf_9 hN) rfl dX2_giveBack_72 ?_
          refine zk_astore (lv' := [(8, va_rf ((zs_nx X.1 p (i + 1)).map (fun i => Z (6, i, 0)))), (6, .long (wo + ((if f i < lf then f i else lf) * zs_lc X.1 i))), (4, .long (lf - (if f i < lf then f i else lf))), (9, .long (if f i < lf then f i else lf)), (0, .ref (Z (3, p, 0))), (1, .ref (Z (4, k, 0)))]) hx hb dX2_giveBack_75 hl (by decide) rfl (fun ls hl => ?_)
          refine lv_goto (tgt := 12) hx hb dX2_giveBack_77 (by decide) ?_
          exact ih (i + 1) _ _ _ _ _ _ ls (by omega) (by omega) (zs_take_hit he h1 h4 h3 hkk) (by rw [eM_47, ← h3]; exact zs_R_ll hRx h2 _) hH hS (lv_sub hl [0, 2, 1, 4, 5] rfl)
  exact loop (zs_nl X.1 + 1) 0 _ _ _ _ _ _ ls (by omega) (by omega) rfl hR hH hS (lv_sub hl [0, 2, 1, 3, 4] rfl)

theorem inw_wsX2_addLayer_1 : ∀ w ∈ u_ws RX1 TX1 5, w ∈ wsX2_addLayer := by decide +kernel
theorem inw_wsX2_addLayer_2 : ∀ w ∈ u_ws RX2 TX2 2, w ∈ wsX2_addLayer := by decide +kernel
set_option maxHeartbeats 4000000 in
set_option maxRecDepth 100000 in
theorem zc_X2_addLayer (l : Launch) {g : zk_G} {z : Nat} {M : zk_M} {X : zs_X} {Z : zs_Z} (hR : zs_R g X Z M) {p a : Nat} (hp : p < zs_np X.1) : Met l yX2_addLayer wsX2_addLayer ({ frames := 0, cells := 0, slots := 0, locals := 0 } : Room) (va_Pc [.ref (Z (3, p, 0)), .ref a] (zk_U g z M)) (va_Qv (fun u => zs_alp X Z M p a u) (zk_B g z) (fun q => z ≤ q)) 0 0 (fun q => z ≤ q) := by
  refine Met.ofW (cc := cX2_addLayer) (maxL := 2) (ret := none) (by decide) rfl ?_
  intro P0 e0 s m0 args below meth c0 s₁ B hml hv
  obtain ⟨rfl, hH, hK, hN⟩ := hv
  have hx := B.exec
  have hb := B.bytes
  have hr := B.returns
  have hts := atoms_spec (ws := wsX2_addLayer) B.pre
  have hown : s.vm.findClass RX2 = some m0.cls := findClass_of_methodNamed B.named
  have hlocks := B.notSynchronized
  have hS : va_S (fun q => z ≤ q) s.heap s.heap [] := va_S.rf
  have hl := lv_entry ([.ref (Z (3, p, 0)), .ref a]) (n := 2) (Nat.le_of_ble_eq_true rfl)
  rw [lg_entry_eq]
  generalize (lg_sl ([.ref (Z (3, p, 0)), .ref a]) ++ List.replicate (2 - (lg_sl ([.ref (Z (3, p, 0)), .ref a])).length) Slot.unset).toArray = ls at hl ⊢
  have hl : lv_has ls 2 [(0, .ref (Z (3, p, 0))), (1, .ref a)] := hl
  have hP : M (Z (3, p, 0)) = some (.inr (2, [va_rf ((zs_nx X.1 p 0).map (fun i => Z (6, i, 0))), va_rf ((zs_lst (zs_lp X.1) p (zs_nl X.1)).map (fun i => Z (6, i, 0)))])) := hR.1 (3, p, 0) ⟨hp, rfl⟩
  cases hlst : zs_lst (zs_lp X.1) p (zs_nl X.1) with
  | none =>
    rw [hlst, show zs_nx X.1 p 0 = none from zs_fst_of (fun j _ h => zs_lst_none hlst j (by omega))] at hP
    refine lv_aload_n hx hb dX2_addLayer_0 rfl (lv_at hl 0 rfl) ?_
    refine zk_get (ci := 2) (v := .null) (C := RX2) (T := TX2) (N := 2) hx hb hts inw_wsX2_addLayer_2 hown hK hH hP rfl 1 (by decide) (hts (.fieldLink RX2 7 "KegDeposits$Party" "newest" "LKegDeposits$Layer;") (by decide +kernel)) rfl dX2_addLayer_1 ?_
    refine lv_ifnonnullN hx hb dX2_addLayer_4 ?_
    refine lv_aload_n hx hb dX2_addLayer_7 rfl (lv_at hl 0 rfl) ?_
    refine lv_aload_n hx hb dX2_addLayer_8 rfl (lv_at hl 1 rfl) ?_
    refine zk_put (ci := 2) (v := .ref a) (C := RX2) (T := TX2) (N := 2) hx hb hts inw_wsX2_addLayer_2 tyX2 tyX2_ok nmX2 hown hK hH hS hP rfl 0 (by decide) (hts (.fieldLink RX2 13 "KegDeposits$Party" "oldest" "LKegDeposits$Layer;") (by decide +kernel)) rfl rfl rfl (Nat.le_of_ble_eq_true rfl) dX2_addLayer_9 (fun H locs hH hS => ?_)
    obtain ⟨M_9, eM_9⟩ : ∃ w_0 : zk_M, w_0 = zk_up M (Z (3, p, 0)) (.inr (2, [.ref a, .null])) := ⟨_, rfl⟩
    have hH : zk_H g z M_9 H := by rw [eM_9]; exact hH
    have e_9 : M_9 (Z (3, p, 0)) = some (.inr (2, [.ref a, .null])) := by rw [eM_9]; exact zk_up_s _ _ _
    refine lv_goto (tgt := 23) hx hb dX2_addLayer_12 (by decide) ?_
    refine lv_aload_n hx hb dX2_addLayer_23 rfl (lv_at hl 0 rfl) ?_
    refine lv_aload_n hx hb dX2_addLayer_24 rfl (lv_at hl 1 rfl) ?_
    refine zk_put (ci := 2) (v := .ref a) (C := RX2) (T := TX2) (N := 2) hx hb hts inw_wsX2_addLayer_2 tyX2 tyX2_ok nmX2 hown hK hH hS e_9 rfl 1 (by decide) (hts (.fieldLink RX2 7 "KegDeposits$Party" "newest" "LKegDeposits$Layer;") (by decide +kernel)) rfl rfl rfl (Nat.le_of_ble_eq_true rfl) dX2_addLayer_25 (fun H locs hH hS => ?_)
    obtain ⟨M_25, eM_25⟩ : ∃ w_0 : zk_M, w_0 = zk_up M_9 (Z (3, p, 0)) (.inr (2, [.ref a, .ref a])) := ⟨_, rfl⟩
    have hH : zk_H g z M_25 H := by rw [eM_25]; exact hH
    have e_25 : M_25 (Z (3, p, 0)) = some (.inr (2, [.ref a, .ref a])) := by rw [eM_25]; exact zk_up_s _ _ _
    exact zk_vret hx hb hr hlocks hH hS (by decide) (by decide) (And.intro (by rw [hlst]; exact e_25) (And.intro (fun i hi => by rw [hlst] at hi; cases hi) (fun b hb _ => by rw [eM_25, zk_up_n _ _ hb, eM_9, zk_up_n _ _ hb]))) dX2_addLayer_28
  | some i =>
    obtain ⟨i1, i2, i3⟩ := zs_lst_some hlst
    rw [hlst] at hP
    have hL : M (Z (6, i, 0)) = some (.inr (1, [.ref (Z (4, zs_lk X.1 i, 0)), .long (zs_ld X.1 i), .long (zs_lc X.1 i), .long (zs_ll X.1 i), va_rf ((zs_nx X.1 (zs_lp X.1 i) (i + 1)).map (fun i => Z (6, i, 0)))])) := hR.1 (6, i, 0) ⟨i1, rfl⟩
    refine lv_aload_n hx hb dX2_addLayer_0 rfl (lv_at hl 0 rfl) ?_
    refine zk_get (ci := 2) (v := .ref (Z (6, i, 0))) (C := RX2) (T := TX2) (N := 2) hx hb hts inw_wsX2_addLayer_2 hown hK hH hP rfl 1 (by decide) (hts (.fieldLink RX2 7 "KegDeposits$Party" "newest" "LKegDeposits$Layer;") (by decide +kernel)) rfl dX2_addLayer_1 ?_
    refine lv_ifnonnull (tgt := 15) hx hb dX2_addLayer_4 (by decide) ?_
    refine lv_aload_n hx hb dX2_addLayer_15 rfl (lv_at hl 0 rfl) ?_
    refine zk_get (ci := 2) (v := .ref (Z (6, i, 0))) (C := RX2) (T := TX2) (N := 2) hx hb hts inw_wsX2_addLayer_2 hown hK hH hP rfl 1 (by decide) (hts (.fieldLink RX2 7 "KegDeposits$Party" "newest" "LKegDeposits$Layer;") (by decide +kernel)) rfl dX2_addLayer_16 ?_
    refine lv_aload_n hx hb dX2_addLayer_19 rfl (lv_at hl 1 rfl) ?_
    refine zk_putN (ci := 1) (v := .ref a) (C := RX1) (T := TX1) (N := 5) hx hb hts inw_wsX2_addLayer_1 tyX1 tyX1_ok nmX1 hown hK hH hS hL rfl 4 (by decide) (zk_nf_9 hN) rfl rfl rfl (Nat.le_of_ble_eq_true rfl) dX2_addLayer_20 (fun H locs hH hS => ?_)
    obtain ⟨M_20, eM_20⟩ : ∃ w_0 : zk_M, w_0 = zk_up M (Z (6, i, 0)) (.inr (1, [.ref (Z (4, zs_lk X.1 i, 0)), .long (zs_ld X.1 i), .long (zs_lc X.1 i), .long (zs_ll X.1 i), .ref a])) := ⟨_, rfl⟩
    have hH : zk_H g z M_20 H := by rw [eM_20]; exact hH
    have f_20_0 : M_20 (Z (3, p, 0)) = some (.inr (2, [va_rf ((zs_nx X.1 p 0).map (fun i => Z (6, i, 0))), .ref (Z (6, i, 0))])) := by rw [eM_20, zk_up_n _ _ (zk_ne hP hL (by simp))]; exact hP
    have e_20 : M_20 (Z (6, i, 0)) = some (.inr (1, [.ref (Z (4, zs_lk X.1 i, 0)), .long (zs_ld X.1 i), .long (zs_lc X.1 i), .long (zs_ll X.1 i), .ref a])) := by rw [eM_20]; exact zk_up_s _ _ _
    refine lv_aload_n hx hb dX2_addLayer_23 rfl (lv_at hl 0 rfl) ?_
    refine lv_aload_n hx hb dX2_addLayer_24 rfl (lv_at hl 1 rfl) ?_
    refine zk_put (ci := 2) (v := .ref a) (C := RX2) (T := TX2) (N := 2) hx hb hts inw_wsX2_addLayer_2 tyX2 tyX2_ok nmX2 hown hK hH hS f_20_0 rfl 1 (by decide) (hts (.fieldLink RX2 7 "KegDeposits$Party" "newest" "LKegDeposits$Layer;") (by decide +kernel)) rfl rfl rfl (Nat.le_of_ble_eq_true rfl) dX2_addLayer_25 (fun H locs hH hS => ?_)
    obtain ⟨M_25, eM_25⟩ : ∃ w_0 : zk_M, w_0 = zk_up M_20 (Z (3, p, 0)) (.inr (2, [va_rf ((zs_nx X.1 p 0).map (fun i => Z (6, i, 0))), .ref a])) := ⟨_, rfl⟩
    have hH : zk_H g z M_25 H := by rw [eM_25]; exact hH
    have f_25_0 : M_25 (Z (6, i, 0)) = some (.inr (1, [.ref (Z (4, zs_lk X.1 i, 0)), .long (zs_ld X.1 i), .long (zs_lc X.1 i), .long (zs_ll X.1 i), .ref a])) := by rw [eM_25, zk_up_n _ _ (zk_ne e_20 f_20_0 (by simp))]; exact e_20
    have e_25 : M_25 (Z (3, p, 0)) = some (.inr (2, [va_rf ((zs_nx X.1 p 0).map (fun i => Z (6, i, 0))), .ref a])) := by rw [eM_25]; exact zk_up_s _ _ _
    exact zk_vret hx hb hr hlocks hH hS (by decide) (by decide) (And.intro (by rw [hlst]; exact e_25) (And.intro (fun j hj => by rw [hlst] at hj; cases hj; exact f_25_0) (fun b hb h6 => by rw [eM_25, zk_up_n _ _ hb, eM_20, zk_up_n _ _ (h6 i hlst)]))) dX2_addLayer_28
end
section
theorem inw_wsX0_priceOn_0 : ∀ w ∈ u_ws RX0 TX0 3, w ∈ wsX0_priceOn := by decide +kernel
theorem inw_wsX0_priceOn_3 : ∀ w ∈ u_ws RX3 TX3 3, w ∈ wsX0_priceOn := by decide +kernel
set_option maxHeartbeats 4000000 in
set_option maxRecDepth 100000 in
theorem zc_X0_priceOn (l : Launch) {g : zk_G} {z : Nat} {M : zk_M} {X : zs_X} {Z : zs_Z} (hR : zs_R g X Z M) (hI : zs_Ik X.1) {k : Nat} (hk : k < zs_nk X.1) (d : Int64) : Met l yX0_priceOn wsX0_priceOn ({ frames := 0, cells := 0, slots := 0, locals := 0 } : Room) (va_Pc [.ref (Z (4, k, 0)), .long d] (zk_U g z M)) (vp_Sl (fun r => r = zs_pr X.1 k d)) 0 0 (fun _ => False) := by
  refine Met.ofW (cc := cX0_priceOn) (maxL := 8) (ret := (some .long)) (by decide) rfl ?_
  intro P0 e0 s m0 args below meth c0 s₁ B hml hv
  obtain ⟨rfl, hH, hK, hN⟩ := hv
  have hx := B.exec
  have hb := B.bytes
  have hr := B.returns
  have hts := atoms_spec (ws := wsX0_priceOn) B.pre
  have hown : s.vm.findClass RX0 = some m0.cls := findClass_of_methodNamed B.named
  have hlocks := B.notSynchronized
  have hl := lv_entry ([.ref (Z (4, k, 0)), .long d]) (n := 8) (Nat.le_of_ble_eq_true rfl)
  rw [lg_entry_eq]
  generalize (lg_sl ([.ref (Z (4, k, 0)), .long d]) ++ List.replicate (8 - (lg_sl ([.ref (Z (4, k, 0)), .long d])).length) Slot.unset).toArray = ls at hl ⊢
  have hl : lv_has ls 8 [(0, .ref (Z (4, k, 0))), (1, .long d)] := hl
  have hK0 : M (Z (4, k, 0)) = some (.inr (0, [va_rf (zs_prev (zs_pn X.1 k) (fun j => Z (5, k, j))), .long (zs_sh X.1 k), .long (zs_rs X.1 k)])) := hR.1 (4, k, 0) ⟨hk, rfl⟩
  refine lv_ldc2 (v := (-1)) hx hb hown (hts (.constantLong RX0 30 (-1)) (by decide +kernel)) dX0_priceOn_0 ?_
  refine lv_lstore_n (lv' := [(3, .long (-1)), (0, .ref (Z (4, k, 0))), (1, .long d)]) hx hb dX0_priceOn_3 rfl hl (by decide) rfl (fun ls hl => ?_)
  refine lv_lconst (v := 0) hx hb dX0_priceOn_4 (by decide) ?_
  refine lv_lstore (lv' := [(5, .long 0), (3, .long (-1)), (0, .ref (Z (4, k, 0))), (1, .long d)]) hx hb dX0_priceOn_5 hl (by decide) rfl (fun ls hl => ?_)
  refine lv_aload_n hx hb dX0_priceOn_7 rfl (lv_at hl 2 rfl) ?_
  refine zk_get (ci := 0) (v := va_rf (zs_prev (zs_pn X.1 k) (fun j => Z (5, k, j)))) (C := RX0) (T := TX0) (N := 3) hx hb hts inw_wsX0_priceOn_0 hown hK hH hK0 rfl 0 (by decide) (hts (.fieldLink RX0 9 "KegDeposits$Kind" "prices" "LKegDeposits$Price;") (by decide +kernel)) rfl dX0_priceOn_8 ?_
  refine zk_astore (lv' := [(7, va_rf (zs_prev (zs_pn X.1 k) (fun j => Z (5, k, j)))), (5, .long 0), (3, .long (-1)), (0, .ref (Z (4, k, 0))), (1, .long d)]) hx hb dX0_priceOn_11 hl (by decide) rfl (fun ls hl => ?_)
  have loop : ∀ (a : Nat) (la ce : Int64) (ls : Array Slot), a ≤ zs_pn X.1 k → zs_best (fun j => zs_pd X.1 (20 * k + j)) (fun j => zs_pc X.1 (20 * k + j)) d (fun i => a ≤ i ∧ i < zs_pn X.1 k) la ce → lv_has ls 8 [(7, va_rf (zs_prev a (fun j => Z (5, k, j)))), (3, .long la), (5, .long ce), (0, .ref (Z (4, k, 0))), (1, .long d)] → W P0 l e0 (headSpec wsX0_priceOn ({ frames := 0, cells := 0, slots := 0, locals := 0 } : Room)).room s m0 ([.ref (Z (4, k, 0)), .long d] : List Value).toArray below meth c0 s.heap [] 0 0 (MQ below (vp_Sl (fun r => r = zs_pr X.1 k d)) ([.ref (Z (4, k, 0)), .long d] : List Value).toArray s 0 0 (fun _ => False)) (F0 m0 13 ls []) := by
    intro a
    induction a with
    | zero =>
      intro la ce ls ha hbe hl
      have hl : lv_has ls 8 [(7, .null), (3, .long la), (5, .long ce), (0, .ref (Z (4, k, 0))), (1, .long d)] := hl
      refine lv_aloadN hx hb dX0_priceOn_13 (lv_at hl 0 rfl) ?_
      refine lv_ifnullN (tgt := 61) hx hb dX0_priceOn_15 (by decide) ?_
      refine lv_lload hx hb dX0_priceOn_61 (lv_at hl 2 rfl) ?_
      exact zk_lretS hx hb hr hlocks (zs_pr_of hI (by simpa using hbe)) dX0_priceOn_63
    | succ j ih =>
      intro la ce ls ha hbe hl
      have hl : lv_has ls 8 [(7, .ref (Z (5, k, j))), (3, .long la), (5, .long ce), (0, .ref (Z (4, k, 0))), (1, .long d)] := hl
      have hL : M (Z (5, k, j)) = some (.inr (3, [.long (zs_pd X.1 (20 * k + j)), va_rf (zs_prev j (fun j => Z (5, k, j))), .long (zs_pc X.1 (20 * k + j))])) := hR.1 (5, k, j) ⟨hk, by omega⟩
      have hQ : ∀ i, (j ≤ i ∧ i < zs_pn X.1 k) ↔ (j + 1 ≤ i ∧ i < zs_pn X.1 k) ∨ i = j := fun i => by omega
      have h0 : 0 ≤ zs_pd X.1 (20 * k + j) := hI.2.2.2.1 k j (by omega)
      refine lv_aload hx hb dX0_priceOn_13 (lv_at hl 0 rfl) ?_
      refine lv_ifnull hx hb dX0_priceOn_15 ?_
      refine lv_aload hx hb dX0_priceOn_18 (lv_at hl 0 rfl) ?_
      refine zk_getN (ci := 3) (v := .long (zs_pd X.1 (20 * k + j))) (C := RX3) (T := TX3) (N := 3) hx hb hts inw_wsX0_priceOn_3 hown hK hH hL rfl 0 (by decide) (zk_nf_2 hN) rfl dX0_priceOn_20 ?_
      refine lv_lload_n hx hb dX0_priceOn_23 rfl (lv_at hl 4 rfl) ?_
      refine zk_lc_gt (tgt := 51) hx hb dX0_priceOn_24 dX0_priceOn_25 (by decide) (fun h_24 => ?_) (fun h_24 => ?_)
      · skip
        refine lv_aload hx hb dX0_priceOn_51 (lv_at hl 0 rfl) ?_
        refine zk_getN (ci := 3) (v := va_rf (zs_prev j (fun j => Z (5, k, j)))) (C := RX3) (T := TX3) (N := 3) hx hb hts inw_wsX0_priceOn_3 hown hK hH hL rfl 1 (by decide) (zk_nf_3 hN) rfl dX0_priceOn_53 ?_
        refine zk_astore (lv' := [(7, va_rf (zs_prev j (fun j => Z (5, k, j)))), (3, .long la), (5, .long ce), (0, .ref (Z (4, k, 0))), (1, .long d)]) hx hb dX0_priceOn_56 hl (by decide) rfl (fun ls hl => ?_)
        refine lv_goto (tgt := 13) hx hb dX0_priceOn_58 (by decide) ?_
        exact ih _ _ ls (by omega) (zs_best_out hbe hQ h0 (fun q => absurd h_24 (Int64.not_lt.mpr q.1))) (lv_sub hl [0, 1, 2, 3, 4] rfl)
      · skip
        refine lv_aload hx hb dX0_priceOn_28 (lv_at hl 0 rfl) ?_
        refine zk_getN (ci := 3) (v := .long (zs_pd X.1 (20 * k + j))) (C := RX3) (T := TX3) (N := 3) hx hb hts inw_wsX0_priceOn_3 hown hK hH hL rfl 0 (by decide) (zk_nf_2 hN) rfl dX0_priceOn_30 ?_
        refine lv_lload_n hx hb dX0_priceOn_33 rfl (lv_at hl 1 rfl) ?_
        refine zk_lc_le (tgt := 51) hx hb dX0_priceOn_34 dX0_priceOn_35 (by decide) (fun h_34 => ?_) (fun h_34 => ?_)
        · skip
          refine lv_aload hx hb dX0_priceOn_51 (lv_at hl 0 rfl) ?_
          refine zk_getN (ci := 3) (v := va_rf (zs_prev j (fun j => Z (5, k, j)))) (C := RX3) (T := TX3) (N := 3) hx hb hts inw_wsX0_priceOn_3 hown hK hH hL rfl 1 (by decide) (zk_nf_3 hN) rfl dX0_priceOn_53 ?_
          refine zk_astore (lv' := [(7, va_rf (zs_prev j (fun j => Z (5, k, j)))), (3, .long la), (5, .long ce), (0, .ref (Z (4, k, 0))), (1, .long d)]) hx hb dX0_priceOn_56 hl (by decide) rfl (fun ls hl => ?_)
          refine lv_goto (tgt := 13) hx hb dX0_priceOn_58 (by decide) ?_
          exact ih _ _ ls (by omega) (zs_best_out hbe hQ h0 (fun q => absurd q.2 (Int64.not_lt.mpr h_34))) (lv_sub hl [0, 1, 2, 3, 4] rfl)
        · skip
          refine lv_aload hx hb dX0_priceOn_38 (lv_at hl 0 rfl) ?_
          refine zk_getN (ci := 3) (v := .long (zs_pd X.1 (20 * k + j))) (C := RX3) (T := TX3) (N := 3) hx hb hts inw_wsX0_priceOn_3 hown hK hH hL rfl 0 (by decide) (zk_nf_2 hN) rfl dX0_priceOn_40 ?_
          refine lv_lstore_n (lv' := [(3, .long (zs_pd X.1 (20 * k + j))), (7, .ref (Z (5, k, j))), (5, .long ce), (0, .ref (Z (4, k, 0))), (1, .long d)]) hx hb dX0_priceOn_43 rfl hl (by decide) rfl (fun ls hl => ?_)
          refine lv_aload hx hb dX0_priceOn_44 (lv_at hl 1 rfl) ?_
          refine zk_getN (ci := 3) (v := .long (zs_pc X.1 (20 * k + j))) (C := RX3) (T := TX3) (N := 3) hx hb hts inw_wsX0_priceOn_3 hown hK hH hL rfl 2 (by decide) (zk_nf_4 hN) rfl dX0_priceOn_46 ?_
          refine lv_lstore (lv' := [(5, .long (zs_pc X.1 (20 * k + j))), (3, .long (zs_pd X.1 (20 * k + j))), (7, .ref (Z (5, k, j))), (0, .ref (Z (4, k, 0))), (1, .long d)]) hx hb dX0_priceOn_49 hl (by decide) rfl (fun ls hl => ?_)
          refine lv_aload hx hb dX0_priceOn_51 (lv_at hl 2 rfl) ?_
          refine zk_getN (ci := 3) (v := va_rf (zs_prev j (fun j => Z (5, k, j)))) (C := RX3) (T := TX3) (N := 3) hx hb hts inw_wsX0_priceOn_3 hown hK hH hL rfl 1 (by decide) (zk_nf_3 hN) rfl dX0_priceOn_53 ?_
          refine zk_astore (lv' := [(7, va_rf (zs_prev j (fun j => Z (5, k, j)))), (5, .long (zs_pc X.1 (20 * k + j))), (3, .long (zs_pd X.1 (20 * k + j))), (0, .ref (Z (4, k, 0))), (1, .long d)]) hx hb dX0_priceOn_56 hl (by decide) rfl (fun ls hl => ?_)
          refine lv_goto (tgt := 13) hx hb dX0_priceOn_58 (by decide) ?_
          exact ih _ _ ls (by omega) (zs_best_in hbe hQ (Int64.not_lt.mp h_24) (Int64.not_le.mp h_34)) (lv_sub hl [0, 2, 1, 3, 4] rfl)
  exact loop (zs_pn X.1 k) (-1) 0 ls (Nat.le_refl _) (Or.inl ⟨rfl, rfl, fun j hj => by omega⟩) (lv_sub hl [0, 2, 1, 3, 4] rfl)

theorem inw_wsX0_tellPrice_0 : ∀ w ∈ u_ws RX0 TX0 3, w ∈ wsX0_tellPrice := by decide +kernel
theorem inw_wsX0_tellPrice_3 : ∀ w ∈ u_ws RX3 TX3 3, w ∈ wsX0_tellPrice := by decide +kernel
set_option maxHeartbeats 4000000 in
set_option maxRecDepth 100000 in
theorem zc_X0_tellPrice (l : Launch) {g : zk_G} {z : Nat} {M : zk_M} {X : zs_X} {Z : zs_Z} {n : Nat} (hR : zs_R g X Z M) (hI : zs_I X.1 n) {k : Nat} (hk : k < zs_nk X.1) (d c : Int64) : Met l yX0_tellPrice wsX0_tellPrice ({ frames := 2, cells := 1, slots := 3, locals := 37 } : Room) (va_Pc [.ref (Z (4, k, 0)), .long d, .long c] (zk_U g z M)) (va_Qi (fun r u => r = (zs_tell X.1 k d c).1 ∧ zs_P g X Z ((zs_tell X.1 k d c).2, X.2) u) (zk_B g z) (fun q => z ≤ q)) 1 3 (fun q => z ≤ q) := by
  refine Met.ofW (cc := cX0_tellPrice) (maxL := 7) (ret := (some .boolean)) (by decide) rfl ?_
  intro P0 e0 s m0 args below meth c0 s₁ B hml hv
  obtain ⟨rfl, hH, hK, hN⟩ := hv
  have hx := B.exec
  have hb := B.bytes
  have hr := B.returns
  have hts := atoms_spec (ws := wsX0_tellPrice) B.pre
  have hown : s.vm.findClass RX0 = some m0.cls := findClass_of_methodNamed B.named
  have hlocks := B.notSynchronized
  have hS : va_S (fun q => z ≤ q) s.heap s.heap [] := va_S.rf
  have hl := lv_entry ([.ref (Z (4, k, 0)), .long d, .long c]) (n := 7) (Nat.le_of_ble_eq_true rfl)
  rw [lg_entry_eq]
  generalize (lg_sl ([.ref (Z (4, k, 0)), .long d, .long c]) ++ List.replicate (7 - (lg_sl ([.ref (Z (4, k, 0)), .long d, .long c])).length) Slot.unset).toArray = ls at hl ⊢
  have hl : lv_has ls 7 [(0, .ref (Z (4, k, 0))), (1, .long d), (3, .long c)] := hl
  have hK0 : M (Z (4, k, 0)) = some (.inr (0, [va_rf (zs_prev (zs_pn X.1 k) (fun j => Z (5, k, j))), .long (zs_sh X.1 k), .long (zs_rs X.1 k)])) := hR.1 (4, k, 0) ⟨hk, rfl⟩
  have h20 := hI.2.1.1 k
  refine lv_iconst (v := 0) hx hb dX0_tellPrice_0 (by decide) ?_
  refine lv_istore (lv' := [(5, .int 0), (0, .ref (Z (4, k, 0))), (1, .long d), (3, .long c)]) hx hb dX0_tellPrice_1 hl (by decide) rfl (fun ls hl => ?_)
  refine lv_aload_n hx hb dX0_tellPrice_3 rfl (lv_at hl 1 rfl) ?_
  refine zk_get (ci := 0) (v := va_rf (zs_prev (zs_pn X.1 k) (fun j => Z (5, k, j)))) (C := RX0) (T := TX0) (N := 3) hx hb hts inw_wsX0_tellPrice_0 hown hK hH hK0 rfl 0 (by decide) (hts (.fieldLink RX0 9 "KegDeposits$Kind" "prices" "LKegDeposits$Price;") (by decide +kernel)) rfl dX0_tellPrice_4 ?_
  refine zk_astore (lv' := [(6, va_rf (zs_prev (zs_pn X.1 k) (fun j => Z (5, k, j)))), (5, .int 0), (0, .ref (Z (4, k, 0))), (1, .long d), (3, .long c)]) hx hb dX0_tellPrice_7 hl (by decide) rfl (fun ls hl => ?_)
  have loop : ∀ (a : Nat) (oth : Int32) (ls : Array Slot), a ≤ zs_pn X.1 k → oth = nI (zs_pn X.1 k - a) → zs_at (fun j => zs_pd X.1 (20 * k + j)) d (zs_pn X.1 k) (zs_pn X.1 k) = zs_at (fun j => zs_pd X.1 (20 * k + j)) d (zs_pn X.1 k) a → lv_has ls 7 [(6, va_rf (zs_prev a (fun j => Z (5, k, j)))), (5, .int oth), (0, .ref (Z (4, k, 0))), (1, .long d), (3, .long c)] → W P0 l e0 (headSpec wsX0_tellPrice ({ frames := 2, cells := 1, slots := 3, locals := 37 } : Room)).room s m0 ([.ref (Z (4, k, 0)), .long d, .long c] : List Value).toArray below meth c0 s.heap [] 0 0 (MQ below (va_Qi (fun r u => r = (zs_tell X.1 k d c).1 ∧ zs_P g X Z ((zs_tell X.1 k d c).2, X.2) u) (zk_B g z) (fun q => z ≤ q)) ([.ref (Z (4, k, 0)), .long d, .long c] : List Value).toArray s 1 3 (fun q => z ≤ q)) (F0 m0 9 ls []) := by
    intro a
    induction a with
    | zero =>
      intro oth ls ha ho hat hl
      have hat : zs_at (fun j => zs_pd X.1 (20 * k + j)) d (zs_pn X.1 k) (zs_pn X.1 k) = zs_pn X.1 k := hat
      have hl : lv_has ls 7 [(6, .null), (5, .int oth), (0, .ref (Z (4, k, 0))), (1, .long d), (3, .long c)] := hl
      refine lv_aloadN hx hb dX0_tellPrice_9 (lv_at hl 0 rfl) ?_
      refine lv_ifnullN (tgt := 45) hx hb dX0_tellPrice_11 (by decide) ?_
      refine lv_iload hx hb dX0_tellPrice_45 (lv_at hl 1 rfl) ?_
      refine lv_bipush (v := 20) hx hb dX0_tellPrice_47 (by decide) ?_
      refine lv_icmp_lt (tgt := 54) hx hb dX0_tellPrice_49 (by decide) (fun h_49 => ?_) (fun h_49 => ?_)
      · skip
        have hlt : zs_pn X.1 k < 20 := by rw [ho, Nat.sub_zero] at h_49; exact Decidable.byContradiction (fun q => nI_nlt (a := zs_pn X.1 k) (b := 20) (by omega) (by omega) h_49)
        refine lv_aload_n hx hb dX0_tellPrice_54 rfl (lv_at hl 2 rfl) ?_
        refine zk_new (ci := 3) (fs := [.long 0, .null, .long 0]) (C := RX3) (T := TX3) (N := 3) hx hb hts inw_wsX0_tellPrice_3 tyX3 tyX3_ok hown (hts (.classLink RX0 16 RX3) (by decide +kernel)) (hts (.instantiable RX3 3) (by decide +kernel)) (hts (.initialized RX3) (by decide +kernel)) hK hH hS rfl (fun j hj => by rcases (show j = 0 ∨ j = 1 ∨ j = 2 by omega) with rfl | rfl | rfl <;> rfl) (Nat.le_of_ble_eq_true rfl) (Nat.le_of_ble_eq_true rfl) dX0_tellPrice_55 (fun q_55 H hf_55 hH hS => ?_)
        obtain ⟨M_55, eM_55⟩ : ∃ w_0 : zk_M, w_0 = zk_up M q_55 (.inr (3, [.long 0, .null, .long 0])) := ⟨_, rfl⟩
        have hH : zk_H g z M_55 H := by rw [eM_55]; exact hH
        have f_55_0 : M_55 (Z (4, k, 0)) = some (.inr (0, [va_rf (zs_prev (zs_pn X.1 k) (fun j => Z (5, k, j))), .long (zs_sh X.1 k), .long (zs_rs X.1 k)])) := by rw [eM_55, zk_up_n _ _ (zk_ne_none hK0 hf_55)]; exact hK0
        have e_55 : M_55 q_55 = some (.inr (3, [.long 0, .null, .long 0])) := by rw [eM_55]; exact zk_up_s _ _ _
        refine lv_dup hx hb dX0_tellPrice_58 rfl ?_
        refine lv_lload_n hx hb dX0_tellPrice_59 rfl (lv_at hl 3 rfl) ?_
        refine lv_lload_n hx hb dX0_tellPrice_60 rfl (lv_at hl 4 rfl) ?_
        refine lv_aload_n hx hb dX0_tellPrice_61 rfl (lv_at hl 2 rfl) ?_
        refine zk_get (ci := 0) (v := va_rf (zs_prev (zs_pn X.1 k) (fun j => Z (5, k, j)))) (C := RX0) (T := TX0) (N := 3) hx hb hts inw_wsX0_tellPrice_0 hown hK hH f_55_0 rfl 0 (by decide) (hts (.fieldLink RX0 9 "KegDeposits$Kind" "prices" "LKegDeposits$Price;") (by decide +kernel)) rfl dX0_tellPrice_62 ?_
        refine zk_callv (va_runI (As := [.long d, .long c, va_rf (zs_prev (zs_pn X.1 k) (fun j => Z (5, k, j)))]) (rest := [.ref q_55, .ref (Z (4, k, 0))]) ⟨hx, hb, hml, hown, hts⟩ (zc_X3_init l d c (zs_prev (zs_pn X.1 k) (fun j => Z (5, k, j))) e_55) (cwI 3 hts gX0_tellPrice_X3_init rfl rfl rfl (hts (.initialized RX3) (by decide +kernel)) (hts (.methodLink RX0 27 yX3_init) (by decide +kernel)) (hts (.instanceMethod yX3_init) (by decide +kernel)) rfl (by decide +kernel) ⟨Nat.le_of_ble_eq_true rfl, Nat.le_of_ble_eq_true rfl⟩) (zk_preS hH hK hN) rfl rfl hl.1 rfl (lv_room (Nat.le_of_ble_eq_true rfl)) dX0_tellPrice_65 ⟨(Nat.le_of_ble_eq_true rfl), (Nat.le_of_ble_eq_true rfl)⟩) hS (fun u_65 H locs hH hr_65 hS => ?_)
        have f_65 : u_65 (Z (4, k, 0)) = some (.inr (0, [va_rf (zs_prev (zs_pn X.1 k) (fun j => Z (5, k, j))), .long (zs_sh X.1 k), .long (zs_rs X.1 k)])) := (hr_65.2 _ (zk_ne_none hK0 hf_55)).trans f_55_0
        have e_65 := hr_65.1
        refine zk_put (ci := 0) (v := .ref q_55) (C := RX0) (T := TX0) (N := 3) hx hb hts inw_wsX0_tellPrice_0 tyX0 tyX0_ok nmX0 hown hK hH hS f_65 rfl 0 (by decide) (hts (.fieldLink RX0 9 "KegDeposits$Kind" "prices" "LKegDeposits$Price;") (by decide +kernel)) rfl rfl rfl (Nat.le_of_ble_eq_true rfl) dX0_tellPrice_68 (fun H locs hH hS => ?_)
        obtain ⟨M_68, eM_68⟩ : ∃ w_0 : zk_M, w_0 = zk_up u_65 (Z (4, k, 0)) (.inr (0, [.ref q_55, .long (zs_sh X.1 k), .long (zs_rs X.1 k)])) := ⟨_, rfl⟩
        have hH : zk_H g z M_68 H := by rw [eM_68]; exact hH
        have f_68_0 : M_68 q_55 = some (.inr (3, [.long d, va_rf (zs_prev (zs_pn X.1 k) (fun j => Z (5, k, j))), .long c])) := by rw [eM_68, zk_up_n _ _ (zk_ne hr_65.1 f_65 (by simp))]; exact hr_65.1
        have e_68 : M_68 (Z (4, k, 0)) = some (.inr (0, [.ref q_55, .long (zs_sh X.1 k), .long (zs_rs X.1 k)])) := by rw [eM_68]; exact zk_up_s _ _ _
        have g_68 := f_68_0
        refine lv_iconst (v := 1) hx hb dX0_tellPrice_71 (by decide) ?_
        exact zk_zret hx hb hr hlocks (by first | rfl | decide) hH hS (by decide) (by decide) (by unfold zs_tell; rw [if_neg (by rw [hat]; exact Nat.lt_irrefl _), if_pos hlt]; exact ⟨rfl, _, zs_R_price hR hI hk hlt d c hf_55 (fun b h1 h2 => by rw [eM_68, zk_up_n _ _ h2, hr_65.2 b h1, eM_55, zk_up_n _ _ h1]) e_68 g_68, fun q hq => zs_Zup_n Z _ (fun e => absurd (e ▸ hq : zs_ok X (5, k, zs_pn X.1 k)).2 (Nat.lt_irrefl _))⟩) dX0_tellPrice_72
      · skip
        have hlt : ¬ zs_pn X.1 k < 20 := fun q => h_49 (by rw [ho, Nat.sub_zero]; exact nI_lt (a := zs_pn X.1 k) (b := 20) q (by omega))
        refine lv_iconst (v := 0) hx hb dX0_tellPrice_52 (by decide) ?_
        exact zk_zret hx hb hr hlocks (by first | rfl | decide) hH hS (by decide) (by decide) (by unfold zs_tell; rw [if_neg (by rw [hat]; exact Nat.lt_irrefl _), if_neg hlt]; exact ⟨rfl, Z, hR, fun _ _ => rfl⟩) dX0_tellPrice_53
    | succ j ih =>
      intro oth ls ha ho hat hl
      have hl : lv_has ls 7 [(6, .ref (Z (5, k, j))), (5, .int oth), (0, .ref (Z (4, k, 0))), (1, .long d), (3, .long c)] := hl
      have hL : M (Z (5, k, j)) = some (.inr (3, [.long (zs_pd X.1 (20 * k + j)), va_rf (zs_prev j (fun j => Z (5, k, j))), .long (zs_pc X.1 (20 * k + j))])) := hR.1 (5, k, j) ⟨hk, by omega⟩
      refine lv_aload hx hb dX0_tellPrice_9 (lv_at hl 0 rfl) ?_
      refine lv_ifnull hx hb dX0_tellPrice_11 ?_
      refine lv_aload hx hb dX0_tellPrice_14 (lv_at hl 0 rfl) ?_
      refine zk_getN (ci := 3) (v := .long (zs_pd X.1 (20 * k + j))) (C := RX3) (T := TX3) (N := 3) hx hb hts inw_wsX0_tellPrice_3 hown hK hH hL rfl 0 (by decide) (zk_nf_2 hN) rfl dX0_tellPrice_16 ?_
      refine lv_lload_n hx hb dX0_tellPrice_19 rfl (lv_at hl 3 rfl) ?_
      refine zk_lc_ne (tgt := 32) hx hb dX0_tellPrice_20 dX0_tellPrice_21 (by decide) (fun h_20 => ?_) (fun h_20 => ?_)
      · skip
        refine lv_iinc (v := (oth + 1)) (lv' := [(5, .int (oth + 1)), (6, .ref (Z (5, k, j))), (0, .ref (Z (4, k, 0))), (1, .long d), (3, .long c)]) hx hb dX0_tellPrice_32 hl (k := 1) rfl rfl (by decide) rfl (fun ls hl => ?_)
        refine lv_aload hx hb dX0_tellPrice_35 (lv_at hl 1 rfl) ?_
        refine zk_getN (ci := 3) (v := va_rf (zs_prev j (fun j => Z (5, k, j)))) (C := RX3) (T := TX3) (N := 3) hx hb hts inw_wsX0_tellPrice_3 hown hK hH hL rfl 1 (by decide) (zk_nf_3 hN) rfl dX0_tellPrice_37 ?_
        refine zk_astore (lv' := [(6, va_rf (zs_prev j (fun j => Z (5, k, j)))), (5, .int (oth + 1)), (0, .ref (Z (4, k, 0))), (1, .long d), (3, .long c)]) hx hb dX0_tellPrice_40 hl (by decide) rfl (fun ls hl => ?_)
        refine lv_goto (tgt := 9) hx hb dX0_tellPrice_42 (by decide) ?_
        exact ih _ ls (by omega) (by rw [ho]; exact (nI_1 _).trans (congrArg nI (by omega))) (hat.trans (if_neg h_20)) (lv_sub hl [0, 1, 2, 3, 4] rfl)
      · skip
        have hat2 : zs_at (fun j => zs_pd X.1 (20 * k + j)) d (zs_pn X.1 k) (zs_pn X.1 k) = j := hat.trans (if_pos h_20)
        refine lv_aload hx hb dX0_tellPrice_24 (lv_at hl 0 rfl) ?_
        refine lv_lload_n hx hb dX0_tellPrice_26 rfl (lv_at hl 4 rfl) ?_
        refine zk_putN (ci := 3) (v := .long c) (C := RX3) (T := TX3) (N := 3) hx hb hts inw_wsX0_tellPrice_3 tyX3 tyX3_ok nmX3 hown hK hH hS hL rfl 2 (by decide) (zk_nf_4 hN) rfl rfl rfl (Nat.le_of_ble_eq_true rfl) dX0_tellPrice_27 (fun H locs hH hS => ?_)
        obtain ⟨M_27, eM_27⟩ : ∃ w_0 : zk_M, w_0 = zk_up M (Z (5, k, j)) (.inr (3, [.long (zs_pd X.1 (20 * k + j)), va_rf (zs_prev j (fun j => Z (5, k, j))), .long c])) := ⟨_, rfl⟩
        have hH : zk_H g z M_27 H := by rw [eM_27]; exact hH
        have e_27 : M_27 (Z (5, k, j)) = some (.inr (3, [.long (zs_pd X.1 (20 * k + j)), va_rf (zs_prev j (fun j => Z (5, k, j))), .long c])) := by rw [eM_27]; exact zk_up_s _ _ _
        refine lv_iconst (v := 1) hx hb dX0_tellPrice_30 (by decide) ?_
        exact zk_zret hx hb hr hlocks (by first | rfl | decide) hH hS (by decide) (by decide) (by unfold zs_tell; rw [hat2, if_pos (by omega)]; exact ⟨rfl, Z, by rw [eM_27]; exact zs_R_pc hR hI.2.1 hk (by omega) c, fun _ _ => rfl⟩) dX0_tellPrice_31
  exact loop (zs_pn X.1 k) 0 ls (Nat.le_refl _) (by rw [Nat.sub_self]; rfl) rfl (lv_sub hl [0, 1, 2, 3, 4] rfl)
end
section
section ZT
variable {p : Program} {l : Launch} {e : Env} {R : Room} {s : State} {m : MethodId} {args : Array Value} {below : List Frame} {meth : Method} {c : Code} {H : Heap} {locs : List Loc} {cells slots : Nat} {Q : State → Prop} {pc : Nat} {ls : Array Slot} {rest : List Value}
theorem zk_top {v v' : Value} (h : v = v') (k : W p l e R s m args below meth c H locs cells slots Q (F0 m pc ls (v' :: rest))) : W p l e R s m args below meth c H locs cells slots Q (F0 m pc ls (v :: rest)) := h ▸ k
end ZT
theorem zk_arr_some {f : Nat → Option Nat} {i a : Nat} (hi : i < 2 ^ 31) (h : f i = some a) : va_rf (f (nI i).toNatClampNeg) = .ref a := by rw [nI_clamp hi, h]; rfl
theorem zk_arr_none {f : Nat → Option Nat} {i : Nat} (hi : i < 2 ^ 31) (h : f i = none) : va_rf (f (nI i).toNatClampNeg) = .null := by rw [nI_clamp hi, h]; rfl
theorem zk_arr_l {f : Nat → Int64} {i : Nat} (hi : i < 2 ^ 31) : Value.long (f (nI i).toNatClampNeg) = .long (f i) := by rw [nI_clamp hi]
theorem zk_arr_i {f : Nat → Int32} {i : Nat} (hi : i < 2 ^ 31) : Value.int (f (nI i).toNatClampNeg) = .int (f i) := by rw [nI_clamp hi]
/-- an index below n, or none -/
def zs_ix (n : Nat) (x : Int32) : Option Nat := if ¬ x < 0 ∧ x < nI n then some x.toNatClampNeg else none
theorem zs_ix_neg {n : Nat} {x : Int32} (h : x < 0) : zs_ix n x = none := if_neg (fun q => q.1 h)
theorem zs_ix_ge {n m : Nat} {x : Int32} (hn : n ≤ m) (hm : m < 2 ^ 31) (h : nI m ≤ x) : zs_ix n x = none := if_neg (fun q => by
  have h1 := Int32.lt_of_le_of_lt h q.2
  exact nI_nlt hn hm h1)
theorem zs_ix_nI {n j : Nat} (hn : n < 2 ^ 31) (hj : j < 2 ^ 31) : zs_ix n (nI j) = if j < n then some j else none := by
  unfold zs_ix
  by_cases h : j < n
  · rw [if_pos ⟨nI_pos hj, nI_lt h hn⟩, if_pos h, nI_clamp hj]
  · rw [if_neg (fun q => nI_nlt (Nat.not_lt.mp h) hj q.2), if_neg h]
theorem zs_ix_some {n j : Nat} {x : Int32} (hn : n < 2 ^ 31) (h : zs_ix n x = some j) : j < n ∧ x = nI j := by
  rcases pk_ix x hn with q | q | ⟨k, q1, q2⟩
  · rw [zs_ix_neg q] at h; cases h
  · rw [zs_ix_ge (Nat.le_refl _) hn q] at h; cases h
  · rw [q2, zs_ix_nI hn (by omega), if_pos q1] at h
    cases h
    exact ⟨q1, q2⟩
/-- a party that is not the house -/
def zs_cx (n : Nat) (x : Int32) : Option Nat := if x = 0 then none else zs_ix n x
theorem zs_cx_some {n j : Nat} {x : Int32} (hn : n < 2 ^ 31) (h : zs_cx n x = some j) : j < n ∧ x = nI j ∧ j ≠ 0 := by
  unfold zs_cx at h
  split at h
  · cases h
  · rename_i hx
    obtain ⟨h1, h2⟩ := zs_ix_some hn h
    exact ⟨h1, h2, fun e => hx (by rw [h2, e]; rfl)⟩
abbrev zs_isD (d : Int64) : Prop := 0 ≤ d ∧ d ≤ 100000
abbrev zs_isN (n : Int64) : Prop := 1 ≤ n ∧ n ≤ 100000
theorem zs_nsum_add {f h : Nat → Nat} (n : Nat) : zs_nsum (fun i => f i + h i) n = zs_nsum f n + zs_nsum h n := by
  induction n with
  | zero => rfl
  | succ n ih => show zs_nsum _ n + (f n + h n) = (zs_nsum f n + f n) + (zs_nsum h n + h n); rw [ih]; omega
theorem zs_nsum_at {x v : Nat} : ∀ (n : Nat), zs_nsum (fun p => if x = p then v else 0) n = if x < n then v else 0 := by
  intro n
  induction n with
  | zero => rfl
  | succ n ih =>
    show zs_nsum _ n + (if x = n then v else 0) = _
    rw [ih]
    by_cases h1 : x = n
    · rw [if_neg (by omega), if_pos h1, if_pos (by omega)]; omega
    · by_cases h2 : x < n
      · rw [if_pos h2, if_neg h1, if_pos (by omega)]; rfl
      · rw [if_neg h2, if_neg h1, if_neg (by omega)]
theorem zs_nsum_swap {lp : Nat → Nat} {b : Nat → Nat} {P : Nat} : ∀ (n : Nat), (∀ i, i < n → lp i < P) → zs_nsum (fun p => zs_nsum (fun i => if lp i = p then b i else 0) n) P = zs_nsum b n := by
  intro n
  induction n with
  | zero => intro _; exact (zs_nsum_to (a := 0) (Nat.zero_le _) (fun _ _ _ => rfl))
  | succ n ih =>
    intro h
    have e : zs_nsum (fun p => zs_nsum (fun i => if lp i = p then b i else 0) (n + 1)) P = zs_nsum (fun p => zs_nsum (fun i => if lp i = p then b i else 0) n + (if lp n = p then b n else 0)) P := rfl
    rw [e, zs_nsum_add, ih (fun i hi => h i (by omega)), zs_nsum_at, if_pos (h n (Nat.lt_succ_self n))]
    rfl
theorem zs_sum_add {f h : Nat → Int64} (n : Nat) : zs_sum (fun i => f i + h i) n = zs_sum f n + zs_sum h n := by
  induction n with
  | zero => rfl
  | succ n ih =>
    show zs_sum _ n + _ = (zs_sum f n + f n) + (zs_sum h n + h n)
    rw [ih, Int64.add_assoc, Int64.add_assoc, ← Int64.add_assoc (zs_sum h n), Int64.add_comm (zs_sum h n) (f n), Int64.add_assoc]
theorem zs_sum_at {x : Nat} {v : Int64} : ∀ (n : Nat), zs_sum (fun p => if x = p then v else 0) n = if x < n then v else 0 := by
  intro n
  induction n with
  | zero => rfl
  | succ n ih =>
    show zs_sum _ n + (if x = n then v else 0) = _
    rw [ih]
    by_cases h1 : x = n
    · rw [if_neg (by omega), if_pos h1, if_pos (by omega), Int64.zero_add]
    · by_cases h2 : x < n
      · rw [if_pos h2, if_neg h1, if_pos (by omega), Int64.add_zero]
      · rw [if_neg h2, if_neg h1, if_neg (by omega), Int64.add_zero]
theorem zs_sum_swap {lp : Nat → Nat} {b : Nat → Int64} {P : Nat} : ∀ (n : Nat), (∀ i, i < n → lp i < P) → zs_sum (fun p => zs_sum (fun i => if lp i = p then b i else 0) n) P = zs_sum b n := by
  intro n
  induction n with
  | zero => intro _; exact (zs_sum_to (a := 0) (Nat.zero_le _) (fun _ _ _ => rfl))
  | succ n ih =>
    intro h
    have e : zs_sum (fun p => zs_sum (fun i => if lp i = p then b i else 0) (n + 1)) P = zs_sum (fun p => zs_sum (fun i => if lp i = p then b i else 0) n + (if lp n = p then b n else 0)) P := rfl
    rw [e, zs_sum_add, ih (fun i hi => h i (by omega)), zs_sum_at, if_pos (h n (Nat.lt_succ_self n))]
    rfl
theorem zs_cnt_all {S : zs_S} (hI : zs_Il S) (hnp : zs_np S ≤ 24) : zs_nsum (fun p => if p < zs_np S then zs_cntp S p else 0) 24 = zs_cnt (zs_ll S) (zs_nl S) := by
  rw [zs_nsum_to (a := zs_np S) hnp (fun j h1 h2 => if_neg (by omega)), zs_cnt_nsum, ← zs_nsum_swap (lp := zs_lp S) (P := zs_np S) (zs_nl S) (fun i hi => (hI.1 i hi).1)]
  refine zs_nsum_congr (fun p hp => ?_)
  rw [if_pos hp]
  refine zs_nsum_congr (fun i _ => ?_)
  unfold zs_cpf
  by_cases h1 : zs_lp S i = p <;> by_cases h2 : 0 < zs_ll S i <;> simp [h1, h2]
/-- the change of party p's balance by the transfers up to day d -/
def zs_balf (S : zs_S) (p : Nat) (d : Int64) (i : Nat) : Int64 := if zs_td S i ≤ d then zs_chg S p i else 0
def zs_bal (S : zs_S) (p : Nat) (d : Int64) : Int64 := zs_sum (zs_balf S p d) (zs_nc S)
/-- whether the party has enough of the first i kinds for a lot of n -/
def zs_enough (S : zs_S) (p : Nat) (n : Int64) : Nat → Bool
  | 0 => true
  | k + 1 => zs_enough S p n k && decide ((zs_rs S k + n * zs_sh S k) / 10000 ≤ zs_has S p k)
theorem zs_enough_no {S : zs_S} {p : Nat} {n : Int64} {k : Nat} (h : ¬ (zs_rs S k + n * zs_sh S k) / 10000 ≤ zs_has S p k) : ∀ {m : Nat}, k < m → zs_enough S p n m = false := by
  intro m
  induction m with
  | zero => intro h; omega
  | succ m ih =>
    intro hk
    unfold zs_enough
    rcases Nat.eq_or_lt_of_le (Nat.le_of_lt_succ hk) with e | e
    · subst e; simp [h]
    · rw [ih e]; rfl
/-- a lot taken back, kind after kind: what is left in each layer, the rests, the worth -/
def zs_lot (S : zs_S) (p : Nat) (n : Int64) : Nat → (Nat → Int64) × (Nat → Int64) × Int64
  | 0 => (zs_ll S, zs_rs S, 0)
  | k + 1 => ((zs_take (zs_rs_ (zs_ll_ S (zs_lot S p n k).1) (zs_lot S p n k).2.1) p k (((zs_lot S p n k).2.1 k + n * zs_sh S k) / 10000) (zs_nl S)).1, vp_updL (zs_lot S p n k).2.1 k (((zs_lot S p n k).2.1 k + n * zs_sh S k) - ((zs_lot S p n k).2.1 k + n * zs_sh S k) / 10000 * 10000), (zs_lot S p n k).2.2 + (zs_take (zs_rs_ (zs_ll_ S (zs_lot S p n k).1) (zs_lot S p n k).2.1) p k (((zs_lot S p n k).2.1 k + n * zs_sh S k) / 10000) (zs_nl S)).2.2)
theorem zs_lot_step {S : zs_S} {p : Nat} {n : Int64} {k : Nat} {f h : Nat → Int64} {w : Int64} (e : (f, h, w) = zs_lot S p n k) : ((zs_take (zs_rs_ (zs_ll_ S f) h) p k ((h k + n * zs_sh S k) / 10000) (zs_nl S)).1, vp_updL h k ((h k + n * zs_sh S k) - (h k + n * zs_sh S k) / 10000 * 10000), w + (zs_take (zs_rs_ (zs_ll_ S f) h) p k ((h k + n * zs_sh S k) / 10000) (zs_nl S)).2.2) = zs_lot S p n (k + 1) := by
  simp only [zs_lot, ← e]
/-- the worth of what party p has, at the prices of day d -/
def zs_worthf (S : zs_S) (p : Nat) (d : Int64) (k : Nat) : Int64 := zs_has S p k * zs_pr S k d
def zs_worth (S : zs_S) (p : Nat) (d : Int64) : Int64 := zs_sum (zs_worthf S p d) (zs_nk S)
end
section
theorem inw_wsX5_partyAt_5 : ∀ w ∈ u_ws RX5 TX5 6, w ∈ wsX5_partyAt := by decide +kernel
set_option maxHeartbeats 4000000 in
set_option maxRecDepth 100000 in
theorem zc_X5_partyAt (l : Launch) {g : zk_G} {z : Nat} {M : zk_M} {X : zs_X} {Z : zs_Z} (hR : zs_R g X Z M) (hnp : zs_np X.1 ≤ 24) (x : Int32) : Met l yX5_partyAt wsX5_partyAt ({ frames := 0, cells := 0, slots := 0, locals := 0 } : Room) (va_Pc [.ref (Z (0, 0, 0)), .int x] (zk_U g z M)) (va_Sq (fun r => r = (zs_ix (zs_np X.1) x).map (fun j => Z (3, j, 0)))) 0 0 (fun _ => False) := by
  refine Met.ofW (cc := cX5_partyAt) (maxL := 2) (ret := (some (.object "KegDeposits$Party"))) (by decide) rfl ?_
  intro P0 e0 s m0 args below meth c0 s₁ B hml hv
  obtain ⟨rfl, hH, hK, hN⟩ := hv
  have hx := B.exec
  have hb := B.bytes
  have hr := B.returns
  have hts := atoms_spec (ws := wsX5_partyAt) B.pre
  have hown : s.vm.findClass RX5 = some m0.cls := findClass_of_methodNamed B.named
  have hlocks := B.notSynchronized
  have hl := lv_entry ([.ref (Z (0, 0, 0)), .int x]) (n := 2) (Nat.le_of_ble_eq_true rfl)
  rw [lg_entry_eq]
  generalize (lg_sl ([.ref (Z (0, 0, 0)), .int x]) ++ List.replicate (2 - (lg_sl ([.ref (Z (0, 0, 0)), .int x])).length) Slot.unset).toArray = ls at hl ⊢
  have hl : lv_has ls 2 [(0, .ref (Z (0, 0, 0))), (1, .int x)] := hl
  have hO : M (Z (0, 0, 0)) = some (.inr (5, [.ref (Z (3, 0, 0)), .ref (Z (1, 0, 0)), .ref (Z (2, 0, 0)), va_rf (zs_prev (zs_nc X.1) (fun i => Z (7, i, 0))), .int (nI (zs_nc X.1)), .long (zs_ck X.1)])) := hR.1 (0, 0, 0) ⟨rfl, rfl⟩
  have hPA : M (Z (1, 0, 0)) = some (zk_aP g 24 (fun p => if p < zs_np X.1 then some (Z (3, p, 0)) else none)) := hR.1 (1, 0, 0) ⟨rfl, rfl⟩
  refine lv_iload_n hx hb dX5_partyAt_0 rfl (lv_at hl 1 rfl) ?_
  refine lv_if_lt (tgt := 22) hx hb dX5_partyAt_1 (by decide) (fun h_1 => ?_) (fun h_1 => ?_)
  · skip
    refine lv_null hx hb dX5_partyAt_22 ?_
    exact zk_aretS (r := none) hx hb hr hlocks (by rw [zs_ix_neg h_1]; rfl) dX5_partyAt_23
  · skip
    refine lv_iload_n hx hb dX5_partyAt_4 rfl (lv_at hl 1 rfl) ?_
    refine lv_aload_n hx hb dX5_partyAt_5 rfl (lv_at hl 0 rfl) ?_
    refine zk_get (ci := 5) (v := .ref (Z (1, 0, 0))) (C := RX5) (T := TX5) (N := 6) hx hb hts inw_wsX5_partyAt_5 hown hK hH hO rfl 1 (by decide) (hts (.fieldLink RX5 16 "KegDeposits" "parties" "[LKegDeposits$Party;") (by decide +kernel)) rfl dX5_partyAt_6 ?_
    refine zk_alen (v := 24) hx hb hK hH 2 hPA rfl rfl dX5_partyAt_9 ?_
    refine lv_icmp_ge (tgt := 22) hx hb dX5_partyAt_10 (by decide) (fun h_10 => ?_) (fun h_10 => ?_)
    · skip
      refine lv_null hx hb dX5_partyAt_22 ?_
      exact zk_aretS (r := none) hx hb hr hlocks (by rw [zs_ix_ge (m := 24) hnp (by decide) h_10]; rfl) dX5_partyAt_23
    · skip
      obtain ⟨j, hj, rfl⟩ : ∃ j : Nat, j < 24 ∧ x = nI j := by
        rcases pk_ix x (n := 24) (by decide) with q | q | q
        · exact absurd q h_1
        · exact absurd q h_10
        · exact q
      refine lv_aload_n hx hb dX5_partyAt_13 rfl (lv_at hl 0 rfl) ?_
      refine zk_get (ci := 5) (v := .ref (Z (1, 0, 0))) (C := RX5) (T := TX5) (N := 6) hx hb hts inw_wsX5_partyAt_5 hown hK hH hO rfl 1 (by decide) (hts (.fieldLink RX5 16 "KegDeposits" "parties" "[LKegDeposits$Party;") (by decide +kernel)) rfl dX5_partyAt_14 ?_
      refine lv_iload_n hx hb dX5_partyAt_17 rfl (lv_at hl 1 rfl) ?_
      refine zk_aldP hx hb hK hH hPA (vp_in_nI hj (by decide)) dX5_partyAt_18 ?_
      refine zk_top (v' := va_rf ((fun p => if p < zs_np X.1 then some (Z (3, p, 0)) else none) j)) (by rw [nI_clamp (show j < 2 ^ 31 by omega)]) ?_
      refine lv_goto (tgt := 23) hx hb dX5_partyAt_19 (by decide) ?_
      exact zk_aretS (r := ((fun p => if p < zs_np X.1 then some (Z (3, p, 0)) else none) j)) hx hb hr hlocks (by rw [zs_ix_nI (by omega) (by omega)]; by_cases q : j < zs_np X.1 <;> simp [q]) dX5_partyAt_23

theorem inw_wsX5_kindAt_5 : ∀ w ∈ u_ws RX5 TX5 6, w ∈ wsX5_kindAt := by decide +kernel
set_option maxHeartbeats 4000000 in
set_option maxRecDepth 100000 in
theorem zc_X5_kindAt (l : Launch) {g : zk_G} {z : Nat} {M : zk_M} {X : zs_X} {Z : zs_Z} (hR : zs_R g X Z M) (hnp : zs_nk X.1 ≤ 12) (x : Int32) : Met l yX5_kindAt wsX5_kindAt ({ frames := 0, cells := 0, slots := 0, locals := 0 } : Room) (va_Pc [.ref (Z (0, 0, 0)), .int x] (zk_U g z M)) (va_Sq (fun r => r = (zs_ix (zs_nk X.1) x).map (fun j => Z (4, j, 0)))) 0 0 (fun _ => False) := by
  refine Met.ofW (cc := cX5_kindAt) (maxL := 2) (ret := (some (.object "KegDeposits$Kind"))) (by decide) rfl ?_
  intro P0 e0 s m0 args below meth c0 s₁ B hml hv
  obtain ⟨rfl, hH, hK, hN⟩ := hv
  have hx := B.exec
  have hb := B.bytes
  have hr := B.returns
  have hts := atoms_spec (ws := wsX5_kindAt) B.pre
  have hown : s.vm.findClass RX5 = some m0.cls := findClass_of_methodNamed B.named
  have hlocks := B.notSynchronized
  have hl := lv_entry ([.ref (Z (0, 0, 0)), .int x]) (n := 2) (Nat.le_of_ble_eq_true rfl)
  rw [lg_entry_eq]
  generalize (lg_sl ([.ref (Z (0, 0, 0)), .int x]) ++ List.replicate (2 - (lg_sl ([.ref (Z (0, 0, 0)), .int x])).length) Slot.unset).toArray = ls at hl ⊢
  have hl : lv_has ls 2 [(0, .ref (Z (0, 0, 0))), (1, .int x)] := hl
  have hO : M (Z (0, 0, 0)) = some (.inr (5, [.ref (Z (3, 0, 0)), .ref (Z (1, 0, 0)), .ref (Z (2, 0, 0)), va_rf (zs_prev (zs_nc X.1) (fun i => Z (7, i, 0))), .int (nI (zs_nc X.1)), .long (zs_ck X.1)])) := hR.1 (0, 0, 0) ⟨rfl, rfl⟩
  have hKA : M (Z (2, 0, 0)) = some (zk_aQ g 12 (fun k => if k < zs_nk X.1 then some (Z (4, k, 0)) else none)) := hR.1 (2, 0, 0) ⟨rfl, rfl⟩
  refine lv_iload_n hx hb dX5_kindAt_0 rfl (lv_at hl 1 rfl) ?_
  refine lv_if_lt (tgt := 22) hx hb dX5_kindAt_1 (by decide) (fun h_1 => ?_) (fun h_1 => ?_)
  · skip
    refine lv_null hx hb dX5_kindAt_22 ?_
    exact zk_aretS (r := none) hx hb hr hlocks (by rw [zs_ix_neg h_1]; rfl) dX5_kindAt_23
  · skip
    refine lv_iload_n hx hb dX5_kindAt_4 rfl (lv_at hl 1 rfl) ?_
    refine lv_aload_n hx hb dX5_kindAt_5 rfl (lv_at hl 0 rfl) ?_
    refine zk_get (ci := 5) (v := .ref (Z (2, 0, 0))) (C := RX5) (T := TX5) (N := 6) hx hb hts inw_wsX5_kindAt_5 hown hK hH hO rfl 2 (by decide) (hts (.fieldLink RX5 22 "KegDeposits" "kinds" "[LKegDeposits$Kind;") (by decide +kernel)) rfl dX5_kindAt_6 ?_
    refine zk_alen (v := 12) hx hb hK hH 3 hKA rfl rfl dX5_kindAt_9 ?_
    refine lv_icmp_ge (tgt := 22) hx hb dX5_kindAt_10 (by decide) (fun h_10 => ?_) (fun h_10 => ?_)
    · skip
      refine lv_null hx hb dX5_kindAt_22 ?_
      exact zk_aretS (r := none) hx hb hr hlocks (by rw [zs_ix_ge (m := 12) hnp (by decide) h_10]; rfl) dX5_kindAt_23
    · skip
      obtain ⟨j, hj, rfl⟩ : ∃ j : Nat, j < 12 ∧ x = nI j := by
        rcases pk_ix x (n := 12) (by decide) with q | q | q
        · exact absurd q h_1
        · exact absurd q h_10
        · exact q
      refine lv_aload_n hx hb dX5_kindAt_13 rfl (lv_at hl 0 rfl) ?_
      refine zk_get (ci := 5) (v := .ref (Z (2, 0, 0))) (C := RX5) (T := TX5) (N := 6) hx hb hts inw_wsX5_kindAt_5 hown hK hH hO rfl 2 (by decide) (hts (.fieldLink RX5 22 "KegDeposits" "kinds" "[LKegDeposits$Kind;") (by decide +kernel)) rfl dX5_kindAt_14 ?_
      refine lv_iload_n hx hb dX5_kindAt_17 rfl (lv_at hl 1 rfl) ?_
      refine zk_aldQ hx hb hK hH hKA (vp_in_nI hj (by decide)) dX5_kindAt_18 ?_
      refine zk_top (v' := va_rf ((fun k => if k < zs_nk X.1 then some (Z (4, k, 0)) else none) j)) (by rw [nI_clamp (show j < 2 ^ 31 by omega)]) ?_
      refine lv_goto (tgt := 23) hx hb dX5_kindAt_19 (by decide) ?_
      exact zk_aretS (r := ((fun k => if k < zs_nk X.1 then some (Z (4, k, 0)) else none) j)) hx hb hr hlocks (by rw [zs_ix_nI (by omega) (by omega)]; by_cases q : j < zs_nk X.1 <;> simp [q]) dX5_kindAt_23

set_option maxHeartbeats 4000000 in
set_option maxRecDepth 100000 in
theorem zc_X5_customerAt (l : Launch) {g : zk_G} {z : Nat} {M : zk_M} {X : zs_X} {Z : zs_Z} (hR : zs_R g X Z M) (hnp : zs_np X.1 ≤ 24) (x : Int32) : Met l yX5_customerAt wsX5_customerAt ({ frames := 1, cells := 0, slots := 0, locals := 21 } : Room) (va_Pc [.ref (Z (0, 0, 0)), .int x] (zk_U g z M)) (va_Sq (fun r => r = (zs_cx (zs_np X.1) x).map (fun j => Z (3, j, 0)))) 0 0 (fun _ => False) := by
  refine Met.ofW (cc := cX5_customerAt) (maxL := 2) (ret := (some (.object "KegDeposits$Party"))) (by decide) rfl ?_
  intro P0 e0 s m0 args below meth c0 s₁ B hml hv
  obtain ⟨rfl, hH, hK, hN⟩ := hv
  have hx := B.exec
  have hb := B.bytes
  have hr := B.returns
  have hts := atoms_spec (ws := wsX5_customerAt) B.pre
  have hown : s.vm.findClass RX5 = some m0.cls := findClass_of_methodNamed B.named
  have hlocks := B.notSynchronized
  have hl := lv_entry ([.ref (Z (0, 0, 0)), .int x]) (n := 2) (Nat.le_of_ble_eq_true rfl)
  rw [lg_entry_eq]
  generalize (lg_sl ([.ref (Z (0, 0, 0)), .int x]) ++ List.replicate (2 - (lg_sl ([.ref (Z (0, 0, 0)), .int x])).length) Slot.unset).toArray = ls at hl ⊢
  have hl : lv_has ls 2 [(0, .ref (Z (0, 0, 0))), (1, .int x)] := hl
  have hO : M (Z (0, 0, 0)) = some (.inr (5, [.ref (Z (3, 0, 0)), .ref (Z (1, 0, 0)), .ref (Z (2, 0, 0)), va_rf (zs_prev (zs_nc X.1) (fun i => Z (7, i, 0))), .int (nI (zs_nc X.1)), .long (zs_ck X.1)])) := hR.1 (0, 0, 0) ⟨rfl, rfl⟩
  refine lv_iload_n hx hb dX5_customerAt_0 rfl (lv_at hl 1 rfl) ?_
  refine lv_if_ne (tgt := 8) hx hb dX5_customerAt_1 (by decide) (fun h_1 => ?_) (fun h_1 => ?_)
  · skip
    refine lv_aload_n hx hb dX5_customerAt_8 rfl (lv_at hl 0 rfl) ?_
    refine lv_iload_n hx hb dX5_customerAt_9 rfl (lv_at hl 1 rfl) ?_
    refine va_csq (W.runV (As := [.int x]) (rest := []) ⟨hx, hb, hml, hown, hts⟩ (zc_X5_partyAt l hR hnp x) (cwV 1 hts gX5_customerAt_X5_partyAt rfl rfl rfl (by decide +kernel) ⟨Nat.le_of_ble_eq_true rfl, Nat.le_of_ble_eq_true rfl⟩) (zk_preV hH hK hN hO rfl) rfl rfl hl.1 rfl (lv_room (Nat.le_of_ble_eq_true rfl)) dX5_customerAt_10 ⟨(Nat.le_of_ble_eq_true rfl), (Nat.le_of_ble_eq_true rfl)⟩) (fun r_10 hr_10 => ?_)
    exact zk_aretS (r := r_10) hx hb hr hlocks (by rw [hr_10, show zs_cx (zs_np X.1) x = zs_ix (zs_np X.1) x from if_neg h_1]) dX5_customerAt_13
  · skip
    refine lv_null hx hb dX5_customerAt_4 ?_
    refine lv_goto (tgt := 13) hx hb dX5_customerAt_5 (by decide) ?_
    exact zk_aretS (r := none) hx hb hr hlocks (by rw [show zs_cx (zs_np X.1) x = none from if_pos h_1]; rfl) dX5_customerAt_13

set_option maxHeartbeats 4000000 in
set_option maxRecDepth 100000 in
theorem zc_X5_isDay (l : Launch) {g : zk_G} {z : Nat} {M : zk_M} (x : Int64) : Met l yX5_isDay wsX5_isDay ({ frames := 0, cells := 0, slots := 0, locals := 0 } : Room) (va_Pc [.long x] (zk_U g z M)) (vp_Si (fun r => r = if zs_isD x then 1 else 0)) 0 0 (fun _ => False) := by
  refine Met.ofW (cc := cX5_isDay) (maxL := 2) (ret := (some .boolean)) (by decide) rfl ?_
  intro P0 e0 s m0 args below meth c0 s₁ B hml hv
  obtain ⟨rfl, hH, hK, hN⟩ := hv
  have hx := B.exec
  have hb := B.bytes
  have hr := B.returns
  have hts := atoms_spec (ws := wsX5_isDay) B.pre
  have hown : s.vm.findClass RX5 = some m0.cls := findClass_of_methodNamed B.named
  have hlocks := B.notSynchronized
  have hl := lv_entry ([.long x]) (n := 2) (Nat.le_of_ble_eq_true rfl)
  rw [lg_entry_eq]
  generalize (lg_sl ([.long x]) ++ List.replicate (2 - (lg_sl ([.long x])).length) Slot.unset).toArray = ls at hl ⊢
  have hl : lv_has ls 2 [(0, .long x)] := hl
  refine lv_lload_n hx hb dX5_isDay_0 rfl (lv_at hl 0 rfl) ?_
  refine lv_lconst (v := 0) hx hb dX5_isDay_1 (by decide) ?_
  refine zk_lc_lt (tgt := 18) hx hb dX5_isDay_2 dX5_isDay_3 (by decide) (fun h_2 => ?_) (fun h_2 => ?_)
  · skip
    refine lv_iconst (v := 0) hx hb dX5_isDay_18 (by decide) ?_
    exact zk_zretS hx hb hr hlocks (by first | rfl | decide) (if_neg (fun q => absurd h_2 (Int64.not_lt.mpr q.1))).symm dX5_isDay_19
  · skip
    refine lv_lload_n hx hb dX5_isDay_6 rfl (lv_at hl 0 rfl) ?_
    refine lv_ldc2 (v := 100000) hx hb hown (hts (.constantLong RX5 35 (100000)) (by decide +kernel)) dX5_isDay_7 ?_
    refine zk_lc_gt (tgt := 18) hx hb dX5_isDay_10 dX5_isDay_11 (by decide) (fun h_10 => ?_) (fun h_10 => ?_)
    · skip
      refine lv_iconst (v := 0) hx hb dX5_isDay_18 (by decide) ?_
      exact zk_zretS hx hb hr hlocks (by first | rfl | decide) (if_neg (fun q => absurd h_10 (Int64.not_lt.mpr q.2))).symm dX5_isDay_19
    · skip
      refine lv_iconst (v := 1) hx hb dX5_isDay_14 (by decide) ?_
      refine lv_goto (tgt := 19) hx hb dX5_isDay_15 (by decide) ?_
      exact zk_zretS hx hb hr hlocks (by first | rfl | decide) (if_pos ⟨Int64.not_lt.mp h_2, Int64.not_lt.mp h_10⟩).symm dX5_isDay_19

set_option maxHeartbeats 4000000 in
set_option maxRecDepth 100000 in
theorem zc_X5_isNumber (l : Launch) {g : zk_G} {z : Nat} {M : zk_M} (x : Int64) : Met l yX5_isNumber wsX5_isNumber ({ frames := 0, cells := 0, slots := 0, locals := 0 } : Room) (va_Pc [.long x] (zk_U g z M)) (vp_Si (fun r => r = if zs_isN x then 1 else 0)) 0 0 (fun _ => False) := by
  refine Met.ofW (cc := cX5_isNumber) (maxL := 2) (ret := (some .boolean)) (by decide) rfl ?_
  intro P0 e0 s m0 args below meth c0 s₁ B hml hv
  obtain ⟨rfl, hH, hK, hN⟩ := hv
  have hx := B.exec
  have hb := B.bytes
  have hr := B.returns
  have hts := atoms_spec (ws := wsX5_isNumber) B.pre
  have hown : s.vm.findClass RX5 = some m0.cls := findClass_of_methodNamed B.named
  have hlocks := B.notSynchronized
  have hl := lv_entry ([.long x]) (n := 2) (Nat.le_of_ble_eq_true rfl)
  rw [lg_entry_eq]
  generalize (lg_sl ([.long x]) ++ List.replicate (2 - (lg_sl ([.long x])).length) Slot.unset).toArray = ls at hl ⊢
  have hl : lv_has ls 2 [(0, .long x)] := hl
  refine lv_lload_n hx hb dX5_isNumber_0 rfl (lv_at hl 0 rfl) ?_
  refine lv_lconst (v := 1) hx hb dX5_isNumber_1 (by decide) ?_
  refine zk_lc_lt (tgt := 18) hx hb dX5_isNumber_2 dX5_isNumber_3 (by decide) (fun h_2 => ?_) (fun h_2 => ?_)
  · skip
    refine lv_iconst (v := 0) hx hb dX5_isNumber_18 (by decide) ?_
    exact zk_zretS hx hb hr hlocks (by first | rfl | decide) (if_neg (fun q => absurd h_2 (Int64.not_lt.mpr q.1))).symm dX5_isNumber_19
  · skip
    refine lv_lload_n hx hb dX5_isNumber_6 rfl (lv_at hl 0 rfl) ?_
    refine lv_ldc2 (v := 100000) hx hb hown (hts (.constantLong RX5 35 (100000)) (by decide +kernel)) dX5_isNumber_7 ?_
    refine zk_lc_gt (tgt := 18) hx hb dX5_isNumber_10 dX5_isNumber_11 (by decide) (fun h_10 => ?_) (fun h_10 => ?_)
    · skip
      refine lv_iconst (v := 0) hx hb dX5_isNumber_18 (by decide) ?_
      exact zk_zretS hx hb hr hlocks (by first | rfl | decide) (if_neg (fun q => absurd h_10 (Int64.not_lt.mpr q.2))).symm dX5_isNumber_19
    · skip
      refine lv_iconst (v := 1) hx hb dX5_isNumber_14 (by decide) ?_
      refine lv_goto (tgt := 19) hx hb dX5_isNumber_15 (by decide) ?_
      exact zk_zretS hx hb hr hlocks (by first | rfl | decide) (if_pos ⟨Int64.not_lt.mp h_2, Int64.not_lt.mp h_10⟩).symm dX5_isNumber_19

theorem inw_wsX5_mayMoveOn_5 : ∀ w ∈ u_ws RX5 TX5 6, w ∈ wsX5_mayMoveOn := by decide +kernel
set_option maxHeartbeats 4000000 in
set_option maxRecDepth 100000 in
theorem zc_X5_mayMoveOn (l : Launch) {g : zk_G} {z : Nat} {M : zk_M} {X : zs_X} {Z : zs_Z} (hR : zs_R g X Z M) (hn : zs_nc X.1 < 512) (d : Int64) : Met l yX5_mayMoveOn wsX5_mayMoveOn ({ frames := 1, cells := 0, slots := 0, locals := 21 } : Room) (va_Pc [.ref (Z (0, 0, 0)), .long d] (zk_U g z M)) (vp_Si (fun r => r = if zs_isD d ∧ zs_ck X.1 ≤ d then 1 else 0)) 0 0 (fun _ => False) := by
  refine Met.ofW (cc := cX5_mayMoveOn) (maxL := 3) (ret := (some .boolean)) (by decide) rfl ?_
  intro P0 e0 s m0 args below meth c0 s₁ B hml hv
  obtain ⟨rfl, hH, hK, hN⟩ := hv
  have hx := B.exec
  have hb := B.bytes
  have hr := B.returns
  have hts := atoms_spec (ws := wsX5_mayMoveOn) B.pre
  have hown : s.vm.findClass RX5 = some m0.cls := findClass_of_methodNamed B.named
  have hlocks := B.notSynchronized
  have hl := lv_entry ([.ref (Z (0, 0, 0)), .long d]) (n := 3) (Nat.le_of_ble_eq_true rfl)
  rw [lg_entry_eq]
  generalize (lg_sl ([.ref (Z (0, 0, 0)), .long d]) ++ List.replicate (3 - (lg_sl ([.ref (Z (0, 0, 0)), .long d])).length) Slot.unset).toArray = ls at hl ⊢
  have hl : lv_has ls 3 [(0, .ref (Z (0, 0, 0))), (1, .long d)] := hl
  have hO : M (Z (0, 0, 0)) = some (.inr (5, [.ref (Z (3, 0, 0)), .ref (Z (1, 0, 0)), .ref (Z (2, 0, 0)), va_rf (zs_prev (zs_nc X.1) (fun i => Z (7, i, 0))), .int (nI (zs_nc X.1)), .long (zs_ck X.1)])) := hR.1 (0, 0, 0) ⟨rfl, rfl⟩
  refine lv_lload_n hx hb dX5_mayMoveOn_0 rfl (lv_at hl 1 rfl) ?_
  refine vp_callSi (W.runS (As := [.long d]) (rest := []) ⟨hx, hb, hml, hown, hts⟩ (zc_X5_isDay l d) (va_cwS 1 hts gX5_mayMoveOn_X5_isDay rfl rfl rfl (by decide +kernel) ⟨Nat.le_of_ble_eq_true rfl, Nat.le_of_ble_eq_true rfl⟩) (zk_preS hH hK hN) rfl rfl hl.1 rfl (lv_room (Nat.le_of_ble_eq_true rfl)) dX5_mayMoveOn_1 ⟨(Nat.le_of_ble_eq_true rfl), (Nat.le_of_ble_eq_true rfl)⟩) (fun r_1 hr_1 => ?_)
  refine lv_if_eq (tgt := 30) hx hb dX5_mayMoveOn_4 (by decide) (fun h_4 => ?_) (fun h_4 => ?_)
  · skip
    have hd : ¬ zs_isD d := fun q => by rw [hr_1, if_pos q] at h_4; exact absurd h_4 (by decide)
    refine lv_iconst (v := 0) hx hb dX5_mayMoveOn_30 (by decide) ?_
    exact zk_zretS hx hb hr hlocks (by first | rfl | decide) (if_neg (fun q => hd q.1)).symm dX5_mayMoveOn_31
  · skip
    have hd : zs_isD d := Decidable.byContradiction (fun q => h_4 (by rw [hr_1, if_neg q]))
    refine lv_lload_n hx hb dX5_mayMoveOn_7 rfl (lv_at hl 1 rfl) ?_
    refine lv_aload_n hx hb dX5_mayMoveOn_8 rfl (lv_at hl 0 rfl) ?_
    refine zk_get (ci := 5) (v := .long (zs_ck X.1)) (C := RX5) (T := TX5) (N := 6) hx hb hts inw_wsX5_mayMoveOn_5 hown hK hH hO rfl 5 (by decide) (hts (.fieldLink RX5 105 "KegDeposits" "clock" "J") (by decide +kernel)) rfl dX5_mayMoveOn_9 ?_
    refine zk_lc_lt (tgt := 30) hx hb dX5_mayMoveOn_12 dX5_mayMoveOn_13 (by decide) (fun h_12 => ?_) (fun h_12 => ?_)
    · skip
      refine lv_iconst (v := 0) hx hb dX5_mayMoveOn_30 (by decide) ?_
      exact zk_zretS hx hb hr hlocks (by first | rfl | decide) (if_neg (fun q => absurd h_12 (Int64.not_lt.mpr q.2))).symm dX5_mayMoveOn_31
    · skip
      refine lv_aload_n hx hb dX5_mayMoveOn_16 rfl (lv_at hl 0 rfl) ?_
      refine zk_get (ci := 5) (v := .int (nI (zs_nc X.1))) (C := RX5) (T := TX5) (N := 6) hx hb hts inw_wsX5_mayMoveOn_5 hown hK hH hO rfl 4 (by decide) (hts (.fieldLink RX5 127 "KegDeposits" "movesDone" "I") (by decide +kernel)) rfl dX5_mayMoveOn_17 ?_
      refine lv_sipush (v := 512) hx hb dX5_mayMoveOn_20 (by decide) ?_
      refine lv_icmp_ge (tgt := 30) hx hb dX5_mayMoveOn_23 (by decide) (fun h_23 => ?_) (fun h_23 => ?_)
      · skip
        exact absurd h_23 (nI_ge hn (by decide))
      · skip
        refine lv_iconst (v := 1) hx hb dX5_mayMoveOn_26 (by decide) ?_
        refine lv_goto (tgt := 31) hx hb dX5_mayMoveOn_27 (by decide) ?_
        exact zk_zretS hx hb hr hlocks (by first | rfl | decide) (if_pos ⟨hd, Int64.not_lt.mp h_12⟩).symm dX5_mayMoveOn_31

theorem inw_wsX5_move_4 : ∀ w ∈ u_ws RX4 TX4 5, w ∈ wsX5_move := by decide +kernel
theorem inw_wsX5_move_5 : ∀ w ∈ u_ws RX5 TX5 6, w ∈ wsX5_move := by decide +kernel
set_option maxHeartbeats 4000000 in
set_option maxRecDepth 100000 in
theorem zc_X5_move (l : Launch) {g : zk_G} {z : Nat} {M : zk_M} {X : zs_X} {Z : zs_Z} {n : Nat} (hR : zs_R g X Z M) (hI : zs_I X.1 n) {x y : Nat} (hx0 : x < zs_np X.1) (hy0 : y < zs_np X.1) (d c : Int64) : Met l yX5_move wsX5_move ({ frames := 2, cells := 1, slots := 5, locals := 39 } : Room) (va_Pc [.ref (Z (0, 0, 0)), .long d, .long c, .ref (Z (3, x, 0)), .ref (Z (3, y, 0))] (zk_U g z M)) (va_Qv (fun u => zs_P g X Z (zs_mv X.1 x y c d, X.2) u) (zk_B g z) (fun q => z ≤ q)) 1 5 (fun q => z ≤ q) := by
  refine Met.ofW (cc := cX5_move) (maxL := 7) (ret := none) (by decide) rfl ?_
  intro P0 e0 s m0 args below meth c0 s₁ B hml hv
  obtain ⟨rfl, hH, hK, hN⟩ := hv
  have hx := B.exec
  have hb := B.bytes
  have hr := B.returns
  have hts := atoms_spec (ws := wsX5_move) B.pre
  have hown : s.vm.findClass RX5 = some m0.cls := findClass_of_methodNamed B.named
  have hlocks := B.notSynchronized
  have hS : va_S (fun q => z ≤ q) s.heap s.heap [] := va_S.rf
  have hl := lv_entry ([.ref (Z (0, 0, 0)), .long d, .long c, .ref (Z (3, x, 0)), .ref (Z (3, y, 0))]) (n := 7) (Nat.le_of_ble_eq_true rfl)
  rw [lg_entry_eq]
  generalize (lg_sl ([.ref (Z (0, 0, 0)), .long d, .long c, .ref (Z (3, x, 0)), .ref (Z (3, y, 0))]) ++ List.replicate (7 - (lg_sl ([.ref (Z (0, 0, 0)), .long d, .long c, .ref (Z (3, x, 0)), .ref (Z (3, y, 0))])).length) Slot.unset).toArray = ls at hl ⊢
  have hl : lv_has ls 7 [(0, .ref (Z (0, 0, 0))), (1, .long d), (3, .long c), (5, .ref (Z (3, x, 0))), (6, .ref (Z (3, y, 0)))] := hl
  have hO : M (Z (0, 0, 0)) = some (.inr (5, [.ref (Z (3, 0, 0)), .ref (Z (1, 0, 0)), .ref (Z (2, 0, 0)), va_rf (zs_prev (zs_nc X.1) (fun i => Z (7, i, 0))), .int (nI (zs_nc X.1)), .long (zs_ck X.1)])) := hR.1 (0, 0, 0) ⟨rfl, rfl⟩
  refine lv_aload_n hx hb dX5_move_0 rfl (lv_at hl 0 rfl) ?_
  refine zk_new (ci := 4) (fs := [.long 0, .long 0, .null, .null, .null]) (C := RX4) (T := TX4) (N := 5) hx hb hts inw_wsX5_move_4 tyX4 tyX4_ok hown (hts (.classLink RX5 131 RX4) (by decide +kernel)) (hts (.instantiable RX4 5) (by decide +kernel)) (hts (.initialized RX4) (by decide +kernel)) hK hH hS rfl (fun j hj => by rcases (show j = 0 ∨ j = 1 ∨ j = 2 ∨ j = 3 ∨ j = 4 by omega) with rfl | rfl | rfl | rfl | rfl <;> rfl) (Nat.le_of_ble_eq_true rfl) (Nat.le_of_ble_eq_true rfl) dX5_move_1 (fun q_1 H hf_1 hH hS => ?_)
  obtain ⟨M_1, eM_1⟩ : ∃ w_0 : zk_M, w_0 = zk_up M q_1 (.inr (4, [.long 0, .long 0, .null, .null, .null])) := ⟨_, rfl⟩
  have hH : zk_H g z M_1 H := by rw [eM_1]; exact hH
  have f_1_0 : M_1 (Z (0, 0, 0)) = some (.inr (5, [.ref (Z (3, 0, 0)), .ref (Z (1, 0, 0)), .ref (Z (2, 0, 0)), va_rf (zs_prev (zs_nc X.1) (fun i => Z (7, i, 0))), .int (nI (zs_nc X.1)), .long (zs_ck X.1)])) := by rw [eM_1, zk_up_n _ _ (zk_ne_none hO hf_1)]; exact hO
  have e_1 : M_1 q_1 = some (.inr (4, [.long 0, .long 0, .null, .null, .null])) := by rw [eM_1]; exact zk_up_s _ _ _
  refine lv_dup hx hb dX5_move_4 rfl ?_
  refine lv_lload_n hx hb dX5_move_5 rfl (lv_at hl 1 rfl) ?_
  refine lv_lload_n hx hb dX5_move_6 rfl (lv_at hl 2 rfl) ?_
  refine lv_aload hx hb dX5_move_7 (lv_at hl 3 rfl) ?_
  refine lv_aload hx hb dX5_move_9 (lv_at hl 4 rfl) ?_
  refine lv_aload_n hx hb dX5_move_11 rfl (lv_at hl 0 rfl) ?_
  refine zk_get (ci := 5) (v := va_rf (zs_prev (zs_nc X.1) (fun i => Z (7, i, 0)))) (C := RX5) (T := TX5) (N := 6) hx hb hts inw_wsX5_move_5 hown hK hH f_1_0 rfl 3 (by decide) (hts (.fieldLink RX5 133 "KegDeposits" "latestTransfer" "LKegDeposits$Transfer;") (by decide +kernel)) rfl dX5_move_12 ?_
  refine zk_callv (va_runI (As := [.long d, .long c, .ref (Z (3, x, 0)), .ref (Z (3, y, 0)), va_rf (zs_prev (zs_nc X.1) (fun i => Z (7, i, 0)))]) (rest := [.ref q_1, .ref (Z (0, 0, 0))]) ⟨hx, hb, hml, hown, hts⟩ (zc_X4_init l d c (zs_prev (zs_nc X.1) (fun i => Z (7, i, 0))) e_1) (cwI 5 hts gX5_move_X4_init rfl rfl rfl (hts (.initialized RX4) (by decide +kernel)) (hts (.methodLink RX5 137 yX4_init) (by decide +kernel)) (hts (.instanceMethod yX4_init) (by decide +kernel)) rfl (by decide +kernel) ⟨Nat.le_of_ble_eq_true rfl, Nat.le_of_ble_eq_true rfl⟩) (zk_preS hH hK hN) rfl rfl hl.1 rfl (lv_room (Nat.le_of_ble_eq_true rfl)) dX5_move_15 ⟨(Nat.le_of_ble_eq_true rfl), (Nat.le_of_ble_eq_true rfl)⟩) hS (fun u_15 H locs hH hr_15 hS => ?_)
  have f_15 : u_15 (Z (0, 0, 0)) = some (.inr (5, [.ref (Z (3, 0, 0)), .ref (Z (1, 0, 0)), .ref (Z (2, 0, 0)), va_rf (zs_prev (zs_nc X.1) (fun i => Z (7, i, 0))), .int (nI (zs_nc X.1)), .long (zs_ck X.1)])) := (hr_15.2 _ (zk_ne_none hO hf_1)).trans f_1_0
  refine zk_put (ci := 5) (v := .ref q_1) (C := RX5) (T := TX5) (N := 6) hx hb hts inw_wsX5_move_5 tyX5 tyX5_ok nmX5 hown hK hH hS f_15 rfl 3 (by decide) (hts (.fieldLink RX5 133 "KegDeposits" "latestTransfer" "LKegDeposits$Transfer;") (by decide +kernel)) rfl rfl rfl (Nat.le_of_ble_eq_true rfl) dX5_move_18 (fun H locs hH hS => ?_)
  obtain ⟨M_18, eM_18⟩ : ∃ w_0 : zk_M, w_0 = zk_up u_15 (Z (0, 0, 0)) (.inr (5, [.ref (Z (3, 0, 0)), .ref (Z (1, 0, 0)), .ref (Z (2, 0, 0)), .ref q_1, .int (nI (zs_nc X.1)), .long (zs_ck X.1)])) := ⟨_, rfl⟩
  have hH : zk_H g z M_18 H := by rw [eM_18]; exact hH
  have f_18_0 : M_18 q_1 = some (.inr (4, [.long d, .long c, .ref (Z (3, x, 0)), .ref (Z (3, y, 0)), va_rf (zs_prev (zs_nc X.1) (fun i => Z (7, i, 0)))])) := by rw [eM_18, zk_up_n _ _ (zk_ne hr_15.1 f_15 (by simp))]; exact hr_15.1
  have e_18 : M_18 (Z (0, 0, 0)) = some (.inr (5, [.ref (Z (3, 0, 0)), .ref (Z (1, 0, 0)), .ref (Z (2, 0, 0)), .ref q_1, .int (nI (zs_nc X.1)), .long (zs_ck X.1)])) := by rw [eM_18]; exact zk_up_s _ _ _
  refine lv_aload_n hx hb dX5_move_21 rfl (lv_at hl 0 rfl) ?_
  refine lv_dup hx hb dX5_move_22 rfl ?_
  refine zk_get (ci := 5) (v := .int (nI (zs_nc X.1))) (C := RX5) (T := TX5) (N := 6) hx hb hts inw_wsX5_move_5 hown hK hH e_18 rfl 4 (by decide) (hts (.fieldLink RX5 127 "KegDeposits" "movesDone" "I") (by decide +kernel)) rfl dX5_move_23 ?_
  refine lv_iconst (v := 1) hx hb dX5_move_26 (by decide) ?_
  refine lv_iadd hx hb dX5_move_27 ?_
  refine zk_put (ci := 5) (v := .int (nI (zs_nc X.1) + 1)) (C := RX5) (T := TX5) (N := 6) hx hb hts inw_wsX5_move_5 tyX5 tyX5_ok nmX5 hown hK hH hS e_18 rfl 4 (by decide) (hts (.fieldLink RX5 127 "KegDeposits" "movesDone" "I") (by decide +kernel)) rfl rfl rfl (Nat.le_of_ble_eq_true rfl) dX5_move_28 (fun H locs hH hS => ?_)
  obtain ⟨M_28, eM_28⟩ : ∃ w_0 : zk_M, w_0 = zk_up M_18 (Z (0, 0, 0)) (.inr (5, [.ref (Z (3, 0, 0)), .ref (Z (1, 0, 0)), .ref (Z (2, 0, 0)), .ref q_1, .int (nI (zs_nc X.1) + 1), .long (zs_ck X.1)])) := ⟨_, rfl⟩
  have hH : zk_H g z M_28 H := by rw [eM_28]; exact hH
  have f_28_0 : M_28 q_1 = some (.inr (4, [.long d, .long c, .ref (Z (3, x, 0)), .ref (Z (3, y, 0)), va_rf (zs_prev (zs_nc X.1) (fun i => Z (7, i, 0)))])) := by rw [eM_28, zk_up_n _ _ (zk_ne f_18_0 e_18 (by simp))]; exact f_18_0
  have e_28 : M_28 (Z (0, 0, 0)) = some (.inr (5, [.ref (Z (3, 0, 0)), .ref (Z (1, 0, 0)), .ref (Z (2, 0, 0)), .ref q_1, .int (nI (zs_nc X.1) + 1), .long (zs_ck X.1)])) := by rw [eM_28]; exact zk_up_s _ _ _
  refine lv_aload_n hx hb dX5_move_31 rfl (lv_at hl 0 rfl) ?_
  refine lv_lload_n hx hb dX5_move_32 rfl (lv_at hl 1 rfl) ?_
  refine zk_put (ci := 5) (v := .long d) (C := RX5) (T := TX5) (N := 6) hx hb hts inw_wsX5_move_5 tyX5 tyX5_ok nmX5 hown hK hH hS e_28 rfl 5 (by decide) (hts (.fieldLink RX5 105 "KegDeposits" "clock" "J") (by decide +kernel)) rfl rfl rfl (Nat.le_of_ble_eq_true rfl) dX5_move_33 (fun H locs hH hS => ?_)
  obtain ⟨M_33, eM_33⟩ : ∃ w_0 : zk_M, w_0 = zk_up M_28 (Z (0, 0, 0)) (.inr (5, [.ref (Z (3, 0, 0)), .ref (Z (1, 0, 0)), .ref (Z (2, 0, 0)), .ref q_1, .int (nI (zs_nc X.1) + 1), .long d])) := ⟨_, rfl⟩
  have hH : zk_H g z M_33 H := by rw [eM_33]; exact hH
  have f_33_0 : M_33 q_1 = some (.inr (4, [.long d, .long c, .ref (Z (3, x, 0)), .ref (Z (3, y, 0)), va_rf (zs_prev (zs_nc X.1) (fun i => Z (7, i, 0)))])) := by rw [eM_33, zk_up_n _ _ (zk_ne f_28_0 e_28 (by simp))]; exact f_28_0
  have e_33 : M_33 (Z (0, 0, 0)) = some (.inr (5, [.ref (Z (3, 0, 0)), .ref (Z (1, 0, 0)), .ref (Z (2, 0, 0)), .ref q_1, .int (nI (zs_nc X.1) + 1), .long d])) := by rw [eM_33]; exact zk_up_s _ _ _
  exact zk_vret hx hb hr hlocks hH hS (by decide) (by decide) ⟨_, zs_R_move hR hI hx0 hy0 c d hf_1 (fun b h1 h2 => by rw [eM_33, zk_up_n _ _ h2, eM_28, zk_up_n _ _ h2, eM_18, zk_up_n _ _ h2, hr_15.2 b h1, eM_1, zk_up_n _ _ h1]) (e_33.trans (by rw [← nI_1])) f_33_0, fun q hq => zs_Zup_n Z _ (fun e => absurd (e ▸ hq : zs_ok X (7, zs_nc X.1, 0)).1 (Nat.lt_irrefl _))⟩ dX5_move_36

theorem inw_wsX5_balanceOf_4 : ∀ w ∈ u_ws RX4 TX4 5, w ∈ wsX5_balanceOf := by decide +kernel
theorem inw_wsX5_balanceOf_5 : ∀ w ∈ u_ws RX5 TX5 6, w ∈ wsX5_balanceOf := by decide +kernel
set_option maxHeartbeats 4000000 in
set_option maxRecDepth 100000 in
theorem zc_X5_balanceOf (l : Launch) {g : zk_G} {z : Nat} {M : zk_M} {X : zs_X} {Z : zs_Z} (hR : zs_R g X Z M) (hI : zs_It X.1) {p : Nat} (hp : p < zs_np X.1) (d : Int64) : Met l yX5_balanceOf wsX5_balanceOf ({ frames := 1, cells := 0, slots := 0, locals := 21 } : Room) (va_Pc [.ref (Z (0, 0, 0)), .ref (Z (3, p, 0)), .long d] (zk_U g z M)) (vp_Sl (fun r => r = zs_bal X.1 p d)) 0 0 (fun _ => False) := by
  refine Met.ofW (cc := cX5_balanceOf) (maxL := 7) (ret := (some .long)) (by decide) rfl ?_
  intro P0 e0 s m0 args below meth c0 s₁ B hml hv
  obtain ⟨rfl, hH, hK, hN⟩ := hv
  have hx := B.exec
  have hb := B.bytes
  have hr := B.returns
  have hts := atoms_spec (ws := wsX5_balanceOf) B.pre
  have hown : s.vm.findClass RX5 = some m0.cls := findClass_of_methodNamed B.named
  have hlocks := B.notSynchronized
  have hl := lv_entry ([.ref (Z (0, 0, 0)), .ref (Z (3, p, 0)), .long d]) (n := 7) (Nat.le_of_ble_eq_true rfl)
  rw [lg_entry_eq]
  generalize (lg_sl ([.ref (Z (0, 0, 0)), .ref (Z (3, p, 0)), .long d]) ++ List.replicate (7 - (lg_sl ([.ref (Z (0, 0, 0)), .ref (Z (3, p, 0)), .long d])).length) Slot.unset).toArray = ls at hl ⊢
  have hl : lv_has ls 7 [(0, .ref (Z (0, 0, 0))), (1, .ref (Z (3, p, 0))), (2, .long d)] := hl
  have hO : M (Z (0, 0, 0)) = some (.inr (5, [.ref (Z (3, 0, 0)), .ref (Z (1, 0, 0)), .ref (Z (2, 0, 0)), va_rf (zs_prev (zs_nc X.1) (fun i => Z (7, i, 0))), .int (nI (zs_nc X.1)), .long (zs_ck X.1)])) := hR.1 (0, 0, 0) ⟨rfl, rfl⟩
  refine lv_lconst (v := 0) hx hb dX5_balanceOf_0 (by decide) ?_
  refine lv_lstore (lv' := [(4, .long 0), (0, .ref (Z (0, 0, 0))), (1, .ref (Z (3, p, 0))), (2, .long d)]) hx hb dX5_balanceOf_1 hl (by decide) rfl (fun ls hl => ?_)
  refine lv_aload_n hx hb dX5_balanceOf_3 rfl (lv_at hl 1 rfl) ?_
  refine zk_get (ci := 5) (v := va_rf (zs_prev (zs_nc X.1) (fun i => Z (7, i, 0)))) (C := RX5) (T := TX5) (N := 6) hx hb hts inw_wsX5_balanceOf_5 hown hK hH hO rfl 3 (by decide) (hts (.fieldLink RX5 133 "KegDeposits" "latestTransfer" "LKegDeposits$Transfer;") (by decide +kernel)) rfl dX5_balanceOf_4 ?_
  refine zk_astore (lv' := [(6, va_rf (zs_prev (zs_nc X.1) (fun i => Z (7, i, 0)))), (4, .long 0), (0, .ref (Z (0, 0, 0))), (1, .ref (Z (3, p, 0))), (2, .long d)]) hx hb dX5_balanceOf_7 hl (by decide) rfl (fun ls hl => ?_)
  have loop : ∀ (a : Nat) (acc : Int64) (ls : Array Slot), a ≤ zs_nc X.1 → acc + zs_sum (zs_balf X.1 p d) a = zs_bal X.1 p d → lv_has ls 7 [(6, va_rf (zs_prev a (fun i => Z (7, i, 0)))), (4, .long acc), (0, .ref (Z (0, 0, 0))), (1, .ref (Z (3, p, 0))), (2, .long d)] → W P0 l e0 (headSpec wsX5_balanceOf ({ frames := 1, cells := 0, slots := 0, locals := 21 } : Room)).room s m0 ([.ref (Z (0, 0, 0)), .ref (Z (3, p, 0)), .long d] : List Value).toArray below meth c0 s.heap [] 0 0 (MQ below (vp_Sl (fun r => r = zs_bal X.1 p d)) ([.ref (Z (0, 0, 0)), .ref (Z (3, p, 0)), .long d] : List Value).toArray s 0 0 (fun _ => False)) (F0 m0 9 ls []) := by
    intro a
    induction a with
    | zero =>
      intro acc ls ha hacc hl
      have hl : lv_has ls 7 [(6, .null), (4, .long acc), (0, .ref (Z (0, 0, 0))), (1, .ref (Z (3, p, 0))), (2, .long d)] := hl
      refine lv_aloadN hx hb dX5_balanceOf_9 (lv_at hl 0 rfl) ?_
      refine lv_ifnullN (tgt := 45) hx hb dX5_balanceOf_11 (by decide) ?_
      refine lv_lload hx hb dX5_balanceOf_45 (lv_at hl 1 rfl) ?_
      exact zk_lretS hx hb hr hlocks (by rw [← hacc]; exact (Int64.add_zero _).symm) dX5_balanceOf_47
    | succ j ih =>
      intro acc ls ha hacc hl
      have hl : lv_has ls 7 [(6, .ref (Z (7, j, 0))), (4, .long acc), (0, .ref (Z (0, 0, 0))), (1, .ref (Z (3, p, 0))), (2, .long d)] := hl
      have hL : M (Z (7, j, 0)) = some (.inr (4, [.long (zs_td X.1 j), .long (zs_ta X.1 j), .ref (Z (3, zs_tp X.1 j, 0)), .ref (Z (3, zs_tt X.1 j, 0)), va_rf (zs_prev j (fun i => Z (7, i, 0)))])) := hR.1 (7, j, 0) ⟨by omega, rfl⟩
      have hs : acc + (zs_sum (zs_balf X.1 p d) j + zs_balf X.1 p d j) = zs_bal X.1 p d := hacc
      refine lv_aload hx hb dX5_balanceOf_9 (lv_at hl 0 rfl) ?_
      refine lv_ifnull hx hb dX5_balanceOf_11 ?_
      refine lv_aload hx hb dX5_balanceOf_14 (lv_at hl 0 rfl) ?_
      refine zk_getN (ci := 4) (v := .long (zs_td X.1 j)) (C := RX4) (T := TX4) (N := 5) hx hb hts inw_wsX5_balanceOf_4 hown hK hH hL rfl 0 (by decide) (zk_nf_10 hN) rfl dX5_balanceOf_16 ?_
      refine lv_lload_n hx hb dX5_balanceOf_19 rfl (lv_at hl 4 rfl) ?_
      refine zk_lc_gt (tgt := 35) hx hb dX5_balanceOf_20 dX5_balanceOf_21 (by decide) (fun h_20 => ?_) (fun h_20 => ?_)
      · skip
        refine lv_aload hx hb dX5_balanceOf_35 (lv_at hl 0 rfl) ?_
        refine zk_getN (ci := 4) (v := va_rf (zs_prev j (fun i => Z (7, i, 0)))) (C := RX4) (T := TX4) (N := 5) hx hb hts inw_wsX5_balanceOf_4 hown hK hH hL rfl 4 (by decide) (zk_nf_11 hN) rfl dX5_balanceOf_37 ?_
        refine zk_astore (lv' := [(6, va_rf (zs_prev j (fun i => Z (7, i, 0)))), (4, .long acc), (0, .ref (Z (0, 0, 0))), (1, .ref (Z (3, p, 0))), (2, .long d)]) hx hb dX5_balanceOf_40 hl (by decide) rfl (fun ls hl => ?_)
        refine lv_goto (tgt := 9) hx hb dX5_balanceOf_42 (by decide) ?_
        exact ih _ ls (by omega) (by rw [← hs, show zs_balf X.1 p d j = 0 from if_neg (fun q => absurd h_20 (Int64.not_lt.mpr q)), Int64.add_zero]) (lv_sub hl [0, 1, 2, 3, 4] rfl)
      · skip
        refine lv_lload hx hb dX5_balanceOf_24 (lv_at hl 1 rfl) ?_
        refine lv_aload hx hb dX5_balanceOf_26 (lv_at hl 0 rfl) ?_
        refine lv_aload_n hx hb dX5_balanceOf_28 rfl (lv_at hl 3 rfl) ?_
        refine vp_callSl (W.runV (As := [.ref (Z (3, p, 0))]) (rest := [.long acc]) ⟨hx, hb, hml, hown, hts⟩ (zc_X4_changeOf l hR hI (i := j) (by omega) hp) (cwV 1 hts gX5_balanceOf_X4_changeOf rfl rfl rfl (by decide +kernel) ⟨Nat.le_of_ble_eq_true rfl, Nat.le_of_ble_eq_true rfl⟩) (zk_preV hH hK hN hL rfl) rfl rfl hl.1 rfl (lv_room (Nat.le_of_ble_eq_true rfl)) dX5_balanceOf_29 ⟨(Nat.le_of_ble_eq_true rfl), (Nat.le_of_ble_eq_true rfl)⟩) (fun r_29 hr_29 => ?_)
        refine lv_ladd hx hb dX5_balanceOf_32 ?_
        refine lv_lstore (lv' := [(4, .long (acc + r_29)), (6, .ref (Z (7, j, 0))), (0, .ref (Z (0, 0, 0))), (1, .ref (Z (3, p, 0))), (2, .long d)]) hx hb dX5_balanceOf_33 hl (by decide) rfl (fun ls hl => ?_)
        refine lv_aload hx hb dX5_balanceOf_35 (lv_at hl 1 rfl) ?_
        refine zk_getN (ci := 4) (v := va_rf (zs_prev j (fun i => Z (7, i, 0)))) (C := RX4) (T := TX4) (N := 5) hx hb hts inw_wsX5_balanceOf_4 hown hK hH hL rfl 4 (by decide) (zk_nf_11 hN) rfl dX5_balanceOf_37 ?_
        refine zk_astore (lv' := [(6, va_rf (zs_prev j (fun i => Z (7, i, 0)))), (4, .long (acc + r_29)), (0, .ref (Z (0, 0, 0))), (1, .ref (Z (3, p, 0))), (2, .long d)]) hx hb dX5_balanceOf_40 hl (by decide) rfl (fun ls hl => ?_)
        refine lv_goto (tgt := 9) hx hb dX5_balanceOf_42 (by decide) ?_
        exact ih _ ls (by omega) (by rw [← hs, hr_29, show zs_balf X.1 p d j = zs_chg X.1 p j from if_pos (Int64.not_lt.mp h_20), Int64.add_assoc, Int64.add_comm (zs_chg X.1 p j)]) (lv_sub hl [0, 1, 2, 3, 4] rfl)
  exact loop (zs_nc X.1) 0 ls (Nat.le_refl _) (Int64.zero_add _) (lv_sub hl [0, 1, 2, 3, 4] rfl)
end
section
theorem inw_wsX5_layersInUse_5 : ∀ w ∈ u_ws RX5 TX5 6, w ∈ wsX5_layersInUse := by decide +kernel
set_option maxHeartbeats 4000000 in
set_option maxRecDepth 100000 in
theorem zc_X5_layersInUse (l : Launch) {g : zk_G} {z : Nat} {M : zk_M} {X : zs_X} {Z : zs_Z} (hR : zs_R g X Z M) (hI : zs_Il X.1) (hnp : zs_np X.1 ≤ 24) : Met l yX5_layersInUse wsX5_layersInUse ({ frames := 1, cells := 0, slots := 0, locals := 22 } : Room) (va_Pc [.ref (Z (0, 0, 0))] (zk_U g z M)) (vp_Si (fun r => r = nI (zs_cnt (zs_ll X.1) (zs_nl X.1)))) 0 0 (fun _ => False) := by
  refine Met.ofW (cc := cX5_layersInUse) (maxL := 4) (ret := (some .int)) (by decide) rfl ?_
  intro P0 e0 s m0 args below meth c0 s₁ B hml hv
  obtain ⟨rfl, hH, hK, hN⟩ := hv
  have hx := B.exec
  have hb := B.bytes
  have hr := B.returns
  have hts := atoms_spec (ws := wsX5_layersInUse) B.pre
  have hown : s.vm.findClass RX5 = some m0.cls := findClass_of_methodNamed B.named
  have hlocks := B.notSynchronized
  have hl := lv_entry ([.ref (Z (0, 0, 0))]) (n := 4) (Nat.le_of_ble_eq_true rfl)
  rw [lg_entry_eq]
  generalize (lg_sl ([.ref (Z (0, 0, 0))]) ++ List.replicate (4 - (lg_sl ([.ref (Z (0, 0, 0))])).length) Slot.unset).toArray = ls at hl ⊢
  have hl : lv_has ls 4 [(0, .ref (Z (0, 0, 0)))] := hl
  have hO : M (Z (0, 0, 0)) = some (.inr (5, [.ref (Z (3, 0, 0)), .ref (Z (1, 0, 0)), .ref (Z (2, 0, 0)), va_rf (zs_prev (zs_nc X.1) (fun i => Z (7, i, 0))), .int (nI (zs_nc X.1)), .long (zs_ck X.1)])) := hR.1 (0, 0, 0) ⟨rfl, rfl⟩
  have hPA : M (Z (1, 0, 0)) = some (zk_aP g 24 (fun p => if p < zs_np X.1 then some (Z (3, p, 0)) else none)) := hR.1 (1, 0, 0) ⟨rfl, rfl⟩
  refine lv_iconst (v := 0) hx hb dX5_layersInUse_0 (by decide) ?_
  refine lv_istore_n (lv' := [(1, .int 0), (0, .ref (Z (0, 0, 0)))]) hx hb dX5_layersInUse_1 rfl hl (by decide) rfl (fun ls hl => ?_)
  refine lv_iconst (v := 0) hx hb dX5_layersInUse_2 (by decide) ?_
  refine lv_istore_n (lv' := [(2, .int 0), (1, .int 0), (0, .ref (Z (0, 0, 0)))]) hx hb dX5_layersInUse_3 rfl hl (by decide) rfl (fun ls hl => ?_)
  have loop : ∀ (n i : Nat) (acc : Int32) (ls : Array Slot), 24 - i < n → i ≤ 24 → acc = nI (zs_nsum (fun p => if p < zs_np X.1 then zs_cntp X.1 p else 0) i) →  lv_has ls 4 [(2, .int (nI i)), (1, .int acc), (0, .ref (Z (0, 0, 0)))] → W P0 l e0 (headSpec wsX5_layersInUse ({ frames := 1, cells := 0, slots := 0, locals := 22 } : Room)).room s m0 ([.ref (Z (0, 0, 0))] : List Value).toArray below meth c0 s.heap [] 0 0 (MQ below (vp_Si (fun r => r = nI (zs_cnt (zs_ll X.1) (zs_nl X.1)))) ([.ref (Z (0, 0, 0))] : List Value).toArray s 0 0 (fun _ => False)) (F0 m0 4 ls []) := by
    intro n
    induction n with
    | zero => intro i acc ls hn; omega
    | succ n ih =>
      intro i acc ls hn hi hacc hl
      refine lv_iload_n hx hb dX5_layersInUse_4 rfl (lv_at hl 0 rfl) ?_
      refine lv_aload_n hx hb dX5_layersInUse_5 rfl (lv_at hl 2 rfl) ?_
      refine zk_get (ci := 5) (v := .ref (Z (1, 0, 0))) (C := RX5) (T := TX5) (N := 6) hx hb hts inw_wsX5_layersInUse_5 hown hK hH hO rfl 1 (by decide) (hts (.fieldLink RX5 16 "KegDeposits" "parties" "[LKegDeposits$Party;") (by decide +kernel)) rfl dX5_layersInUse_6 ?_
      refine zk_alen (v := 24) hx hb hK hH 2 hPA rfl rfl dX5_layersInUse_9 ?_
      refine lv_icmp_ge (tgt := 37) hx hb dX5_layersInUse_10 (by decide) (fun h_10 => ?_) (fun h_10 => ?_)
      · skip
        have hiN : i = 24 := by have := (nI_leI (a := 24) (b := i) (by decide) (by omega)).mp h_10; omega
        refine lv_iload_n hx hb dX5_layersInUse_37 rfl (lv_at hl 1 rfl) ?_
        exact zk_zretS hx hb hr hlocks (by first | rfl | decide) (by rw [hacc, hiN, zs_cnt_all hI hnp]) dX5_layersInUse_38
      · skip
        have hiN : i < 24 := Nat.lt_of_not_le (fun q => h_10 ((nI_leI (a := 24) (b := i) (by decide) (by omega)).mpr q))
        refine lv_aload_n hx hb dX5_layersInUse_13 rfl (lv_at hl 2 rfl) ?_
        refine zk_get (ci := 5) (v := .ref (Z (1, 0, 0))) (C := RX5) (T := TX5) (N := 6) hx hb hts inw_wsX5_layersInUse_5 hown hK hH hO rfl 1 (by decide) (hts (.fieldLink RX5 16 "KegDeposits" "parties" "[LKegDeposits$Party;") (by decide +kernel)) rfl dX5_layersInUse_14 ?_
        refine lv_iload_n hx hb dX5_layersInUse_17 rfl (lv_at hl 0 rfl) ?_
        refine zk_aldP hx hb hK hH hPA (vp_in_nI hiN (by decide)) dX5_layersInUse_18 ?_
        by_cases hpi : i < zs_np X.1
        · skip
          refine zk_top (v' := .ref (Z (3, i, 0))) (zk_arr_some (f := (fun p => if p < zs_np X.1 then some (Z (3, p, 0)) else none)) (by omega) (if_pos hpi)) ?_
          refine lv_astore_n (lv' := [(3, .ref (Z (3, i, 0))), (2, .int (nI i)), (1, .int acc), (0, .ref (Z (0, 0, 0)))]) hx hb dX5_layersInUse_19 rfl hl (by decide) rfl (fun ls hl => ?_)
          refine lv_aload_n hx hb dX5_layersInUse_20 rfl (lv_at hl 0 rfl) ?_
          refine lv_ifnull hx hb dX5_layersInUse_21 ?_
          refine lv_iload_n hx hb dX5_layersInUse_24 rfl (lv_at hl 2 rfl) ?_
          refine lv_aload_n hx hb dX5_layersInUse_25 rfl (lv_at hl 0 rfl) ?_
          refine vp_callSi (W.runV (As := []) (rest := [.int acc]) ⟨hx, hb, hml, hown, hts⟩ (zc_X2_layersInUse l hR hpi) (cwV 0 hts gX5_layersInUse_X2_layersInUse rfl rfl rfl (by decide +kernel) ⟨Nat.le_of_ble_eq_true rfl, Nat.le_of_ble_eq_true rfl⟩) (zk_preV hH hK hN (hR.1 (3, i, 0) ⟨hpi, rfl⟩) rfl) rfl rfl hl.1 rfl (lv_room (Nat.le_of_ble_eq_true rfl)) dX5_layersInUse_26 ⟨(Nat.le_of_ble_eq_true rfl), (Nat.le_of_ble_eq_true rfl)⟩) (fun r_26 hr_26 => ?_)
          refine lv_iadd hx hb dX5_layersInUse_29 ?_
          refine lv_istore_n (lv' := [(1, .int (acc + r_26)), (3, .ref (Z (3, i, 0))), (2, .int (nI i)), (0, .ref (Z (0, 0, 0)))]) hx hb dX5_layersInUse_30 rfl hl (by decide) rfl (fun ls hl => ?_)
          refine lv_iinc (v := nI (i + 1)) (lv' := [(2, .int (nI (i + 1))), (1, .int (acc + r_26)), (3, .ref (Z (3, i, 0))), (0, .ref (Z (0, 0, 0)))]) hx hb dX5_layersInUse_31 hl (k := 2) rfl (nI_1 i) (by decide) rfl (fun ls hl => ?_)
          refine lv_goto (tgt := 4) hx hb dX5_layersInUse_34 (by decide) ?_
          exact ih (i + 1) _ ls (by omega) (by omega) (by rw [hacc, hr_26, nI_add]; exact congrArg nI (congrArg (zs_nsum (fun p => if p < zs_np X.1 then zs_cntp X.1 p else 0) i + ·) (if_pos hpi).symm)) (lv_sub hl [0, 1, 3] rfl)
        · skip
          refine zk_top (v' := .null) (zk_arr_none (f := (fun p => if p < zs_np X.1 then some (Z (3, p, 0)) else none)) (by omega) (if_neg hpi)) ?_
          refine lv_astore_nN (lv' := [(3, .null), (2, .int (nI i)), (1, .int acc), (0, .ref (Z (0, 0, 0)))]) hx hb dX5_layersInUse_19 rfl hl (by decide) rfl (fun ls hl => ?_)
          refine lv_aload_nN hx hb dX5_layersInUse_20 rfl (lv_at hl 0 rfl) ?_
          refine lv_ifnullN (tgt := 31) hx hb dX5_layersInUse_21 (by decide) ?_
          refine lv_iinc (v := nI (i + 1)) (lv' := [(2, .int (nI (i + 1))), (3, .null), (1, .int acc), (0, .ref (Z (0, 0, 0)))]) hx hb dX5_layersInUse_31 hl (k := 1) rfl (nI_1 i) (by decide) rfl (fun ls hl => ?_)
          refine lv_goto (tgt := 4) hx hb dX5_layersInUse_34 (by decide) ?_
          exact ih (i + 1) _ ls (by omega) (by omega) (by rw [hacc]; show _ = nI (zs_nsum (fun p => if p < zs_np X.1 then zs_cntp X.1 p else 0) i + (if i < zs_np X.1 then zs_cntp X.1 i else 0)); rw [if_neg hpi]; rfl) (lv_sub hl [0, 2, 3] rfl)
  exact loop 25 0 0 ls (by omega) (by omega) rfl (lv_sub hl [0, 1, 2] rfl)

theorem inw_wsX5_sharesMakeOne_0 : ∀ w ∈ u_ws RX0 TX0 3, w ∈ wsX5_sharesMakeOne := by decide +kernel
theorem inw_wsX5_sharesMakeOne_5 : ∀ w ∈ u_ws RX5 TX5 6, w ∈ wsX5_sharesMakeOne := by decide +kernel
set_option maxHeartbeats 4000000 in
set_option maxRecDepth 100000 in
theorem zc_X5_sharesMakeOne (l : Launch) {g : zk_G} {z : Nat} {M : zk_M} {X : zs_X} {Z : zs_Z} (hR : zs_R g X Z M) (hI : zs_Ik X.1) (hnk : zs_nk X.1 ≤ 12) : Met l yX5_sharesMakeOne wsX5_sharesMakeOne ({ frames := 0, cells := 0, slots := 0, locals := 0 } : Room) (va_Pc [.ref (Z (0, 0, 0))] (zk_U g z M)) (vp_Si (fun r => r = if zs_sum (zs_sh X.1) (zs_nk X.1) = 10000 then 1 else 0)) 0 0 (fun _ => False) := by
  refine Met.ofW (cc := cX5_sharesMakeOne) (maxL := 5) (ret := (some .boolean)) (by decide) rfl ?_
  intro P0 e0 s m0 args below meth c0 s₁ B hml hv
  obtain ⟨rfl, hH, hK, hN⟩ := hv
  have hx := B.exec
  have hb := B.bytes
  have hr := B.returns
  have hts := atoms_spec (ws := wsX5_sharesMakeOne) B.pre
  have hown : s.vm.findClass RX5 = some m0.cls := findClass_of_methodNamed B.named
  have hlocks := B.notSynchronized
  have hl := lv_entry ([.ref (Z (0, 0, 0))]) (n := 5) (Nat.le_of_ble_eq_true rfl)
  rw [lg_entry_eq]
  generalize (lg_sl ([.ref (Z (0, 0, 0))]) ++ List.replicate (5 - (lg_sl ([.ref (Z (0, 0, 0))])).length) Slot.unset).toArray = ls at hl ⊢
  have hl : lv_has ls 5 [(0, .ref (Z (0, 0, 0)))] := hl
  have hO : M (Z (0, 0, 0)) = some (.inr (5, [.ref (Z (3, 0, 0)), .ref (Z (1, 0, 0)), .ref (Z (2, 0, 0)), va_rf (zs_prev (zs_nc X.1) (fun i => Z (7, i, 0))), .int (nI (zs_nc X.1)), .long (zs_ck X.1)])) := hR.1 (0, 0, 0) ⟨rfl, rfl⟩
  have hKA : M (Z (2, 0, 0)) = some (zk_aQ g 12 (fun k => if k < zs_nk X.1 then some (Z (4, k, 0)) else none)) := hR.1 (2, 0, 0) ⟨rfl, rfl⟩
  refine lv_lconst (v := 0) hx hb dX5_sharesMakeOne_0 (by decide) ?_
  refine lv_lstore_n (lv' := [(1, .long 0), (0, .ref (Z (0, 0, 0)))]) hx hb dX5_sharesMakeOne_1 rfl hl (by decide) rfl (fun ls hl => ?_)
  refine lv_iconst (v := 0) hx hb dX5_sharesMakeOne_2 (by decide) ?_
  refine lv_istore_n (lv' := [(3, .int 0), (1, .long 0), (0, .ref (Z (0, 0, 0)))]) hx hb dX5_sharesMakeOne_3 rfl hl (by decide) rfl (fun ls hl => ?_)
  have loop : ∀ (n i : Nat) (acc : Int64) (ls : Array Slot), 12 - i < n → i ≤ 12 → acc = zs_sum (zs_sh X.1) i →  lv_has ls 5 [(3, .int (nI i)), (1, .long acc), (0, .ref (Z (0, 0, 0)))] → W P0 l e0 (headSpec wsX5_sharesMakeOne ({ frames := 0, cells := 0, slots := 0, locals := 0 } : Room)).room s m0 ([.ref (Z (0, 0, 0))] : List Value).toArray below meth c0 s.heap [] 0 0 (MQ below (vp_Si (fun r => r = if zs_sum (zs_sh X.1) (zs_nk X.1) = 10000 then 1 else 0)) ([.ref (Z (0, 0, 0))] : List Value).toArray s 0 0 (fun _ => False)) (F0 m0 4 ls []) := by
    intro n
    induction n with
    | zero => intro i acc ls hn; omega
    | succ n ih =>
      intro i acc ls hn hi hacc hl
      refine lv_iload_n hx hb dX5_sharesMakeOne_4 rfl (lv_at hl 0 rfl) ?_
      refine lv_aload_n hx hb dX5_sharesMakeOne_5 rfl (lv_at hl 2 rfl) ?_
      refine zk_get (ci := 5) (v := .ref (Z (2, 0, 0))) (C := RX5) (T := TX5) (N := 6) hx hb hts inw_wsX5_sharesMakeOne_5 hown hK hH hO rfl 2 (by decide) (hts (.fieldLink RX5 22 "KegDeposits" "kinds" "[LKegDeposits$Kind;") (by decide +kernel)) rfl dX5_sharesMakeOne_6 ?_
      refine zk_alen (v := 12) hx hb hK hH 3 hKA rfl rfl dX5_sharesMakeOne_9 ?_
      refine lv_icmp_ge (tgt := 40) hx hb dX5_sharesMakeOne_10 (by decide) (fun h_10 => ?_) (fun h_10 => ?_)
      · skip
        have hiN : i = 12 := by have := (nI_leI (a := 12) (b := i) (by decide) (by omega)).mp h_10; omega
        have hs : acc = zs_sum (zs_sh X.1) (zs_nk X.1) := by rw [hacc, hiN]; exact zs_sum_to hnk (fun j h1 h2 => (hI.2.1 j h1).2.1)
        refine lv_lload_n hx hb dX5_sharesMakeOne_40 rfl (lv_at hl 1 rfl) ?_
        refine lv_ldc2 (v := 10000) hx hb hown (hts (.constantLong RX5 91 (10000)) (by decide +kernel)) dX5_sharesMakeOne_41 ?_
        refine zk_lc_ne (tgt := 52) hx hb dX5_sharesMakeOne_44 dX5_sharesMakeOne_45 (by decide) (fun h_44 => ?_) (fun h_44 => ?_)
        · skip
          refine lv_iconst (v := 0) hx hb dX5_sharesMakeOne_52 (by decide) ?_
          exact zk_zretS hx hb hr hlocks (by first | rfl | decide) (if_neg (fun q => h_44 (hs.trans q))).symm dX5_sharesMakeOne_53
        · skip
          refine lv_iconst (v := 1) hx hb dX5_sharesMakeOne_48 (by decide) ?_
          refine lv_goto (tgt := 53) hx hb dX5_sharesMakeOne_49 (by decide) ?_
          exact zk_zretS hx hb hr hlocks (by first | rfl | decide) (if_pos (hs.symm.trans h_44)).symm dX5_sharesMakeOne_53
      · skip
        have hiN : i < 12 := Nat.lt_of_not_le (fun q => h_10 ((nI_leI (a := 12) (b := i) (by decide) (by omega)).mpr q))
        refine lv_aload_n hx hb dX5_sharesMakeOne_13 rfl (lv_at hl 2 rfl) ?_
        refine zk_get (ci := 5) (v := .ref (Z (2, 0, 0))) (C := RX5) (T := TX5) (N := 6) hx hb hts inw_wsX5_sharesMakeOne_5 hown hK hH hO rfl 2 (by decide) (hts (.fieldLink RX5 22 "KegDeposits" "kinds" "[LKegDeposits$Kind;") (by decide +kernel)) rfl dX5_sharesMakeOne_14 ?_
        refine lv_iload_n hx hb dX5_sharesMakeOne_17 rfl (lv_at hl 0 rfl) ?_
        refine zk_aldQ hx hb hK hH hKA (vp_in_nI hiN (by decide)) dX5_sharesMakeOne_18 ?_
        by_cases hpi : i < zs_nk X.1
        · skip
          refine zk_top (v' := .ref (Z (4, i, 0))) (zk_arr_some (f := (fun k => if k < zs_nk X.1 then some (Z (4, k, 0)) else none)) (by omega) (if_pos hpi)) ?_
          have hKi : M (Z (4, i, 0)) = some (.inr (0, [va_rf (zs_prev (zs_pn X.1 i) (fun j => Z (5, i, j))), .long (zs_sh X.1 i), .long (zs_rs X.1 i)])) := hR.1 (4, i, 0) ⟨hpi, rfl⟩
          refine lv_astore (lv' := [(4, .ref (Z (4, i, 0))), (3, .int (nI i)), (1, .long acc), (0, .ref (Z (0, 0, 0)))]) hx hb dX5_sharesMakeOne_19 hl (by decide) rfl (fun ls hl => ?_)
          refine lv_aload hx hb dX5_sharesMakeOne_21 (lv_at hl 0 rfl) ?_
          refine lv_ifnull hx hb dX5_sharesMakeOne_23 ?_
          refine lv_lload_n hx hb dX5_sharesMakeOne_26 rfl (lv_at hl 2 rfl) ?_
          refine lv_aload hx hb dX5_sharesMakeOne_27 (lv_at hl 0 rfl) ?_
          refine zk_getN (ci := 0) (v := .long (zs_sh X.1 i)) (C := RX0) (T := TX0) (N := 3) hx hb hts inw_wsX5_sharesMakeOne_0 hown hK hH hKi rfl 1 (by decide) (zk_nf_0 hN) rfl dX5_sharesMakeOne_29 ?_
          refine lv_ladd hx hb dX5_sharesMakeOne_32 ?_
          refine lv_lstore_n (lv' := [(1, .long (acc + zs_sh X.1 i)), (4, .ref (Z (4, i, 0))), (3, .int (nI i)), (0, .ref (Z (0, 0, 0)))]) hx hb dX5_sharesMakeOne_33 rfl hl (by decide) rfl (fun ls hl => ?_)
          refine lv_iinc (v := nI (i + 1)) (lv' := [(3, .int (nI (i + 1))), (1, .long (acc + zs_sh X.1 i)), (4, .ref (Z (4, i, 0))), (0, .ref (Z (0, 0, 0)))]) hx hb dX5_sharesMakeOne_34 hl (k := 2) rfl (nI_1 i) (by decide) rfl (fun ls hl => ?_)
          refine lv_goto (tgt := 4) hx hb dX5_sharesMakeOne_37 (by decide) ?_
          exact ih (i + 1) _ ls (by omega) (by omega) (by rw [hacc]; rfl) (lv_sub hl [0, 1, 3] rfl)
        · skip
          refine zk_top (v' := .null) (zk_arr_none (f := (fun k => if k < zs_nk X.1 then some (Z (4, k, 0)) else none)) (by omega) (if_neg hpi)) ?_
          refine lv_astoreN (lv' := [(4, .null), (3, .int (nI i)), (1, .long acc), (0, .ref (Z (0, 0, 0)))]) hx hb dX5_sharesMakeOne_19 hl (by decide) rfl (fun ls hl => ?_)
          refine lv_aloadN hx hb dX5_sharesMakeOne_21 (lv_at hl 0 rfl) ?_
          refine lv_ifnullN (tgt := 34) hx hb dX5_sharesMakeOne_23 (by decide) ?_
          refine lv_iinc (v := nI (i + 1)) (lv' := [(3, .int (nI (i + 1))), (4, .null), (1, .long acc), (0, .ref (Z (0, 0, 0)))]) hx hb dX5_sharesMakeOne_34 hl (k := 1) rfl (nI_1 i) (by decide) rfl (fun ls hl => ?_)
          refine lv_goto (tgt := 4) hx hb dX5_sharesMakeOne_37 (by decide) ?_
          exact ih (i + 1) _ ls (by omega) (by omega) (by rw [hacc]; show _ = zs_sum (zs_sh X.1) i + zs_sh X.1 i; rw [(hI.2.1 i (Nat.not_lt.mp hpi)).2.1, Int64.add_zero]) (lv_sub hl [0, 2, 3] rfl)
  exact loop 13 0 0 ls (by omega) (by omega) rfl (lv_sub hl [0, 1, 2] rfl)

theorem inw_wsX5_hasLot_5 : ∀ w ∈ u_ws RX5 TX5 6, w ∈ wsX5_hasLot := by decide +kernel
set_option maxHeartbeats 4000000 in
set_option maxRecDepth 100000 in
theorem zc_X5_hasLot (l : Launch) {g : zk_G} {z : Nat} {M : zk_M} {X : zs_X} {Z : zs_Z} (hR : zs_R g X Z M) (hI : zs_Il X.1) (hnk : zs_nk X.1 ≤ 12) {p : Nat} (hp : p < zs_np X.1) (num : Int64) : Met l yX5_hasLot wsX5_hasLot ({ frames := 1, cells := 0, slots := 0, locals := 26 } : Room) (va_Pc [.ref (Z (0, 0, 0)), .ref (Z (3, p, 0)), .long num] (zk_U g z M)) (vp_Si (fun r => r = if zs_enough X.1 p num (zs_nk X.1) = true then 1 else 0)) 0 0 (fun _ => False) := by
  refine Met.ofW (cc := cX5_hasLot) (maxL := 6) (ret := (some .boolean)) (by decide) rfl ?_
  intro P0 e0 s m0 args below meth c0 s₁ B hml hv
  obtain ⟨rfl, hH, hK, hN⟩ := hv
  have hx := B.exec
  have hb := B.bytes
  have hr := B.returns
  have hts := atoms_spec (ws := wsX5_hasLot) B.pre
  have hown : s.vm.findClass RX5 = some m0.cls := findClass_of_methodNamed B.named
  have hlocks := B.notSynchronized
  have hl := lv_entry ([.ref (Z (0, 0, 0)), .ref (Z (3, p, 0)), .long num]) (n := 6) (Nat.le_of_ble_eq_true rfl)
  rw [lg_entry_eq]
  generalize (lg_sl ([.ref (Z (0, 0, 0)), .ref (Z (3, p, 0)), .long num]) ++ List.replicate (6 - (lg_sl ([.ref (Z (0, 0, 0)), .ref (Z (3, p, 0)), .long num])).length) Slot.unset).toArray = ls at hl ⊢
  have hl : lv_has ls 6 [(0, .ref (Z (0, 0, 0))), (1, .ref (Z (3, p, 0))), (2, .long num)] := hl
  have hO : M (Z (0, 0, 0)) = some (.inr (5, [.ref (Z (3, 0, 0)), .ref (Z (1, 0, 0)), .ref (Z (2, 0, 0)), va_rf (zs_prev (zs_nc X.1) (fun i => Z (7, i, 0))), .int (nI (zs_nc X.1)), .long (zs_ck X.1)])) := hR.1 (0, 0, 0) ⟨rfl, rfl⟩
  have hKA : M (Z (2, 0, 0)) = some (zk_aQ g 12 (fun k => if k < zs_nk X.1 then some (Z (4, k, 0)) else none)) := hR.1 (2, 0, 0) ⟨rfl, rfl⟩
  refine lv_iconst (v := 0) hx hb dX5_hasLot_0 (by decide) ?_
  refine lv_istore (lv' := [(4, .int 0), (0, .ref (Z (0, 0, 0))), (1, .ref (Z (3, p, 0))), (2, .long num)]) hx hb dX5_hasLot_1 hl (by decide) rfl (fun ls hl => ?_)
  have loop : ∀ (n i : Nat)  (ls : Array Slot), 12 - i < n → i ≤ 12 → zs_enough X.1 p num (min i (zs_nk X.1)) = true →  lv_has ls 6 [(4, .int (nI i)), (0, .ref (Z (0, 0, 0))), (1, .ref (Z (3, p, 0))), (2, .long num)] → W P0 l e0 (headSpec wsX5_hasLot ({ frames := 1, cells := 0, slots := 0, locals := 26 } : Room)).room s m0 ([.ref (Z (0, 0, 0)), .ref (Z (3, p, 0)), .long num] : List Value).toArray below meth c0 s.heap [] 0 0 (MQ below (vp_Si (fun r => r = if zs_enough X.1 p num (zs_nk X.1) = true then 1 else 0)) ([.ref (Z (0, 0, 0)), .ref (Z (3, p, 0)), .long num] : List Value).toArray s 0 0 (fun _ => False)) (F0 m0 3 ls []) := by
    intro n
    induction n with
    | zero => intro i  ls hn; omega
    | succ n ih =>
      intro i  ls hn hi hen hl
      refine lv_iload hx hb dX5_hasLot_3 (lv_at hl 0 rfl) ?_
      refine lv_aload_n hx hb dX5_hasLot_5 rfl (lv_at hl 1 rfl) ?_
      refine zk_get (ci := 5) (v := .ref (Z (2, 0, 0))) (C := RX5) (T := TX5) (N := 6) hx hb hts inw_wsX5_hasLot_5 hown hK hH hO rfl 2 (by decide) (hts (.fieldLink RX5 22 "KegDeposits" "kinds" "[LKegDeposits$Kind;") (by decide +kernel)) rfl dX5_hasLot_6 ?_
      refine zk_alen (v := 12) hx hb hK hH 3 hKA rfl rfl dX5_hasLot_9 ?_
      refine lv_icmp_ge (tgt := 58) hx hb dX5_hasLot_10 (by decide) (fun h_10 => ?_) (fun h_10 => ?_)
      · skip
        have hiN : i = 12 := by have := (nI_leI (a := 12) (b := i) (by decide) (by omega)).mp h_10; omega
        refine lv_iconst (v := 1) hx hb dX5_hasLot_58 (by decide) ?_
        exact zk_zretS hx hb hr hlocks (by first | rfl | decide) (by rw [if_pos (by rw [hiN, Nat.min_eq_right hnk] at hen; exact hen)]) dX5_hasLot_59
      · skip
        have hiN : i < 12 := Nat.lt_of_not_le (fun q => h_10 ((nI_leI (a := 12) (b := i) (by decide) (by omega)).mpr q))
        refine lv_aload_n hx hb dX5_hasLot_13 rfl (lv_at hl 1 rfl) ?_
        refine zk_get (ci := 5) (v := .ref (Z (2, 0, 0))) (C := RX5) (T := TX5) (N := 6) hx hb hts inw_wsX5_hasLot_5 hown hK hH hO rfl 2 (by decide) (hts (.fieldLink RX5 22 "KegDeposits" "kinds" "[LKegDeposits$Kind;") (by decide +kernel)) rfl dX5_hasLot_14 ?_
        refine lv_iload hx hb dX5_hasLot_17 (lv_at hl 0 rfl) ?_
        refine zk_aldQ hx hb hK hH hKA (vp_in_nI hiN (by decide)) dX5_hasLot_19 ?_
        by_cases hpi : i < zs_nk X.1
        · skip
          refine zk_top (v' := .ref (Z (4, i, 0))) (zk_arr_some (f := (fun k => if k < zs_nk X.1 then some (Z (4, k, 0)) else none)) (by omega) (if_pos hpi)) ?_
          refine lv_astore (lv' := [(5, .ref (Z (4, i, 0))), (4, .int (nI i)), (0, .ref (Z (0, 0, 0))), (1, .ref (Z (3, p, 0))), (2, .long num)]) hx hb dX5_hasLot_20 hl (by decide) rfl (fun ls hl => ?_)
          refine lv_aload hx hb dX5_hasLot_22 (lv_at hl 0 rfl) ?_
          refine lv_ifnull hx hb dX5_hasLot_24 ?_
          refine lv_aload_n hx hb dX5_hasLot_27 rfl (lv_at hl 3 rfl) ?_
          refine lv_aload hx hb dX5_hasLot_28 (lv_at hl 0 rfl) ?_
          refine lv_ldc2 (v := 100000) hx hb hown (hts (.constantLong RX5 35 (100000)) (by decide +kernel)) dX5_hasLot_30 ?_
          refine vp_callSl (W.runV (As := [.ref (Z (4, i, 0)), .long 100000]) (rest := []) ⟨hx, hb, hml, hown, hts⟩ (zc_X2_piecesUpTo l hR (fun i hi => (hI.1 i hi).2.1) hp hpi 100000) (cwV 2 hts gX5_hasLot_X2_piecesUpTo rfl rfl rfl (by decide +kernel) ⟨Nat.le_of_ble_eq_true rfl, Nat.le_of_ble_eq_true rfl⟩) (zk_preV hH hK hN (hR.1 (3, p, 0) ⟨hp, rfl⟩) rfl) rfl rfl hl.1 rfl (lv_room (Nat.le_of_ble_eq_true rfl)) dX5_hasLot_33 ⟨(Nat.le_of_ble_eq_true rfl), (Nat.le_of_ble_eq_true rfl)⟩) (fun r_33 hr_33 => ?_)
          refine lv_aload hx hb dX5_hasLot_36 (lv_at hl 0 rfl) ?_
          refine lv_lload_n hx hb dX5_hasLot_38 rfl (lv_at hl 4 rfl) ?_
          refine vp_callSl (W.runV (As := [.long num]) (rest := [.long r_33]) ⟨hx, hb, hml, hown, hts⟩ (zc_X0_partsOfLot l hR hpi num) (cwV 1 hts gX5_hasLot_X0_partsOfLot rfl rfl rfl (by decide +kernel) ⟨Nat.le_of_ble_eq_true rfl, Nat.le_of_ble_eq_true rfl⟩) (zk_preV hH hK hN (hR.1 (4, i, 0) ⟨hpi, rfl⟩) rfl) rfl rfl hl.1 rfl (lv_room (Nat.le_of_ble_eq_true rfl)) dX5_hasLot_39 ⟨(Nat.le_of_ble_eq_true rfl), (Nat.le_of_ble_eq_true rfl)⟩) (fun r_39 hr_39 => ?_)
          refine lv_ldc2 (v := 10000) hx hb hown (hts (.constantLong RX5 91 (10000)) (by decide +kernel)) dX5_hasLot_42 ?_
          refine lv_ldiv hx hb dX5_hasLot_45 (by decide) ?_
          refine zk_lc_ge (tgt := 52) hx hb dX5_hasLot_46 dX5_hasLot_47 (by decide) (fun h_46 => ?_) (fun h_46 => ?_)
          · skip
            refine lv_iinc (v := nI (i + 1)) (lv' := [(4, .int (nI (i + 1))), (5, .ref (Z (4, i, 0))), (0, .ref (Z (0, 0, 0))), (1, .ref (Z (3, p, 0))), (2, .long num)]) hx hb dX5_hasLot_52 hl (k := 1) rfl (nI_1 i) (by decide) rfl (fun ls hl => ?_)
            refine lv_goto (tgt := 3) hx hb dX5_hasLot_55 (by decide) ?_
            exact ih (i + 1) ls (by omega) (by omega) (by rw [hr_33, zs_pup_has hI, hr_39] at h_46; rw [Nat.min_eq_left (by omega)] at hen ⊢; simp [zs_enough, hen, h_46]) (lv_sub hl [0, 2, 3, 4] rfl)
          · skip
            have hno : ¬ (zs_rs X.1 i + num * zs_sh X.1 i) / 10000 ≤ zs_has X.1 p i := by rw [hr_33, zs_pup_has hI, hr_39] at h_46; exact h_46
            refine lv_iconst (v := 0) hx hb dX5_hasLot_50 (by decide) ?_
            exact zk_zretS hx hb hr hlocks (by first | rfl | decide) (by rw [if_neg (by rw [zs_enough_no hno hpi]; decide)]) dX5_hasLot_51
        · skip
          refine zk_top (v' := .null) (zk_arr_none (f := (fun k => if k < zs_nk X.1 then some (Z (4, k, 0)) else none)) (by omega) (if_neg hpi)) ?_
          refine lv_astoreN (lv' := [(5, .null), (4, .int (nI i)), (0, .ref (Z (0, 0, 0))), (1, .ref (Z (3, p, 0))), (2, .long num)]) hx hb dX5_hasLot_20 hl (by decide) rfl (fun ls hl => ?_)
          refine lv_aloadN hx hb dX5_hasLot_22 (lv_at hl 0 rfl) ?_
          refine lv_ifnullN (tgt := 52) hx hb dX5_hasLot_24 (by decide) ?_
          refine lv_iinc (v := nI (i + 1)) (lv' := [(4, .int (nI (i + 1))), (5, .null), (0, .ref (Z (0, 0, 0))), (1, .ref (Z (3, p, 0))), (2, .long num)]) hx hb dX5_hasLot_52 hl (k := 1) rfl (nI_1 i) (by decide) rfl (fun ls hl => ?_)
          refine lv_goto (tgt := 3) hx hb dX5_hasLot_55 (by decide) ?_
          exact ih (i + 1) ls (by omega) (by omega) (by rw [Nat.min_eq_right (by omega)] at hen ⊢; exact hen) (lv_sub hl [0, 2, 3, 4] rfl)
  exact loop 13 0  ls (by omega) (by omega) (by rw [Nat.zero_min]; rfl) (lv_sub hl [0, 1, 2, 3] rfl)

theorem inw_wsX5_worthOf_5 : ∀ w ∈ u_ws RX5 TX5 6, w ∈ wsX5_worthOf := by decide +kernel
set_option maxHeartbeats 4000000 in
set_option maxRecDepth 100000 in
theorem zc_X5_worthOf (l : Launch) {g : zk_G} {z : Nat} {M : zk_M} {X : zs_X} {Z : zs_Z} (hR : zs_R g X Z M) (hI : zs_Il X.1) (hJ : zs_Ik X.1) (hnk : zs_nk X.1 ≤ 12) {p : Nat} (hp : p < zs_np X.1) (d : Int64) : Met l yX5_worthOf wsX5_worthOf ({ frames := 1, cells := 0, slots := 0, locals := 27 } : Room) (va_Pc [.ref (Z (0, 0, 0)), .ref (Z (3, p, 0)), .long d] (zk_U g z M)) (vp_Sl (fun r => r = zs_worth X.1 p d)) 0 0 (fun _ => False) := by
  refine Met.ofW (cc := cX5_worthOf) (maxL := 8) (ret := (some .long)) (by decide) rfl ?_
  intro P0 e0 s m0 args below meth c0 s₁ B hml hv
  obtain ⟨rfl, hH, hK, hN⟩ := hv
  have hx := B.exec
  have hb := B.bytes
  have hr := B.returns
  have hts := atoms_spec (ws := wsX5_worthOf) B.pre
  have hown : s.vm.findClass RX5 = some m0.cls := findClass_of_methodNamed B.named
  have hlocks := B.notSynchronized
  have hl := lv_entry ([.ref (Z (0, 0, 0)), .ref (Z (3, p, 0)), .long d]) (n := 8) (Nat.le_of_ble_eq_true rfl)
  rw [lg_entry_eq]
  generalize (lg_sl ([.ref (Z (0, 0, 0)), .ref (Z (3, p, 0)), .long d]) ++ List.replicate (8 - (lg_sl ([.ref (Z (0, 0, 0)), .ref (Z (3, p, 0)), .long d])).length) Slot.unset).toArray = ls at hl ⊢
  have hl : lv_has ls 8 [(0, .ref (Z (0, 0, 0))), (1, .ref (Z (3, p, 0))), (2, .long d)] := hl
  have hO : M (Z (0, 0, 0)) = some (.inr (5, [.ref (Z (3, 0, 0)), .ref (Z (1, 0, 0)), .ref (Z (2, 0, 0)), va_rf (zs_prev (zs_nc X.1) (fun i => Z (7, i, 0))), .int (nI (zs_nc X.1)), .long (zs_ck X.1)])) := hR.1 (0, 0, 0) ⟨rfl, rfl⟩
  have hKA : M (Z (2, 0, 0)) = some (zk_aQ g 12 (fun k => if k < zs_nk X.1 then some (Z (4, k, 0)) else none)) := hR.1 (2, 0, 0) ⟨rfl, rfl⟩
  refine lv_lconst (v := 0) hx hb dX5_worthOf_0 (by decide) ?_
  refine lv_lstore (lv' := [(4, .long 0), (0, .ref (Z (0, 0, 0))), (1, .ref (Z (3, p, 0))), (2, .long d)]) hx hb dX5_worthOf_1 hl (by decide) rfl (fun ls hl => ?_)
  refine lv_iconst (v := 0) hx hb dX5_worthOf_3 (by decide) ?_
  refine lv_istore (lv' := [(6, .int 0), (4, .long 0), (0, .ref (Z (0, 0, 0))), (1, .ref (Z (3, p, 0))), (2, .long d)]) hx hb dX5_worthOf_4 hl (by decide) rfl (fun ls hl => ?_)
  have loop : ∀ (n i : Nat) (acc : Int64) (ls : Array Slot), 12 - i < n → i ≤ 12 → acc = zs_sum (zs_worthf X.1 p d) (min i (zs_nk X.1)) →  lv_has ls 8 [(6, .int (nI i)), (4, .long acc), (0, .ref (Z (0, 0, 0))), (1, .ref (Z (3, p, 0))), (2, .long d)] → W P0 l e0 (headSpec wsX5_worthOf ({ frames := 1, cells := 0, slots := 0, locals := 27 } : Room)).room s m0 ([.ref (Z (0, 0, 0)), .ref (Z (3, p, 0)), .long d] : List Value).toArray below meth c0 s.heap [] 0 0 (MQ below (vp_Sl (fun r => r = zs_worth X.1 p d)) ([.ref (Z (0, 0, 0)), .ref (Z (3, p, 0)), .long d] : List Value).toArray s 0 0 (fun _ => False)) (F0 m0 6 ls []) := by
    intro n
    induction n with
    | zero => intro i acc ls hn; omega
    | succ n ih =>
      intro i acc ls hn hi hacc hl
      refine lv_iload hx hb dX5_worthOf_6 (lv_at hl 0 rfl) ?_
      refine lv_aload_n hx hb dX5_worthOf_8 rfl (lv_at hl 2 rfl) ?_
      refine zk_get (ci := 5) (v := .ref (Z (2, 0, 0))) (C := RX5) (T := TX5) (N := 6) hx hb hts inw_wsX5_worthOf_5 hown hK hH hO rfl 2 (by decide) (hts (.fieldLink RX5 22 "KegDeposits" "kinds" "[LKegDeposits$Kind;") (by decide +kernel)) rfl dX5_worthOf_9 ?_
      refine zk_alen (v := 12) hx hb hK hH 3 hKA rfl rfl dX5_worthOf_12 ?_
      refine lv_icmp_ge (tgt := 57) hx hb dX5_worthOf_13 (by decide) (fun h_13 => ?_) (fun h_13 => ?_)
      · skip
        have hiN : i = 12 := by have := (nI_leI (a := 12) (b := i) (by decide) (by omega)).mp h_13; omega
        refine lv_lload hx hb dX5_worthOf_57 (lv_at hl 1 rfl) ?_
        exact zk_lretS hx hb hr hlocks (by rw [hacc, hiN, Nat.min_eq_right hnk]; rfl) dX5_worthOf_59
      · skip
        have hiN : i < 12 := Nat.lt_of_not_le (fun q => h_13 ((nI_leI (a := 12) (b := i) (by decide) (by omega)).mpr q))
        refine lv_aload_n hx hb dX5_worthOf_16 rfl (lv_at hl 2 rfl) ?_
        refine zk_get (ci := 5) (v := .ref (Z (2, 0, 0))) (C := RX5) (T := TX5) (N := 6) hx hb hts inw_wsX5_worthOf_5 hown hK hH hO rfl 2 (by decide) (hts (.fieldLink RX5 22 "KegDeposits" "kinds" "[LKegDeposits$Kind;") (by decide +kernel)) rfl dX5_worthOf_17 ?_
        refine lv_iload hx hb dX5_worthOf_20 (lv_at hl 0 rfl) ?_
        refine zk_aldQ hx hb hK hH hKA (vp_in_nI hiN (by decide)) dX5_worthOf_22 ?_
        by_cases hpi : i < zs_nk X.1
        · skip
          refine zk_top (v' := .ref (Z (4, i, 0))) (zk_arr_some (f := (fun k => if k < zs_nk X.1 then some (Z (4, k, 0)) else none)) (by omega) (if_pos hpi)) ?_
          refine lv_astore (lv' := [(7, .ref (Z (4, i, 0))), (6, .int (nI i)), (4, .long acc), (0, .ref (Z (0, 0, 0))), (1, .ref (Z (3, p, 0))), (2, .long d)]) hx hb dX5_worthOf_23 hl (by decide) rfl (fun ls hl => ?_)
          refine lv_aload hx hb dX5_worthOf_25 (lv_at hl 0 rfl) ?_
          refine lv_ifnull hx hb dX5_worthOf_27 ?_
          refine lv_lload hx hb dX5_worthOf_30 (lv_at hl 2 rfl) ?_
          refine lv_aload_n hx hb dX5_worthOf_32 rfl (lv_at hl 4 rfl) ?_
          refine lv_aload hx hb dX5_worthOf_33 (lv_at hl 0 rfl) ?_
          refine lv_ldc2 (v := 100000) hx hb hown (hts (.constantLong RX5 35 (100000)) (by decide +kernel)) dX5_worthOf_35 ?_
          refine vp_callSl (W.runV (As := [.ref (Z (4, i, 0)), .long 100000]) (rest := [.long acc]) ⟨hx, hb, hml, hown, hts⟩ (zc_X2_piecesUpTo l hR (fun i hi => (hI.1 i hi).2.1) hp hpi 100000) (cwV 2 hts gX5_worthOf_X2_piecesUpTo rfl rfl rfl (by decide +kernel) ⟨Nat.le_of_ble_eq_true rfl, Nat.le_of_ble_eq_true rfl⟩) (zk_preV hH hK hN (hR.1 (3, p, 0) ⟨hp, rfl⟩) rfl) rfl rfl hl.1 rfl (lv_room (Nat.le_of_ble_eq_true rfl)) dX5_worthOf_38 ⟨(Nat.le_of_ble_eq_true rfl), (Nat.le_of_ble_eq_true rfl)⟩) (fun r_38 hr_38 => ?_)
          refine lv_aload hx hb dX5_worthOf_41 (lv_at hl 0 rfl) ?_
          refine lv_lload_n hx hb dX5_worthOf_43 rfl (lv_at hl 5 rfl) ?_
          refine vp_callSl (W.runV (As := [.long d]) (rest := [.long r_38, .long acc]) ⟨hx, hb, hml, hown, hts⟩ (zc_X0_priceOn l hR hJ hpi d) (cwV 1 hts gX5_worthOf_X0_priceOn rfl rfl rfl (by decide +kernel) ⟨Nat.le_of_ble_eq_true rfl, Nat.le_of_ble_eq_true rfl⟩) (zk_preV hH hK hN (hR.1 (4, i, 0) ⟨hpi, rfl⟩) rfl) rfl rfl hl.1 rfl (lv_room (Nat.le_of_ble_eq_true rfl)) dX5_worthOf_44 ⟨(Nat.le_of_ble_eq_true rfl), (Nat.le_of_ble_eq_true rfl)⟩) (fun r_44 hr_44 => ?_)
          refine lv_lmul hx hb dX5_worthOf_47 ?_
          refine lv_ladd hx hb dX5_worthOf_48 ?_
          refine lv_lstore (lv' := [(4, .long (acc + (r_38 * r_44))), (7, .ref (Z (4, i, 0))), (6, .int (nI i)), (0, .ref (Z (0, 0, 0))), (1, .ref (Z (3, p, 0))), (2, .long d)]) hx hb dX5_worthOf_49 hl (by decide) rfl (fun ls hl => ?_)
          refine lv_iinc (v := nI (i + 1)) (lv' := [(6, .int (nI (i + 1))), (4, .long (acc + (r_38 * r_44))), (7, .ref (Z (4, i, 0))), (0, .ref (Z (0, 0, 0))), (1, .ref (Z (3, p, 0))), (2, .long d)]) hx hb dX5_worthOf_51 hl (k := 2) rfl (nI_1 i) (by decide) rfl (fun ls hl => ?_)
          refine lv_goto (tgt := 6) hx hb dX5_worthOf_54 (by decide) ?_
          exact ih (i + 1) _ ls (by omega) (by omega) (by rw [hacc, hr_38, hr_44, zs_pup_has hI, Nat.min_eq_left (by omega), Nat.min_eq_left (by omega)]; rfl) (lv_sub hl [0, 1, 3, 4, 5] rfl)
        · skip
          refine zk_top (v' := .null) (zk_arr_none (f := (fun k => if k < zs_nk X.1 then some (Z (4, k, 0)) else none)) (by omega) (if_neg hpi)) ?_
          refine lv_astoreN (lv' := [(7, .null), (6, .int (nI i)), (4, .long acc), (0, .ref (Z (0, 0, 0))), (1, .ref (Z (3, p, 0))), (2, .long d)]) hx hb dX5_worthOf_23 hl (by decide) rfl (fun ls hl => ?_)
          refine lv_aloadN hx hb dX5_worthOf_25 (lv_at hl 0 rfl) ?_
          refine lv_ifnullN (tgt := 51) hx hb dX5_worthOf_27 (by decide) ?_
          refine lv_iinc (v := nI (i + 1)) (lv' := [(6, .int (nI (i + 1))), (7, .null), (4, .long acc), (0, .ref (Z (0, 0, 0))), (1, .ref (Z (3, p, 0))), (2, .long d)]) hx hb dX5_worthOf_51 hl (k := 1) rfl (nI_1 i) (by decide) rfl (fun ls hl => ?_)
          refine lv_goto (tgt := 6) hx hb dX5_worthOf_54 (by decide) ?_
          exact ih (i + 1) _ ls (by omega) (by omega) (by rw [hacc, Nat.min_eq_right (by omega), Nat.min_eq_right (by omega)]) (lv_sub hl [0, 2, 3, 4, 5] rfl)
  exact loop 13 0 0 ls (by omega) (by omega) (by rw [Nat.zero_min]; rfl) (lv_sub hl [0, 1, 2, 3, 4] rfl)

theorem inw_wsX5_giveBackLot_0 : ∀ w ∈ u_ws RX0 TX0 3, w ∈ wsX5_giveBackLot := by decide +kernel
theorem inw_wsX5_giveBackLot_5 : ∀ w ∈ u_ws RX5 TX5 6, w ∈ wsX5_giveBackLot := by decide +kernel
set_option maxHeartbeats 4000000 in
set_option maxRecDepth 100000 in
theorem zc_X5_giveBackLot (l : Launch) {g : zk_G} {z : Nat} {M : zk_M} {X : zs_X} {Z : zs_Z} (hR : zs_R g X Z M) (hI : zs_Il X.1) (hnk : zs_nk X.1 ≤ 12) {p : Nat} (hp : p < zs_np X.1) (num : Int64) : Met l yX5_giveBackLot wsX5_giveBackLot ({ frames := 2, cells := 0, slots := 0, locals := 50 } : Room) (va_Pc [.ref (Z (0, 0, 0)), .ref (Z (3, p, 0)), .long num] (zk_U g z M)) (va_Ql (fun r u => r = (zs_lot X.1 p num (zs_nk X.1)).2.2 ∧ zs_R g (zs_rs_ (zs_ll_ X.1 (zs_lot X.1 p num (zs_nk X.1)).1) (zs_lot X.1 p num (zs_nk X.1)).2.1, X.2) Z u) (zk_B g z) (fun q => z ≤ q)) 0 0 (fun q => z ≤ q) := by
  refine Met.ofW (cc := cX5_giveBackLot) (maxL := 10) (ret := (some .long)) (by decide) rfl ?_
  intro P0 e0 s m0 args below meth c0 s₁ B hml hv
  obtain ⟨rfl, hH, hK, hN⟩ := hv
  have hx := B.exec
  have hb := B.bytes
  have hr := B.returns
  have hts := atoms_spec (ws := wsX5_giveBackLot) B.pre
  have hown : s.vm.findClass RX5 = some m0.cls := findClass_of_methodNamed B.named
  have hlocks := B.notSynchronized
  have hS : va_S (fun q => z ≤ q) s.heap s.heap [] := va_S.rf
  have hl := lv_entry ([.ref (Z (0, 0, 0)), .ref (Z (3, p, 0)), .long num]) (n := 10) (Nat.le_of_ble_eq_true rfl)
  rw [lg_entry_eq]
  generalize (lg_sl ([.ref (Z (0, 0, 0)), .ref (Z (3, p, 0)), .long num]) ++ List.replicate (10 - (lg_sl ([.ref (Z (0, 0, 0)), .ref (Z (3, p, 0)), .long num])).length) Slot.unset).toArray = ls at hl ⊢
  have hl : lv_has ls 10 [(0, .ref (Z (0, 0, 0))), (1, .ref (Z (3, p, 0))), (2, .long num)] := hl
  have hO : M (Z (0, 0, 0)) = some (.inr (5, [.ref (Z (3, 0, 0)), .ref (Z (1, 0, 0)), .ref (Z (2, 0, 0)), va_rf (zs_prev (zs_nc X.1) (fun i => Z (7, i, 0))), .int (nI (zs_nc X.1)), .long (zs_ck X.1)])) := hR.1 (0, 0, 0) ⟨rfl, rfl⟩
  have hKA : M (Z (2, 0, 0)) = some (zk_aQ g 12 (fun k => if k < zs_nk X.1 then some (Z (4, k, 0)) else none)) := hR.1 (2, 0, 0) ⟨rfl, rfl⟩
  refine lv_lconst (v := 0) hx hb dX5_giveBackLot_0 (by decide) ?_
  refine lv_lstore (lv' := [(4, .long 0), (0, .ref (Z (0, 0, 0))), (1, .ref (Z (3, p, 0))), (2, .long num)]) hx hb dX5_giveBackLot_1 hl (by decide) rfl (fun ls hl => ?_)
  refine lv_iconst (v := 0) hx hb dX5_giveBackLot_3 (by decide) ?_
  refine lv_istore (lv' := [(6, .int 0), (4, .long 0), (0, .ref (Z (0, 0, 0))), (1, .ref (Z (3, p, 0))), (2, .long num)]) hx hb dX5_giveBackLot_4 hl (by decide) rfl (fun ls hl => ?_)
  have loop : ∀ (n i : Nat) (f : Nat → Int64) (h : Nat → Int64) (wo : Int64) (Mx : zk_M) (H : Heap) (locs : List Loc) (ls : Array Slot), 12 - i < n → i ≤ 12 → (f, h, wo) = zs_lot X.1 p num (min i (zs_nk X.1)) → zs_R g (zs_rs_ (zs_ll_ X.1 f) h, X.2) Z Mx → zk_H g z Mx H → va_S (fun q => z ≤ q) s.heap H locs →  lv_has ls 10 [(6, .int (nI i)), (4, .long wo), (0, .ref (Z (0, 0, 0))), (1, .ref (Z (3, p, 0))), (2, .long num)] → W P0 l e0 (headSpec wsX5_giveBackLot ({ frames := 2, cells := 0, slots := 0, locals := 50 } : Room)).room s m0 ([.ref (Z (0, 0, 0)), .ref (Z (3, p, 0)), .long num] : List Value).toArray below meth c0 H locs 0 0 (MQ below (va_Ql (fun r u => r = (zs_lot X.1 p num (zs_nk X.1)).2.2 ∧ zs_R g (zs_rs_ (zs_ll_ X.1 (zs_lot X.1 p num (zs_nk X.1)).1) (zs_lot X.1 p num (zs_nk X.1)).2.1, X.2) Z u) (zk_B g z) (fun q => z ≤ q)) ([.ref (Z (0, 0, 0)), .ref (Z (3, p, 0)), .long num] : List Value).toArray s 0 0 (fun q => z ≤ q)) (F0 m0 6 ls []) := by
    intro n
    induction n with
    | zero => intro i f h wo Mx H locs ls hn; omega
    | succ n ih =>
      intro i f h wo Mx H locs ls hn hi he hRx hH hS hl
      have hO : Mx (Z (0, 0, 0)) = some (.inr (5, [.ref (Z (3, 0, 0)), .ref (Z (1, 0, 0)), .ref (Z (2, 0, 0)), va_rf (zs_prev (zs_nc X.1) (fun i => Z (7, i, 0))), .int (nI (zs_nc X.1)), .long (zs_ck X.1)])) := hRx.1 (0, 0, 0) ⟨rfl, rfl⟩
      have hKA : Mx (Z (2, 0, 0)) = some (zk_aQ g 12 (fun k => if k < zs_nk X.1 then some (Z (4, k, 0)) else none)) := hRx.1 (2, 0, 0) ⟨rfl, rfl⟩
      refine lv_iload hx hb dX5_giveBackLot_6 (lv_at hl 0 rfl) ?_
      refine lv_aload_n hx hb dX5_giveBackLot_8 rfl (lv_at hl 2 rfl) ?_
      refine zk_get (ci := 5) (v := .ref (Z (2, 0, 0))) (C := RX5) (T := TX5) (N := 6) hx hb hts inw_wsX5_giveBackLot_5 hown hK hH hO rfl 2 (by decide) (hts (.fieldLink RX5 22 "KegDeposits" "kinds" "[LKegDeposits$Kind;") (by decide +kernel)) rfl dX5_giveBackLot_9 ?_
      refine zk_alen (v := 12) hx hb hK hH 3 hKA rfl rfl dX5_giveBackLot_12 ?_
      refine lv_icmp_ge (tgt := 72) hx hb dX5_giveBackLot_13 (by decide) (fun h_13 => ?_) (fun h_13 => ?_)
      · skip
        have hiN : i = 12 := by have := (nI_leI (a := 12) (b := i) (by decide) (by omega)).mp h_13; omega
        refine lv_lload hx hb dX5_giveBackLot_72 (lv_at hl 1 rfl) ?_
        exact zk_lret hx hb hr hlocks hH hS (by decide) (by decide) (by rw [hiN, Nat.min_eq_right hnk] at he; rw [← he]; exact ⟨rfl, hRx⟩) dX5_giveBackLot_74
      · skip
        have hiN : i < 12 := Nat.lt_of_not_le (fun q => h_13 ((nI_leI (a := 12) (b := i) (by decide) (by omega)).mpr q))
        refine lv_aload_n hx hb dX5_giveBackLot_16 rfl (lv_at hl 2 rfl) ?_
        refine zk_get (ci := 5) (v := .ref (Z (2, 0, 0))) (C := RX5) (T := TX5) (N := 6) hx hb hts inw_wsX5_giveBackLot_5 hown hK hH hO rfl 2 (by decide) (hts (.fieldLink RX5 22 "KegDeposits" "kinds" "[LKegDeposits$Kind;") (by decide +kernel)) rfl dX5_giveBackLot_17 ?_
        refine lv_iload hx hb dX5_giveBackLot_20 (lv_at hl 0 rfl) ?_
        refine zk_aldQ hx hb hK hH hKA (vp_in_nI hiN (by decide)) dX5_giveBackLot_22 ?_
        by_cases hpi : i < zs_nk X.1
        · skip
          refine zk_top (v' := .ref (Z (4, i, 0))) (zk_arr_some (f := (fun k => if k < zs_nk X.1 then some (Z (4, k, 0)) else none)) (by omega) (if_pos hpi)) ?_
          refine lv_astore (lv' := [(7, .ref (Z (4, i, 0))), (6, .int (nI i)), (4, .long wo), (0, .ref (Z (0, 0, 0))), (1, .ref (Z (3, p, 0))), (2, .long num)]) hx hb dX5_giveBackLot_23 hl (by decide) rfl (fun ls hl => ?_)
          refine lv_aload hx hb dX5_giveBackLot_25 (lv_at hl 0 rfl) ?_
          refine lv_ifnull hx hb dX5_giveBackLot_27 ?_
          refine lv_aload hx hb dX5_giveBackLot_30 (lv_at hl 0 rfl) ?_
          refine lv_lload_n hx hb dX5_giveBackLot_32 rfl (lv_at hl 5 rfl) ?_
          refine vp_callSl (W.runV (As := [.long num]) (rest := []) ⟨hx, hb, hml, hown, hts⟩ (zc_X0_partsOfLot l hRx hpi num) (cwV 1 hts gX5_giveBackLot_X0_partsOfLot rfl rfl rfl (by decide +kernel) ⟨Nat.le_of_ble_eq_true rfl, Nat.le_of_ble_eq_true rfl⟩) (zk_preV hH hK hN (hRx.1 (4, i, 0) ⟨hpi, rfl⟩) rfl) rfl rfl hl.1 rfl (lv_room (Nat.le_of_ble_eq_true rfl)) dX5_giveBackLot_33 ⟨(Nat.le_of_ble_eq_true rfl), (Nat.le_of_ble_eq_true rfl)⟩) (fun r_33 hr_33 => ?_)
          have hr_33 : r_33 = h i + num * zs_sh X.1 i := hr_33
          subst hr_33
          refine lv_lstore (lv' := [(8, .long (h i + num * zs_sh X.1 i)), (7, .ref (Z (4, i, 0))), (6, .int (nI i)), (4, .long wo), (0, .ref (Z (0, 0, 0))), (1, .ref (Z (3, p, 0))), (2, .long num)]) hx hb dX5_giveBackLot_36 hl (by decide) rfl (fun ls hl => ?_)
          refine lv_lload hx hb dX5_giveBackLot_38 (lv_at hl 3 rfl) ?_
          refine lv_aload_n hx hb dX5_giveBackLot_40 rfl (lv_at hl 5 rfl) ?_
          refine lv_aload hx hb dX5_giveBackLot_41 (lv_at hl 1 rfl) ?_
          refine lv_lload hx hb dX5_giveBackLot_43 (lv_at hl 0 rfl) ?_
          refine lv_ldc2 (v := 10000) hx hb hown (hts (.constantLong RX5 91 (10000)) (by decide +kernel)) dX5_giveBackLot_45 ?_
          refine lv_ldiv hx hb dX5_giveBackLot_48 (by decide) ?_
          refine zk_calll (va_runV (As := [.ref (Z (4, i, 0)), .long ((h i + num * zs_sh X.1 i) / 10000)]) (rest := [.long wo]) ⟨hx, hb, hml, hown, hts⟩ (zc_X2_giveBack l (X := (zs_rs_ (zs_ll_ X.1 f) h, X.2)) hRx (fun j hj => (hI.1 j hj).2.1) hp hpi ((h i + num * zs_sh X.1 i) / 10000)) (cwV 2 hts gX5_giveBackLot_X2_giveBack rfl rfl rfl (by decide +kernel) ⟨Nat.le_of_ble_eq_true rfl, Nat.le_of_ble_eq_true rfl⟩) (zk_preV hH hK hN (hRx.1 (3, p, 0) ⟨hp, rfl⟩) rfl) rfl rfl hl.1 rfl (lv_room (Nat.le_of_ble_eq_true rfl)) dX5_giveBackLot_49 ⟨(Nat.le_of_ble_eq_true rfl), (Nat.le_of_ble_eq_true rfl)⟩) hS (fun r_49 u_49 H locs hH hr_49 hS => ?_)
          obtain ⟨hr_49, hRy⟩ := hr_49
          have hKi : u_49 (Z (4, i, 0)) = some (.inr (0, [va_rf (zs_prev (zs_pn X.1 i) (fun j => Z (5, i, j))), .long (zs_sh X.1 i), .long (h i)])) := hRy.1 (4, i, 0) ⟨hpi, rfl⟩
          refine lv_ladd hx hb dX5_giveBackLot_52 ?_
          refine lv_lstore (lv' := [(4, .long (wo + r_49)), (8, .long (h i + num * zs_sh X.1 i)), (7, .ref (Z (4, i, 0))), (6, .int (nI i)), (0, .ref (Z (0, 0, 0))), (1, .ref (Z (3, p, 0))), (2, .long num)]) hx hb dX5_giveBackLot_53 hl (by decide) rfl (fun ls hl => ?_)
          refine lv_aload hx hb dX5_giveBackLot_55 (lv_at hl 2 rfl) ?_
          refine lv_lload hx hb dX5_giveBackLot_57 (lv_at hl 1 rfl) ?_
          refine lv_ldc2 (v := 10000) hx hb hown (hts (.constantLong RX5 91 (10000)) (by decide +kernel)) dX5_giveBackLot_59 ?_
          refine lv_lrem hx hb dX5_giveBackLot_62 (by decide) ?_
          refine zk_putN (ci := 0) (v := .long ((h i + num * zs_sh X.1 i) - (h i + num * zs_sh X.1 i) / 10000 * 10000)) (C := RX0) (T := TX0) (N := 3) hx hb hts inw_wsX5_giveBackLot_0 tyX0 tyX0_ok nmX0 hown hK hH hS hKi rfl 2 (by decide) (zk_nf_1 hN) rfl rfl rfl (Nat.le_of_ble_eq_true rfl) dX5_giveBackLot_63 (fun H locs hH hS => ?_)
          obtain ⟨M_63, eM_63⟩ : ∃ w_0 : zk_M, w_0 = zk_up u_49 (Z (4, i, 0)) (.inr (0, [va_rf (zs_prev (zs_pn X.1 i) (fun j => Z (5, i, j))), .long (zs_sh X.1 i), .long ((h i + num * zs_sh X.1 i) - (h i + num * zs_sh X.1 i) / 10000 * 10000)])) := ⟨_, rfl⟩
          have hH : zk_H g z M_63 H := by rw [eM_63]; exact hH
          have e_63 : M_63 (Z (4, i, 0)) = some (.inr (0, [va_rf (zs_prev (zs_pn X.1 i) (fun j => Z (5, i, j))), .long (zs_sh X.1 i), .long ((h i + num * zs_sh X.1 i) - (h i + num * zs_sh X.1 i) / 10000 * 10000)])) := by rw [eM_63]; exact zk_up_s _ _ _
          refine lv_iinc (v := nI (i + 1)) (lv' := [(6, .int (nI (i + 1))), (4, .long (wo + r_49)), (8, .long (h i + num * zs_sh X.1 i)), (7, .ref (Z (4, i, 0))), (0, .ref (Z (0, 0, 0))), (1, .ref (Z (3, p, 0))), (2, .long num)]) hx hb dX5_giveBackLot_66 hl (k := 3) rfl (nI_1 i) (by decide) rfl (fun ls hl => ?_)
          refine lv_goto (tgt := 6) hx hb dX5_giveBackLot_69 (by decide) ?_
          exact ih (i + 1) (zs_take (zs_rs_ (zs_ll_ X.1 f) h) p i ((h i + num * zs_sh X.1 i) / 10000) (zs_nl X.1)).1 (vp_updL h i (h i + num * zs_sh X.1 i - (h i + num * zs_sh X.1 i) / 10000 * 10000)) _ _ _ _ ls (by omega) (by omega) (by rw [Nat.min_eq_left (by omega)] at he ⊢; rw [hr_49]; exact zs_lot_step he) (by rw [eM_63]; exact zs_R_rs hRy hpi _) hH hS (lv_sub hl [0, 1, 4, 5, 6] rfl)
        · skip
          refine zk_top (v' := .null) (zk_arr_none (f := (fun k => if k < zs_nk X.1 then some (Z (4, k, 0)) else none)) (by omega) (if_neg hpi)) ?_
          refine lv_astoreN (lv' := [(7, .null), (6, .int (nI i)), (4, .long wo), (0, .ref (Z (0, 0, 0))), (1, .ref (Z (3, p, 0))), (2, .long num)]) hx hb dX5_giveBackLot_23 hl (by decide) rfl (fun ls hl => ?_)
          refine lv_aloadN hx hb dX5_giveBackLot_25 (lv_at hl 0 rfl) ?_
          refine lv_ifnullN (tgt := 66) hx hb dX5_giveBackLot_27 (by decide) ?_
          refine lv_iinc (v := nI (i + 1)) (lv' := [(6, .int (nI (i + 1))), (7, .null), (4, .long wo), (0, .ref (Z (0, 0, 0))), (1, .ref (Z (3, p, 0))), (2, .long num)]) hx hb dX5_giveBackLot_66 hl (k := 1) rfl (nI_1 i) (by decide) rfl (fun ls hl => ?_)
          refine lv_goto (tgt := 6) hx hb dX5_giveBackLot_69 (by decide) ?_
          exact ih (i + 1) _ _ _ _ _ _ ls (by omega) (by omega) (by rw [Nat.min_eq_right (by omega)] at he ⊢; exact he) hRx hH hS (lv_sub hl [0, 2, 3, 4, 5] rfl)
  exact loop 13 0 _ _ _ _ _ _ ls (by omega) (by omega) (by rw [Nat.zero_min]; rfl) hR hH hS (lv_sub hl [0, 1, 2, 3, 4] rfl)
end
section
theorem zs_b0 {P : Prop} [Decidable P] {r : Int32} (h : r = if P then 1 else 0) (e : r = 0) : ¬ P := fun q => by rw [h, if_pos q] at e; exact absurd e (by decide)
theorem zs_b1 {P : Prop} [Decidable P] {r : Int32} (h : r = if P then 1 else 0) (e : ¬ r = 0) : P := Decidable.byContradiction (fun q => e (by rw [h, if_neg q]))
theorem zs_R_fresh {g : zk_G} {X : zs_X} {Z : zs_Z} {M M' : zk_M} {a : Nat} (hR : zs_R g X Z M) (ha : M a = none) (h : ∀ b, b ≠ a → M' b = M b) : zs_R g X Z M' :=
  ⟨fun q hq => (h _ (zk_ne_none (hR.1 q hq) ha)).trans (hR.1 q hq), hR.2⟩
theorem zs_no {g : zk_G} {X : zs_X} {Z : zs_Z} {M : zk_M} {f : Int32 × zs_S} {v : Int32} (hR : zs_R g X Z M) (e : f = (v, X.1)) : v = f.1 ∧ zs_P g X Z (f.2, X.2) M := by
  rw [e]; exact ⟨rfl, Z, hR, fun _ _ => rfl⟩
theorem zs_yes {g : zk_G} {X : zs_X} {Z : zs_Z} {M : zk_M} {f : Int32 × zs_S} {v : Int32} {S : zs_S} (e : f = (v, S)) (h : zs_P g X Z (S, X.2) M) : v = f.1 ∧ zs_P g X Z (f.2, X.2) M := by
  rw [e]; exact ⟨rfl, h⟩
theorem zs_P_trans {g : zk_G} {X X1 X2 : zs_X} {Z Z1 : zs_Z} {u : zk_M} (h : zs_P g X1 Z1 X2 u) (hz : ∀ q, zs_ok X q → Z1 q = Z q) (hk : ∀ q, zs_ok X q → zs_ok X1 q) : zs_P g X Z X2 u := by
  obtain ⟨Z2, h1, h2⟩ := h
  exact ⟨Z2, h1, fun q hq => (h2 q (hk q hq)).trans (hz q hq)⟩
-- what each call answers and does, for either side
def zs_fparty (S : zs_S) : Int32 × zs_S := if zs_np S < 24 then (nI (zs_np S), zs_np_ S (zs_np S + 1)) else (-2, S)
def zs_fkind (S : zs_S) : Int32 × zs_S := if zs_nk S < 12 then (nI (zs_nk S), zs_nk_ S (zs_nk S + 1)) else (-2, S)
def zs_fprice (S : zs_S) (x : Int32) (d c : Int64) : Int32 × zs_S := match zs_ix (zs_nk S) x with
  | some k => if zs_isD d ∧ 0 ≤ c ∧ c ≤ 100000 then zs_tell S k d c else (0, S)
  | none => (0, S)
def zs_fout (S : zs_S) (x y : Int32) (n d : Int64) : Int32 × zs_S := match zs_cx (zs_np S) x with
  | none => (0, S)
  | some p => match zs_ix (zs_nk S) y with
    | none => (0, S)
    | some k => if zs_isN n ∧ (zs_isD d ∧ zs_ck S ≤ d) ∧ zs_cnt (zs_ll S) (zs_nl S) < 400 then (1, zs_mv (zs_lay S p k n d (zs_pr S k d)) p 0 (n * zs_pr S k d) d) else (0, S)
def zs_fback (S : zs_S) (x y : Int32) (n d : Int64) : Int32 × zs_S := match zs_cx (zs_np S) x with
  | none => (0, S)
  | some p => match zs_ix (zs_nk S) y with
    | none => (0, S)
    | some k => if zs_isN n ∧ (zs_isD d ∧ zs_ck S ≤ d) ∧ n ≤ zs_has S p k then (1, zs_mv (zs_ll_ S (zs_take S p k n (zs_nl S)).1) 0 p (zs_take S p k n (zs_nl S)).2.2 d) else (0, S)
def zs_fsampled (S : zs_S) (x : Int32) (n d : Int64) : Int32 × zs_S := match zs_cx (zs_np S) x with
  | none => (0, S)
  | some p => if zs_isN n ∧ (zs_isD d ∧ zs_ck S ≤ d) ∧ zs_sum (zs_sh S) (zs_nk S) = 10000 ∧ zs_enough S p n (zs_nk S) = true then (1, zs_mv (zs_rs_ (zs_ll_ S (zs_lot S p n (zs_nk S)).1) (zs_lot S p n (zs_nk S)).2.1) 0 p (zs_lot S p n (zs_nk S)).2.2 d) else (0, S)
def zs_fshare (S : zs_S) (x : Int32) (a b : Int64) : Int32 × zs_S := match zs_ix (zs_nk S) x with
  | none => (0, S)
  | some k => if (1 ≤ b ∧ b ≤ 10000) ∧ 0 ≤ a ∧ a ≤ b ∧ a * 10000 - a * 10000 / b * b = 0 then (1, zs_sh_ S (vp_updL (zs_sh S) k (a * 10000 / b))) else (0, S)
def zs_fbalance (S : zs_S) (x : Int32) (d : Int64) : Int64 := match zs_ix (zs_np S) x with
  | none => 0
  | some p => zs_bal S p d
def zs_fcount (S : zs_S) (x y : Int32) : Int64 := match zs_ix (zs_np S) x with
  | none => -1
  | some p => match zs_ix (zs_nk S) y with
    | none => -1
    | some k => zs_has S p k
def zs_lostf (S : zs_S) (k : Nat) (d : Int64) (i : Nat) : Int64 := if zs_lk S i = k ∧ zs_ld S i ≤ d then zs_ll S i else 0
def zs_flost (S : zs_S) (y m : Int32) : Int64 := match zs_ix (zs_nk S) y with
  | none => -1
  | some k => if m < 0 then -1 else zs_sum (zs_lostf S k (zs_ck S - Int32.toInt64 m * 30)) (zs_nl S)
/-- w: who pays when the worths are the same (nobody pays anything then) -/
def zs_fsettle (w : Int64 → Bool) (S : zs_S) (x y m : Int32) : Int32 × zs_S := match zs_cx (zs_np S) x with
  | none => (-2, S)
  | some p => match zs_cx (zs_np S) y with
    | none => (-2, S)
    | some q => if ¬ p = q ∧ zs_isD (Int32.toInt64 m * 30) ∧ zs_ck S ≤ Int32.toInt64 m * 30 then
        ((if (if 0 < zs_worth S p (Int32.toInt64 m * 30) - zs_worth S q (Int32.toInt64 m * 30) then zs_worth S p (Int32.toInt64 m * 30) - zs_worth S q (Int32.toInt64 m * 30) else -(zs_worth S p (Int32.toInt64 m * 30) - zs_worth S q (Int32.toInt64 m * 30))) / 2 = 0 then 0 else if 0 < zs_worth S p (Int32.toInt64 m * 30) - zs_worth S q (Int32.toInt64 m * 30) then 1 else -1),
          zs_mv S (if w (zs_worth S p (Int32.toInt64 m * 30) - zs_worth S q (Int32.toInt64 m * 30)) = true then p else q) (if w (zs_worth S p (Int32.toInt64 m * 30) - zs_worth S q (Int32.toInt64 m * 30)) = true then q else p) ((if 0 < zs_worth S p (Int32.toInt64 m * 30) - zs_worth S q (Int32.toInt64 m * 30) then zs_worth S p (Int32.toInt64 m * 30) - zs_worth S q (Int32.toInt64 m * 30) else -(zs_worth S p (Int32.toInt64 m * 30) - zs_worth S q (Int32.toInt64 m * 30))) / 2) (Int32.toInt64 m * 30))
      else (-2, S)
def zs_rn (S : zs_S) (k : Nat) : Nat := (zs_rs S k).toInt.toNat
def zs_frest (S : zs_S) (y part : Int32) : Int64 := match zs_ix (zs_nk S) y with
  | none => -1
  | some k => if part < 0 ∨ 1 < part then -1 else if part = 0 then lN (zs_rn S k / Nat.gcd 10000 (zs_rn S k)) else lN (10000 / Nat.gcd 10000 (zs_rn S k))
-- the bounds are kept
theorem zs_0le {x : Int64} : 0 ≤ x ↔ 0 ≤ x.toInt := by rw [Int64.le_iff_toInt_le]; rfl
theorem zs_sub_in {x y : Int64} (h0 : 0 ≤ y) (h : y ≤ x) : 0 ≤ x - y ∧ x - y ≤ x := by
  rw [Int64.le_iff_toInt_le] at h
  rw [zs_0le] at h0
  have e := Int64.toInt_sub x y
  have b1 := Int64.toInt_lt x
  have b2 := Int64.le_toInt x
  have : (x - y).toInt = x.toInt - y.toInt := by
    rw [e]
    exact Int.bmod_eq_of_le (by omega) (by omega)
  constructor
  · rw [zs_0le, this]; omega
  · rw [Int64.le_iff_toInt_le, this]; omega
/-- what is left in the layers is at most what was -/
def zs_dom (S : zs_S) (f : Nat → Int64) : Prop := ∀ j, j < zs_nl S → 0 ≤ f j ∧ f j ≤ zs_ll S j
theorem zs_take_dom {S : zs_S} {p k : Nat} {n : Int64} (h : ∀ j, j < zs_nl S → 0 ≤ zs_ll S j) (hn : 0 ≤ n) : ∀ (i : Nat), i ≤ zs_nl S → zs_dom S (zs_take S p k n i).1 ∧ 0 ≤ (zs_take S p k n i).2.1 := by
  intro i
  induction i with
  | zero => intro _; exact ⟨fun j hj => ⟨h j hj, Int64.le_refl _⟩, hn⟩
  | succ i ih =>
    intro hi
    obtain ⟨h1, h2⟩ := ih (by omega)
    by_cases hc : zs_lp S i = p ∧ zs_lk S i = k
    · rw [zs_take_pos (f := (zs_take S p k n i).1) (lf := (zs_take S p k n i).2.1) (wo := (zs_take S p k n i).2.2) rfl hc]
      generalize (zs_take S p k n i).1 = f at h1 ⊢
      generalize (zs_take S p k n i).2.1 = lf at h2 ⊢
      obtain ⟨g1, g2⟩ := h1 i (by omega)
      have ha : 0 ≤ (if f i < lf then f i else lf) ∧ (if f i < lf then f i else lf) ≤ f i ∧ (if f i < lf then f i else lf) ≤ lf := by
        by_cases q : f i < lf
        · rw [if_pos q]; exact ⟨g1, Int64.le_refl _, Int64.le_of_lt q⟩
        · rw [if_neg q]; exact ⟨h2, Int64.not_lt.mp q, Int64.le_refl _⟩
      generalize (if f i < lf then f i else lf) = a at ha ⊢
      refine ⟨fun j hj => ?_, (zs_sub_in ha.1 ha.2.2).1⟩
      show 0 ≤ vp_updL f i (f i - a) j ∧ vp_updL f i (f i - a) j ≤ _
      by_cases q : j = i
      · subst q
        have e : vp_updL f j (f j - a) j = f j - a := by simp [vp_updL]
        rw [e]
        obtain ⟨s1, s2⟩ := zs_sub_in ha.1 ha.2.1
        exact ⟨s1, Int64.le_trans s2 g2⟩
      · have e : vp_updL f i (f i - a) j = f j := by simp [vp_updL, q]
        rw [e]
        exact h1 j hj
    · rw [zs_take_neg hc]
      exact ⟨h1, h2⟩
theorem zs_cnt_le {f h : Nat → Int64} : ∀ {n : Nat}, (∀ j, j < n → f j ≤ h j) → zs_cnt f n ≤ zs_cnt h n := by
  intro n hh
  rw [zs_cnt_nsum, zs_cnt_nsum]
  refine zs_nsum_le (fun j hj => ?_)
  by_cases q : 0 < f j
  · rw [if_pos q, if_pos (Int64.lt_of_lt_of_le q (hh j hj))]; exact Nat.le_refl _
  · rw [if_neg q]; exact Nat.zero_le _
theorem zs_Il_ll {S : zs_S} (h : zs_Il S) {f : Nat → Int64} (hf : zs_dom S f) : zs_Il (zs_ll_ S f) :=
  ⟨fun i hi => by
    obtain ⟨a1, a2, a3, a4, a5, a6⟩ := h.1 i hi
    obtain ⟨b1, b2⟩ := hf i hi
    exact ⟨a1, a2, a3, a4, b1, Int64.le_trans b2 a6⟩, Nat.le_trans (zs_cnt_le (fun j hj => (hf j hj).2)) h.2⟩
theorem zs_I_ll {S : zs_S} {n : Nat} (h : zs_I S n) {f : Nat → Int64} (hf : zs_dom S f) : zs_I (zs_ll_ S f) n := ⟨h.1, h.2.1, zs_Il_ll h.2.2.1 hf, h.2.2.2⟩
theorem zs_I_mono {S : zs_S} {n : Nat} (h : zs_I S n) : zs_I S (n + 1) := ⟨⟨h.1.1, h.1.2.1, h.1.2.2.1, Nat.le_succ_of_le h.1.2.2.2.1, Nat.le_succ_of_le h.1.2.2.2.2.1, h.1.2.2.2.2.2⟩, h.2⟩
theorem zs_I_np {S : zs_S} {n : Nat} (h : zs_I S n) (hp : zs_np S < 24) : zs_I (zs_np_ S (zs_np S + 1)) n :=
  ⟨⟨Nat.succ_le_succ (Nat.zero_le _), hp, h.1.2.2⟩, h.2.1, ⟨fun i hi => by
    obtain ⟨a1, a2⟩ := h.2.2.1.1 i hi
    exact ⟨Nat.lt_succ_of_lt a1, a2⟩, h.2.2.1.2⟩, fun i hi => by
    obtain ⟨a1, a2, a3⟩ := h.2.2.2 i hi
    exact ⟨Nat.lt_succ_of_lt a1, Nat.lt_succ_of_lt a2, a3⟩⟩
theorem zs_I_nk {S : zs_S} {n : Nat} (h : zs_I S n) (hp : zs_nk S < 12) : zs_I (zs_nk_ S (zs_nk S + 1)) n :=
  ⟨⟨h.1.1, h.1.2.1, hp, h.1.2.2.2⟩, ⟨h.2.1.1, fun k hk => h.2.1.2.1 k (Nat.le_of_succ_le hk), h.2.1.2.2⟩, ⟨fun i hi => by
    obtain ⟨a1, a2, a3⟩ := h.2.2.1.1 i hi
    exact ⟨a1, Nat.lt_succ_of_lt a2, a3⟩, h.2.2.1.2⟩, h.2.2.2⟩
theorem zs_I_sh {S : zs_S} {n k : Nat} (h : zs_I S n) (hk : k < zs_nk S) {v : Int64} (h0 : 0 ≤ v) (h1 : v ≤ 10000) : zs_I (zs_sh_ S (vp_updL (zs_sh S) k v)) n :=
  ⟨h.1, ⟨h.2.1.1, fun j hj => by
    obtain ⟨a1, a2, a3⟩ := h.2.1.2.1 j hj
    refine ⟨a1, ?_, a3⟩
    show vp_updL (zs_sh S) k v j = 0
    have : j ≠ k := fun e => by rw [e] at hj; exact absurd hj (Nat.not_le.mpr hk)
    simp [vp_updL, this, a2], fun j => by
    obtain ⟨a1, a2, a3⟩ := h.2.1.2.2.1 j
    show 0 ≤ vp_updL (zs_sh S) k v j ∧ vp_updL (zs_sh S) k v j ≤ 10000 ∧ _
    by_cases q : j = k
    · have e : vp_updL (zs_sh S) k v j = v := by simp [vp_updL, q]
      rw [e]; exact ⟨h0, h1, a3⟩
    · have e : vp_updL (zs_sh S) k v j = zs_sh S j := by simp [vp_updL, q]
      rw [e]; exact ⟨a1, a2, a3⟩, h.2.1.2.2.2⟩, h.2.2⟩
theorem zs_I_mv {S : zs_S} {n x y : Nat} (h : zs_I S n) (hl : zs_nc S < n) (hx : x < zs_np S) (hy : y < zs_np S) (hxy : x ≠ y) (c : Int64) {d : Int64} (hd : zs_isD d) : zs_I (zs_mv S x y c d) n :=
  ⟨⟨h.1.1, h.1.2.1, h.1.2.2.1, h.1.2.2.2.1, hl, hd⟩, h.2.1, h.2.2.1, fun i hi => by
    show va_up (zs_tp S) (zs_nc S) x i < zs_np S ∧ va_up (zs_tt S) (zs_nc S) y i < zs_np S ∧ va_up (zs_tp S) (zs_nc S) x i ≠ va_up (zs_tt S) (zs_nc S) y i
    by_cases q : i = zs_nc S
    · have e1 : va_up (zs_tp S) (zs_nc S) x i = x := by simp [va_up, q]
      have e2 : va_up (zs_tt S) (zs_nc S) y i = y := by simp [va_up, q]
      rw [e1, e2]; exact ⟨hx, hy, hxy⟩
    · have e1 : va_up (zs_tp S) (zs_nc S) x i = zs_tp S i := by simp [va_up, q]
      have e2 : va_up (zs_tt S) (zs_nc S) y i = zs_tt S i := by simp [va_up, q]
      rw [e1, e2]
      have hi' : i < zs_nc S + 1 := hi
      exact h.2.2.2 i (by omega)⟩
theorem zs_cnt_congr {f h : Nat → Int64} {n : Nat} (e : ∀ j, j < n → f j = h j) : zs_cnt f n = zs_cnt h n := by
  rw [zs_cnt_nsum, zs_cnt_nsum]
  exact zs_nsum_congr (fun j hj => by rw [e j hj])
theorem zs_I_lay {S : zs_S} {n p k : Nat} (h : zs_I S n) (hl : zs_nl S < n) (hp : p < zs_np S) (hk : k < zs_nk S) {m d : Int64} (c : Int64) (hm : zs_isN m) (hd : zs_isD d) (hc : zs_cnt (zs_ll S) (zs_nl S) < 400) : zs_I (zs_lay S p k m d c) n :=
  ⟨⟨h.1.1, h.1.2.1, h.1.2.2.1, hl, h.1.2.2.2.2⟩, h.2.1, ⟨fun i hi => by
    show va_up (zs_lp S) (zs_nl S) p i < zs_np S ∧ va_up (zs_lk S) (zs_nl S) k i < zs_nk S ∧ 0 ≤ vp_updL (zs_ld S) (zs_nl S) d i ∧ vp_updL (zs_ld S) (zs_nl S) d i ≤ 100000 ∧ 0 ≤ vp_updL (zs_ll S) (zs_nl S) m i ∧ vp_updL (zs_ll S) (zs_nl S) m i ≤ 100000
    by_cases q : i = zs_nl S
    · simp only [va_up, vp_updL, q, if_true]
      exact ⟨hp, hk, hd.1, hd.2, Int64.le_trans (by decide) hm.1, hm.2⟩
    · simp only [va_up, vp_updL, q, if_false]
      have hi' : i < zs_nl S + 1 := hi
      exact h.2.2.1.1 i (by omega), by
    show zs_cnt (vp_updL (zs_ll S) (zs_nl S) m) (zs_nl S) + (if 0 < vp_updL (zs_ll S) (zs_nl S) m (zs_nl S) then 1 else 0) ≤ 400
    rw [zs_cnt_congr (h := zs_ll S) (fun j hj => by simp [vp_updL, show j ≠ zs_nl S by omega])]
    by_cases q : 0 < vp_updL (zs_ll S) (zs_nl S) m (zs_nl S)
    · rw [if_pos q]; omega
    · rw [if_neg q]; omega⟩, h.2.2.2⟩
theorem zs_at_no {q : Nat → Int64} {d : Int64} {b : Nat} : ∀ {n : Nat}, n ≤ b → ¬ zs_at q d b n < b → ∀ j, j < n → q j ≠ d := by
  intro n
  induction n with
  | zero => intro _ _ j hj; omega
  | succ n ih =>
    intro hb h j hj
    unfold zs_at at h
    split at h
    · omega
    · rename_i hne
      rcases Nat.eq_or_lt_of_le (Nat.le_of_lt_succ hj) with e | e
      · rw [e]; exact hne
      · exact ih (by omega) h j e
theorem zs_I_tell {S : zs_S} {n k : Nat} (h : zs_I S n) (hk : k < zs_nk S) {d : Int64} (c : Int64) (hd : zs_isD d) : zs_I (zs_tell S k d c).2 n := by
  unfold zs_tell
  split
  · exact ⟨h.1, h.2.1, h.2.2⟩
  · rename_i hno
    split
    · rename_i hlt
      refine ⟨h.1, ⟨fun j => ?_, fun j hj => ?_, h.2.1.2.2.1, fun j i hi => ?_, fun j a b ha hb e => ?_⟩, h.2.2⟩
      · show va_up (zs_pn S) k (zs_pn S k + 1) j ≤ 20
        by_cases q : j = k
        · simp only [va_up, q, if_true]; omega
        · simp only [va_up, q, if_false]; exact h.2.1.1 j
      · obtain ⟨a1, a2⟩ := h.2.1.2.1 j hj
        refine ⟨?_, a2⟩
        show va_up (zs_pn S) k (zs_pn S k + 1) j = 0
        have hj' : zs_nk S ≤ j := hj
        simp only [va_up, show j ≠ k by omega, if_false, a1]
      · have hi' : i < va_up (zs_pn S) k (zs_pn S k + 1) j := hi
        show 0 ≤ vp_updL (zs_pd S) (20 * k + zs_pn S k) d (20 * j + i)
        by_cases q : 20 * j + i = 20 * k + zs_pn S k
        · simp only [vp_updL, q, if_true]; exact hd.1
        · simp only [vp_updL, q, if_false]
          by_cases e : j = k
          · simp only [va_up, e, if_true] at hi'
            exact h.2.1.2.2.2.1 j i (by rw [e]; rw [e] at q; omega)
          · simp only [va_up, e, if_false] at hi'
            exact h.2.1.2.2.2.1 j i hi'
      · have ha' : a < va_up (zs_pn S) k (zs_pn S k + 1) j := ha
        have hb' : b < va_up (zs_pn S) k (zs_pn S k + 1) j := hb
        have e' : vp_updL (zs_pd S) (20 * k + zs_pn S k) d (20 * j + a) = vp_updL (zs_pd S) (20 * k + zs_pn S k) d (20 * j + b) := e
        have h20 := h.2.1.1 j
        by_cases ej : j = k
        · subst ej
          simp only [va_up, if_true] at ha' hb'
          have hno2 := zs_at_no (Nat.le_refl _) hno
          by_cases qa : a = zs_pn S j <;> by_cases qb : b = zs_pn S j
          · rw [qa, qb]
          · exfalso
            have q2 : 20 * j + b ≠ 20 * j + zs_pn S j := by omega
            simp only [vp_updL, qa, if_true, q2, if_false] at e'
            exact hno2 b (by omega) e'.symm
          · exfalso
            have q2 : 20 * j + a ≠ 20 * j + zs_pn S j := by omega
            simp only [vp_updL, qb, if_true, q2, if_false] at e'
            exact hno2 a (by omega) e'
          · have q1 : 20 * j + a ≠ 20 * j + zs_pn S j := by omega
            have q2 : 20 * j + b ≠ 20 * j + zs_pn S j := by omega
            simp only [vp_updL, q1, q2, if_false] at e'
            exact h.2.1.2.2.2.2 j a b (by omega) (by omega) e'
        · simp only [va_up, ej, if_false] at ha' hb'
          have h20k := h.2.1.1 k
          have q1 : 20 * j + a ≠ 20 * k + zs_pn S k := by omega
          have q2 : 20 * j + b ≠ 20 * k + zs_pn S k := by omega
          simp only [vp_updL, q1, q2, if_false] at e'
          exact h.2.1.2.2.2.2 j a b ha' hb' e'
    · exact h
/-- the parts of a lot of a kind: a number, and not too large -/
theorem zs_parts {r n s : Int64} (hr : 0 ≤ r ∧ r < 10000) (hn : zs_isN n) (hs : 0 ≤ s ∧ s ≤ 10000) : ∃ a : Nat, a < 2 ^ 62 ∧ r + n * s = lN a := by
  obtain ⟨r', r1, rfl⟩ := pk_lOf (Int64.not_lt.mpr hr.1)
  obtain ⟨n', n1, rfl⟩ := pk_lOf (Int64.not_lt.mpr (Int64.le_trans (by decide) hn.1) : ¬ n < 0)
  obtain ⟨s', s1, rfl⟩ := pk_lOf (Int64.not_lt.mpr hs.1)
  have e1 : r' < 10000 := (pk_lLT r1 (by decide)).mp hr.2
  have e2 : n' ≤ 100000 := (pk_lLE n1 (by decide)).mp hn.2
  have e3 : s' ≤ 10000 := (pk_lLE s1 (by decide)).mp hs.2
  refine ⟨r' + n' * s', ?_, by rw [lN_mul, lN_add]⟩
  have : n' * s' ≤ 100000 * 10000 := Nat.mul_le_mul e2 e3
  omega
theorem zs_lot_dom {S : zs_S} {p : Nat} {n : Int64} (hI : zs_Il S) (hJ : zs_Ik S) (hn : zs_isN n) : ∀ (k : Nat), zs_dom S (zs_lot S p n k).1 ∧ (∀ j, 0 ≤ (zs_lot S p n k).2.1 j ∧ (zs_lot S p n k).2.1 j < 10000) ∧ ∀ j, k ≤ j → (zs_lot S p n k).2.1 j = zs_rs S j := by
  intro k
  induction k with
  | zero => exact ⟨fun j hj => ⟨(hI.1 j hj).2.2.2.2.1, Int64.le_refl _⟩, fun j => (hJ.2.2.1 j).2.2, fun _ _ => rfl⟩
  | succ k ih =>
    obtain ⟨h1, h2, h3⟩ := ih
    rw [← zs_lot_step (f := (zs_lot S p n k).1) (h := (zs_lot S p n k).2.1) (w := (zs_lot S p n k).2.2) rfl]
    generalize (zs_lot S p n k).1 = f at h1 ⊢
    generalize (zs_lot S p n k).2.1 = h at h2 h3 ⊢
    obtain ⟨a, ha, ea⟩ := zs_parts (h2 k) hn ⟨(hJ.2.2.1 k).1, (hJ.2.2.1 k).2.1⟩
    have hq : (h k + n * zs_sh S k) / 10000 = lN (a / 10000) := by rw [ea]; exact pk_lDiv (b := 10000) (by omega) (by decide) (by decide)
    have hr : (h k + n * zs_sh S k) - (h k + n * zs_sh S k) / 10000 * 10000 = lN (a % 10000) := by rw [ea]; exact pk_lRem (b := 10000) (by omega) (by decide) (by decide)
    refine ⟨fun j hj => ?_, fun j => ?_, fun j hj => ?_⟩
    · have hd := (zs_take_dom (S := zs_rs_ (zs_ll_ S f) h) (p := p) (k := k) (n := (h k + n * zs_sh S k) / 10000) (fun j hj => (h1 j hj).1) (by rw [hq, zs_0le, pk_lT (by omega)]; omega) (zs_nl S) (Nat.le_refl _)).1 j hj
      exact ⟨hd.1, Int64.le_trans hd.2 (h1 j hj).2⟩
    · show 0 ≤ vp_updL h k _ j ∧ vp_updL h k _ j < 10000
      by_cases q : j = k
      · simp only [vp_updL, q, if_true, hr]
        exact ⟨by rw [zs_0le, pk_lT (by omega)]; omega, (pk_lLT (b := 10000) (by omega) (by decide)).mpr (Nat.mod_lt _ (by decide))⟩
      · simp only [vp_updL, q, if_false]
        exact h2 j
    · show vp_updL h k _ j = _
      simp only [vp_updL, show j ≠ k by omega, if_false]
      exact h3 j (by omega)
theorem zs_I_lot {S : zs_S} {p m : Nat} {n : Int64} (hI : zs_I S m) (hn : zs_isN n) : zs_I (zs_rs_ (zs_ll_ S (zs_lot S p n (zs_nk S)).1) (zs_lot S p n (zs_nk S)).2.1) m := by
  obtain ⟨h1, h2, h3⟩ := zs_lot_dom (p := p) hI.2.2.1 hI.2.1 hn (zs_nk S)
  have h4 := zs_I_ll hI h1
  exact ⟨h4.1, ⟨h4.2.1.1, fun k hk => by
    obtain ⟨a1, a2, a3⟩ := hI.2.1.2.1 k hk
    exact ⟨a1, a2, (h3 k hk).trans a3⟩, fun k => ⟨(hI.2.1.2.2.1 k).1, (hI.2.1.2.2.1 k).2.1, h2 k⟩, h4.2.1.2.2.2⟩, h4.2.2⟩
end
section
theorem zs_tell01 (S : zs_S) (k : Nat) (d c : Int64) : (zs_tell S k d c).1 = 0 ∨ (zs_tell S k d c).1 = 1 := by
  unfold zs_tell
  split
  · exact Or.inr rfl
  · split
    · exact Or.inr rfl
    · exact Or.inl rfl
set_option maxHeartbeats 4000000 in
set_option maxRecDepth 100000 in
theorem zc_X5_balance (l : Launch) {g : zk_G} {z : Nat} {M : zk_M} {X : zs_X} {Z : zs_Z} {n : Nat} (hR : zs_R g X Z M) (hI : zs_I X.1 n) (x : Int32) (d : Int64) : Met l yX5_balance wsX5_balance ({ frames := 2, cells := 0, slots := 0, locals := 47 } : Room) (va_Pc [.ref (Z (0, 0, 0)), .int x, .long d] (zk_U g z M)) (vp_Sl (fun r => r = zs_fbalance X.1 x d)) 0 0 (fun _ => False) := by
  refine Met.ofW (cc := cX5_balance) (maxL := 5) (ret := (some .long)) (by decide) rfl ?_
  intro P0 e0 s m0 args below meth c0 s₁ B hml hv
  obtain ⟨rfl, hH, hK, hN⟩ := hv
  have hx := B.exec
  have hb := B.bytes
  have hr := B.returns
  have hts := atoms_spec (ws := wsX5_balance) B.pre
  have hown : s.vm.findClass RX5 = some m0.cls := findClass_of_methodNamed B.named
  have hlocks := B.notSynchronized
  have hl := lv_entry ([.ref (Z (0, 0, 0)), .int x, .long d]) (n := 5) (Nat.le_of_ble_eq_true rfl)
  rw [lg_entry_eq]
  generalize (lg_sl ([.ref (Z (0, 0, 0)), .int x, .long d]) ++ List.replicate (5 - (lg_sl ([.ref (Z (0, 0, 0)), .int x, .long d])).length) Slot.unset).toArray = ls at hl ⊢
  have hl : lv_has ls 5 [(0, .ref (Z (0, 0, 0))), (1, .int x), (2, .long d)] := hl
  have hO : M (Z (0, 0, 0)) = some (.inr (5, [.ref (Z (3, 0, 0)), .ref (Z (1, 0, 0)), .ref (Z (2, 0, 0)), va_rf (zs_prev (zs_nc X.1) (fun i => Z (7, i, 0))), .int (nI (zs_nc X.1)), .long (zs_ck X.1)])) := hR.1 (0, 0, 0) ⟨rfl, rfl⟩
  refine lv_aload_n hx hb dX5_balance_0 rfl (lv_at hl 0 rfl) ?_
  refine lv_iload_n hx hb dX5_balance_1 rfl (lv_at hl 1 rfl) ?_
  refine va_csq (W.runV (As := [.int x]) (rest := []) ⟨hx, hb, hml, hown, hts⟩ (zc_X5_partyAt l hR hI.1.2.1 x) (cwV 1 hts gX5_balance_X5_partyAt rfl rfl rfl (by decide +kernel) ⟨Nat.le_of_ble_eq_true rfl, Nat.le_of_ble_eq_true rfl⟩) (zk_preV hH hK hN hO rfl) rfl rfl hl.1 rfl (lv_room (Nat.le_of_ble_eq_true rfl)) dX5_balance_2 ⟨(Nat.le_of_ble_eq_true rfl), (Nat.le_of_ble_eq_true rfl)⟩) (fun r_2 hr_2 => ?_)
  cases hx_2 : zs_ix (zs_np X.1) x with
  | none =>
    refine zk_top (v' := .null) (by rw [hr_2, hx_2]; rfl) ?_
    refine lv_astoreN (lv' := [(4, .null), (0, .ref (Z (0, 0, 0))), (1, .int x), (2, .long d)]) hx hb dX5_balance_5 hl (by decide) rfl (fun ls hl => ?_)
    refine lv_aloadN hx hb dX5_balance_7 (lv_at hl 0 rfl) ?_
    refine lv_ifnonnullN hx hb dX5_balance_9 ?_
    refine lv_lconst (v := 0) hx hb dX5_balance_12 (by decide) ?_
    refine lv_goto (tgt := 23) hx hb dX5_balance_13 (by decide) ?_
    exact zk_lretS hx hb hr hlocks (by simp only [zs_fbalance, hx_2]) dX5_balance_23
  | some p =>
    refine zk_top (v' := .ref (Z (3, p, 0))) (by rw [hr_2, hx_2]; rfl) ?_
    obtain ⟨hp, ex_p⟩ := zs_ix_some (by have := hI.1.2.1; have := hI.1.2.2.1; omega) hx_2
    refine lv_astore (lv' := [(4, .ref (Z (3, p, 0))), (0, .ref (Z (0, 0, 0))), (1, .int x), (2, .long d)]) hx hb dX5_balance_5 hl (by decide) rfl (fun ls hl => ?_)
    refine lv_aload hx hb dX5_balance_7 (lv_at hl 0 rfl) ?_
    refine lv_ifnonnull (tgt := 16) hx hb dX5_balance_9 (by decide) ?_
    refine lv_aload_n hx hb dX5_balance_16 rfl (lv_at hl 1 rfl) ?_
    refine lv_aload hx hb dX5_balance_17 (lv_at hl 0 rfl) ?_
    refine lv_lload_n hx hb dX5_balance_19 rfl (lv_at hl 3 rfl) ?_
    refine vp_callSl (W.runV (As := [.ref (Z (3, p, 0)), .long d]) (rest := []) ⟨hx, hb, hml, hown, hts⟩ (zc_X5_balanceOf l hR hI.2.2.2 hp d) (cwV 2 hts gX5_balance_X5_balanceOf rfl rfl rfl (by decide +kernel) ⟨Nat.le_of_ble_eq_true rfl, Nat.le_of_ble_eq_true rfl⟩) (zk_preV hH hK hN hO rfl) rfl rfl hl.1 rfl (lv_room (Nat.le_of_ble_eq_true rfl)) dX5_balance_20 ⟨(Nat.le_of_ble_eq_true rfl), (Nat.le_of_ble_eq_true rfl)⟩) (fun r_20 hr_20 => ?_)
    exact zk_lretS hx hb hr hlocks (by simp only [zs_fbalance, hx_2]; exact hr_20) dX5_balance_23

set_option maxHeartbeats 4000000 in
set_option maxRecDepth 100000 in
theorem zc_X5_count (l : Launch) {g : zk_G} {z : Nat} {M : zk_M} {X : zs_X} {Z : zs_Z} {n : Nat} (hR : zs_R g X Z M) (hI : zs_I X.1 n) (x y : Int32) : Met l yX5_count wsX5_count ({ frames := 1, cells := 0, slots := 0, locals := 26 } : Room) (va_Pc [.ref (Z (0, 0, 0)), .int x, .int y] (zk_U g z M)) (vp_Sl (fun r => r = zs_fcount X.1 x y)) 0 0 (fun _ => False) := by
  refine Met.ofW (cc := cX5_count) (maxL := 5) (ret := (some .long)) (by decide) rfl ?_
  intro P0 e0 s m0 args below meth c0 s₁ B hml hv
  obtain ⟨rfl, hH, hK, hN⟩ := hv
  have hx := B.exec
  have hb := B.bytes
  have hr := B.returns
  have hts := atoms_spec (ws := wsX5_count) B.pre
  have hown : s.vm.findClass RX5 = some m0.cls := findClass_of_methodNamed B.named
  have hlocks := B.notSynchronized
  have hl := lv_entry ([.ref (Z (0, 0, 0)), .int x, .int y]) (n := 5) (Nat.le_of_ble_eq_true rfl)
  rw [lg_entry_eq]
  generalize (lg_sl ([.ref (Z (0, 0, 0)), .int x, .int y]) ++ List.replicate (5 - (lg_sl ([.ref (Z (0, 0, 0)), .int x, .int y])).length) Slot.unset).toArray = ls at hl ⊢
  have hl : lv_has ls 5 [(0, .ref (Z (0, 0, 0))), (1, .int x), (2, .int y)] := hl
  have hO : M (Z (0, 0, 0)) = some (.inr (5, [.ref (Z (3, 0, 0)), .ref (Z (1, 0, 0)), .ref (Z (2, 0, 0)), va_rf (zs_prev (zs_nc X.1) (fun i => Z (7, i, 0))), .int (nI (zs_nc X.1)), .long (zs_ck X.1)])) := hR.1 (0, 0, 0) ⟨rfl, rfl⟩
  refine lv_aload_n hx hb dX5_count_0 rfl (lv_at hl 0 rfl) ?_
  refine lv_iload_n hx hb dX5_count_1 rfl (lv_at hl 1 rfl) ?_
  refine va_csq (W.runV (As := [.int x]) (rest := []) ⟨hx, hb, hml, hown, hts⟩ (zc_X5_partyAt l hR hI.1.2.1 x) (cwV 1 hts gX5_count_X5_partyAt rfl rfl rfl (by decide +kernel) ⟨Nat.le_of_ble_eq_true rfl, Nat.le_of_ble_eq_true rfl⟩) (zk_preV hH hK hN hO rfl) rfl rfl hl.1 rfl (lv_room (Nat.le_of_ble_eq_true rfl)) dX5_count_2 ⟨(Nat.le_of_ble_eq_true rfl), (Nat.le_of_ble_eq_true rfl)⟩) (fun r_2 hr_2 => ?_)
  cases hx_2 : zs_ix (zs_np X.1) x with
  | none =>
    refine zk_top (v' := .null) (by rw [hr_2, hx_2]; rfl) ?_
    refine lv_astore_nN (lv' := [(3, .null), (0, .ref (Z (0, 0, 0))), (1, .int x), (2, .int y)]) hx hb dX5_count_5 rfl hl (by decide) rfl (fun ls hl => ?_)
    refine lv_aload_n hx hb dX5_count_6 rfl (lv_at hl 1 rfl) ?_
    refine lv_iload_n hx hb dX5_count_7 rfl (lv_at hl 3 rfl) ?_
    refine va_csq (W.runV (As := [.int y]) (rest := []) ⟨hx, hb, hml, hown, hts⟩ (zc_X5_kindAt l hR hI.1.2.2.1 y) (cwV 1 hts gX5_count_X5_kindAt rfl rfl rfl (by decide +kernel) ⟨Nat.le_of_ble_eq_true rfl, Nat.le_of_ble_eq_true rfl⟩) (zk_preV hH hK hN hO rfl) rfl rfl hl.1 rfl (lv_room (Nat.le_of_ble_eq_true rfl)) dX5_count_8 ⟨(Nat.le_of_ble_eq_true rfl), (Nat.le_of_ble_eq_true rfl)⟩) (fun r_8 hr_8 => ?_)
    refine zk_astore (lv' := [(4, va_rf r_8), (3, .null), (0, .ref (Z (0, 0, 0))), (1, .int x), (2, .int y)]) hx hb dX5_count_11 hl (by decide) rfl (fun ls hl => ?_)
    refine lv_aload_nN hx hb dX5_count_13 rfl (lv_at hl 1 rfl) ?_
    refine lv_ifnullN (tgt := 22) hx hb dX5_count_14 (by decide) ?_
    refine lv_ldc2 (v := (-1)) hx hb hown (hts (.constantLong RX5 103 (-1)) (by decide +kernel)) dX5_count_22 ?_
    refine lv_goto (tgt := 37) hx hb dX5_count_25 (by decide) ?_
    exact zk_lretS hx hb hr hlocks (by simp only [zs_fcount, hx_2]) dX5_count_37
  | some p =>
    refine zk_top (v' := .ref (Z (3, p, 0))) (by rw [hr_2, hx_2]; rfl) ?_
    obtain ⟨hp, ex_p⟩ := zs_ix_some (by have := hI.1.2.1; have := hI.1.2.2.1; omega) hx_2
    refine lv_astore_n (lv' := [(3, .ref (Z (3, p, 0))), (0, .ref (Z (0, 0, 0))), (1, .int x), (2, .int y)]) hx hb dX5_count_5 rfl hl (by decide) rfl (fun ls hl => ?_)
    refine lv_aload_n hx hb dX5_count_6 rfl (lv_at hl 1 rfl) ?_
    refine lv_iload_n hx hb dX5_count_7 rfl (lv_at hl 3 rfl) ?_
    refine va_csq (W.runV (As := [.int y]) (rest := []) ⟨hx, hb, hml, hown, hts⟩ (zc_X5_kindAt l hR hI.1.2.2.1 y) (cwV 1 hts gX5_count_X5_kindAt rfl rfl rfl (by decide +kernel) ⟨Nat.le_of_ble_eq_true rfl, Nat.le_of_ble_eq_true rfl⟩) (zk_preV hH hK hN hO rfl) rfl rfl hl.1 rfl (lv_room (Nat.le_of_ble_eq_true rfl)) dX5_count_8 ⟨(Nat.le_of_ble_eq_true rfl), (Nat.le_of_ble_eq_true rfl)⟩) (fun r_8 hr_8 => ?_)
    cases hx_8 : zs_ix (zs_nk X.1) y with
    | none =>
      refine zk_top (v' := .null) (by rw [hr_8, hx_8]; rfl) ?_
      refine lv_astoreN (lv' := [(4, .null), (3, .ref (Z (3, p, 0))), (0, .ref (Z (0, 0, 0))), (1, .int x), (2, .int y)]) hx hb dX5_count_11 hl (by decide) rfl (fun ls hl => ?_)
      refine lv_aload_n hx hb dX5_count_13 rfl (lv_at hl 1 rfl) ?_
      refine lv_ifnull hx hb dX5_count_14 ?_
      refine lv_aloadN hx hb dX5_count_17 (lv_at hl 0 rfl) ?_
      refine lv_ifnonnullN hx hb dX5_count_19 ?_
      refine lv_ldc2 (v := (-1)) hx hb hown (hts (.constantLong RX5 103 (-1)) (by decide +kernel)) dX5_count_22 ?_
      refine lv_goto (tgt := 37) hx hb dX5_count_25 (by decide) ?_
      exact zk_lretS hx hb hr hlocks (by simp only [zs_fcount, hx_2, hx_8]) dX5_count_37
    | some k =>
      refine zk_top (v' := .ref (Z (4, k, 0))) (by rw [hr_8, hx_8]; rfl) ?_
      obtain ⟨hk, ex_k⟩ := zs_ix_some (by have := hI.1.2.1; have := hI.1.2.2.1; omega) hx_8
      refine lv_astore (lv' := [(4, .ref (Z (4, k, 0))), (3, .ref (Z (3, p, 0))), (0, .ref (Z (0, 0, 0))), (1, .int x), (2, .int y)]) hx hb dX5_count_11 hl (by decide) rfl (fun ls hl => ?_)
      refine lv_aload_n hx hb dX5_count_13 rfl (lv_at hl 1 rfl) ?_
      refine lv_ifnull hx hb dX5_count_14 ?_
      refine lv_aload hx hb dX5_count_17 (lv_at hl 0 rfl) ?_
      refine lv_ifnonnull (tgt := 28) hx hb dX5_count_19 (by decide) ?_
      refine lv_aload_n hx hb dX5_count_28 rfl (lv_at hl 1 rfl) ?_
      refine lv_aload hx hb dX5_count_29 (lv_at hl 0 rfl) ?_
      refine lv_ldc2 (v := 100000) hx hb hown (hts (.constantLong RX5 35 (100000)) (by decide +kernel)) dX5_count_31 ?_
      refine vp_callSl (W.runV (As := [.ref (Z (4, k, 0)), .long 100000]) (rest := []) ⟨hx, hb, hml, hown, hts⟩ (zc_X2_piecesUpTo l hR (fun i hi => (hI.2.2.1.1 i hi).2.1) hp hk 100000) (cwV 2 hts gX5_count_X2_piecesUpTo rfl rfl rfl (by decide +kernel) ⟨Nat.le_of_ble_eq_true rfl, Nat.le_of_ble_eq_true rfl⟩) (zk_preV hH hK hN (hR.1 (3, p, 0) ⟨hp, rfl⟩) rfl) rfl rfl hl.1 rfl (lv_room (Nat.le_of_ble_eq_true rfl)) dX5_count_34 ⟨(Nat.le_of_ble_eq_true rfl), (Nat.le_of_ble_eq_true rfl)⟩) (fun r_34 hr_34 => ?_)
      exact zk_lretS hx hb hr hlocks (by simp only [zs_fcount, hx_2, hx_8]; rw [hr_34]; exact zs_pup_has hI.2.2.1 p k) dX5_count_37

set_option maxHeartbeats 4000000 in
set_option maxRecDepth 100000 in
theorem zc_X5_price (l : Launch) {g : zk_G} {z : Nat} {M : zk_M} {X : zs_X} {Z : zs_Z} {n : Nat} (hR : zs_R g X Z M) (hI : zs_I X.1 n) (x : Int32) (d c : Int64) : Met l yX5_price wsX5_price ({ frames := 3, cells := 1, slots := 3, locals := 63 } : Room) (va_Pc [.ref (Z (0, 0, 0)), .int x, .long d, .long c] (zk_U g z M)) (va_Qi (fun r u => r = (zs_fprice X.1 x d c).1 ∧ zs_P g X Z ((zs_fprice X.1 x d c).2, X.2) u) (zk_B g z) (fun q => z ≤ q)) 1 3 (fun q => z ≤ q) := by
  refine Met.ofW (cc := cX5_price) (maxL := 7) (ret := (some .boolean)) (by decide) rfl ?_
  intro P0 e0 s m0 args below meth c0 s₁ B hml hv
  obtain ⟨rfl, hH, hK, hN⟩ := hv
  have hx := B.exec
  have hb := B.bytes
  have hr := B.returns
  have hts := atoms_spec (ws := wsX5_price) B.pre
  have hown : s.vm.findClass RX5 = some m0.cls := findClass_of_methodNamed B.named
  have hlocks := B.notSynchronized
  have hS : va_S (fun q => z ≤ q) s.heap s.heap [] := va_S.rf
  have hl := lv_entry ([.ref (Z (0, 0, 0)), .int x, .long d, .long c]) (n := 7) (Nat.le_of_ble_eq_true rfl)
  rw [lg_entry_eq]
  generalize (lg_sl ([.ref (Z (0, 0, 0)), .int x, .long d, .long c]) ++ List.replicate (7 - (lg_sl ([.ref (Z (0, 0, 0)), .int x, .long d, .long c])).length) Slot.unset).toArray = ls at hl ⊢
  have hl : lv_has ls 7 [(0, .ref (Z (0, 0, 0))), (1, .int x), (2, .long d), (4, .long c)] := hl
  have hO : M (Z (0, 0, 0)) = some (.inr (5, [.ref (Z (3, 0, 0)), .ref (Z (1, 0, 0)), .ref (Z (2, 0, 0)), va_rf (zs_prev (zs_nc X.1) (fun i => Z (7, i, 0))), .int (nI (zs_nc X.1)), .long (zs_ck X.1)])) := hR.1 (0, 0, 0) ⟨rfl, rfl⟩
  refine lv_aload_n hx hb dX5_price_0 rfl (lv_at hl 0 rfl) ?_
  refine lv_iload_n hx hb dX5_price_1 rfl (lv_at hl 1 rfl) ?_
  refine va_csq (W.runV (As := [.int x]) (rest := []) ⟨hx, hb, hml, hown, hts⟩ (zc_X5_kindAt l hR hI.1.2.2.1 x) (cwV 1 hts gX5_price_X5_kindAt rfl rfl rfl (by decide +kernel) ⟨Nat.le_of_ble_eq_true rfl, Nat.le_of_ble_eq_true rfl⟩) (zk_preV hH hK hN hO rfl) rfl rfl hl.1 rfl (lv_room (Nat.le_of_ble_eq_true rfl)) dX5_price_2 ⟨(Nat.le_of_ble_eq_true rfl), (Nat.le_of_ble_eq_true rfl)⟩) (fun r_2 hr_2 => ?_)
  cases hx_2 : zs_ix (zs_nk X.1) x with
  | none =>
    refine zk_top (v' := .null) (by rw [hr_2, hx_2]; rfl) ?_
    refine lv_astoreN (lv' := [(6, .null), (0, .ref (Z (0, 0, 0))), (1, .int x), (2, .long d), (4, .long c)]) hx hb dX5_price_5 hl (by decide) rfl (fun ls hl => ?_)
    refine lv_aloadN hx hb dX5_price_7 (lv_at hl 0 rfl) ?_
    refine lv_ifnullN (tgt := 35) hx hb dX5_price_9 (by decide) ?_
    refine lv_iconst (v := 0) hx hb dX5_price_35 (by decide) ?_
    exact zk_zret hx hb hr hlocks (by first | rfl | decide) hH hS (by decide) (by decide) (zs_no hR (by simp only [zs_fprice, hx_2])) dX5_price_36
  | some k =>
    refine zk_top (v' := .ref (Z (4, k, 0))) (by rw [hr_2, hx_2]; rfl) ?_
    obtain ⟨hk, ex_k⟩ := zs_ix_some (by have := hI.1.2.1; have := hI.1.2.2.1; omega) hx_2
    refine lv_astore (lv' := [(6, .ref (Z (4, k, 0))), (0, .ref (Z (0, 0, 0))), (1, .int x), (2, .long d), (4, .long c)]) hx hb dX5_price_5 hl (by decide) rfl (fun ls hl => ?_)
    refine lv_aload hx hb dX5_price_7 (lv_at hl 0 rfl) ?_
    refine lv_ifnull hx hb dX5_price_9 ?_
    refine lv_lload_n hx hb dX5_price_12 rfl (lv_at hl 3 rfl) ?_
    refine vp_callSi (W.runS (As := [.long d]) (rest := []) ⟨hx, hb, hml, hown, hts⟩ (zc_X5_isDay l d) (va_cwS 1 hts gX5_price_X5_isDay rfl rfl rfl (by decide +kernel) ⟨Nat.le_of_ble_eq_true rfl, Nat.le_of_ble_eq_true rfl⟩) (zk_preS hH hK hN) rfl rfl hl.1 rfl (lv_room (Nat.le_of_ble_eq_true rfl)) dX5_price_13 ⟨(Nat.le_of_ble_eq_true rfl), (Nat.le_of_ble_eq_true rfl)⟩) (fun r_13 hr_13 => ?_)
    refine lv_if_eq (tgt := 35) hx hb dX5_price_16 (by decide) (fun h_16 => ?_) (fun h_16 => ?_)
    · skip
      have hd : ¬ (zs_isD d) := zs_b0 hr_13 h_16
      refine lv_iconst (v := 0) hx hb dX5_price_35 (by decide) ?_
      exact zk_zret hx hb hr hlocks (by first | rfl | decide) hH hS (by decide) (by decide) (zs_no hR (by simp only [zs_fprice, hx_2]; exact if_neg (fun q => hd q.1))) dX5_price_36
    · skip
      have hd : zs_isD d := zs_b1 hr_13 h_16
      refine lv_lload hx hb dX5_price_19 (lv_at hl 4 rfl) ?_
      refine lv_lconst (v := 0) hx hb dX5_price_21 (by decide) ?_
      refine zk_lc_lt (tgt := 35) hx hb dX5_price_22 dX5_price_23 (by decide) (fun h_22 => ?_) (fun h_22 => ?_)
      · skip
        refine lv_iconst (v := 0) hx hb dX5_price_35 (by decide) ?_
        exact zk_zret hx hb hr hlocks (by first | rfl | decide) hH hS (by decide) (by decide) (zs_no hR (by simp only [zs_fprice, hx_2]; exact if_neg (fun q => absurd h_22 (Int64.not_lt.mpr q.2.1)))) dX5_price_36
      · skip
        refine lv_lload hx hb dX5_price_26 (lv_at hl 4 rfl) ?_
        refine lv_ldc2 (v := 100000) hx hb hown (hts (.constantLong RX5 35 (100000)) (by decide +kernel)) dX5_price_28 ?_
        refine zk_lc_le (tgt := 37) hx hb dX5_price_31 dX5_price_32 (by decide) (fun h_31 => ?_) (fun h_31 => ?_)
        · skip
          refine lv_aload hx hb dX5_price_37 (lv_at hl 0 rfl) ?_
          refine lv_lload_n hx hb dX5_price_39 rfl (lv_at hl 3 rfl) ?_
          refine lv_lload hx hb dX5_price_40 (lv_at hl 4 rfl) ?_
          refine zk_calli (va_runV (As := [.long d, .long c]) (rest := []) ⟨hx, hb, hml, hown, hts⟩ (zc_X0_tellPrice l hR hI hk d c) (cwV 2 hts gX5_price_X0_tellPrice rfl rfl rfl (by decide +kernel) ⟨Nat.le_of_ble_eq_true rfl, Nat.le_of_ble_eq_true rfl⟩) (zk_preV hH hK hN (hR.1 (4, k, 0) ⟨hk, rfl⟩) rfl) rfl rfl hl.1 rfl (lv_room (Nat.le_of_ble_eq_true rfl)) dX5_price_42 ⟨(Nat.le_of_ble_eq_true rfl), (Nat.le_of_ble_eq_true rfl)⟩) hS (fun r_42 u_42 H locs hH hr_42 hS => ?_)
          exact zk_zret hx hb hr hlocks (by rcases zs_tell01 X.1 k d c with q | q <;> rw [hr_42.1, q] <;> rfl) hH hS (by decide) (by decide) (by simp only [zs_fprice, hx_2]; rw [if_pos ⟨hd, Int64.not_lt.mp h_22, h_31⟩]; exact hr_42) dX5_price_45
        · skip
          refine lv_iconst (v := 0) hx hb dX5_price_35 (by decide) ?_
          exact zk_zret hx hb hr hlocks (by first | rfl | decide) hH hS (by decide) (by decide) (zs_no hR (by simp only [zs_fprice, hx_2]; exact if_neg (fun q => h_31 q.2.2))) dX5_price_36

theorem inw_wsX5_share_0 : ∀ w ∈ u_ws RX0 TX0 3, w ∈ wsX5_share := by decide +kernel
set_option maxHeartbeats 4000000 in
set_option maxRecDepth 100000 in
theorem zc_X5_share (l : Launch) {g : zk_G} {z : Nat} {M : zk_M} {X : zs_X} {Z : zs_Z} {n : Nat} (hR : zs_R g X Z M) (hI : zs_I X.1 n) (x : Int32) (a b : Int64) : Met l yX5_share wsX5_share ({ frames := 1, cells := 0, slots := 0, locals := 21 } : Room) (va_Pc [.ref (Z (0, 0, 0)), .int x, .long a, .long b] (zk_U g z M)) (va_Qi (fun r u => r = (zs_fshare X.1 x a b).1 ∧ zs_P g X Z ((zs_fshare X.1 x a b).2, X.2) u) (zk_B g z) (fun q => z ≤ q)) 0 0 (fun q => z ≤ q) := by
  refine Met.ofW (cc := cX5_share) (maxL := 7) (ret := (some .boolean)) (by decide) rfl ?_
  intro P0 e0 s m0 args below meth c0 s₁ B hml hv
  obtain ⟨rfl, hH, hK, hN⟩ := hv
  have hx := B.exec
  have hb := B.bytes
  have hr := B.returns
  have hts := atoms_spec (ws := wsX5_share) B.pre
  have hown : s.vm.findClass RX5 = some m0.cls := findClass_of_methodNamed B.named
  have hlocks := B.notSynchronized
  have hS : va_S (fun q => z ≤ q) s.heap s.heap [] := va_S.rf
  have hl := lv_entry ([.ref (Z (0, 0, 0)), .int x, .long a, .long b]) (n := 7) (Nat.le_of_ble_eq_true rfl)
  rw [lg_entry_eq]
  generalize (lg_sl ([.ref (Z (0, 0, 0)), .int x, .long a, .long b]) ++ List.replicate (7 - (lg_sl ([.ref (Z (0, 0, 0)), .int x, .long a, .long b])).length) Slot.unset).toArray = ls at hl ⊢
  have hl : lv_has ls 7 [(0, .ref (Z (0, 0, 0))), (1, .int x), (2, .long a), (4, .long b)] := hl
  have hO : M (Z (0, 0, 0)) = some (.inr (5, [.ref (Z (3, 0, 0)), .ref (Z (1, 0, 0)), .ref (Z (2, 0, 0)), va_rf (zs_prev (zs_nc X.1) (fun i => Z (7, i, 0))), .int (nI (zs_nc X.1)), .long (zs_ck X.1)])) := hR.1 (0, 0, 0) ⟨rfl, rfl⟩
  refine lv_aload_n hx hb dX5_share_0 rfl (lv_at hl 0 rfl) ?_
  refine lv_iload_n hx hb dX5_share_1 rfl (lv_at hl 1 rfl) ?_
  refine va_csq (W.runV (As := [.int x]) (rest := []) ⟨hx, hb, hml, hown, hts⟩ (zc_X5_kindAt l hR hI.1.2.2.1 x) (cwV 1 hts gX5_share_X5_kindAt rfl rfl rfl (by decide +kernel) ⟨Nat.le_of_ble_eq_true rfl, Nat.le_of_ble_eq_true rfl⟩) (zk_preV hH hK hN hO rfl) rfl rfl hl.1 rfl (lv_room (Nat.le_of_ble_eq_true rfl)) dX5_share_2 ⟨(Nat.le_of_ble_eq_true rfl), (Nat.le_of_ble_eq_true rfl)⟩) (fun r_2 hr_2 => ?_)
  cases hx_2 : zs_ix (zs_nk X.1) x with
  | none =>
    refine zk_top (v' := .null) (by rw [hr_2, hx_2]; rfl) ?_
    refine lv_astoreN (lv' := [(6, .null), (0, .ref (Z (0, 0, 0))), (1, .int x), (2, .long a), (4, .long b)]) hx hb dX5_share_5 hl (by decide) rfl (fun ls hl => ?_)
    refine lv_aloadN hx hb dX5_share_7 (lv_at hl 0 rfl) ?_
    refine lv_ifnullN (tgt := 54) hx hb dX5_share_9 (by decide) ?_
    refine lv_iconst (v := 0) hx hb dX5_share_54 (by decide) ?_
    exact zk_zret hx hb hr hlocks (by first | rfl | decide) hH hS (by decide) (by decide) (zs_no hR (by simp only [zs_fshare, hx_2])) dX5_share_55
  | some k =>
    refine zk_top (v' := .ref (Z (4, k, 0))) (by rw [hr_2, hx_2]; rfl) ?_
    obtain ⟨hk, ex_k⟩ := zs_ix_some (by have := hI.1.2.1; have := hI.1.2.2.1; omega) hx_2
    refine lv_astore (lv' := [(6, .ref (Z (4, k, 0))), (0, .ref (Z (0, 0, 0))), (1, .int x), (2, .long a), (4, .long b)]) hx hb dX5_share_5 hl (by decide) rfl (fun ls hl => ?_)
    refine lv_aload hx hb dX5_share_7 (lv_at hl 0 rfl) ?_
    refine lv_ifnull hx hb dX5_share_9 ?_
    refine lv_lload hx hb dX5_share_12 (lv_at hl 4 rfl) ?_
    refine lv_lconst (v := 1) hx hb dX5_share_14 (by decide) ?_
    refine zk_lc_lt (tgt := 54) hx hb dX5_share_15 dX5_share_16 (by decide) (fun h_15 => ?_) (fun h_15 => ?_)
    · skip
      refine lv_iconst (v := 0) hx hb dX5_share_54 (by decide) ?_
      exact zk_zret hx hb hr hlocks (by first | rfl | decide) hH hS (by decide) (by decide) (zs_no hR (by simp only [zs_fshare, hx_2]; exact if_neg (fun q => absurd h_15 (Int64.not_lt.mpr q.1.1)))) dX5_share_55
    · skip
      refine lv_lload hx hb dX5_share_19 (lv_at hl 4 rfl) ?_
      refine lv_ldc2 (v := 10000) hx hb hown (hts (.constantLong RX5 91 (10000)) (by decide +kernel)) dX5_share_21 ?_
      refine zk_lc_gt (tgt := 54) hx hb dX5_share_24 dX5_share_25 (by decide) (fun h_24 => ?_) (fun h_24 => ?_)
      · skip
        refine lv_iconst (v := 0) hx hb dX5_share_54 (by decide) ?_
        exact zk_zret hx hb hr hlocks (by first | rfl | decide) hH hS (by decide) (by decide) (zs_no hR (by simp only [zs_fshare, hx_2]; exact if_neg (fun q => absurd h_24 (Int64.not_lt.mpr q.1.2)))) dX5_share_55
      · skip
        refine lv_lload_n hx hb dX5_share_28 rfl (lv_at hl 3 rfl) ?_
        refine lv_lconst (v := 0) hx hb dX5_share_29 (by decide) ?_
        refine zk_lc_lt (tgt := 54) hx hb dX5_share_30 dX5_share_31 (by decide) (fun h_30 => ?_) (fun h_30 => ?_)
        · skip
          refine lv_iconst (v := 0) hx hb dX5_share_54 (by decide) ?_
          exact zk_zret hx hb hr hlocks (by first | rfl | decide) hH hS (by decide) (by decide) (zs_no hR (by simp only [zs_fshare, hx_2]; exact if_neg (fun q => absurd h_30 (Int64.not_lt.mpr q.2.1)))) dX5_share_55
        · skip
          refine lv_lload_n hx hb dX5_share_34 rfl (lv_at hl 3 rfl) ?_
          refine lv_lload hx hb dX5_share_35 (lv_at hl 4 rfl) ?_
          refine zk_lc_gt (tgt := 54) hx hb dX5_share_37 dX5_share_38 (by decide) (fun h_37 => ?_) (fun h_37 => ?_)
          · skip
            refine lv_iconst (v := 0) hx hb dX5_share_54 (by decide) ?_
            exact zk_zret hx hb hr hlocks (by first | rfl | decide) hH hS (by decide) (by decide) (zs_no hR (by simp only [zs_fshare, hx_2]; exact if_neg (fun q => absurd h_37 (Int64.not_lt.mpr q.2.2.1)))) dX5_share_55
          · skip
            refine lv_lload_n hx hb dX5_share_41 rfl (lv_at hl 3 rfl) ?_
            refine lv_ldc2 (v := 10000) hx hb hown (hts (.constantLong RX5 91 (10000)) (by decide +kernel)) dX5_share_42 ?_
            refine lv_lmul hx hb dX5_share_45 ?_
            refine lv_lload hx hb dX5_share_46 (lv_at hl 4 rfl) ?_
            refine lv_lrem hx hb dX5_share_48 (fun q => h_15 (by rw [q]; decide)) ?_
            refine lv_lconst (v := 0) hx hb dX5_share_49 (by decide) ?_
            refine zk_lc_eq (tgt := 56) hx hb dX5_share_50 dX5_share_51 (by decide) (fun h_50 => ?_) (fun h_50 => ?_)
            · skip
              have hK0 : M (Z (4, k, 0)) = some (.inr (0, [va_rf (zs_prev (zs_pn X.1 k) (fun j => Z (5, k, j))), .long (zs_sh X.1 k), .long (zs_rs X.1 k)])) := hR.1 (4, k, 0) ⟨hk, rfl⟩
              refine lv_aload hx hb dX5_share_56 (lv_at hl 0 rfl) ?_
              refine lv_lload_n hx hb dX5_share_58 rfl (lv_at hl 3 rfl) ?_
              refine lv_ldc2 (v := 10000) hx hb hown (hts (.constantLong RX5 91 (10000)) (by decide +kernel)) dX5_share_59 ?_
              refine lv_lmul hx hb dX5_share_62 ?_
              refine lv_lload hx hb dX5_share_63 (lv_at hl 4 rfl) ?_
              refine lv_ldiv hx hb dX5_share_65 (fun q => h_15 (by rw [q]; decide)) ?_
              refine zk_putN (ci := 0) (v := .long ((a * 10000) / b)) (C := RX0) (T := TX0) (N := 3) hx hb hts inw_wsX5_share_0 tyX0 tyX0_ok nmX0 hown hK hH hS hK0 rfl 1 (by decide) (zk_nf_0 hN) rfl rfl rfl (Nat.le_of_ble_eq_true rfl) dX5_share_66 (fun H locs hH hS => ?_)
              obtain ⟨M_66, eM_66⟩ : ∃ w_0 : zk_M, w_0 = zk_up M (Z (4, k, 0)) (.inr (0, [va_rf (zs_prev (zs_pn X.1 k) (fun j => Z (5, k, j))), .long ((a * 10000) / b), .long (zs_rs X.1 k)])) := ⟨_, rfl⟩
              have hH : zk_H g z M_66 H := by rw [eM_66]; exact hH
              have f_66_0 : M_66 (Z (0, 0, 0)) = some (.inr (5, [.ref (Z (3, 0, 0)), .ref (Z (1, 0, 0)), .ref (Z (2, 0, 0)), va_rf (zs_prev (zs_nc X.1) (fun i => Z (7, i, 0))), .int (nI (zs_nc X.1)), .long (zs_ck X.1)])) := by rw [eM_66, zk_up_n _ _ (zk_ne hO hK0 (by simp))]; exact hO
              have e_66 : M_66 (Z (4, k, 0)) = some (.inr (0, [va_rf (zs_prev (zs_pn X.1 k) (fun j => Z (5, k, j))), .long ((a * 10000) / b), .long (zs_rs X.1 k)])) := by rw [eM_66]; exact zk_up_s _ _ _
              refine lv_iconst (v := 1) hx hb dX5_share_69 (by decide) ?_
              exact zk_zret hx hb hr hlocks (by first | rfl | decide) hH hS (by decide) (by decide) (zs_yes (by simp only [zs_fshare, hx_2]; exact if_pos ⟨⟨Int64.not_lt.mp h_15, Int64.not_lt.mp h_24⟩, Int64.not_lt.mp h_30, Int64.not_lt.mp h_37, h_50⟩) ⟨Z, by rw [eM_66]; exact zs_R_sh hR hk _, fun _ _ => rfl⟩) dX5_share_70
            · skip
              refine lv_iconst (v := 0) hx hb dX5_share_54 (by decide) ?_
              exact zk_zret hx hb hr hlocks (by first | rfl | decide) hH hS (by decide) (by decide) (zs_no hR (by simp only [zs_fshare, hx_2]; exact if_neg (fun q => h_50 q.2.2.2))) dX5_share_55

theorem inw_wsX5_back_5 : ∀ w ∈ u_ws RX5 TX5 6, w ∈ wsX5_back := by decide +kernel
set_option maxHeartbeats 4000000 in
set_option maxRecDepth 100000 in
theorem zc_X5_back (l : Launch) {g : zk_G} {z : Nat} {M : zk_M} {X : zs_X} {Z : zs_Z} {n : Nat} (hR : zs_R g X Z M) (hI : zs_I X.1 n) (hn : zs_nc X.1 < 512) (x y : Int32) (num d : Int64) : Met l yX5_back wsX5_back ({ frames := 3, cells := 1, slots := 5, locals := 65 } : Room) (va_Pc [.ref (Z (0, 0, 0)), .int x, .int y, .long num, .long d] (zk_U g z M)) (va_Qi (fun r u => r = (zs_fback X.1 x y num d).1 ∧ zs_P g X Z ((zs_fback X.1 x y num d).2, X.2) u) (zk_B g z) (fun q => z ≤ q)) 1 5 (fun q => z ≤ q) := by
  refine Met.ofW (cc := cX5_back) (maxL := 9) (ret := (some .boolean)) (by decide) rfl ?_
  intro P0 e0 s m0 args below meth c0 s₁ B hml hv
  obtain ⟨rfl, hH, hK, hN⟩ := hv
  have hx := B.exec
  have hb := B.bytes
  have hr := B.returns
  have hts := atoms_spec (ws := wsX5_back) B.pre
  have hown : s.vm.findClass RX5 = some m0.cls := findClass_of_methodNamed B.named
  have hlocks := B.notSynchronized
  have hS : va_S (fun q => z ≤ q) s.heap s.heap [] := va_S.rf
  have hl := lv_entry ([.ref (Z (0, 0, 0)), .int x, .int y, .long num, .long d]) (n := 9) (Nat.le_of_ble_eq_true rfl)
  rw [lg_entry_eq]
  generalize (lg_sl ([.ref (Z (0, 0, 0)), .int x, .int y, .long num, .long d]) ++ List.replicate (9 - (lg_sl ([.ref (Z (0, 0, 0)), .int x, .int y, .long num, .long d])).length) Slot.unset).toArray = ls at hl ⊢
  have hl : lv_has ls 9 [(0, .ref (Z (0, 0, 0))), (1, .int x), (2, .int y), (3, .long num), (5, .long d)] := hl
  have hO : M (Z (0, 0, 0)) = some (.inr (5, [.ref (Z (3, 0, 0)), .ref (Z (1, 0, 0)), .ref (Z (2, 0, 0)), va_rf (zs_prev (zs_nc X.1) (fun i => Z (7, i, 0))), .int (nI (zs_nc X.1)), .long (zs_ck X.1)])) := hR.1 (0, 0, 0) ⟨rfl, rfl⟩
  refine lv_aload_n hx hb dX5_back_0 rfl (lv_at hl 0 rfl) ?_
  refine lv_iload_n hx hb dX5_back_1 rfl (lv_at hl 1 rfl) ?_
  refine va_csq (W.runV (As := [.int x]) (rest := []) ⟨hx, hb, hml, hown, hts⟩ (zc_X5_customerAt l hR hI.1.2.1 x) (cwV 1 hts gX5_back_X5_customerAt rfl rfl rfl (by decide +kernel) ⟨Nat.le_of_ble_eq_true rfl, Nat.le_of_ble_eq_true rfl⟩) (zk_preV hH hK hN hO rfl) rfl rfl hl.1 rfl (lv_room (Nat.le_of_ble_eq_true rfl)) dX5_back_2 ⟨(Nat.le_of_ble_eq_true rfl), (Nat.le_of_ble_eq_true rfl)⟩) (fun r_2 hr_2 => ?_)
  cases hx_2 : zs_cx (zs_np X.1) x with
  | none =>
    refine zk_top (v' := .null) (by rw [hr_2, hx_2]; rfl) ?_
    refine lv_astoreN (lv' := [(7, .null), (0, .ref (Z (0, 0, 0))), (1, .int x), (2, .int y), (3, .long num), (5, .long d)]) hx hb dX5_back_5 hl (by decide) rfl (fun ls hl => ?_)
    refine lv_aload_n hx hb dX5_back_7 rfl (lv_at hl 1 rfl) ?_
    refine lv_iload_n hx hb dX5_back_8 rfl (lv_at hl 3 rfl) ?_
    refine va_csq (W.runV (As := [.int y]) (rest := []) ⟨hx, hb, hml, hown, hts⟩ (zc_X5_kindAt l hR hI.1.2.2.1 y) (cwV 1 hts gX5_back_X5_kindAt rfl rfl rfl (by decide +kernel) ⟨Nat.le_of_ble_eq_true rfl, Nat.le_of_ble_eq_true rfl⟩) (zk_preV hH hK hN hO rfl) rfl rfl hl.1 rfl (lv_room (Nat.le_of_ble_eq_true rfl)) dX5_back_9 ⟨(Nat.le_of_ble_eq_true rfl), (Nat.le_of_ble_eq_true rfl)⟩) (fun r_9 hr_9 => ?_)
    refine zk_astore (lv' := [(8, va_rf r_9), (7, .null), (0, .ref (Z (0, 0, 0))), (1, .int x), (2, .int y), (3, .long num), (5, .long d)]) hx hb dX5_back_12 hl (by decide) rfl (fun ls hl => ?_)
    refine lv_aloadN hx hb dX5_back_14 (lv_at hl 1 rfl) ?_
    refine lv_ifnullN (tgt := 55) hx hb dX5_back_16 (by decide) ?_
    refine lv_iconst (v := 0) hx hb dX5_back_55 (by decide) ?_
    exact zk_zret hx hb hr hlocks (by first | rfl | decide) hH hS (by decide) (by decide) (zs_no hR (by simp only [zs_fback, hx_2])) dX5_back_56
  | some p =>
    refine zk_top (v' := .ref (Z (3, p, 0))) (by rw [hr_2, hx_2]; rfl) ?_
    obtain ⟨hp, ex_p, hz_p⟩ := zs_cx_some (by have := hI.1.2.1; omega) hx_2
    refine lv_astore (lv' := [(7, .ref (Z (3, p, 0))), (0, .ref (Z (0, 0, 0))), (1, .int x), (2, .int y), (3, .long num), (5, .long d)]) hx hb dX5_back_5 hl (by decide) rfl (fun ls hl => ?_)
    refine lv_aload_n hx hb dX5_back_7 rfl (lv_at hl 1 rfl) ?_
    refine lv_iload_n hx hb dX5_back_8 rfl (lv_at hl 3 rfl) ?_
    refine va_csq (W.runV (As := [.int y]) (rest := []) ⟨hx, hb, hml, hown, hts⟩ (zc_X5_kindAt l hR hI.1.2.2.1 y) (cwV 1 hts gX5_back_X5_kindAt rfl rfl rfl (by decide +kernel) ⟨Nat.le_of_ble_eq_true rfl, Nat.le_of_ble_eq_true rfl⟩) (zk_preV hH hK hN hO rfl) rfl rfl hl.1 rfl (lv_room (Nat.le_of_ble_eq_true rfl)) dX5_back_9 ⟨(Nat.le_of_ble_eq_true rfl), (Nat.le_of_ble_eq_true rfl)⟩) (fun r_9 hr_9 => ?_)
    cases hx_9 : zs_ix (zs_nk X.1) y with
    | none =>
      refine zk_top (v' := .null) (by rw [hr_9, hx_9]; rfl) ?_
      refine lv_astoreN (lv' := [(8, .null), (7, .ref (Z (3, p, 0))), (0, .ref (Z (0, 0, 0))), (1, .int x), (2, .int y), (3, .long num), (5, .long d)]) hx hb dX5_back_12 hl (by decide) rfl (fun ls hl => ?_)
      refine lv_aload hx hb dX5_back_14 (lv_at hl 1 rfl) ?_
      refine lv_ifnull hx hb dX5_back_16 ?_
      refine lv_aloadN hx hb dX5_back_19 (lv_at hl 0 rfl) ?_
      refine lv_ifnullN (tgt := 55) hx hb dX5_back_21 (by decide) ?_
      refine lv_iconst (v := 0) hx hb dX5_back_55 (by decide) ?_
      exact zk_zret hx hb hr hlocks (by first | rfl | decide) hH hS (by decide) (by decide) (zs_no hR (by simp only [zs_fback, hx_2, hx_9])) dX5_back_56
    | some k =>
      refine zk_top (v' := .ref (Z (4, k, 0))) (by rw [hr_9, hx_9]; rfl) ?_
      obtain ⟨hk, ex_k⟩ := zs_ix_some (by have := hI.1.2.1; have := hI.1.2.2.1; omega) hx_9
      refine lv_astore (lv' := [(8, .ref (Z (4, k, 0))), (7, .ref (Z (3, p, 0))), (0, .ref (Z (0, 0, 0))), (1, .int x), (2, .int y), (3, .long num), (5, .long d)]) hx hb dX5_back_12 hl (by decide) rfl (fun ls hl => ?_)
      refine lv_aload hx hb dX5_back_14 (lv_at hl 1 rfl) ?_
      refine lv_ifnull hx hb dX5_back_16 ?_
      refine lv_aload hx hb dX5_back_19 (lv_at hl 0 rfl) ?_
      refine lv_ifnull hx hb dX5_back_21 ?_
      refine lv_lload_n hx hb dX5_back_24 rfl (lv_at hl 5 rfl) ?_
      refine vp_callSi (W.runS (As := [.long num]) (rest := []) ⟨hx, hb, hml, hown, hts⟩ (zc_X5_isNumber l num) (va_cwS 1 hts gX5_back_X5_isNumber rfl rfl rfl (by decide +kernel) ⟨Nat.le_of_ble_eq_true rfl, Nat.le_of_ble_eq_true rfl⟩) (zk_preS hH hK hN) rfl rfl hl.1 rfl (lv_room (Nat.le_of_ble_eq_true rfl)) dX5_back_25 ⟨(Nat.le_of_ble_eq_true rfl), (Nat.le_of_ble_eq_true rfl)⟩) (fun r_25 hr_25 => ?_)
      refine lv_if_eq (tgt := 55) hx hb dX5_back_28 (by decide) (fun h_28 => ?_) (fun h_28 => ?_)
      · skip
        have hnum : ¬ (zs_isN num) := zs_b0 hr_25 h_28
        refine lv_iconst (v := 0) hx hb dX5_back_55 (by decide) ?_
        exact zk_zret hx hb hr hlocks (by first | rfl | decide) hH hS (by decide) (by decide) (zs_no hR (by simp only [zs_fback, hx_2, hx_9]; exact if_neg (fun q => hnum q.1))) dX5_back_56
      · skip
        have hnum : zs_isN num := zs_b1 hr_25 h_28
        refine lv_aload_n hx hb dX5_back_31 rfl (lv_at hl 2 rfl) ?_
        refine lv_lload hx hb dX5_back_32 (lv_at hl 6 rfl) ?_
        refine vp_callSi (W.runV (As := [.long d]) (rest := []) ⟨hx, hb, hml, hown, hts⟩ (zc_X5_mayMoveOn l hR hn d) (cwV 1 hts gX5_back_X5_mayMoveOn rfl rfl rfl (by decide +kernel) ⟨Nat.le_of_ble_eq_true rfl, Nat.le_of_ble_eq_true rfl⟩) (zk_preV hH hK hN hO rfl) rfl rfl hl.1 rfl (lv_room (Nat.le_of_ble_eq_true rfl)) dX5_back_34 ⟨(Nat.le_of_ble_eq_true rfl), (Nat.le_of_ble_eq_true rfl)⟩) (fun r_34 hr_34 => ?_)
        refine lv_if_eq (tgt := 55) hx hb dX5_back_37 (by decide) (fun h_37 => ?_) (fun h_37 => ?_)
        · skip
          have hmay : ¬ (zs_isD d ∧ zs_ck X.1 ≤ d) := zs_b0 hr_34 h_37
          refine lv_iconst (v := 0) hx hb dX5_back_55 (by decide) ?_
          exact zk_zret hx hb hr hlocks (by first | rfl | decide) hH hS (by decide) (by decide) (zs_no hR (by simp only [zs_fback, hx_2, hx_9]; exact if_neg (fun q => hmay q.2.1))) dX5_back_56
        · skip
          have hmay : zs_isD d ∧ zs_ck X.1 ≤ d := zs_b1 hr_34 h_37
          refine lv_aload hx hb dX5_back_40 (lv_at hl 1 rfl) ?_
          refine lv_aload hx hb dX5_back_42 (lv_at hl 0 rfl) ?_
          refine lv_ldc2 (v := 100000) hx hb hown (hts (.constantLong RX5 35 (100000)) (by decide +kernel)) dX5_back_44 ?_
          refine vp_callSl (W.runV (As := [.ref (Z (4, k, 0)), .long 100000]) (rest := []) ⟨hx, hb, hml, hown, hts⟩ (zc_X2_piecesUpTo l hR (fun i hi => (hI.2.2.1.1 i hi).2.1) hp hk 100000) (cwV 2 hts gX5_back_X2_piecesUpTo rfl rfl rfl (by decide +kernel) ⟨Nat.le_of_ble_eq_true rfl, Nat.le_of_ble_eq_true rfl⟩) (zk_preV hH hK hN (hR.1 (3, p, 0) ⟨hp, rfl⟩) rfl) rfl rfl hl.1 rfl (lv_room (Nat.le_of_ble_eq_true rfl)) dX5_back_47 ⟨(Nat.le_of_ble_eq_true rfl), (Nat.le_of_ble_eq_true rfl)⟩) (fun r_47 hr_47 => ?_)
          refine lv_lload_n hx hb dX5_back_50 rfl (lv_at hl 5 rfl) ?_
          refine zk_lc_ge (tgt := 57) hx hb dX5_back_51 dX5_back_52 (by decide) (fun h_51 => ?_) (fun h_51 => ?_)
          · skip
            have hen : num ≤ zs_has X.1 p k := by rw [hr_47, zs_pup_has hI.2.2.1] at h_51; exact h_51
            refine lv_aload_n hx hb dX5_back_57 rfl (lv_at hl 2 rfl) ?_
            refine lv_lload hx hb dX5_back_58 (lv_at hl 6 rfl) ?_
            refine lv_aload hx hb dX5_back_60 (lv_at hl 1 rfl) ?_
            refine lv_aload hx hb dX5_back_62 (lv_at hl 0 rfl) ?_
            refine lv_lload_n hx hb dX5_back_64 rfl (lv_at hl 5 rfl) ?_
            refine zk_calll (va_runV (As := [.ref (Z (4, k, 0)), .long num]) (rest := [.long d, .ref (Z (0, 0, 0))]) ⟨hx, hb, hml, hown, hts⟩ (zc_X2_giveBack l hR (fun i hi => (hI.2.2.1.1 i hi).2.1) hp hk num) (cwV 2 hts gX5_back_X2_giveBack rfl rfl rfl (by decide +kernel) ⟨Nat.le_of_ble_eq_true rfl, Nat.le_of_ble_eq_true rfl⟩) (zk_preV hH hK hN (hR.1 (3, p, 0) ⟨hp, rfl⟩) rfl) rfl rfl hl.1 rfl (lv_room (Nat.le_of_ble_eq_true rfl)) dX5_back_65 ⟨(Nat.le_of_ble_eq_true rfl), (Nat.le_of_ble_eq_true rfl)⟩) hS (fun r_65 u_65 H locs hH hr_65 hS => ?_)
            obtain ⟨hr_65, hR2⟩ := hr_65
            subst hr_65
            have hO2 : u_65 (Z (0, 0, 0)) = some (.inr (5, [.ref (Z (3, 0, 0)), .ref (Z (1, 0, 0)), .ref (Z (2, 0, 0)), va_rf (zs_prev (zs_nc X.1) (fun i => Z (7, i, 0))), .int (nI (zs_nc X.1)), .long (zs_ck X.1)])) := hR2.1 (0, 0, 0) ⟨rfl, rfl⟩
            refine lv_aload_n hx hb dX5_back_68 rfl (lv_at hl 2 rfl) ?_
            refine zk_get (ci := 5) (v := .ref (Z (3, 0, 0))) (C := RX5) (T := TX5) (N := 6) hx hb hts inw_wsX5_back_5 hown hK hH hO2 rfl 0 (by decide) (hts (.fieldLink RX5 10 "KegDeposits" "house" "LKegDeposits$Party;") (by decide +kernel)) rfl dX5_back_69 ?_
            refine lv_aload hx hb dX5_back_72 (lv_at hl 1 rfl) ?_
            refine zk_callv (va_runV (As := [.long d, .long ((zs_take X.1 p k num (zs_nl X.1)).2.2), .ref (Z (3, 0, 0)), .ref (Z (3, p, 0))]) (rest := []) ⟨hx, hb, hml, hown, hts⟩ (zc_X5_move l (X := (zs_ll_ X.1 (zs_take X.1 p k num (zs_nl X.1)).1, X.2)) hR2 (zs_I_ll hI (zs_take_dom (fun j hj => (hI.2.2.1.1 j hj).2.2.2.2.1) (Int64.le_trans (by decide) hnum.1) _ (Nat.le_refl _)).1) (x := 0) (y := p) hI.1.1 hp d (zs_take X.1 p k num (zs_nl X.1)).2.2) (cwV 4 hts gX5_back_X5_move rfl rfl rfl (by decide +kernel) ⟨Nat.le_of_ble_eq_true rfl, Nat.le_of_ble_eq_true rfl⟩) (zk_preV hH hK hN hO2 rfl) rfl rfl hl.1 rfl (lv_room (Nat.le_of_ble_eq_true rfl)) dX5_back_74 ⟨(Nat.le_of_ble_eq_true rfl), (Nat.le_of_ble_eq_true rfl)⟩) hS (fun u_74 H locs hH hr_74 hS => ?_)
            refine lv_iconst (v := 1) hx hb dX5_back_77 (by decide) ?_
            exact zk_zret hx hb hr hlocks (by first | rfl | decide) hH hS (by decide) (by decide) (zs_yes (by simp only [zs_fback, hx_2, hx_9]; exact if_pos ⟨hnum, hmay, hen⟩) (zs_P_trans hr_74 (fun _ _ => rfl) (fun _ h => h))) dX5_back_78
          · skip
            have hen : ¬ num ≤ zs_has X.1 p k := by rw [hr_47, zs_pup_has hI.2.2.1] at h_51; exact h_51
            refine lv_iconst (v := 0) hx hb dX5_back_55 (by decide) ?_
            exact zk_zret hx hb hr hlocks (by first | rfl | decide) hH hS (by decide) (by decide) (zs_no hR (by simp only [zs_fback, hx_2, hx_9]; exact if_neg (fun q => hen q.2.2))) dX5_back_56

theorem inw_wsX5_sampled_5 : ∀ w ∈ u_ws RX5 TX5 6, w ∈ wsX5_sampled := by decide +kernel
set_option maxHeartbeats 4000000 in
set_option maxRecDepth 100000 in
theorem zc_X5_sampled (l : Launch) {g : zk_G} {z : Nat} {M : zk_M} {X : zs_X} {Z : zs_Z} {n : Nat} (hR : zs_R g X Z M) (hI : zs_I X.1 n) (hn : zs_nc X.1 < 512) (x : Int32) (num d : Int64) : Met l yX5_sampled wsX5_sampled ({ frames := 3, cells := 1, slots := 5, locals := 79 } : Room) (va_Pc [.ref (Z (0, 0, 0)), .int x, .long num, .long d] (zk_U g z M)) (va_Qi (fun r u => r = (zs_fsampled X.1 x num d).1 ∧ zs_P g X Z ((zs_fsampled X.1 x num d).2, X.2) u) (zk_B g z) (fun q => z ≤ q)) 1 5 (fun q => z ≤ q) := by
  refine Met.ofW (cc := cX5_sampled) (maxL := 7) (ret := (some .boolean)) (by decide) rfl ?_
  intro P0 e0 s m0 args below meth c0 s₁ B hml hv
  obtain ⟨rfl, hH, hK, hN⟩ := hv
  have hx := B.exec
  have hb := B.bytes
  have hr := B.returns
  have hts := atoms_spec (ws := wsX5_sampled) B.pre
  have hown : s.vm.findClass RX5 = some m0.cls := findClass_of_methodNamed B.named
  have hlocks := B.notSynchronized
  have hS : va_S (fun q => z ≤ q) s.heap s.heap [] := va_S.rf
  have hl := lv_entry ([.ref (Z (0, 0, 0)), .int x, .long num, .long d]) (n := 7) (Nat.le_of_ble_eq_true rfl)
  rw [lg_entry_eq]
  generalize (lg_sl ([.ref (Z (0, 0, 0)), .int x, .long num, .long d]) ++ List.replicate (7 - (lg_sl ([.ref (Z (0, 0, 0)), .int x, .long num, .long d])).length) Slot.unset).toArray = ls at hl ⊢
  have hl : lv_has ls 7 [(0, .ref (Z (0, 0, 0))), (1, .int x), (2, .long num), (4, .long d)] := hl
  have hO : M (Z (0, 0, 0)) = some (.inr (5, [.ref (Z (3, 0, 0)), .ref (Z (1, 0, 0)), .ref (Z (2, 0, 0)), va_rf (zs_prev (zs_nc X.1) (fun i => Z (7, i, 0))), .int (nI (zs_nc X.1)), .long (zs_ck X.1)])) := hR.1 (0, 0, 0) ⟨rfl, rfl⟩
  refine lv_aload_n hx hb dX5_sampled_0 rfl (lv_at hl 0 rfl) ?_
  refine lv_iload_n hx hb dX5_sampled_1 rfl (lv_at hl 1 rfl) ?_
  refine va_csq (W.runV (As := [.int x]) (rest := []) ⟨hx, hb, hml, hown, hts⟩ (zc_X5_customerAt l hR hI.1.2.1 x) (cwV 1 hts gX5_sampled_X5_customerAt rfl rfl rfl (by decide +kernel) ⟨Nat.le_of_ble_eq_true rfl, Nat.le_of_ble_eq_true rfl⟩) (zk_preV hH hK hN hO rfl) rfl rfl hl.1 rfl (lv_room (Nat.le_of_ble_eq_true rfl)) dX5_sampled_2 ⟨(Nat.le_of_ble_eq_true rfl), (Nat.le_of_ble_eq_true rfl)⟩) (fun r_2 hr_2 => ?_)
  cases hx_2 : zs_cx (zs_np X.1) x with
  | none =>
    refine zk_top (v' := .null) (by rw [hr_2, hx_2]; rfl) ?_
    refine lv_astoreN (lv' := [(6, .null), (0, .ref (Z (0, 0, 0))), (1, .int x), (2, .long num), (4, .long d)]) hx hb dX5_sampled_5 hl (by decide) rfl (fun ls hl => ?_)
    refine lv_aloadN hx hb dX5_sampled_7 (lv_at hl 0 rfl) ?_
    refine lv_ifnullN (tgt := 45) hx hb dX5_sampled_9 (by decide) ?_
    refine lv_iconst (v := 0) hx hb dX5_sampled_45 (by decide) ?_
    exact zk_zret hx hb hr hlocks (by first | rfl | decide) hH hS (by decide) (by decide) (zs_no hR (by simp only [zs_fsampled, hx_2])) dX5_sampled_46
  | some p =>
    refine zk_top (v' := .ref (Z (3, p, 0))) (by rw [hr_2, hx_2]; rfl) ?_
    obtain ⟨hp, ex_p, hz_p⟩ := zs_cx_some (by have := hI.1.2.1; omega) hx_2
    refine lv_astore (lv' := [(6, .ref (Z (3, p, 0))), (0, .ref (Z (0, 0, 0))), (1, .int x), (2, .long num), (4, .long d)]) hx hb dX5_sampled_5 hl (by decide) rfl (fun ls hl => ?_)
    refine lv_aload hx hb dX5_sampled_7 (lv_at hl 0 rfl) ?_
    refine lv_ifnull hx hb dX5_sampled_9 ?_
    refine lv_lload_n hx hb dX5_sampled_12 rfl (lv_at hl 3 rfl) ?_
    refine vp_callSi (W.runS (As := [.long num]) (rest := []) ⟨hx, hb, hml, hown, hts⟩ (zc_X5_isNumber l num) (va_cwS 1 hts gX5_sampled_X5_isNumber rfl rfl rfl (by decide +kernel) ⟨Nat.le_of_ble_eq_true rfl, Nat.le_of_ble_eq_true rfl⟩) (zk_preS hH hK hN) rfl rfl hl.1 rfl (lv_room (Nat.le_of_ble_eq_true rfl)) dX5_sampled_13 ⟨(Nat.le_of_ble_eq_true rfl), (Nat.le_of_ble_eq_true rfl)⟩) (fun r_13 hr_13 => ?_)
    refine lv_if_eq (tgt := 45) hx hb dX5_sampled_16 (by decide) (fun h_16 => ?_) (fun h_16 => ?_)
    · skip
      have hnum : ¬ (zs_isN num) := zs_b0 hr_13 h_16
      refine lv_iconst (v := 0) hx hb dX5_sampled_45 (by decide) ?_
      exact zk_zret hx hb hr hlocks (by first | rfl | decide) hH hS (by decide) (by decide) (zs_no hR (by simp only [zs_fsampled, hx_2]; exact if_neg (fun q => hnum q.1))) dX5_sampled_46
    · skip
      have hnum : zs_isN num := zs_b1 hr_13 h_16
      refine lv_aload_n hx hb dX5_sampled_19 rfl (lv_at hl 1 rfl) ?_
      refine lv_lload hx hb dX5_sampled_20 (lv_at hl 4 rfl) ?_
      refine vp_callSi (W.runV (As := [.long d]) (rest := []) ⟨hx, hb, hml, hown, hts⟩ (zc_X5_mayMoveOn l hR hn d) (cwV 1 hts gX5_sampled_X5_mayMoveOn rfl rfl rfl (by decide +kernel) ⟨Nat.le_of_ble_eq_true rfl, Nat.le_of_ble_eq_true rfl⟩) (zk_preV hH hK hN hO rfl) rfl rfl hl.1 rfl (lv_room (Nat.le_of_ble_eq_true rfl)) dX5_sampled_22 ⟨(Nat.le_of_ble_eq_true rfl), (Nat.le_of_ble_eq_true rfl)⟩) (fun r_22 hr_22 => ?_)
      refine lv_if_eq (tgt := 45) hx hb dX5_sampled_25 (by decide) (fun h_25 => ?_) (fun h_25 => ?_)
      · skip
        have hmay : ¬ (zs_isD d ∧ zs_ck X.1 ≤ d) := zs_b0 hr_22 h_25
        refine lv_iconst (v := 0) hx hb dX5_sampled_45 (by decide) ?_
        exact zk_zret hx hb hr hlocks (by first | rfl | decide) hH hS (by decide) (by decide) (zs_no hR (by simp only [zs_fsampled, hx_2]; exact if_neg (fun q => hmay q.2.1))) dX5_sampled_46
      · skip
        have hmay : zs_isD d ∧ zs_ck X.1 ≤ d := zs_b1 hr_22 h_25
        refine lv_aload_n hx hb dX5_sampled_28 rfl (lv_at hl 1 rfl) ?_
        refine vp_callSi (W.runV (As := []) (rest := []) ⟨hx, hb, hml, hown, hts⟩ (zc_X5_sharesMakeOne l hR hI.2.1 hI.1.2.2.1) (cwV 0 hts gX5_sampled_X5_sharesMakeOne rfl rfl rfl (by decide +kernel) ⟨Nat.le_of_ble_eq_true rfl, Nat.le_of_ble_eq_true rfl⟩) (zk_preV hH hK hN hO rfl) rfl rfl hl.1 rfl (lv_room (Nat.le_of_ble_eq_true rfl)) dX5_sampled_29 ⟨(Nat.le_of_ble_eq_true rfl), (Nat.le_of_ble_eq_true rfl)⟩) (fun r_29 hr_29 => ?_)
        refine lv_if_eq (tgt := 45) hx hb dX5_sampled_32 (by decide) (fun h_32 => ?_) (fun h_32 => ?_)
        · skip
          have hone : ¬ (zs_sum (zs_sh X.1) (zs_nk X.1) = 10000) := zs_b0 hr_29 h_32
          refine lv_iconst (v := 0) hx hb dX5_sampled_45 (by decide) ?_
          exact zk_zret hx hb hr hlocks (by first | rfl | decide) hH hS (by decide) (by decide) (zs_no hR (by simp only [zs_fsampled, hx_2]; exact if_neg (fun q => hone q.2.2.1))) dX5_sampled_46
        · skip
          have hone : zs_sum (zs_sh X.1) (zs_nk X.1) = 10000 := zs_b1 hr_29 h_32
          refine lv_aload_n hx hb dX5_sampled_35 rfl (lv_at hl 1 rfl) ?_
          refine lv_aload hx hb dX5_sampled_36 (lv_at hl 0 rfl) ?_
          refine lv_lload_n hx hb dX5_sampled_38 rfl (lv_at hl 3 rfl) ?_
          refine vp_callSi (W.runV (As := [.ref (Z (3, p, 0)), .long num]) (rest := []) ⟨hx, hb, hml, hown, hts⟩ (zc_X5_hasLot l hR hI.2.2.1 hI.1.2.2.1 hp num) (cwV 2 hts gX5_sampled_X5_hasLot rfl rfl rfl (by decide +kernel) ⟨Nat.le_of_ble_eq_true rfl, Nat.le_of_ble_eq_true rfl⟩) (zk_preV hH hK hN hO rfl) rfl rfl hl.1 rfl (lv_room (Nat.le_of_ble_eq_true rfl)) dX5_sampled_39 ⟨(Nat.le_of_ble_eq_true rfl), (Nat.le_of_ble_eq_true rfl)⟩) (fun r_39 hr_39 => ?_)
          refine lv_if_ne (tgt := 47) hx hb dX5_sampled_42 (by decide) (fun h_42 => ?_) (fun h_42 => ?_)
          · skip
            have hen : zs_enough X.1 p num (zs_nk X.1) = true := zs_b1 hr_39 h_42
            refine lv_aload_n hx hb dX5_sampled_47 rfl (lv_at hl 1 rfl) ?_
            refine lv_lload hx hb dX5_sampled_48 (lv_at hl 4 rfl) ?_
            refine lv_aload_n hx hb dX5_sampled_50 rfl (lv_at hl 1 rfl) ?_
            refine lv_aload hx hb dX5_sampled_51 (lv_at hl 0 rfl) ?_
            refine lv_lload_n hx hb dX5_sampled_53 rfl (lv_at hl 3 rfl) ?_
            refine zk_calll (va_runV (As := [.ref (Z (3, p, 0)), .long num]) (rest := [.long d, .ref (Z (0, 0, 0))]) ⟨hx, hb, hml, hown, hts⟩ (zc_X5_giveBackLot l hR hI.2.2.1 hI.1.2.2.1 hp num) (cwV 2 hts gX5_sampled_X5_giveBackLot rfl rfl rfl (by decide +kernel) ⟨Nat.le_of_ble_eq_true rfl, Nat.le_of_ble_eq_true rfl⟩) (zk_preV hH hK hN hO rfl) rfl rfl hl.1 rfl (lv_room (Nat.le_of_ble_eq_true rfl)) dX5_sampled_54 ⟨(Nat.le_of_ble_eq_true rfl), (Nat.le_of_ble_eq_true rfl)⟩) hS (fun r_54 u_54 H locs hH hr_54 hS => ?_)
            obtain ⟨hr_54, hR2⟩ := hr_54
            subst hr_54
            have hO2 : u_54 (Z (0, 0, 0)) = some (.inr (5, [.ref (Z (3, 0, 0)), .ref (Z (1, 0, 0)), .ref (Z (2, 0, 0)), va_rf (zs_prev (zs_nc X.1) (fun i => Z (7, i, 0))), .int (nI (zs_nc X.1)), .long (zs_ck X.1)])) := hR2.1 (0, 0, 0) ⟨rfl, rfl⟩
            refine lv_aload_n hx hb dX5_sampled_57 rfl (lv_at hl 1 rfl) ?_
            refine zk_get (ci := 5) (v := .ref (Z (3, 0, 0))) (C := RX5) (T := TX5) (N := 6) hx hb hts inw_wsX5_sampled_5 hown hK hH hO2 rfl 0 (by decide) (hts (.fieldLink RX5 10 "KegDeposits" "house" "LKegDeposits$Party;") (by decide +kernel)) rfl dX5_sampled_58 ?_
            refine lv_aload hx hb dX5_sampled_61 (lv_at hl 0 rfl) ?_
            refine zk_callv (va_runV (As := [.long d, .long ((zs_lot X.1 p num (zs_nk X.1)).2.2), .ref (Z (3, 0, 0)), .ref (Z (3, p, 0))]) (rest := []) ⟨hx, hb, hml, hown, hts⟩ (zc_X5_move l (X := (zs_rs_ (zs_ll_ X.1 (zs_lot X.1 p num (zs_nk X.1)).1) (zs_lot X.1 p num (zs_nk X.1)).2.1, X.2)) hR2 (zs_I_lot hI hnum) (x := 0) (y := p) hI.1.1 hp d (zs_lot X.1 p num (zs_nk X.1)).2.2) (cwV 4 hts gX5_sampled_X5_move rfl rfl rfl (by decide +kernel) ⟨Nat.le_of_ble_eq_true rfl, Nat.le_of_ble_eq_true rfl⟩) (zk_preV hH hK hN hO2 rfl) rfl rfl hl.1 rfl (lv_room (Nat.le_of_ble_eq_true rfl)) dX5_sampled_63 ⟨(Nat.le_of_ble_eq_true rfl), (Nat.le_of_ble_eq_true rfl)⟩) hS (fun u_63 H locs hH hr_63 hS => ?_)
            refine lv_iconst (v := 1) hx hb dX5_sampled_66 (by decide) ?_
            exact zk_zret hx hb hr hlocks (by first | rfl | decide) hH hS (by decide) (by decide) (zs_yes (by simp only [zs_fsampled, hx_2]; exact if_pos ⟨hnum, hmay, hone, hen⟩) (zs_P_trans hr_63 (fun _ _ => rfl) (fun _ h => h))) dX5_sampled_67
          · skip
            have hen : ¬ (zs_enough X.1 p num (zs_nk X.1) = true) := zs_b0 hr_39 h_42
            refine lv_iconst (v := 0) hx hb dX5_sampled_45 (by decide) ?_
            exact zk_zret hx hb hr hlocks (by first | rfl | decide) hH hS (by decide) (by decide) (zs_no hR (by simp only [zs_fsampled, hx_2]; exact if_neg (fun q => hen q.2.2.2))) dX5_sampled_46
end
section
theorem zc_X5_move_at (l : Launch) {g : zk_G} {z : Nat} {M : zk_M} {X : zs_X} {Z : zs_Z} {n : Nat} (hR : zs_R g X Z M) (hI : zs_I X.1 n) {x y : Nat} (hx0 : x < zs_np X.1) (hy0 : y < zs_np X.1) (d c : Int64) {o ax ay : Nat} (eo : o = Z (0, 0, 0)) (ex : ax = Z (3, x, 0)) (ey : ay = Z (3, y, 0)) : Met l yX5_move wsX5_move ({ frames := 2, cells := 1, slots := 5, locals := 39 } : Room) (va_Pc [.ref o, .long d, .long c, .ref ax, .ref ay] (zk_U g z M)) (va_Qv (fun u => zs_P g X Z (zs_mv X.1 x y c d, X.2) u) (zk_B g z) (fun q => z ≤ q)) 1 5 (fun q => z ≤ q) := by
  subst eo; subst ex; subst ey
  exact zc_X5_move l hR hI hx0 hy0 d c
theorem zs_ne {g : zk_G} {X : zs_X} {Z : zs_Z} {M : zk_M} (hR : zs_R g X Z M) {q r : zs_L} (hq : zs_ok X q) (hr : zs_ok X r) (h : q ≠ r) : Z q ≠ Z r := fun e => h (hR.2 q r hq hr e)
theorem zs_gcd_step {x y i : Nat} (hy : 0 < y) (hyx : y < x) (h : x * y * 2 ^ i ≤ 100000000) : y * (x % y) * 2 ^ (i + 1) ≤ 100000000 := by
  have h1 : x % y < y := Nat.mod_lt x hy
  have h2 : y + x % y ≤ x := by
    have := Nat.div_add_mod x y
    have h3 : 1 ≤ x / y := (Nat.one_le_div_iff hy).mpr (Nat.le_of_lt hyx)
    have h4 : y * 1 ≤ y * (x / y) := Nat.mul_le_mul_left y h3
    omega
  have h5 : 2 * (x % y) ≤ x := by omega
  calc y * (x % y) * 2 ^ (i + 1) = y * (2 * (x % y)) * 2 ^ i := by rw [Nat.pow_succ]; ac_rfl
    _ ≤ y * x * 2 ^ i := Nat.mul_le_mul_right _ (Nat.mul_le_mul_left y h5)
    _ = x * y * 2 ^ i := by rw [Nat.mul_comm y x]
    _ ≤ _ := h
theorem zs_gcd_end {x y : Nat} (hx : 0 < x) (h : x * y * 2 ^ 100 ≤ 100000000) : y = 0 := by
  rcases Nat.eq_zero_or_pos y with q | q
  · exact q
  · exfalso
    have h1 : 1 ≤ x * y := Nat.mul_pos hx q
    have h2 : 1 * 2 ^ 100 ≤ x * y * 2 ^ 100 := Nat.mul_le_mul_right _ h1
    have h3 : (100000000 : Nat) < 1 * 2 ^ 100 := by decide
    omega
theorem zs_lost_all {S : zs_S} (hI : zs_Il S) (hnp : zs_np S ≤ 24) (k : Nat) (d : Int64) : zs_sum (fun p => if p < zs_np S then zs_pup S p k d else 0) 24 = zs_sum (zs_lostf S k d) (zs_nl S) := by
  rw [zs_sum_to (a := zs_np S) hnp (fun j h1 h2 => if_neg (by omega)), ← zs_sum_swap (lp := zs_lp S) (b := zs_lostf S k d) (P := zs_np S) (zs_nl S) (fun i hi => (hI.1 i hi).1)]
  refine zs_sum_congr _ (fun p hp => ?_)
  rw [if_pos hp]
  refine zs_sum_congr _ (fun i _ => ?_)
  unfold zs_pupf zs_lostf
  by_cases h1 : zs_lp S i = p <;> by_cases h2 : zs_lk S i = k <;> by_cases h3 : zs_ld S i ≤ d <;> simp [h1, h2, h3]
theorem zs_sum_neg {f : Nat → Int64} (n : Nat) : zs_sum (fun i => -f i) n + zs_sum f n = 0 := by
  rw [← zs_sum_add]
  rw [zs_sum_congr (g := fun _ => 0) n (fun j _ => Int64.add_left_neg (f j))]
  exact zs_sum_to (a := 0) (Nat.zero_le _) (fun _ _ _ => rfl)
theorem zs_bal_all {S : zs_S} (hI : zs_It S) (hnp : zs_np S ≤ 24) (d : Int64) : zs_sum (fun p => if p < zs_np S then zs_bal S p d else 0) 24 = 0 := by
  rw [zs_sum_to (a := zs_np S) hnp (fun j h1 h2 => if_neg (by omega))]
  have e : ∀ p, p < zs_np S → (if p < zs_np S then zs_bal S p d else 0) = zs_sum (fun i => if zs_tp S i = p then (if zs_td S i ≤ d then -zs_ta S i else 0) else 0) (zs_nc S) + zs_sum (fun i => if zs_tt S i = p then (if zs_td S i ≤ d then zs_ta S i else 0) else 0) (zs_nc S) := by
    intro p hp
    rw [if_pos hp, ← zs_sum_add]
    refine zs_sum_congr _ (fun i hi => ?_)
    have h3 := (hI i hi).2.2
    unfold zs_balf zs_chg
    by_cases h1 : zs_td S i ≤ d
    · by_cases h2 : zs_tp S i = p
      · have h4 : ¬ zs_tt S i = p := fun q => h3 (h2.trans q.symm)
        simp [h1, h2, h4]
      · by_cases h4 : zs_tt S i = p <;> simp [h1, h2, h4]
    · simp [h1]
  rw [zs_sum_congr _ e, zs_sum_add, zs_sum_swap (lp := zs_tp S) (P := zs_np S) _ (fun i hi => (hI i hi).1), zs_sum_swap (lp := zs_tt S) (P := zs_np S) _ (fun i hi => (hI i hi).2.1)]
  rw [zs_sum_congr (g := fun i => -(if zs_td S i ≤ d then zs_ta S i else 0)) (f := fun i => if zs_td S i ≤ d then -zs_ta S i else 0) _ (fun i _ => by by_cases h1 : zs_td S i ≤ d <;> simp [h1])]
  exact zs_sum_neg _
theorem zs_ok_lay {X : zs_X} {p k : Nat} {num d c : Int64} (q : zs_L) (h : zs_ok X q) : zs_ok (zs_lay X.1 p k num d c, X.2) q := by
  rcases q with ⟨t, i, b⟩
  match t with
  | 6 => exact ⟨Nat.lt_succ_of_lt h.1, h.2⟩
  | 0 | 1 | 2 | 3 | 4 | 5 | 7 | 8 => exact h
  | n + 9 => exact h
theorem zs_rn_of {S : zs_S} {k : Nat} (h0 : 0 ≤ zs_rs S k) (h1 : zs_rs S k < 10000) : zs_rs S k = lN (zs_rn S k) ∧ zs_rn S k < 10000 := by
  obtain ⟨r, r1, e⟩ := pk_lOf (Int64.not_lt.mpr h0)
  have h2 : r < 10000 := (pk_lLT r1 (by decide)).mp (by rw [← e]; exact h1)
  have h3 : zs_rn S k = r := by unfold zs_rn; rw [e, pk_lT r1]; rfl
  rw [h3]
  exact ⟨e, h2⟩
theorem inw_wsX5_out_1 : ∀ w ∈ u_ws RX1 TX1 5, w ∈ wsX5_out := by decide +kernel
theorem inw_wsX5_out_5 : ∀ w ∈ u_ws RX5 TX5 6, w ∈ wsX5_out := by decide +kernel
set_option maxHeartbeats 4000000 in
set_option maxRecDepth 100000 in
theorem zc_X5_out (l : Launch) {g : zk_G} {z : Nat} {M : zk_M} {X : zs_X} {Z : zs_Z} {n : Nat} (hR : zs_R g X Z M) (hI : zs_I X.1 n) (hn : zs_nc X.1 < 512) (hnl : zs_nl X.1 < n) (x y : Int32) (num d : Int64) : Met l yX5_out wsX5_out ({ frames := 3, cells := 2, slots := 10, locals := 65 } : Room) (va_Pc [.ref (Z (0, 0, 0)), .int x, .int y, .long num, .long d] (zk_U g z M)) (va_Qi (fun r u => r = (zs_fout X.1 x y num d).1 ∧ zs_P g X Z ((zs_fout X.1 x y num d).2, X.2) u) (zk_B g z) (fun q => z ≤ q)) 2 10 (fun q => z ≤ q) := by
  refine Met.ofW (cc := cX5_out) (maxL := 11) (ret := (some .boolean)) (by decide) rfl ?_
  intro P0 e0 s m0 args below meth c0 s₁ B hml hv
  obtain ⟨rfl, hH, hK, hN⟩ := hv
  have hx := B.exec
  have hb := B.bytes
  have hr := B.returns
  have hts := atoms_spec (ws := wsX5_out) B.pre
  have hown : s.vm.findClass RX5 = some m0.cls := findClass_of_methodNamed B.named
  have hlocks := B.notSynchronized
  have hS : va_S (fun q => z ≤ q) s.heap s.heap [] := va_S.rf
  have hl := lv_entry ([.ref (Z (0, 0, 0)), .int x, .int y, .long num, .long d]) (n := 11) (Nat.le_of_ble_eq_true rfl)
  rw [lg_entry_eq]
  generalize (lg_sl ([.ref (Z (0, 0, 0)), .int x, .int y, .long num, .long d]) ++ List.replicate (11 - (lg_sl ([.ref (Z (0, 0, 0)), .int x, .int y, .long num, .long d])).length) Slot.unset).toArray = ls at hl ⊢
  have hl : lv_has ls 11 [(0, .ref (Z (0, 0, 0))), (1, .int x), (2, .int y), (3, .long num), (5, .long d)] := hl
  have hO : M (Z (0, 0, 0)) = some (.inr (5, [.ref (Z (3, 0, 0)), .ref (Z (1, 0, 0)), .ref (Z (2, 0, 0)), va_rf (zs_prev (zs_nc X.1) (fun i => Z (7, i, 0))), .int (nI (zs_nc X.1)), .long (zs_ck X.1)])) := hR.1 (0, 0, 0) ⟨rfl, rfl⟩
  refine lv_aload_n hx hb dX5_out_0 rfl (lv_at hl 0 rfl) ?_
  refine lv_iload_n hx hb dX5_out_1 rfl (lv_at hl 1 rfl) ?_
  refine va_csq (W.runV (As := [.int x]) (rest := []) ⟨hx, hb, hml, hown, hts⟩ (zc_X5_customerAt l hR hI.1.2.1 x) (cwV 1 hts gX5_out_X5_customerAt rfl rfl rfl (by decide +kernel) ⟨Nat.le_of_ble_eq_true rfl, Nat.le_of_ble_eq_true rfl⟩) (zk_preV hH hK hN hO rfl) rfl rfl hl.1 rfl (lv_room (Nat.le_of_ble_eq_true rfl)) dX5_out_2 ⟨(Nat.le_of_ble_eq_true rfl), (Nat.le_of_ble_eq_true rfl)⟩) (fun r_2 hr_2 => ?_)
  cases hx_2 : zs_cx (zs_np X.1) x with
  | none =>
    refine zk_top (v' := .null) (by rw [hr_2, hx_2]; rfl) ?_
    refine lv_astoreN (lv' := [(7, .null), (0, .ref (Z (0, 0, 0))), (1, .int x), (2, .int y), (3, .long num), (5, .long d)]) hx hb dX5_out_5 hl (by decide) rfl (fun ls hl => ?_)
    refine lv_aload_n hx hb dX5_out_7 rfl (lv_at hl 1 rfl) ?_
    refine lv_iload_n hx hb dX5_out_8 rfl (lv_at hl 3 rfl) ?_
    refine va_csq (W.runV (As := [.int y]) (rest := []) ⟨hx, hb, hml, hown, hts⟩ (zc_X5_kindAt l hR hI.1.2.2.1 y) (cwV 1 hts gX5_out_X5_kindAt rfl rfl rfl (by decide +kernel) ⟨Nat.le_of_ble_eq_true rfl, Nat.le_of_ble_eq_true rfl⟩) (zk_preV hH hK hN hO rfl) rfl rfl hl.1 rfl (lv_room (Nat.le_of_ble_eq_true rfl)) dX5_out_9 ⟨(Nat.le_of_ble_eq_true rfl), (Nat.le_of_ble_eq_true rfl)⟩) (fun r_9 hr_9 => ?_)
    refine zk_astore (lv' := [(8, va_rf r_9), (7, .null), (0, .ref (Z (0, 0, 0))), (1, .int x), (2, .int y), (3, .long num), (5, .long d)]) hx hb dX5_out_12 hl (by decide) rfl (fun ls hl => ?_)
    refine lv_aloadN hx hb dX5_out_14 (lv_at hl 1 rfl) ?_
    refine lv_ifnullN (tgt := 50) hx hb dX5_out_16 (by decide) ?_
    refine lv_iconst (v := 0) hx hb dX5_out_50 (by decide) ?_
    exact zk_zret hx hb hr hlocks (by first | rfl | decide) hH hS (by decide) (by decide) (zs_no hR (by simp only [zs_fout, hx_2])) dX5_out_51
  | some p =>
    refine zk_top (v' := .ref (Z (3, p, 0))) (by rw [hr_2, hx_2]; rfl) ?_
    obtain ⟨hp, ex_p, hz_p⟩ := zs_cx_some (by have := hI.1.2.1; omega) hx_2
    refine lv_astore (lv' := [(7, .ref (Z (3, p, 0))), (0, .ref (Z (0, 0, 0))), (1, .int x), (2, .int y), (3, .long num), (5, .long d)]) hx hb dX5_out_5 hl (by decide) rfl (fun ls hl => ?_)
    refine lv_aload_n hx hb dX5_out_7 rfl (lv_at hl 1 rfl) ?_
    refine lv_iload_n hx hb dX5_out_8 rfl (lv_at hl 3 rfl) ?_
    refine va_csq (W.runV (As := [.int y]) (rest := []) ⟨hx, hb, hml, hown, hts⟩ (zc_X5_kindAt l hR hI.1.2.2.1 y) (cwV 1 hts gX5_out_X5_kindAt rfl rfl rfl (by decide +kernel) ⟨Nat.le_of_ble_eq_true rfl, Nat.le_of_ble_eq_true rfl⟩) (zk_preV hH hK hN hO rfl) rfl rfl hl.1 rfl (lv_room (Nat.le_of_ble_eq_true rfl)) dX5_out_9 ⟨(Nat.le_of_ble_eq_true rfl), (Nat.le_of_ble_eq_true rfl)⟩) (fun r_9 hr_9 => ?_)
    cases hx_9 : zs_ix (zs_nk X.1) y with
    | none =>
      refine zk_top (v' := .null) (by rw [hr_9, hx_9]; rfl) ?_
      refine lv_astoreN (lv' := [(8, .null), (7, .ref (Z (3, p, 0))), (0, .ref (Z (0, 0, 0))), (1, .int x), (2, .int y), (3, .long num), (5, .long d)]) hx hb dX5_out_12 hl (by decide) rfl (fun ls hl => ?_)
      refine lv_aload hx hb dX5_out_14 (lv_at hl 1 rfl) ?_
      refine lv_ifnull hx hb dX5_out_16 ?_
      refine lv_aloadN hx hb dX5_out_19 (lv_at hl 0 rfl) ?_
      refine lv_ifnullN (tgt := 50) hx hb dX5_out_21 (by decide) ?_
      refine lv_iconst (v := 0) hx hb dX5_out_50 (by decide) ?_
      exact zk_zret hx hb hr hlocks (by first | rfl | decide) hH hS (by decide) (by decide) (zs_no hR (by simp only [zs_fout, hx_2, hx_9])) dX5_out_51
    | some k =>
      refine zk_top (v' := .ref (Z (4, k, 0))) (by rw [hr_9, hx_9]; rfl) ?_
      obtain ⟨hk, ex_k⟩ := zs_ix_some (by have := hI.1.2.1; have := hI.1.2.2.1; omega) hx_9
      refine lv_astore (lv' := [(8, .ref (Z (4, k, 0))), (7, .ref (Z (3, p, 0))), (0, .ref (Z (0, 0, 0))), (1, .int x), (2, .int y), (3, .long num), (5, .long d)]) hx hb dX5_out_12 hl (by decide) rfl (fun ls hl => ?_)
      refine lv_aload hx hb dX5_out_14 (lv_at hl 1 rfl) ?_
      refine lv_ifnull hx hb dX5_out_16 ?_
      refine lv_aload hx hb dX5_out_19 (lv_at hl 0 rfl) ?_
      refine lv_ifnull hx hb dX5_out_21 ?_
      refine lv_lload_n hx hb dX5_out_24 rfl (lv_at hl 5 rfl) ?_
      refine vp_callSi (W.runS (As := [.long num]) (rest := []) ⟨hx, hb, hml, hown, hts⟩ (zc_X5_isNumber l num) (va_cwS 1 hts gX5_out_X5_isNumber rfl rfl rfl (by decide +kernel) ⟨Nat.le_of_ble_eq_true rfl, Nat.le_of_ble_eq_true rfl⟩) (zk_preS hH hK hN) rfl rfl hl.1 rfl (lv_room (Nat.le_of_ble_eq_true rfl)) dX5_out_25 ⟨(Nat.le_of_ble_eq_true rfl), (Nat.le_of_ble_eq_true rfl)⟩) (fun r_25 hr_25 => ?_)
      refine lv_if_eq (tgt := 50) hx hb dX5_out_28 (by decide) (fun h_28 => ?_) (fun h_28 => ?_)
      · skip
        have hnum : ¬ (zs_isN num) := zs_b0 hr_25 h_28
        refine lv_iconst (v := 0) hx hb dX5_out_50 (by decide) ?_
        exact zk_zret hx hb hr hlocks (by first | rfl | decide) hH hS (by decide) (by decide) (zs_no hR (by simp only [zs_fout, hx_2, hx_9]; exact if_neg (fun q => hnum q.1))) dX5_out_51
      · skip
        have hnum : zs_isN num := zs_b1 hr_25 h_28
        refine lv_aload_n hx hb dX5_out_31 rfl (lv_at hl 2 rfl) ?_
        refine lv_lload hx hb dX5_out_32 (lv_at hl 6 rfl) ?_
        refine vp_callSi (W.runV (As := [.long d]) (rest := []) ⟨hx, hb, hml, hown, hts⟩ (zc_X5_mayMoveOn l hR hn d) (cwV 1 hts gX5_out_X5_mayMoveOn rfl rfl rfl (by decide +kernel) ⟨Nat.le_of_ble_eq_true rfl, Nat.le_of_ble_eq_true rfl⟩) (zk_preV hH hK hN hO rfl) rfl rfl hl.1 rfl (lv_room (Nat.le_of_ble_eq_true rfl)) dX5_out_34 ⟨(Nat.le_of_ble_eq_true rfl), (Nat.le_of_ble_eq_true rfl)⟩) (fun r_34 hr_34 => ?_)
        refine lv_if_eq (tgt := 50) hx hb dX5_out_37 (by decide) (fun h_37 => ?_) (fun h_37 => ?_)
        · skip
          have hmay : ¬ (zs_isD d ∧ zs_ck X.1 ≤ d) := zs_b0 hr_34 h_37
          refine lv_iconst (v := 0) hx hb dX5_out_50 (by decide) ?_
          exact zk_zret hx hb hr hlocks (by first | rfl | decide) hH hS (by decide) (by decide) (zs_no hR (by simp only [zs_fout, hx_2, hx_9]; exact if_neg (fun q => hmay q.2.1))) dX5_out_51
        · skip
          have hmay : zs_isD d ∧ zs_ck X.1 ≤ d := zs_b1 hr_34 h_37
          refine lv_aload_n hx hb dX5_out_40 rfl (lv_at hl 2 rfl) ?_
          refine vp_callSi (W.runV (As := []) (rest := []) ⟨hx, hb, hml, hown, hts⟩ (zc_X5_layersInUse l hR hI.2.2.1 hI.1.2.1) (cwV 0 hts gX5_out_X5_layersInUse rfl rfl rfl (by decide +kernel) ⟨Nat.le_of_ble_eq_true rfl, Nat.le_of_ble_eq_true rfl⟩) (zk_preV hH hK hN hO rfl) rfl rfl hl.1 rfl (lv_room (Nat.le_of_ble_eq_true rfl)) dX5_out_41 ⟨(Nat.le_of_ble_eq_true rfl), (Nat.le_of_ble_eq_true rfl)⟩) (fun r_41 hr_41 => ?_)
          refine lv_sipush (v := 400) hx hb dX5_out_44 (by decide) ?_
          refine lv_icmp_lt (tgt := 52) hx hb dX5_out_47 (by decide) (fun h_47 => ?_) (fun h_47 => ?_)
          · skip
            have hcn : zs_cnt (zs_ll X.1) (zs_nl X.1) < 400 := Decidable.byContradiction (fun q => nI_nlt (a := zs_cnt (zs_ll X.1) (zs_nl X.1)) (b := 400) (Nat.not_lt.mp q) (by have := hI.2.2.1.2; omega) (by rw [hr_41] at h_47; exact h_47))
            refine lv_aload hx hb dX5_out_52 (lv_at hl 0 rfl) ?_
            refine lv_lload hx hb dX5_out_54 (lv_at hl 6 rfl) ?_
            refine vp_callSl (W.runV (As := [.long d]) (rest := []) ⟨hx, hb, hml, hown, hts⟩ (zc_X0_priceOn l hR hI.2.1 hk d) (cwV 1 hts gX5_out_X0_priceOn rfl rfl rfl (by decide +kernel) ⟨Nat.le_of_ble_eq_true rfl, Nat.le_of_ble_eq_true rfl⟩) (zk_preV hH hK hN (hR.1 (4, k, 0) ⟨hk, rfl⟩) rfl) rfl rfl hl.1 rfl (lv_room (Nat.le_of_ble_eq_true rfl)) dX5_out_56 ⟨(Nat.le_of_ble_eq_true rfl), (Nat.le_of_ble_eq_true rfl)⟩) (fun r_56 hr_56 => ?_)
            subst hr_56
            refine lv_lstore (lv' := [(9, .long (zs_pr X.1 k d)), (8, .ref (Z (4, k, 0))), (7, .ref (Z (3, p, 0))), (0, .ref (Z (0, 0, 0))), (1, .int x), (2, .int y), (3, .long num), (5, .long d)]) hx hb dX5_out_59 hl (by decide) rfl (fun ls hl => ?_)
            refine lv_aload hx hb dX5_out_61 (lv_at hl 2 rfl) ?_
            refine zk_new (ci := 1) (fs := [.null, .long 0, .long 0, .long 0, .null]) (C := RX1) (T := TX1) (N := 5) hx hb hts inw_wsX5_out_1 tyX1 tyX1_ok hown (hts (.classLink RX5 59 RX1) (by decide +kernel)) (hts (.instantiable RX1 5) (by decide +kernel)) (hts (.initialized RX1) (by decide +kernel)) hK hH hS rfl (fun j hj => by rcases (show j = 0 ∨ j = 1 ∨ j = 2 ∨ j = 3 ∨ j = 4 by omega) with rfl | rfl | rfl | rfl | rfl <;> rfl) (Nat.le_of_ble_eq_true rfl) (Nat.le_of_ble_eq_true rfl) dX5_out_63 (fun q_63 H hf_63 hH hS => ?_)
            obtain ⟨M_63, eM_63⟩ : ∃ w_0 : zk_M, w_0 = zk_up M q_63 (.inr (1, [.null, .long 0, .long 0, .long 0, .null])) := ⟨_, rfl⟩
            have hH : zk_H g z M_63 H := by rw [eM_63]; exact hH
            have f_63_0 : M_63 (Z (0, 0, 0)) = some (.inr (5, [.ref (Z (3, 0, 0)), .ref (Z (1, 0, 0)), .ref (Z (2, 0, 0)), va_rf (zs_prev (zs_nc X.1) (fun i => Z (7, i, 0))), .int (nI (zs_nc X.1)), .long (zs_ck X.1)])) := by rw [eM_63, zk_up_n _ _ (zk_ne_none hO hf_63)]; exact hO
            have e_63 : M_63 q_63 = some (.inr (1, [.null, .long 0, .long 0, .long 0, .null])) := by rw [eM_63]; exact zk_up_s _ _ _
            refine lv_dup hx hb dX5_out_66 rfl ?_
            refine lv_aload hx hb dX5_out_67 (lv_at hl 1 rfl) ?_
            refine lv_lload hx hb dX5_out_69 (lv_at hl 7 rfl) ?_
            refine lv_lload_n hx hb dX5_out_71 rfl (lv_at hl 6 rfl) ?_
            refine lv_lload hx hb dX5_out_72 (lv_at hl 0 rfl) ?_
            refine zk_callv (va_runI (As := [.ref (Z (4, k, 0)), .long d, .long num, .long (zs_pr X.1 k d)]) (rest := [.ref q_63, .ref (Z (3, p, 0))]) ⟨hx, hb, hml, hown, hts⟩ (zc_X1_init l d num (zs_pr X.1 k d) e_63) (cwI 4 hts gX5_out_X1_init rfl rfl rfl (hts (.initialized RX1) (by decide +kernel)) (hts (.methodLink RX5 61 yX1_init) (by decide +kernel)) (hts (.instanceMethod yX1_init) (by decide +kernel)) rfl (by decide +kernel) ⟨Nat.le_of_ble_eq_true rfl, Nat.le_of_ble_eq_true rfl⟩) (zk_preS hH hK hN) rfl rfl hl.1 rfl (lv_room (Nat.le_of_ble_eq_true rfl)) dX5_out_74 ⟨(Nat.le_of_ble_eq_true rfl), (Nat.le_of_ble_eq_true rfl)⟩) hS (fun u_74 H locs hH hr_74 hS => ?_)
            have hR2 : zs_R g X Z u_74 := zs_R_fresh hR hf_63 (fun b hb => (hr_74.2 b hb).trans (by rw [eM_63, zk_up_n _ _ hb]))
            refine zk_callv (va_runV (As := [.ref q_63]) (rest := []) ⟨hx, hb, hml, hown, hts⟩ (zc_X2_addLayer l hR2 (a := q_63) hp) (cwV 1 hts gX5_out_X2_addLayer rfl rfl rfl (by decide +kernel) ⟨Nat.le_of_ble_eq_true rfl, Nat.le_of_ble_eq_true rfl⟩) (zk_preV hH hK hN (hR2.1 (3, p, 0) ⟨hp, rfl⟩) rfl) rfl rfl hl.1 rfl (lv_room (Nat.le_of_ble_eq_true rfl)) dX5_out_77 ⟨(Nat.le_of_ble_eq_true rfl), (Nat.le_of_ble_eq_true rfl)⟩) hS (fun u_77 H locs hH hr_77 hS => ?_)
            have hM3 : ∀ b, b ≠ q_63 → b ≠ Z (3, p, 0) → (∀ i, zs_lst (zs_lp X.1) p (zs_nl X.1) = some i → b ≠ Z (6, i, 0)) → u_77 b = M b := fun b h1 h2 h3 => (hr_77.2.2 b h2 h3).trans ((hr_74.2 b h1).trans (by rw [eM_63, zk_up_n _ _ h1]))
            have hqa : ∀ q, zs_ok X q → q_63 ≠ Z q := fun q hq e => by have h1 := hR.1 q hq; rw [← e, hf_63] at h1; cases h1
            have hR3 := zs_R_lay hR hI hp hk num d (zs_pr X.1 k d) hf_63 hM3 hr_77.1 hr_77.2.1 ((hr_77.2.2 q_63 (hqa (3, p, 0) ⟨hp, rfl⟩) (fun i hi => hqa (6, i, 0) ⟨(zs_lst_some hi).1, rfl⟩)).trans hr_74.1)
            have hO2 : u_77 (Z (0, 0, 0)) = some (.inr (5, [.ref (Z (3, 0, 0)), .ref (Z (1, 0, 0)), .ref (Z (2, 0, 0)), va_rf (zs_prev (zs_nc X.1) (fun i => Z (7, i, 0))), .int (nI (zs_nc X.1)), .long (zs_ck X.1)])) := (hM3 _ (fun e => hqa (0, 0, 0) ⟨rfl, rfl⟩ e.symm) (zs_ne hR ⟨rfl, rfl⟩ ⟨hp, rfl⟩ (by simp)) (fun i hi => zs_ne hR ⟨rfl, rfl⟩ ⟨(zs_lst_some hi).1, rfl⟩ (by simp))).trans hO
            have hZ1 : ∀ q, zs_ok X q → zs_Zup Z (6, zs_nl X.1, 0) q_63 q = Z q := fun q hq => zs_Zup_n Z _ (fun e => absurd (e ▸ hq : zs_ok X (6, zs_nl X.1, 0)).1 (Nat.lt_irrefl _))
            have hI3 : zs_I (zs_lay X.1 p k num d (zs_pr X.1 k d)) n := zs_I_lay hI hnl hp hk _ hnum hmay.1 hcn
            refine lv_aload_n hx hb dX5_out_80 rfl (lv_at hl 3 rfl) ?_
            refine lv_lload hx hb dX5_out_81 (lv_at hl 7 rfl) ?_
            refine lv_lload_n hx hb dX5_out_83 rfl (lv_at hl 6 rfl) ?_
            refine lv_lload hx hb dX5_out_84 (lv_at hl 0 rfl) ?_
            refine lv_lmul hx hb dX5_out_86 ?_
            refine lv_aload hx hb dX5_out_87 (lv_at hl 2 rfl) ?_
            refine lv_aload_n hx hb dX5_out_89 rfl (lv_at hl 3 rfl) ?_
            refine zk_get (ci := 5) (v := .ref (Z (3, 0, 0))) (C := RX5) (T := TX5) (N := 6) hx hb hts inw_wsX5_out_5 hown hK hH hO2 rfl 0 (by decide) (hts (.fieldLink RX5 10 "KegDeposits" "house" "LKegDeposits$Party;") (by decide +kernel)) rfl dX5_out_90 ?_
            refine zk_callv (va_runV (As := [.long d, .long (num * zs_pr X.1 k d), .ref (Z (3, p, 0)), .ref (Z (3, 0, 0))]) (rest := []) ⟨hx, hb, hml, hown, hts⟩ (zc_X5_move_at l (X := (zs_lay X.1 p k num d (zs_pr X.1 k d), X.2)) hR3 hI3 (x := p) (y := 0) hp hI.1.1 d (num * zs_pr X.1 k d) (hZ1 (0, 0, 0) ⟨rfl, rfl⟩).symm (hZ1 (3, p, 0) ⟨hp, rfl⟩).symm (hZ1 (3, 0, 0) ⟨hI.1.1, rfl⟩).symm) (cwV 4 hts gX5_out_X5_move rfl rfl rfl (by decide +kernel) ⟨Nat.le_of_ble_eq_true rfl, Nat.le_of_ble_eq_true rfl⟩) (zk_preV hH hK hN hO2 rfl) rfl rfl hl.1 rfl (lv_room (Nat.le_of_ble_eq_true rfl)) dX5_out_93 ⟨(Nat.le_of_ble_eq_true rfl), (Nat.le_of_ble_eq_true rfl)⟩) hS (fun u_93 H locs hH hr_93 hS => ?_)
            refine lv_iconst (v := 1) hx hb dX5_out_96 (by decide) ?_
            exact zk_zret hx hb hr hlocks (by first | rfl | decide) hH hS (by decide) (by decide) (zs_yes (by simp only [zs_fout, hx_2, hx_9]; exact if_pos ⟨hnum, hmay, hcn⟩) (zs_P_trans hr_93 hZ1 (fun q hq => zs_ok_lay q hq))) dX5_out_97
          · skip
            have hcn : ¬ zs_cnt (zs_ll X.1) (zs_nl X.1) < 400 := fun q => h_47 (by rw [hr_41]; exact nI_lt (b := 400) q (by decide))
            refine lv_iconst (v := 0) hx hb dX5_out_50 (by decide) ?_
            exact zk_zret hx hb hr hlocks (by first | rfl | decide) hH hS (by decide) (by decide) (zs_no hR (by simp only [zs_fout, hx_2, hx_9]; exact if_neg (fun q => hcn q.2.2))) dX5_out_51

set_option maxHeartbeats 4000000 in
set_option maxRecDepth 100000 in
theorem zc_X5_commonDivisor (l : Launch) {g : zk_G} {z : Nat} {M : zk_M} (r : Nat) (hr0 : r < 10000) : Met l yX5_commonDivisor wsX5_commonDivisor ({ frames := 0, cells := 0, slots := 0, locals := 0 } : Room) (va_Pc [.long 10000, .long (lN r)] (zk_U g z M)) (vp_Sl (fun v => v = lN (Nat.gcd 10000 r))) 0 0 (fun _ => False) := by
  refine Met.ofW (cc := cX5_commonDivisor) (maxL := 11) (ret := (some .long)) (by decide) rfl ?_
  intro P0 e0 s m0 args below meth c0 s₁ B hml hv
  obtain ⟨rfl, hH, hK, hN⟩ := hv
  have hx := B.exec
  have hb := B.bytes
  have hr := B.returns
  have hts := atoms_spec (ws := wsX5_commonDivisor) B.pre
  have hown : s.vm.findClass RX5 = some m0.cls := findClass_of_methodNamed B.named
  have hlocks := B.notSynchronized
  have hl := lv_entry ([.long 10000, .long (lN r)]) (n := 11) (Nat.le_of_ble_eq_true rfl)
  rw [lg_entry_eq]
  generalize (lg_sl ([.long 10000, .long (lN r)]) ++ List.replicate (11 - (lg_sl ([.long 10000, .long (lN r)])).length) Slot.unset).toArray = ls at hl ⊢
  have hl : lv_has ls 11 [(0, .long 10000), (2, .long (lN r))] := hl
  refine lv_lload_n hx hb dX5_commonDivisor_0 rfl (lv_at hl 0 rfl) ?_
  refine lv_lstore (lv' := [(4, .long 10000), (0, .long 10000), (2, .long (lN r))]) hx hb dX5_commonDivisor_1 hl (by decide) rfl (fun ls hl => ?_)
  refine lv_lload_n hx hb dX5_commonDivisor_3 rfl (lv_at hl 2 rfl) ?_
  refine lv_lstore (lv' := [(6, .long (lN r)), (4, .long 10000), (0, .long 10000), (2, .long (lN r))]) hx hb dX5_commonDivisor_4 hl (by decide) rfl (fun ls hl => ?_)
  refine lv_iconst (v := 0) hx hb dX5_commonDivisor_6 (by decide) ?_
  refine lv_istore (lv' := [(8, .int 0), (6, .long (lN r)), (4, .long 10000), (0, .long 10000), (2, .long (lN r))]) hx hb dX5_commonDivisor_7 hl (by decide) rfl (fun ls hl => ?_)
  have loop : ∀ (n i x y : Nat) (ls : Array Slot), 100 - i < n → i ≤ 100 → 0 < x → x ≤ 10000 → y < x → Nat.gcd x y = Nat.gcd 10000 r → x * y * 2 ^ i ≤ 100000000 → lv_has ls 11 [(8, .int (nI i)), (4, .long (lN x)), (6, .long (lN y)), (0, .long 10000), (2, .long (lN r))] → W P0 l e0 (headSpec wsX5_commonDivisor ({ frames := 0, cells := 0, slots := 0, locals := 0 } : Room)).room s m0 ([.long 10000, .long (lN r)] : List Value).toArray below meth c0 s.heap [] 0 0 (MQ below (vp_Sl (fun v => v = lN (Nat.gcd 10000 r))) ([.long 10000, .long (lN r)] : List Value).toArray s 0 0 (fun _ => False)) (F0 m0 9 ls []) := by
    intro n
    induction n with
    | zero => intro i x y ls hn; omega
    | succ n ih =>
      intro i x y ls hn hi hx0 hx1 hy hg hp hl
      refine lv_iload hx hb dX5_commonDivisor_9 (lv_at hl 0 rfl) ?_
      refine lv_bipush (v := 100) hx hb dX5_commonDivisor_11 (by decide) ?_
      refine lv_icmp_ge (tgt := 44) hx hb dX5_commonDivisor_13 (by decide) (fun h_13 => ?_) (fun h_13 => ?_)
      · skip
        have hi100 : i = 100 := by have := (nI_leI (a := 100) (b := i) (by decide) (by omega)).mp h_13; omega
        have hy0 : y = 0 := zs_gcd_end hx0 (by rw [← hi100]; exact hp)
        refine lv_lload hx hb dX5_commonDivisor_44 (lv_at hl 1 rfl) ?_
        exact zk_lretS hx hb hr hlocks (by rw [← hg, hy0, Nat.gcd_zero_right]) dX5_commonDivisor_46
      · skip
        have hi100 : i < 100 := Nat.lt_of_not_le (fun q => h_13 ((nI_leI (a := 100) (b := i) (by decide) (by omega)).mpr q))
        refine lv_lload hx hb dX5_commonDivisor_16 (lv_at hl 2 rfl) ?_
        refine lv_lconst (v := 0) hx hb dX5_commonDivisor_18 (by decide) ?_
        refine zk_lc_eq (tgt := 44) hx hb dX5_commonDivisor_19 dX5_commonDivisor_20 (by decide) (fun h_19 => ?_) (fun h_19 => ?_)
        · skip
          have hy0 : y = 0 := (lN_eq (a := y) (b := 0) (by omega) (by decide)).mp h_19
          refine lv_lload hx hb dX5_commonDivisor_44 (lv_at hl 1 rfl) ?_
          exact zk_lretS hx hb hr hlocks (by rw [← hg, hy0, Nat.gcd_zero_right]) dX5_commonDivisor_46
        · skip
          have hy0 : 0 < y := Nat.pos_of_ne_zero (fun q => h_19 (by rw [q]; rfl))
          refine lv_lload hx hb dX5_commonDivisor_23 (lv_at hl 1 rfl) ?_
          refine lv_lload hx hb dX5_commonDivisor_25 (lv_at hl 2 rfl) ?_
          refine lv_lrem hx hb dX5_commonDivisor_27 h_19 ?_
          refine zk_top (v' := .long (lN (x % y))) (by rw [pk_lRem (by omega) hy0 (by omega)]) ?_
          refine lv_lstore (lv' := [(9, .long (lN (x % y))), (8, .int (nI i)), (4, .long (lN x)), (6, .long (lN y)), (0, .long 10000), (2, .long (lN r))]) hx hb dX5_commonDivisor_28 hl (by decide) rfl (fun ls hl => ?_)
          refine lv_lload hx hb dX5_commonDivisor_30 (lv_at hl 3 rfl) ?_
          refine lv_lstore (lv' := [(4, .long (lN y)), (9, .long (lN (x % y))), (8, .int (nI i)), (6, .long (lN y)), (0, .long 10000), (2, .long (lN r))]) hx hb dX5_commonDivisor_32 hl (by decide) rfl (fun ls hl => ?_)
          refine lv_lload hx hb dX5_commonDivisor_34 (lv_at hl 1 rfl) ?_
          refine lv_lstore (lv' := [(6, .long (lN (x % y))), (4, .long (lN y)), (9, .long (lN (x % y))), (8, .int (nI i)), (0, .long 10000), (2, .long (lN r))]) hx hb dX5_commonDivisor_36 hl (by decide) rfl (fun ls hl => ?_)
          refine lv_iinc (v := nI (i + 1)) (lv' := [(8, .int (nI (i + 1))), (6, .long (lN (x % y))), (4, .long (lN y)), (9, .long (lN (x % y))), (0, .long 10000), (2, .long (lN r))]) hx hb dX5_commonDivisor_38 hl (k := 3) rfl (nI_1 i) (by decide) rfl (fun ls hl => ?_)
          refine lv_goto (tgt := 9) hx hb dX5_commonDivisor_41 (by decide) ?_
          exact ih (i + 1) y (x % y) ls (by omega) (by omega) hy0 (by omega) (Nat.mod_lt x hy0) (by rw [← hg, Nat.gcd_comm x y, Nat.gcd_rec y x, Nat.gcd_comm]) (zs_gcd_step hy0 hy hp) (lv_sub hl [0, 2, 1, 4, 5] rfl)
  exact loop 101 0 10000 r ls (by omega) (by omega) (by omega) (by omega) (by omega) rfl (by omega) (lv_sub hl [0, 2, 1, 3, 4] rfl)

theorem inw_wsX5_rest_0 : ∀ w ∈ u_ws RX0 TX0 3, w ∈ wsX5_rest := by decide +kernel
set_option maxHeartbeats 4000000 in
set_option maxRecDepth 100000 in
theorem zc_X5_rest (l : Launch) {g : zk_G} {z : Nat} {M : zk_M} {X : zs_X} {Z : zs_Z} {n : Nat} (hR : zs_R g X Z M) (hI : zs_I X.1 n) (y part : Int32) : Met l yX5_rest wsX5_rest ({ frames := 1, cells := 0, slots := 0, locals := 30 } : Room) (va_Pc [.ref (Z (0, 0, 0)), .int y, .int part] (zk_U g z M)) (vp_Sl (fun r => r = zs_frest X.1 y part)) 0 0 (fun _ => False) := by
  refine Met.ofW (cc := cX5_rest) (maxL := 6) (ret := (some .long)) (by decide) rfl ?_
  intro P0 e0 s m0 args below meth c0 s₁ B hml hv
  obtain ⟨rfl, hH, hK, hN⟩ := hv
  have hx := B.exec
  have hb := B.bytes
  have hr := B.returns
  have hts := atoms_spec (ws := wsX5_rest) B.pre
  have hown : s.vm.findClass RX5 = some m0.cls := findClass_of_methodNamed B.named
  have hlocks := B.notSynchronized
  have hl := lv_entry ([.ref (Z (0, 0, 0)), .int y, .int part]) (n := 6) (Nat.le_of_ble_eq_true rfl)
  rw [lg_entry_eq]
  generalize (lg_sl ([.ref (Z (0, 0, 0)), .int y, .int part]) ++ List.replicate (6 - (lg_sl ([.ref (Z (0, 0, 0)), .int y, .int part])).length) Slot.unset).toArray = ls at hl ⊢
  have hl : lv_has ls 6 [(0, .ref (Z (0, 0, 0))), (1, .int y), (2, .int part)] := hl
  have hO : M (Z (0, 0, 0)) = some (.inr (5, [.ref (Z (3, 0, 0)), .ref (Z (1, 0, 0)), .ref (Z (2, 0, 0)), va_rf (zs_prev (zs_nc X.1) (fun i => Z (7, i, 0))), .int (nI (zs_nc X.1)), .long (zs_ck X.1)])) := hR.1 (0, 0, 0) ⟨rfl, rfl⟩
  refine lv_aload_n hx hb dX5_rest_0 rfl (lv_at hl 0 rfl) ?_
  refine lv_iload_n hx hb dX5_rest_1 rfl (lv_at hl 1 rfl) ?_
  refine va_csq (W.runV (As := [.int y]) (rest := []) ⟨hx, hb, hml, hown, hts⟩ (zc_X5_kindAt l hR hI.1.2.2.1 y) (cwV 1 hts gX5_rest_X5_kindAt rfl rfl rfl (by decide +kernel) ⟨Nat.le_of_ble_eq_true rfl, Nat.le_of_ble_eq_true rfl⟩) (zk_preV hH hK hN hO rfl) rfl rfl hl.1 rfl (lv_room (Nat.le_of_ble_eq_true rfl)) dX5_rest_2 ⟨(Nat.le_of_ble_eq_true rfl), (Nat.le_of_ble_eq_true rfl)⟩) (fun r_2 hr_2 => ?_)
  cases hx_2 : zs_ix (zs_nk X.1) y with
  | none =>
    refine zk_top (v' := .null) (by rw [hr_2, hx_2]; rfl) ?_
    refine lv_astore_nN (lv' := [(3, .null), (0, .ref (Z (0, 0, 0))), (1, .int y), (2, .int part)]) hx hb dX5_rest_5 rfl hl (by decide) rfl (fun ls hl => ?_)
    refine lv_aload_nN hx hb dX5_rest_6 rfl (lv_at hl 0 rfl) ?_
    refine lv_ifnullN (tgt := 19) hx hb dX5_rest_7 (by decide) ?_
    refine lv_ldc2 (v := (-1)) hx hb hown (hts (.constantLong RX5 103 (-1)) (by decide +kernel)) dX5_rest_19 ?_
    exact zk_lretS hx hb hr hlocks (by simp only [zs_frest, hx_2]) dX5_rest_22
  | some k =>
    refine zk_top (v' := .ref (Z (4, k, 0))) (by rw [hr_2, hx_2]; rfl) ?_
    obtain ⟨hk, ex_k⟩ := zs_ix_some (by have := hI.1.2.1; have := hI.1.2.2.1; omega) hx_2
    refine lv_astore_n (lv' := [(3, .ref (Z (4, k, 0))), (0, .ref (Z (0, 0, 0))), (1, .int y), (2, .int part)]) hx hb dX5_rest_5 rfl hl (by decide) rfl (fun ls hl => ?_)
    refine lv_aload_n hx hb dX5_rest_6 rfl (lv_at hl 0 rfl) ?_
    refine lv_ifnull hx hb dX5_rest_7 ?_
    refine lv_iload_n hx hb dX5_rest_10 rfl (lv_at hl 3 rfl) ?_
    refine lv_if_lt (tgt := 19) hx hb dX5_rest_11 (by decide) (fun h_11 => ?_) (fun h_11 => ?_)
    · skip
      refine lv_ldc2 (v := (-1)) hx hb hown (hts (.constantLong RX5 103 (-1)) (by decide +kernel)) dX5_rest_19 ?_
      exact zk_lretS hx hb hr hlocks (by simp only [zs_frest, hx_2]; rw [if_pos (Or.inl h_11)]) dX5_rest_22
    · skip
      refine lv_iload_n hx hb dX5_rest_14 rfl (lv_at hl 3 rfl) ?_
      refine lv_iconst (v := 1) hx hb dX5_rest_15 (by decide) ?_
      refine lv_icmp_le (tgt := 23) hx hb dX5_rest_16 (by decide) (fun h_16 => ?_) (fun h_16 => ?_)
      · skip
        obtain ⟨b0, b1⟩ := (hI.2.1.2.2.1 k).2.2
        have hrn : zs_rs X.1 k = lN (zs_rn X.1 k) ∧ zs_rn X.1 k < 10000 := zs_rn_of b0 b1
        have hK0 : M (Z (4, k, 0)) = some (.inr (0, [va_rf (zs_prev (zs_pn X.1 k) (fun j => Z (5, k, j))), .long (zs_sh X.1 k), .long (lN (zs_rn X.1 k))])) := by rw [← hrn.1]; exact hR.1 (4, k, 0) ⟨hk, rfl⟩
        have hgp : 0 < Nat.gcd 10000 (zs_rn X.1 k) := Nat.gcd_pos_of_pos_left _ (by decide)
        have hgl : Nat.gcd 10000 (zs_rn X.1 k) ≤ 10000 := Nat.gcd_le_left _ (by decide)
        refine lv_ldc2 (v := 10000) hx hb hown (hts (.constantLong RX5 91 (10000)) (by decide +kernel)) dX5_rest_23 ?_
        refine lv_aload_n hx hb dX5_rest_26 rfl (lv_at hl 0 rfl) ?_
        refine zk_getN (ci := 0) (v := .long (lN (zs_rn X.1 k))) (C := RX0) (T := TX0) (N := 3) hx hb hts inw_wsX5_rest_0 hown hK hH hK0 rfl 2 (by decide) (zk_nf_1 hN) rfl dX5_rest_27 ?_
        refine vp_callSl (W.runS (As := [.long 10000, .long (lN (zs_rn X.1 k))]) (rest := []) ⟨hx, hb, hml, hown, hts⟩ (zc_X5_commonDivisor l (zs_rn X.1 k) hrn.2) (va_cwS 2 hts gX5_rest_X5_commonDivisor rfl rfl rfl (by decide +kernel) ⟨Nat.le_of_ble_eq_true rfl, Nat.le_of_ble_eq_true rfl⟩) (zk_preS hH hK hN) rfl rfl hl.1 rfl (lv_room (Nat.le_of_ble_eq_true rfl)) dX5_rest_30 ⟨(Nat.le_of_ble_eq_true rfl), (Nat.le_of_ble_eq_true rfl)⟩) (fun r_30 hr_30 => ?_)
        subst hr_30
        refine lv_lstore (lv' := [(4, .long (lN (Nat.gcd 10000 (zs_rn X.1 k)))), (3, .ref (Z (4, k, 0))), (0, .ref (Z (0, 0, 0))), (1, .int y), (2, .int part)]) hx hb dX5_rest_33 hl (by decide) rfl (fun ls hl => ?_)
        refine lv_lload hx hb dX5_rest_35 (lv_at hl 0 rfl) ?_
        refine lv_lconst (v := 1) hx hb dX5_rest_37 (by decide) ?_
        refine zk_lc_ge (tgt := 46) hx hb dX5_rest_38 dX5_rest_39 (by decide) (fun h_38 => ?_) (fun h_38 => ?_)
        · skip
          refine lv_iload_n hx hb dX5_rest_46 rfl (lv_at hl 4 rfl) ?_
          refine lv_if_ne (tgt := 60) hx hb dX5_rest_47 (by decide) (fun h_47 => ?_) (fun h_47 => ?_)
          · skip
            refine lv_ldc2 (v := 10000) hx hb hown (hts (.constantLong RX5 91 (10000)) (by decide +kernel)) dX5_rest_60 ?_
            refine lv_lload hx hb dX5_rest_63 (lv_at hl 0 rfl) ?_
            refine lv_ldiv hx hb dX5_rest_65 (fun q => absurd ((lN_eq (b := 0) (by omega) (by decide)).mp q) (by omega)) ?_
            exact zk_lretS hx hb hr hlocks (by simp only [zs_frest, hx_2]; rw [if_neg (fun q => q.elim (fun q => absurd q h_11) (fun q => absurd h_16 (Int32.not_le.mpr q))), if_neg h_47]; exact pk_lDiv (a := 10000) (by omega) hgp (by omega)) dX5_rest_66
          · skip
            refine lv_aload_n hx hb dX5_rest_50 rfl (lv_at hl 1 rfl) ?_
            refine zk_getN (ci := 0) (v := .long (lN (zs_rn X.1 k))) (C := RX0) (T := TX0) (N := 3) hx hb hts inw_wsX5_rest_0 hown hK hH hK0 rfl 2 (by decide) (zk_nf_1 hN) rfl dX5_rest_51 ?_
            refine lv_lload hx hb dX5_rest_54 (lv_at hl 0 rfl) ?_
            refine lv_ldiv hx hb dX5_rest_56 (fun q => absurd ((lN_eq (b := 0) (by omega) (by decide)).mp q) (by omega)) ?_
            refine lv_goto (tgt := 66) hx hb dX5_rest_57 (by decide) ?_
            exact zk_lretS hx hb hr hlocks (by simp only [zs_frest, hx_2]; rw [if_neg (fun q => q.elim (fun q => absurd q h_11) (fun q => absurd h_16 (Int32.not_le.mpr q))), if_pos h_47]; exact pk_lDiv (by omega) hgp (by omega)) dX5_rest_66
        · skip
          exact absurd ((lN_le (a := 1) (by decide) (by omega)).mpr hgp) h_38
      · skip
        refine lv_ldc2 (v := (-1)) hx hb hown (hts (.constantLong RX5 103 (-1)) (by decide +kernel)) dX5_rest_19 ?_
        exact zk_lretS hx hb hr hlocks (by simp only [zs_frest, hx_2]; rw [if_pos (Or.inr (Int32.not_le.mp h_16))]) dX5_rest_22

theorem inw_wsX5_lost_5 : ∀ w ∈ u_ws RX5 TX5 6, w ∈ wsX5_lost := by decide +kernel
set_option maxHeartbeats 4000000 in
set_option maxRecDepth 100000 in
theorem zc_X5_lost (l : Launch) {g : zk_G} {z : Nat} {M : zk_M} {X : zs_X} {Z : zs_Z} {n : Nat} (hR : zs_R g X Z M) (hI : zs_I X.1 n) (y mo : Int32) : Met l yX5_lost wsX5_lost ({ frames := 1, cells := 0, slots := 0, locals := 26 } : Room) (va_Pc [.ref (Z (0, 0, 0)), .int y, .int mo] (zk_U g z M)) (vp_Sl (fun r => r = zs_flost X.1 y mo)) 0 0 (fun _ => False) := by
  refine Met.ofW (cc := cX5_lost) (maxL := 10) (ret := (some .long)) (by decide) rfl ?_
  intro P0 e0 s m0 args below meth c0 s₁ B hml hv
  obtain ⟨rfl, hH, hK, hN⟩ := hv
  have hx := B.exec
  have hb := B.bytes
  have hr := B.returns
  have hts := atoms_spec (ws := wsX5_lost) B.pre
  have hown : s.vm.findClass RX5 = some m0.cls := findClass_of_methodNamed B.named
  have hlocks := B.notSynchronized
  have hl := lv_entry ([.ref (Z (0, 0, 0)), .int y, .int mo]) (n := 10) (Nat.le_of_ble_eq_true rfl)
  rw [lg_entry_eq]
  generalize (lg_sl ([.ref (Z (0, 0, 0)), .int y, .int mo]) ++ List.replicate (10 - (lg_sl ([.ref (Z (0, 0, 0)), .int y, .int mo])).length) Slot.unset).toArray = ls at hl ⊢
  have hl : lv_has ls 10 [(0, .ref (Z (0, 0, 0))), (1, .int y), (2, .int mo)] := hl
  have hO : M (Z (0, 0, 0)) = some (.inr (5, [.ref (Z (3, 0, 0)), .ref (Z (1, 0, 0)), .ref (Z (2, 0, 0)), va_rf (zs_prev (zs_nc X.1) (fun i => Z (7, i, 0))), .int (nI (zs_nc X.1)), .long (zs_ck X.1)])) := hR.1 (0, 0, 0) ⟨rfl, rfl⟩
  have hPA : M (Z (1, 0, 0)) = some (zk_aP g 24 (fun p => if p < zs_np X.1 then some (Z (3, p, 0)) else none)) := hR.1 (1, 0, 0) ⟨rfl, rfl⟩
  refine lv_aload_n hx hb dX5_lost_0 rfl (lv_at hl 0 rfl) ?_
  refine lv_iload_n hx hb dX5_lost_1 rfl (lv_at hl 1 rfl) ?_
  refine va_csq (W.runV (As := [.int y]) (rest := []) ⟨hx, hb, hml, hown, hts⟩ (zc_X5_kindAt l hR hI.1.2.2.1 y) (cwV 1 hts gX5_lost_X5_kindAt rfl rfl rfl (by decide +kernel) ⟨Nat.le_of_ble_eq_true rfl, Nat.le_of_ble_eq_true rfl⟩) (zk_preV hH hK hN hO rfl) rfl rfl hl.1 rfl (lv_room (Nat.le_of_ble_eq_true rfl)) dX5_lost_2 ⟨(Nat.le_of_ble_eq_true rfl), (Nat.le_of_ble_eq_true rfl)⟩) (fun r_2 hr_2 => ?_)
  cases hx_2 : zs_ix (zs_nk X.1) y with
  | none =>
    refine zk_top (v' := .null) (by rw [hr_2, hx_2]; rfl) ?_
    refine lv_astore_nN (lv' := [(3, .null), (0, .ref (Z (0, 0, 0))), (1, .int y), (2, .int mo)]) hx hb dX5_lost_5 rfl hl (by decide) rfl (fun ls hl => ?_)
    refine lv_aload_nN hx hb dX5_lost_6 rfl (lv_at hl 0 rfl) ?_
    refine lv_ifnullN (tgt := 14) hx hb dX5_lost_7 (by decide) ?_
    refine lv_ldc2 (v := (-1)) hx hb hown (hts (.constantLong RX5 103 (-1)) (by decide +kernel)) dX5_lost_14 ?_
    exact zk_lretS hx hb hr hlocks (by simp only [zs_flost, hx_2]) dX5_lost_17
  | some k =>
    refine zk_top (v' := .ref (Z (4, k, 0))) (by rw [hr_2, hx_2]; rfl) ?_
    obtain ⟨hk, ex_k⟩ := zs_ix_some (by have := hI.1.2.1; have := hI.1.2.2.1; omega) hx_2
    refine lv_astore_n (lv' := [(3, .ref (Z (4, k, 0))), (0, .ref (Z (0, 0, 0))), (1, .int y), (2, .int mo)]) hx hb dX5_lost_5 rfl hl (by decide) rfl (fun ls hl => ?_)
    refine lv_aload_n hx hb dX5_lost_6 rfl (lv_at hl 0 rfl) ?_
    refine lv_ifnull hx hb dX5_lost_7 ?_
    refine lv_iload_n hx hb dX5_lost_10 rfl (lv_at hl 3 rfl) ?_
    refine lv_if_ge (tgt := 18) hx hb dX5_lost_11 (by decide) (fun h_11 => ?_) (fun h_11 => ?_)
    · skip
      refine lv_aload_n hx hb dX5_lost_18 rfl (lv_at hl 1 rfl) ?_
      refine zk_get (ci := 5) (v := .long (zs_ck X.1)) (C := RX5) (T := TX5) (N := 6) hx hb hts inw_wsX5_lost_5 hown hK hH hO rfl 5 (by decide) (hts (.fieldLink RX5 105 "KegDeposits" "clock" "J") (by decide +kernel)) rfl dX5_lost_19 ?_
      refine lv_iload_n hx hb dX5_lost_22 rfl (lv_at hl 3 rfl) ?_
      refine lv_i2l (v := (Int32.toInt64 mo)) hx hb dX5_lost_23 rfl ?_
      refine lv_ldc2 (v := 30) hx hb hown (hts (.constantLong RX5 108 (30)) (by decide +kernel)) dX5_lost_24 ?_
      refine lv_lmul hx hb dX5_lost_27 ?_
      refine lv_lsub hx hb dX5_lost_28 ?_
      refine lv_lstore (lv' := [(4, .long (zs_ck X.1 - ((Int32.toInt64 mo) * 30))), (3, .ref (Z (4, k, 0))), (0, .ref (Z (0, 0, 0))), (1, .int y), (2, .int mo)]) hx hb dX5_lost_29 hl (by decide) rfl (fun ls hl => ?_)
      refine lv_lconst (v := 0) hx hb dX5_lost_31 (by decide) ?_
      refine lv_lstore (lv' := [(6, .long 0), (4, .long (zs_ck X.1 - ((Int32.toInt64 mo) * 30))), (3, .ref (Z (4, k, 0))), (0, .ref (Z (0, 0, 0))), (1, .int y), (2, .int mo)]) hx hb dX5_lost_32 hl (by decide) rfl (fun ls hl => ?_)
      refine lv_iconst (v := 0) hx hb dX5_lost_34 (by decide) ?_
      refine lv_istore (lv' := [(8, .int 0), (6, .long 0), (4, .long (zs_ck X.1 - ((Int32.toInt64 mo) * 30))), (3, .ref (Z (4, k, 0))), (0, .ref (Z (0, 0, 0))), (1, .int y), (2, .int mo)]) hx hb dX5_lost_35 hl (by decide) rfl (fun ls hl => ?_)
      have loop : ∀ (n i : Nat) (acc : Int64) (ls : Array Slot), 24 - i < n → i ≤ 24 → acc = zs_sum (fun p => if p < zs_np X.1 then zs_pup X.1 p k (zs_ck X.1 - Int32.toInt64 mo * 30) else 0) i →  lv_has ls 10 [(8, .int (nI i)), (6, .long acc), (4, .long (zs_ck X.1 - Int32.toInt64 mo * 30)), (0, .ref (Z (0, 0, 0))), (3, .ref (Z (4, k, 0)))] → W P0 l e0 (headSpec wsX5_lost ({ frames := 1, cells := 0, slots := 0, locals := 26 } : Room)).room s m0 ([.ref (Z (0, 0, 0)), .int y, .int mo] : List Value).toArray below meth c0 s.heap [] 0 0 (MQ below (vp_Sl (fun r => r = zs_flost X.1 y mo)) ([.ref (Z (0, 0, 0)), .int y, .int mo] : List Value).toArray s 0 0 (fun _ => False)) (F0 m0 37 ls []) := by
        intro n
        induction n with
        | zero => intro i acc ls hn; omega
        | succ n ih =>
          intro i acc ls hn hi hacc hl
          refine lv_iload hx hb dX5_lost_37 (lv_at hl 0 rfl) ?_
          refine lv_aload_n hx hb dX5_lost_39 rfl (lv_at hl 3 rfl) ?_
          refine zk_get (ci := 5) (v := .ref (Z (1, 0, 0))) (C := RX5) (T := TX5) (N := 6) hx hb hts inw_wsX5_lost_5 hown hK hH hO rfl 1 (by decide) (hts (.fieldLink RX5 16 "KegDeposits" "parties" "[LKegDeposits$Party;") (by decide +kernel)) rfl dX5_lost_40 ?_
          refine zk_alen (v := 24) hx hb hK hH 2 hPA rfl rfl dX5_lost_43 ?_
          refine lv_icmp_ge (tgt := 80) hx hb dX5_lost_44 (by decide) (fun h_44 => ?_) (fun h_44 => ?_)
          · skip
            have hiN : i = 24 := by have := (nI_leI (a := 24) (b := i) (by decide) (by omega)).mp h_44; omega
            refine lv_lload hx hb dX5_lost_80 (lv_at hl 1 rfl) ?_
            exact zk_lretS hx hb hr hlocks (by simp only [zs_flost, hx_2]; rw [if_neg (Int32.not_lt.mpr h_11), hacc, hiN]; exact zs_lost_all hI.2.2.1 hI.1.2.1 k _) dX5_lost_82
          · skip
            have hiN : i < 24 := Nat.lt_of_not_le (fun q => h_44 ((nI_leI (a := 24) (b := i) (by decide) (by omega)).mpr q))
            refine lv_aload_n hx hb dX5_lost_47 rfl (lv_at hl 3 rfl) ?_
            refine zk_get (ci := 5) (v := .ref (Z (1, 0, 0))) (C := RX5) (T := TX5) (N := 6) hx hb hts inw_wsX5_lost_5 hown hK hH hO rfl 1 (by decide) (hts (.fieldLink RX5 16 "KegDeposits" "parties" "[LKegDeposits$Party;") (by decide +kernel)) rfl dX5_lost_48 ?_
            refine lv_iload hx hb dX5_lost_51 (lv_at hl 0 rfl) ?_
            refine zk_aldP hx hb hK hH hPA (vp_in_nI hiN (by decide)) dX5_lost_53 ?_
            by_cases hpi : i < zs_np X.1
            · skip
              refine zk_top (v' := .ref (Z (3, i, 0))) (zk_arr_some (f := (fun p => if p < zs_np X.1 then some (Z (3, p, 0)) else none)) (by omega) (if_pos hpi)) ?_
              refine lv_astore (lv' := [(9, .ref (Z (3, i, 0))), (8, .int (nI i)), (6, .long acc), (4, .long (zs_ck X.1 - Int32.toInt64 mo * 30)), (0, .ref (Z (0, 0, 0))), (3, .ref (Z (4, k, 0)))]) hx hb dX5_lost_54 hl (by decide) rfl (fun ls hl => ?_)
              refine lv_aload hx hb dX5_lost_56 (lv_at hl 0 rfl) ?_
              refine lv_ifnull hx hb dX5_lost_58 ?_
              refine lv_lload hx hb dX5_lost_61 (lv_at hl 2 rfl) ?_
              refine lv_aload hx hb dX5_lost_63 (lv_at hl 0 rfl) ?_
              refine lv_aload_n hx hb dX5_lost_65 rfl (lv_at hl 5 rfl) ?_
              refine lv_lload hx hb dX5_lost_66 (lv_at hl 3 rfl) ?_
              refine vp_callSl (W.runV (As := [.ref (Z (4, k, 0)), .long (zs_ck X.1 - Int32.toInt64 mo * 30)]) (rest := [.long acc]) ⟨hx, hb, hml, hown, hts⟩ (zc_X2_piecesUpTo l hR (fun i hi => (hI.2.2.1.1 i hi).2.1) hpi hk (zs_ck X.1 - Int32.toInt64 mo * 30)) (cwV 2 hts gX5_lost_X2_piecesUpTo rfl rfl rfl (by decide +kernel) ⟨Nat.le_of_ble_eq_true rfl, Nat.le_of_ble_eq_true rfl⟩) (zk_preV hH hK hN (hR.1 (3, i, 0) ⟨hpi, rfl⟩) rfl) rfl rfl hl.1 rfl (lv_room (Nat.le_of_ble_eq_true rfl)) dX5_lost_68 ⟨(Nat.le_of_ble_eq_true rfl), (Nat.le_of_ble_eq_true rfl)⟩) (fun r_68 hr_68 => ?_)
              refine lv_ladd hx hb dX5_lost_71 ?_
              refine lv_lstore (lv' := [(6, .long (acc + r_68)), (9, .ref (Z (3, i, 0))), (8, .int (nI i)), (4, .long (zs_ck X.1 - Int32.toInt64 mo * 30)), (0, .ref (Z (0, 0, 0))), (3, .ref (Z (4, k, 0)))]) hx hb dX5_lost_72 hl (by decide) rfl (fun ls hl => ?_)
              refine lv_iinc (v := nI (i + 1)) (lv' := [(8, .int (nI (i + 1))), (6, .long (acc + r_68)), (9, .ref (Z (3, i, 0))), (4, .long (zs_ck X.1 - Int32.toInt64 mo * 30)), (0, .ref (Z (0, 0, 0))), (3, .ref (Z (4, k, 0)))]) hx hb dX5_lost_74 hl (k := 2) rfl (nI_1 i) (by decide) rfl (fun ls hl => ?_)
              refine lv_goto (tgt := 37) hx hb dX5_lost_77 (by decide) ?_
              exact ih (i + 1) _ ls (by omega) (by omega) (by rw [hacc, hr_68]; exact congrArg (zs_sum (fun p => if p < zs_np X.1 then zs_pup X.1 p k (zs_ck X.1 - Int32.toInt64 mo * 30) else 0) i + ·) (if_pos hpi).symm) (lv_sub hl [0, 1, 3, 4, 5] rfl)
            · skip
              refine zk_top (v' := .null) (zk_arr_none (f := (fun p => if p < zs_np X.1 then some (Z (3, p, 0)) else none)) (by omega) (if_neg hpi)) ?_
              refine lv_astoreN (lv' := [(9, .null), (8, .int (nI i)), (6, .long acc), (4, .long (zs_ck X.1 - Int32.toInt64 mo * 30)), (0, .ref (Z (0, 0, 0))), (3, .ref (Z (4, k, 0)))]) hx hb dX5_lost_54 hl (by decide) rfl (fun ls hl => ?_)
              refine lv_aloadN hx hb dX5_lost_56 (lv_at hl 0 rfl) ?_
              refine lv_ifnullN (tgt := 74) hx hb dX5_lost_58 (by decide) ?_
              refine lv_iinc (v := nI (i + 1)) (lv' := [(8, .int (nI (i + 1))), (9, .null), (6, .long acc), (4, .long (zs_ck X.1 - Int32.toInt64 mo * 30)), (0, .ref (Z (0, 0, 0))), (3, .ref (Z (4, k, 0)))]) hx hb dX5_lost_74 hl (k := 1) rfl (nI_1 i) (by decide) rfl (fun ls hl => ?_)
              refine lv_goto (tgt := 37) hx hb dX5_lost_77 (by decide) ?_
              exact ih (i + 1) _ ls (by omega) (by omega) (by rw [hacc]; show _ = zs_sum (fun p => if p < zs_np X.1 then zs_pup X.1 p k (zs_ck X.1 - Int32.toInt64 mo * 30) else 0) i + (if i < zs_np X.1 then zs_pup X.1 i k (zs_ck X.1 - Int32.toInt64 mo * 30) else 0); rw [if_neg hpi, Int64.add_zero]) (lv_sub hl [0, 2, 3, 4, 5] rfl)
      exact loop 25 0 0 ls (by omega) (by omega) rfl (lv_sub hl [0, 1, 2, 4, 3] rfl)
    · skip
      refine lv_ldc2 (v := (-1)) hx hb hown (hts (.constantLong RX5 103 (-1)) (by decide +kernel)) dX5_lost_14 ?_
      exact zk_lretS hx hb hr hlocks (by simp only [zs_flost, hx_2]; rw [if_pos (Int32.not_le.mp h_11)]) dX5_lost_17

theorem inw_wsX5_sum_5 : ∀ w ∈ u_ws RX5 TX5 6, w ∈ wsX5_sum := by decide +kernel
set_option maxHeartbeats 4000000 in
set_option maxRecDepth 100000 in
theorem zc_X5_sum (l : Launch) {g : zk_G} {z : Nat} {M : zk_M} {X : zs_X} {Z : zs_Z} {n : Nat} (hR : zs_R g X Z M) (hI : zs_I X.1 n) (d : Int64) : Met l yX5_sum wsX5_sum ({ frames := 2, cells := 0, slots := 0, locals := 47 } : Room) (va_Pc [.ref (Z (0, 0, 0)), .long d] (zk_U g z M)) (vp_Sl (fun r => r = 0)) 0 0 (fun _ => False) := by
  refine Met.ofW (cc := cX5_sum) (maxL := 7) (ret := (some .long)) (by decide) rfl ?_
  intro P0 e0 s m0 args below meth c0 s₁ B hml hv
  obtain ⟨rfl, hH, hK, hN⟩ := hv
  have hx := B.exec
  have hb := B.bytes
  have hr := B.returns
  have hts := atoms_spec (ws := wsX5_sum) B.pre
  have hown : s.vm.findClass RX5 = some m0.cls := findClass_of_methodNamed B.named
  have hlocks := B.notSynchronized
  have hl := lv_entry ([.ref (Z (0, 0, 0)), .long d]) (n := 7) (Nat.le_of_ble_eq_true rfl)
  rw [lg_entry_eq]
  generalize (lg_sl ([.ref (Z (0, 0, 0)), .long d]) ++ List.replicate (7 - (lg_sl ([.ref (Z (0, 0, 0)), .long d])).length) Slot.unset).toArray = ls at hl ⊢
  have hl : lv_has ls 7 [(0, .ref (Z (0, 0, 0))), (1, .long d)] := hl
  have hO : M (Z (0, 0, 0)) = some (.inr (5, [.ref (Z (3, 0, 0)), .ref (Z (1, 0, 0)), .ref (Z (2, 0, 0)), va_rf (zs_prev (zs_nc X.1) (fun i => Z (7, i, 0))), .int (nI (zs_nc X.1)), .long (zs_ck X.1)])) := hR.1 (0, 0, 0) ⟨rfl, rfl⟩
  have hPA : M (Z (1, 0, 0)) = some (zk_aP g 24 (fun p => if p < zs_np X.1 then some (Z (3, p, 0)) else none)) := hR.1 (1, 0, 0) ⟨rfl, rfl⟩
  refine lv_lconst (v := 0) hx hb dX5_sum_0 (by decide) ?_
  refine lv_lstore_n (lv' := [(3, .long 0), (0, .ref (Z (0, 0, 0))), (1, .long d)]) hx hb dX5_sum_1 rfl hl (by decide) rfl (fun ls hl => ?_)
  refine lv_iconst (v := 0) hx hb dX5_sum_2 (by decide) ?_
  refine lv_istore (lv' := [(5, .int 0), (3, .long 0), (0, .ref (Z (0, 0, 0))), (1, .long d)]) hx hb dX5_sum_3 hl (by decide) rfl (fun ls hl => ?_)
  have loop : ∀ (n i : Nat) (acc : Int64) (ls : Array Slot), 24 - i < n → i ≤ 24 → acc = zs_sum (fun p => if p < zs_np X.1 then zs_bal X.1 p d else 0) i →  lv_has ls 7 [(5, .int (nI i)), (3, .long acc), (0, .ref (Z (0, 0, 0))), (1, .long d)] → W P0 l e0 (headSpec wsX5_sum ({ frames := 2, cells := 0, slots := 0, locals := 47 } : Room)).room s m0 ([.ref (Z (0, 0, 0)), .long d] : List Value).toArray below meth c0 s.heap [] 0 0 (MQ below (vp_Sl (fun r => r = 0)) ([.ref (Z (0, 0, 0)), .long d] : List Value).toArray s 0 0 (fun _ => False)) (F0 m0 5 ls []) := by
    intro n
    induction n with
    | zero => intro i acc ls hn; omega
    | succ n ih =>
      intro i acc ls hn hi hacc hl
      refine lv_iload hx hb dX5_sum_5 (lv_at hl 0 rfl) ?_
      refine lv_aload_n hx hb dX5_sum_7 rfl (lv_at hl 2 rfl) ?_
      refine zk_get (ci := 5) (v := .ref (Z (1, 0, 0))) (C := RX5) (T := TX5) (N := 6) hx hb hts inw_wsX5_sum_5 hown hK hH hO rfl 1 (by decide) (hts (.fieldLink RX5 16 "KegDeposits" "parties" "[LKegDeposits$Party;") (by decide +kernel)) rfl dX5_sum_8 ?_
      refine zk_alen (v := 24) hx hb hK hH 2 hPA rfl rfl dX5_sum_11 ?_
      refine lv_icmp_ge (tgt := 45) hx hb dX5_sum_12 (by decide) (fun h_12 => ?_) (fun h_12 => ?_)
      · skip
        have hiN : i = 24 := by have := (nI_leI (a := 24) (b := i) (by decide) (by omega)).mp h_12; omega
        refine lv_lload_n hx hb dX5_sum_45 rfl (lv_at hl 1 rfl) ?_
        exact zk_lretS hx hb hr hlocks (by rw [hacc, hiN]; exact zs_bal_all hI.2.2.2 hI.1.2.1 d) dX5_sum_46
      · skip
        have hiN : i < 24 := Nat.lt_of_not_le (fun q => h_12 ((nI_leI (a := 24) (b := i) (by decide) (by omega)).mpr q))
        refine lv_aload_n hx hb dX5_sum_15 rfl (lv_at hl 2 rfl) ?_
        refine zk_get (ci := 5) (v := .ref (Z (1, 0, 0))) (C := RX5) (T := TX5) (N := 6) hx hb hts inw_wsX5_sum_5 hown hK hH hO rfl 1 (by decide) (hts (.fieldLink RX5 16 "KegDeposits" "parties" "[LKegDeposits$Party;") (by decide +kernel)) rfl dX5_sum_16 ?_
        refine lv_iload hx hb dX5_sum_19 (lv_at hl 0 rfl) ?_
        refine zk_aldP hx hb hK hH hPA (vp_in_nI hiN (by decide)) dX5_sum_21 ?_
        by_cases hpi : i < zs_np X.1
        · skip
          refine zk_top (v' := .ref (Z (3, i, 0))) (zk_arr_some (f := (fun p => if p < zs_np X.1 then some (Z (3, p, 0)) else none)) (by omega) (if_pos hpi)) ?_
          refine lv_astore (lv' := [(6, .ref (Z (3, i, 0))), (5, .int (nI i)), (3, .long acc), (0, .ref (Z (0, 0, 0))), (1, .long d)]) hx hb dX5_sum_22 hl (by decide) rfl (fun ls hl => ?_)
          refine lv_aload hx hb dX5_sum_24 (lv_at hl 0 rfl) ?_
          refine lv_ifnull hx hb dX5_sum_26 ?_
          refine lv_lload_n hx hb dX5_sum_29 rfl (lv_at hl 2 rfl) ?_
          refine lv_aload_n hx hb dX5_sum_30 rfl (lv_at hl 3 rfl) ?_
          refine lv_aload hx hb dX5_sum_31 (lv_at hl 0 rfl) ?_
          refine lv_lload_n hx hb dX5_sum_33 rfl (lv_at hl 4 rfl) ?_
          refine vp_callSl (W.runV (As := [.ref (Z (3, i, 0)), .long d]) (rest := [.long acc]) ⟨hx, hb, hml, hown, hts⟩ (zc_X5_balanceOf l hR hI.2.2.2 hpi d) (cwV 2 hts gX5_sum_X5_balanceOf rfl rfl rfl (by decide +kernel) ⟨Nat.le_of_ble_eq_true rfl, Nat.le_of_ble_eq_true rfl⟩) (zk_preV hH hK hN hO rfl) rfl rfl hl.1 rfl (lv_room (Nat.le_of_ble_eq_true rfl)) dX5_sum_34 ⟨(Nat.le_of_ble_eq_true rfl), (Nat.le_of_ble_eq_true rfl)⟩) (fun r_34 hr_34 => ?_)
          refine lv_ladd hx hb dX5_sum_37 ?_
          refine lv_lstore_n (lv' := [(3, .long (acc + r_34)), (6, .ref (Z (3, i, 0))), (5, .int (nI i)), (0, .ref (Z (0, 0, 0))), (1, .long d)]) hx hb dX5_sum_38 rfl hl (by decide) rfl (fun ls hl => ?_)
          refine lv_iinc (v := nI (i + 1)) (lv' := [(5, .int (nI (i + 1))), (3, .long (acc + r_34)), (6, .ref (Z (3, i, 0))), (0, .ref (Z (0, 0, 0))), (1, .long d)]) hx hb dX5_sum_39 hl (k := 2) rfl (nI_1 i) (by decide) rfl (fun ls hl => ?_)
          refine lv_goto (tgt := 5) hx hb dX5_sum_42 (by decide) ?_
          exact ih (i + 1) _ ls (by omega) (by omega) (by rw [hacc, hr_34]; exact congrArg (zs_sum (fun p => if p < zs_np X.1 then zs_bal X.1 p d else 0) i + ·) (if_pos hpi).symm) (lv_sub hl [0, 1, 3, 4] rfl)
        · skip
          refine zk_top (v' := .null) (zk_arr_none (f := (fun p => if p < zs_np X.1 then some (Z (3, p, 0)) else none)) (by omega) (if_neg hpi)) ?_
          refine lv_astoreN (lv' := [(6, .null), (5, .int (nI i)), (3, .long acc), (0, .ref (Z (0, 0, 0))), (1, .long d)]) hx hb dX5_sum_22 hl (by decide) rfl (fun ls hl => ?_)
          refine lv_aloadN hx hb dX5_sum_24 (lv_at hl 0 rfl) ?_
          refine lv_ifnullN (tgt := 39) hx hb dX5_sum_26 (by decide) ?_
          refine lv_iinc (v := nI (i + 1)) (lv' := [(5, .int (nI (i + 1))), (6, .null), (3, .long acc), (0, .ref (Z (0, 0, 0))), (1, .long d)]) hx hb dX5_sum_39 hl (k := 1) rfl (nI_1 i) (by decide) rfl (fun ls hl => ?_)
          refine lv_goto (tgt := 5) hx hb dX5_sum_42 (by decide) ?_
          exact ih (i + 1) _ ls (by omega) (by omega) (by rw [hacc]; show _ = zs_sum (fun p => if p < zs_np X.1 then zs_bal X.1 p d else 0) i + (if i < zs_np X.1 then zs_bal X.1 i d else 0); rw [if_neg hpi, Int64.add_zero]) (lv_sub hl [0, 2, 3, 4] rfl)
  exact loop 25 0 0 ls (by omega) (by omega) rfl (lv_sub hl [0, 1, 2, 3] rfl)
end
section
set_option maxHeartbeats 4000000 in
set_option maxRecDepth 100000 in
theorem zc_X5_settle (l : Launch) {g : zk_G} {z : Nat} {M : zk_M} {X : zs_X} {Z : zs_Z} {n : Nat} (hR : zs_R g X Z M) (hI : zs_I X.1 n) (hn : zs_nc X.1 < 512) (x y mo : Int32) : Met l yX5_settle wsX5_settle ({ frames := 3, cells := 1, slots := 5, locals := 65 } : Room) (va_Pc [.ref (Z (0, 0, 0)), .int x, .int y, .int mo] (zk_U g z M)) (va_Qi (fun r u => r = (zs_fsettle (fun v => decide (0 < v)) X.1 x y mo).1 ∧ zs_P g X Z ((zs_fsettle (fun v => decide (0 < v)) X.1 x y mo).2, X.2) u) (zk_B g z) (fun q => z ≤ q)) 1 5 (fun q => z ≤ q) := by
  refine Met.ofW (cc := cX5_settle) (maxL := 13) (ret := (some .int)) (by decide) rfl ?_
  intro P0 e0 s m0 args below meth c0 s₁ B hml hv
  obtain ⟨rfl, hH, hK, hN⟩ := hv
  have hx := B.exec
  have hb := B.bytes
  have hr := B.returns
  have hts := atoms_spec (ws := wsX5_settle) B.pre
  have hown : s.vm.findClass RX5 = some m0.cls := findClass_of_methodNamed B.named
  have hlocks := B.notSynchronized
  have hS : va_S (fun q => z ≤ q) s.heap s.heap [] := va_S.rf
  have hl := lv_entry ([.ref (Z (0, 0, 0)), .int x, .int y, .int mo]) (n := 13) (Nat.le_of_ble_eq_true rfl)
  rw [lg_entry_eq]
  generalize (lg_sl ([.ref (Z (0, 0, 0)), .int x, .int y, .int mo]) ++ List.replicate (13 - (lg_sl ([.ref (Z (0, 0, 0)), .int x, .int y, .int mo])).length) Slot.unset).toArray = ls at hl ⊢
  have hl : lv_has ls 13 [(0, .ref (Z (0, 0, 0))), (1, .int x), (2, .int y), (3, .int mo)] := hl
  have hO : M (Z (0, 0, 0)) = some (.inr (5, [.ref (Z (3, 0, 0)), .ref (Z (1, 0, 0)), .ref (Z (2, 0, 0)), va_rf (zs_prev (zs_nc X.1) (fun i => Z (7, i, 0))), .int (nI (zs_nc X.1)), .long (zs_ck X.1)])) := hR.1 (0, 0, 0) ⟨rfl, rfl⟩
  refine lv_aload_n hx hb dX5_settle_0 rfl (lv_at hl 0 rfl) ?_
  refine lv_iload_n hx hb dX5_settle_1 rfl (lv_at hl 1 rfl) ?_
  refine va_csq (W.runV (As := [.int x]) (rest := []) ⟨hx, hb, hml, hown, hts⟩ (zc_X5_customerAt l hR hI.1.2.1 x) (cwV 1 hts gX5_settle_X5_customerAt rfl rfl rfl (by decide +kernel) ⟨Nat.le_of_ble_eq_true rfl, Nat.le_of_ble_eq_true rfl⟩) (zk_preV hH hK hN hO rfl) rfl rfl hl.1 rfl (lv_room (Nat.le_of_ble_eq_true rfl)) dX5_settle_2 ⟨(Nat.le_of_ble_eq_true rfl), (Nat.le_of_ble_eq_true rfl)⟩) (fun r_2 hr_2 => ?_)
  cases hx_2 : zs_cx (zs_np X.1) x with
  | none =>
    refine zk_top (v' := .null) (by rw [hr_2, hx_2]; rfl) ?_
    refine lv_astoreN (lv' := [(4, .null), (0, .ref (Z (0, 0, 0))), (1, .int x), (2, .int y), (3, .int mo)]) hx hb dX5_settle_5 hl (by decide) rfl (fun ls hl => ?_)
    refine lv_aload_n hx hb dX5_settle_7 rfl (lv_at hl 1 rfl) ?_
    refine lv_iload_n hx hb dX5_settle_8 rfl (lv_at hl 3 rfl) ?_
    refine va_csq (W.runV (As := [.int y]) (rest := []) ⟨hx, hb, hml, hown, hts⟩ (zc_X5_customerAt l hR hI.1.2.1 y) (cwV 1 hts gX5_settle_X5_customerAt rfl rfl rfl (by decide +kernel) ⟨Nat.le_of_ble_eq_true rfl, Nat.le_of_ble_eq_true rfl⟩) (zk_preV hH hK hN hO rfl) rfl rfl hl.1 rfl (lv_room (Nat.le_of_ble_eq_true rfl)) dX5_settle_9 ⟨(Nat.le_of_ble_eq_true rfl), (Nat.le_of_ble_eq_true rfl)⟩) (fun r_9 hr_9 => ?_)
    cases r_9 with
    | none =>
      refine lv_astoreN (lv' := [(5, .null), (4, .null), (0, .ref (Z (0, 0, 0))), (1, .int x), (2, .int y), (3, .int mo)]) hx hb dX5_settle_12 hl (by decide) rfl (fun ls hl => ?_)
      refine lv_iload_n hx hb dX5_settle_14 rfl (lv_at hl 5 rfl) ?_
      refine lv_i2l (v := (Int32.toInt64 mo)) hx hb dX5_settle_15 rfl ?_
      refine lv_ldc2 (v := 30) hx hb hown (hts (.constantLong RX5 108 (30)) (by decide +kernel)) dX5_settle_16 ?_
      refine lv_lmul hx hb dX5_settle_19 ?_
      refine lv_lstore (lv' := [(6, .long ((Int32.toInt64 mo) * 30)), (5, .null), (4, .null), (0, .ref (Z (0, 0, 0))), (1, .int x), (2, .int y), (3, .int mo)]) hx hb dX5_settle_20 hl (by decide) rfl (fun ls hl => ?_)
      refine lv_aloadN hx hb dX5_settle_22 (lv_at hl 2 rfl) ?_
      refine lv_ifnullN (tgt := 48) hx hb dX5_settle_24 (by decide) ?_
      refine lv_bipush (v := (-2)) hx hb dX5_settle_48 (by decide) ?_
      exact zk_zret hx hb hr hlocks (by first | rfl | decide) hH hS (by decide) (by decide) (zs_no hR (by simp only [zs_fsettle, hx_2])) dX5_settle_50
    | some v9 =>
      refine lv_astore (lv' := [(5, .ref v9), (4, .null), (0, .ref (Z (0, 0, 0))), (1, .int x), (2, .int y), (3, .int mo)]) hx hb dX5_settle_12 hl (by decide) rfl (fun ls hl => ?_)
      refine lv_iload_n hx hb dX5_settle_14 rfl (lv_at hl 5 rfl) ?_
      refine lv_i2l (v := (Int32.toInt64 mo)) hx hb dX5_settle_15 rfl ?_
      refine lv_ldc2 (v := 30) hx hb hown (hts (.constantLong RX5 108 (30)) (by decide +kernel)) dX5_settle_16 ?_
      refine lv_lmul hx hb dX5_settle_19 ?_
      refine lv_lstore (lv' := [(6, .long ((Int32.toInt64 mo) * 30)), (5, .ref v9), (4, .null), (0, .ref (Z (0, 0, 0))), (1, .int x), (2, .int y), (3, .int mo)]) hx hb dX5_settle_20 hl (by decide) rfl (fun ls hl => ?_)
      refine lv_aloadN hx hb dX5_settle_22 (lv_at hl 2 rfl) ?_
      refine lv_ifnullN (tgt := 48) hx hb dX5_settle_24 (by decide) ?_
      refine lv_bipush (v := (-2)) hx hb dX5_settle_48 (by decide) ?_
      exact zk_zret hx hb hr hlocks (by first | rfl | decide) hH hS (by decide) (by decide) (zs_no hR (by simp only [zs_fsettle, hx_2])) dX5_settle_50
  | some p =>
    refine zk_top (v' := .ref (Z (3, p, 0))) (by rw [hr_2, hx_2]; rfl) ?_
    obtain ⟨hp, ex_p, hz_p⟩ := zs_cx_some (by have := hI.1.2.1; omega) hx_2
    refine lv_astore (lv' := [(4, .ref (Z (3, p, 0))), (0, .ref (Z (0, 0, 0))), (1, .int x), (2, .int y), (3, .int mo)]) hx hb dX5_settle_5 hl (by decide) rfl (fun ls hl => ?_)
    refine lv_aload_n hx hb dX5_settle_7 rfl (lv_at hl 1 rfl) ?_
    refine lv_iload_n hx hb dX5_settle_8 rfl (lv_at hl 3 rfl) ?_
    refine va_csq (W.runV (As := [.int y]) (rest := []) ⟨hx, hb, hml, hown, hts⟩ (zc_X5_customerAt l hR hI.1.2.1 y) (cwV 1 hts gX5_settle_X5_customerAt rfl rfl rfl (by decide +kernel) ⟨Nat.le_of_ble_eq_true rfl, Nat.le_of_ble_eq_true rfl⟩) (zk_preV hH hK hN hO rfl) rfl rfl hl.1 rfl (lv_room (Nat.le_of_ble_eq_true rfl)) dX5_settle_9 ⟨(Nat.le_of_ble_eq_true rfl), (Nat.le_of_ble_eq_true rfl)⟩) (fun r_9 hr_9 => ?_)
    cases hx_9 : zs_cx (zs_np X.1) y with
    | none =>
      refine zk_top (v' := .null) (by rw [hr_9, hx_9]; rfl) ?_
      refine lv_astoreN (lv' := [(5, .null), (4, .ref (Z (3, p, 0))), (0, .ref (Z (0, 0, 0))), (1, .int x), (2, .int y), (3, .int mo)]) hx hb dX5_settle_12 hl (by decide) rfl (fun ls hl => ?_)
      refine lv_iload_n hx hb dX5_settle_14 rfl (lv_at hl 5 rfl) ?_
      refine lv_i2l (v := (Int32.toInt64 mo)) hx hb dX5_settle_15 rfl ?_
      refine lv_ldc2 (v := 30) hx hb hown (hts (.constantLong RX5 108 (30)) (by decide +kernel)) dX5_settle_16 ?_
      refine lv_lmul hx hb dX5_settle_19 ?_
      refine lv_lstore (lv' := [(6, .long ((Int32.toInt64 mo) * 30)), (5, .null), (4, .ref (Z (3, p, 0))), (0, .ref (Z (0, 0, 0))), (1, .int x), (2, .int y), (3, .int mo)]) hx hb dX5_settle_20 hl (by decide) rfl (fun ls hl => ?_)
      refine lv_aload hx hb dX5_settle_22 (lv_at hl 2 rfl) ?_
      refine lv_ifnull hx hb dX5_settle_24 ?_
      refine lv_aloadN hx hb dX5_settle_27 (lv_at hl 1 rfl) ?_
      refine lv_ifnullN (tgt := 48) hx hb dX5_settle_29 (by decide) ?_
      refine lv_bipush (v := (-2)) hx hb dX5_settle_48 (by decide) ?_
      exact zk_zret hx hb hr hlocks (by first | rfl | decide) hH hS (by decide) (by decide) (zs_no hR (by simp only [zs_fsettle, hx_2, hx_9])) dX5_settle_50
    | some q =>
      refine zk_top (v' := .ref (Z (3, q, 0))) (by rw [hr_9, hx_9]; rfl) ?_
      obtain ⟨hq, ex_q, hz_q⟩ := zs_cx_some (by have := hI.1.2.1; omega) hx_9
      refine lv_astore (lv' := [(5, .ref (Z (3, q, 0))), (4, .ref (Z (3, p, 0))), (0, .ref (Z (0, 0, 0))), (1, .int x), (2, .int y), (3, .int mo)]) hx hb dX5_settle_12 hl (by decide) rfl (fun ls hl => ?_)
      refine lv_iload_n hx hb dX5_settle_14 rfl (lv_at hl 5 rfl) ?_
      refine lv_i2l (v := (Int32.toInt64 mo)) hx hb dX5_settle_15 rfl ?_
      refine lv_ldc2 (v := 30) hx hb hown (hts (.constantLong RX5 108 (30)) (by decide +kernel)) dX5_settle_16 ?_
      refine lv_lmul hx hb dX5_settle_19 ?_
      refine lv_lstore (lv' := [(6, .long ((Int32.toInt64 mo) * 30)), (5, .ref (Z (3, q, 0))), (4, .ref (Z (3, p, 0))), (0, .ref (Z (0, 0, 0))), (1, .int x), (2, .int y), (3, .int mo)]) hx hb dX5_settle_20 hl (by decide) rfl (fun ls hl => ?_)
      refine lv_aload hx hb dX5_settle_22 (lv_at hl 2 rfl) ?_
      refine lv_ifnull hx hb dX5_settle_24 ?_
      refine lv_aload hx hb dX5_settle_27 (lv_at hl 1 rfl) ?_
      refine lv_ifnull hx hb dX5_settle_29 ?_
      refine lv_aload hx hb dX5_settle_32 (lv_at hl 2 rfl) ?_
      refine lv_aload hx hb dX5_settle_34 (lv_at hl 1 rfl) ?_
      refine lv_acmp_eq (rx := (some (Z (3, p, 0)))) (ry := (some (Z (3, q, 0)))) (tgt := 48) hx hb dX5_settle_36 (by decide) (fun h_36 => ?_) (fun h_36 => ?_)
      · skip
        have hpq : p = q := by have := hR.2 (3, p, 0) (3, q, 0) ⟨hp, rfl⟩ ⟨hq, rfl⟩ (Option.some.inj h_36); simpa using this
        refine lv_bipush (v := (-2)) hx hb dX5_settle_48 (by decide) ?_
        exact zk_zret hx hb hr hlocks (by first | rfl | decide) hH hS (by decide) (by decide) (zs_no hR (by simp only [zs_fsettle, hx_2, hx_9]; exact if_neg (fun e => e.1 hpq))) dX5_settle_50
      · skip
        have hpq : ¬ p = q := fun e => h_36 (by rw [e])
        refine lv_aload_n hx hb dX5_settle_39 rfl (lv_at hl 3 rfl) ?_
        refine lv_lload hx hb dX5_settle_40 (lv_at hl 0 rfl) ?_
        refine vp_callSi (W.runV (As := [.long ((Int32.toInt64 mo) * 30)]) (rest := []) ⟨hx, hb, hml, hown, hts⟩ (zc_X5_mayMoveOn l hR hn (Int32.toInt64 mo * 30)) (cwV 1 hts gX5_settle_X5_mayMoveOn rfl rfl rfl (by decide +kernel) ⟨Nat.le_of_ble_eq_true rfl, Nat.le_of_ble_eq_true rfl⟩) (zk_preV hH hK hN hO rfl) rfl rfl hl.1 rfl (lv_room (Nat.le_of_ble_eq_true rfl)) dX5_settle_42 ⟨(Nat.le_of_ble_eq_true rfl), (Nat.le_of_ble_eq_true rfl)⟩) (fun r_42 hr_42 => ?_)
        refine lv_if_ne (tgt := 51) hx hb dX5_settle_45 (by decide) (fun h_45 => ?_) (fun h_45 => ?_)
        · skip
          have hmay : zs_isD (Int32.toInt64 mo * 30) ∧ zs_ck X.1 ≤ (Int32.toInt64 mo * 30) := zs_b1 hr_42 h_45
          refine lv_aload_n hx hb dX5_settle_51 rfl (lv_at hl 3 rfl) ?_
          refine lv_aload hx hb dX5_settle_52 (lv_at hl 2 rfl) ?_
          refine lv_lload hx hb dX5_settle_54 (lv_at hl 0 rfl) ?_
          refine vp_callSl (W.runV (As := [.ref (Z (3, p, 0)), .long ((Int32.toInt64 mo) * 30)]) (rest := []) ⟨hx, hb, hml, hown, hts⟩ (zc_X5_worthOf l hR hI.2.2.1 hI.2.1 hI.1.2.2.1 hp (Int32.toInt64 mo * 30)) (cwV 2 hts gX5_settle_X5_worthOf rfl rfl rfl (by decide +kernel) ⟨Nat.le_of_ble_eq_true rfl, Nat.le_of_ble_eq_true rfl⟩) (zk_preV hH hK hN hO rfl) rfl rfl hl.1 rfl (lv_room (Nat.le_of_ble_eq_true rfl)) dX5_settle_56 ⟨(Nat.le_of_ble_eq_true rfl), (Nat.le_of_ble_eq_true rfl)⟩) (fun r_56 hr_56 => ?_)
          subst hr_56
          refine lv_aload_n hx hb dX5_settle_59 rfl (lv_at hl 3 rfl) ?_
          refine lv_aload hx hb dX5_settle_60 (lv_at hl 1 rfl) ?_
          refine lv_lload hx hb dX5_settle_62 (lv_at hl 0 rfl) ?_
          refine vp_callSl (W.runV (As := [.ref (Z (3, q, 0)), .long ((Int32.toInt64 mo) * 30)]) (rest := [.long (zs_worth X.1 p (Int32.toInt64 mo * 30))]) ⟨hx, hb, hml, hown, hts⟩ (zc_X5_worthOf l hR hI.2.2.1 hI.2.1 hI.1.2.2.1 hq (Int32.toInt64 mo * 30)) (cwV 2 hts gX5_settle_X5_worthOf rfl rfl rfl (by decide +kernel) ⟨Nat.le_of_ble_eq_true rfl, Nat.le_of_ble_eq_true rfl⟩) (zk_preV hH hK hN hO rfl) rfl rfl hl.1 rfl (lv_room (Nat.le_of_ble_eq_true rfl)) dX5_settle_64 ⟨(Nat.le_of_ble_eq_true rfl), (Nat.le_of_ble_eq_true rfl)⟩) (fun r_64 hr_64 => ?_)
          subst hr_64
          refine lv_lsub hx hb dX5_settle_67 ?_
          refine lv_topl (fun df edf => ?_)
          refine lv_lstore (lv' := [(8, .long df), (6, .long ((Int32.toInt64 mo) * 30)), (5, .ref (Z (3, q, 0))), (4, .ref (Z (3, p, 0))), (0, .ref (Z (0, 0, 0))), (1, .int x), (2, .int y), (3, .int mo)]) hx hb dX5_settle_68 hl (by decide) rfl (fun ls hl => ?_)
          refine lv_lload hx hb dX5_settle_70 (lv_at hl 0 rfl) ?_
          refine lv_lconst (v := 0) hx hb dX5_settle_72 (by decide) ?_
          refine zk_lc_le (tgt := 81) hx hb dX5_settle_73 dX5_settle_74 (by decide) (fun h_73 => ?_) (fun h_73 => ?_)
          · skip
            refine lv_iconst (v := 0) hx hb dX5_settle_81 (by decide) ?_
            refine lv_istore (lv' := [(10, .int 0), (8, .long df), (6, .long ((Int32.toInt64 mo) * 30)), (5, .ref (Z (3, q, 0))), (4, .ref (Z (3, p, 0))), (0, .ref (Z (0, 0, 0))), (1, .int x), (2, .int y), (3, .int mo)]) hx hb dX5_settle_82 hl (by decide) rfl (fun ls hl => ?_)
            refine lv_lload hx hb dX5_settle_84 (lv_at hl 1 rfl) ?_
            refine va_mabs_long hx hb (hml.trans hl.1.symm) hown (hts (.methodLink RX5 113 Lib.MathLoose.abs_long.x) (by decide +kernel)) (hts (.static Lib.MathLoose.abs_long.x) (by decide +kernel)) (hts (.initialized "java/lang/Math") (by decide +kernel)) (hts (.code Lib.MathLoose.abs_long.x Lib.MathLoose.abs_long.code 2 (some .long)) (by decide +kernel)) (Nat.le_of_ble_eq_true rfl) (Nat.le_of_ble_eq_true rfl) (Nat.le_of_ble_eq_true rfl) (Nat.le_of_ble_eq_true rfl) dX5_settle_86 ?_
            refine lv_ldc2 (v := 2) hx hb hown (hts (.constantLong RX5 118 (2)) (by decide +kernel)) dX5_settle_89 ?_
            refine lv_ldiv hx hb dX5_settle_92 (by decide) ?_
            refine lv_topl (fun ha eha => ?_)
            refine lv_lstore (lv' := [(11, .long ha), (10, .int 0), (8, .long df), (6, .long ((Int32.toInt64 mo) * 30)), (5, .ref (Z (3, q, 0))), (4, .ref (Z (3, p, 0))), (0, .ref (Z (0, 0, 0))), (1, .int x), (2, .int y), (3, .int mo)]) hx hb dX5_settle_93 hl (by decide) rfl (fun ls hl => ?_)
            refine lv_aload_n hx hb dX5_settle_95 rfl (lv_at hl 6 rfl) ?_
            refine lv_lload hx hb dX5_settle_96 (lv_at hl 3 rfl) ?_
            refine lv_lload hx hb dX5_settle_98 (lv_at hl 0 rfl) ?_
            refine lv_iload hx hb dX5_settle_100 (lv_at hl 1 rfl) ?_
            refine lv_if_eq (tgt := 110) hx hb dX5_settle_102 (by decide) (fun h_102 => ?_) (fun h_102 => ?_)
            · skip
              refine lv_aload hx hb dX5_settle_110 (lv_at hl 4 rfl) ?_
              refine lv_iload hx hb dX5_settle_112 (lv_at hl 1 rfl) ?_
              refine lv_if_eq (tgt := 122) hx hb dX5_settle_114 (by decide) (fun h_114 => ?_) (fun h_114 => ?_)
              · skip
                refine lv_aload hx hb dX5_settle_122 (lv_at hl 5 rfl) ?_
                refine zk_callv (va_runV (As := [.long ((Int32.toInt64 mo) * 30), .long ha, .ref (Z (3, q, 0)), .ref (Z (3, p, 0))]) (rest := []) ⟨hx, hb, hml, hown, hts⟩ (zc_X5_move l hR hI hq hp (Int32.toInt64 mo * 30) ha) (cwV 4 hts gX5_settle_X5_move rfl rfl rfl (by decide +kernel) ⟨Nat.le_of_ble_eq_true rfl, Nat.le_of_ble_eq_true rfl⟩) (zk_preV hH hK hN hO rfl) rfl rfl hl.1 rfl (lv_room (Nat.le_of_ble_eq_true rfl)) dX5_settle_124 ⟨(Nat.le_of_ble_eq_true rfl), (Nat.le_of_ble_eq_true rfl)⟩) hS (fun u_124 H locs hH hr_124 hS => ?_)
                refine lv_lload hx hb dX5_settle_127 (lv_at hl 0 rfl) ?_
                refine lv_lconst (v := 0) hx hb dX5_settle_129 (by decide) ?_
                refine zk_lc_ne (tgt := 136) hx hb dX5_settle_130 dX5_settle_131 (by decide) (fun h_130 => ?_) (fun h_130 => ?_)
                · skip
                  refine lv_iload hx hb dX5_settle_136 (lv_at hl 1 rfl) ?_
                  refine lv_if_eq (tgt := 145) hx hb dX5_settle_138 (by decide) (fun h_138 => ?_) (fun h_138 => ?_)
                  · skip
                    refine lv_iconst (v := (-1)) hx hb dX5_settle_145 (by decide) ?_
                    exact zk_zret hx hb hr hlocks (by first | rfl | decide) hH hS (by decide) (by decide) (by have hpos : ¬ 0 < df := Int64.not_lt.mpr h_73; have hdec : decide (0 < df) = false := decide_eq_false hpos; exact zs_yes (by simp only [zs_fsettle, hx_2, hx_9]; rw [if_pos ⟨hpq, hmay⟩, ← edf, ← eha]; simp only [hpos, h_130, decide_true, decide_false, if_true, if_false, Bool.false_eq_true]) hr_124) dX5_settle_146
                  · skip
                    exact absurd h_138 (by decide)
                · skip
                  refine lv_iconst (v := 0) hx hb dX5_settle_134 (by decide) ?_
                  exact zk_zret hx hb hr hlocks (by first | rfl | decide) hH hS (by decide) (by decide) (by have hpos : ¬ 0 < df := Int64.not_lt.mpr h_73; have hdec : decide (0 < df) = false := decide_eq_false hpos; exact zs_yes (by simp only [zs_fsettle, hx_2, hx_9]; rw [if_pos ⟨hpq, hmay⟩, ← edf, ← eha]; simp only [hpos, h_130, decide_true, decide_false, if_true, if_false, Bool.false_eq_true]) hr_124) dX5_settle_135
              · skip
                exact absurd h_114 (by decide)
            · skip
              exact absurd h_102 (by decide)
          · skip
            refine lv_iconst (v := 1) hx hb dX5_settle_77 (by decide) ?_
            refine lv_goto (tgt := 82) hx hb dX5_settle_78 (by decide) ?_
            refine lv_istore (lv' := [(10, .int 1), (8, .long df), (6, .long ((Int32.toInt64 mo) * 30)), (5, .ref (Z (3, q, 0))), (4, .ref (Z (3, p, 0))), (0, .ref (Z (0, 0, 0))), (1, .int x), (2, .int y), (3, .int mo)]) hx hb dX5_settle_82 hl (by decide) rfl (fun ls hl => ?_)
            refine lv_lload hx hb dX5_settle_84 (lv_at hl 1 rfl) ?_
            refine va_mabs_long hx hb (hml.trans hl.1.symm) hown (hts (.methodLink RX5 113 Lib.MathLoose.abs_long.x) (by decide +kernel)) (hts (.static Lib.MathLoose.abs_long.x) (by decide +kernel)) (hts (.initialized "java/lang/Math") (by decide +kernel)) (hts (.code Lib.MathLoose.abs_long.x Lib.MathLoose.abs_long.code 2 (some .long)) (by decide +kernel)) (Nat.le_of_ble_eq_true rfl) (Nat.le_of_ble_eq_true rfl) (Nat.le_of_ble_eq_true rfl) (Nat.le_of_ble_eq_true rfl) dX5_settle_86 ?_
            refine lv_ldc2 (v := 2) hx hb hown (hts (.constantLong RX5 118 (2)) (by decide +kernel)) dX5_settle_89 ?_
            refine lv_ldiv hx hb dX5_settle_92 (by decide) ?_
            refine lv_topl (fun ha eha => ?_)
            refine lv_lstore (lv' := [(11, .long ha), (10, .int 1), (8, .long df), (6, .long ((Int32.toInt64 mo) * 30)), (5, .ref (Z (3, q, 0))), (4, .ref (Z (3, p, 0))), (0, .ref (Z (0, 0, 0))), (1, .int x), (2, .int y), (3, .int mo)]) hx hb dX5_settle_93 hl (by decide) rfl (fun ls hl => ?_)
            refine lv_aload_n hx hb dX5_settle_95 rfl (lv_at hl 6 rfl) ?_
            refine lv_lload hx hb dX5_settle_96 (lv_at hl 3 rfl) ?_
            refine lv_lload hx hb dX5_settle_98 (lv_at hl 0 rfl) ?_
            refine lv_iload hx hb dX5_settle_100 (lv_at hl 1 rfl) ?_
            refine lv_if_eq (tgt := 110) hx hb dX5_settle_102 (by decide) (fun h_102 => ?_) (fun h_102 => ?_)
            · skip
              exact absurd h_102 (by decide)
            · skip
              refine lv_aload hx hb dX5_settle_105 (lv_at hl 5 rfl) ?_
              refine lv_goto (tgt := 112) hx hb dX5_settle_107 (by decide) ?_
              refine lv_iload hx hb dX5_settle_112 (lv_at hl 1 rfl) ?_
              refine lv_if_eq (tgt := 122) hx hb dX5_settle_114 (by decide) (fun h_114 => ?_) (fun h_114 => ?_)
              · skip
                exact absurd h_114 (by decide)
              · skip
                refine lv_aload hx hb dX5_settle_117 (lv_at hl 4 rfl) ?_
                refine lv_goto (tgt := 124) hx hb dX5_settle_119 (by decide) ?_
                refine zk_callv (va_runV (As := [.long ((Int32.toInt64 mo) * 30), .long ha, .ref (Z (3, p, 0)), .ref (Z (3, q, 0))]) (rest := []) ⟨hx, hb, hml, hown, hts⟩ (zc_X5_move l hR hI hp hq (Int32.toInt64 mo * 30) ha) (cwV 4 hts gX5_settle_X5_move rfl rfl rfl (by decide +kernel) ⟨Nat.le_of_ble_eq_true rfl, Nat.le_of_ble_eq_true rfl⟩) (zk_preV hH hK hN hO rfl) rfl rfl hl.1 rfl (lv_room (Nat.le_of_ble_eq_true rfl)) dX5_settle_124 ⟨(Nat.le_of_ble_eq_true rfl), (Nat.le_of_ble_eq_true rfl)⟩) hS (fun u_124 H locs hH hr_124 hS => ?_)
                refine lv_lload hx hb dX5_settle_127 (lv_at hl 0 rfl) ?_
                refine lv_lconst (v := 0) hx hb dX5_settle_129 (by decide) ?_
                refine zk_lc_ne (tgt := 136) hx hb dX5_settle_130 dX5_settle_131 (by decide) (fun h_130 => ?_) (fun h_130 => ?_)
                · skip
                  refine lv_iload hx hb dX5_settle_136 (lv_at hl 1 rfl) ?_
                  refine lv_if_eq (tgt := 145) hx hb dX5_settle_138 (by decide) (fun h_138 => ?_) (fun h_138 => ?_)
                  · skip
                    exact absurd h_138 (by decide)
                  · skip
                    refine lv_iconst (v := 1) hx hb dX5_settle_141 (by decide) ?_
                    refine lv_goto (tgt := 146) hx hb dX5_settle_142 (by decide) ?_
                    exact zk_zret hx hb hr hlocks (by first | rfl | decide) hH hS (by decide) (by decide) (by have hpos : 0 < df := Int64.not_le.mp h_73; have hdec : decide (0 < df) = true := decide_eq_true hpos; exact zs_yes (by simp only [zs_fsettle, hx_2, hx_9]; rw [if_pos ⟨hpq, hmay⟩, ← edf, ← eha]; simp only [hpos, h_130, decide_true, decide_false, if_true, if_false, Bool.false_eq_true]) hr_124) dX5_settle_146
                · skip
                  refine lv_iconst (v := 0) hx hb dX5_settle_134 (by decide) ?_
                  exact zk_zret hx hb hr hlocks (by first | rfl | decide) hH hS (by decide) (by decide) (by have hpos : 0 < df := Int64.not_le.mp h_73; have hdec : decide (0 < df) = true := decide_eq_true hpos; exact zs_yes (by simp only [zs_fsettle, hx_2, hx_9]; rw [if_pos ⟨hpq, hmay⟩, ← edf, ← eha]; simp only [hpos, h_130, decide_true, decide_false, if_true, if_false, Bool.false_eq_true]) hr_124) dX5_settle_135
        · skip
          have hmay : ¬ (zs_isD (Int32.toInt64 mo * 30) ∧ zs_ck X.1 ≤ (Int32.toInt64 mo * 30)) := zs_b0 hr_42 h_45
          refine lv_bipush (v := (-2)) hx hb dX5_settle_48 (by decide) ?_
          exact zk_zret hx hb hr hlocks (by first | rfl | decide) hH hS (by decide) (by decide) (zs_no hR (by simp only [zs_fsettle, hx_2, hx_9]; exact if_neg (fun e => hmay e.2))) dX5_settle_50

theorem inw_wsX5_party_2 : ∀ w ∈ u_ws RX2 TX2 2, w ∈ wsX5_party := by decide +kernel
theorem inw_wsX5_party_5 : ∀ w ∈ u_ws RX5 TX5 6, w ∈ wsX5_party := by decide +kernel
set_option maxHeartbeats 4000000 in
set_option maxRecDepth 100000 in
theorem zc_X5_party (l : Launch) {g : zk_G} {z : Nat} {M : zk_M} {X : zs_X} {Z : zs_Z} {n : Nat} (hR : zs_R g X Z M) (hI : zs_I X.1 n) : Met l yX5_party wsX5_party ({ frames := 2, cells := 1, slots := 2, locals := 32 } : Room) (va_Pc [.ref (Z (0, 0, 0))] (zk_U g z M)) (va_Qi (fun r u => r = (zs_fparty X.1).1 ∧ zs_P g X Z ((zs_fparty X.1).2, X.2) u) (zk_B g z) (fun q => z ≤ q)) 1 2 (fun q => z ≤ q) := by
  refine Met.ofW (cc := cX5_party) (maxL := 2) (ret := (some .int)) (by decide) rfl ?_
  intro P0 e0 s m0 args below meth c0 s₁ B hml hv
  obtain ⟨rfl, hH, hK, hN⟩ := hv
  have hx := B.exec
  have hb := B.bytes
  have hr := B.returns
  have hts := atoms_spec (ws := wsX5_party) B.pre
  have hown : s.vm.findClass RX5 = some m0.cls := findClass_of_methodNamed B.named
  have hlocks := B.notSynchronized
  have hS : va_S (fun q => z ≤ q) s.heap s.heap [] := va_S.rf
  have hl := lv_entry ([.ref (Z (0, 0, 0))]) (n := 2) (Nat.le_of_ble_eq_true rfl)
  rw [lg_entry_eq]
  generalize (lg_sl ([.ref (Z (0, 0, 0))]) ++ List.replicate (2 - (lg_sl ([.ref (Z (0, 0, 0))])).length) Slot.unset).toArray = ls at hl ⊢
  have hl : lv_has ls 2 [(0, .ref (Z (0, 0, 0)))] := hl
  have hO : M (Z (0, 0, 0)) = some (.inr (5, [.ref (Z (3, 0, 0)), .ref (Z (1, 0, 0)), .ref (Z (2, 0, 0)), va_rf (zs_prev (zs_nc X.1) (fun i => Z (7, i, 0))), .int (nI (zs_nc X.1)), .long (zs_ck X.1)])) := hR.1 (0, 0, 0) ⟨rfl, rfl⟩
  have hPA : M (Z (1, 0, 0)) = some (zk_aP g 24 (fun p => if p < zs_np X.1 then some (Z (3, p, 0)) else none)) := hR.1 (1, 0, 0) ⟨rfl, rfl⟩
  refine lv_iconst (v := 0) hx hb dX5_party_0 (by decide) ?_
  refine lv_istore_n (lv' := [(1, .int 0), (0, .ref (Z (0, 0, 0)))]) hx hb dX5_party_1 rfl hl (by decide) rfl (fun ls hl => ?_)
  have loop : ∀ (n i : Nat) (ls : Array Slot), 24 - i < n → i ≤ zs_np X.1 → lv_has ls 2 [(1, .int (nI i)), (0, .ref (Z (0, 0, 0)))] → W P0 l e0 (headSpec wsX5_party ({ frames := 2, cells := 1, slots := 2, locals := 32 } : Room)).room s m0 ([.ref (Z (0, 0, 0))] : List Value).toArray below meth c0 s.heap [] 0 0 (MQ below (va_Qi (fun r u => r = (zs_fparty X.1).1 ∧ zs_P g X Z ((zs_fparty X.1).2, X.2) u) (zk_B g z) (fun q => z ≤ q)) ([.ref (Z (0, 0, 0))] : List Value).toArray s 1 2 (fun q => z ≤ q)) (F0 m0 2 ls []) := by
    intro n
    induction n with
    | zero => intro i ls hn hi; have := hI.1.2.1; omega
    | succ n ih =>
      intro i ls hn hi hl
      have hNN := hI.1.2.1
      refine lv_iload_n hx hb dX5_party_2 rfl (lv_at hl 0 rfl) ?_
      refine lv_aload_n hx hb dX5_party_3 rfl (lv_at hl 1 rfl) ?_
      refine zk_get (ci := 5) (v := .ref (Z (1, 0, 0))) (C := RX5) (T := TX5) (N := 6) hx hb hts inw_wsX5_party_5 hown hK hH hO rfl 1 (by decide) (hts (.fieldLink RX5 16 "KegDeposits" "parties" "[LKegDeposits$Party;") (by decide +kernel)) rfl dX5_party_4 ?_
      refine zk_alen (v := 24) hx hb hK hH 2 hPA rfl rfl dX5_party_7 ?_
      refine lv_icmp_ge (tgt := 41) hx hb dX5_party_8 (by decide) (fun h_8 => ?_) (fun h_8 => ?_)
      · skip
        have hiN : i = 24 := by have := (nI_leI (a := 24) (b := i) (by decide) (by omega)).mp h_8; omega
        refine lv_bipush (v := (-2)) hx hb dX5_party_41 (by decide) ?_
        exact zk_zret hx hb hr hlocks (by first | rfl | decide) hH hS (by decide) (by decide) (zs_no hR (by unfold zs_fparty; exact if_neg (by omega))) dX5_party_43
      · skip
        have hiN : i < 24 := Nat.lt_of_not_le (fun q => h_8 ((nI_leI (a := 24) (b := i) (by decide) (by omega)).mpr q))
        refine lv_aload_n hx hb dX5_party_11 rfl (lv_at hl 1 rfl) ?_
        refine zk_get (ci := 5) (v := .ref (Z (1, 0, 0))) (C := RX5) (T := TX5) (N := 6) hx hb hts inw_wsX5_party_5 hown hK hH hO rfl 1 (by decide) (hts (.fieldLink RX5 16 "KegDeposits" "parties" "[LKegDeposits$Party;") (by decide +kernel)) rfl dX5_party_12 ?_
        refine lv_iload_n hx hb dX5_party_15 rfl (lv_at hl 0 rfl) ?_
        refine zk_aldP hx hb hK hH hPA (vp_in_nI hiN (by decide)) dX5_party_16 ?_
        by_cases hpi : i < zs_np X.1
        · skip
          refine zk_top (v' := .ref (Z (3, i, 0))) (zk_arr_some (f := (fun p => if p < zs_np X.1 then some (Z (3, p, 0)) else none)) (by omega) (if_pos hpi)) ?_
          refine lv_ifnonnull (tgt := 35) hx hb dX5_party_17 (by decide) ?_
          refine lv_iinc (v := nI (i + 1)) (lv' := [(1, .int (nI (i + 1))), (0, .ref (Z (0, 0, 0)))]) hx hb dX5_party_35 hl (k := 0) rfl (nI_1 i) (by decide) rfl (fun ls hl => ?_)
          refine lv_goto (tgt := 2) hx hb dX5_party_38 (by decide) ?_
          exact ih (i + 1) ls (by omega) (by omega) (lv_sub hl [0, 1] rfl)
        · skip
          refine zk_top (v' := .null) (zk_arr_none (f := (fun p => if p < zs_np X.1 then some (Z (3, p, 0)) else none)) (by omega) (if_neg hpi)) ?_
          have hin : i = zs_np X.1 := by omega
          subst hin
          refine lv_ifnonnullN hx hb dX5_party_17 ?_
          refine lv_aload_n hx hb dX5_party_20 rfl (lv_at hl 1 rfl) ?_
          refine zk_get (ci := 5) (v := .ref (Z (1, 0, 0))) (C := RX5) (T := TX5) (N := 6) hx hb hts inw_wsX5_party_5 hown hK hH hO rfl 1 (by decide) (hts (.fieldLink RX5 16 "KegDeposits" "parties" "[LKegDeposits$Party;") (by decide +kernel)) rfl dX5_party_21 ?_
          refine lv_iload_n hx hb dX5_party_24 rfl (lv_at hl 0 rfl) ?_
          refine zk_new (ci := 2) (fs := [.null, .null]) (C := RX2) (T := TX2) (N := 2) hx hb hts inw_wsX5_party_2 tyX2 tyX2_ok hown (hts (.classLink RX5 7 RX2) (by decide +kernel)) (hts (.instantiable RX2 2) (by decide +kernel)) (hts (.initialized RX2) (by decide +kernel)) hK hH hS rfl (fun j hj => by rcases (show j = 0 ∨ j = 1 by omega) with rfl | rfl <;> rfl) (Nat.le_of_ble_eq_true rfl) (Nat.le_of_ble_eq_true rfl) dX5_party_25 (fun q_25 H hf_25 hH hS => ?_)
          obtain ⟨M_25, eM_25⟩ : ∃ w_0 : zk_M, w_0 = zk_up M q_25 (.inr (2, [.null, .null])) := ⟨_, rfl⟩
          have hH : zk_H g z M_25 H := by rw [eM_25]; exact hH
          have f_25_0 : M_25 (Z (0, 0, 0)) = some (.inr (5, [.ref (Z (3, 0, 0)), .ref (Z (1, 0, 0)), .ref (Z (2, 0, 0)), va_rf (zs_prev (zs_nc X.1) (fun i => Z (7, i, 0))), .int (nI (zs_nc X.1)), .long (zs_ck X.1)])) := by rw [eM_25, zk_up_n _ _ (zk_ne_none hO hf_25)]; exact hO
          have f_25_1 : M_25 (Z (1, 0, 0)) = some (zk_aP g 24 (fun p => if p < zs_np X.1 then some (Z (3, p, 0)) else none)) := by rw [eM_25, zk_up_n _ _ (zk_ne_none hPA hf_25)]; exact hPA
          have e_25 : M_25 q_25 = some (.inr (2, [.null, .null])) := by rw [eM_25]; exact zk_up_s _ _ _
          refine lv_dup hx hb dX5_party_28 rfl ?_
          refine zk_callv (va_runIN (As := []) (rest := [.ref q_25, .int (nI (zs_np X.1)), .ref (Z (1, 0, 0))]) ⟨hx, hb, hml, hown, hts⟩ (zc_X2_init l e_25) ⟨va_cnB 0 hts ggX5_party_X2_init rfl rfl rfl (zk_nm_0 hN) (hts (.initialized RX2) (by decide +kernel)) (by decide +kernel) ⟨Nat.le_of_ble_eq_true rfl, Nat.le_of_ble_eq_true rfl⟩, rfl, (hts (.instanceMethod yX2_init) (by decide +kernel))⟩ (zk_preS hH hK hN) rfl rfl hl.1 rfl (lv_room (Nat.le_of_ble_eq_true rfl)) dX5_party_29 ⟨(Nat.le_of_ble_eq_true rfl), (Nat.le_of_ble_eq_true rfl)⟩) hS (fun u_29 H locs hH hr_29 hS => ?_)
          have f_29 : u_29 (Z (1, 0, 0)) = some (zk_aP g 24 (fun p => if p < zs_np X.1 then some (Z (3, p, 0)) else none)) := (hr_29.2 _ (zk_ne_none hPA hf_25)).trans (by rw [eM_25, zk_up_n _ _ (zk_ne_none hPA hf_25)]; exact hPA)
          refine zk_astq hx hb hK hH hS 2 2 (r := (RX2, TX2, 2)) (f := (fun p => if p < zs_np X.1 then some (Z (3, p, 0)) else none)) f_29 rfl hr_29.1 rfl (vp_in_nI hiN (by decide)) dX5_party_32 (fun H locs hH hS => ?_)
          rw [show va_up (fun p => if p < zs_np X.1 then some (Z (3, p, 0)) else none) (Int32.toNatClampNeg (nI (zs_np X.1))) (some q_25) = (va_up (fun p => if p < zs_np X.1 then some (Z (3, p, 0)) else none) (zs_np X.1) (some q_25)) from by rw [nI_clamp (by omega)]] at hH
          obtain ⟨M_32, eM_32⟩ : ∃ w_0 : zk_M, w_0 = zk_up u_29 (Z (1, 0, 0)) (zk_aP g 24 (va_up (fun p => if p < zs_np X.1 then some (Z (3, p, 0)) else none) (zs_np X.1) (some q_25))) := ⟨_, rfl⟩
          have hH : zk_H g z M_32 H := by rw [eM_32]; exact hH
          have f_32_0 : M_32 q_25 = some (.inr (2, [.null, .null])) := by rw [eM_32, zk_up_n _ _ (zk_ne hr_29.1 f_29 (by simp))]; exact hr_29.1
          have e_32 : M_32 (Z (1, 0, 0)) = some (zk_aP g 24 (va_up (fun p => if p < zs_np X.1 then some (Z (3, p, 0)) else none) (zs_np X.1) (some q_25))) := by rw [eM_32]; exact zk_up_s _ _ _
          have f_32 := f_32_0
          refine lv_iload_n hx hb dX5_party_33 rfl (lv_at hl 0 rfl) ?_
          exact zk_zret hx hb hr hlocks (by first | rfl | decide) hH hS (by decide) (by decide) (zs_yes (by unfold zs_fparty; exact if_pos hiN) ⟨_, zs_R_party hR hI hf_25 (fun b h1 h2 => by rw [eM_32, zk_up_n _ _ h2, hr_29.2 b h1, eM_25, zk_up_n _ _ h1]) e_32 f_32, fun q hq => zs_Zup_n Z _ (fun e => absurd (e ▸ hq : zs_ok X (3, zs_np X.1, 0)).1 (Nat.lt_irrefl _))⟩) dX5_party_34
  exact loop 25 0 ls (by omega) (Nat.zero_le _) (lv_sub hl [0, 1] rfl)

theorem inw_wsX5_kind_0 : ∀ w ∈ u_ws RX0 TX0 3, w ∈ wsX5_kind := by decide +kernel
theorem inw_wsX5_kind_5 : ∀ w ∈ u_ws RX5 TX5 6, w ∈ wsX5_kind := by decide +kernel
set_option maxHeartbeats 4000000 in
set_option maxRecDepth 100000 in
theorem zc_X5_kind (l : Launch) {g : zk_G} {z : Nat} {M : zk_M} {X : zs_X} {Z : zs_Z} {n : Nat} (hR : zs_R g X Z M) (hI : zs_I X.1 n) : Met l yX5_kind wsX5_kind ({ frames := 2, cells := 1, slots := 3, locals := 32 } : Room) (va_Pc [.ref (Z (0, 0, 0))] (zk_U g z M)) (va_Qi (fun r u => r = (zs_fkind X.1).1 ∧ zs_P g X Z ((zs_fkind X.1).2, X.2) u) (zk_B g z) (fun q => z ≤ q)) 1 3 (fun q => z ≤ q) := by
  refine Met.ofW (cc := cX5_kind) (maxL := 2) (ret := (some .int)) (by decide) rfl ?_
  intro P0 e0 s m0 args below meth c0 s₁ B hml hv
  obtain ⟨rfl, hH, hK, hN⟩ := hv
  have hx := B.exec
  have hb := B.bytes
  have hr := B.returns
  have hts := atoms_spec (ws := wsX5_kind) B.pre
  have hown : s.vm.findClass RX5 = some m0.cls := findClass_of_methodNamed B.named
  have hlocks := B.notSynchronized
  have hS : va_S (fun q => z ≤ q) s.heap s.heap [] := va_S.rf
  have hl := lv_entry ([.ref (Z (0, 0, 0))]) (n := 2) (Nat.le_of_ble_eq_true rfl)
  rw [lg_entry_eq]
  generalize (lg_sl ([.ref (Z (0, 0, 0))]) ++ List.replicate (2 - (lg_sl ([.ref (Z (0, 0, 0))])).length) Slot.unset).toArray = ls at hl ⊢
  have hl : lv_has ls 2 [(0, .ref (Z (0, 0, 0)))] := hl
  have hO : M (Z (0, 0, 0)) = some (.inr (5, [.ref (Z (3, 0, 0)), .ref (Z (1, 0, 0)), .ref (Z (2, 0, 0)), va_rf (zs_prev (zs_nc X.1) (fun i => Z (7, i, 0))), .int (nI (zs_nc X.1)), .long (zs_ck X.1)])) := hR.1 (0, 0, 0) ⟨rfl, rfl⟩
  have hKA : M (Z (2, 0, 0)) = some (zk_aQ g 12 (fun k => if k < zs_nk X.1 then some (Z (4, k, 0)) else none)) := hR.1 (2, 0, 0) ⟨rfl, rfl⟩
  refine lv_iconst (v := 0) hx hb dX5_kind_0 (by decide) ?_
  refine lv_istore_n (lv' := [(1, .int 0), (0, .ref (Z (0, 0, 0)))]) hx hb dX5_kind_1 rfl hl (by decide) rfl (fun ls hl => ?_)
  have loop : ∀ (n i : Nat) (ls : Array Slot), 12 - i < n → i ≤ zs_nk X.1 → lv_has ls 2 [(1, .int (nI i)), (0, .ref (Z (0, 0, 0)))] → W P0 l e0 (headSpec wsX5_kind ({ frames := 2, cells := 1, slots := 3, locals := 32 } : Room)).room s m0 ([.ref (Z (0, 0, 0))] : List Value).toArray below meth c0 s.heap [] 0 0 (MQ below (va_Qi (fun r u => r = (zs_fkind X.1).1 ∧ zs_P g X Z ((zs_fkind X.1).2, X.2) u) (zk_B g z) (fun q => z ≤ q)) ([.ref (Z (0, 0, 0))] : List Value).toArray s 1 3 (fun q => z ≤ q)) (F0 m0 2 ls []) := by
    intro n
    induction n with
    | zero => intro i ls hn hi; have := hI.1.2.2.1; omega
    | succ n ih =>
      intro i ls hn hi hl
      have hNN := hI.1.2.2.1
      refine lv_iload_n hx hb dX5_kind_2 rfl (lv_at hl 0 rfl) ?_
      refine lv_aload_n hx hb dX5_kind_3 rfl (lv_at hl 1 rfl) ?_
      refine zk_get (ci := 5) (v := .ref (Z (2, 0, 0))) (C := RX5) (T := TX5) (N := 6) hx hb hts inw_wsX5_kind_5 hown hK hH hO rfl 2 (by decide) (hts (.fieldLink RX5 22 "KegDeposits" "kinds" "[LKegDeposits$Kind;") (by decide +kernel)) rfl dX5_kind_4 ?_
      refine zk_alen (v := 12) hx hb hK hH 3 hKA rfl rfl dX5_kind_7 ?_
      refine lv_icmp_ge (tgt := 41) hx hb dX5_kind_8 (by decide) (fun h_8 => ?_) (fun h_8 => ?_)
      · skip
        have hiN : i = 12 := by have := (nI_leI (a := 12) (b := i) (by decide) (by omega)).mp h_8; omega
        refine lv_bipush (v := (-2)) hx hb dX5_kind_41 (by decide) ?_
        exact zk_zret hx hb hr hlocks (by first | rfl | decide) hH hS (by decide) (by decide) (zs_no hR (by unfold zs_fkind; exact if_neg (by omega))) dX5_kind_43
      · skip
        have hiN : i < 12 := Nat.lt_of_not_le (fun q => h_8 ((nI_leI (a := 12) (b := i) (by decide) (by omega)).mpr q))
        refine lv_aload_n hx hb dX5_kind_11 rfl (lv_at hl 1 rfl) ?_
        refine zk_get (ci := 5) (v := .ref (Z (2, 0, 0))) (C := RX5) (T := TX5) (N := 6) hx hb hts inw_wsX5_kind_5 hown hK hH hO rfl 2 (by decide) (hts (.fieldLink RX5 22 "KegDeposits" "kinds" "[LKegDeposits$Kind;") (by decide +kernel)) rfl dX5_kind_12 ?_
        refine lv_iload_n hx hb dX5_kind_15 rfl (lv_at hl 0 rfl) ?_
        refine zk_aldQ hx hb hK hH hKA (vp_in_nI hiN (by decide)) dX5_kind_16 ?_
        by_cases hpi : i < zs_nk X.1
        · skip
          refine zk_top (v' := .ref (Z (4, i, 0))) (zk_arr_some (f := (fun k => if k < zs_nk X.1 then some (Z (4, k, 0)) else none)) (by omega) (if_pos hpi)) ?_
          refine lv_ifnonnull (tgt := 35) hx hb dX5_kind_17 (by decide) ?_
          refine lv_iinc (v := nI (i + 1)) (lv' := [(1, .int (nI (i + 1))), (0, .ref (Z (0, 0, 0)))]) hx hb dX5_kind_35 hl (k := 0) rfl (nI_1 i) (by decide) rfl (fun ls hl => ?_)
          refine lv_goto (tgt := 2) hx hb dX5_kind_38 (by decide) ?_
          exact ih (i + 1) ls (by omega) (by omega) (lv_sub hl [0, 1] rfl)
        · skip
          refine zk_top (v' := .null) (zk_arr_none (f := (fun k => if k < zs_nk X.1 then some (Z (4, k, 0)) else none)) (by omega) (if_neg hpi)) ?_
          have hin : i = zs_nk X.1 := by omega
          subst hin
          refine lv_ifnonnullN hx hb dX5_kind_17 ?_
          refine lv_aload_n hx hb dX5_kind_20 rfl (lv_at hl 1 rfl) ?_
          refine zk_get (ci := 5) (v := .ref (Z (2, 0, 0))) (C := RX5) (T := TX5) (N := 6) hx hb hts inw_wsX5_kind_5 hown hK hH hO rfl 2 (by decide) (hts (.fieldLink RX5 22 "KegDeposits" "kinds" "[LKegDeposits$Kind;") (by decide +kernel)) rfl dX5_kind_21 ?_
          refine lv_iload_n hx hb dX5_kind_24 rfl (lv_at hl 0 rfl) ?_
          refine zk_new (ci := 0) (fs := [.null, .long 0, .long 0]) (C := RX0) (T := TX0) (N := 3) hx hb hts inw_wsX5_kind_0 tyX0 tyX0_ok hown (hts (.classLink RX5 20 RX0) (by decide +kernel)) (hts (.instantiable RX0 3) (by decide +kernel)) (hts (.initialized RX0) (by decide +kernel)) hK hH hS rfl (fun j hj => by rcases (show j = 0 ∨ j = 1 ∨ j = 2 by omega) with rfl | rfl | rfl <;> rfl) (Nat.le_of_ble_eq_true rfl) (Nat.le_of_ble_eq_true rfl) dX5_kind_25 (fun q_25 H hf_25 hH hS => ?_)
          obtain ⟨M_25, eM_25⟩ : ∃ w_0 : zk_M, w_0 = zk_up M q_25 (.inr (0, [.null, .long 0, .long 0])) := ⟨_, rfl⟩
          have hH : zk_H g z M_25 H := by rw [eM_25]; exact hH
          have f_25_0 : M_25 (Z (0, 0, 0)) = some (.inr (5, [.ref (Z (3, 0, 0)), .ref (Z (1, 0, 0)), .ref (Z (2, 0, 0)), va_rf (zs_prev (zs_nc X.1) (fun i => Z (7, i, 0))), .int (nI (zs_nc X.1)), .long (zs_ck X.1)])) := by rw [eM_25, zk_up_n _ _ (zk_ne_none hO hf_25)]; exact hO
          have f_25_1 : M_25 (Z (2, 0, 0)) = some (zk_aQ g 12 (fun k => if k < zs_nk X.1 then some (Z (4, k, 0)) else none)) := by rw [eM_25, zk_up_n _ _ (zk_ne_none hKA hf_25)]; exact hKA
          have e_25 : M_25 q_25 = some (.inr (0, [.null, .long 0, .long 0])) := by rw [eM_25]; exact zk_up_s _ _ _
          refine lv_dup hx hb dX5_kind_28 rfl ?_
          refine zk_callv (va_runIN (As := []) (rest := [.ref q_25, .int (nI (zs_nk X.1)), .ref (Z (2, 0, 0))]) ⟨hx, hb, hml, hown, hts⟩ (zc_X0_init l e_25) ⟨va_cnB 0 hts ggX5_kind_X0_init rfl rfl rfl (zk_nm_1 hN) (hts (.initialized RX0) (by decide +kernel)) (by decide +kernel) ⟨Nat.le_of_ble_eq_true rfl, Nat.le_of_ble_eq_true rfl⟩, rfl, (hts (.instanceMethod yX0_init) (by decide +kernel))⟩ (zk_preS hH hK hN) rfl rfl hl.1 rfl (lv_room (Nat.le_of_ble_eq_true rfl)) dX5_kind_29 ⟨(Nat.le_of_ble_eq_true rfl), (Nat.le_of_ble_eq_true rfl)⟩) hS (fun u_29 H locs hH hr_29 hS => ?_)
          have f_29 : u_29 (Z (2, 0, 0)) = some (zk_aQ g 12 (fun k => if k < zs_nk X.1 then some (Z (4, k, 0)) else none)) := (hr_29.2 _ (zk_ne_none hKA hf_25)).trans (by rw [eM_25, zk_up_n _ _ (zk_ne_none hKA hf_25)]; exact hKA)
          refine zk_astq hx hb hK hH hS 3 0 (r := (RX0, TX0, 3)) (f := (fun k => if k < zs_nk X.1 then some (Z (4, k, 0)) else none)) f_29 rfl hr_29.1 rfl (vp_in_nI hiN (by decide)) dX5_kind_32 (fun H locs hH hS => ?_)
          rw [show va_up (fun k => if k < zs_nk X.1 then some (Z (4, k, 0)) else none) (Int32.toNatClampNeg (nI (zs_nk X.1))) (some q_25) = (va_up (fun k => if k < zs_nk X.1 then some (Z (4, k, 0)) else none) (zs_nk X.1) (some q_25)) from by rw [nI_clamp (by omega)]] at hH
          obtain ⟨M_32, eM_32⟩ : ∃ w_0 : zk_M, w_0 = zk_up u_29 (Z (2, 0, 0)) (zk_aQ g 12 (va_up (fun k => if k < zs_nk X.1 then some (Z (4, k, 0)) else none) (zs_nk X.1) (some q_25))) := ⟨_, rfl⟩
          have hH : zk_H g z M_32 H := by rw [eM_32]; exact hH
          have f_32_0 : M_32 q_25 = some (.inr (0, [.null, .long 0, .long 0])) := by rw [eM_32, zk_up_n _ _ (zk_ne hr_29.1 f_29 (by simp))]; exact hr_29.1
          have e_32 : M_32 (Z (2, 0, 0)) = some (zk_aQ g 12 (va_up (fun k => if k < zs_nk X.1 then some (Z (4, k, 0)) else none) (zs_nk X.1) (some q_25))) := by rw [eM_32]; exact zk_up_s _ _ _
          have f_32 := f_32_0
          refine lv_iload_n hx hb dX5_kind_33 rfl (lv_at hl 0 rfl) ?_
          exact zk_zret hx hb hr hlocks (by first | rfl | decide) hH hS (by decide) (by decide) (zs_yes (by unfold zs_fkind; exact if_pos hiN) ⟨_, zs_R_kind hR hI hf_25 (fun b h1 h2 => by rw [eM_32, zk_up_n _ _ h2, hr_29.2 b h1, eM_25, zk_up_n _ _ h1]) e_32 f_32, fun q hq => zs_Zup_n Z _ (fun e => absurd (e ▸ hq : zs_ok X (4, zs_nk X.1, 0)).1 (Nat.lt_irrefl _))⟩) dX5_kind_34
  exact loop 13 0 ls (by omega) (Nat.zero_le _) (lv_sub hl [0, 1] rfl)
end
section
theorem zs_Rm_np {g : zk_G} {X : zs_X} {Z : zs_Z} {M : zk_M} (hR : zs_R g X Z M) (v : Nat) : zs_R g (X.1, zs_np_ X.2.1 v, X.2.2) Z (zk_up M (Z (8, 0, 0)) (.inr (6, [.int (nI (v)), .int (nI (zs_nk X.2.1)), .long (zs_ck X.2.1), .ref (Z (8, 1, 0)), .ref (Z (8, 2, 0)), .ref (Z (8, 3, 0)), .ref (Z (8, 4, 0)), .ref (Z (8, 5, 0)), .ref (Z (8, 6, 0)), .int (nI (zs_nl X.2.1)), .ref (Z (8, 7, 0)), .ref (Z (8, 8, 0)), .ref (Z (8, 9, 0)), .ref (Z (8, 10, 0)), .ref (Z (8, 11, 0)), .int (nI (zs_nc X.2.1)), .ref (Z (8, 12, 0)), .ref (Z (8, 13, 0)), .ref (Z (8, 14, 0)), .ref (Z (8, 15, 0))]))) := by
  refine zs_R_mod hR (zs_np_ X.2.1 v) (X.2.2) 0 (by decide) (fun i hi hne => ?_) rfl
  match i, hi with
  | 0, _ => exact absurd rfl hne
  | 1, _ => rfl
  | 2, _ => rfl
  | 3, _ => rfl
  | 4, _ => rfl
  | 5, _ => rfl
  | 6, _ => rfl
  | 7, _ => rfl
  | 8, _ => rfl
  | 9, _ => rfl
  | 10, _ => rfl
  | 11, _ => rfl
  | 12, _ => rfl
  | 13, _ => rfl
  | 14, _ => rfl
  | 15, _ => rfl
  | n + 16, hn => exact absurd hn (by omega)
theorem zs_Rm_nk {g : zk_G} {X : zs_X} {Z : zs_Z} {M : zk_M} (hR : zs_R g X Z M) (v : Nat) : zs_R g (X.1, zs_nk_ X.2.1 v, X.2.2) Z (zk_up M (Z (8, 0, 0)) (.inr (6, [.int (nI (zs_np X.2.1)), .int (nI (v)), .long (zs_ck X.2.1), .ref (Z (8, 1, 0)), .ref (Z (8, 2, 0)), .ref (Z (8, 3, 0)), .ref (Z (8, 4, 0)), .ref (Z (8, 5, 0)), .ref (Z (8, 6, 0)), .int (nI (zs_nl X.2.1)), .ref (Z (8, 7, 0)), .ref (Z (8, 8, 0)), .ref (Z (8, 9, 0)), .ref (Z (8, 10, 0)), .ref (Z (8, 11, 0)), .int (nI (zs_nc X.2.1)), .ref (Z (8, 12, 0)), .ref (Z (8, 13, 0)), .ref (Z (8, 14, 0)), .ref (Z (8, 15, 0))]))) := by
  refine zs_R_mod hR (zs_nk_ X.2.1 v) (X.2.2) 0 (by decide) (fun i hi hne => ?_) rfl
  match i, hi with
  | 0, _ => exact absurd rfl hne
  | 1, _ => rfl
  | 2, _ => rfl
  | 3, _ => rfl
  | 4, _ => rfl
  | 5, _ => rfl
  | 6, _ => rfl
  | 7, _ => rfl
  | 8, _ => rfl
  | 9, _ => rfl
  | 10, _ => rfl
  | 11, _ => rfl
  | 12, _ => rfl
  | 13, _ => rfl
  | 14, _ => rfl
  | 15, _ => rfl
  | n + 16, hn => exact absurd hn (by omega)
theorem zs_Rm_nl {g : zk_G} {X : zs_X} {Z : zs_Z} {M : zk_M} (hR : zs_R g X Z M) (v : Nat) : zs_R g (X.1, zs_nl_ X.2.1 v, X.2.2) Z (zk_up M (Z (8, 0, 0)) (.inr (6, [.int (nI (zs_np X.2.1)), .int (nI (zs_nk X.2.1)), .long (zs_ck X.2.1), .ref (Z (8, 1, 0)), .ref (Z (8, 2, 0)), .ref (Z (8, 3, 0)), .ref (Z (8, 4, 0)), .ref (Z (8, 5, 0)), .ref (Z (8, 6, 0)), .int (nI (v)), .ref (Z (8, 7, 0)), .ref (Z (8, 8, 0)), .ref (Z (8, 9, 0)), .ref (Z (8, 10, 0)), .ref (Z (8, 11, 0)), .int (nI (zs_nc X.2.1)), .ref (Z (8, 12, 0)), .ref (Z (8, 13, 0)), .ref (Z (8, 14, 0)), .ref (Z (8, 15, 0))]))) := by
  refine zs_R_mod hR (zs_nl_ X.2.1 v) (X.2.2) 0 (by decide) (fun i hi hne => ?_) rfl
  match i, hi with
  | 0, _ => exact absurd rfl hne
  | 1, _ => rfl
  | 2, _ => rfl
  | 3, _ => rfl
  | 4, _ => rfl
  | 5, _ => rfl
  | 6, _ => rfl
  | 7, _ => rfl
  | 8, _ => rfl
  | 9, _ => rfl
  | 10, _ => rfl
  | 11, _ => rfl
  | 12, _ => rfl
  | 13, _ => rfl
  | 14, _ => rfl
  | 15, _ => rfl
  | n + 16, hn => exact absurd hn (by omega)
theorem zs_Rm_nc {g : zk_G} {X : zs_X} {Z : zs_Z} {M : zk_M} (hR : zs_R g X Z M) (v : Nat) : zs_R g (X.1, zs_nc_ X.2.1 v, X.2.2) Z (zk_up M (Z (8, 0, 0)) (.inr (6, [.int (nI (zs_np X.2.1)), .int (nI (zs_nk X.2.1)), .long (zs_ck X.2.1), .ref (Z (8, 1, 0)), .ref (Z (8, 2, 0)), .ref (Z (8, 3, 0)), .ref (Z (8, 4, 0)), .ref (Z (8, 5, 0)), .ref (Z (8, 6, 0)), .int (nI (zs_nl X.2.1)), .ref (Z (8, 7, 0)), .ref (Z (8, 8, 0)), .ref (Z (8, 9, 0)), .ref (Z (8, 10, 0)), .ref (Z (8, 11, 0)), .int (nI (v)), .ref (Z (8, 12, 0)), .ref (Z (8, 13, 0)), .ref (Z (8, 14, 0)), .ref (Z (8, 15, 0))]))) := by
  refine zs_R_mod hR (zs_nc_ X.2.1 v) (X.2.2) 0 (by decide) (fun i hi hne => ?_) rfl
  match i, hi with
  | 0, _ => exact absurd rfl hne
  | 1, _ => rfl
  | 2, _ => rfl
  | 3, _ => rfl
  | 4, _ => rfl
  | 5, _ => rfl
  | 6, _ => rfl
  | 7, _ => rfl
  | 8, _ => rfl
  | 9, _ => rfl
  | 10, _ => rfl
  | 11, _ => rfl
  | 12, _ => rfl
  | 13, _ => rfl
  | 14, _ => rfl
  | 15, _ => rfl
  | n + 16, hn => exact absurd hn (by omega)
theorem zs_Rm_ck {g : zk_G} {X : zs_X} {Z : zs_Z} {M : zk_M} (hR : zs_R g X Z M) (v : Int64) : zs_R g (X.1, zs_ck_ X.2.1 v, X.2.2) Z (zk_up M (Z (8, 0, 0)) (.inr (6, [.int (nI (zs_np X.2.1)), .int (nI (zs_nk X.2.1)), .long (v), .ref (Z (8, 1, 0)), .ref (Z (8, 2, 0)), .ref (Z (8, 3, 0)), .ref (Z (8, 4, 0)), .ref (Z (8, 5, 0)), .ref (Z (8, 6, 0)), .int (nI (zs_nl X.2.1)), .ref (Z (8, 7, 0)), .ref (Z (8, 8, 0)), .ref (Z (8, 9, 0)), .ref (Z (8, 10, 0)), .ref (Z (8, 11, 0)), .int (nI (zs_nc X.2.1)), .ref (Z (8, 12, 0)), .ref (Z (8, 13, 0)), .ref (Z (8, 14, 0)), .ref (Z (8, 15, 0))]))) := by
  refine zs_R_mod hR (zs_ck_ X.2.1 v) (X.2.2) 0 (by decide) (fun i hi hne => ?_) rfl
  match i, hi with
  | 0, _ => exact absurd rfl hne
  | 1, _ => rfl
  | 2, _ => rfl
  | 3, _ => rfl
  | 4, _ => rfl
  | 5, _ => rfl
  | 6, _ => rfl
  | 7, _ => rfl
  | 8, _ => rfl
  | 9, _ => rfl
  | 10, _ => rfl
  | 11, _ => rfl
  | 12, _ => rfl
  | 13, _ => rfl
  | 14, _ => rfl
  | 15, _ => rfl
  | n + 16, hn => exact absurd hn (by omega)
theorem zs_Rm_pn {g : zk_G} {X : zs_X} {Z : zs_Z} {M : zk_M} (hR : zs_R g X Z M) (v : Nat → Nat) : zs_R g (X.1, zs_pn_ X.2.1 v, X.2.2) Z (zk_up M (Z (8, 3, 0)) (zk_aI g 12 (fun i => nI (v i)))) := by
  refine zs_R_mod hR (zs_pn_ X.2.1 v) (X.2.2) 3 (by decide) (fun i hi hne => ?_) rfl
  match i, hi with
  | 0, _ => rfl
  | 1, _ => rfl
  | 2, _ => rfl
  | 3, _ => exact absurd rfl hne
  | 4, _ => rfl
  | 5, _ => rfl
  | 6, _ => rfl
  | 7, _ => rfl
  | 8, _ => rfl
  | 9, _ => rfl
  | 10, _ => rfl
  | 11, _ => rfl
  | 12, _ => rfl
  | 13, _ => rfl
  | 14, _ => rfl
  | 15, _ => rfl
  | n + 16, hn => exact absurd hn (by omega)
theorem zs_Rm_pd {g : zk_G} {X : zs_X} {Z : zs_Z} {M : zk_M} (hR : zs_R g X Z M) (v : Nat → Int64) : zs_R g (X.1, zs_pd_ X.2.1 v, X.2.2) Z (zk_up M (Z (8, 1, 0)) (zk_aJ g 240 v)) := by
  refine zs_R_mod hR (zs_pd_ X.2.1 v) (X.2.2) 1 (by decide) (fun i hi hne => ?_) rfl
  match i, hi with
  | 0, _ => rfl
  | 1, _ => exact absurd rfl hne
  | 2, _ => rfl
  | 3, _ => rfl
  | 4, _ => rfl
  | 5, _ => rfl
  | 6, _ => rfl
  | 7, _ => rfl
  | 8, _ => rfl
  | 9, _ => rfl
  | 10, _ => rfl
  | 11, _ => rfl
  | 12, _ => rfl
  | 13, _ => rfl
  | 14, _ => rfl
  | 15, _ => rfl
  | n + 16, hn => exact absurd hn (by omega)
theorem zs_Rm_pc {g : zk_G} {X : zs_X} {Z : zs_Z} {M : zk_M} (hR : zs_R g X Z M) (v : Nat → Int64) : zs_R g (X.1, zs_pc_ X.2.1 v, X.2.2) Z (zk_up M (Z (8, 2, 0)) (zk_aJ g 240 v)) := by
  refine zs_R_mod hR (zs_pc_ X.2.1 v) (X.2.2) 2 (by decide) (fun i hi hne => ?_) rfl
  match i, hi with
  | 0, _ => rfl
  | 1, _ => rfl
  | 2, _ => exact absurd rfl hne
  | 3, _ => rfl
  | 4, _ => rfl
  | 5, _ => rfl
  | 6, _ => rfl
  | 7, _ => rfl
  | 8, _ => rfl
  | 9, _ => rfl
  | 10, _ => rfl
  | 11, _ => rfl
  | 12, _ => rfl
  | 13, _ => rfl
  | 14, _ => rfl
  | 15, _ => rfl
  | n + 16, hn => exact absurd hn (by omega)
theorem zs_Rm_sh {g : zk_G} {X : zs_X} {Z : zs_Z} {M : zk_M} (hR : zs_R g X Z M) (v : Nat → Int64) : zs_R g (X.1, zs_sh_ X.2.1 v, X.2.2) Z (zk_up M (Z (8, 4, 0)) (zk_aJ g 12 v)) := by
  refine zs_R_mod hR (zs_sh_ X.2.1 v) (X.2.2) 4 (by decide) (fun i hi hne => ?_) rfl
  match i, hi with
  | 0, _ => rfl
  | 1, _ => rfl
  | 2, _ => rfl
  | 3, _ => rfl
  | 4, _ => exact absurd rfl hne
  | 5, _ => rfl
  | 6, _ => rfl
  | 7, _ => rfl
  | 8, _ => rfl
  | 9, _ => rfl
  | 10, _ => rfl
  | 11, _ => rfl
  | 12, _ => rfl
  | 13, _ => rfl
  | 14, _ => rfl
  | 15, _ => rfl
  | n + 16, hn => exact absurd hn (by omega)
theorem zs_Rm_rs {g : zk_G} {X : zs_X} {Z : zs_Z} {M : zk_M} (hR : zs_R g X Z M) (v : Nat → Int64) : zs_R g (X.1, zs_rs_ X.2.1 v, X.2.2) Z (zk_up M (Z (8, 5, 0)) (zk_aJ g 12 v)) := by
  refine zs_R_mod hR (zs_rs_ X.2.1 v) (X.2.2) 5 (by decide) (fun i hi hne => ?_) rfl
  match i, hi with
  | 0, _ => rfl
  | 1, _ => rfl
  | 2, _ => rfl
  | 3, _ => rfl
  | 4, _ => rfl
  | 5, _ => exact absurd rfl hne
  | 6, _ => rfl
  | 7, _ => rfl
  | 8, _ => rfl
  | 9, _ => rfl
  | 10, _ => rfl
  | 11, _ => rfl
  | 12, _ => rfl
  | 13, _ => rfl
  | 14, _ => rfl
  | 15, _ => rfl
  | n + 16, hn => exact absurd hn (by omega)
theorem zs_Rm_lp {g : zk_G} {X : zs_X} {Z : zs_Z} {M : zk_M} (hR : zs_R g X Z M) (v : Nat → Nat) : zs_R g (X.1, zs_lp_ X.2.1 v, X.2.2) Z (zk_up M (Z (8, 7, 0)) (zk_aI g 4100 (fun i => nI (v i)))) := by
  refine zs_R_mod hR (zs_lp_ X.2.1 v) (X.2.2) 7 (by decide) (fun i hi hne => ?_) rfl
  match i, hi with
  | 0, _ => rfl
  | 1, _ => rfl
  | 2, _ => rfl
  | 3, _ => rfl
  | 4, _ => rfl
  | 5, _ => rfl
  | 6, _ => rfl
  | 7, _ => exact absurd rfl hne
  | 8, _ => rfl
  | 9, _ => rfl
  | 10, _ => rfl
  | 11, _ => rfl
  | 12, _ => rfl
  | 13, _ => rfl
  | 14, _ => rfl
  | 15, _ => rfl
  | n + 16, hn => exact absurd hn (by omega)
theorem zs_Rm_lk {g : zk_G} {X : zs_X} {Z : zs_Z} {M : zk_M} (hR : zs_R g X Z M) (v : Nat → Nat) : zs_R g (X.1, zs_lk_ X.2.1 v, X.2.2) Z (zk_up M (Z (8, 8, 0)) (zk_aI g 4100 (fun i => nI (v i)))) := by
  refine zs_R_mod hR (zs_lk_ X.2.1 v) (X.2.2) 8 (by decide) (fun i hi hne => ?_) rfl
  match i, hi with
  | 0, _ => rfl
  | 1, _ => rfl
  | 2, _ => rfl
  | 3, _ => rfl
  | 4, _ => rfl
  | 5, _ => rfl
  | 6, _ => rfl
  | 7, _ => rfl
  | 8, _ => exact absurd rfl hne
  | 9, _ => rfl
  | 10, _ => rfl
  | 11, _ => rfl
  | 12, _ => rfl
  | 13, _ => rfl
  | 14, _ => rfl
  | 15, _ => rfl
  | n + 16, hn => exact absurd hn (by omega)
theorem zs_Rm_ll {g : zk_G} {X : zs_X} {Z : zs_Z} {M : zk_M} (hR : zs_R g X Z M) (v : Nat → Int64) : zs_R g (X.1, zs_ll_ X.2.1 v, X.2.2) Z (zk_up M (Z (8, 9, 0)) (zk_aJ g 4100 v)) := by
  refine zs_R_mod hR (zs_ll_ X.2.1 v) (X.2.2) 9 (by decide) (fun i hi hne => ?_) rfl
  match i, hi with
  | 0, _ => rfl
  | 1, _ => rfl
  | 2, _ => rfl
  | 3, _ => rfl
  | 4, _ => rfl
  | 5, _ => rfl
  | 6, _ => rfl
  | 7, _ => rfl
  | 8, _ => rfl
  | 9, _ => exact absurd rfl hne
  | 10, _ => rfl
  | 11, _ => rfl
  | 12, _ => rfl
  | 13, _ => rfl
  | 14, _ => rfl
  | 15, _ => rfl
  | n + 16, hn => exact absurd hn (by omega)
theorem zs_Rm_ld {g : zk_G} {X : zs_X} {Z : zs_Z} {M : zk_M} (hR : zs_R g X Z M) (v : Nat → Int64) : zs_R g (X.1, zs_ld_ X.2.1 v, X.2.2) Z (zk_up M (Z (8, 10, 0)) (zk_aJ g 4100 v)) := by
  refine zs_R_mod hR (zs_ld_ X.2.1 v) (X.2.2) 10 (by decide) (fun i hi hne => ?_) rfl
  match i, hi with
  | 0, _ => rfl
  | 1, _ => rfl
  | 2, _ => rfl
  | 3, _ => rfl
  | 4, _ => rfl
  | 5, _ => rfl
  | 6, _ => rfl
  | 7, _ => rfl
  | 8, _ => rfl
  | 9, _ => rfl
  | 10, _ => exact absurd rfl hne
  | 11, _ => rfl
  | 12, _ => rfl
  | 13, _ => rfl
  | 14, _ => rfl
  | 15, _ => rfl
  | n + 16, hn => exact absurd hn (by omega)
theorem zs_Rm_lc {g : zk_G} {X : zs_X} {Z : zs_Z} {M : zk_M} (hR : zs_R g X Z M) (v : Nat → Int64) : zs_R g (X.1, zs_lc_ X.2.1 v, X.2.2) Z (zk_up M (Z (8, 11, 0)) (zk_aJ g 4100 v)) := by
  refine zs_R_mod hR (zs_lc_ X.2.1 v) (X.2.2) 11 (by decide) (fun i hi hne => ?_) rfl
  match i, hi with
  | 0, _ => rfl
  | 1, _ => rfl
  | 2, _ => rfl
  | 3, _ => rfl
  | 4, _ => rfl
  | 5, _ => rfl
  | 6, _ => rfl
  | 7, _ => rfl
  | 8, _ => rfl
  | 9, _ => rfl
  | 10, _ => rfl
  | 11, _ => exact absurd rfl hne
  | 12, _ => rfl
  | 13, _ => rfl
  | 14, _ => rfl
  | 15, _ => rfl
  | n + 16, hn => exact absurd hn (by omega)
theorem zs_Rm_tp {g : zk_G} {X : zs_X} {Z : zs_Z} {M : zk_M} (hR : zs_R g X Z M) (v : Nat → Nat) : zs_R g (X.1, zs_tp_ X.2.1 v, X.2.2) Z (zk_up M (Z (8, 13, 0)) (zk_aI g 4100 (fun i => nI (v i)))) := by
  refine zs_R_mod hR (zs_tp_ X.2.1 v) (X.2.2) 13 (by decide) (fun i hi hne => ?_) rfl
  match i, hi with
  | 0, _ => rfl
  | 1, _ => rfl
  | 2, _ => rfl
  | 3, _ => rfl
  | 4, _ => rfl
  | 5, _ => rfl
  | 6, _ => rfl
  | 7, _ => rfl
  | 8, _ => rfl
  | 9, _ => rfl
  | 10, _ => rfl
  | 11, _ => rfl
  | 12, _ => rfl
  | 13, _ => exact absurd rfl hne
  | 14, _ => rfl
  | 15, _ => rfl
  | n + 16, hn => exact absurd hn (by omega)
theorem zs_Rm_tt {g : zk_G} {X : zs_X} {Z : zs_Z} {M : zk_M} (hR : zs_R g X Z M) (v : Nat → Nat) : zs_R g (X.1, zs_tt_ X.2.1 v, X.2.2) Z (zk_up M (Z (8, 12, 0)) (zk_aI g 4100 (fun i => nI (v i)))) := by
  refine zs_R_mod hR (zs_tt_ X.2.1 v) (X.2.2) 12 (by decide) (fun i hi hne => ?_) rfl
  match i, hi with
  | 0, _ => rfl
  | 1, _ => rfl
  | 2, _ => rfl
  | 3, _ => rfl
  | 4, _ => rfl
  | 5, _ => rfl
  | 6, _ => rfl
  | 7, _ => rfl
  | 8, _ => rfl
  | 9, _ => rfl
  | 10, _ => rfl
  | 11, _ => rfl
  | 12, _ => exact absurd rfl hne
  | 13, _ => rfl
  | 14, _ => rfl
  | 15, _ => rfl
  | n + 16, hn => exact absurd hn (by omega)
theorem zs_Rm_ta {g : zk_G} {X : zs_X} {Z : zs_Z} {M : zk_M} (hR : zs_R g X Z M) (v : Nat → Int64) : zs_R g (X.1, zs_ta_ X.2.1 v, X.2.2) Z (zk_up M (Z (8, 14, 0)) (zk_aJ g 4100 v)) := by
  refine zs_R_mod hR (zs_ta_ X.2.1 v) (X.2.2) 14 (by decide) (fun i hi hne => ?_) rfl
  match i, hi with
  | 0, _ => rfl
  | 1, _ => rfl
  | 2, _ => rfl
  | 3, _ => rfl
  | 4, _ => rfl
  | 5, _ => rfl
  | 6, _ => rfl
  | 7, _ => rfl
  | 8, _ => rfl
  | 9, _ => rfl
  | 10, _ => rfl
  | 11, _ => rfl
  | 12, _ => rfl
  | 13, _ => rfl
  | 14, _ => exact absurd rfl hne
  | 15, _ => rfl
  | n + 16, hn => exact absurd hn (by omega)
theorem zs_Rm_td {g : zk_G} {X : zs_X} {Z : zs_Z} {M : zk_M} (hR : zs_R g X Z M) (v : Nat → Int64) : zs_R g (X.1, zs_td_ X.2.1 v, X.2.2) Z (zk_up M (Z (8, 15, 0)) (zk_aJ g 4100 v)) := by
  refine zs_R_mod hR (zs_td_ X.2.1 v) (X.2.2) 15 (by decide) (fun i hi hne => ?_) rfl
  match i, hi with
  | 0, _ => rfl
  | 1, _ => rfl
  | 2, _ => rfl
  | 3, _ => rfl
  | 4, _ => rfl
  | 5, _ => rfl
  | 6, _ => rfl
  | 7, _ => rfl
  | 8, _ => rfl
  | 9, _ => rfl
  | 10, _ => rfl
  | 11, _ => rfl
  | 12, _ => rfl
  | 13, _ => rfl
  | 14, _ => rfl
  | 15, _ => exact absurd rfl hne
  | n + 16, hn => exact absurd hn (by omega)
theorem zs_Rm_ps {g : zk_G} {X : zs_X} {Z : zs_Z} {M : zk_M} (hR : zs_R g X Z M) (v : Nat → Int64) : zs_R g (X.1, X.2.1, v) Z (zk_up M (Z (8, 6, 0)) (zk_aJ g 12 v)) := by
  refine zs_R_mod hR (X.2.1) (v) 6 (by decide) (fun i hi hne => ?_) rfl
  match i, hi with
  | 0, _ => rfl
  | 1, _ => rfl
  | 2, _ => rfl
  | 3, _ => rfl
  | 4, _ => rfl
  | 5, _ => rfl
  | 6, _ => exact absurd rfl hne
  | 7, _ => rfl
  | 8, _ => rfl
  | 9, _ => rfl
  | 10, _ => rfl
  | 11, _ => rfl
  | 12, _ => rfl
  | 13, _ => rfl
  | 14, _ => rfl
  | 15, _ => rfl
  | n + 16, hn => exact absurd hn (by omega)
theorem zk_H_c {g : zk_G} {z a : Nat} {M : zk_M} {H : Heap} {e e' : va_E} (he : e = e') (h : zk_H g z (zk_up M a e) H) : zk_H g z (zk_up M a e') H := he ▸ h
theorem zs_cx_none {n : Nat} {x : Int32} (h : zs_ix n x = none) : zs_cx n x = none := by
  unfold zs_cx
  split
  · rfl
  · exact h
theorem zs_updI {f : Nat → Nat} {j p : Nat} (hj : j < 2 ^ 31) : upd (fun i => nI (f i)) (nI j).toNatClampNeg (nI p) = fun i => nI (va_up f j p i) := by
  rw [nI_clamp hj]
  funext i
  by_cases h : i = j <;> simp [upd, va_up, h]
theorem zs_updL {f : Nat → Int64} {j : Nat} {x : Int64} (hj : j < 2 ^ 31) : vp_updL f (nI j).toNatClampNeg x = vp_updL f j x := by rw [nI_clamp hj]
theorem zs_i20 (k i : Nat) : 20 * nI k + nI i = nI (20 * k + i) := by
  rw [show (20 : Int32) = nI 20 from rfl, pk_mul, nI_add]
theorem zs_take_congr {S S' : zs_S} (h1 : zs_lp S = zs_lp S') (h2 : zs_lk S = zs_lk S') (h3 : zs_ll S = zs_ll S') (h4 : zs_lc S = zs_lc S') {p k : Nat} {n : Int64} (i : Nat) : zs_take S p k n i = zs_take S' p k n i := by
  induction i with
  | zero => show (zs_ll S, n, 0) = (zs_ll S', n, 0); rw [h3]
  | succ i ih => simp only [zs_take, ih, h1, h2, h4]
theorem zs_lot_rs {S : zs_S} {p : Nat} {n : Int64} : ∀ {k j : Nat}, k ≤ j → (zs_lot S p n k).2.1 j = zs_rs S j := by
  intro k
  induction k with
  | zero => intro j _; rfl
  | succ k ih =>
    intro j hj
    show vp_updL (zs_lot S p n k).2.1 k _ j = _
    simp only [vp_updL, show j ≠ k by omega, if_false]
    exact ih (by omega)
abbrev zs_mc (S : zs_S) (x : Int32) (n d : Int64) : Prop := zs_cx (zs_np S) x ≠ none ∧ zs_isN n ∧ zs_isD d ∧ zs_ck S ≤ d
/-- the reference's transfer: the clock is set elsewhere -/
def zs_mv0 (S : zs_S) (x y : Nat) (c d : Int64) : zs_S := (zs_np S, zs_nk S, zs_nl S, zs_nc S + 1, zs_ck S, zs_pn S, zs_pd S, zs_pc S, zs_sh S, zs_rs S, zs_lp S, zs_lk S, zs_ll S, zs_ld S, zs_lc S, va_up (zs_tp S) (zs_nc S) x, va_up (zs_tt S) (zs_nc S) y, vp_updL (zs_ta S) (zs_nc S) c, vp_updL (zs_td S) (zs_nc S) d)
theorem zs_mv0_mv (S : zs_S) (x y : Nat) (c d : Int64) : zs_mv0 (zs_ck_ S d) x y c d = zs_mv S x y c d := rfl
def zs_Q (g : zk_G) (X : zs_X) (Z : zs_Z) (D : zs_S) (u : zk_M) : Prop := ∃ ps, zs_R g (X.1, D, ps) Z u
theorem zs_qno {g : zk_G} {X : zs_X} {Z : zs_Z} {M : zk_M} {f : Int32 × zs_S} {v : Int32} (hR : zs_R g X Z M) (e : f = (v, X.2.1)) : v = f.1 ∧ zs_Q g X Z f.2 M := by
  rw [e]; exact ⟨rfl, X.2.2, hR⟩
theorem zs_qyes {g : zk_G} {X : zs_X} {Z : zs_Z} {M : zk_M} {f : Int32 × zs_S} {v : Int32} {S : zs_S} (e : f = (v, S)) (h : zs_Q g X Z S M) : v = f.1 ∧ zs_Q g X Z f.2 M := by
  rw [e]; exact ⟨rfl, h⟩
end
section
theorem zs_take_at {S : zs_S} {p k : Nat} {n : Int64} {i : Nat} {f : Nat → Int64} {lf wo a : Int64} (hA : (if f i < lf then f i else lf) = a) (e : (f, lf, wo) = zs_take S p k n i) (h : zs_lp S i = p ∧ zs_lk S i = k) : (vp_updL f i (f i - a), lf - a, wo + a * zs_lc S i) = zs_take S p k n (i + 1) := by
  subst hA
  exact (zs_take_pos e.symm h).symm

theorem inw_wsX6_isParty_6 : ∀ w ∈ u_ws RX6 TX6 20, w ∈ wsX6_isParty := by decide +kernel
set_option maxHeartbeats 4000000 in
set_option maxRecDepth 100000 in
theorem zc_X6_isParty (l : Launch) {g : zk_G} {z : Nat} {M : zk_M} {X : zs_X} {Z : zs_Z} (hR : zs_R g X Z M) (x : Int32) : Met l yX6_isParty wsX6_isParty ({ frames := 0, cells := 0, slots := 0, locals := 0 } : Room) (va_Pc [.ref (Z (8, 0, 0)), .int x] (zk_U g z M)) (vp_Si (fun r => r = if zs_ix (zs_np X.2.1) x = none then 0 else 1)) 0 0 (fun _ => False) := by
  refine Met.ofW (cc := cX6_isParty) (maxL := 2) (ret := (some .boolean)) (by decide) rfl ?_
  intro P0 e0 s m0 args below meth c0 s₁ B hml hv
  obtain ⟨rfl, hH, hK, hN⟩ := hv
  have hx := B.exec
  have hb := B.bytes
  have hr := B.returns
  have hts := atoms_spec (ws := wsX6_isParty) B.pre
  have hown : s.vm.findClass RX6 = some m0.cls := findClass_of_methodNamed B.named
  have hlocks := B.notSynchronized
  have hl := lv_entry ([.ref (Z (8, 0, 0)), .int x]) (n := 2) (Nat.le_of_ble_eq_true rfl)
  rw [lg_entry_eq]
  generalize (lg_sl ([.ref (Z (8, 0, 0)), .int x]) ++ List.replicate (2 - (lg_sl ([.ref (Z (8, 0, 0)), .int x])).length) Slot.unset).toArray = ls at hl ⊢
  have hl : lv_has ls 2 [(0, .ref (Z (8, 0, 0))), (1, .int x)] := hl
  refine lv_iload_n hx hb dX6_isParty_0 rfl (lv_at hl 1 rfl) ?_
  refine lv_if_lt (tgt := 16) hx hb dX6_isParty_1 (by decide) (fun h_1 => ?_) (fun h_1 => ?_)
  · skip
    refine lv_iconst (v := 0) hx hb dX6_isParty_16 (by decide) ?_
    exact zk_zretS hx hb hr hlocks (by first | rfl | decide) (by rw [zs_ix_neg h_1]; rfl) dX6_isParty_17
  · skip
    refine lv_iload_n hx hb dX6_isParty_4 rfl (lv_at hl 1 rfl) ?_
    refine lv_aload_n hx hb dX6_isParty_5 rfl (lv_at hl 0 rfl) ?_
    refine zk_get (ci := 6) (v := .int (nI (zs_np X.2.1))) (C := RX6) (T := TX6) (N := 20) hx hb hts inw_wsX6_isParty_6 hown hK hH (hR.1 (8, 0, 0) ⟨by decide, rfl⟩) rfl 0 (by decide) (hts (.fieldLink RX6 7 "KegDepositsModel" "parties" "I") (by decide +kernel)) rfl dX6_isParty_6 ?_
    refine lv_icmp_ge (tgt := 16) hx hb dX6_isParty_9 (by decide) (fun h_9 => ?_) (fun h_9 => ?_)
    · skip
      refine lv_iconst (v := 0) hx hb dX6_isParty_16 (by decide) ?_
      exact zk_zretS hx hb hr hlocks (by first | rfl | decide) (by rw [show zs_ix (zs_np X.2.1) x = none from if_neg (fun q => absurd q.2 (Int32.not_lt.mpr h_9))]; rfl) dX6_isParty_17
    · skip
      refine lv_iconst (v := 1) hx hb dX6_isParty_12 (by decide) ?_
      refine lv_goto (tgt := 17) hx hb dX6_isParty_13 (by decide) ?_
      exact zk_zretS hx hb hr hlocks (by first | rfl | decide) (by rw [show zs_ix (zs_np X.2.1) x = some x.toNatClampNeg from if_pos ⟨h_1, Int32.not_le.mp h_9⟩]; rfl) dX6_isParty_17

theorem inw_wsX6_isKind_6 : ∀ w ∈ u_ws RX6 TX6 20, w ∈ wsX6_isKind := by decide +kernel
set_option maxHeartbeats 4000000 in
set_option maxRecDepth 100000 in
theorem zc_X6_isKind (l : Launch) {g : zk_G} {z : Nat} {M : zk_M} {X : zs_X} {Z : zs_Z} (hR : zs_R g X Z M) (x : Int32) : Met l yX6_isKind wsX6_isKind ({ frames := 0, cells := 0, slots := 0, locals := 0 } : Room) (va_Pc [.ref (Z (8, 0, 0)), .int x] (zk_U g z M)) (vp_Si (fun r => r = if zs_ix (zs_nk X.2.1) x = none then 0 else 1)) 0 0 (fun _ => False) := by
  refine Met.ofW (cc := cX6_isKind) (maxL := 2) (ret := (some .boolean)) (by decide) rfl ?_
  intro P0 e0 s m0 args below meth c0 s₁ B hml hv
  obtain ⟨rfl, hH, hK, hN⟩ := hv
  have hx := B.exec
  have hb := B.bytes
  have hr := B.returns
  have hts := atoms_spec (ws := wsX6_isKind) B.pre
  have hown : s.vm.findClass RX6 = some m0.cls := findClass_of_methodNamed B.named
  have hlocks := B.notSynchronized
  have hl := lv_entry ([.ref (Z (8, 0, 0)), .int x]) (n := 2) (Nat.le_of_ble_eq_true rfl)
  rw [lg_entry_eq]
  generalize (lg_sl ([.ref (Z (8, 0, 0)), .int x]) ++ List.replicate (2 - (lg_sl ([.ref (Z (8, 0, 0)), .int x])).length) Slot.unset).toArray = ls at hl ⊢
  have hl : lv_has ls 2 [(0, .ref (Z (8, 0, 0))), (1, .int x)] := hl
  refine lv_iload_n hx hb dX6_isKind_0 rfl (lv_at hl 1 rfl) ?_
  refine lv_if_lt (tgt := 16) hx hb dX6_isKind_1 (by decide) (fun h_1 => ?_) (fun h_1 => ?_)
  · skip
    refine lv_iconst (v := 0) hx hb dX6_isKind_16 (by decide) ?_
    exact zk_zretS hx hb hr hlocks (by first | rfl | decide) (by rw [zs_ix_neg h_1]; rfl) dX6_isKind_17
  · skip
    refine lv_iload_n hx hb dX6_isKind_4 rfl (lv_at hl 1 rfl) ?_
    refine lv_aload_n hx hb dX6_isKind_5 rfl (lv_at hl 0 rfl) ?_
    refine zk_get (ci := 6) (v := .int (nI (zs_nk X.2.1))) (C := RX6) (T := TX6) (N := 20) hx hb hts inw_wsX6_isKind_6 hown hK hH (hR.1 (8, 0, 0) ⟨by decide, rfl⟩) rfl 1 (by decide) (hts (.fieldLink RX6 60 "KegDepositsModel" "kinds" "I") (by decide +kernel)) rfl dX6_isKind_6 ?_
    refine lv_icmp_ge (tgt := 16) hx hb dX6_isKind_9 (by decide) (fun h_9 => ?_) (fun h_9 => ?_)
    · skip
      refine lv_iconst (v := 0) hx hb dX6_isKind_16 (by decide) ?_
      exact zk_zretS hx hb hr hlocks (by first | rfl | decide) (by rw [show zs_ix (zs_nk X.2.1) x = none from if_neg (fun q => absurd q.2 (Int32.not_lt.mpr h_9))]; rfl) dX6_isKind_17
    · skip
      refine lv_iconst (v := 1) hx hb dX6_isKind_12 (by decide) ?_
      refine lv_goto (tgt := 17) hx hb dX6_isKind_13 (by decide) ?_
      exact zk_zretS hx hb hr hlocks (by first | rfl | decide) (by rw [show zs_ix (zs_nk X.2.1) x = some x.toNatClampNeg from if_pos ⟨h_1, Int32.not_le.mp h_9⟩]; rfl) dX6_isKind_17

set_option maxHeartbeats 4000000 in
set_option maxRecDepth 100000 in
theorem zc_X6_isDay (l : Launch) {g : zk_G} {z : Nat} {M : zk_M} (x : Int64) : Met l yX6_isDay wsX6_isDay ({ frames := 0, cells := 0, slots := 0, locals := 0 } : Room) (va_Pc [.long x] (zk_U g z M)) (vp_Si (fun r => r = if zs_isD x then 1 else 0)) 0 0 (fun _ => False) := by
  refine Met.ofW (cc := cX6_isDay) (maxL := 2) (ret := (some .boolean)) (by decide) rfl ?_
  intro P0 e0 s m0 args below meth c0 s₁ B hml hv
  obtain ⟨rfl, hH, hK, hN⟩ := hv
  have hx := B.exec
  have hb := B.bytes
  have hr := B.returns
  have hts := atoms_spec (ws := wsX6_isDay) B.pre
  have hown : s.vm.findClass RX6 = some m0.cls := findClass_of_methodNamed B.named
  have hlocks := B.notSynchronized
  have hl := lv_entry ([.long x]) (n := 2) (Nat.le_of_ble_eq_true rfl)
  rw [lg_entry_eq]
  generalize (lg_sl ([.long x]) ++ List.replicate (2 - (lg_sl ([.long x])).length) Slot.unset).toArray = ls at hl ⊢
  have hl : lv_has ls 2 [(0, .long x)] := hl
  refine lv_lload_n hx hb dX6_isDay_0 rfl (lv_at hl 0 rfl) ?_
  refine lv_lconst (v := 0) hx hb dX6_isDay_1 (by decide) ?_
  refine zk_lc_lt (tgt := 18) hx hb dX6_isDay_2 dX6_isDay_3 (by decide) (fun h_2 => ?_) (fun h_2 => ?_)
  · skip
    refine lv_iconst (v := 0) hx hb dX6_isDay_18 (by decide) ?_
    exact zk_zretS hx hb hr hlocks (by first | rfl | decide) (if_neg (fun q => absurd h_2 (Int64.not_lt.mpr q.1))).symm dX6_isDay_19
  · skip
    refine lv_lload_n hx hb dX6_isDay_6 rfl (lv_at hl 0 rfl) ?_
    refine lv_ldc2 (v := 100000) hx hb hown (hts (.constantLong RX6 63 (100000)) (by decide +kernel)) dX6_isDay_7 ?_
    refine zk_lc_gt (tgt := 18) hx hb dX6_isDay_10 dX6_isDay_11 (by decide) (fun h_10 => ?_) (fun h_10 => ?_)
    · skip
      refine lv_iconst (v := 0) hx hb dX6_isDay_18 (by decide) ?_
      exact zk_zretS hx hb hr hlocks (by first | rfl | decide) (if_neg (fun q => absurd h_10 (Int64.not_lt.mpr q.2))).symm dX6_isDay_19
    · skip
      refine lv_iconst (v := 1) hx hb dX6_isDay_14 (by decide) ?_
      refine lv_goto (tgt := 19) hx hb dX6_isDay_15 (by decide) ?_
      exact zk_zretS hx hb hr hlocks (by first | rfl | decide) (if_pos ⟨Int64.not_lt.mp h_2, Int64.not_lt.mp h_10⟩).symm dX6_isDay_19

theorem inw_wsX6_mayCome_6 : ∀ w ∈ u_ws RX6 TX6 20, w ∈ wsX6_mayCome := by decide +kernel
set_option maxHeartbeats 4000000 in
set_option maxRecDepth 100000 in
theorem zc_X6_mayCome (l : Launch) {g : zk_G} {z : Nat} {M : zk_M} {X : zs_X} {Z : zs_Z} (hR : zs_R g X Z M) (hnp : zs_np X.2.1 ≤ 24) (x : Int32) (num d : Int64) : Met l yX6_mayCome wsX6_mayCome ({ frames := 1, cells := 0, slots := 0, locals := 21 } : Room) (va_Pc [.ref (Z (8, 0, 0)), .int x, .long num, .long d] (zk_U g z M)) (vp_Si (fun r => r = if zs_mc X.2.1 x num d then 1 else 0)) 0 0 (fun _ => False) := by
  refine Met.ofW (cc := cX6_mayCome) (maxL := 6) (ret := (some .boolean)) (by decide) rfl ?_
  intro P0 e0 s m0 args below meth c0 s₁ B hml hv
  obtain ⟨rfl, hH, hK, hN⟩ := hv
  have hx := B.exec
  have hb := B.bytes
  have hr := B.returns
  have hts := atoms_spec (ws := wsX6_mayCome) B.pre
  have hown : s.vm.findClass RX6 = some m0.cls := findClass_of_methodNamed B.named
  have hlocks := B.notSynchronized
  have hl := lv_entry ([.ref (Z (8, 0, 0)), .int x, .long num, .long d]) (n := 6) (Nat.le_of_ble_eq_true rfl)
  rw [lg_entry_eq]
  generalize (lg_sl ([.ref (Z (8, 0, 0)), .int x, .long num, .long d]) ++ List.replicate (6 - (lg_sl ([.ref (Z (8, 0, 0)), .int x, .long num, .long d])).length) Slot.unset).toArray = ls at hl ⊢
  have hl : lv_has ls 6 [(0, .ref (Z (8, 0, 0))), (1, .int x), (2, .long num), (4, .long d)] := hl
  refine lv_aload_n hx hb dX6_mayCome_0 rfl (lv_at hl 0 rfl) ?_
  refine lv_iload_n hx hb dX6_mayCome_1 rfl (lv_at hl 1 rfl) ?_
  refine vp_callSi (W.runV (As := [.int x]) (rest := []) ⟨hx, hb, hml, hown, hts⟩ (zc_X6_isParty l hR x) (cwV 1 hts gX6_mayCome_X6_isParty rfl rfl rfl (by decide +kernel) ⟨Nat.le_of_ble_eq_true rfl, Nat.le_of_ble_eq_true rfl⟩) (zk_preV hH hK hN (hR.1 (8, 0, 0) ⟨by decide, rfl⟩) rfl) rfl rfl hl.1 rfl (lv_room (Nat.le_of_ble_eq_true rfl)) dX6_mayCome_2 ⟨(Nat.le_of_ble_eq_true rfl), (Nat.le_of_ble_eq_true rfl)⟩) (fun r_2 hr_2 => ?_)
  refine lv_if_eq (tgt := 48) hx hb dX6_mayCome_5 (by decide) (fun h_5 => ?_) (fun h_5 => ?_)
  · skip
    have hix : zs_ix (zs_np X.2.1) x = none := Decidable.byContradiction (fun q => by rw [hr_2, if_neg q] at h_5; exact absurd h_5 (by decide))
    refine lv_iconst (v := 0) hx hb dX6_mayCome_48 (by decide) ?_
    exact zk_zretS hx hb hr hlocks (by first | rfl | decide) (if_neg (fun q => q.1 (zs_cx_none hix))).symm dX6_mayCome_49
  · skip
    have hix : zs_ix (zs_np X.2.1) x ≠ none := fun q => h_5 (by rw [hr_2, if_pos q])
    refine lv_iload_n hx hb dX6_mayCome_8 rfl (lv_at hl 1 rfl) ?_
    refine lv_if_le (tgt := 48) hx hb dX6_mayCome_9 (by decide) (fun h_9 => ?_) (fun h_9 => ?_)
    · skip
      have hx0 : x = 0 := by
        cases he : zs_ix (zs_np X.2.1) x with
        | none => exact absurd he hix
        | some j =>
          obtain ⟨j1, j2⟩ := zs_ix_some (by omega) he
          rw [j2] at h_9 ⊢
          have := (nI_leI (a := j) (b := 0) (by omega) (by decide)).mp h_9
          rw [show j = 0 by omega]; rfl
      refine lv_iconst (v := 0) hx hb dX6_mayCome_48 (by decide) ?_
      exact zk_zretS hx hb hr hlocks (by first | rfl | decide) (if_neg (fun q => q.1 (if_pos hx0))).symm dX6_mayCome_49
    · skip
      have hx0 : ¬ x = 0 := fun q => h_9 (by rw [q]; decide)
      refine lv_lload_n hx hb dX6_mayCome_12 rfl (lv_at hl 2 rfl) ?_
      refine lv_lconst (v := 1) hx hb dX6_mayCome_13 (by decide) ?_
      refine zk_lc_lt (tgt := 48) hx hb dX6_mayCome_14 dX6_mayCome_15 (by decide) (fun h_14 => ?_) (fun h_14 => ?_)
      · skip
        refine lv_iconst (v := 0) hx hb dX6_mayCome_48 (by decide) ?_
        exact zk_zretS hx hb hr hlocks (by first | rfl | decide) (if_neg (fun q => absurd h_14 (Int64.not_lt.mpr q.2.1.1))).symm dX6_mayCome_49
      · skip
        refine lv_lload_n hx hb dX6_mayCome_18 rfl (lv_at hl 2 rfl) ?_
        refine lv_ldc2 (v := 100000) hx hb hown (hts (.constantLong RX6 63 (100000)) (by decide +kernel)) dX6_mayCome_19 ?_
        refine zk_lc_gt (tgt := 48) hx hb dX6_mayCome_22 dX6_mayCome_23 (by decide) (fun h_22 => ?_) (fun h_22 => ?_)
        · skip
          refine lv_iconst (v := 0) hx hb dX6_mayCome_48 (by decide) ?_
          exact zk_zretS hx hb hr hlocks (by first | rfl | decide) (if_neg (fun q => absurd h_22 (Int64.not_lt.mpr q.2.1.2))).symm dX6_mayCome_49
        · skip
          refine lv_lload hx hb dX6_mayCome_26 (lv_at hl 3 rfl) ?_
          refine vp_callSi (W.runS (As := [.long d]) (rest := []) ⟨hx, hb, hml, hown, hts⟩ (zc_X6_isDay l d) (va_cwS 1 hts gX6_mayCome_X6_isDay rfl rfl rfl (by decide +kernel) ⟨Nat.le_of_ble_eq_true rfl, Nat.le_of_ble_eq_true rfl⟩) (zk_preS hH hK hN) rfl rfl hl.1 rfl (lv_room (Nat.le_of_ble_eq_true rfl)) dX6_mayCome_28 ⟨(Nat.le_of_ble_eq_true rfl), (Nat.le_of_ble_eq_true rfl)⟩) (fun r_28 hr_28 => ?_)
          refine lv_if_eq (tgt := 48) hx hb dX6_mayCome_31 (by decide) (fun h_31 => ?_) (fun h_31 => ?_)
          · skip
            have hd : ¬ zs_isD d := zs_b0 hr_28 h_31
            refine lv_iconst (v := 0) hx hb dX6_mayCome_48 (by decide) ?_
            exact zk_zretS hx hb hr hlocks (by first | rfl | decide) (if_neg (fun q => hd q.2.2.1)).symm dX6_mayCome_49
          · skip
            have hd : zs_isD d := zs_b1 hr_28 h_31
            refine lv_lload hx hb dX6_mayCome_34 (lv_at hl 3 rfl) ?_
            refine lv_aload_n hx hb dX6_mayCome_36 rfl (lv_at hl 0 rfl) ?_
            refine zk_get (ci := 6) (v := .long (zs_ck X.2.1)) (C := RX6) (T := TX6) (N := 20) hx hb hts inw_wsX6_mayCome_6 hown hK hH (hR.1 (8, 0, 0) ⟨by decide, rfl⟩) rfl 2 (by decide) (hts (.fieldLink RX6 81 "KegDepositsModel" "clock" "J") (by decide +kernel)) rfl dX6_mayCome_37 ?_
            refine zk_lc_lt (tgt := 48) hx hb dX6_mayCome_40 dX6_mayCome_41 (by decide) (fun h_40 => ?_) (fun h_40 => ?_)
            · skip
              refine lv_iconst (v := 0) hx hb dX6_mayCome_48 (by decide) ?_
              exact zk_zretS hx hb hr hlocks (by first | rfl | decide) (if_neg (fun q => absurd h_40 (Int64.not_lt.mpr q.2.2.2))).symm dX6_mayCome_49
            · skip
              refine lv_iconst (v := 1) hx hb dX6_mayCome_44 (by decide) ?_
              refine lv_goto (tgt := 49) hx hb dX6_mayCome_45 (by decide) ?_
              exact zk_zretS hx hb hr hlocks (by first | rfl | decide) (if_pos ⟨by unfold zs_cx; rw [if_neg hx0]; exact hix, ⟨Int64.not_lt.mp h_14, Int64.not_lt.mp h_22⟩, hd, Int64.not_lt.mp h_40⟩).symm dX6_mayCome_49

theorem inw_wsX6_priceOn_6 : ∀ w ∈ u_ws RX6 TX6 20, w ∈ wsX6_priceOn := by decide +kernel
set_option maxHeartbeats 4000000 in
set_option maxRecDepth 100000 in
theorem zc_X6_priceOn (l : Launch) {g : zk_G} {z : Nat} {M : zk_M} {X : zs_X} {Z : zs_Z} (hR : zs_R g X Z M) {k : Nat} (hk : k < 12) (hpn : zs_pn X.2.1 k ≤ 20) (d : Int64) : Met l yX6_priceOn wsX6_priceOn ({ frames := 0, cells := 0, slots := 0, locals := 0 } : Room) (va_Pc [.ref (Z (8, 0, 0)), .int (nI k), .long d] (zk_U g z M)) (vp_Sl (fun r => r = zs_pr X.2.1 k d)) 0 0 (fun _ => False) := by
  refine Met.ofW (cc := cX6_priceOn) (maxL := 11) (ret := (some .long)) (by decide) rfl ?_
  intro P0 e0 s m0 args below meth c0 s₁ B hml hv
  obtain ⟨rfl, hH, hK, hN⟩ := hv
  have hx := B.exec
  have hb := B.bytes
  have hr := B.returns
  have hts := atoms_spec (ws := wsX6_priceOn) B.pre
  have hown : s.vm.findClass RX6 = some m0.cls := findClass_of_methodNamed B.named
  have hlocks := B.notSynchronized
  have hl := lv_entry ([.ref (Z (8, 0, 0)), .int (nI k), .long d]) (n := 11) (Nat.le_of_ble_eq_true rfl)
  rw [lg_entry_eq]
  generalize (lg_sl ([.ref (Z (8, 0, 0)), .int (nI k), .long d]) ++ List.replicate (11 - (lg_sl ([.ref (Z (8, 0, 0)), .int (nI k), .long d])).length) Slot.unset).toArray = ls at hl ⊢
  have hl : lv_has ls 11 [(0, .ref (Z (8, 0, 0))), (1, .int (nI k)), (2, .long d)] := hl
  refine lv_ldc2 (v := (-1)) hx hb hown (hts (.constantLong RX6 73 (-1)) (by decide +kernel)) dX6_priceOn_0 ?_
  refine lv_lstore (lv' := [(4, .long (-1)), (0, .ref (Z (8, 0, 0))), (1, .int (nI k)), (2, .long d)]) hx hb dX6_priceOn_3 hl (by decide) rfl (fun ls hl => ?_)
  refine lv_lconst (v := 0) hx hb dX6_priceOn_5 (by decide) ?_
  refine lv_lstore (lv' := [(6, .long 0), (4, .long (-1)), (0, .ref (Z (8, 0, 0))), (1, .int (nI k)), (2, .long d)]) hx hb dX6_priceOn_6 hl (by decide) rfl (fun ls hl => ?_)
  refine lv_iconst (v := 0) hx hb dX6_priceOn_8 (by decide) ?_
  refine lv_istore (lv' := [(8, .int 0), (6, .long 0), (4, .long (-1)), (0, .ref (Z (8, 0, 0))), (1, .int (nI k)), (2, .long d)]) hx hb dX6_priceOn_9 hl (by decide) rfl (fun ls hl => ?_)
  have loop_11 : ∀ (n i : Nat) (la : Int64) (ce : Int64) (ls : Array Slot), zs_pn X.2.1 k - i < n → i ≤ zs_pn X.2.1 k → (la, ce) = zs_po (fun j => zs_pd X.2.1 (20 * k + j)) (fun j => zs_pc X.2.1 (20 * k + j)) d i →  lv_has ls 11 [(8, .int (nI i)), (4, .long la), (6, .long ce), (0, .ref (Z (8, 0, 0))), (1, .int (nI k)), (2, .long d)] → W P0 l e0 (headSpec wsX6_priceOn ({ frames := 0, cells := 0, slots := 0, locals := 0 } : Room)).room s m0 ([.ref (Z (8, 0, 0)), .int (nI k), .long d] : List Value).toArray below meth c0 s.heap [] 0 0 (MQ below (vp_Sl (fun r => r = zs_pr X.2.1 k d)) ([.ref (Z (8, 0, 0)), .int (nI k), .long d] : List Value).toArray s 0 0 (fun _ => False)) (F0 m0 11 ls []) := by
    intro n
    induction n with
    | zero => intro i la ce ls hn hi; omega
    | succ n ih =>
      intro i la ce ls hn hi he hl
      refine lv_iload hx hb dX6_priceOn_11 (lv_at hl 0 rfl) ?_
      refine lv_aload_n hx hb dX6_priceOn_13 rfl (lv_at hl 3 rfl) ?_
      refine zk_get (ci := 6) (v := .ref (Z (8, 3, 0))) (C := RX6) (T := TX6) (N := 20) hx hb hts inw_wsX6_priceOn_6 hown hK hH (hR.1 (8, 0, 0) ⟨by decide, rfl⟩) rfl 5 (by decide) (hts (.fieldLink RX6 20 "KegDepositsModel" "prices" "[I") (by decide +kernel)) rfl dX6_priceOn_14 ?_
      refine lv_iload_n hx hb dX6_priceOn_17 rfl (lv_at hl 4 rfl) ?_
      refine zk_iald hx hb hK hH (hR.1 (8, 3, 0) ⟨by decide, rfl⟩) (vp_in_nI (hk) (by decide)) dX6_priceOn_18 ?_
      refine zk_top (v' := .int (nI (zs_pn X.2.1 k))) (zk_arr_i (f := fun i => nI (zs_pn X.2.1 i)) (i := k) (by omega)) ?_
      refine lv_icmp_ge (tgt := 75) hx hb dX6_priceOn_19 (by decide) (fun h_19 => ?_) (fun h_19 => ?_)
      · skip
        have hiN : i = zs_pn X.2.1 k := by have := (nI_leI (a := zs_pn X.2.1 k) (b := i) (by omega) (by omega)).mp h_19; omega
        refine lv_lload hx hb dX6_priceOn_75 (lv_at hl 2 rfl) ?_
        exact zk_lretS hx hb hr hlocks (by rw [hiN] at he; unfold zs_pr; rw [← he]) dX6_priceOn_77
      · skip
        have hiN : i < zs_pn X.2.1 k := Nat.lt_of_not_le (fun q => h_19 ((nI_leI (a := zs_pn X.2.1 k) (b := i) (by omega) (by omega)).mpr q))
        refine lv_aload_n hx hb dX6_priceOn_22 rfl (lv_at hl 3 rfl) ?_
        refine zk_get (ci := 6) (v := .ref (Z (8, 1, 0))) (C := RX6) (T := TX6) (N := 20) hx hb hts inw_wsX6_priceOn_6 hown hK hH (hR.1 (8, 0, 0) ⟨by decide, rfl⟩) rfl 3 (by decide) (hts (.fieldLink RX6 13 "KegDepositsModel" "priceDays" "[J") (by decide +kernel)) rfl dX6_priceOn_23 ?_
        refine lv_bipush (v := 20) hx hb dX6_priceOn_26 (by decide) ?_
        refine lv_iload_n hx hb dX6_priceOn_28 rfl (lv_at hl 4 rfl) ?_
        refine lv_imul hx hb dX6_priceOn_29 ?_
        refine lv_iload hx hb dX6_priceOn_30 (lv_at hl 0 rfl) ?_
        refine lv_iadd hx hb dX6_priceOn_32 ?_
        refine zk_top (v' := .int (nI (20 * k + i))) (by rw [zs_i20]) ?_
        refine zk_lald hx hb hK hH (hR.1 (8, 1, 0) ⟨by decide, rfl⟩) (vp_in_nI (show 20 * k + i < 240 by omega) (by decide)) dX6_priceOn_33 ?_
        refine zk_top (v' := .long (zs_pd X.2.1 (20 * k + i))) (zk_arr_l (f := zs_pd X.2.1) (i := 20 * k + i) (by omega)) ?_
        refine lv_lstore (lv' := [(9, .long (zs_pd X.2.1 (20 * k + i))), (8, .int (nI i)), (4, .long la), (6, .long ce), (0, .ref (Z (8, 0, 0))), (1, .int (nI k)), (2, .long d)]) hx hb dX6_priceOn_34 hl (by decide) rfl (fun ls hl => ?_)
        refine lv_lload hx hb dX6_priceOn_36 (lv_at hl 0 rfl) ?_
        refine lv_lload_n hx hb dX6_priceOn_38 rfl (lv_at hl 6 rfl) ?_
        refine zk_lc_gt (tgt := 69) hx hb dX6_priceOn_39 dX6_priceOn_40 (by decide) (fun h_39 => ?_) (fun h_39 => ?_)
        · skip
          refine lv_iinc (v := nI (i + 1)) (lv' := [(8, .int (nI (i + 1))), (9, .long (zs_pd X.2.1 (20 * k + i))), (4, .long la), (6, .long ce), (0, .ref (Z (8, 0, 0))), (1, .int (nI k)), (2, .long d)]) hx hb dX6_priceOn_69 hl (k := 1) rfl (nI_1 i) (by decide) rfl (fun ls hl => ?_)
          refine lv_goto (tgt := 11) hx hb dX6_priceOn_72 (by decide) ?_
          exact ih (i + 1) _ _ ls (by omega) (by omega) (by show _ = (if _ ∧ _ then _ else zs_po (fun j => zs_pd X.2.1 (20 * k + j)) (fun j => zs_pc X.2.1 (20 * k + j)) d i); rw [if_neg (fun q => absurd h_39 (Int64.not_lt.mpr q.1)), ← he]) (lv_sub hl [0, 2, 3, 4, 5, 6] rfl)
        · skip
          refine lv_lload hx hb dX6_priceOn_43 (lv_at hl 0 rfl) ?_
          refine lv_lload hx hb dX6_priceOn_45 (lv_at hl 2 rfl) ?_
          refine zk_lc_le (tgt := 69) hx hb dX6_priceOn_47 dX6_priceOn_48 (by decide) (fun h_47 => ?_) (fun h_47 => ?_)
          · skip
            refine lv_iinc (v := nI (i + 1)) (lv' := [(8, .int (nI (i + 1))), (9, .long (zs_pd X.2.1 (20 * k + i))), (4, .long la), (6, .long ce), (0, .ref (Z (8, 0, 0))), (1, .int (nI k)), (2, .long d)]) hx hb dX6_priceOn_69 hl (k := 1) rfl (nI_1 i) (by decide) rfl (fun ls hl => ?_)
            refine lv_goto (tgt := 11) hx hb dX6_priceOn_72 (by decide) ?_
            exact ih (i + 1) _ _ ls (by omega) (by omega) (by show _ = (if _ ∧ (zs_po (fun j => zs_pd X.2.1 (20 * k + j)) (fun j => zs_pc X.2.1 (20 * k + j)) d i).1 < _ then _ else zs_po (fun j => zs_pd X.2.1 (20 * k + j)) (fun j => zs_pc X.2.1 (20 * k + j)) d i); rw [if_neg (fun q => absurd (by rw [← he] at q; exact q.2) (Int64.not_lt.mpr h_47)), ← he]) (lv_sub hl [0, 2, 3, 4, 5, 6] rfl)
          · skip
            refine lv_lload hx hb dX6_priceOn_51 (lv_at hl 0 rfl) ?_
            refine lv_lstore (lv' := [(4, .long (zs_pd X.2.1 (20 * k + i))), (9, .long (zs_pd X.2.1 (20 * k + i))), (8, .int (nI i)), (6, .long ce), (0, .ref (Z (8, 0, 0))), (1, .int (nI k)), (2, .long d)]) hx hb dX6_priceOn_53 hl (by decide) rfl (fun ls hl => ?_)
            refine lv_aload_n hx hb dX6_priceOn_55 rfl (lv_at hl 4 rfl) ?_
            refine zk_get (ci := 6) (v := .ref (Z (8, 2, 0))) (C := RX6) (T := TX6) (N := 20) hx hb hts inw_wsX6_priceOn_6 hown hK hH (hR.1 (8, 0, 0) ⟨by decide, rfl⟩) rfl 4 (by decide) (hts (.fieldLink RX6 17 "KegDepositsModel" "priceCents" "[J") (by decide +kernel)) rfl dX6_priceOn_56 ?_
            refine lv_bipush (v := 20) hx hb dX6_priceOn_59 (by decide) ?_
            refine lv_iload_n hx hb dX6_priceOn_61 rfl (lv_at hl 5 rfl) ?_
            refine lv_imul hx hb dX6_priceOn_62 ?_
            refine lv_iload hx hb dX6_priceOn_63 (lv_at hl 2 rfl) ?_
            refine lv_iadd hx hb dX6_priceOn_65 ?_
            refine zk_top (v' := .int (nI (20 * k + i))) (by rw [zs_i20]) ?_
            refine zk_lald hx hb hK hH (hR.1 (8, 2, 0) ⟨by decide, rfl⟩) (vp_in_nI (show 20 * k + i < 240 by omega) (by decide)) dX6_priceOn_66 ?_
            refine zk_top (v' := .long (zs_pc X.2.1 (20 * k + i))) (zk_arr_l (f := zs_pc X.2.1) (i := 20 * k + i) (by omega)) ?_
            refine lv_lstore (lv' := [(6, .long (zs_pc X.2.1 (20 * k + i))), (4, .long (zs_pd X.2.1 (20 * k + i))), (9, .long (zs_pd X.2.1 (20 * k + i))), (8, .int (nI i)), (0, .ref (Z (8, 0, 0))), (1, .int (nI k)), (2, .long d)]) hx hb dX6_priceOn_67 hl (by decide) rfl (fun ls hl => ?_)
            refine lv_iinc (v := nI (i + 1)) (lv' := [(8, .int (nI (i + 1))), (6, .long (zs_pc X.2.1 (20 * k + i))), (4, .long (zs_pd X.2.1 (20 * k + i))), (9, .long (zs_pd X.2.1 (20 * k + i))), (0, .ref (Z (8, 0, 0))), (1, .int (nI k)), (2, .long d)]) hx hb dX6_priceOn_69 hl (k := 3) rfl (nI_1 i) (by decide) rfl (fun ls hl => ?_)
            refine lv_goto (tgt := 11) hx hb dX6_priceOn_72 (by decide) ?_
            exact ih (i + 1) _ _ ls (by omega) (by omega) (by show _ = (if _ ∧ (zs_po (fun j => zs_pd X.2.1 (20 * k + j)) (fun j => zs_pc X.2.1 (20 * k + j)) d i).1 < _ then _ else zs_po (fun j => zs_pd X.2.1 (20 * k + j)) (fun j => zs_pc X.2.1 (20 * k + j)) d i); rw [if_pos ⟨Int64.not_lt.mp h_39, by rw [← he]; exact Int64.not_le.mp h_47⟩]) (lv_sub hl [0, 2, 1, 4, 5, 6] rfl)
  exact loop_11 (zs_pn X.2.1 k + 1) 0 (-1) 0 ls (by omega) (Nat.zero_le _) rfl (lv_sub hl [0, 2, 1, 3, 4, 5] rfl)

theorem inw_wsX6_has_6 : ∀ w ∈ u_ws RX6 TX6 20, w ∈ wsX6_has := by decide +kernel
set_option maxHeartbeats 4000000 in
set_option maxRecDepth 100000 in
theorem zc_X6_has (l : Launch) {g : zk_G} {z : Nat} {M : zk_M} {X : zs_X} {Z : zs_Z} (hR : zs_R g X Z M) (hl1 : zs_nl X.2.1 ≤ 4100) (hbb : ∀ i, i < zs_nl X.2.1 → zs_lp X.2.1 i < 2 ^ 31 ∧ zs_lk X.2.1 i < 2 ^ 31) {p k : Nat} (hp : p < 2 ^ 31) (hk : k < 2 ^ 31) : Met l yX6_has wsX6_has ({ frames := 0, cells := 0, slots := 0, locals := 0 } : Room) (va_Pc [.ref (Z (8, 0, 0)), .int (nI p), .int (nI k)] (zk_U g z M)) (vp_Sl (fun r => r = zs_has X.2.1 p k)) 0 0 (fun _ => False) := by
  refine Met.ofW (cc := cX6_has) (maxL := 6) (ret := (some .long)) (by decide) rfl ?_
  intro P0 e0 s m0 args below meth c0 s₁ B hml hv
  obtain ⟨rfl, hH, hK, hN⟩ := hv
  have hx := B.exec
  have hb := B.bytes
  have hr := B.returns
  have hts := atoms_spec (ws := wsX6_has) B.pre
  have hown : s.vm.findClass RX6 = some m0.cls := findClass_of_methodNamed B.named
  have hlocks := B.notSynchronized
  have hl := lv_entry ([.ref (Z (8, 0, 0)), .int (nI p), .int (nI k)]) (n := 6) (Nat.le_of_ble_eq_true rfl)
  rw [lg_entry_eq]
  generalize (lg_sl ([.ref (Z (8, 0, 0)), .int (nI p), .int (nI k)]) ++ List.replicate (6 - (lg_sl ([.ref (Z (8, 0, 0)), .int (nI p), .int (nI k)])).length) Slot.unset).toArray = ls at hl ⊢
  have hl : lv_has ls 6 [(0, .ref (Z (8, 0, 0))), (1, .int (nI p)), (2, .int (nI k))] := hl
  refine lv_lconst (v := 0) hx hb dX6_has_0 (by decide) ?_
  refine lv_lstore_n (lv' := [(3, .long 0), (0, .ref (Z (8, 0, 0))), (1, .int (nI p)), (2, .int (nI k))]) hx hb dX6_has_1 rfl hl (by decide) rfl (fun ls hl => ?_)
  refine lv_iconst (v := 0) hx hb dX6_has_2 (by decide) ?_
  refine lv_istore (lv' := [(5, .int 0), (3, .long 0), (0, .ref (Z (8, 0, 0))), (1, .int (nI p)), (2, .int (nI k))]) hx hb dX6_has_3 hl (by decide) rfl (fun ls hl => ?_)
  have loop_5 : ∀ (n i : Nat) (acc : Int64) (ls : Array Slot), zs_nl X.2.1 - i < n → i ≤ zs_nl X.2.1 → acc = zs_sum (zs_hasf X.2.1 p k) i →  lv_has ls 6 [(5, .int (nI i)), (3, .long acc), (0, .ref (Z (8, 0, 0))), (1, .int (nI p)), (2, .int (nI k))] → W P0 l e0 (headSpec wsX6_has ({ frames := 0, cells := 0, slots := 0, locals := 0 } : Room)).room s m0 ([.ref (Z (8, 0, 0)), .int (nI p), .int (nI k)] : List Value).toArray below meth c0 s.heap [] 0 0 (MQ below (vp_Sl (fun r => r = zs_has X.2.1 p k)) ([.ref (Z (8, 0, 0)), .int (nI p), .int (nI k)] : List Value).toArray s 0 0 (fun _ => False)) (F0 m0 5 ls []) := by
    intro n
    induction n with
    | zero => intro i acc ls hn hi; omega
    | succ n ih =>
      intro i acc ls hn hi hacc hl
      refine lv_iload hx hb dX6_has_5 (lv_at hl 0 rfl) ?_
      refine lv_aload_n hx hb dX6_has_7 rfl (lv_at hl 2 rfl) ?_
      refine zk_get (ci := 6) (v := .int (nI (zs_nl X.2.1))) (C := RX6) (T := TX6) (N := 20) hx hb hts inw_wsX6_has_6 hown hK hH (hR.1 (8, 0, 0) ⟨by decide, rfl⟩) rfl 9 (by decide) (hts (.fieldLink RX6 89 "KegDepositsModel" "layers" "I") (by decide +kernel)) rfl dX6_has_8 ?_
      refine lv_icmp_ge (tgt := 56) hx hb dX6_has_11 (by decide) (fun h_11 => ?_) (fun h_11 => ?_)
      · skip
        have hiN : i = zs_nl X.2.1 := by have := (nI_leI (a := zs_nl X.2.1) (b := i) (by omega) (by omega)).mp h_11; omega
        refine lv_lload_n hx hb dX6_has_56 rfl (lv_at hl 1 rfl) ?_
        exact zk_lretS hx hb hr hlocks (by rw [hacc, hiN]; rfl) dX6_has_57
      · skip
        have hiN : i < zs_nl X.2.1 := Nat.lt_of_not_le (fun q => h_11 ((nI_leI (a := zs_nl X.2.1) (b := i) (by omega) (by omega)).mpr q))
        refine lv_lload_n hx hb dX6_has_14 rfl (lv_at hl 1 rfl) ?_
        refine lv_aload_n hx hb dX6_has_15 rfl (lv_at hl 2 rfl) ?_
        refine zk_get (ci := 6) (v := .ref (Z (8, 7, 0))) (C := RX6) (T := TX6) (N := 20) hx hb hts inw_wsX6_has_6 hown hK hH (hR.1 (8, 0, 0) ⟨by decide, rfl⟩) rfl 10 (by decide) (hts (.fieldLink RX6 33 "KegDepositsModel" "layerParty" "[I") (by decide +kernel)) rfl dX6_has_16 ?_
        refine lv_iload hx hb dX6_has_19 (lv_at hl 0 rfl) ?_
        refine zk_iald hx hb hK hH (hR.1 (8, 7, 0) ⟨by decide, rfl⟩) (vp_in_nI (show i < 4100 by omega) (by decide)) dX6_has_21 ?_
        refine zk_top (v' := .int (nI (zs_lp X.2.1 i))) (zk_arr_i (f := fun i => nI (zs_lp X.2.1 i)) (i := i) (by omega)) ?_
        refine lv_iload_n hx hb dX6_has_22 rfl (lv_at hl 3 rfl) ?_
        refine lv_icmp_ne (tgt := 47) hx hb dX6_has_23 (by decide) (fun h_23 => ?_) (fun h_23 => ?_)
        · skip
          have hpp : ¬ zs_lp X.2.1 i = p := fun q => h_23 (by rw [q])
          refine lv_lconst (v := 0) hx hb dX6_has_47 (by decide) ?_
          refine lv_ladd hx hb dX6_has_48 ?_
          refine lv_lstore_n (lv' := [(3, .long (acc + 0)), (5, .int (nI i)), (0, .ref (Z (8, 0, 0))), (1, .int (nI p)), (2, .int (nI k))]) hx hb dX6_has_49 rfl hl (by decide) rfl (fun ls hl => ?_)
          refine lv_iinc (v := nI (i + 1)) (lv' := [(5, .int (nI (i + 1))), (3, .long (acc + 0)), (0, .ref (Z (8, 0, 0))), (1, .int (nI p)), (2, .int (nI k))]) hx hb dX6_has_50 hl (k := 1) rfl (nI_1 i) (by decide) rfl (fun ls hl => ?_)
          refine lv_goto (tgt := 5) hx hb dX6_has_53 (by decide) ?_
          exact ih (i + 1) _ ls (by omega) (by omega) (by rw [hacc]; show _ = zs_sum (zs_hasf X.2.1 p k) i + zs_hasf X.2.1 p k i; rw [show zs_hasf X.2.1 p k i = 0 from if_neg (fun q => hpp q.1)]) (lv_sub hl [0, 1, 2, 3, 4] rfl)
        · skip
          have hpp : zs_lp X.2.1 i = p := (nI_eq (hbb i hiN).1 (by omega)).mp h_23
          refine lv_aload_n hx hb dX6_has_26 rfl (lv_at hl 2 rfl) ?_
          refine zk_get (ci := 6) (v := .ref (Z (8, 8, 0))) (C := RX6) (T := TX6) (N := 20) hx hb hts inw_wsX6_has_6 hown hK hH (hR.1 (8, 0, 0) ⟨by decide, rfl⟩) rfl 11 (by decide) (hts (.fieldLink RX6 36 "KegDepositsModel" "layerKind" "[I") (by decide +kernel)) rfl dX6_has_27 ?_
          refine lv_iload hx hb dX6_has_30 (lv_at hl 0 rfl) ?_
          refine zk_iald hx hb hK hH (hR.1 (8, 8, 0) ⟨by decide, rfl⟩) (vp_in_nI (show i < 4100 by omega) (by decide)) dX6_has_32 ?_
          refine zk_top (v' := .int (nI (zs_lk X.2.1 i))) (zk_arr_i (f := fun i => nI (zs_lk X.2.1 i)) (i := i) (by omega)) ?_
          refine lv_iload_n hx hb dX6_has_33 rfl (lv_at hl 4 rfl) ?_
          refine lv_icmp_ne (tgt := 47) hx hb dX6_has_34 (by decide) (fun h_34 => ?_) (fun h_34 => ?_)
          · skip
            have hkk : ¬ zs_lk X.2.1 i = k := fun q => h_34 (by rw [q])
            refine lv_lconst (v := 0) hx hb dX6_has_47 (by decide) ?_
            refine lv_ladd hx hb dX6_has_48 ?_
            refine lv_lstore_n (lv' := [(3, .long (acc + 0)), (5, .int (nI i)), (0, .ref (Z (8, 0, 0))), (1, .int (nI p)), (2, .int (nI k))]) hx hb dX6_has_49 rfl hl (by decide) rfl (fun ls hl => ?_)
            refine lv_iinc (v := nI (i + 1)) (lv' := [(5, .int (nI (i + 1))), (3, .long (acc + 0)), (0, .ref (Z (8, 0, 0))), (1, .int (nI p)), (2, .int (nI k))]) hx hb dX6_has_50 hl (k := 1) rfl (nI_1 i) (by decide) rfl (fun ls hl => ?_)
            refine lv_goto (tgt := 5) hx hb dX6_has_53 (by decide) ?_
            exact ih (i + 1) _ ls (by omega) (by omega) (by rw [hacc]; show _ = zs_sum (zs_hasf X.2.1 p k) i + zs_hasf X.2.1 p k i; rw [show zs_hasf X.2.1 p k i = 0 from if_neg (fun q => hkk q.2)]) (lv_sub hl [0, 1, 2, 3, 4] rfl)
          · skip
            have hkk : zs_lk X.2.1 i = k := (nI_eq (hbb i hiN).2 (by omega)).mp h_34
            refine lv_aload_n hx hb dX6_has_37 rfl (lv_at hl 2 rfl) ?_
            refine zk_get (ci := 6) (v := .ref (Z (8, 9, 0))) (C := RX6) (T := TX6) (N := 20) hx hb hts inw_wsX6_has_6 hown hK hH (hR.1 (8, 0, 0) ⟨by decide, rfl⟩) rfl 12 (by decide) (hts (.fieldLink RX6 39 "KegDepositsModel" "layerLeft" "[J") (by decide +kernel)) rfl dX6_has_38 ?_
            refine lv_iload hx hb dX6_has_41 (lv_at hl 0 rfl) ?_
            refine zk_lald hx hb hK hH (hR.1 (8, 9, 0) ⟨by decide, rfl⟩) (vp_in_nI (show i < 4100 by omega) (by decide)) dX6_has_43 ?_
            refine zk_top (v' := .long (zs_ll X.2.1 i)) (zk_arr_l (f := zs_ll X.2.1) (i := i) (by omega)) ?_
            refine lv_goto (tgt := 48) hx hb dX6_has_44 (by decide) ?_
            refine lv_ladd hx hb dX6_has_48 ?_
            refine lv_lstore_n (lv' := [(3, .long (acc + zs_ll X.2.1 i)), (5, .int (nI i)), (0, .ref (Z (8, 0, 0))), (1, .int (nI p)), (2, .int (nI k))]) hx hb dX6_has_49 rfl hl (by decide) rfl (fun ls hl => ?_)
            refine lv_iinc (v := nI (i + 1)) (lv' := [(5, .int (nI (i + 1))), (3, .long (acc + zs_ll X.2.1 i)), (0, .ref (Z (8, 0, 0))), (1, .int (nI p)), (2, .int (nI k))]) hx hb dX6_has_50 hl (k := 1) rfl (nI_1 i) (by decide) rfl (fun ls hl => ?_)
            refine lv_goto (tgt := 5) hx hb dX6_has_53 (by decide) ?_
            exact ih (i + 1) _ ls (by omega) (by omega) (by rw [hacc]; show _ = zs_sum (zs_hasf X.2.1 p k) i + zs_hasf X.2.1 p k i; rw [show zs_hasf X.2.1 p k i = zs_ll X.2.1 i from if_pos ⟨hpp, hkk⟩]) (lv_sub hl [0, 1, 2, 3, 4] rfl)
  exact loop_5 (zs_nl X.2.1 + 1) 0 0 ls (by omega) (Nat.zero_le _) rfl (lv_sub hl [0, 1, 2, 3, 4] rfl)

theorem inw_wsX6_take_6 : ∀ w ∈ u_ws RX6 TX6 20, w ∈ wsX6_take := by decide +kernel
set_option maxHeartbeats 4000000 in
set_option maxRecDepth 100000 in
theorem zc_X6_take (l : Launch) {g : zk_G} {z : Nat} {M : zk_M} {X : zs_X} {Z : zs_Z} (hR : zs_R g X Z M) (hl1 : zs_nl X.2.1 ≤ 4100) (hbb : ∀ i, i < zs_nl X.2.1 → zs_lp X.2.1 i < 2 ^ 31 ∧ zs_lk X.2.1 i < 2 ^ 31) {p k : Nat} (hp : p < 2 ^ 31) (hk : k < 2 ^ 31) (num : Int64) : Met l yX6_take wsX6_take ({ frames := 0, cells := 0, slots := 0, locals := 0 } : Room) (va_Pc [.ref (Z (8, 0, 0)), .int (nI p), .int (nI k), .long num] (zk_U g z M)) (va_Ql (fun r u => r = (zs_take X.2.1 p k num (zs_nl X.2.1)).2.2 ∧ zs_R g (X.1, zs_ll_ X.2.1 (zs_take X.2.1 p k num (zs_nl X.2.1)).1, X.2.2) Z u) (zk_B g z) (fun q => z ≤ q)) 0 0 (fun q => z ≤ q) := by
  refine Met.ofW (cc := cX6_take) (maxL := 12) (ret := (some .long)) (by decide) rfl ?_
  intro P0 e0 s m0 args below meth c0 s₁ B hml hv
  obtain ⟨rfl, hH, hK, hN⟩ := hv
  have hx := B.exec
  have hb := B.bytes
  have hr := B.returns
  have hts := atoms_spec (ws := wsX6_take) B.pre
  have hown : s.vm.findClass RX6 = some m0.cls := findClass_of_methodNamed B.named
  have hlocks := B.notSynchronized
  have hS : va_S (fun q => z ≤ q) s.heap s.heap [] := va_S.rf
  have hl := lv_entry ([.ref (Z (8, 0, 0)), .int (nI p), .int (nI k), .long num]) (n := 12) (Nat.le_of_ble_eq_true rfl)
  rw [lg_entry_eq]
  generalize (lg_sl ([.ref (Z (8, 0, 0)), .int (nI p), .int (nI k), .long num]) ++ List.replicate (12 - (lg_sl ([.ref (Z (8, 0, 0)), .int (nI p), .int (nI k), .long num])).length) Slot.unset).toArray = ls at hl ⊢
  have hl : lv_has ls 12 [(0, .ref (Z (8, 0, 0))), (1, .int (nI p)), (2, .int (nI k)), (3, .long num)] := hl
  refine lv_lload_n hx hb dX6_take_0 rfl (lv_at hl 3 rfl) ?_
  refine lv_lstore (lv' := [(5, .long num), (0, .ref (Z (8, 0, 0))), (1, .int (nI p)), (2, .int (nI k)), (3, .long num)]) hx hb dX6_take_1 hl (by decide) rfl (fun ls hl => ?_)
  refine lv_lconst (v := 0) hx hb dX6_take_3 (by decide) ?_
  refine lv_lstore (lv' := [(7, .long 0), (5, .long num), (0, .ref (Z (8, 0, 0))), (1, .int (nI p)), (2, .int (nI k)), (3, .long num)]) hx hb dX6_take_4 hl (by decide) rfl (fun ls hl => ?_)
  refine lv_iconst (v := 0) hx hb dX6_take_6 (by decide) ?_
  refine lv_istore (lv' := [(9, .int 0), (7, .long 0), (5, .long num), (0, .ref (Z (8, 0, 0))), (1, .int (nI p)), (2, .int (nI k)), (3, .long num)]) hx hb dX6_take_7 hl (by decide) rfl (fun ls hl => ?_)
  have loop_9 : ∀ (n i : Nat) (f : Nat → Int64) (lf : Int64) (wo : Int64) (Mx : zk_M) (H : Heap) (locs : List Loc) (ls : Array Slot), zs_nl X.2.1 - i < n → i ≤ zs_nl X.2.1 → (f, lf, wo) = zs_take X.2.1 p k num i → zs_R g (X.1, zs_ll_ X.2.1 f, X.2.2) Z Mx → zk_H g z Mx H → va_S (fun q => z ≤ q) s.heap H locs →  lv_has ls 12 [(9, .int (nI i)), (5, .long lf), (7, .long wo), (0, .ref (Z (8, 0, 0))), (1, .int (nI p)), (2, .int (nI k))] → W P0 l e0 (headSpec wsX6_take ({ frames := 0, cells := 0, slots := 0, locals := 0 } : Room)).room s m0 ([.ref (Z (8, 0, 0)), .int (nI p), .int (nI k), .long num] : List Value).toArray below meth c0 H locs 0 0 (MQ below (va_Ql (fun r u => r = (zs_take X.2.1 p k num (zs_nl X.2.1)).2.2 ∧ zs_R g (X.1, zs_ll_ X.2.1 (zs_take X.2.1 p k num (zs_nl X.2.1)).1, X.2.2) Z u) (zk_B g z) (fun q => z ≤ q)) ([.ref (Z (8, 0, 0)), .int (nI p), .int (nI k), .long num] : List Value).toArray s 0 0 (fun q => z ≤ q)) (F0 m0 9 ls []) := by
    intro n
    induction n with
    | zero => intro i f lf wo Mx H locs ls hn hi; omega
    | succ n ih =>
      intro i f lf wo Mx H locs ls hn hi he hRx hH hS hl
      refine lv_iload hx hb dX6_take_9 (lv_at hl 0 rfl) ?_
      refine lv_aload_n hx hb dX6_take_11 rfl (lv_at hl 3 rfl) ?_
      refine zk_get (ci := 6) (v := .int (nI (zs_nl X.2.1))) (C := RX6) (T := TX6) (N := 20) hx hb hts inw_wsX6_take_6 hown hK hH (hRx.1 (8, 0, 0) ⟨by decide, rfl⟩) rfl 9 (by decide) (hts (.fieldLink RX6 89 "KegDepositsModel" "layers" "I") (by decide +kernel)) rfl dX6_take_12 ?_
      refine lv_icmp_ge (tgt := 107) hx hb dX6_take_15 (by decide) (fun h_15 => ?_) (fun h_15 => ?_)
      · skip
        have hiN : i = zs_nl X.2.1 := by have := (nI_leI (a := zs_nl X.2.1) (b := i) (by omega) (by omega)).mp h_15; omega
        refine lv_lload hx hb dX6_take_107 (lv_at hl 2 rfl) ?_
        exact zk_lret hx hb hr hlocks hH hS (by decide) (by decide) (by rw [hiN] at he; rw [← he]; exact ⟨rfl, hRx⟩) dX6_take_109
      · skip
        have hiN : i < zs_nl X.2.1 := Nat.lt_of_not_le (fun q => h_15 ((nI_leI (a := zs_nl X.2.1) (b := i) (by omega) (by omega)).mpr q))
        refine lv_aload_n hx hb dX6_take_18 rfl (lv_at hl 3 rfl) ?_
        refine zk_get (ci := 6) (v := .ref (Z (8, 7, 0))) (C := RX6) (T := TX6) (N := 20) hx hb hts inw_wsX6_take_6 hown hK hH (hRx.1 (8, 0, 0) ⟨by decide, rfl⟩) rfl 10 (by decide) (hts (.fieldLink RX6 33 "KegDepositsModel" "layerParty" "[I") (by decide +kernel)) rfl dX6_take_19 ?_
        refine lv_iload hx hb dX6_take_22 (lv_at hl 0 rfl) ?_
        refine zk_iald hx hb hK hH (hRx.1 (8, 7, 0) ⟨by decide, rfl⟩) (vp_in_nI (show i < 4100 by omega) (by decide)) dX6_take_24 ?_
        refine zk_top (v' := .int (nI (zs_lp X.2.1 i))) (zk_arr_i (f := fun i => nI (zs_lp X.2.1 i)) (i := i) (by omega)) ?_
        refine lv_iload_n hx hb dX6_take_25 rfl (lv_at hl 4 rfl) ?_
        refine lv_icmp_ne (tgt := 101) hx hb dX6_take_26 (by decide) (fun h_26 => ?_) (fun h_26 => ?_)
        · skip
          have hpp : ¬ zs_lp X.2.1 i = p := fun q => h_26 (by rw [q])
          refine lv_iinc (v := nI (i + 1)) (lv' := [(9, .int (nI (i + 1))), (5, .long lf), (7, .long wo), (0, .ref (Z (8, 0, 0))), (1, .int (nI p)), (2, .int (nI k))]) hx hb dX6_take_101 hl (k := 0) rfl (nI_1 i) (by decide) rfl (fun ls hl => ?_)
          refine lv_goto (tgt := 9) hx hb dX6_take_104 (by decide) ?_
          exact ih (i + 1) _ _ _ _ _ _ ls (by omega) (by omega) (he.trans (zs_take_neg (fun q => hpp q.1)).symm) hRx hH hS (lv_sub hl [0, 1, 2, 3, 4, 5] rfl)
        · skip
          have hpp : zs_lp X.2.1 i = p := (nI_eq (hbb i hiN).1 (by omega)).mp h_26
          refine lv_aload_n hx hb dX6_take_29 rfl (lv_at hl 3 rfl) ?_
          refine zk_get (ci := 6) (v := .ref (Z (8, 8, 0))) (C := RX6) (T := TX6) (N := 20) hx hb hts inw_wsX6_take_6 hown hK hH (hRx.1 (8, 0, 0) ⟨by decide, rfl⟩) rfl 11 (by decide) (hts (.fieldLink RX6 36 "KegDepositsModel" "layerKind" "[I") (by decide +kernel)) rfl dX6_take_30 ?_
          refine lv_iload hx hb dX6_take_33 (lv_at hl 0 rfl) ?_
          refine zk_iald hx hb hK hH (hRx.1 (8, 8, 0) ⟨by decide, rfl⟩) (vp_in_nI (show i < 4100 by omega) (by decide)) dX6_take_35 ?_
          refine zk_top (v' := .int (nI (zs_lk X.2.1 i))) (zk_arr_i (f := fun i => nI (zs_lk X.2.1 i)) (i := i) (by omega)) ?_
          refine lv_iload_n hx hb dX6_take_36 rfl (lv_at hl 5 rfl) ?_
          refine lv_icmp_ne (tgt := 101) hx hb dX6_take_37 (by decide) (fun h_37 => ?_) (fun h_37 => ?_)
          · skip
            have hkk : ¬ zs_lk X.2.1 i = k := fun q => h_37 (by rw [q])
            refine lv_iinc (v := nI (i + 1)) (lv' := [(9, .int (nI (i + 1))), (5, .long lf), (7, .long wo), (0, .ref (Z (8, 0, 0))), (1, .int (nI p)), (2, .int (nI k))]) hx hb dX6_take_101 hl (k := 0) rfl (nI_1 i) (by decide) rfl (fun ls hl => ?_)
            refine lv_goto (tgt := 9) hx hb dX6_take_104 (by decide) ?_
            exact ih (i + 1) _ _ _ _ _ _ ls (by omega) (by omega) (he.trans (zs_take_neg (fun q => hkk q.2)).symm) hRx hH hS (lv_sub hl [0, 1, 2, 3, 4, 5] rfl)
          · skip
            have hkk : zs_lk X.2.1 i = k := (nI_eq (hbb i hiN).2 (by omega)).mp h_37
            refine lv_aload_n hx hb dX6_take_40 rfl (lv_at hl 3 rfl) ?_
            refine zk_get (ci := 6) (v := .ref (Z (8, 9, 0))) (C := RX6) (T := TX6) (N := 20) hx hb hts inw_wsX6_take_6 hown hK hH (hRx.1 (8, 0, 0) ⟨by decide, rfl⟩) rfl 12 (by decide) (hts (.fieldLink RX6 39 "KegDepositsModel" "layerLeft" "[J") (by decide +kernel)) rfl dX6_take_41 ?_
            refine lv_iload hx hb dX6_take_44 (lv_at hl 0 rfl) ?_
            refine zk_lald hx hb hK hH (hRx.1 (8, 9, 0) ⟨by decide, rfl⟩) (vp_in_nI (show i < 4100 by omega) (by decide)) dX6_take_46 ?_
            refine zk_top (v' := .long (f i)) (zk_arr_l (f := f) (i := i) (by omega)) ?_
            refine lv_lload hx hb dX6_take_47 (lv_at hl 1 rfl) ?_
            refine zk_lc_ge (tgt := 63) hx hb dX6_take_49 dX6_take_50 (by decide) (fun h_49 => ?_) (fun h_49 => ?_)
            · skip
              have hA : (if f i < lf then f i else lf) = lf := if_neg (Int64.not_lt.mpr h_49)
              refine lv_lload hx hb dX6_take_63 (lv_at hl 1 rfl) ?_
              refine lv_lstore (lv' := [(10, .long lf), (9, .int (nI i)), (5, .long lf), (7, .long wo), (0, .ref (Z (8, 0, 0))), (1, .int (nI p)), (2, .int (nI k))]) hx hb dX6_take_65 hl (by decide) rfl (fun ls hl => ?_)
              refine lv_aload_n hx hb dX6_take_67 rfl (lv_at hl 4 rfl) ?_
              refine zk_get (ci := 6) (v := .ref (Z (8, 9, 0))) (C := RX6) (T := TX6) (N := 20) hx hb hts inw_wsX6_take_6 hown hK hH (hRx.1 (8, 0, 0) ⟨by decide, rfl⟩) rfl 12 (by decide) (hts (.fieldLink RX6 39 "KegDepositsModel" "layerLeft" "[J") (by decide +kernel)) rfl dX6_take_68 ?_
              refine lv_iload hx hb dX6_take_71 (lv_at hl 1 rfl) ?_
              refine lv_dup2_11 hx hb dX6_take_73 rfl rfl ?_
              refine zk_lald hx hb hK hH (hRx.1 (8, 9, 0) ⟨by decide, rfl⟩) (vp_in_nI (show i < 4100 by omega) (by decide)) dX6_take_74 ?_
              refine zk_top (v' := .long (f i)) (zk_arr_l (f := f) (i := i) (by omega)) ?_
              refine lv_lload hx hb dX6_take_75 (lv_at hl 0 rfl) ?_
              refine lv_lsub hx hb dX6_take_77 ?_
              refine zk_last hx hb hK hH hS (hRx.1 (8, 9, 0) ⟨by decide, rfl⟩) (vp_in_nI (show i < 4100 by omega) (by decide)) dX6_take_78 (fun H locs hH hS => ?_)
              have hH := zk_H_c (e' := zk_aJ g 4100 (vp_updL f i (f i - lf))) (congrArg (zk_aJ g 4100) (show vp_updL f (Int32.toNatClampNeg (nI i)) (f i - lf) = (vp_updL f i (f i - lf)) from (zs_updL (by omega)))) hH
              obtain ⟨M_78, eM_78⟩ : ∃ w_0 : zk_M, w_0 = zk_up Mx (Z (8, 9, 0)) (zk_aJ g 4100 (vp_updL f i (f i - lf))) := ⟨_, rfl⟩
              have hH : zk_H g z M_78 H := by rw [eM_78]; exact hH
              have hR_78 : zs_R g ((X.1, (zs_np X.2.1, zs_nk X.2.1, zs_nl X.2.1, zs_nc X.2.1, zs_ck X.2.1, zs_pn X.2.1, zs_pd X.2.1, zs_pc X.2.1, zs_sh X.2.1, zs_rs X.2.1, zs_lp X.2.1, zs_lk X.2.1, (vp_updL f i (f i - lf)), zs_ld X.2.1, zs_lc X.2.1, zs_tp X.2.1, zs_tt X.2.1, zs_ta X.2.1, zs_td X.2.1), X.2.2) : zs_X) Z M_78 := by rw [eM_78]; exact zs_Rm_ll (X := ((X.1, zs_ll_ X.2.1 f, X.2.2) : zs_X)) hRx (vp_updL f i (f i - lf))
              refine lv_lload hx hb dX6_take_79 (lv_at hl 2 rfl) ?_
              refine lv_lload hx hb dX6_take_81 (lv_at hl 0 rfl) ?_
              refine lv_lsub hx hb dX6_take_83 ?_
              refine lv_lstore (lv' := [(5, .long (lf - lf)), (10, .long lf), (9, .int (nI i)), (7, .long wo), (0, .ref (Z (8, 0, 0))), (1, .int (nI p)), (2, .int (nI k))]) hx hb dX6_take_84 hl (by decide) rfl (fun ls hl => ?_)
              refine lv_lload hx hb dX6_take_86 (lv_at hl 3 rfl) ?_
              refine lv_lload hx hb dX6_take_88 (lv_at hl 1 rfl) ?_
              refine lv_aload_n hx hb dX6_take_90 rfl (lv_at hl 4 rfl) ?_
              refine zk_get (ci := 6) (v := .ref (Z (8, 11, 0))) (C := RX6) (T := TX6) (N := 20) hx hb hts inw_wsX6_take_6 hown hK hH (hR_78.1 (8, 0, 0) ⟨by decide, rfl⟩) rfl 14 (by decide) (hts (.fieldLink RX6 45 "KegDepositsModel" "layerPrice" "[J") (by decide +kernel)) rfl dX6_take_91 ?_
              refine lv_iload hx hb dX6_take_94 (lv_at hl 2 rfl) ?_
              refine zk_lald hx hb hK hH (hR_78.1 (8, 11, 0) ⟨by decide, rfl⟩) (vp_in_nI (show i < 4100 by omega) (by decide)) dX6_take_96 ?_
              refine zk_top (v' := .long (zs_lc X.2.1 i)) (zk_arr_l (f := zs_lc X.2.1) (i := i) (by omega)) ?_
              refine lv_lmul hx hb dX6_take_97 ?_
              refine lv_ladd hx hb dX6_take_98 ?_
              refine lv_lstore (lv' := [(7, .long (wo + (lf * zs_lc X.2.1 i))), (5, .long (lf - lf)), (10, .long lf), (9, .int (nI i)), (0, .ref (Z (8, 0, 0))), (1, .int (nI p)), (2, .int (nI k))]) hx hb dX6_take_99 hl (by decide) rfl (fun ls hl => ?_)
              refine lv_iinc (v := nI (i + 1)) (lv' := [(9, .int (nI (i + 1))), (7, .long (wo + (lf * zs_lc X.2.1 i))), (5, .long (lf - lf)), (10, .long lf), (0, .ref (Z (8, 0, 0))), (1, .int (nI p)), (2, .int (nI k))]) hx hb dX6_take_101 hl (k := 3) rfl (nI_1 i) (by decide) rfl (fun ls hl => ?_)
              refine lv_goto (tgt := 9) hx hb dX6_take_104 (by decide) ?_
              exact ih (i + 1) _ _ _ _ _ _ ls (by omega) (by omega) (zs_take_at hA he ⟨hpp, hkk⟩) hR_78 hH hS (lv_sub hl [0, 2, 1, 4, 5, 6] rfl)
            · skip
              have hA : (if f i < lf then f i else lf) = f i := if_pos (Int64.not_le.mp h_49)
              refine lv_aload_n hx hb dX6_take_53 rfl (lv_at hl 3 rfl) ?_
              refine zk_get (ci := 6) (v := .ref (Z (8, 9, 0))) (C := RX6) (T := TX6) (N := 20) hx hb hts inw_wsX6_take_6 hown hK hH (hRx.1 (8, 0, 0) ⟨by decide, rfl⟩) rfl 12 (by decide) (hts (.fieldLink RX6 39 "KegDepositsModel" "layerLeft" "[J") (by decide +kernel)) rfl dX6_take_54 ?_
              refine lv_iload hx hb dX6_take_57 (lv_at hl 0 rfl) ?_
              refine zk_lald hx hb hK hH (hRx.1 (8, 9, 0) ⟨by decide, rfl⟩) (vp_in_nI (show i < 4100 by omega) (by decide)) dX6_take_59 ?_
              refine zk_top (v' := .long (f i)) (zk_arr_l (f := f) (i := i) (by omega)) ?_
              refine lv_goto (tgt := 65) hx hb dX6_take_60 (by decide) ?_
              refine lv_lstore (lv' := [(10, .long (f i)), (9, .int (nI i)), (5, .long lf), (7, .long wo), (0, .ref (Z (8, 0, 0))), (1, .int (nI p)), (2, .int (nI k))]) hx hb dX6_take_65 hl (by decide) rfl (fun ls hl => ?_)
              refine lv_aload_n hx hb dX6_take_67 rfl (lv_at hl 4 rfl) ?_
              refine zk_get (ci := 6) (v := .ref (Z (8, 9, 0))) (C := RX6) (T := TX6) (N := 20) hx hb hts inw_wsX6_take_6 hown hK hH (hRx.1 (8, 0, 0) ⟨by decide, rfl⟩) rfl 12 (by decide) (hts (.fieldLink RX6 39 "KegDepositsModel" "layerLeft" "[J") (by decide +kernel)) rfl dX6_take_68 ?_
              refine lv_iload hx hb dX6_take_71 (lv_at hl 1 rfl) ?_
              refine lv_dup2_11 hx hb dX6_take_73 rfl rfl ?_
              refine zk_lald hx hb hK hH (hRx.1 (8, 9, 0) ⟨by decide, rfl⟩) (vp_in_nI (show i < 4100 by omega) (by decide)) dX6_take_74 ?_
              refine zk_top (v' := .long (f i)) (zk_arr_l (f := f) (i := i) (by omega)) ?_
              refine lv_lload hx hb dX6_take_75 (lv_at hl 0 rfl) ?_
              refine lv_lsub hx hb dX6_take_77 ?_
              refine zk_last hx hb hK hH hS (hRx.1 (8, 9, 0) ⟨by decide, rfl⟩) (vp_in_nI (show i < 4100 by omega) (by decide)) dX6_take_78 (fun H locs hH hS => ?_)
              have hH := zk_H_c (e' := zk_aJ g 4100 (vp_updL f i (f i - f i))) (congrArg (zk_aJ g 4100) (show vp_updL f (Int32.toNatClampNeg (nI i)) (f i - f i) = (vp_updL f i (f i - f i)) from (zs_updL (by omega)))) hH
              obtain ⟨M_78, eM_78⟩ : ∃ w_0 : zk_M, w_0 = zk_up Mx (Z (8, 9, 0)) (zk_aJ g 4100 (vp_updL f i (f i - f i))) := ⟨_, rfl⟩
              have hH : zk_H g z M_78 H := by rw [eM_78]; exact hH
              have hR_78 : zs_R g ((X.1, (zs_np X.2.1, zs_nk X.2.1, zs_nl X.2.1, zs_nc X.2.1, zs_ck X.2.1, zs_pn X.2.1, zs_pd X.2.1, zs_pc X.2.1, zs_sh X.2.1, zs_rs X.2.1, zs_lp X.2.1, zs_lk X.2.1, (vp_updL f i (f i - f i)), zs_ld X.2.1, zs_lc X.2.1, zs_tp X.2.1, zs_tt X.2.1, zs_ta X.2.1, zs_td X.2.1), X.2.2) : zs_X) Z M_78 := by rw [eM_78]; exact zs_Rm_ll (X := ((X.1, zs_ll_ X.2.1 f, X.2.2) : zs_X)) hRx (vp_updL f i (f i - f i))
              refine lv_lload hx hb dX6_take_79 (lv_at hl 2 rfl) ?_
              refine lv_lload hx hb dX6_take_81 (lv_at hl 0 rfl) ?_
              refine lv_lsub hx hb dX6_take_83 ?_
              refine lv_lstore (lv' := [(5, .long (lf - f i)), (10, .long (f i)), (9, .int (nI i)), (7, .long wo), (0, .ref (Z (8, 0, 0))), (1, .int (nI p)), (2, .int (nI k))]) hx hb dX6_take_84 hl (by decide) rfl (fun ls hl => ?_)
              refine lv_lload hx hb dX6_take_86 (lv_at hl 3 rfl) ?_
              refine lv_lload hx hb dX6_take_88 (lv_at hl 1 rfl) ?_
              refine lv_aload_n hx hb dX6_take_90 rfl (lv_at hl 4 rfl) ?_
              refine zk_get (ci := 6) (v := .ref (Z (8, 11, 0))) (C := RX6) (T := TX6) (N := 20) hx hb hts inw_wsX6_take_6 hown hK hH (hR_78.1 (8, 0, 0) ⟨by decide, rfl⟩) rfl 14 (by decide) (hts (.fieldLink RX6 45 "KegDepositsModel" "layerPrice" "[J") (by decide +kernel)) rfl dX6_take_91 ?_
              refine lv_iload hx hb dX6_take_94 (lv_at hl 2 rfl) ?_
              refine zk_lald hx hb hK hH (hR_78.1 (8, 11, 0) ⟨by decide, rfl⟩) (vp_in_nI (show i < 4100 by omega) (by decide)) dX6_take_96 ?_
              refine zk_top (v' := .long (zs_lc X.2.1 i)) (zk_arr_l (f := zs_lc X.2.1) (i := i) (by omega)) ?_
              refine lv_lmul hx hb dX6_take_97 ?_
              refine lv_ladd hx hb dX6_take_98 ?_
              refine lv_lstore (lv' := [(7, .long (wo + (f i * zs_lc X.2.1 i))), (5, .long (lf - f i)), (10, .long (f i)), (9, .int (nI i)), (0, .ref (Z (8, 0, 0))), (1, .int (nI p)), (2, .int (nI k))]) hx hb dX6_take_99 hl (by decide) rfl (fun ls hl => ?_)
              refine lv_iinc (v := nI (i + 1)) (lv' := [(9, .int (nI (i + 1))), (7, .long (wo + (f i * zs_lc X.2.1 i))), (5, .long (lf - f i)), (10, .long (f i)), (0, .ref (Z (8, 0, 0))), (1, .int (nI p)), (2, .int (nI k))]) hx hb dX6_take_101 hl (k := 3) rfl (nI_1 i) (by decide) rfl (fun ls hl => ?_)
              refine lv_goto (tgt := 9) hx hb dX6_take_104 (by decide) ?_
              exact ih (i + 1) _ _ _ _ _ _ ls (by omega) (by omega) (zs_take_at hA he ⟨hpp, hkk⟩) hR_78 hH hS (lv_sub hl [0, 2, 1, 4, 5, 6] rfl)
  exact loop_9 (zs_nl X.2.1 + 1) 0 _ _ _ _ _ _ ls (by omega) (Nat.zero_le _) rfl hR hH hS (lv_sub hl [0, 2, 1, 3, 4, 5] rfl)

theorem inw_wsX6_move_6 : ∀ w ∈ u_ws RX6 TX6 20, w ∈ wsX6_move := by decide +kernel
set_option maxHeartbeats 4000000 in
set_option maxRecDepth 100000 in
theorem zc_X6_move (l : Launch) {g : zk_G} {z : Nat} {M : zk_M} {X : zs_X} {Z : zs_Z} (hR : zs_R g X Z M) (hnc : zs_nc X.2.1 < 4100) (x y : Nat) (c d : Int64) : Met l yX6_move wsX6_move ({ frames := 0, cells := 0, slots := 0, locals := 0 } : Room) (va_Pc [.ref (Z (8, 0, 0)), .int (nI x), .int (nI y), .long c, .long d] (zk_U g z M)) (va_Qv (fun u => zs_R g (X.1, zs_mv0 X.2.1 x y c d, X.2.2) Z u) (zk_B g z) (fun q => z ≤ q)) 0 0 (fun q => z ≤ q) := by
  refine Met.ofW (cc := cX6_move) (maxL := 7) (ret := none) (by decide) rfl ?_
  intro P0 e0 s m0 args below meth c0 s₁ B hml hv
  obtain ⟨rfl, hH, hK, hN⟩ := hv
  have hx := B.exec
  have hb := B.bytes
  have hr := B.returns
  have hts := atoms_spec (ws := wsX6_move) B.pre
  have hown : s.vm.findClass RX6 = some m0.cls := findClass_of_methodNamed B.named
  have hlocks := B.notSynchronized
  have hS : va_S (fun q => z ≤ q) s.heap s.heap [] := va_S.rf
  have hl := lv_entry ([.ref (Z (8, 0, 0)), .int (nI x), .int (nI y), .long c, .long d]) (n := 7) (Nat.le_of_ble_eq_true rfl)
  rw [lg_entry_eq]
  generalize (lg_sl ([.ref (Z (8, 0, 0)), .int (nI x), .int (nI y), .long c, .long d]) ++ List.replicate (7 - (lg_sl ([.ref (Z (8, 0, 0)), .int (nI x), .int (nI y), .long c, .long d])).length) Slot.unset).toArray = ls at hl ⊢
  have hl : lv_has ls 7 [(0, .ref (Z (8, 0, 0))), (1, .int (nI x)), (2, .int (nI y)), (3, .long c), (5, .long d)] := hl
  refine lv_aload_n hx hb dX6_move_0 rfl (lv_at hl 0 rfl) ?_
  refine zk_get (ci := 6) (v := .ref (Z (8, 13, 0))) (C := RX6) (T := TX6) (N := 20) hx hb hts inw_wsX6_move_6 hown hK hH (hR.1 (8, 0, 0) ⟨by decide, rfl⟩) rfl 17 (by decide) (hts (.fieldLink RX6 51 "KegDepositsModel" "loses" "[I") (by decide +kernel)) rfl dX6_move_1 ?_
  refine lv_aload_n hx hb dX6_move_4 rfl (lv_at hl 0 rfl) ?_
  refine zk_get (ci := 6) (v := .int (nI (zs_nc X.2.1))) (C := RX6) (T := TX6) (N := 20) hx hb hts inw_wsX6_move_6 hown hK hH (hR.1 (8, 0, 0) ⟨by decide, rfl⟩) rfl 15 (by decide) (hts (.fieldLink RX6 75 "KegDepositsModel" "changes" "I") (by decide +kernel)) rfl dX6_move_5 ?_
  refine lv_iload_n hx hb dX6_move_8 rfl (lv_at hl 1 rfl) ?_
  refine zk_iast hx hb hK hH hS (hR.1 (8, 13, 0) ⟨by decide, rfl⟩) (vp_in_nI (hnc) (by decide)) dX6_move_9 (fun H locs hH hS => ?_)
  have hH := zk_H_c (e' := zk_aI g 4100 (fun i => nI ((va_up (zs_tp X.2.1) (zs_nc X.2.1) x) i))) (congrArg (zk_aI g 4100) (show upd (fun i => nI ((zs_tp X.2.1) i)) (Int32.toNatClampNeg (nI (zs_nc X.2.1))) (nI x) = (fun i => nI ((va_up (zs_tp X.2.1) (zs_nc X.2.1) x) i)) from (zs_updI (by omega)))) hH
  obtain ⟨M_9, eM_9⟩ : ∃ w_0 : zk_M, w_0 = zk_up M (Z (8, 13, 0)) (zk_aI g 4100 (fun i => nI ((va_up (zs_tp X.2.1) (zs_nc X.2.1) x) i))) := ⟨_, rfl⟩
  have hH : zk_H g z M_9 H := by rw [eM_9]; exact hH
  have hR_9 : zs_R g ((X.1, (zs_np X.2.1, zs_nk X.2.1, zs_nl X.2.1, zs_nc X.2.1, zs_ck X.2.1, zs_pn X.2.1, zs_pd X.2.1, zs_pc X.2.1, zs_sh X.2.1, zs_rs X.2.1, zs_lp X.2.1, zs_lk X.2.1, zs_ll X.2.1, zs_ld X.2.1, zs_lc X.2.1, (va_up (zs_tp X.2.1) (zs_nc X.2.1) x), zs_tt X.2.1, zs_ta X.2.1, zs_td X.2.1), X.2.2) : zs_X) Z M_9 := by rw [eM_9]; exact zs_Rm_tp (X := X) hR (va_up (zs_tp X.2.1) (zs_nc X.2.1) x)
  refine lv_aload_n hx hb dX6_move_10 rfl (lv_at hl 0 rfl) ?_
  refine zk_get (ci := 6) (v := .ref (Z (8, 12, 0))) (C := RX6) (T := TX6) (N := 20) hx hb hts inw_wsX6_move_6 hown hK hH (hR_9.1 (8, 0, 0) ⟨by decide, rfl⟩) rfl 16 (by decide) (hts (.fieldLink RX6 48 "KegDepositsModel" "gains" "[I") (by decide +kernel)) rfl dX6_move_11 ?_
  refine lv_aload_n hx hb dX6_move_14 rfl (lv_at hl 0 rfl) ?_
  refine zk_get (ci := 6) (v := .int (nI (zs_nc X.2.1))) (C := RX6) (T := TX6) (N := 20) hx hb hts inw_wsX6_move_6 hown hK hH (hR_9.1 (8, 0, 0) ⟨by decide, rfl⟩) rfl 15 (by decide) (hts (.fieldLink RX6 75 "KegDepositsModel" "changes" "I") (by decide +kernel)) rfl dX6_move_15 ?_
  refine lv_iload_n hx hb dX6_move_18 rfl (lv_at hl 2 rfl) ?_
  refine zk_iast hx hb hK hH hS (hR_9.1 (8, 12, 0) ⟨by decide, rfl⟩) (vp_in_nI (hnc) (by decide)) dX6_move_19 (fun H locs hH hS => ?_)
  have hH := zk_H_c (e' := zk_aI g 4100 (fun i => nI ((va_up (zs_tt X.2.1) (zs_nc X.2.1) y) i))) (congrArg (zk_aI g 4100) (show upd (fun i => nI ((zs_tt X.2.1) i)) (Int32.toNatClampNeg (nI (zs_nc X.2.1))) (nI y) = (fun i => nI ((va_up (zs_tt X.2.1) (zs_nc X.2.1) y) i)) from (zs_updI (by omega)))) hH
  obtain ⟨M_19, eM_19⟩ : ∃ w_0 : zk_M, w_0 = zk_up M_9 (Z (8, 12, 0)) (zk_aI g 4100 (fun i => nI ((va_up (zs_tt X.2.1) (zs_nc X.2.1) y) i))) := ⟨_, rfl⟩
  have hH : zk_H g z M_19 H := by rw [eM_19]; exact hH
  have hR_19 : zs_R g ((X.1, (zs_np X.2.1, zs_nk X.2.1, zs_nl X.2.1, zs_nc X.2.1, zs_ck X.2.1, zs_pn X.2.1, zs_pd X.2.1, zs_pc X.2.1, zs_sh X.2.1, zs_rs X.2.1, zs_lp X.2.1, zs_lk X.2.1, zs_ll X.2.1, zs_ld X.2.1, zs_lc X.2.1, (va_up (zs_tp X.2.1) (zs_nc X.2.1) x), (va_up (zs_tt X.2.1) (zs_nc X.2.1) y), zs_ta X.2.1, zs_td X.2.1), X.2.2) : zs_X) Z M_19 := by rw [eM_19]; exact zs_Rm_tt (X := ((X.1, (zs_np X.2.1, zs_nk X.2.1, zs_nl X.2.1, zs_nc X.2.1, zs_ck X.2.1, zs_pn X.2.1, zs_pd X.2.1, zs_pc X.2.1, zs_sh X.2.1, zs_rs X.2.1, zs_lp X.2.1, zs_lk X.2.1, zs_ll X.2.1, zs_ld X.2.1, zs_lc X.2.1, (va_up (zs_tp X.2.1) (zs_nc X.2.1) x), zs_tt X.2.1, zs_ta X.2.1, zs_td X.2.1), X.2.2) : zs_X)) hR_9 (va_up (zs_tt X.2.1) (zs_nc X.2.1) y)
  refine lv_aload_n hx hb dX6_move_20 rfl (lv_at hl 0 rfl) ?_
  refine zk_get (ci := 6) (v := .ref (Z (8, 14, 0))) (C := RX6) (T := TX6) (N := 20) hx hb hts inw_wsX6_move_6 hown hK hH (hR_19.1 (8, 0, 0) ⟨by decide, rfl⟩) rfl 18 (by decide) (hts (.fieldLink RX6 54 "KegDepositsModel" "amounts" "[J") (by decide +kernel)) rfl dX6_move_21 ?_
  refine lv_aload_n hx hb dX6_move_24 rfl (lv_at hl 0 rfl) ?_
  refine zk_get (ci := 6) (v := .int (nI (zs_nc X.2.1))) (C := RX6) (T := TX6) (N := 20) hx hb hts inw_wsX6_move_6 hown hK hH (hR_19.1 (8, 0, 0) ⟨by decide, rfl⟩) rfl 15 (by decide) (hts (.fieldLink RX6 75 "KegDepositsModel" "changes" "I") (by decide +kernel)) rfl dX6_move_25 ?_
  refine lv_lload_n hx hb dX6_move_28 rfl (lv_at hl 3 rfl) ?_
  refine zk_last hx hb hK hH hS (hR_19.1 (8, 14, 0) ⟨by decide, rfl⟩) (vp_in_nI (hnc) (by decide)) dX6_move_29 (fun H locs hH hS => ?_)
  have hH := zk_H_c (e' := zk_aJ g 4100 (vp_updL (zs_ta X.2.1) (zs_nc X.2.1) c)) (congrArg (zk_aJ g 4100) (show vp_updL (zs_ta X.2.1) (Int32.toNatClampNeg (nI (zs_nc X.2.1))) c = (vp_updL (zs_ta X.2.1) (zs_nc X.2.1) c) from (zs_updL (by omega)))) hH
  obtain ⟨M_29, eM_29⟩ : ∃ w_0 : zk_M, w_0 = zk_up M_19 (Z (8, 14, 0)) (zk_aJ g 4100 (vp_updL (zs_ta X.2.1) (zs_nc X.2.1) c)) := ⟨_, rfl⟩
  have hH : zk_H g z M_29 H := by rw [eM_29]; exact hH
  have hR_29 : zs_R g ((X.1, (zs_np X.2.1, zs_nk X.2.1, zs_nl X.2.1, zs_nc X.2.1, zs_ck X.2.1, zs_pn X.2.1, zs_pd X.2.1, zs_pc X.2.1, zs_sh X.2.1, zs_rs X.2.1, zs_lp X.2.1, zs_lk X.2.1, zs_ll X.2.1, zs_ld X.2.1, zs_lc X.2.1, (va_up (zs_tp X.2.1) (zs_nc X.2.1) x), (va_up (zs_tt X.2.1) (zs_nc X.2.1) y), (vp_updL (zs_ta X.2.1) (zs_nc X.2.1) c), zs_td X.2.1), X.2.2) : zs_X) Z M_29 := by rw [eM_29]; exact zs_Rm_ta (X := ((X.1, (zs_np X.2.1, zs_nk X.2.1, zs_nl X.2.1, zs_nc X.2.1, zs_ck X.2.1, zs_pn X.2.1, zs_pd X.2.1, zs_pc X.2.1, zs_sh X.2.1, zs_rs X.2.1, zs_lp X.2.1, zs_lk X.2.1, zs_ll X.2.1, zs_ld X.2.1, zs_lc X.2.1, (va_up (zs_tp X.2.1) (zs_nc X.2.1) x), (va_up (zs_tt X.2.1) (zs_nc X.2.1) y), zs_ta X.2.1, zs_td X.2.1), X.2.2) : zs_X)) hR_19 (vp_updL (zs_ta X.2.1) (zs_nc X.2.1) c)
  refine lv_aload_n hx hb dX6_move_30 rfl (lv_at hl 0 rfl) ?_
  refine zk_get (ci := 6) (v := .ref (Z (8, 15, 0))) (C := RX6) (T := TX6) (N := 20) hx hb hts inw_wsX6_move_6 hown hK hH (hR_29.1 (8, 0, 0) ⟨by decide, rfl⟩) rfl 19 (by decide) (hts (.fieldLink RX6 57 "KegDepositsModel" "changeDays" "[J") (by decide +kernel)) rfl dX6_move_31 ?_
  refine lv_aload_n hx hb dX6_move_34 rfl (lv_at hl 0 rfl) ?_
  refine zk_get (ci := 6) (v := .int (nI (zs_nc X.2.1))) (C := RX6) (T := TX6) (N := 20) hx hb hts inw_wsX6_move_6 hown hK hH (hR_29.1 (8, 0, 0) ⟨by decide, rfl⟩) rfl 15 (by decide) (hts (.fieldLink RX6 75 "KegDepositsModel" "changes" "I") (by decide +kernel)) rfl dX6_move_35 ?_
  refine lv_lload hx hb dX6_move_38 (lv_at hl 4 rfl) ?_
  refine zk_last hx hb hK hH hS (hR_29.1 (8, 15, 0) ⟨by decide, rfl⟩) (vp_in_nI (hnc) (by decide)) dX6_move_40 (fun H locs hH hS => ?_)
  have hH := zk_H_c (e' := zk_aJ g 4100 (vp_updL (zs_td X.2.1) (zs_nc X.2.1) d)) (congrArg (zk_aJ g 4100) (show vp_updL (zs_td X.2.1) (Int32.toNatClampNeg (nI (zs_nc X.2.1))) d = (vp_updL (zs_td X.2.1) (zs_nc X.2.1) d) from (zs_updL (by omega)))) hH
  obtain ⟨M_40, eM_40⟩ : ∃ w_0 : zk_M, w_0 = zk_up M_29 (Z (8, 15, 0)) (zk_aJ g 4100 (vp_updL (zs_td X.2.1) (zs_nc X.2.1) d)) := ⟨_, rfl⟩
  have hH : zk_H g z M_40 H := by rw [eM_40]; exact hH
  have hR_40 : zs_R g ((X.1, (zs_np X.2.1, zs_nk X.2.1, zs_nl X.2.1, zs_nc X.2.1, zs_ck X.2.1, zs_pn X.2.1, zs_pd X.2.1, zs_pc X.2.1, zs_sh X.2.1, zs_rs X.2.1, zs_lp X.2.1, zs_lk X.2.1, zs_ll X.2.1, zs_ld X.2.1, zs_lc X.2.1, (va_up (zs_tp X.2.1) (zs_nc X.2.1) x), (va_up (zs_tt X.2.1) (zs_nc X.2.1) y), (vp_updL (zs_ta X.2.1) (zs_nc X.2.1) c), (vp_updL (zs_td X.2.1) (zs_nc X.2.1) d)), X.2.2) : zs_X) Z M_40 := by rw [eM_40]; exact zs_Rm_td (X := ((X.1, (zs_np X.2.1, zs_nk X.2.1, zs_nl X.2.1, zs_nc X.2.1, zs_ck X.2.1, zs_pn X.2.1, zs_pd X.2.1, zs_pc X.2.1, zs_sh X.2.1, zs_rs X.2.1, zs_lp X.2.1, zs_lk X.2.1, zs_ll X.2.1, zs_ld X.2.1, zs_lc X.2.1, (va_up (zs_tp X.2.1) (zs_nc X.2.1) x), (va_up (zs_tt X.2.1) (zs_nc X.2.1) y), (vp_updL (zs_ta X.2.1) (zs_nc X.2.1) c), zs_td X.2.1), X.2.2) : zs_X)) hR_29 (vp_updL (zs_td X.2.1) (zs_nc X.2.1) d)
  refine lv_aload_n hx hb dX6_move_41 rfl (lv_at hl 0 rfl) ?_
  refine lv_dup hx hb dX6_move_42 rfl ?_
  refine zk_get (ci := 6) (v := .int (nI (zs_nc X.2.1))) (C := RX6) (T := TX6) (N := 20) hx hb hts inw_wsX6_move_6 hown hK hH (hR_40.1 (8, 0, 0) ⟨by decide, rfl⟩) rfl 15 (by decide) (hts (.fieldLink RX6 75 "KegDepositsModel" "changes" "I") (by decide +kernel)) rfl dX6_move_43 ?_
  refine lv_iconst (v := 1) hx hb dX6_move_46 (by decide) ?_
  refine lv_iadd hx hb dX6_move_47 ?_
  refine zk_top (v' := .int (nI (zs_nc X.2.1 + 1))) (by rw [nI_1]) ?_
  refine zk_put (ci := 6) (v := .int (nI (zs_nc X.2.1 + 1))) (C := RX6) (T := TX6) (N := 20) hx hb hts inw_wsX6_move_6 tyX6 tyX6_ok nmX6 hown hK hH hS (hR_40.1 (8, 0, 0) ⟨by decide, rfl⟩) rfl 15 (by decide) (hts (.fieldLink RX6 75 "KegDepositsModel" "changes" "I") (by decide +kernel)) rfl rfl rfl (Nat.le_of_ble_eq_true rfl) dX6_move_48 (fun H locs hH hS => ?_)
  obtain ⟨M_48, eM_48⟩ : ∃ w_0 : zk_M, w_0 = zk_up M_40 (Z (8, 0, 0)) (.inr (6, [.int (nI (zs_np X.2.1)), .int (nI (zs_nk X.2.1)), .long (zs_ck X.2.1), .ref (Z (8, 1, 0)), .ref (Z (8, 2, 0)), .ref (Z (8, 3, 0)), .ref (Z (8, 4, 0)), .ref (Z (8, 5, 0)), .ref (Z (8, 6, 0)), .int (nI (zs_nl X.2.1)), .ref (Z (8, 7, 0)), .ref (Z (8, 8, 0)), .ref (Z (8, 9, 0)), .ref (Z (8, 10, 0)), .ref (Z (8, 11, 0)), .int (nI (zs_nc X.2.1 + 1)), .ref (Z (8, 12, 0)), .ref (Z (8, 13, 0)), .ref (Z (8, 14, 0)), .ref (Z (8, 15, 0))])) := ⟨_, rfl⟩
  have hH : zk_H g z M_48 H := by rw [eM_48]; exact hH
  have hR_48 : zs_R g ((X.1, (zs_np X.2.1, zs_nk X.2.1, zs_nl X.2.1, (zs_nc X.2.1 + 1), zs_ck X.2.1, zs_pn X.2.1, zs_pd X.2.1, zs_pc X.2.1, zs_sh X.2.1, zs_rs X.2.1, zs_lp X.2.1, zs_lk X.2.1, zs_ll X.2.1, zs_ld X.2.1, zs_lc X.2.1, (va_up (zs_tp X.2.1) (zs_nc X.2.1) x), (va_up (zs_tt X.2.1) (zs_nc X.2.1) y), (vp_updL (zs_ta X.2.1) (zs_nc X.2.1) c), (vp_updL (zs_td X.2.1) (zs_nc X.2.1) d)), X.2.2) : zs_X) Z M_48 := by rw [eM_48]; exact zs_Rm_nc (X := ((X.1, (zs_np X.2.1, zs_nk X.2.1, zs_nl X.2.1, zs_nc X.2.1, zs_ck X.2.1, zs_pn X.2.1, zs_pd X.2.1, zs_pc X.2.1, zs_sh X.2.1, zs_rs X.2.1, zs_lp X.2.1, zs_lk X.2.1, zs_ll X.2.1, zs_ld X.2.1, zs_lc X.2.1, (va_up (zs_tp X.2.1) (zs_nc X.2.1) x), (va_up (zs_tt X.2.1) (zs_nc X.2.1) y), (vp_updL (zs_ta X.2.1) (zs_nc X.2.1) c), (vp_updL (zs_td X.2.1) (zs_nc X.2.1) d)), X.2.2) : zs_X)) hR_40 (zs_nc X.2.1 + 1)
  exact zk_vret hx hb hr hlocks hH hS (by decide) (by decide) hR_48 dX6_move_51

theorem inw_wsX6_worth_6 : ∀ w ∈ u_ws RX6 TX6 20, w ∈ wsX6_worth := by decide +kernel
set_option maxHeartbeats 4000000 in
set_option maxRecDepth 100000 in
theorem zc_X6_worth (l : Launch) {g : zk_G} {z : Nat} {M : zk_M} {X : zs_X} {Z : zs_Z} (hR : zs_R g X Z M) (hl1 : zs_nl X.2.1 ≤ 4100) (hbb : ∀ i, i < zs_nl X.2.1 → zs_lp X.2.1 i < 2 ^ 31 ∧ zs_lk X.2.1 i < 2 ^ 31) (hnk : zs_nk X.2.1 ≤ 12) (hpn : ∀ k, zs_pn X.2.1 k ≤ 20) {p : Nat} (hp : p < 2 ^ 31) (d : Int64) : Met l yX6_worth wsX6_worth ({ frames := 1, cells := 0, slots := 0, locals := 30 } : Room) (va_Pc [.ref (Z (8, 0, 0)), .int (nI p), .long d] (zk_U g z M)) (vp_Sl (fun r => r = zs_worth X.2.1 p d)) 0 0 (fun _ => False) := by
  refine Met.ofW (cc := cX6_worth) (maxL := 7) (ret := (some .long)) (by decide) rfl ?_
  intro P0 e0 s m0 args below meth c0 s₁ B hml hv
  obtain ⟨rfl, hH, hK, hN⟩ := hv
  have hx := B.exec
  have hb := B.bytes
  have hr := B.returns
  have hts := atoms_spec (ws := wsX6_worth) B.pre
  have hown : s.vm.findClass RX6 = some m0.cls := findClass_of_methodNamed B.named
  have hlocks := B.notSynchronized
  have hl := lv_entry ([.ref (Z (8, 0, 0)), .int (nI p), .long d]) (n := 7) (Nat.le_of_ble_eq_true rfl)
  rw [lg_entry_eq]
  generalize (lg_sl ([.ref (Z (8, 0, 0)), .int (nI p), .long d]) ++ List.replicate (7 - (lg_sl ([.ref (Z (8, 0, 0)), .int (nI p), .long d])).length) Slot.unset).toArray = ls at hl ⊢
  have hl : lv_has ls 7 [(0, .ref (Z (8, 0, 0))), (1, .int (nI p)), (2, .long d)] := hl
  refine lv_lconst (v := 0) hx hb dX6_worth_0 (by decide) ?_
  refine lv_lstore (lv' := [(4, .long 0), (0, .ref (Z (8, 0, 0))), (1, .int (nI p)), (2, .long d)]) hx hb dX6_worth_1 hl (by decide) rfl (fun ls hl => ?_)
  refine lv_iconst (v := 0) hx hb dX6_worth_3 (by decide) ?_
  refine lv_istore (lv' := [(6, .int 0), (4, .long 0), (0, .ref (Z (8, 0, 0))), (1, .int (nI p)), (2, .long d)]) hx hb dX6_worth_4 hl (by decide) rfl (fun ls hl => ?_)
  have loop_6 : ∀ (n i : Nat) (acc : Int64) (ls : Array Slot), zs_nk X.2.1 - i < n → i ≤ zs_nk X.2.1 → acc = zs_sum (zs_worthf X.2.1 p d) i →  lv_has ls 7 [(6, .int (nI i)), (4, .long acc), (0, .ref (Z (8, 0, 0))), (1, .int (nI p)), (2, .long d)] → W P0 l e0 (headSpec wsX6_worth ({ frames := 1, cells := 0, slots := 0, locals := 30 } : Room)).room s m0 ([.ref (Z (8, 0, 0)), .int (nI p), .long d] : List Value).toArray below meth c0 s.heap [] 0 0 (MQ below (vp_Sl (fun r => r = zs_worth X.2.1 p d)) ([.ref (Z (8, 0, 0)), .int (nI p), .long d] : List Value).toArray s 0 0 (fun _ => False)) (F0 m0 6 ls []) := by
    intro n
    induction n with
    | zero => intro i acc ls hn hi; omega
    | succ n ih =>
      intro i acc ls hn hi hacc hl
      refine lv_iload hx hb dX6_worth_6 (lv_at hl 0 rfl) ?_
      refine lv_aload_n hx hb dX6_worth_8 rfl (lv_at hl 2 rfl) ?_
      refine zk_get (ci := 6) (v := .int (nI (zs_nk X.2.1))) (C := RX6) (T := TX6) (N := 20) hx hb hts inw_wsX6_worth_6 hown hK hH (hR.1 (8, 0, 0) ⟨by decide, rfl⟩) rfl 1 (by decide) (hts (.fieldLink RX6 60 "KegDepositsModel" "kinds" "I") (by decide +kernel)) rfl dX6_worth_9 ?_
      refine lv_icmp_ge (tgt := 41) hx hb dX6_worth_12 (by decide) (fun h_12 => ?_) (fun h_12 => ?_)
      · skip
        have hiN : i = zs_nk X.2.1 := by have := (nI_leI (a := zs_nk X.2.1) (b := i) (by omega) (by omega)).mp h_12; omega
        refine lv_lload hx hb dX6_worth_41 (lv_at hl 1 rfl) ?_
        exact zk_lretS hx hb hr hlocks (by rw [hacc, hiN]; rfl) dX6_worth_43
      · skip
        have hiN : i < zs_nk X.2.1 := Nat.lt_of_not_le (fun q => h_12 ((nI_leI (a := zs_nk X.2.1) (b := i) (by omega) (by omega)).mpr q))
        refine lv_lload hx hb dX6_worth_15 (lv_at hl 1 rfl) ?_
        refine lv_aload_n hx hb dX6_worth_17 rfl (lv_at hl 2 rfl) ?_
        refine lv_iload_n hx hb dX6_worth_18 rfl (lv_at hl 3 rfl) ?_
        refine lv_iload hx hb dX6_worth_19 (lv_at hl 0 rfl) ?_
        refine vp_callSl (W.runV (As := [.int (nI p), .int (nI i)]) (rest := [.long acc]) ⟨hx, hb, hml, hown, hts⟩ (zc_X6_has l hR hl1 hbb hp (k := i) (by omega)) (cwV 2 hts gX6_worth_X6_has rfl rfl rfl (by decide +kernel) ⟨Nat.le_of_ble_eq_true rfl, Nat.le_of_ble_eq_true rfl⟩) (zk_preV hH hK hN (hR.1 (8, 0, 0) ⟨by decide, rfl⟩) rfl) rfl rfl hl.1 rfl (lv_room (Nat.le_of_ble_eq_true rfl)) dX6_worth_21 ⟨(Nat.le_of_ble_eq_true rfl), (Nat.le_of_ble_eq_true rfl)⟩) (fun r_21 hr_21 => ?_)
        refine lv_aload_n hx hb dX6_worth_24 rfl (lv_at hl 2 rfl) ?_
        refine lv_iload hx hb dX6_worth_25 (lv_at hl 0 rfl) ?_
        refine lv_lload_n hx hb dX6_worth_27 rfl (lv_at hl 4 rfl) ?_
        refine vp_callSl (W.runV (As := [.int (nI i), .long d]) (rest := [.long r_21, .long acc]) ⟨hx, hb, hml, hown, hts⟩ (zc_X6_priceOn l hR (k := i) (by omega) (hpn i) d) (cwV 2 hts gX6_worth_X6_priceOn rfl rfl rfl (by decide +kernel) ⟨Nat.le_of_ble_eq_true rfl, Nat.le_of_ble_eq_true rfl⟩) (zk_preV hH hK hN (hR.1 (8, 0, 0) ⟨by decide, rfl⟩) rfl) rfl rfl hl.1 rfl (lv_room (Nat.le_of_ble_eq_true rfl)) dX6_worth_28 ⟨(Nat.le_of_ble_eq_true rfl), (Nat.le_of_ble_eq_true rfl)⟩) (fun r_28 hr_28 => ?_)
        refine lv_lmul hx hb dX6_worth_31 ?_
        refine lv_ladd hx hb dX6_worth_32 ?_
        refine lv_lstore (lv' := [(4, .long (acc + (r_21 * r_28))), (6, .int (nI i)), (0, .ref (Z (8, 0, 0))), (1, .int (nI p)), (2, .long d)]) hx hb dX6_worth_33 hl (by decide) rfl (fun ls hl => ?_)
        refine lv_iinc (v := nI (i + 1)) (lv' := [(6, .int (nI (i + 1))), (4, .long (acc + (r_21 * r_28))), (0, .ref (Z (8, 0, 0))), (1, .int (nI p)), (2, .long d)]) hx hb dX6_worth_35 hl (k := 1) rfl (nI_1 i) (by decide) rfl (fun ls hl => ?_)
        refine lv_goto (tgt := 6) hx hb dX6_worth_38 (by decide) ?_
        exact ih (i + 1) _ ls (by omega) (by omega) (by rw [hacc, hr_21, hr_28]; rfl) (lv_sub hl [0, 1, 2, 3, 4] rfl)
  exact loop_6 (zs_nk X.2.1 + 1) 0 0 ls (by omega) (Nat.zero_le _) rfl (lv_sub hl [0, 1, 2, 3, 4] rfl)
end
