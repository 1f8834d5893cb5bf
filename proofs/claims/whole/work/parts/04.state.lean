/-! The state of one side (the class, or the reference): a tuple; zs_x reads a place, zs_x_ writes it. -/
abbrev zs_S : Type := Nat × Nat × Nat × Nat × Int64 × (Nat → Nat) × (Nat → Int64) × (Nat → Int64) × (Nat → Int64) × (Nat → Int64) × (Nat → Nat) × (Nat → Nat) × (Nat → Int64) × (Nat → Int64) × (Nat → Int64) × (Nat → Nat) × (Nat → Nat) × (Nat → Int64) × (Nat → Int64)
def zs_np (S : zs_S) : Nat := S.1
def zs_nk (S : zs_S) : Nat := S.2.1
def zs_nl (S : zs_S) : Nat := S.2.2.1
def zs_nc (S : zs_S) : Nat := S.2.2.2.1
def zs_ck (S : zs_S) : Int64 := S.2.2.2.2.1
def zs_pn (S : zs_S) : Nat → Nat := S.2.2.2.2.2.1
def zs_pd (S : zs_S) : Nat → Int64 := S.2.2.2.2.2.2.1
def zs_pc (S : zs_S) : Nat → Int64 := S.2.2.2.2.2.2.2.1
def zs_sh (S : zs_S) : Nat → Int64 := S.2.2.2.2.2.2.2.2.1
def zs_rs (S : zs_S) : Nat → Int64 := S.2.2.2.2.2.2.2.2.2.1
def zs_lp (S : zs_S) : Nat → Nat := S.2.2.2.2.2.2.2.2.2.2.1
def zs_lk (S : zs_S) : Nat → Nat := S.2.2.2.2.2.2.2.2.2.2.2.1
def zs_ll (S : zs_S) : Nat → Int64 := S.2.2.2.2.2.2.2.2.2.2.2.2.1
def zs_ld (S : zs_S) : Nat → Int64 := S.2.2.2.2.2.2.2.2.2.2.2.2.2.1
def zs_lc (S : zs_S) : Nat → Int64 := S.2.2.2.2.2.2.2.2.2.2.2.2.2.2.1
def zs_tp (S : zs_S) : Nat → Nat := S.2.2.2.2.2.2.2.2.2.2.2.2.2.2.2.1
def zs_tt (S : zs_S) : Nat → Nat := S.2.2.2.2.2.2.2.2.2.2.2.2.2.2.2.2.1
def zs_ta (S : zs_S) : Nat → Int64 := S.2.2.2.2.2.2.2.2.2.2.2.2.2.2.2.2.2.1
def zs_td (S : zs_S) : Nat → Int64 := S.2.2.2.2.2.2.2.2.2.2.2.2.2.2.2.2.2.2
def zs_np_ (S : zs_S) (v : Nat) : zs_S := (v, S.2.1, S.2.2.1, S.2.2.2.1, S.2.2.2.2.1, S.2.2.2.2.2.1, S.2.2.2.2.2.2.1, S.2.2.2.2.2.2.2.1, S.2.2.2.2.2.2.2.2.1, S.2.2.2.2.2.2.2.2.2.1, S.2.2.2.2.2.2.2.2.2.2.1, S.2.2.2.2.2.2.2.2.2.2.2.1, S.2.2.2.2.2.2.2.2.2.2.2.2.1, S.2.2.2.2.2.2.2.2.2.2.2.2.2.1, S.2.2.2.2.2.2.2.2.2.2.2.2.2.2.1, S.2.2.2.2.2.2.2.2.2.2.2.2.2.2.2.1, S.2.2.2.2.2.2.2.2.2.2.2.2.2.2.2.2.1, S.2.2.2.2.2.2.2.2.2.2.2.2.2.2.2.2.2.1, S.2.2.2.2.2.2.2.2.2.2.2.2.2.2.2.2.2.2)
def zs_nk_ (S : zs_S) (v : Nat) : zs_S := (S.1, v, S.2.2.1, S.2.2.2.1, S.2.2.2.2.1, S.2.2.2.2.2.1, S.2.2.2.2.2.2.1, S.2.2.2.2.2.2.2.1, S.2.2.2.2.2.2.2.2.1, S.2.2.2.2.2.2.2.2.2.1, S.2.2.2.2.2.2.2.2.2.2.1, S.2.2.2.2.2.2.2.2.2.2.2.1, S.2.2.2.2.2.2.2.2.2.2.2.2.1, S.2.2.2.2.2.2.2.2.2.2.2.2.2.1, S.2.2.2.2.2.2.2.2.2.2.2.2.2.2.1, S.2.2.2.2.2.2.2.2.2.2.2.2.2.2.2.1, S.2.2.2.2.2.2.2.2.2.2.2.2.2.2.2.2.1, S.2.2.2.2.2.2.2.2.2.2.2.2.2.2.2.2.2.1, S.2.2.2.2.2.2.2.2.2.2.2.2.2.2.2.2.2.2)
def zs_nl_ (S : zs_S) (v : Nat) : zs_S := (S.1, S.2.1, v, S.2.2.2.1, S.2.2.2.2.1, S.2.2.2.2.2.1, S.2.2.2.2.2.2.1, S.2.2.2.2.2.2.2.1, S.2.2.2.2.2.2.2.2.1, S.2.2.2.2.2.2.2.2.2.1, S.2.2.2.2.2.2.2.2.2.2.1, S.2.2.2.2.2.2.2.2.2.2.2.1, S.2.2.2.2.2.2.2.2.2.2.2.2.1, S.2.2.2.2.2.2.2.2.2.2.2.2.2.1, S.2.2.2.2.2.2.2.2.2.2.2.2.2.2.1, S.2.2.2.2.2.2.2.2.2.2.2.2.2.2.2.1, S.2.2.2.2.2.2.2.2.2.2.2.2.2.2.2.2.1, S.2.2.2.2.2.2.2.2.2.2.2.2.2.2.2.2.2.1, S.2.2.2.2.2.2.2.2.2.2.2.2.2.2.2.2.2.2)
def zs_nc_ (S : zs_S) (v : Nat) : zs_S := (S.1, S.2.1, S.2.2.1, v, S.2.2.2.2.1, S.2.2.2.2.2.1, S.2.2.2.2.2.2.1, S.2.2.2.2.2.2.2.1, S.2.2.2.2.2.2.2.2.1, S.2.2.2.2.2.2.2.2.2.1, S.2.2.2.2.2.2.2.2.2.2.1, S.2.2.2.2.2.2.2.2.2.2.2.1, S.2.2.2.2.2.2.2.2.2.2.2.2.1, S.2.2.2.2.2.2.2.2.2.2.2.2.2.1, S.2.2.2.2.2.2.2.2.2.2.2.2.2.2.1, S.2.2.2.2.2.2.2.2.2.2.2.2.2.2.2.1, S.2.2.2.2.2.2.2.2.2.2.2.2.2.2.2.2.1, S.2.2.2.2.2.2.2.2.2.2.2.2.2.2.2.2.2.1, S.2.2.2.2.2.2.2.2.2.2.2.2.2.2.2.2.2.2)
def zs_ck_ (S : zs_S) (v : Int64) : zs_S := (S.1, S.2.1, S.2.2.1, S.2.2.2.1, v, S.2.2.2.2.2.1, S.2.2.2.2.2.2.1, S.2.2.2.2.2.2.2.1, S.2.2.2.2.2.2.2.2.1, S.2.2.2.2.2.2.2.2.2.1, S.2.2.2.2.2.2.2.2.2.2.1, S.2.2.2.2.2.2.2.2.2.2.2.1, S.2.2.2.2.2.2.2.2.2.2.2.2.1, S.2.2.2.2.2.2.2.2.2.2.2.2.2.1, S.2.2.2.2.2.2.2.2.2.2.2.2.2.2.1, S.2.2.2.2.2.2.2.2.2.2.2.2.2.2.2.1, S.2.2.2.2.2.2.2.2.2.2.2.2.2.2.2.2.1, S.2.2.2.2.2.2.2.2.2.2.2.2.2.2.2.2.2.1, S.2.2.2.2.2.2.2.2.2.2.2.2.2.2.2.2.2.2)
def zs_pn_ (S : zs_S) (v : Nat → Nat) : zs_S := (S.1, S.2.1, S.2.2.1, S.2.2.2.1, S.2.2.2.2.1, v, S.2.2.2.2.2.2.1, S.2.2.2.2.2.2.2.1, S.2.2.2.2.2.2.2.2.1, S.2.2.2.2.2.2.2.2.2.1, S.2.2.2.2.2.2.2.2.2.2.1, S.2.2.2.2.2.2.2.2.2.2.2.1, S.2.2.2.2.2.2.2.2.2.2.2.2.1, S.2.2.2.2.2.2.2.2.2.2.2.2.2.1, S.2.2.2.2.2.2.2.2.2.2.2.2.2.2.1, S.2.2.2.2.2.2.2.2.2.2.2.2.2.2.2.1, S.2.2.2.2.2.2.2.2.2.2.2.2.2.2.2.2.1, S.2.2.2.2.2.2.2.2.2.2.2.2.2.2.2.2.2.1, S.2.2.2.2.2.2.2.2.2.2.2.2.2.2.2.2.2.2)
def zs_pd_ (S : zs_S) (v : Nat → Int64) : zs_S := (S.1, S.2.1, S.2.2.1, S.2.2.2.1, S.2.2.2.2.1, S.2.2.2.2.2.1, v, S.2.2.2.2.2.2.2.1, S.2.2.2.2.2.2.2.2.1, S.2.2.2.2.2.2.2.2.2.1, S.2.2.2.2.2.2.2.2.2.2.1, S.2.2.2.2.2.2.2.2.2.2.2.1, S.2.2.2.2.2.2.2.2.2.2.2.2.1, S.2.2.2.2.2.2.2.2.2.2.2.2.2.1, S.2.2.2.2.2.2.2.2.2.2.2.2.2.2.1, S.2.2.2.2.2.2.2.2.2.2.2.2.2.2.2.1, S.2.2.2.2.2.2.2.2.2.2.2.2.2.2.2.2.1, S.2.2.2.2.2.2.2.2.2.2.2.2.2.2.2.2.2.1, S.2.2.2.2.2.2.2.2.2.2.2.2.2.2.2.2.2.2)
def zs_pc_ (S : zs_S) (v : Nat → Int64) : zs_S := (S.1, S.2.1, S.2.2.1, S.2.2.2.1, S.2.2.2.2.1, S.2.2.2.2.2.1, S.2.2.2.2.2.2.1, v, S.2.2.2.2.2.2.2.2.1, S.2.2.2.2.2.2.2.2.2.1, S.2.2.2.2.2.2.2.2.2.2.1, S.2.2.2.2.2.2.2.2.2.2.2.1, S.2.2.2.2.2.2.2.2.2.2.2.2.1, S.2.2.2.2.2.2.2.2.2.2.2.2.2.1, S.2.2.2.2.2.2.2.2.2.2.2.2.2.2.1, S.2.2.2.2.2.2.2.2.2.2.2.2.2.2.2.1, S.2.2.2.2.2.2.2.2.2.2.2.2.2.2.2.2.1, S.2.2.2.2.2.2.2.2.2.2.2.2.2.2.2.2.2.1, S.2.2.2.2.2.2.2.2.2.2.2.2.2.2.2.2.2.2)
def zs_sh_ (S : zs_S) (v : Nat → Int64) : zs_S := (S.1, S.2.1, S.2.2.1, S.2.2.2.1, S.2.2.2.2.1, S.2.2.2.2.2.1, S.2.2.2.2.2.2.1, S.2.2.2.2.2.2.2.1, v, S.2.2.2.2.2.2.2.2.2.1, S.2.2.2.2.2.2.2.2.2.2.1, S.2.2.2.2.2.2.2.2.2.2.2.1, S.2.2.2.2.2.2.2.2.2.2.2.2.1, S.2.2.2.2.2.2.2.2.2.2.2.2.2.1, S.2.2.2.2.2.2.2.2.2.2.2.2.2.2.1, S.2.2.2.2.2.2.2.2.2.2.2.2.2.2.2.1, S.2.2.2.2.2.2.2.2.2.2.2.2.2.2.2.2.1, S.2.2.2.2.2.2.2.2.2.2.2.2.2.2.2.2.2.1, S.2.2.2.2.2.2.2.2.2.2.2.2.2.2.2.2.2.2)
def zs_rs_ (S : zs_S) (v : Nat → Int64) : zs_S := (S.1, S.2.1, S.2.2.1, S.2.2.2.1, S.2.2.2.2.1, S.2.2.2.2.2.1, S.2.2.2.2.2.2.1, S.2.2.2.2.2.2.2.1, S.2.2.2.2.2.2.2.2.1, v, S.2.2.2.2.2.2.2.2.2.2.1, S.2.2.2.2.2.2.2.2.2.2.2.1, S.2.2.2.2.2.2.2.2.2.2.2.2.1, S.2.2.2.2.2.2.2.2.2.2.2.2.2.1, S.2.2.2.2.2.2.2.2.2.2.2.2.2.2.1, S.2.2.2.2.2.2.2.2.2.2.2.2.2.2.2.1, S.2.2.2.2.2.2.2.2.2.2.2.2.2.2.2.2.1, S.2.2.2.2.2.2.2.2.2.2.2.2.2.2.2.2.2.1, S.2.2.2.2.2.2.2.2.2.2.2.2.2.2.2.2.2.2)
def zs_lp_ (S : zs_S) (v : Nat → Nat) : zs_S := (S.1, S.2.1, S.2.2.1, S.2.2.2.1, S.2.2.2.2.1, S.2.2.2.2.2.1, S.2.2.2.2.2.2.1, S.2.2.2.2.2.2.2.1, S.2.2.2.2.2.2.2.2.1, S.2.2.2.2.2.2.2.2.2.1, v, S.2.2.2.2.2.2.2.2.2.2.2.1, S.2.2.2.2.2.2.2.2.2.2.2.2.1, S.2.2.2.2.2.2.2.2.2.2.2.2.2.1, S.2.2.2.2.2.2.2.2.2.2.2.2.2.2.1, S.2.2.2.2.2.2.2.2.2.2.2.2.2.2.2.1, S.2.2.2.2.2.2.2.2.2.2.2.2.2.2.2.2.1, S.2.2.2.2.2.2.2.2.2.2.2.2.2.2.2.2.2.1, S.2.2.2.2.2.2.2.2.2.2.2.2.2.2.2.2.2.2)
def zs_lk_ (S : zs_S) (v : Nat → Nat) : zs_S := (S.1, S.2.1, S.2.2.1, S.2.2.2.1, S.2.2.2.2.1, S.2.2.2.2.2.1, S.2.2.2.2.2.2.1, S.2.2.2.2.2.2.2.1, S.2.2.2.2.2.2.2.2.1, S.2.2.2.2.2.2.2.2.2.1, S.2.2.2.2.2.2.2.2.2.2.1, v, S.2.2.2.2.2.2.2.2.2.2.2.2.1, S.2.2.2.2.2.2.2.2.2.2.2.2.2.1, S.2.2.2.2.2.2.2.2.2.2.2.2.2.2.1, S.2.2.2.2.2.2.2.2.2.2.2.2.2.2.2.1, S.2.2.2.2.2.2.2.2.2.2.2.2.2.2.2.2.1, S.2.2.2.2.2.2.2.2.2.2.2.2.2.2.2.2.2.1, S.2.2.2.2.2.2.2.2.2.2.2.2.2.2.2.2.2.2)
def zs_ll_ (S : zs_S) (v : Nat → Int64) : zs_S := (S.1, S.2.1, S.2.2.1, S.2.2.2.1, S.2.2.2.2.1, S.2.2.2.2.2.1, S.2.2.2.2.2.2.1, S.2.2.2.2.2.2.2.1, S.2.2.2.2.2.2.2.2.1, S.2.2.2.2.2.2.2.2.2.1, S.2.2.2.2.2.2.2.2.2.2.1, S.2.2.2.2.2.2.2.2.2.2.2.1, v, S.2.2.2.2.2.2.2.2.2.2.2.2.2.1, S.2.2.2.2.2.2.2.2.2.2.2.2.2.2.1, S.2.2.2.2.2.2.2.2.2.2.2.2.2.2.2.1, S.2.2.2.2.2.2.2.2.2.2.2.2.2.2.2.2.1, S.2.2.2.2.2.2.2.2.2.2.2.2.2.2.2.2.2.1, S.2.2.2.2.2.2.2.2.2.2.2.2.2.2.2.2.2.2)
def zs_ld_ (S : zs_S) (v : Nat → Int64) : zs_S := (S.1, S.2.1, S.2.2.1, S.2.2.2.1, S.2.2.2.2.1, S.2.2.2.2.2.1, S.2.2.2.2.2.2.1, S.2.2.2.2.2.2.2.1, S.2.2.2.2.2.2.2.2.1, S.2.2.2.2.2.2.2.2.2.1, S.2.2.2.2.2.2.2.2.2.2.1, S.2.2.2.2.2.2.2.2.2.2.2.1, S.2.2.2.2.2.2.2.2.2.2.2.2.1, v, S.2.2.2.2.2.2.2.2.2.2.2.2.2.2.1, S.2.2.2.2.2.2.2.2.2.2.2.2.2.2.2.1, S.2.2.2.2.2.2.2.2.2.2.2.2.2.2.2.2.1, S.2.2.2.2.2.2.2.2.2.2.2.2.2.2.2.2.2.1, S.2.2.2.2.2.2.2.2.2.2.2.2.2.2.2.2.2.2)
def zs_lc_ (S : zs_S) (v : Nat → Int64) : zs_S := (S.1, S.2.1, S.2.2.1, S.2.2.2.1, S.2.2.2.2.1, S.2.2.2.2.2.1, S.2.2.2.2.2.2.1, S.2.2.2.2.2.2.2.1, S.2.2.2.2.2.2.2.2.1, S.2.2.2.2.2.2.2.2.2.1, S.2.2.2.2.2.2.2.2.2.2.1, S.2.2.2.2.2.2.2.2.2.2.2.1, S.2.2.2.2.2.2.2.2.2.2.2.2.1, S.2.2.2.2.2.2.2.2.2.2.2.2.2.1, v, S.2.2.2.2.2.2.2.2.2.2.2.2.2.2.2.1, S.2.2.2.2.2.2.2.2.2.2.2.2.2.2.2.2.1, S.2.2.2.2.2.2.2.2.2.2.2.2.2.2.2.2.2.1, S.2.2.2.2.2.2.2.2.2.2.2.2.2.2.2.2.2.2)
def zs_tp_ (S : zs_S) (v : Nat → Nat) : zs_S := (S.1, S.2.1, S.2.2.1, S.2.2.2.1, S.2.2.2.2.1, S.2.2.2.2.2.1, S.2.2.2.2.2.2.1, S.2.2.2.2.2.2.2.1, S.2.2.2.2.2.2.2.2.1, S.2.2.2.2.2.2.2.2.2.1, S.2.2.2.2.2.2.2.2.2.2.1, S.2.2.2.2.2.2.2.2.2.2.2.1, S.2.2.2.2.2.2.2.2.2.2.2.2.1, S.2.2.2.2.2.2.2.2.2.2.2.2.2.1, S.2.2.2.2.2.2.2.2.2.2.2.2.2.2.1, v, S.2.2.2.2.2.2.2.2.2.2.2.2.2.2.2.2.1, S.2.2.2.2.2.2.2.2.2.2.2.2.2.2.2.2.2.1, S.2.2.2.2.2.2.2.2.2.2.2.2.2.2.2.2.2.2)
def zs_tt_ (S : zs_S) (v : Nat → Nat) : zs_S := (S.1, S.2.1, S.2.2.1, S.2.2.2.1, S.2.2.2.2.1, S.2.2.2.2.2.1, S.2.2.2.2.2.2.1, S.2.2.2.2.2.2.2.1, S.2.2.2.2.2.2.2.2.1, S.2.2.2.2.2.2.2.2.2.1, S.2.2.2.2.2.2.2.2.2.2.1, S.2.2.2.2.2.2.2.2.2.2.2.1, S.2.2.2.2.2.2.2.2.2.2.2.2.1, S.2.2.2.2.2.2.2.2.2.2.2.2.2.1, S.2.2.2.2.2.2.2.2.2.2.2.2.2.2.1, S.2.2.2.2.2.2.2.2.2.2.2.2.2.2.2.1, v, S.2.2.2.2.2.2.2.2.2.2.2.2.2.2.2.2.2.1, S.2.2.2.2.2.2.2.2.2.2.2.2.2.2.2.2.2.2)
def zs_ta_ (S : zs_S) (v : Nat → Int64) : zs_S := (S.1, S.2.1, S.2.2.1, S.2.2.2.1, S.2.2.2.2.1, S.2.2.2.2.2.1, S.2.2.2.2.2.2.1, S.2.2.2.2.2.2.2.1, S.2.2.2.2.2.2.2.2.1, S.2.2.2.2.2.2.2.2.2.1, S.2.2.2.2.2.2.2.2.2.2.1, S.2.2.2.2.2.2.2.2.2.2.2.1, S.2.2.2.2.2.2.2.2.2.2.2.2.1, S.2.2.2.2.2.2.2.2.2.2.2.2.2.1, S.2.2.2.2.2.2.2.2.2.2.2.2.2.2.1, S.2.2.2.2.2.2.2.2.2.2.2.2.2.2.2.1, S.2.2.2.2.2.2.2.2.2.2.2.2.2.2.2.2.1, v, S.2.2.2.2.2.2.2.2.2.2.2.2.2.2.2.2.2.2)
def zs_td_ (S : zs_S) (v : Nat → Int64) : zs_S := (S.1, S.2.1, S.2.2.1, S.2.2.2.1, S.2.2.2.2.1, S.2.2.2.2.2.1, S.2.2.2.2.2.2.1, S.2.2.2.2.2.2.2.1, S.2.2.2.2.2.2.2.2.1, S.2.2.2.2.2.2.2.2.2.1, S.2.2.2.2.2.2.2.2.2.2.1, S.2.2.2.2.2.2.2.2.2.2.2.1, S.2.2.2.2.2.2.2.2.2.2.2.2.1, S.2.2.2.2.2.2.2.2.2.2.2.2.2.1, S.2.2.2.2.2.2.2.2.2.2.2.2.2.2.1, S.2.2.2.2.2.2.2.2.2.2.2.2.2.2.2.1, S.2.2.2.2.2.2.2.2.2.2.2.2.2.2.2.2.1, S.2.2.2.2.2.2.2.2.2.2.2.2.2.2.2.2.2.1, v)
theorem zs_eta (S : zs_S) : S = (zs_np S, zs_nk S, zs_nl S, zs_nc S, zs_ck S, zs_pn S, zs_pd S, zs_pc S, zs_sh S, zs_rs S, zs_lp S, zs_lk S, zs_ll S, zs_ld S, zs_lc S, zs_tp S, zs_tt S, zs_ta S, zs_td S) := rfl
abbrev zs_L : Type := Nat × Nat × Nat
abbrev zs_Z : Type := zs_L → Nat
/-- both sides, and the reference's scratch row -/
abbrev zs_X : Type := zs_S × zs_S × (Nat → Int64)
/-- the first place from a on, n places long, where lp is p -/
def zs_fst (lp : Nat → Nat) (p a : Nat) : Nat → Option Nat
  | 0 => none
  | n + 1 => if lp a = p then some a else zs_fst lp p (a + 1) n
/-- the last place below n where lp is p -/
def zs_lst (lp : Nat → Nat) (p : Nat) : Nat → Option Nat
  | 0 => none
  | n + 1 => if lp n = p then some n else zs_lst lp p n
/-- the first layer of party p from place a on -/
def zs_nx (S : zs_S) (p a : Nat) : Option Nat := zs_fst (zs_lp S) p a (zs_nl S - a)
def zs_prev (n : Nat) (f : Nat → Nat) : Option Nat := match n with
  | 0 => none
  | k + 1 => some (f k)
def zs_ok (X : zs_X) (q : zs_L) : Prop := match q with
  | (0, i, j) => i = 0 ∧ j = 0
  | (1, i, j) => i = 0 ∧ j = 0
  | (2, i, j) => i = 0 ∧ j = 0
  | (3, p, j) => p < zs_np X.1 ∧ j = 0
  | (4, k, j) => k < zs_nk X.1 ∧ j = 0
  | (5, k, j) => k < zs_nk X.1 ∧ j < zs_pn X.1 k
  | (6, i, j) => i < zs_nl X.1 ∧ j = 0
  | (7, i, j) => i < zs_nc X.1 ∧ j = 0
  | (8, i, j) => i < 16 ∧ j = 0
  | _ => False
def zs_mod (g : zk_G) (D : zs_S) (ps : Nat → Int64) (Z : zs_Z) (j : Nat) : va_E := match j with
  | 0 => .inr (6, [.int (nI (zs_np D)), .int (nI (zs_nk D)), .long (zs_ck D), .ref (Z (8, 1, 0)), .ref (Z (8, 2, 0)), .ref (Z (8, 3, 0)), .ref (Z (8, 4, 0)), .ref (Z (8, 5, 0)), .ref (Z (8, 6, 0)), .int (nI (zs_nl D)), .ref (Z (8, 7, 0)), .ref (Z (8, 8, 0)), .ref (Z (8, 9, 0)), .ref (Z (8, 10, 0)), .ref (Z (8, 11, 0)), .int (nI (zs_nc D)), .ref (Z (8, 12, 0)), .ref (Z (8, 13, 0)), .ref (Z (8, 14, 0)), .ref (Z (8, 15, 0))])
  | 1 => zk_aJ g 240 (zs_pd D)
  | 2 => zk_aJ g 240 (zs_pc D)
  | 3 => zk_aI g 12 (fun k => nI (zs_pn D k))
  | 4 => zk_aJ g 12 (zs_sh D)
  | 5 => zk_aJ g 12 (zs_rs D)
  | 6 => zk_aJ g 12 ps
  | 7 => zk_aI g 4100 (fun i => nI (zs_lp D i))
  | 8 => zk_aI g 4100 (fun i => nI (zs_lk D i))
  | 9 => zk_aJ g 4100 (zs_ll D)
  | 10 => zk_aJ g 4100 (zs_ld D)
  | 11 => zk_aJ g 4100 (zs_lc D)
  | 12 => zk_aI g 4100 (fun i => nI (zs_tt D i))
  | 13 => zk_aI g 4100 (fun i => nI (zs_tp D i))
  | 14 => zk_aJ g 4100 (zs_ta D)
  | _ => zk_aJ g 4100 (zs_td D)
/-- what the cell of a label holds -/
def zs_cont (g : zk_G) (X : zs_X) (Z : zs_Z) (q : zs_L) : va_E := match q with
  | (0, _, _) => .inr (5, [.ref (Z (3, 0, 0)), .ref (Z (1, 0, 0)), .ref (Z (2, 0, 0)), va_rf (zs_prev (zs_nc X.1) (fun i => Z (7, i, 0))), .int (nI (zs_nc X.1)), .long (zs_ck X.1)])
  | (1, _, _) => zk_aP g 24 (fun p => if p < zs_np X.1 then some (Z (3, p, 0)) else none)
  | (2, _, _) => zk_aQ g 12 (fun k => if k < zs_nk X.1 then some (Z (4, k, 0)) else none)
  | (3, p, _) => .inr (2, [va_rf ((zs_nx X.1 p 0).map (fun i => Z (6, i, 0))), va_rf ((zs_lst (zs_lp X.1) p (zs_nl X.1)).map (fun i => Z (6, i, 0)))])
  | (4, k, _) => .inr (0, [va_rf (zs_prev (zs_pn X.1 k) (fun j => Z (5, k, j))), .long (zs_sh X.1 k), .long (zs_rs X.1 k)])
  | (5, k, j) => .inr (3, [.long (zs_pd X.1 (20 * k + j)), va_rf (zs_prev j (fun j => Z (5, k, j))), .long (zs_pc X.1 (20 * k + j))])
  | (6, i, _) => .inr (1, [.ref (Z (4, zs_lk X.1 i, 0)), .long (zs_ld X.1 i), .long (zs_lc X.1 i), .long (zs_ll X.1 i), va_rf ((zs_nx X.1 (zs_lp X.1 i) (i + 1)).map (fun i => Z (6, i, 0)))])
  | (7, i, _) => .inr (4, [.long (zs_td X.1 i), .long (zs_ta X.1 i), .ref (Z (3, zs_tp X.1 i, 0)), .ref (Z (3, zs_tt X.1 i, 0)), va_rf (zs_prev i (fun i => Z (7, i, 0)))])
  | (8, j, _) => zs_mod g X.2.1 X.2.2 Z j
  | _ => .inr (0, [])
/-- the heap's picture holds the state -/
def zs_R (g : zk_G) (X : zs_X) (Z : zs_Z) (M : zk_M) : Prop := (∀ q, zs_ok X q → M (Z q) = some (zs_cont g X Z q)) ∧ ∀ q r, zs_ok X q → zs_ok X r → Z q = Z r → q = r
/-- bounds that hold between calls -/
def zs_Ib (S : zs_S) (n : Nat) : Prop := 1 ≤ zs_np S ∧ zs_np S ≤ 24 ∧ zs_nk S ≤ 12 ∧ zs_nl S ≤ n ∧ zs_nc S ≤ n ∧ 0 ≤ zs_ck S ∧ zs_ck S ≤ 100000
def zs_Ik (S : zs_S) : Prop := (∀ k, zs_pn S k ≤ 20) ∧ (∀ k, zs_nk S ≤ k → zs_pn S k = 0 ∧ zs_sh S k = 0 ∧ zs_rs S k = 0) ∧ (∀ k, 0 ≤ zs_sh S k ∧ zs_sh S k ≤ 10000 ∧ 0 ≤ zs_rs S k ∧ zs_rs S k < 10000) ∧ (∀ k j, j < zs_pn S k → 0 ≤ zs_pd S (20 * k + j)) ∧ ∀ k i j, i < zs_pn S k → j < zs_pn S k → zs_pd S (20 * k + i) = zs_pd S (20 * k + j) → i = j
def zs_cnt (ll : Nat → Int64) : Nat → Nat
  | 0 => 0
  | n + 1 => zs_cnt ll n + (if 0 < ll n then 1 else 0)
def zs_Il (S : zs_S) : Prop := (∀ i, i < zs_nl S → zs_lp S i < zs_np S ∧ zs_lk S i < zs_nk S ∧ 0 ≤ zs_ld S i ∧ zs_ld S i ≤ 100000 ∧ 0 ≤ zs_ll S i ∧ zs_ll S i ≤ 100000) ∧ zs_cnt (zs_ll S) (zs_nl S) ≤ 400
def zs_It (S : zs_S) : Prop := ∀ i, i < zs_nc S → zs_tp S i < zs_np S ∧ zs_tt S i < zs_np S ∧ zs_tp S i ≠ zs_tt S i
def zs_I (S : zs_S) (n : Nat) : Prop := zs_Ib S n ∧ zs_Ik S ∧ zs_Il S ∧ zs_It S
theorem zs_fst_none {lp : Nat → Nat} {p : Nat} : ∀ {n a : Nat}, zs_fst lp p a n = none → ∀ j, a ≤ j → j < a + n → lp j ≠ p := by
  intro n
  induction n with
  | zero => intro a _ j h1 h2; omega
  | succ n ih =>
    intro a h j h1 h2
    unfold zs_fst at h
    split at h
    · cases h
    · rename_i hne
      rcases Nat.eq_or_lt_of_le h1 with q | q
      · subst q; exact hne
      · exact ih h j q (by omega)
theorem zs_fst_some {lp : Nat → Nat} {p : Nat} : ∀ {n a i : Nat}, zs_fst lp p a n = some i → a ≤ i ∧ i < a + n ∧ lp i = p ∧ ∀ j, a ≤ j → j < i → lp j ≠ p := by
  intro n
  induction n with
  | zero => intro a i h; cases h
  | succ n ih =>
    intro a i h
    unfold zs_fst at h
    split at h
    · rename_i he
      cases h
      exact ⟨Nat.le_refl _, by omega, he, fun j h1 h2 => by omega⟩
    · rename_i hne
      obtain ⟨h1, h2, h3, h4⟩ := ih h
      refine ⟨by omega, by omega, h3, fun j g1 g2 => ?_⟩
      rcases Nat.eq_or_lt_of_le g1 with q | q
      · subst q; exact hne
      · exact h4 j q g2
theorem zs_nx_none {S : zs_S} {p a : Nat} (h : zs_nx S p a = none) : ∀ j, a ≤ j → j < zs_nl S → zs_lp S j ≠ p := fun j h1 h2 => zs_fst_none h j h1 (by omega)
theorem zs_nx_some {S : zs_S} {p a i : Nat} (h : zs_nx S p a = some i) : a ≤ i ∧ i < zs_nl S ∧ zs_lp S i = p ∧ ∀ j, a ≤ j → j < i → zs_lp S j ≠ p := by
  obtain ⟨h1, h2, h3, h4⟩ := zs_fst_some h
  exact ⟨h1, by omega, h3, h4⟩
/-- a fold over the places below n -/
def zs_sum (f : Nat → Int64) : Nat → Int64
  | 0 => 0
  | n + 1 => zs_sum f n + f n
theorem zs_sum_skip {f : Nat → Int64} {a : Nat} : ∀ (d : Nat), (∀ j, a ≤ j → j < a + d → f j = 0) → zs_sum f (a + d) = zs_sum f a := by
  intro d
  induction d with
  | zero => intro _; rfl
  | succ d ih =>
    intro h
    show zs_sum f (a + d) + f (a + d) = _
    rw [ih (fun j h1 h2 => h j h1 (by omega)), h (a + d) (by omega) (by omega)]
    simp
theorem zs_sum_to {f : Nat → Int64} {a b : Nat} (hab : a ≤ b) (h : ∀ j, a ≤ j → j < b → f j = 0) : zs_sum f b = zs_sum f a := by
  obtain ⟨d, rfl⟩ := Nat.exists_eq_add_of_le hab
  exact zs_sum_skip d h
theorem zs_sum_congr {f g : Nat → Int64} : ∀ (n : Nat), (∀ j, j < n → f j = g j) → zs_sum f n = zs_sum g n := by
  intro n
  induction n with
  | zero => intro _; rfl
  | succ n ih => intro h; show zs_sum f n + f n = zs_sum g n + g n; rw [ih (fun j q => h j (by omega)), h n (by omega)]
/-- pieces of a kind of a party that went out on a day or before it -/
def zs_pupf (S : zs_S) (p k : Nat) (d : Int64) (i : Nat) : Int64 := if zs_lp S i = p ∧ zs_lk S i = k ∧ zs_ld S i ≤ d then zs_ll S i else 0
def zs_pup (S : zs_S) (p k : Nat) (d : Int64) : Int64 := zs_sum (zs_pupf S p k d) (zs_nl S)
def zs_hasf (S : zs_S) (p k : Nat) (i : Nat) : Int64 := if zs_lp S i = p ∧ zs_lk S i = k then zs_ll S i else 0
def zs_has (S : zs_S) (p k : Nat) : Int64 := zs_sum (zs_hasf S p k) (zs_nl S)
theorem zs_pup_has {S : zs_S} (hI : zs_Il S) (p k : Nat) : zs_pup S p k 100000 = zs_has S p k := by
  refine zs_sum_congr _ fun j hj => ?_
  have h := (hI.1 j hj).2.2.2.1
  simp only [zs_pupf, zs_hasf, h, and_true]
