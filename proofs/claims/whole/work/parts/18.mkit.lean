theorem zs_Rm_np {g : zk_G} {X : zs_X} {Z : zs_Z} {M : zk_M} (hR : zs_R g X Z M) (v : Nat) : zs_R g (X.1, zs_np_ X.2.1 v, X.2.2) Z (zk_up M (Z (8, 0, 0)) (.inr (6, [.int (nI (v)), .int (nI (zs_nk X.2.1)), .long (zs_ck X.2.1), .ref (Z (8, 1, 0)), .ref (Z (8, 2, 0)), .ref (Z (8, 3, 0)), .ref (Z (8, 4, 0)), .ref (Z (8, 5, 0)), .ref (Z (8, 6, 0)), .int (nI (zs_nl X.2.1)), .ref (Z (8, 7, 0)), .ref (Z (8, 8, 0)), .ref (Z (8, 9, 0)), .ref (Z (8, 10, 0)), .ref (Z (8, 11, 0)), .int (nI (zs_nc X.2.1)), .ref (Z (8, 12, 0)), .ref (Z (8, 13, 0)), .ref (Z (8, 14, 0)), .ref (Z (8, 15, 0))]))) := by
  refine zs_R_mod hR (zs_np_ X.2.1 v) (X.2.2) 0 (by decide) (fun i hi hne => ?_) rfl
  match i, hi with
  | 0, _ => exact absurd rfl hne
  | 1, _ => rfl
  | 2, _ => rfl
  | 3, _ => rfl
  | 4, _ => rfl
  | 5, _ => rfl
  | 6, _ => rfl
  | 7, _ => rfl
  | 8, _ => rfl
  | 9, _ => rfl
  | 10, _ => rfl
  | 11, _ => rfl
  | 12, _ => rfl
  | 13, _ => rfl
  | 14, _ => rfl
  | 15, _ => rfl
  | n + 16, hn => exact absurd hn (by omega)
theorem zs_Rm_nk {g : zk_G} {X : zs_X} {Z : zs_Z} {M : zk_M} (hR : zs_R g X Z M) (v : Nat) : zs_R g (X.1, zs_nk_ X.2.1 v, X.2.2) Z (zk_up M (Z (8, 0, 0)) (.inr (6, [.int (nI (zs_np X.2.1)), .int (nI (v)), .long (zs_ck X.2.1), .ref (Z (8, 1, 0)), .ref (Z (8, 2, 0)), .ref (Z (8, 3, 0)), .ref (Z (8, 4, 0)), .ref (Z (8, 5, 0)), .ref (Z (8, 6, 0)), .int (nI (zs_nl X.2.1)), .ref (Z (8, 7, 0)), .ref (Z (8, 8, 0)), .ref (Z (8, 9, 0)), .ref (Z (8, 10, 0)), .ref (Z (8, 11, 0)), .int (nI (zs_nc X.2.1)), .ref (Z (8, 12, 0)), .ref (Z (8, 13, 0)), .ref (Z (8, 14, 0)), .ref (Z (8, 15, 0))]))) := by
  refine zs_R_mod hR (zs_nk_ X.2.1 v) (X.2.2) 0 (by decide) (fun i hi hne => ?_) rfl
  match i, hi with
  | 0, _ => exact absurd rfl hne
  | 1, _ => rfl
  | 2, _ => rfl
  | 3, _ => rfl
  | 4, _ => rfl
  | 5, _ => rfl
  | 6, _ => rfl
  | 7, _ => rfl
  | 8, _ => rfl
  | 9, _ => rfl
  | 10, _ => rfl
  | 11, _ => rfl
  | 12, _ => rfl
  | 13, _ => rfl
  | 14, _ => rfl
  | 15, _ => rfl
  | n + 16, hn => exact absurd hn (by omega)
theorem zs_Rm_nl {g : zk_G} {X : zs_X} {Z : zs_Z} {M : zk_M} (hR : zs_R g X Z M) (v : Nat) : zs_R g (X.1, zs_nl_ X.2.1 v, X.2.2) Z (zk_up M (Z (8, 0, 0)) (.inr (6, [.int (nI (zs_np X.2.1)), .int (nI (zs_nk X.2.1)), .long (zs_ck X.2.1), .ref (Z (8, 1, 0)), .ref (Z (8, 2, 0)), .ref (Z (8, 3, 0)), .ref (Z (8, 4, 0)), .ref (Z (8, 5, 0)), .ref (Z (8, 6, 0)), .int (nI (v)), .ref (Z (8, 7, 0)), .ref (Z (8, 8, 0)), .ref (Z (8, 9, 0)), .ref (Z (8, 10, 0)), .ref (Z (8, 11, 0)), .int (nI (zs_nc X.2.1)), .ref (Z (8, 12, 0)), .ref (Z (8, 13, 0)), .ref (Z (8, 14, 0)), .ref (Z (8, 15, 0))]))) := by
  refine zs_R_mod hR (zs_nl_ X.2.1 v) (X.2.2) 0 (by decide) (fun i hi hne => ?_) rfl
  match i, hi with
  | 0, _ => exact absurd rfl hne
  | 1, _ => rfl
  | 2, _ => rfl
  | 3, _ => rfl
  | 4, _ => rfl
  | 5, _ => rfl
  | 6, _ => rfl
  | 7, _ => rfl
  | 8, _ => rfl
  | 9, _ => rfl
  | 10, _ => rfl
  | 11, _ => rfl
  | 12, _ => rfl
  | 13, _ => rfl
  | 14, _ => rfl
  | 15, _ => rfl
  | n + 16, hn => exact absurd hn (by omega)
theorem zs_Rm_nc {g : zk_G} {X : zs_X} {Z : zs_Z} {M : zk_M} (hR : zs_R g X Z M) (v : Nat) : zs_R g (X.1, zs_nc_ X.2.1 v, X.2.2) Z (zk_up M (Z (8, 0, 0)) (.inr (6, [.int (nI (zs_np X.2.1)), .int (nI (zs_nk X.2.1)), .long (zs_ck X.2.1), .ref (Z (8, 1, 0)), .ref (Z (8, 2, 0)), .ref (Z (8, 3, 0)), .ref (Z (8, 4, 0)), .ref (Z (8, 5, 0)), .ref (Z (8, 6, 0)), .int (nI (zs_nl X.2.1)), .ref (Z (8, 7, 0)), .ref (Z (8, 8, 0)), .ref (Z (8, 9, 0)), .ref (Z (8, 10, 0)), .ref (Z (8, 11, 0)), .int (nI (v)), .ref (Z (8, 12, 0)), .ref (Z (8, 13, 0)), .ref (Z (8, 14, 0)), .ref (Z (8, 15, 0))]))) := by
  refine zs_R_mod hR (zs_nc_ X.2.1 v) (X.2.2) 0 (by decide) (fun i hi hne => ?_) rfl
  match i, hi with
  | 0, _ => exact absurd rfl hne
  | 1, _ => rfl
  | 2, _ => rfl
  | 3, _ => rfl
  | 4, _ => rfl
  | 5, _ => rfl
  | 6, _ => rfl
  | 7, _ => rfl
  | 8, _ => rfl
  | 9, _ => rfl
  | 10, _ => rfl
  | 11, _ => rfl
  | 12, _ => rfl
  | 13, _ => rfl
  | 14, _ => rfl
  | 15, _ => rfl
  | n + 16, hn => exact absurd hn (by omega)
theorem zs_Rm_ck {g : zk_G} {X : zs_X} {Z : zs_Z} {M : zk_M} (hR : zs_R g X Z M) (v : Int64) : zs_R g (X.1, zs_ck_ X.2.1 v, X.2.2) Z (zk_up M (Z (8, 0, 0)) (.inr (6, [.int (nI (zs_np X.2.1)), .int (nI (zs_nk X.2.1)), .long (v), .ref (Z (8, 1, 0)), .ref (Z (8, 2, 0)), .ref (Z (8, 3, 0)), .ref (Z (8, 4, 0)), .ref (Z (8, 5, 0)), .ref (Z (8, 6, 0)), .int (nI (zs_nl X.2.1)), .ref (Z (8, 7, 0)), .ref (Z (8, 8, 0)), .ref (Z (8, 9, 0)), .ref (Z (8, 10, 0)), .ref (Z (8, 11, 0)), .int (nI (zs_nc X.2.1)), .ref (Z (8, 12, 0)), .ref (Z (8, 13, 0)), .ref (Z (8, 14, 0)), .ref (Z (8, 15, 0))]))) := by
  refine zs_R_mod hR (zs_ck_ X.2.1 v) (X.2.2) 0 (by decide) (fun i hi hne => ?_) rfl
  match i, hi with
  | 0, _ => exact absurd rfl hne
  | 1, _ => rfl
  | 2, _ => rfl
  | 3, _ => rfl
  | 4, _ => rfl
  | 5, _ => rfl
  | 6, _ => rfl
  | 7, _ => rfl
  | 8, _ => rfl
  | 9, _ => rfl
  | 10, _ => rfl
  | 11, _ => rfl
  | 12, _ => rfl
  | 13, _ => rfl
  | 14, _ => rfl
  | 15, _ => rfl
  | n + 16, hn => exact absurd hn (by omega)
theorem zs_Rm_pn {g : zk_G} {X : zs_X} {Z : zs_Z} {M : zk_M} (hR : zs_R g X Z M) (v : Nat → Nat) : zs_R g (X.1, zs_pn_ X.2.1 v, X.2.2) Z (zk_up M (Z (8, 3, 0)) (zk_aI g 12 (fun i => nI (v i)))) := by
  refine zs_R_mod hR (zs_pn_ X.2.1 v) (X.2.2) 3 (by decide) (fun i hi hne => ?_) rfl
  match i, hi with
  | 0, _ => rfl
  | 1, _ => rfl
  | 2, _ => rfl
  | 3, _ => exact absurd rfl hne
  | 4, _ => rfl
  | 5, _ => rfl
  | 6, _ => rfl
  | 7, _ => rfl
  | 8, _ => rfl
  | 9, _ => rfl
  | 10, _ => rfl
  | 11, _ => rfl
  | 12, _ => rfl
  | 13, _ => rfl
  | 14, _ => rfl
  | 15, _ => rfl
  | n + 16, hn => exact absurd hn (by omega)
theorem zs_Rm_pd {g : zk_G} {X : zs_X} {Z : zs_Z} {M : zk_M} (hR : zs_R g X Z M) (v : Nat → Int64) : zs_R g (X.1, zs_pd_ X.2.1 v, X.2.2) Z (zk_up M (Z (8, 1, 0)) (zk_aJ g 240 v)) := by
  refine zs_R_mod hR (zs_pd_ X.2.1 v) (X.2.2) 1 (by decide) (fun i hi hne => ?_) rfl
  match i, hi with
  | 0, _ => rfl
  | 1, _ => exact absurd rfl hne
  | 2, _ => rfl
  | 3, _ => rfl
  | 4, _ => rfl
  | 5, _ => rfl
  | 6, _ => rfl
  | 7, _ => rfl
  | 8, _ => rfl
  | 9, _ => rfl
  | 10, _ => rfl
  | 11, _ => rfl
  | 12, _ => rfl
  | 13, _ => rfl
  | 14, _ => rfl
  | 15, _ => rfl
  | n + 16, hn => exact absurd hn (by omega)
theorem zs_Rm_pc {g : zk_G} {X : zs_X} {Z : zs_Z} {M : zk_M} (hR : zs_R g X Z M) (v : Nat → Int64) : zs_R g (X.1, zs_pc_ X.2.1 v, X.2.2) Z (zk_up M (Z (8, 2, 0)) (zk_aJ g 240 v)) := by
  refine zs_R_mod hR (zs_pc_ X.2.1 v) (X.2.2) 2 (by decide) (fun i hi hne => ?_) rfl
  match i, hi with
  | 0, _ => rfl
  | 1, _ => rfl
  | 2, _ => exact absurd rfl hne
  | 3, _ => rfl
  | 4, _ => rfl
  | 5, _ => rfl
  | 6, _ => rfl
  | 7, _ => rfl
  | 8, _ => rfl
  | 9, _ => rfl
  | 10, _ => rfl
  | 11, _ => rfl
  | 12, _ => rfl
  | 13, _ => rfl
  | 14, _ => rfl
  | 15, _ => rfl
  | n + 16, hn => exact absurd hn (by omega)
theorem zs_Rm_sh {g : zk_G} {X : zs_X} {Z : zs_Z} {M : zk_M} (hR : zs_R g X Z M) (v : Nat → Int64) : zs_R g (X.1, zs_sh_ X.2.1 v, X.2.2) Z (zk_up M (Z (8, 4, 0)) (zk_aJ g 12 v)) := by
  refine zs_R_mod hR (zs_sh_ X.2.1 v) (X.2.2) 4 (by decide) (fun i hi hne => ?_) rfl
  match i, hi with
  | 0, _ => rfl
  | 1, _ => rfl
  | 2, _ => rfl
  | 3, _ => rfl
  | 4, _ => exact absurd rfl hne
  | 5, _ => rfl
  | 6, _ => rfl
  | 7, _ => rfl
  | 8, _ => rfl
  | 9, _ => rfl
  | 10, _ => rfl
  | 11, _ => rfl
  | 12, _ => rfl
  | 13, _ => rfl
  | 14, _ => rfl
  | 15, _ => rfl
  | n + 16, hn => exact absurd hn (by omega)
theorem zs_Rm_rs {g : zk_G} {X : zs_X} {Z : zs_Z} {M : zk_M} (hR : zs_R g X Z M) (v : Nat → Int64) : zs_R g (X.1, zs_rs_ X.2.1 v, X.2.2) Z (zk_up M (Z (8, 5, 0)) (zk_aJ g 12 v)) := by
  refine zs_R_mod hR (zs_rs_ X.2.1 v) (X.2.2) 5 (by decide) (fun i hi hne => ?_) rfl
  match i, hi with
  | 0, _ => rfl
  | 1, _ => rfl
  | 2, _ => rfl
  | 3, _ => rfl
  | 4, _ => rfl
  | 5, _ => exact absurd rfl hne
  | 6, _ => rfl
  | 7, _ => rfl
  | 8, _ => rfl
  | 9, _ => rfl
  | 10, _ => rfl
  | 11, _ => rfl
  | 12, _ => rfl
  | 13, _ => rfl
  | 14, _ => rfl
  | 15, _ => rfl
  | n + 16, hn => exact absurd hn (by omega)
theorem zs_Rm_lp {g : zk_G} {X : zs_X} {Z : zs_Z} {M : zk_M} (hR : zs_R g X Z M) (v : Nat → Nat) : zs_R g (X.1, zs_lp_ X.2.1 v, X.2.2) Z (zk_up M (Z (8, 7, 0)) (zk_aI g 4100 (fun i => nI (v i)))) := by
  refine zs_R_mod hR (zs_lp_ X.2.1 v) (X.2.2) 7 (by decide) (fun i hi hne => ?_) rfl
  match i, hi with
  | 0, _ => rfl
  | 1, _ => rfl
  | 2, _ => rfl
  | 3, _ => rfl
  | 4, _ => rfl
  | 5, _ => rfl
  | 6, _ => rfl
  | 7, _ => exact absurd rfl hne
  | 8, _ => rfl
  | 9, _ => rfl
  | 10, _ => rfl
  | 11, _ => rfl
  | 12, _ => rfl
  | 13, _ => rfl
  | 14, _ => rfl
  | 15, _ => rfl
  | n + 16, hn => exact absurd hn (by omega)
theorem zs_Rm_lk {g : zk_G} {X : zs_X} {Z : zs_Z} {M : zk_M} (hR : zs_R g X Z M) (v : Nat → Nat) : zs_R g (X.1, zs_lk_ X.2.1 v, X.2.2) Z (zk_up M (Z (8, 8, 0)) (zk_aI g 4100 (fun i => nI (v i)))) := by
  refine zs_R_mod hR (zs_lk_ X.2.1 v) (X.2.2) 8 (by decide) (fun i hi hne => ?_) rfl
  match i, hi with
  | 0, _ => rfl
  | 1, _ => rfl
  | 2, _ => rfl
  | 3, _ => rfl
  | 4, _ => rfl
  | 5, _ => rfl
  | 6, _ => rfl
  | 7, _ => rfl
  | 8, _ => exact absurd rfl hne
  | 9, _ => rfl
  | 10, _ => rfl
  | 11, _ => rfl
  | 12, _ => rfl
  | 13, _ => rfl
  | 14, _ => rfl
  | 15, _ => rfl
  | n + 16, hn => exact absurd hn (by omega)
theorem zs_Rm_ll {g : zk_G} {X : zs_X} {Z : zs_Z} {M : zk_M} (hR : zs_R g X Z M) (v : Nat → Int64) : zs_R g (X.1, zs_ll_ X.2.1 v, X.2.2) Z (zk_up M (Z (8, 9, 0)) (zk_aJ g 4100 v)) := by
  refine zs_R_mod hR (zs_ll_ X.2.1 v) (X.2.2) 9 (by decide) (fun i hi hne => ?_) rfl
  match i, hi with
  | 0, _ => rfl
  | 1, _ => rfl
  | 2, _ => rfl
  | 3, _ => rfl
  | 4, _ => rfl
  | 5, _ => rfl
  | 6, _ => rfl
  | 7, _ => rfl
  | 8, _ => rfl
  | 9, _ => exact absurd rfl hne
  | 10, _ => rfl
  | 11, _ => rfl
  | 12, _ => rfl
  | 13, _ => rfl
  | 14, _ => rfl
  | 15, _ => rfl
  | n + 16, hn => exact absurd hn (by omega)
theorem zs_Rm_ld {g : zk_G} {X : zs_X} {Z : zs_Z} {M : zk_M} (hR : zs_R g X Z M) (v : Nat → Int64) : zs_R g (X.1, zs_ld_ X.2.1 v, X.2.2) Z (zk_up M (Z (8, 10, 0)) (zk_aJ g 4100 v)) := by
  refine zs_R_mod hR (zs_ld_ X.2.1 v) (X.2.2) 10 (by decide) (fun i hi hne => ?_) rfl
  match i, hi with
  | 0, _ => rfl
  | 1, _ => rfl
  | 2, _ => rfl
  | 3, _ => rfl
  | 4, _ => rfl
  | 5, _ => rfl
  | 6, _ => rfl
  | 7, _ => rfl
  | 8, _ => rfl
  | 9, _ => rfl
  | 10, _ => exact absurd rfl hne
  | 11, _ => rfl
  | 12, _ => rfl
  | 13, _ => rfl
  | 14, _ => rfl
  | 15, _ => rfl
  | n + 16, hn => exact absurd hn (by omega)
theorem zs_Rm_lc {g : zk_G} {X : zs_X} {Z : zs_Z} {M : zk_M} (hR : zs_R g X Z M) (v : Nat → Int64) : zs_R g (X.1, zs_lc_ X.2.1 v, X.2.2) Z (zk_up M (Z (8, 11, 0)) (zk_aJ g 4100 v)) := by
  refine zs_R_mod hR (zs_lc_ X.2.1 v) (X.2.2) 11 (by decide) (fun i hi hne => ?_) rfl
  match i, hi with
  | 0, _ => rfl
  | 1, _ => rfl
  | 2, _ => rfl
  | 3, _ => rfl
  | 4, _ => rfl
  | 5, _ => rfl
  | 6, _ => rfl
  | 7, _ => rfl
  | 8, _ => rfl
  | 9, _ => rfl
  | 10, _ => rfl
  | 11, _ => exact absurd rfl hne
  | 12, _ => rfl
  | 13, _ => rfl
  | 14, _ => rfl
  | 15, _ => rfl
  | n + 16, hn => exact absurd hn (by omega)
theorem zs_Rm_tp {g : zk_G} {X : zs_X} {Z : zs_Z} {M : zk_M} (hR : zs_R g X Z M) (v : Nat → Nat) : zs_R g (X.1, zs_tp_ X.2.1 v, X.2.2) Z (zk_up M (Z (8, 13, 0)) (zk_aI g 4100 (fun i => nI (v i)))) := by
  refine zs_R_mod hR (zs_tp_ X.2.1 v) (X.2.2) 13 (by decide) (fun i hi hne => ?_) rfl
  match i, hi with
  | 0, _ => rfl
  | 1, _ => rfl
  | 2, _ => rfl
  | 3, _ => rfl
  | 4, _ => rfl
  | 5, _ => rfl
  | 6, _ => rfl
  | 7, _ => rfl
  | 8, _ => rfl
  | 9, _ => rfl
  | 10, _ => rfl
  | 11, _ => rfl
  | 12, _ => rfl
  | 13, _ => exact absurd rfl hne
  | 14, _ => rfl
  | 15, _ => rfl
  | n + 16, hn => exact absurd hn (by omega)
theorem zs_Rm_tt {g : zk_G} {X : zs_X} {Z : zs_Z} {M : zk_M} (hR : zs_R g X Z M) (v : Nat → Nat) : zs_R g (X.1, zs_tt_ X.2.1 v, X.2.2) Z (zk_up M (Z (8, 12, 0)) (zk_aI g 4100 (fun i => nI (v i)))) := by
  refine zs_R_mod hR (zs_tt_ X.2.1 v) (X.2.2) 12 (by decide) (fun i hi hne => ?_) rfl
  match i, hi with
  | 0, _ => rfl
  | 1, _ => rfl
  | 2, _ => rfl
  | 3, _ => rfl
  | 4, _ => rfl
  | 5, _ => rfl
  | 6, _ => rfl
  | 7, _ => rfl
  | 8, _ => rfl
  | 9, _ => rfl
  | 10, _ => rfl
  | 11, _ => rfl
  | 12, _ => exact absurd rfl hne
  | 13, _ => rfl
  | 14, _ => rfl
  | 15, _ => rfl
  | n + 16, hn => exact absurd hn (by omega)
theorem zs_Rm_ta {g : zk_G} {X : zs_X} {Z : zs_Z} {M : zk_M} (hR : zs_R g X Z M) (v : Nat → Int64) : zs_R g (X.1, zs_ta_ X.2.1 v, X.2.2) Z (zk_up M (Z (8, 14, 0)) (zk_aJ g 4100 v)) := by
  refine zs_R_mod hR (zs_ta_ X.2.1 v) (X.2.2) 14 (by decide) (fun i hi hne => ?_) rfl
  match i, hi with
  | 0, _ => rfl
  | 1, _ => rfl
  | 2, _ => rfl
  | 3, _ => rfl
  | 4, _ => rfl
  | 5, _ => rfl
  | 6, _ => rfl
  | 7, _ => rfl
  | 8, _ => rfl
  | 9, _ => rfl
  | 10, _ => rfl
  | 11, _ => rfl
  | 12, _ => rfl
  | 13, _ => rfl
  | 14, _ => exact absurd rfl hne
  | 15, _ => rfl
  | n + 16, hn => exact absurd hn (by omega)
theorem zs_Rm_td {g : zk_G} {X : zs_X} {Z : zs_Z} {M : zk_M} (hR : zs_R g X Z M) (v : Nat → Int64) : zs_R g (X.1, zs_td_ X.2.1 v, X.2.2) Z (zk_up M (Z (8, 15, 0)) (zk_aJ g 4100 v)) := by
  refine zs_R_mod hR (zs_td_ X.2.1 v) (X.2.2) 15 (by decide) (fun i hi hne => ?_) rfl
  match i, hi with
  | 0, _ => rfl
  | 1, _ => rfl
  | 2, _ => rfl
  | 3, _ => rfl
  | 4, _ => rfl
  | 5, _ => rfl
  | 6, _ => rfl
  | 7, _ => rfl
  | 8, _ => rfl
  | 9, _ => rfl
  | 10, _ => rfl
  | 11, _ => rfl
  | 12, _ => rfl
  | 13, _ => rfl
  | 14, _ => rfl
  | 15, _ => exact absurd rfl hne
  | n + 16, hn => exact absurd hn (by omega)
theorem zs_Rm_ps {g : zk_G} {X : zs_X} {Z : zs_Z} {M : zk_M} (hR : zs_R g X Z M) (v : Nat → Int64) : zs_R g (X.1, X.2.1, v) Z (zk_up M (Z (8, 6, 0)) (zk_aJ g 12 v)) := by
  refine zs_R_mod hR (X.2.1) (v) 6 (by decide) (fun i hi hne => ?_) rfl
  match i, hi with
  | 0, _ => rfl
  | 1, _ => rfl
  | 2, _ => rfl
  | 3, _ => rfl
  | 4, _ => rfl
  | 5, _ => rfl
  | 6, _ => exact absurd rfl hne
  | 7, _ => rfl
  | 8, _ => rfl
  | 9, _ => rfl
  | 10, _ => rfl
  | 11, _ => rfl
  | 12, _ => rfl
  | 13, _ => rfl
  | 14, _ => rfl
  | 15, _ => rfl
  | n + 16, hn => exact absurd hn (by omega)
theorem zk_H_c {g : zk_G} {z a : Nat} {M : zk_M} {H : Heap} {e e' : va_E} (he : e = e') (h : zk_H g z (zk_up M a e) H) : zk_H g z (zk_up M a e') H := he ▸ h
theorem zs_cx_none {n : Nat} {x : Int32} (h : zs_ix n x = none) : zs_cx n x = none := by
  unfold zs_cx
  split
  · rfl
  · exact h
theorem zs_updI {f : Nat → Nat} {j p : Nat} (hj : j < 2 ^ 31) : upd (fun i => nI (f i)) (nI j).toNatClampNeg (nI p) = fun i => nI (va_up f j p i) := by
  rw [nI_clamp hj]
  funext i
  by_cases h : i = j <;> simp [upd, va_up, h]
theorem zs_updL {f : Nat → Int64} {j : Nat} {x : Int64} (hj : j < 2 ^ 31) : vp_updL f (nI j).toNatClampNeg x = vp_updL f j x := by rw [nI_clamp hj]
theorem zs_i20 (k i : Nat) : 20 * nI k + nI i = nI (20 * k + i) := by
  rw [show (20 : Int32) = nI 20 from rfl, pk_mul, nI_add]
theorem zs_take_congr {S S' : zs_S} (h1 : zs_lp S = zs_lp S') (h2 : zs_lk S = zs_lk S') (h3 : zs_ll S = zs_ll S') (h4 : zs_lc S = zs_lc S') {p k : Nat} {n : Int64} (i : Nat) : zs_take S p k n i = zs_take S' p k n i := by
  induction i with
  | zero => show (zs_ll S, n, 0) = (zs_ll S', n, 0); rw [h3]
  | succ i ih => simp only [zs_take, ih, h1, h2, h4]
theorem zs_lot_rs {S : zs_S} {p : Nat} {n : Int64} : ∀ {k j : Nat}, k ≤ j → (zs_lot S p n k).2.1 j = zs_rs S j := by
  intro k
  induction k with
  | zero => intro j _; rfl
  | succ k ih =>
    intro j hj
    show vp_updL (zs_lot S p n k).2.1 k _ j = _
    simp only [vp_updL, show j ≠ k by omega, if_false]
    exact ih (by omega)
abbrev zs_mc (S : zs_S) (x : Int32) (n d : Int64) : Prop := zs_cx (zs_np S) x ≠ none ∧ zs_isN n ∧ zs_isD d ∧ zs_ck S ≤ d
/-- the reference's transfer: the clock is set elsewhere -/
def zs_mv0 (S : zs_S) (x y : Nat) (c d : Int64) : zs_S := (zs_np S, zs_nk S, zs_nl S, zs_nc S + 1, zs_ck S, zs_pn S, zs_pd S, zs_pc S, zs_sh S, zs_rs S, zs_lp S, zs_lk S, zs_ll S, zs_ld S, zs_lc S, va_up (zs_tp S) (zs_nc S) x, va_up (zs_tt S) (zs_nc S) y, vp_updL (zs_ta S) (zs_nc S) c, vp_updL (zs_td S) (zs_nc S) d)
theorem zs_mv0_mv (S : zs_S) (x y : Nat) (c d : Int64) : zs_mv0 (zs_ck_ S d) x y c d = zs_mv S x y c d := rfl
def zs_Q (g : zk_G) (X : zs_X) (Z : zs_Z) (D : zs_S) (u : zk_M) : Prop := ∃ ps, zs_R g (X.1, D, ps) Z u
theorem zs_qno {g : zk_G} {X : zs_X} {Z : zs_Z} {M : zk_M} {f : Int32 × zs_S} {v : Int32} (hR : zs_R g X Z M) (e : f = (v, X.2.1)) : v = f.1 ∧ zs_Q g X Z f.2 M := by
  rw [e]; exact ⟨rfl, X.2.2, hR⟩
theorem zs_qyes {g : zk_G} {X : zs_X} {Z : zs_Z} {M : zk_M} {f : Int32 × zs_S} {v : Int32} {S : zs_S} (e : f = (v, S)) (h : zs_Q g X Z S M) : v = f.1 ∧ zs_Q g X Z f.2 M := by
  rw [e]; exact ⟨rfl, h⟩
