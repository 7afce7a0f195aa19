/-! ===== the reference's object beside the run's own cells ===== -/
theorem kr_gs3 : gs kr_Z1 kr_Z3 := gs_GI (fun g h => by
  have a : GI kr_Z1 (nO kr_Z1 39) := GI_wN (GI_rf h.2.1 h.2.2.2.2.2.2) rfl (by decide)
  have b : GI kr_Z1 kr_Z2 := j_f_M_init _ _ a kr_Z2 (Option.some_get kr_yb).symm
  exact j_nA48 b _ (Option.some_get kr_yc).symm) (by decide +kernel)
