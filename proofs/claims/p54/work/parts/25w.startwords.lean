/-! ===== the words of the start ===== -/
theorem v_ins0 : Cond.instantiable "java/util/ArrayList" 3 ∈ lw_tbl := kr_tt1 (List.mem_of_getElem? (i := 88) rfl)
theorem v_ins1 : Cond.instantiable "KeyringCourt$Attempt" 10 ∈ lw_tbl := kr_tt3 (List.mem_of_getElem? (i := 143) rfl)
theorem v_ins2 : Cond.instantiable "KeyringCourt$Audit" 4 ∈ lw_tbl := kr_tt1 (List.mem_of_getElem? (i := 38) rfl)
theorem v_ins3 : Cond.instantiable "KeyringCourt$Flow" 6 ∈ lw_tbl := kr_tt1 (List.mem_of_getElem? (i := 62) rfl)
theorem v_ins4 : Cond.instantiable "KeyringCourt$Grant" 12 ∈ lw_tbl := kr_tt5 (List.mem_of_getElem? (i := 239) rfl)
theorem v_ins5 : Cond.instantiable "KeyringCourt$Keyring" 6 ∈ lw_tbl := kr_tt1 (List.mem_of_getElem? (i := 116) rfl)
theorem v_ins6 : Cond.instantiable "KeyringCourt$Person" 12 ∈ lw_tbl := kr_tt1 (List.mem_of_getElem? (i := 144) rfl)
theorem v_ins7 : Cond.instantiable "KeyringCourt$Recovery" 5 ∈ lw_tbl := kr_tt5 (List.mem_of_getElem? (i := 117) rfl)
theorem v_ins8 : Cond.instantiable "KeyringCourt$Service" 4 ∈ lw_tbl := kr_tt1 (List.mem_of_getElem? (i := 190) rfl)
theorem v_ins9 : Cond.instantiable "KeyringCourt$Session" 7 ∈ lw_tbl := kr_tt4 (List.mem_of_getElem? (i := 16) rfl)
theorem v_ins10 : Cond.instantiable "KeyringCourt$Shown" 1 ∈ lw_tbl := kr_tt3 (List.mem_of_getElem? (i := 149) rfl)
theorem v_ins11 : Cond.instantiable "KeyringCourt$Token" 7 ∈ lw_tbl := kr_tt4 (List.mem_of_getElem? (i := 75) rfl)
theorem v_ins12 : Cond.instantiable "KeyringCourt" 18 ∈ lw_tbl := kr_tt1 (List.mem_of_getElem? (i := 30) rfl)
theorem kr_ins : ∀ c, c < kr_nC → Cond.instantiable (kr_cC c) (kr_cN c) ∈ lw_tbl := by
  intro c hc
  match c, hc with
  | 0, _ => exact v_ins0
  | 1, _ => exact v_ins1
  | 2, _ => exact v_ins2
  | 3, _ => exact v_ins3
  | 4, _ => exact v_ins4
  | 5, _ => exact v_ins5
  | 6, _ => exact v_ins6
  | 7, _ => exact v_ins7
  | 8, _ => exact v_ins8
  | 9, _ => exact v_ins9
  | 10, _ => exact v_ins10
  | 11, _ => exact v_ins11
  | 12, _ => exact v_ins12
  | n + 13, h => exact absurd (show n + 13 < 13 from h) (by omega)
theorem v_ac_int : Cond.arrayClass ClassFile.FieldType.int ∈ lw_tbl := kr_tt1 (List.mem_of_getElem? (i := 58) rfl)
theorem v_ao_O : Cond.arrayOver (ClassFile.FieldType.object "java/lang/Object") ∈ lw_tbl := kr_tt3 (List.mem_of_getElem? (i := 113) rfl)
theorem v_ao_P : Cond.arrayOver (ClassFile.FieldType.object "KeyringCourt$Person") ∈ lw_tbl := kr_tt1 (List.mem_of_getElem? (i := 60) rfl)
theorem v_ao_S : Cond.arrayOver (ClassFile.FieldType.object "KeyringCourt$Service") ∈ lw_tbl := kr_tt1 (List.mem_of_getElem? (i := 114) rfl)
theorem v_ls_D : Cond.laysStatic "java/util/ArrayList" "DEFAULTCAPACITY_EMPTY_ELEMENTDATA" "[Ljava/lang/Object;" ∈ lw_tbl := kr_tt1 (List.mem_of_getElem? (i := 100) rfl)
theorem v_ls_W : Cond.laysStatic "KeyringCourt$Shown" "WEIGHTS" "[I" ∈ lw_tbl := kr_tt4 (List.mem_of_getElem? (i := 2) rfl)
theorem v_ls_U : Cond.laysStatic "java/lang/Throwable" "UNASSIGNED_STACK" "[Ljava/lang/StackTraceElement;" ∈ lw_tbl := kr_tt2 (List.mem_of_getElem? (i := 74) rfl)
theorem v_ls_X : Cond.laysStatic "java/lang/Throwable" "SUPPRESSED_SENTINEL" "Ljava/util/List;" ∈ lw_tbl := kr_tt2 (List.mem_of_getElem? (i := 76) rfl)
theorem v_in_D : Cond.initialized "java/util/ArrayList" ∈ lw_tbl := kr_tt1 (List.mem_of_getElem? (i := 6) rfl)
theorem v_in_W : Cond.initialized "KeyringCourt$Shown" ∈ lw_tbl := kr_tt1 (List.mem_of_getElem? (i := 23) rfl)
theorem v_in_T : Cond.initialized "java/lang/Throwable" ∈ lw_tbl := kr_tt1 (List.mem_of_getElem? (i := 10) rfl)
