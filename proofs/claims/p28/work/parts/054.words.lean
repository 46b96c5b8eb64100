theorem qc_yL_acts : Cond.code yL_acts cL_acts 19 (some Jvm.ClassFile.FieldType.boolean) ∈ lw_all := lw_c2 (List.mem_of_getElem? (i := 218) rfl) rfl
