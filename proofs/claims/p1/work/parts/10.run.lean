/-! THE RUN of the abstract machine: a program is a list of methods; calls are runs of their own -/
def zq_iloadn : (Nat → List Nat → Instr) × Nat × (zMeth → List Nat → Bool) × zSem := ((fun _ x => .iload_n (Fin.ofNat 4 (zx x 0))), 1, ztrue, zo_iloadn)
def zq_iload : (Nat → List Nat → Instr) × Nat × (zMeth → List Nat → Bool) × zSem := ((fun _ x => .iload (zx x 0)), 2, ztrue, zo_iload)
def zq_lloadn : (Nat → List Nat → Instr) × Nat × (zMeth → List Nat → Bool) × zSem := ((fun _ x => .lload_n (Fin.ofNat 4 (zx x 0))), 1, ztrue, zo_lloadn)
def zq_lload : (Nat → List Nat → Instr) × Nat × (zMeth → List Nat → Bool) × zSem := ((fun _ x => .lload (zx x 0)), 2, ztrue, zo_lload)
def zq_dloadn : (Nat → List Nat → Instr) × Nat × (zMeth → List Nat → Bool) × zSem := ((fun _ x => .dload_n (Fin.ofNat 4 (zx x 0))), 1, ztrue, zo_dloadn)
def zq_dload : (Nat → List Nat → Instr) × Nat × (zMeth → List Nat → Bool) × zSem := ((fun _ x => .dload (zx x 0)), 2, ztrue, zo_dload)
def zq_floadn : (Nat → List Nat → Instr) × Nat × (zMeth → List Nat → Bool) × zSem := ((fun _ x => .fload_n (Fin.ofNat 4 (zx x 0))), 1, ztrue, zo_floadn)
def zq_fload : (Nat → List Nat → Instr) × Nat × (zMeth → List Nat → Bool) × zSem := ((fun _ x => .fload (zx x 0)), 2, ztrue, zo_fload)
def zq_aloadn : (Nat → List Nat → Instr) × Nat × (zMeth → List Nat → Bool) × zSem := ((fun _ x => .aload_n (Fin.ofNat 4 (zx x 0))), 1, ztrue, zo_aloadn)
def zq_aload : (Nat → List Nat → Instr) × Nat × (zMeth → List Nat → Bool) × zSem := ((fun _ x => .aload (zx x 0)), 2, ztrue, zo_aload)
def zq_istoren : (Nat → List Nat → Instr) × Nat × (zMeth → List Nat → Bool) × zSem := ((fun _ x => .istore_n (Fin.ofNat 4 (zx x 0))), 1, ztrue, zo_istoren)
def zq_istore : (Nat → List Nat → Instr) × Nat × (zMeth → List Nat → Bool) × zSem := ((fun _ x => .istore (zx x 0)), 2, ztrue, zo_istore)
def zq_fstoren : (Nat → List Nat → Instr) × Nat × (zMeth → List Nat → Bool) × zSem := ((fun _ x => .fstore_n (Fin.ofNat 4 (zx x 0))), 1, ztrue, zo_fstoren)
def zq_fstore : (Nat → List Nat → Instr) × Nat × (zMeth → List Nat → Bool) × zSem := ((fun _ x => .fstore (zx x 0)), 2, ztrue, zo_fstore)
def zq_astoren : (Nat → List Nat → Instr) × Nat × (zMeth → List Nat → Bool) × zSem := ((fun _ x => .astore_n (Fin.ofNat 4 (zx x 0))), 1, ztrue, zo_astoren)
def zq_astore : (Nat → List Nat → Instr) × Nat × (zMeth → List Nat → Bool) × zSem := ((fun _ x => .astore (zx x 0)), 2, ztrue, zo_astore)
def zq_lstoren : (Nat → List Nat → Instr) × Nat × (zMeth → List Nat → Bool) × zSem := ((fun _ x => .lstore_n (Fin.ofNat 4 (zx x 0))), 1, ztrue, zo_lstoren)
def zq_lstore : (Nat → List Nat → Instr) × Nat × (zMeth → List Nat → Bool) × zSem := ((fun _ x => .lstore (zx x 0)), 2, ztrue, zo_lstore)
def zq_dstoren : (Nat → List Nat → Instr) × Nat × (zMeth → List Nat → Bool) × zSem := ((fun _ x => .dstore_n (Fin.ofNat 4 (zx x 0))), 1, ztrue, zo_dstoren)
def zq_dstore : (Nat → List Nat → Instr) × Nat × (zMeth → List Nat → Bool) × zSem := ((fun _ x => .dstore (zx x 0)), 2, ztrue, zo_dstore)
def zq_iconst : (Nat → List Nat → Instr) × Nat × (zMeth → List Nat → Bool) × zSem := ((fun _ x => .iconst ((zx x 0 : Int) - 1)), 1, (fun _ x => decide (Int32.ofInt ((zx x 0 : Int) - 1) = nI (zx x 1))), zo_iconst)
def zq_bipush : (Nat → List Nat → Instr) × Nat × (zMeth → List Nat → Bool) × zSem := ((fun _ x => .bipush ((zx x 0 : Int) - 128)), 2, (fun _ x => decide ((Int8.ofInt ((zx x 0 : Int) - 128)).toInt32 = nI (zx x 1))), zo_bipush)
def zq_sipush : (Nat → List Nat → Instr) × Nat × (zMeth → List Nat → Bool) × zSem := ((fun _ x => .sipush ((zx x 0 : Int) - 32768)), 3, (fun _ x => decide ((Int16.ofInt ((zx x 0 : Int) - 32768)).toInt32 = nI (zx x 1))), zo_sipush)
def zq_lconst : (Nat → List Nat → Instr) × Nat × (zMeth → List Nat → Bool) × zSem := ((fun _ x => .lconst (Fin.ofNat 2 (zx x 0))), 1, ztrue, zo_lconst)
def zq_dconst : (Nat → List Nat → Instr) × Nat × (zMeth → List Nat → Bool) × zSem := ((fun _ _ => .dconst 0), 1, ztrue, zo_dconst)
def zq_null : (Nat → List Nat → Instr) × Nat × (zMeth → List Nat → Bool) × zSem := ((fun _ _ => .aconst_null), 1, ztrue, zo_null)
def zq_iadd : (Nat → List Nat → Instr) × Nat × (zMeth → List Nat → Bool) × zSem := ((fun _ _ => .iadd), 1, ztrue, zo_iadd)
def zq_isub : (Nat → List Nat → Instr) × Nat × (zMeth → List Nat → Bool) × zSem := ((fun _ _ => .isub), 1, ztrue, zo_isub)
def zq_iand : (Nat → List Nat → Instr) × Nat × (zMeth → List Nat → Bool) × zSem := ((fun _ _ => .iand), 1, ztrue, zo_iand)
def zq_i2l : (Nat → List Nat → Instr) × Nat × (zMeth → List Nat → Bool) × zSem := ((fun _ _ => .i2l), 1, ztrue, zo_i2l)
def zq_i2c : (Nat → List Nat → Instr) × Nat × (zMeth → List Nat → Bool) × zSem := ((fun _ _ => .i2c), 1, ztrue, zo_i2c)
def zq_i2d : (Nat → List Nat → Instr) × Nat × (zMeth → List Nat → Bool) × zSem := ((fun _ _ => .i2d), 1, ztrue, zo_i2d)
def zq_i2f : (Nat → List Nat → Instr) × Nat × (zMeth → List Nat → Bool) × zSem := ((fun _ _ => .i2f), 1, ztrue, zo_i2f)
def zq_dup : (Nat → List Nat → Instr) × Nat × (zMeth → List Nat → Bool) × zSem := ((fun _ _ => .dup), 1, ztrue, zo_dup)
def zq_pop : (Nat → List Nat → Instr) × Nat × (zMeth → List Nat → Bool) × zSem := ((fun _ _ => .pop), 1, ztrue, zo_pop)
def zq_dup_x1 : (Nat → List Nat → Instr) × Nat × (zMeth → List Nat → Bool) × zSem := ((fun _ _ => .dup_x1), 1, ztrue, zo_dup_x1)
def zq_iinc : (Nat → List Nat → Instr) × Nat × (zMeth → List Nat → Bool) × zSem := ((fun _ x => .iinc (zx x 0) ((zx x 1 : Int) - 32768)), 3, (fun _ x => decide (Int32.ofInt ((zx x 1 : Int) - 32768) = nI (zx x 2))), zo_iinc)
def zq_goto : (Nat → List Nat → Instr) × Nat × (zMeth → List Nat → Bool) × zSem := ((fun pc x => .goto ((zx x 0 : Int) - (pc : Int))), 3, ztrue, zo_goto)
def zq_lcmp : (Nat → List Nat → Instr) × Nat × (zMeth → List Nat → Bool) × zSem := ((fun _ _ => .lcmp), 1, ztrue, zo_lcmp)
def zq_icmp_eq : (Nat → List Nat → Instr) × Nat × (zMeth → List Nat → Bool) × zSem := ((fun pc x => .if_icmp .eq ((zx x 0 : Int) - (pc : Int))), 3, ztrue, zo_icmp_eq)
def zq_if_eq : (Nat → List Nat → Instr) × Nat × (zMeth → List Nat → Bool) × zSem := ((fun pc x => .ifCond .eq ((zx x 0 : Int) - (pc : Int))), 3, ztrue, zo_if_eq)
def zq_icmp_ne : (Nat → List Nat → Instr) × Nat × (zMeth → List Nat → Bool) × zSem := ((fun pc x => .if_icmp .ne ((zx x 0 : Int) - (pc : Int))), 3, ztrue, zo_icmp_ne)
def zq_if_ne : (Nat → List Nat → Instr) × Nat × (zMeth → List Nat → Bool) × zSem := ((fun pc x => .ifCond .ne ((zx x 0 : Int) - (pc : Int))), 3, ztrue, zo_if_ne)
def zq_icmp_lt : (Nat → List Nat → Instr) × Nat × (zMeth → List Nat → Bool) × zSem := ((fun pc x => .if_icmp .lt ((zx x 0 : Int) - (pc : Int))), 3, ztrue, zo_icmp_lt)
def zq_if_lt : (Nat → List Nat → Instr) × Nat × (zMeth → List Nat → Bool) × zSem := ((fun pc x => .ifCond .lt ((zx x 0 : Int) - (pc : Int))), 3, ztrue, zo_if_lt)
def zq_icmp_ge : (Nat → List Nat → Instr) × Nat × (zMeth → List Nat → Bool) × zSem := ((fun pc x => .if_icmp .ge ((zx x 0 : Int) - (pc : Int))), 3, ztrue, zo_icmp_ge)
def zq_if_ge : (Nat → List Nat → Instr) × Nat × (zMeth → List Nat → Bool) × zSem := ((fun pc x => .ifCond .ge ((zx x 0 : Int) - (pc : Int))), 3, ztrue, zo_if_ge)
def zq_icmp_gt : (Nat → List Nat → Instr) × Nat × (zMeth → List Nat → Bool) × zSem := ((fun pc x => .if_icmp .gt ((zx x 0 : Int) - (pc : Int))), 3, ztrue, zo_icmp_gt)
def zq_if_gt : (Nat → List Nat → Instr) × Nat × (zMeth → List Nat → Bool) × zSem := ((fun pc x => .ifCond .gt ((zx x 0 : Int) - (pc : Int))), 3, ztrue, zo_if_gt)
def zq_icmp_le : (Nat → List Nat → Instr) × Nat × (zMeth → List Nat → Bool) × zSem := ((fun pc x => .if_icmp .le ((zx x 0 : Int) - (pc : Int))), 3, ztrue, zo_icmp_le)
def zq_if_le : (Nat → List Nat → Instr) × Nat × (zMeth → List Nat → Bool) × zSem := ((fun pc x => .ifCond .le ((zx x 0 : Int) - (pc : Int))), 3, ztrue, zo_if_le)
def zq_ifnull : (Nat → List Nat → Instr) × Nat × (zMeth → List Nat → Bool) × zSem := ((fun pc x => .ifnull ((zx x 0 : Int) - (pc : Int))), 3, ztrue, zo_ifnull)
def zq_ifnonnull : (Nat → List Nat → Instr) × Nat × (zMeth → List Nat → Bool) × zSem := ((fun pc x => .ifnonnull ((zx x 0 : Int) - (pc : Int))), 3, ztrue, zo_ifnonnull)
def zq_acmp_eq : (Nat → List Nat → Instr) × Nat × (zMeth → List Nat → Bool) × zSem := ((fun pc x => .if_acmp .eq ((zx x 0 : Int) - (pc : Int))), 3, ztrue, zo_acmp_eq)
def zq_getf : (Nat → List Nat → Instr) × Nat × (zMeth → List Nat → Bool) × zSem := ((fun _ x => .getfield (zx x 0)), 3, zflk, zo_getf)
def zq_getfS : (Nat → List Nat → Instr) × Nat × (zMeth → List Nat → Bool) × zSem := ((fun _ x => .getfield (zx x 0)), 3, zflS, zo_getf)
def zq_putf : (Nat → List Nat → Instr) × Nat × (zMeth → List Nat → Bool) × zSem := ((fun _ x => .putfield (zx x 0)), 3, (fun M x => zflk M x && (match zat vwCl (zx x 1) with | some q => !(q.2.1 (zx x 2)).2.2.2 | none => false)), zo_putf)
def zq_putfS : (Nat → List Nat → Instr) × Nat × (zMeth → List Nat → Bool) × zSem := ((fun _ x => .putfield (zx x 0)), 3, (fun M x => zflS M x && (match zat vwCl (zx x 1) with | some q => !(q.2.1 (zx x 2)).2.2.2 | none => false)), zo_putf)
def zq_putfF : (Nat → List Nat → Instr) × Nat × (zMeth → List Nat → Bool) × zSem := ((fun _ x => .putfield (zx x 0)), 3, (fun M x => zflk M x && (match zat vwCl (zx x 1) with | some q => (q.2.1 (zx x 2)).2.2.2 && (decide ((zm_y M).name = "<init>") && decide ((q.2.1 (zx x 2)).1 = (zm_y M).cls)) | none => false)), zo_putf)
def zq_new : (Nat → List Nat → Instr) × Nat × (zMeth → List Nat → Bool) × zSem := ((fun _ x => .new (zx x 0)), 3, znwf, zo_new)
def zq_newarray : (Nat → List Nat → Instr) × Nat × (zMeth → List Nat → Bool) × zSem := ((fun _ x => .newarray (zaty (zx x 0))), 2, (fun _ x => hasW (zx x 1) (.arrayClass (zT (zx x 0)))), zo_newarray)
def zq_anew : (Nat → List Nat → Instr) × Nat × (zMeth → List Nat → Bool) × zSem := ((fun _ x => .anewarray (zx x 0)), 3, (fun M x => hasW (zx x 2) (.classLink (zm_y M).cls (zx x 0) (zcn (zx x 1)))), zo_anew)
def zq_alen : (Nat → List Nat → Instr) × Nat × (zMeth → List Nat → Bool) × zSem := ((fun _ _ => .arraylength), 1, ztrue, zo_alen)
def zq_iaload : (Nat → List Nat → Instr) × Nat × (zMeth → List Nat → Bool) × zSem := ((fun _ _ => .iaload), 1, ztrue, zo_iaload)
def zq_zaload : (Nat → List Nat → Instr) × Nat × (zMeth → List Nat → Bool) × zSem := ((fun _ _ => .baload), 1, ztrue, zo_zaload)
def zq_caload : (Nat → List Nat → Instr) × Nat × (zMeth → List Nat → Bool) × zSem := ((fun _ _ => .caload), 1, ztrue, zo_caload)
def zq_laload : (Nat → List Nat → Instr) × Nat × (zMeth → List Nat → Bool) × zSem := ((fun _ _ => .laload), 1, ztrue, zo_laload)
def zq_aaload : (Nat → List Nat → Instr) × Nat × (zMeth → List Nat → Bool) × zSem := ((fun _ _ => .aaload), 1, ztrue, zo_aaload)
def zq_iastore : (Nat → List Nat → Instr) × Nat × (zMeth → List Nat → Bool) × zSem := ((fun _ _ => .iastore), 1, (ztrue), zo_iastore)
def zq_zastore : (Nat → List Nat → Instr) × Nat × (zMeth → List Nat → Bool) × zSem := ((fun _ _ => .bastore), 1, (ztrue), zo_zastore)
def zq_lastore : (Nat → List Nat → Instr) × Nat × (zMeth → List Nat → Bool) × zSem := ((fun _ _ => .lastore), 1, (ztrue), zo_lastore)
def zq_aastV : (Nat → List Nat → Instr) × Nat × (zMeth → List Nat → Bool) × zSem := ((fun _ _ => .aastore), 1, (fun _ x => match zat vwCl (zx x 0) with | some q => decide (q.1 = "FormRiverModel$Version") | none => false), zo_aastV)
def zq_aastO : (Nat → List Nat → Instr) × Nat × (zMeth → List Nat → Bool) × zSem := ((fun _ _ => .aastore), 1, (fun _ x => x.all fun ci => match zat vwCl ci with | some q => decide (Cond.castable q.1 "java/lang/Object" ∈ zNws) | none => false), zo_aastO)
def zq_gets : (Nat → List Nat → Instr) × Nat × (zMeth → List Nat → Bool) × zSem := ((fun _ x => .getstatic (zx x 0)), 3, (fun M x => hasW (zx x 1) (.fieldLink (zm_y M).cls (zx x 0) "java/util/ArrayList" "DEFAULTCAPACITY_EMPTY_ELEMENTDATA" "[Ljava/lang/Object;")), zo_gets)
def zq_objI : (Nat → List Nat → Instr) × Nat × (zMeth → List Nat → Bool) × zSem := ((fun _ x => .invokespecial (zx x 0)), 3, (fun M x => hasW (zx x 1) (.methodLink (zm_y M).cls (zx x 0) Lib.objectInit) && (hasW (zx x 2) (.instanceMethod Lib.objectInit) && hasW (zx x 3) (.code Lib.objectInit ⟨#[0xb1]⟩ 1 none))), zo_objI)
def zq_mna : (Nat → List Nat → Instr) × Nat × (zMeth → List Nat → Bool) × zSem := ((fun _ x => .multianewarray (zx x 0) 2), 4, (fun M x => zmna_ok x && (hasW (zx x 3) (.classLink (zm_y M).cls (zx x 0) ("[" ++ (FieldType.array (zT (zx x 2))).toString)) && (Nat.beq (zx x 2) 8 || hasW (zx x 4) (.arrayClass .int)))), zo_mna)
def zq_mmax : (Nat → List Nat → Instr) × Nat × (zMeth → List Nat → Bool) × zSem := ((fun _ x => .invokestatic (zx x 0)), 3, (fun M x => hasW (zx x 1) (.methodLink (zm_y M).cls (zx x 0) Lib.Math.max.name) && (hasW (zx x 2) (.static Lib.Math.max.name) && (hasW (zx x 3) (.initialized "java/lang/Math") && hasW (zx x 4) (.code Lib.Math.max.name Lib.Math.max.code 2 (some .int))))), zo_mmax)
def zq_tsw : (Nat → List Nat → Instr) × Nat × (zMeth → List Nat → Bool) × zSem := ((fun pc x => .tableswitch ((zx x 0 : Int) - (pc : Int)) 0 ((x.length : Int) - 2) (((x.drop 1).map fun (t : Nat) => (t : Int) - (pc : Int)).toArray)), 203, (fun _ x => Nat.blt 1 x.length), zo_tsw)
def zopT : List ((Nat → List Nat → Instr) × Nat × (zMeth → List Nat → Bool) × zSem) := [zq_iloadn, zq_iload, zq_lloadn, zq_lload, zq_dloadn, zq_dload, zq_floadn, zq_fload, zq_aloadn, zq_aload, zq_istoren, zq_istore, zq_fstoren, zq_fstore, zq_astoren, zq_astore, zq_lstoren, zq_lstore, zq_dstoren, zq_dstore, zq_iconst, zq_bipush, zq_sipush, zq_lconst, zq_dconst, zq_null, zq_iadd, zq_isub, zq_iand, zq_i2l, zq_i2c, zq_i2d, zq_i2f, zq_dup, zq_pop, zq_dup_x1, zq_iinc, zq_goto, zq_lcmp, zq_icmp_eq, zq_if_eq, zq_icmp_ne, zq_if_ne, zq_icmp_lt, zq_if_lt, zq_icmp_ge, zq_if_ge, zq_icmp_gt, zq_if_gt, zq_icmp_le, zq_if_le, zq_ifnull, zq_ifnonnull, zq_acmp_eq, zq_getf, zq_getfS, zq_putf, zq_putfS, zq_putfF, zq_new, zq_newarray, zq_anew, zq_alen, zq_iaload, zq_zaload, zq_caload, zq_laload, zq_aaload, zq_iastore, zq_zastore, zq_lastore, zq_aastV, zq_aastO, zq_gets, zq_objI, zq_mna, zq_mmax, zq_tsw]
theorem zopT_ok : ∀ q ∈ zopT, zSnd q.1 q.2.1 q.2.2.1 q.2.2.2 := List.forall_mem_cons.mpr ⟨zs_iloadn, List.forall_mem_cons.mpr ⟨zs_iload, List.forall_mem_cons.mpr ⟨zs_lloadn, List.forall_mem_cons.mpr ⟨zs_lload, List.forall_mem_cons.mpr ⟨zs_dloadn, List.forall_mem_cons.mpr ⟨zs_dload, List.forall_mem_cons.mpr ⟨zs_floadn, List.forall_mem_cons.mpr ⟨zs_fload, List.forall_mem_cons.mpr ⟨zs_aloadn, List.forall_mem_cons.mpr ⟨zs_aload, List.forall_mem_cons.mpr ⟨zs_istoren, List.forall_mem_cons.mpr ⟨zs_istore, List.forall_mem_cons.mpr ⟨zs_fstoren, List.forall_mem_cons.mpr ⟨zs_fstore, List.forall_mem_cons.mpr ⟨zs_astoren, List.forall_mem_cons.mpr ⟨zs_astore, List.forall_mem_cons.mpr ⟨zs_lstoren, List.forall_mem_cons.mpr ⟨zs_lstore, List.forall_mem_cons.mpr ⟨zs_dstoren, List.forall_mem_cons.mpr ⟨zs_dstore, List.forall_mem_cons.mpr ⟨zs_iconst, List.forall_mem_cons.mpr ⟨zs_bipush, List.forall_mem_cons.mpr ⟨zs_sipush, List.forall_mem_cons.mpr ⟨zs_lconst, List.forall_mem_cons.mpr ⟨zs_dconst, List.forall_mem_cons.mpr ⟨zs_null, List.forall_mem_cons.mpr ⟨zs_iadd, List.forall_mem_cons.mpr ⟨zs_isub, List.forall_mem_cons.mpr ⟨zs_iand, List.forall_mem_cons.mpr ⟨zs_i2l, List.forall_mem_cons.mpr ⟨zs_i2c, List.forall_mem_cons.mpr ⟨zs_i2d, List.forall_mem_cons.mpr ⟨zs_i2f, List.forall_mem_cons.mpr ⟨zs_dup, List.forall_mem_cons.mpr ⟨zs_pop, List.forall_mem_cons.mpr ⟨zs_dup_x1, List.forall_mem_cons.mpr ⟨zs_iinc, List.forall_mem_cons.mpr ⟨zs_goto, List.forall_mem_cons.mpr ⟨zs_lcmp, List.forall_mem_cons.mpr ⟨zs_icmp_eq, List.forall_mem_cons.mpr ⟨zs_if_eq, List.forall_mem_cons.mpr ⟨zs_icmp_ne, List.forall_mem_cons.mpr ⟨zs_if_ne, List.forall_mem_cons.mpr ⟨zs_icmp_lt, List.forall_mem_cons.mpr ⟨zs_if_lt, List.forall_mem_cons.mpr ⟨zs_icmp_ge, List.forall_mem_cons.mpr ⟨zs_if_ge, List.forall_mem_cons.mpr ⟨zs_icmp_gt, List.forall_mem_cons.mpr ⟨zs_if_gt, List.forall_mem_cons.mpr ⟨zs_icmp_le, List.forall_mem_cons.mpr ⟨zs_if_le, List.forall_mem_cons.mpr ⟨zs_ifnull, List.forall_mem_cons.mpr ⟨zs_ifnonnull, List.forall_mem_cons.mpr ⟨zs_acmp_eq, List.forall_mem_cons.mpr ⟨zs_getf, List.forall_mem_cons.mpr ⟨zs_getfS, List.forall_mem_cons.mpr ⟨zs_putf, List.forall_mem_cons.mpr ⟨zs_putfS, List.forall_mem_cons.mpr ⟨zs_putfF, List.forall_mem_cons.mpr ⟨zs_new, List.forall_mem_cons.mpr ⟨zs_newarray, List.forall_mem_cons.mpr ⟨zs_anew, List.forall_mem_cons.mpr ⟨zs_alen, List.forall_mem_cons.mpr ⟨zs_iaload, List.forall_mem_cons.mpr ⟨zs_zaload, List.forall_mem_cons.mpr ⟨zs_caload, List.forall_mem_cons.mpr ⟨zs_laload, List.forall_mem_cons.mpr ⟨zs_aaload, List.forall_mem_cons.mpr ⟨zs_iastore, List.forall_mem_cons.mpr ⟨zs_zastore, List.forall_mem_cons.mpr ⟨zs_lastore, List.forall_mem_cons.mpr ⟨zs_aastV, List.forall_mem_cons.mpr ⟨zs_aastO, List.forall_mem_cons.mpr ⟨zs_gets, List.forall_mem_cons.mpr ⟨zs_objI, List.forall_mem_cons.mpr ⟨zs_mna, List.forall_mem_cons.mpr ⟨zs_mmax, List.forall_mem_cons.mpr ⟨zs_tsw 203, fun _ h => absurd h List.not_mem_nil⟩⟩⟩⟩⟩⟩⟩⟩⟩⟩⟩⟩⟩⟩⟩⟩⟩⟩⟩⟩⟩⟩⟩⟩⟩⟩⟩⟩⟩⟩⟩⟩⟩⟩⟩⟩⟩⟩⟩⟩⟩⟩⟩⟩⟩⟩⟩⟩⟩⟩⟩⟩⟩⟩⟩⟩⟩⟩⟩⟩⟩⟩⟩⟩⟩⟩⟩⟩⟩⟩⟩⟩⟩⟩⟩⟩⟩⟩
def zins : List zIns → Nat → Option (Nat × List Nat)
  | [], _ => none
  | i :: t, pc => cond (Nat.beq i.1 pc) (some i.2) (zins t pc)
theorem zins_mem : ∀ {l : List zIns} {pc : Nat} {u : Nat × List Nat}, zins l pc = some u → (pc, u) ∈ l
  | [], _, _, h => by cases h
  | i :: t, pc, u, h => by
    unfold zins at h
    cases hb : Nat.beq i.1 pc with
    | true =>
      rw [hb] at h
      have h1 : i.1 = pc := Nat.eq_of_beq_eq_true hb
      have h2 : i.2 = u := by simpa using h
      subst h1; subst h2
      exact List.mem_cons_self
    | false =>
      rw [hb] at h
      exact List.mem_cons_of_mem _ (zins_mem (by simpa using h))
def zhand : List (Nat × Nat × Nat × Nat × Nat) → Nat → Nat → Option Nat
  | [], _, _ => none
  | h :: t, pc, e => cond (Nat.ble h.1 pc && Nat.blt pc h.2.1) (cond (Nat.beq h.2.2.2.2 e) (some h.2.2.1) (cond (zNcN.any fun q => Nat.beq q.1 e && Nat.beq q.2 h.2.2.2.2) (zhand t pc e) none)) (zhand t pc e)
def ztk {β : Type} : Nat → List zAV → List zAV → (List zAV → List zAV → Option β) → Option β
  | 0, s, acc, k => k acc s
  | Nat.succ n, s, acc, k => match s with
    | v :: s' => ztk n s' (v :: acc) k
    | [] => none
theorem ztk_ok {β : Type} {r : β} : ∀ (n : Nat) (s acc : List zAV) (k : List zAV → List zAV → Option β), ztk n s acc k = some r → ∃ a rest, s = a ++ rest ∧ a.length = n ∧ k (a.reverse ++ acc) rest = some r
  | 0, s, acc, k, h => ⟨[], s, rfl, rfl, h⟩
  | n + 1, [], acc, k, h => by cases h
  | n + 1, v :: s, acc, k, h => by
    obtain ⟨a, rest, h1, h2, h3⟩ := ztk_ok n s (v :: acc) k h
    exact ⟨v :: a, rest, by rw [h1]; rfl, by simp [h2], by simpa using h3⟩
def zargs {β : Type} : Nat → List zAV → (zL → Option β) → Option β
  | _, [], k => k []
  | i, v :: vs, k => zN (i + zcat v) fun j => zargs j vs (fun l => k ((i, v) :: l))
def zargL : Nat → List zAV → zL
  | _, [] => []
  | i, v :: vs => (i, v) :: zargL (i + zcat v) vs
theorem zargs_eq {β : Type} : ∀ (vs : List zAV) (i : Nat) (k : zL → Option β), zargs i vs k = k (zargL i vs)
  | [], i, k => rfl
  | v :: vs, i, k => by
    unfold zargs
    rw [zN_eq, zargs_eq vs]
    rfl
theorem zcat_12 (v : zAV) : zcat v = 1 ∨ zcat v = 2 := by
  unfold zcat
  cases (Nat.beq v.1 4 || Nat.beq v.1 5 || Nat.beq v.1 6)
  · exact Or.inl rfl
  · exact Or.inr rfl
theorem zlvargs {ρ : Nat → Int32} {ad : Nat → Nat} {b td : Nat} : ∀ (vs : List zAV) (i : Nat), lv_args i (vs.map (zV ρ ad b td)) = (zargL i vs).map fun q => (q.1, zV ρ ad b td q.2)
  | [], i => rfl
  | v :: vs, i => by
    show (i, zV ρ ad b td v) :: lv_args _ _ = (i, zV ρ ad b td v) :: _
    rw [zV_cat]
    have e : (if zcat v = 2 then i + 2 else i + 1) = i + zcat v := by
      rcases zcat_12 v with h | h <;> rw [h] <;> rfl
    rw [e, zlvargs vs]
    try rfl
theorem zlgsl {ρ : Nat → Int32} {ad : Nat → Nat} {b td : Nat} : ∀ (vs : List zAV), (lg_sl (vs.map (zV ρ ad b td))).length = zcats vs
  | [] => rfl
  | v :: vs => by
    have ih := zlgsl (ρ := ρ) (ad := ad) (b := b) (td := td) vs
    have hc := zV_cat (ρ := ρ) (ad := ad) (b := b) (td := td) v
    have e : zcats (v :: vs) = zcat v + zcats vs := by simp [zcats]
    rw [e, ← ih]
    simp only [List.map_cons, lg_sl]
    rcases zcat_12 v with h | h <;> (rw [h] at hc; simp [hc, h]; try omega)
def zretok (rt : Nat) (stk : List zAV) : Bool := match stk with
  | [] => Nat.beq rt 0
  | v :: t => match t with
    | [] => match rt with
      | 1 => zisI v
      | 2 => zisB v
      | 3 => Nat.beq v.1 0 && Nat.blt v.2 65536
      | 4 => zisJ v
      | 5 => zisR v
      | 6 => zisD v
      | 7 => zisF v
      | _ => false
    | _ :: _ => false
def zretT (rt : Nat) (ret : Option FieldType) : Bool := match rt with
  | 0 => decide (ret = none)
  | 1 => decide (ret = some .int)
  | 2 => decide (ret = some .boolean)
  | 3 => decide (ret = some .char)
  | 4 => decide (ret = some .long)
  | 5 => match ret with
    | some (.object _) => true
    | some (.array _) => true
    | _ => false
  | 6 => decide (ret = some .double)
  | 7 => decide (ret = some .float)
  | _ => true
def zretI (rt : Nat) : Instr := match rt with
  | 0 => .return_
  | 1 => .ireturn
  | 2 => .ireturn
  | 3 => .ireturn
  | 4 => .lreturn
  | 5 => .areturn
  | 6 => .dreturn
  | _ => .freturn
def zhasr (kind : Nat) : Nat := match kind with
  | 0 => 1
  | 2 => 1
  | 3 => 1
  | _ => 0
/-- the handler's first instruction keeps what was thrown in a place of its own -/
def zcatch (M : zMeth) (hpc : Nat) (L : zL) (G : zH) (cu su : Nat) (k : zK) : Option zRes := zob (zins (zm_code M) hpc) fun u => cond (Nat.beq u.1 17) (cond (Nat.blt (zx u.2 0 % 4) (zm_L M)) (zfil (zkeep1 (zx u.2 0 % 4)) L fun L' => zN (hpc + 1) fun p' => k (p', L', [], G, cu, su)) none) (cond (Nat.beq u.1 18 && Nat.blt (zx u.2 0) (zm_L M)) (zfil (zkeep1 (zx u.2 0)) L fun L' => zN (hpc + 2) fun p' => k (p', L', [], G, cu, su)) none)
def zrcv (kind ci : Nat) (G : zH) (as : List zAV) : Bool := match as with
  | [] => Nat.beq (zhasr kind) 0
  | v :: _ => match kind with
    | 0 => Nat.beq v.1 3 && (match zat G v.2 with
      | some c => Nat.beq c.1 0 && Nat.beq c.2.1 ci
      | none => false)
    | 1 => true
    | 4 => true
    | _ => Nat.beq v.1 3
def zfit4 (M M' : zMeth) (cu su : Nat) : Bool := Nat.ble ((zm_rm M').1 + 1) (zm_rm M).1 && (Nat.ble (8 + (zm_L M' + 11) + (zm_rm M').2.2.2) (zm_rm M).2.2.2 && (Nat.ble (cu + (zm_rm M').2.1) (zm_rm M).2.1 && Nat.ble (su + (zm_rm M').2.2.1) (zm_rm M).2.2.1))
def zcall (P : List zMeth) (rec : zMeth → zSt → Option zRes) (M : zMeth) (st : zSt) (x : List Nat) : Option zRes := match st with
  | (pc, L, stk, G, cu, su) => zob (zat P (zx x 2)) fun M' => ztk (zx x 3 + zhasr (zx x 1)) stk [] fun as rest =>
    cond (zrcv (zx x 1) (zx x 4) G as && (zfit4 M M' cu su && (zokL G.length L && (zokA G.length rest && (Nat.ble (zcats rest) 8 && Nat.ble (zcats as) (zm_L M')))))) (zargs 0 as fun L0 => zob (rec M' (0, L0, [], G, 0, 0)) fun r => match r.1 with
      | 0 => cond (zretok (zm_rt M') r.2.2.2.2.1 && (Nat.ble r.2.2.2.2.2.2.1 (zm_rm M').2.1 && Nat.ble r.2.2.2.2.2.2.2 (zm_rm M').2.2.1)) (zN (pc + 3) fun p' => zN (cu + (zm_rm M').2.1) fun cu' => zN (su + (zm_rm M').2.2.1) fun su' => zapp r.2.2.2.2.1 rest fun stk' => rec M (p', L, stk', r.2.2.2.2.2.1, cu', su')) none
      | _ => cond (Nat.beq (zx x 1) 4) none (match zm_hh M with
        | [] => zN (cu + (zm_rm M').2.1) fun cu' => zN (su + (zm_rm M').2.2.1) fun su' => some (1, r.2.1, (pc, L, rest, r.2.2.2.2.2.1, cu', su'))
        | _ :: _ => zob (zhand (zm_hh M) pc r.2.1) fun hpc => zN (cu + (zm_rm M').2.1) fun cu' => zN (su + (zm_rm M').2.2.1) fun su' => zcatch M hpc L r.2.2.2.2.2.1 cu' su' (rec M))) none
def zrun (P : List zMeth) (ev : zEv) : Nat → zMeth → zSt → Option zRes
  | 0 => fun _ _ => none
  | Nat.succ f => fun M st => zob (zins (zm_code M) st.1) fun u => match u.1 with
    | 0 => some (0, 0, st)
    | 1 => cond (Nat.blt 5 (zm_rm M).1 && (Nat.ble (zcats st.2.2.1 + 82) (zm_rm M).2.2.2 && (Nat.ble (st.2.2.2.2.1 + 1) (zm_rm M).2.1 && Nat.ble (st.2.2.2.2.2 + 6) (zm_rm M).2.2.1))) (some (1, zx u.2 0, st)) none
    | 2 => zcall P (zrun P ev f) M st u.2
    | Nat.succ (Nat.succ (Nat.succ o)) => zob (zat zopT o) fun q => q.2.2.2 u.2 M ev st (zrun P ev f M)
/-! what a method's rows must be -/
def zexi (e : Nat) : Nat := match e with
  | 3 => 13
  | _ => 7
def zexb (e : Nat) : ByteArray := match e with
  | 3 => ⟨#[0x2a, 0x2b, 0xb7, 0x00, 0x0d, 0xb1]⟩
  | _ => ⟨#[0x2a, 0x2b, 0xb7, 0x00, 0x07, 0xb1]⟩
def zexL : List (Nat × Nat) := [(56, 0), (92, 2), (119, 3), (136, 4), (263, 1), (496, 5)]
theorem zexL_ok : ∀ q ∈ zexL, ∀ w ∈ zexF "FormRiver" q.1 (zEx q.2) (zexi q.2) (zexb q.2), (w ∈ lw_tbl ∧ goodWord w = true) ∨ w ∈ zNws := by decide +kernel
theorem zexL_ot : ∀ q ∈ zexL, ∀ w ∈ zexF "FormRiver" q.1 (zEx q.2) (zexi q.2) (zexb q.2), vx_ot w = true := by decide +kernel
theorem zexL_d : ∀ q ∈ zexL, zexD (zexi q.2) (zexb q.2) ∧ Bundle.fit (zEx q.2) = true := by unfold zexD; decide +kernel
def zchkR (M : zMeth) (pc : Nat) (x : List Nat) : Bool := Nat.beq (zx x 0) (zm_rt M) && (Nat.beq (zx x 0) 9 || decide (decode (zm_b M) pc = .ok (zretI (zx x 0), 1)))
def zchkT (M : zMeth) (pc : Nat) (x : List Nat) : Bool := decide ((zm_y M).cls = "FormRiver") && (decide (decode (zm_b M) pc = .ok (.new (zx x 2), 3)) && (decide (decode (zm_b M) (pc + 3) = .ok (.dup, 1)) &&
  ((match zx x 1 with
    | 0 => decide (decode (zm_b M) (pc + 4) = .ok (.ldc (zx x 3), 2)) && (decide (decode (zm_b M) (pc + 6) = .ok (.invokespecial (zx x 4), 3)) && decide (decode (zm_b M) (pc + 9) = .ok (.athrow, 1)))
    | _ => decide (decode (zm_b M) (pc + 4) = .ok (.ldc_w (zx x 3), 3)) && (decide (decode (zm_b M) (pc + 7) = .ok (.invokespecial (zx x 4), 3)) && decide (decode (zm_b M) (pc + 10) = .ok (.athrow, 1)))) &&
  ((match zat zStr (zx x 5) with
    | some q => decide (q.1 = "FormRiver") && Nat.beq q.2.1 (zx x 3)
    | none => false) && (hasW (zx x 6) (.classLink (zm_y M).cls (zx x 2) (zEx (zx x 0))) && (hasW (zx x 7) (.initialized (zEx (zx x 0))) && (zexL.any (fun q => Nat.beq q.1 (zx x 4) && Nat.beq q.2 (zx x 0)) && (zm_hh M).isEmpty)))))))
def zdsc (y : MethodName) (n : Nat) : Bool := decide (y.cls ≠ "java/lang/invoke/MethodHandle") && (decide (y.cls ≠ "java/lang/invoke/VarHandle") && decide ((parseMethodDescriptor y.desc).map (fun d => d.parameters.length) = some n))
def zh4 (M : zMeth) : List (Nat × Nat × Nat × Nat) := (zm_hh M).map fun q => (q.1, q.2.1, q.2.2.1, q.2.2.2.1)
def zchkC (P : List zMeth) (M : zMeth) (pc : Nat) (x : List Nat) : Bool := match zat P (zx x 2) with
  | none => false
  | some M' => zdsc (zm_y M') (zx x 3) && (hasW (zx x 7) (.initialized (zm_y M').cls) && (match zx x 1 with
    | 0 => decide (decode (zm_b M) pc = .ok (.invokevirtual (zx x 0), 3)) && (hasW (zx x 5) (.code (zm_y M') (zm_b M') (zm_L M') (zm_ret M')) && (hasW (zx x 6) (.methodLink (zm_y M).cls (zx x 0) (zm_y M')) && (hasW (zx x 8) (.instanceMethod (zm_y M')) && (hasW (zx x 9) (.selects (zm_y M').cls (zm_y M') (zm_y M')) && ((match zat vwCl (zx x 4) with
      | some q => decide (q.1 = (zm_y M').cls)
      | none => false) && (zm_hh M').isEmpty)))))
    | 1 => decide (decode (zm_b M) pc = .ok (.invokestatic (zx x 0), 3)) && (hasW (zx x 5) (.code (zm_y M') (zm_b M') (zm_L M') (zm_ret M')) && (hasW (zx x 6) (.methodLink (zm_y M).cls (zx x 0) (zm_y M')) && (hasW (zx x 8) (.static (zm_y M')) && (zm_hh M').isEmpty)))
    | 2 => decide (decode (zm_b M) pc = .ok (.invokespecial (zx x 0), 3)) && (hasW (zx x 5) (.code (zm_y M') (zm_b M') (zm_L M') none) && (decide (zm_ret M' = none) && (hasW (zx x 6) (.methodLink (zm_y M).cls (zx x 0) (zm_y M')) && (hasW (zx x 8) (.instanceMethod (zm_y M')) && (decide ((zm_y M').name = "<init>") && (zm_hh M').isEmpty)))))
    | 3 => decide (decode (zm_b M) pc = .ok (.invokespecial (zx x 0), 3)) && (hasW (zx x 5) (.code (zm_y M') (zm_b M') (zm_L M') none) && (decide (zm_ret M' = none) && (decide (Cond.methodLinkNest (zm_y M).cls (zx x 0) (zm_y M') "FormRiverModel" ∈ zNws) && (hasW (zx x 8) (.instanceMethod (zm_y M')) && (decide ((zm_y M').name = "<init>") && (zm_hh M').isEmpty)))))
    | 4 => decide (decode (zm_b M) pc = .ok (.invokestatic (zx x 0), 3)) && (hasW (zx x 5) (.codeWith (zm_y M') (zm_b M') (zm_L M') (zm_ret M') (zh4 M')) && (hasW (zx x 6) (.methodLink (zm_y M).cls (zx x 0) (zm_y M')) && hasW (zx x 8) (.static (zm_y M'))))
    | _ => false))
def zchkI (P : List zMeth) (M : zMeth) (i : zIns) : Bool := match i.2.1 with
  | 0 => zchkR M i.1 i.2.2
  | 1 => zchkT M i.1 i.2.2
  | 2 => zchkC P M i.1 i.2.2
  | Nat.succ (Nat.succ (Nat.succ o)) => match zat zopT o with
    | some q => decide (decode (zm_b M) i.1 = .ok (q.1 i.1 i.2.2, q.2.1)) && q.2.2.1 M i.2.2
    | none => false
/-- the rows of the table of handlers: their classes by the pool -/
def zchkH (M : zMeth) (pl : List Nat) : Bool := (List.range (zm_hh M).length).all fun j => match zat (zm_hh M) j with
  | some h => hasW (zx pl j) (.classLink (zm_y M).cls h.2.2.2.1 (zEx h.2.2.2.2)) && !(Nat.beq h.2.2.2.1 0)
  | none => false
def zchk (P : List zMeth) (M : zMeth) : Prop := (∀ i ∈ zm_code M, zchkI P M i = true) ∧ plainName (zm_y M).cls = true ∧ zretT (zm_rt M) (zm_ret M) = true ∧ ∃ pl : List Nat, zchkH M pl = true
