section
-- ===== PART A: goes FIRST, ahead of the names: the tables' words, and 'selects' of the private methods out of them =====
/-- a private method of a class that the tables say can be made, by its rows of tables_1 -/
def lw_okq (q : MethodName × Nat) : Prop := (q.1.cls ≠ "java/lang/invoke/MethodHandle" ∧ q.1.cls ≠ "java/lang/invoke/VarHandle") ∧ Cond.instantiable q.1.cls q.2 ∈ tables_1 ∧ Cond.privateMethod q.1 ∈ tables_1 ∧ Cond.instanceMethod q.1 ∈ tables_1
theorem lw_p0 : lw_okq (⟨"PicturePath", "addStep", "(I[I)I"⟩, 6) := ⟨⟨by decide +kernel, by decide +kernel⟩, List.mem_of_getElem? (i := 12) (by decide +kernel), List.mem_of_getElem? (i := 176) (by decide +kernel), List.mem_of_getElem? (i := 177) (by decide +kernel)⟩
theorem lw_p1 : lw_okq (⟨"PicturePath$Maker", "takeCells", "(LPicturePath$Cells;LPicturePath$Demand;)V"⟩, 3) := ⟨⟨by decide +kernel, by decide +kernel⟩, List.mem_of_getElem? (i := 95) (by decide +kernel), List.mem_of_getElem? (i := 297) (by decide +kernel), List.mem_of_getElem? (i := 298) (by decide +kernel)⟩
theorem lw_p2 : lw_okq (⟨"PicturePath$Maker", "makeStage", "(LPicturePath$Cells;LPicturePath$Steps;LPicturePath$Demand;I)V"⟩, 3) := ⟨⟨by decide +kernel, by decide +kernel⟩, List.mem_of_getElem? (i := 95) (by decide +kernel), List.mem_of_getElem? (i := 306) (by decide +kernel), List.mem_of_getElem? (i := 307) (by decide +kernel)⟩
theorem lw_p3 : lw_okq (⟨"PicturePath$Maker", "behindStep", "(LPicturePath$Cells;I[IIII)I"⟩, 3) := ⟨⟨by decide +kernel, by decide +kernel⟩, List.mem_of_getElem? (i := 95) (by decide +kernel), List.mem_of_getElem? (i := 310) (by decide +kernel), List.mem_of_getElem? (i := 311) (by decide +kernel)⟩
theorem lw_p4 : lw_okq (⟨"PicturePath$Maker", "mended", "(LPicturePath$Cells;II)I"⟩, 3) := ⟨⟨by decide +kernel, by decide +kernel⟩, List.mem_of_getElem? (i := 95) (by decide +kernel), List.mem_of_getElem? (i := 321) (by decide +kernel), List.mem_of_getElem? (i := 322) (by decide +kernel)⟩
theorem lw_p5 : lw_okq (⟨"PicturePath$Maker", "middle", "(LPicturePath$Cells;II)I"⟩, 3) := ⟨⟨by decide +kernel, by decide +kernel⟩, List.mem_of_getElem? (i := 95) (by decide +kernel), List.mem_of_getElem? (i := 330) (by decide +kernel), List.mem_of_getElem? (i := 331) (by decide +kernel)⟩
theorem lw_p6 : lw_okq (⟨"PicturePath$Maker", "putFiveInOrder", "()V"⟩, 3) := ⟨⟨by decide +kernel, by decide +kernel⟩, List.mem_of_getElem? (i := 95) (by decide +kernel), List.mem_of_getElem? (i := 334) (by decide +kernel), List.mem_of_getElem? (i := 335) (by decide +kernel)⟩
theorem lw_p7 : lw_okq (⟨"PicturePath$Maker", "filled", "(LPicturePath$Cells;III)I"⟩, 3) := ⟨⟨by decide +kernel, by decide +kernel⟩, List.mem_of_getElem? (i := 95) (by decide +kernel), List.mem_of_getElem? (i := 338) (by decide +kernel), List.mem_of_getElem? (i := 339) (by decide +kernel)⟩
theorem lw_p8 : lw_okq (⟨"PicturePath$Maker", "mingled", "([IIII)I"⟩, 3) := ⟨⟨by decide +kernel, by decide +kernel⟩, List.mem_of_getElem? (i := 95) (by decide +kernel), List.mem_of_getElem? (i := 342) (by decide +kernel), List.mem_of_getElem? (i := 343) (by decide +kernel)⟩
theorem lw_p9 : lw_okq (⟨"PicturePath", "mixedCells", "(J)J"⟩, 6) := ⟨⟨by decide +kernel, by decide +kernel⟩, List.mem_of_getElem? (i := 12) (by decide +kernel), List.mem_of_getElem? (i := 413) (by decide +kernel), List.mem_of_getElem? (i := 414) (by decide +kernel)⟩
theorem lw_p10 : lw_okq (⟨"PicturePath", "mixedSteps", "(J)J"⟩, 6) := ⟨⟨by decide +kernel, by decide +kernel⟩, List.mem_of_getElem? (i := 12) (by decide +kernel), List.mem_of_getElem? (i := 417) (by decide +kernel), List.mem_of_getElem? (i := 418) (by decide +kernel)⟩
theorem lw_p11 : lw_okq (⟨"PicturePath", "mixedPicture", "(J)J"⟩, 6) := ⟨⟨by decide +kernel, by decide +kernel⟩, List.mem_of_getElem? (i := 12) (by decide +kernel), List.mem_of_getElem? (i := 425) (by decide +kernel), List.mem_of_getElem? (i := 426) (by decide +kernel)⟩
theorem lw_p12 : lw_okq (⟨"PicturePathModel", "isCell", "(II)Z"⟩, 18) := ⟨⟨by decide +kernel, by decide +kernel⟩, List.mem_of_getElem? (i := 429) (by decide +kernel), List.mem_of_getElem? (i := 501) (by decide +kernel), List.mem_of_getElem? (i := 502) (by decide +kernel)⟩
theorem lw_p13 : lw_okq (⟨"PicturePathModel", "barred", "(I)I"⟩, 18) := ⟨⟨by decide +kernel, by decide +kernel⟩, List.mem_of_getElem? (i := 429) (by decide +kernel), List.mem_of_getElem? (i := 513) (by decide +kernel), List.mem_of_getElem? (i := 514) (by decide +kernel)⟩
theorem lw_p14 : lw_okq (⟨"PicturePathModel", "measure", "()V"⟩, 18) := ⟨⟨by decide +kernel, by decide +kernel⟩, List.mem_of_getElem? (i := 429) (by decide +kernel), List.mem_of_getElem? (i := 517) (by decide +kernel), List.mem_of_getElem? (i := 518) (by decide +kernel)⟩
theorem lw_p15 : lw_okq (⟨"PicturePathModel", "hasColours", "()Z"⟩, 18) := ⟨⟨by decide +kernel, by decide +kernel⟩, List.mem_of_getElem? (i := 429) (by decide +kernel), List.mem_of_getElem? (i := 521) (by decide +kernel), List.mem_of_getElem? (i := 522) (by decide +kernel)⟩
def lw_privs_1 : List (MethodName × Nat) := [(⟨"PicturePath", "addStep", "(I[I)I"⟩, 6), (⟨"PicturePath$Maker", "takeCells", "(LPicturePath$Cells;LPicturePath$Demand;)V"⟩, 3), (⟨"PicturePath$Maker", "makeStage", "(LPicturePath$Cells;LPicturePath$Steps;LPicturePath$Demand;I)V"⟩, 3), (⟨"PicturePath$Maker", "behindStep", "(LPicturePath$Cells;I[IIII)I"⟩, 3), (⟨"PicturePath$Maker", "mended", "(LPicturePath$Cells;II)I"⟩, 3), (⟨"PicturePath$Maker", "middle", "(LPicturePath$Cells;II)I"⟩, 3), (⟨"PicturePath$Maker", "putFiveInOrder", "()V"⟩, 3), (⟨"PicturePath$Maker", "filled", "(LPicturePath$Cells;III)I"⟩, 3), (⟨"PicturePath$Maker", "mingled", "([IIII)I"⟩, 3), (⟨"PicturePath", "mixedCells", "(J)J"⟩, 6), (⟨"PicturePath", "mixedSteps", "(J)J"⟩, 6), (⟨"PicturePath", "mixedPicture", "(J)J"⟩, 6), (⟨"PicturePathModel", "isCell", "(II)Z"⟩, 18), (⟨"PicturePathModel", "barred", "(I)I"⟩, 18), (⟨"PicturePathModel", "measure", "()V"⟩, 18), (⟨"PicturePathModel", "hasColours", "()Z"⟩, 18)]
theorem lw_r1 : ∀ q ∈ lw_privs_1, lw_okq q := List.forall_mem_cons.mpr ⟨lw_p0, List.forall_mem_cons.mpr ⟨lw_p1, List.forall_mem_cons.mpr ⟨lw_p2, List.forall_mem_cons.mpr ⟨lw_p3, List.forall_mem_cons.mpr ⟨lw_p4, List.forall_mem_cons.mpr ⟨lw_p5, List.forall_mem_cons.mpr ⟨lw_p6, List.forall_mem_cons.mpr ⟨lw_p7, List.forall_mem_cons.mpr ⟨lw_p8, List.forall_mem_cons.mpr ⟨lw_p9, List.forall_mem_cons.mpr ⟨lw_p10, List.forall_mem_cons.mpr ⟨lw_p11, List.forall_mem_cons.mpr ⟨lw_p12, List.forall_mem_cons.mpr ⟨lw_p13, List.forall_mem_cons.mpr ⟨lw_p14, List.forall_mem_cons.mpr ⟨lw_p15, fun _ h => absurd h List.not_mem_nil⟩⟩⟩⟩⟩⟩⟩⟩⟩⟩⟩⟩⟩⟩⟩⟩
theorem lw_p16 : lw_okq (⟨"PicturePathModel", "come", "(I)I"⟩, 18) := ⟨⟨by decide +kernel, by decide +kernel⟩, List.mem_of_getElem? (i := 429) (by decide +kernel), List.mem_of_getElem? (i := 525) (by decide +kernel), List.mem_of_getElem? (i := 526) (by decide +kernel)⟩
theorem lw_p17 : lw_okq (⟨"PicturePathModel", "make", "(I)V"⟩, 18) := ⟨⟨by decide +kernel, by decide +kernel⟩, List.mem_of_getElem? (i := 429) (by decide +kernel), List.mem_of_getElem? (i := 569) (by decide +kernel), List.mem_of_getElem? (i := 570) (by decide +kernel)⟩
theorem lw_p18 : lw_okq (⟨"PicturePathModel", "made", "(IIII)I"⟩, 18) := ⟨⟨by decide +kernel, by decide +kernel⟩, List.mem_of_getElem? (i := 429) (by decide +kernel), List.mem_of_getElem? (i := 576) (by decide +kernel), List.mem_of_getElem? (i := 577) (by decide +kernel)⟩
theorem lw_p19 : lw_okq (⟨"PicturePathModel", "mended", "(III)I"⟩, 18) := ⟨⟨by decide +kernel, by decide +kernel⟩, List.mem_of_getElem? (i := 429) (by decide +kernel), List.mem_of_getElem? (i := 583) (by decide +kernel), List.mem_of_getElem? (i := 584) (by decide +kernel)⟩
theorem lw_p20 : lw_okq (⟨"PicturePathModel", "isPlace", "(III)Z"⟩, 18) := ⟨⟨by decide +kernel, by decide +kernel⟩, List.mem_of_getElem? (i := 429) (by decide +kernel), List.mem_of_getElem? (i := 593) (by decide +kernel), List.mem_of_getElem? (i := 594) (by decide +kernel)⟩
theorem lw_p21 : lw_okq (⟨"PicturePathModel", "middle", "(III)I"⟩, 18) := ⟨⟨by decide +kernel, by decide +kernel⟩, List.mem_of_getElem? (i := 429) (by decide +kernel), List.mem_of_getElem? (i := 597) (by decide +kernel), List.mem_of_getElem? (i := 598) (by decide +kernel)⟩
theorem lw_p22 : lw_okq (⟨"PicturePathModel", "coloured", "(IIII)I"⟩, 18) := ⟨⟨by decide +kernel, by decide +kernel⟩, List.mem_of_getElem? (i := 429) (by decide +kernel), List.mem_of_getElem? (i := 601) (by decide +kernel), List.mem_of_getElem? (i := 602) (by decide +kernel)⟩
theorem lw_p23 : lw_okq (⟨"PicturePathModel", "matrixed", "(IIII)I"⟩, 18) := ⟨⟨by decide +kernel, by decide +kernel⟩, List.mem_of_getElem? (i := 429) (by decide +kernel), List.mem_of_getElem? (i := 605) (by decide +kernel), List.mem_of_getElem? (i := 606) (by decide +kernel)⟩
theorem lw_p24 : lw_okq (⟨"PicturePathModel", "curved", "(II)I"⟩, 18) := ⟨⟨by decide +kernel, by decide +kernel⟩, List.mem_of_getElem? (i := 429) (by decide +kernel), List.mem_of_getElem? (i := 609) (by decide +kernel), List.mem_of_getElem? (i := 610) (by decide +kernel)⟩
theorem lw_p25 : lw_okq (⟨"PicturePathModel", "halved", "(IIII)I"⟩, 18) := ⟨⟨by decide +kernel, by decide +kernel⟩, List.mem_of_getElem? (i := 429) (by decide +kernel), List.mem_of_getElem? (i := 613) (by decide +kernel), List.mem_of_getElem? (i := 614) (by decide +kernel)⟩
theorem lw_p26 : lw_okq (⟨"PicturePathModel", "isPart", "(IIII)Z"⟩, 18) := ⟨⟨by decide +kernel, by decide +kernel⟩, List.mem_of_getElem? (i := 429) (by decide +kernel), List.mem_of_getElem? (i := 621) (by decide +kernel), List.mem_of_getElem? (i := 622) (by decide +kernel)⟩
theorem lw_p27 : lw_okq (⟨"PicturePathModel", "forget", "()V"⟩, 18) := ⟨⟨by decide +kernel, by decide +kernel⟩, List.mem_of_getElem? (i := 429) (by decide +kernel), List.mem_of_getElem? (i := 629) (by decide +kernel), List.mem_of_getElem? (i := 630) (by decide +kernel)⟩
theorem lw_p28 : lw_okq (⟨"PicturePathModel", "trace", "()V"⟩, 18) := ⟨⟨by decide +kernel, by decide +kernel⟩, List.mem_of_getElem? (i := 429) (by decide +kernel), List.mem_of_getElem? (i := 633) (by decide +kernel), List.mem_of_getElem? (i := 634) (by decide +kernel)⟩
theorem lw_p29 : lw_okq (⟨"PicturePathModel", "countFor", "(IIII)V"⟩, 18) := ⟨⟨by decide +kernel, by decide +kernel⟩, List.mem_of_getElem? (i := 429) (by decide +kernel), List.mem_of_getElem? (i := 637) (by decide +kernel), List.mem_of_getElem? (i := 638) (by decide +kernel)⟩
theorem lw_p30 : lw_okq (⟨"PicturePathModel", "touch", "(IIII)V"⟩, 18) := ⟨⟨by decide +kernel, by decide +kernel⟩, List.mem_of_getElem? (i := 429) (by decide +kernel), List.mem_of_getElem? (i := 641) (by decide +kernel), List.mem_of_getElem? (i := 642) (by decide +kernel)⟩
theorem lw_p31 : lw_okq (⟨"PicturePathModel", "mix", "(J)V"⟩, 18) := ⟨⟨by decide +kernel, by decide +kernel⟩, List.mem_of_getElem? (i := 429) (by decide +kernel), List.mem_of_getElem? (i := 662) (by decide +kernel), List.mem_of_getElem? (i := 663) (by decide +kernel)⟩
def lw_privs_2 : List (MethodName × Nat) := [(⟨"PicturePathModel", "come", "(I)I"⟩, 18), (⟨"PicturePathModel", "make", "(I)V"⟩, 18), (⟨"PicturePathModel", "made", "(IIII)I"⟩, 18), (⟨"PicturePathModel", "mended", "(III)I"⟩, 18), (⟨"PicturePathModel", "isPlace", "(III)Z"⟩, 18), (⟨"PicturePathModel", "middle", "(III)I"⟩, 18), (⟨"PicturePathModel", "coloured", "(IIII)I"⟩, 18), (⟨"PicturePathModel", "matrixed", "(IIII)I"⟩, 18), (⟨"PicturePathModel", "curved", "(II)I"⟩, 18), (⟨"PicturePathModel", "halved", "(IIII)I"⟩, 18), (⟨"PicturePathModel", "isPart", "(IIII)Z"⟩, 18), (⟨"PicturePathModel", "forget", "()V"⟩, 18), (⟨"PicturePathModel", "trace", "()V"⟩, 18), (⟨"PicturePathModel", "countFor", "(IIII)V"⟩, 18), (⟨"PicturePathModel", "touch", "(IIII)V"⟩, 18), (⟨"PicturePathModel", "mix", "(J)V"⟩, 18)]
theorem lw_r2 : ∀ q ∈ lw_privs_2, lw_okq q := List.forall_mem_cons.mpr ⟨lw_p16, List.forall_mem_cons.mpr ⟨lw_p17, List.forall_mem_cons.mpr ⟨lw_p18, List.forall_mem_cons.mpr ⟨lw_p19, List.forall_mem_cons.mpr ⟨lw_p20, List.forall_mem_cons.mpr ⟨lw_p21, List.forall_mem_cons.mpr ⟨lw_p22, List.forall_mem_cons.mpr ⟨lw_p23, List.forall_mem_cons.mpr ⟨lw_p24, List.forall_mem_cons.mpr ⟨lw_p25, List.forall_mem_cons.mpr ⟨lw_p26, List.forall_mem_cons.mpr ⟨lw_p27, List.forall_mem_cons.mpr ⟨lw_p28, List.forall_mem_cons.mpr ⟨lw_p29, List.forall_mem_cons.mpr ⟨lw_p30, List.forall_mem_cons.mpr ⟨lw_p31, fun _ h => absurd h List.not_mem_nil⟩⟩⟩⟩⟩⟩⟩⟩⟩⟩⟩⟩⟩⟩⟩⟩
def lw_privs : List (MethodName × Nat) := lw_privs_1 ++ (lw_privs_2)
def lw_tbl : List Cond := k2_sels lw_privs ++ tables_1
theorem lw_privs_ok : ∀ q ∈ lw_privs, lw_okq q := by
  show ∀ q ∈ lw_privs_1 ++ (lw_privs_2), lw_okq q
  exact List.forall_mem_append.mpr ⟨lw_r1, lw_r2⟩
end
section
def RX0 : String := "PicturePath$Cells"
def TX0 : u_T := fun k => match k with
  | 0 => ("PicturePath$Cells", "width", "I", false)
  | 1 => ("PicturePath$Cells", "height", "I", false)
  | 2 => ("PicturePath$Cells", "numbers", "[I", true)
  | _ => ("PicturePath$Cells", "deadOnes", "[Z", true)
def tyX0 : Nat → FieldType := fun k => match k with
  | 0 => .int
  | 1 => .int
  | 2 => .array .int
  | _ => .array .boolean
abbrev wsX00 : List Cond := u_ws RX0 TX0 4
theorem nmX0 : ∀ a, a < 4 → ∀ b, b < 4 → a ≠ b → (TX0 a).2.1 ≠ (TX0 b).2.1 := by decide +kernel
theorem tyX0_ok : ∀ k, k < 4 → parseFieldDescriptor (TX0 k).2.2.1 = some (tyX0 k) := by decide +kernel
abbrev cX0_init : ByteArray := prog_2_method_1_code
def yX0_init : MethodName := ⟨RX0, "<init>", "()V"⟩
abbrev cX0_renew : ByteArray := prog_2_method_2_code
def yX0_renew : MethodName := ⟨RX0, "renew", "(II)V"⟩
abbrev cX0_hasPlace : ByteArray := prog_2_method_3_code
def yX0_hasPlace : MethodName := ⟨RX0, "hasPlace", "(II)Z"⟩
abbrev cX0_howManyDead : ByteArray := prog_2_method_4_code
def yX0_howManyDead : MethodName := ⟨RX0, "howManyDead", "()I"⟩
def RX1 : String := "PicturePath$Demand"
def TX1 : u_T := fun k => match k with
  | 0 => ("PicturePath$Demand", "top", "I", false)
  | _ => ("PicturePath$Demand", "rows", "[[I", true)
def tyX1 : Nat → FieldType := fun k => match k with
  | 0 => .int
  | _ => .array (.array .int)
abbrev wsX10 : List Cond := u_ws RX1 TX1 2
theorem nmX1 : ∀ a, a < 2 → ∀ b, b < 2 → a ≠ b → (TX1 a).2.1 ≠ (TX1 b).2.1 := by decide +kernel
theorem tyX1_ok : ∀ k, k < 2 → parseFieldDescriptor (TX1 k).2.2.1 = some (tyX1 k) := by decide +kernel
abbrev cX1_init : ByteArray := prog_3_method_1_code
def yX1_init : MethodName := ⟨RX1, "<init>", "()V"⟩
abbrev cX1_begin : ByteArray := prog_3_method_2_code
def yX1_begin : MethodName := ⟨RX1, "begin", "(I)V"⟩
abbrev cX1_askFor : ByteArray := prog_3_method_3_code
def yX1_askFor : MethodName := ⟨RX1, "askFor", "(IIIII)V"⟩
abbrev cX1_isAsked : ByteArray := prog_3_method_4_code
def yX1_isAsked : MethodName := ⟨RX1, "isAsked", "(IIII)Z"⟩
abbrev cX1_cellsAsked : ByteArray := prog_3_method_5_code
def yX1_cellsAsked : MethodName := ⟨RX1, "cellsAsked", "()I"⟩
abbrev cX1_traceBack : ByteArray := prog_3_method_6_code
def yX1_traceBack : MethodName := ⟨RX1, "traceBack", "(LPicturePath$Steps;)V"⟩
abbrev cX1_traceStep : ByteArray := prog_3_method_7_code
def yX1_traceStep : MethodName := ⟨RX1, "traceStep", "(I[I[I[I)V"⟩
abbrev cX1_traceNear : ByteArray := prog_3_method_8_code
def yX1_traceNear : MethodName := ⟨RX1, "traceNear", "([I[I[I)V"⟩
abbrev cX1_traceColours : ByteArray := prog_3_method_9_code
def yX1_traceColours : MethodName := ⟨RX1, "traceColours", "([I[I[I)V"⟩
abbrev cX1_columnsOf : ByteArray := prog_3_method_10_code
def yX1_columnsOf : MethodName := ⟨RX1, "columnsOf", "(II)I"⟩
abbrev cX1_traceMatrix : ByteArray := prog_3_method_11_code
def yX1_traceMatrix : MethodName := ⟨RX1, "traceMatrix", "([I[I)V"⟩
abbrev cX1_traceHalf : ByteArray := prog_3_method_12_code
def yX1_traceHalf : MethodName := ⟨RX1, "traceHalf", "([I[I[I)V"⟩
abbrev cX1_doubled : ByteArray := prog_3_method_13_code
def yX1_doubled : MethodName := ⟨RX1, "doubled", "(I)I"⟩
def RX2 : String := "PicturePath$Maker"
def TX2 : u_T := fun k => match k with
  | 0 => ("PicturePath$Maker", "ahead", "[I", false)
  | 1 => ("PicturePath$Maker", "behind", "[I", false)
  | _ => ("PicturePath$Maker", "five", "[I", true)
def tyX2 : Nat → FieldType := fun k => match k with
  | 0 => .array .int
  | 1 => .array .int
  | _ => .array .int
abbrev wsX20 : List Cond := u_ws RX2 TX2 3
theorem nmX2 : ∀ a, a < 3 → ∀ b, b < 3 → a ≠ b → (TX2 a).2.1 ≠ (TX2 b).2.1 := by decide +kernel
theorem tyX2_ok : ∀ k, k < 3 → parseFieldDescriptor (TX2 k).2.2.1 = some (tyX2 k) := by decide +kernel
abbrev cX2_init : ByteArray := prog_4_method_1_code
def yX2_init : MethodName := ⟨RX2, "<init>", "()V"⟩
abbrev cX2_make : ByteArray := prog_4_method_2_code
def yX2_make : MethodName := ⟨RX2, "make", "(LPicturePath$Cells;LPicturePath$Steps;LPicturePath$Demand;)V"⟩
abbrev cX2_made : ByteArray := prog_4_method_3_code
def yX2_made : MethodName := ⟨RX2, "made", "(III)I"⟩
abbrev cX2_sumOf : ByteArray := prog_4_method_4_code
def yX2_sumOf : MethodName := ⟨RX2, "sumOf", "(IIIII)I"⟩
abbrev cX2_leastOf : ByteArray := prog_4_method_5_code
def yX2_leastOf : MethodName := ⟨RX2, "leastOf", "(III)I"⟩
abbrev cX2_greatestOf : ByteArray := prog_4_method_6_code
def yX2_greatestOf : MethodName := ⟨RX2, "greatestOf", "(III)I"⟩
abbrev cX2_takeCells : ByteArray := prog_4_method_7_code
def yX2_takeCells : MethodName := ⟨RX2, "takeCells", "(LPicturePath$Cells;LPicturePath$Demand;)V"⟩
abbrev cX2_makeStage : ByteArray := prog_4_method_8_code
def yX2_makeStage : MethodName := ⟨RX2, "makeStage", "(LPicturePath$Cells;LPicturePath$Steps;LPicturePath$Demand;I)V"⟩
abbrev cX2_behindStep : ByteArray := prog_4_method_9_code
def yX2_behindStep : MethodName := ⟨RX2, "behindStep", "(LPicturePath$Cells;I[IIII)I"⟩
abbrev cX2_mended : ByteArray := prog_4_method_10_code
def yX2_mended : MethodName := ⟨RX2, "mended", "(LPicturePath$Cells;II)I"⟩
abbrev cX2_middle : ByteArray := prog_4_method_11_code
def yX2_middle : MethodName := ⟨RX2, "middle", "(LPicturePath$Cells;II)I"⟩
abbrev cX2_putFiveInOrder : ByteArray := prog_4_method_12_code
def yX2_putFiveInOrder : MethodName := ⟨RX2, "putFiveInOrder", "()V"⟩
abbrev cX2_filled : ByteArray := prog_4_method_13_code
def yX2_filled : MethodName := ⟨RX2, "filled", "(LPicturePath$Cells;III)I"⟩
abbrev cX2_mingled : ByteArray := prog_4_method_14_code
def yX2_mingled : MethodName := ⟨RX2, "mingled", "([IIII)I"⟩
abbrev cX2_bent : ByteArray := prog_4_method_15_code
def yX2_bent : MethodName := ⟨RX2, "bent", "([II)I"⟩
def RX3 : String := "PicturePath$Steps"
def TX3 : u_T := fun k => match k with
  | 0 => ("PicturePath$Steps", "length", "I", false)
  | 1 => ("PicturePath$Steps", "kinds", "[I", true)
  | 2 => ("PicturePath$Steps", "told", "[[I", true)
  | _ => ("PicturePath$Steps", "facts", "[[I", true)
def tyX3 : Nat → FieldType := fun k => match k with
  | 0 => .int
  | 1 => .array .int
  | 2 => .array (.array .int)
  | _ => .array (.array .int)
abbrev wsX30 : List Cond := u_ws RX3 TX3 4
theorem nmX3 : ∀ a, a < 4 → ∀ b, b < 4 → a ≠ b → (TX3 a).2.1 ≠ (TX3 b).2.1 := by decide +kernel
theorem tyX3_ok : ∀ k, k < 4 → parseFieldDescriptor (TX3 k).2.2.1 = some (tyX3 k) := by decide +kernel
abbrev cX3_init : ByteArray := prog_5_method_1_code
def yX3_init : MethodName := ⟨RX3, "<init>", "()V"⟩
abbrev cX3_restart : ByteArray := prog_5_method_2_code
def yX3_restart : MethodName := ⟨RX3, "restart", "(II)V"⟩
abbrev cX3_mayTake : ByteArray := prog_5_method_3_code
def yX3_mayTake : MethodName := ⟨RX3, "mayTake", "(I)Z"⟩
abbrev cX3_append : ByteArray := prog_5_method_4_code
def yX3_append : MethodName := ⟨RX3, "append", "(I[I)V"⟩
abbrev cX3_lagOf : ByteArray := prog_5_method_5_code
def yX3_lagOf : MethodName := ⟨RX3, "lagOf", "(II)I"⟩
abbrev cX3_hasStage : ByteArray := prog_5_method_6_code
def yX3_hasStage : MethodName := ⟨RX3, "hasStage", "(I)Z"⟩
abbrev cX3_hasPlane : ByteArray := prog_5_method_7_code
def yX3_hasPlane : MethodName := ⟨RX3, "hasPlane", "(II)Z"⟩
abbrev cX3_holdsPart : ByteArray := prog_5_method_8_code
def yX3_holdsPart : MethodName := ⟨RX3, "holdsPart", "(IIIII)Z"⟩
def RX4 : String := "PicturePath"
def TX4 : u_T := fun k => match k with
  | 0 => ("PicturePath", "cells", "LPicturePath$Cells;", true)
  | 1 => ("PicturePath", "steps", "LPicturePath$Steps;", true)
  | 2 => ("PicturePath", "demand", "LPicturePath$Demand;", true)
  | 3 => ("PicturePath", "maker", "LPicturePath$Maker;", true)
  | 4 => ("PicturePath", "matrixAtHand", "[I", true)
  | _ => ("PicturePath", "curveAtHand", "[I", true)
def tyX4 : Nat → FieldType := fun k => match k with
  | 0 => .object "PicturePath$Cells"
  | 1 => .object "PicturePath$Steps"
  | 2 => .object "PicturePath$Demand"
  | 3 => .object "PicturePath$Maker"
  | 4 => .array .int
  | _ => .array .int
abbrev wsX40 : List Cond := u_ws RX4 TX4 6
theorem nmX4 : ∀ a, a < 6 → ∀ b, b < 6 → a ≠ b → (TX4 a).2.1 ≠ (TX4 b).2.1 := by decide +kernel
theorem tyX4_ok : ∀ k, k < 6 → parseFieldDescriptor (TX4 k).2.2.1 = some (tyX4 k) := by decide +kernel
abbrev cX4_init : ByteArray := prog_1_method_1_code
def yX4_init : MethodName := ⟨RX4, "<init>", "()V"⟩
abbrev cX4_size : ByteArray := prog_1_method_2_code
def yX4_size : MethodName := ⟨RX4, "size", "(II)I"⟩
abbrev cX4_cell : ByteArray := prog_1_method_3_code
def yX4_cell : MethodName := ⟨RX4, "cell", "(III)I"⟩
abbrev cX4_dead : ByteArray := prog_1_method_4_code
def yX4_dead : MethodName := ⟨RX4, "dead", "(IIZ)I"⟩
abbrev cX4_black : ByteArray := prog_1_method_5_code
def yX4_black : MethodName := ⟨RX4, "black", "(I)I"⟩
abbrev cX4_gain : ByteArray := prog_1_method_6_code
def yX4_gain : MethodName := ⟨RX4, "gain", "(III)I"⟩
abbrev cX4_step : ByteArray := prog_1_method_7_code
def yX4_step : MethodName := ⟨RX4, "step", "(I)I"⟩
abbrev cX4_entry : ByteArray := prog_1_method_8_code
def yX4_entry : MethodName := ⟨RX4, "entry", "(II)I"⟩
abbrev cX4_matrix : ByteArray := prog_1_method_9_code
def yX4_matrix : MethodName := ⟨RX4, "matrix", "()I"⟩
abbrev cX4_point : ByteArray := prog_1_method_10_code
def yX4_point : MethodName := ⟨RX4, "point", "(II)I"⟩
abbrev cX4_curve : ByteArray := prog_1_method_11_code
def yX4_curve : MethodName := ⟨RX4, "curve", "()I"⟩
abbrev cX4_undo : ByteArray := prog_1_method_12_code
def yX4_undo : MethodName := ⟨RX4, "undo", "()I"⟩
abbrev cX4_kind : ByteArray := prog_1_method_13_code
def yX4_kind : MethodName := ⟨RX4, "kind", "(I)I"⟩
abbrev cX4_stage : ByteArray := prog_1_method_14_code
def yX4_stage : MethodName := ⟨RX4, "stage", "(II)I"⟩
abbrev cX4_at : ByteArray := prog_1_method_15_code
def yX4_at : MethodName := ⟨RX4, "at", "(IIII)I"⟩
abbrev cX4_part : ByteArray := prog_1_method_16_code
def yX4_part : MethodName := ⟨RX4, "part", "(IIIII)I"⟩
abbrev cX4_needs : ByteArray := prog_1_method_17_code
def yX4_needs : MethodName := ⟨RX4, "needs", "(IIII)I"⟩
abbrev cX4_counts : ByteArray := prog_1_method_18_code
def yX4_counts : MethodName := ⟨RX4, "counts", "(IIIII)I"⟩
abbrev cX4_bound : ByteArray := prog_1_method_19_code
def yX4_bound : MethodName := ⟨RX4, "bound", "(II)I"⟩
abbrev cX4_count : ByteArray := prog_1_method_20_code
def yX4_count : MethodName := ⟨RX4, "count", "(I)I"⟩
abbrev cX4_digest : ByteArray := prog_1_method_21_code
def yX4_digest : MethodName := ⟨RX4, "digest", "()J"⟩
abbrev cX4_addStep : ByteArray := prog_1_method_22_code
def yX4_addStep : MethodName := ⟨RX4, "addStep", "(I[I)I"⟩
abbrev cX4_mixedCells : ByteArray := prog_1_method_23_code
def yX4_mixedCells : MethodName := ⟨RX4, "mixedCells", "(J)J"⟩
abbrev cX4_mixedSteps : ByteArray := prog_1_method_24_code
def yX4_mixedSteps : MethodName := ⟨RX4, "mixedSteps", "(J)J"⟩
abbrev cX4_mixedPicture : ByteArray := prog_1_method_25_code
def yX4_mixedPicture : MethodName := ⟨RX4, "mixedPicture", "(J)J"⟩
abbrev cX4_mixedRow : ByteArray := prog_1_method_26_code
def yX4_mixedRow : MethodName := ⟨RX4, "mixedRow", "(J[II)J"⟩
abbrev cX4_mixed : ByteArray := prog_1_method_27_code
def yX4_mixed : MethodName := ⟨RX4, "mixed", "(JJ)J"⟩
abbrev cX4_isWithin : ByteArray := prog_1_method_28_code
def yX4_isWithin : MethodName := ⟨RX4, "isWithin", "(III)Z"⟩
abbrev cX4_placeOf : ByteArray := prog_1_method_29_code
def yX4_placeOf : MethodName := ⟨RX4, "placeOf", "(II)I"⟩
abbrev cX4_colourOf : ByteArray := prog_1_method_30_code
def yX4_colourOf : MethodName := ⟨RX4, "colourOf", "(II)I"⟩
def RX5 : String := "PicturePathModel"
def TX5 : u_T := fun k => match k with
  | 0 => ("PicturePathModel", "width", "I", false)
  | 1 => ("PicturePathModel", "height", "I", false)
  | 2 => ("PicturePathModel", "cells", "[I", true)
  | 3 => ("PicturePathModel", "isDead", "[Z", true)
  | 4 => ("PicturePathModel", "steps", "I", false)
  | 5 => ("PicturePathModel", "kinds", "[I", true)
  | 6 => ("PicturePathModel", "numbers", "[I", true)
  | 7 => ("PicturePathModel", "entries", "[I", true)
  | 8 => ("PicturePathModel", "points", "[I", true)
  | 9 => ("PicturePathModel", "wide", "[I", true)
  | 10 => ("PicturePathModel", "high", "[I", true)
  | 11 => ("PicturePathModel", "planes", "[I", true)
  | 12 => ("PicturePathModel", "lags", "[I", true)
  | 13 => ("PicturePathModel", "scales", "[I", true)
  | 14 => ("PicturePathModel", "picture", "[I", true)
  | 15 => ("PicturePathModel", "counted", "[Z", true)
  | 16 => ("PicturePathModel", "five", "[I", true)
  | _ => ("PicturePathModel", "h", "J", false)
def tyX5 : Nat → FieldType := fun k => match k with
  | 0 => .int
  | 1 => .int
  | 2 => .array .int
  | 3 => .array .boolean
  | 4 => .int
  | 5 => .array .int
  | 6 => .array .int
  | 7 => .array .int
  | 8 => .array .int
  | 9 => .array .int
  | 10 => .array .int
  | 11 => .array .int
  | 12 => .array .int
  | 13 => .array .int
  | 14 => .array .int
  | 15 => .array .boolean
  | 16 => .array .int
  | _ => .long
abbrev wsX50 : List Cond := u_ws RX5 TX5 18
theorem nmX5 : ∀ a, a < 18 → ∀ b, b < 18 → a ≠ b → (TX5 a).2.1 ≠ (TX5 b).2.1 := by decide +kernel
theorem tyX5_ok : ∀ k, k < 18 → parseFieldDescriptor (TX5 k).2.2.1 = some (tyX5 k) := by decide +kernel
abbrev cX5_init : ByteArray := prog_7_method_1_code
def yX5_init : MethodName := ⟨RX5, "<init>", "()V"⟩
abbrev cX5_in : ByteArray := prog_7_method_3_code
def yX5_in : MethodName := ⟨RX5, "in", "(III)Z"⟩
abbrev cX5_size : ByteArray := prog_7_method_4_code
def yX5_size : MethodName := ⟨RX5, "size", "(II)I"⟩
abbrev cX5_isCell : ByteArray := prog_7_method_5_code
def yX5_isCell : MethodName := ⟨RX5, "isCell", "(II)Z"⟩
abbrev cX5_cell : ByteArray := prog_7_method_6_code
def yX5_cell : MethodName := ⟨RX5, "cell", "(III)I"⟩
abbrev cX5_dead : ByteArray := prog_7_method_7_code
def yX5_dead : MethodName := ⟨RX5, "dead", "(IIZ)I"⟩
abbrev cX5_hasColours : ByteArray := prog_7_method_8_code
def yX5_hasColours : MethodName := ⟨RX5, "hasColours", "()Z"⟩
abbrev cX5_barred : ByteArray := prog_7_method_9_code
def yX5_barred : MethodName := ⟨RX5, "barred", "(I)I"⟩
abbrev cX5_come : ByteArray := prog_7_method_10_code
def yX5_come : MethodName := ⟨RX5, "come", "(I)I"⟩
abbrev cX5_black : ByteArray := prog_7_method_11_code
def yX5_black : MethodName := ⟨RX5, "black", "(I)I"⟩
abbrev cX5_gain : ByteArray := prog_7_method_12_code
def yX5_gain : MethodName := ⟨RX5, "gain", "(III)I"⟩
abbrev cX5_step : ByteArray := prog_7_method_13_code
def yX5_step : MethodName := ⟨RX5, "step", "(I)I"⟩
abbrev cX5_entry : ByteArray := prog_7_method_14_code
def yX5_entry : MethodName := ⟨RX5, "entry", "(II)I"⟩
abbrev cX5_matrix : ByteArray := prog_7_method_15_code
def yX5_matrix : MethodName := ⟨RX5, "matrix", "()I"⟩
abbrev cX5_point : ByteArray := prog_7_method_16_code
def yX5_point : MethodName := ⟨RX5, "point", "(II)I"⟩
abbrev cX5_curve : ByteArray := prog_7_method_17_code
def yX5_curve : MethodName := ⟨RX5, "curve", "()I"⟩
abbrev cX5_undo : ByteArray := prog_7_method_18_code
def yX5_undo : MethodName := ⟨RX5, "undo", "()I"⟩
abbrev cX5_kind : ByteArray := prog_7_method_19_code
def yX5_kind : MethodName := ⟨RX5, "kind", "(I)I"⟩
abbrev cX5_measure : ByteArray := prog_7_method_20_code
def yX5_measure : MethodName := ⟨RX5, "measure", "()V"⟩
abbrev cX5_colour : ByteArray := prog_7_method_21_code
def yX5_colour : MethodName := ⟨RX5, "colour", "(II)I"⟩
abbrev cX5_place : ByteArray := prog_7_method_22_code
def yX5_place : MethodName := ⟨RX5, "place", "(IIII)I"⟩
abbrev cX5_isPlace : ByteArray := prog_7_method_23_code
def yX5_isPlace : MethodName := ⟨RX5, "isPlace", "(III)Z"⟩
abbrev cX5_overX : ByteArray := prog_7_method_24_code
def yX5_overX : MethodName := ⟨RX5, "overX", "(I)I"⟩
abbrev cX5_overY : ByteArray := prog_7_method_25_code
def yX5_overY : MethodName := ⟨RX5, "overY", "(I)I"⟩
abbrev cX5_mended : ByteArray := prog_7_method_26_code
def yX5_mended : MethodName := ⟨RX5, "mended", "(III)I"⟩
abbrev cX5_middle : ByteArray := prog_7_method_27_code
def yX5_middle : MethodName := ⟨RX5, "middle", "(III)I"⟩
abbrev cX5_coloured : ByteArray := prog_7_method_28_code
def yX5_coloured : MethodName := ⟨RX5, "coloured", "(IIII)I"⟩
abbrev cX5_matrixed : ByteArray := prog_7_method_29_code
def yX5_matrixed : MethodName := ⟨RX5, "matrixed", "(IIII)I"⟩
abbrev cX5_curved : ByteArray := prog_7_method_30_code
def yX5_curved : MethodName := ⟨RX5, "curved", "(II)I"⟩
abbrev cX5_halved : ByteArray := prog_7_method_31_code
def yX5_halved : MethodName := ⟨RX5, "halved", "(IIII)I"⟩
abbrev cX5_made : ByteArray := prog_7_method_32_code
def yX5_made : MethodName := ⟨RX5, "made", "(IIII)I"⟩
abbrev cX5_make : ByteArray := prog_7_method_33_code
def yX5_make : MethodName := ⟨RX5, "make", "(I)V"⟩
abbrev cX5_stage : ByteArray := prog_7_method_34_code
def yX5_stage : MethodName := ⟨RX5, "stage", "(II)I"⟩
abbrev cX5_at : ByteArray := prog_7_method_35_code
def yX5_at : MethodName := ⟨RX5, "at", "(IIII)I"⟩
abbrev cX5_isPart : ByteArray := prog_7_method_36_code
def yX5_isPart : MethodName := ⟨RX5, "isPart", "(IIII)Z"⟩
abbrev cX5_part : ByteArray := prog_7_method_37_code
def yX5_part : MethodName := ⟨RX5, "part", "(IIIII)I"⟩
abbrev cX5_touch : ByteArray := prog_7_method_38_code
def yX5_touch : MethodName := ⟨RX5, "touch", "(IIII)V"⟩
abbrev cX5_countFor : ByteArray := prog_7_method_39_code
def yX5_countFor : MethodName := ⟨RX5, "countFor", "(IIII)V"⟩
abbrev cX5_forget : ByteArray := prog_7_method_40_code
def yX5_forget : MethodName := ⟨RX5, "forget", "()V"⟩
abbrev cX5_trace : ByteArray := prog_7_method_41_code
def yX5_trace : MethodName := ⟨RX5, "trace", "()V"⟩
abbrev cX5_needs : ByteArray := prog_7_method_42_code
def yX5_needs : MethodName := ⟨RX5, "needs", "(IIII)I"⟩
abbrev cX5_counts : ByteArray := prog_7_method_43_code
def yX5_counts : MethodName := ⟨RX5, "counts", "(IIIII)I"⟩
abbrev cX5_bound : ByteArray := prog_7_method_44_code
def yX5_bound : MethodName := ⟨RX5, "bound", "(II)I"⟩
abbrev cX5_count : ByteArray := prog_7_method_45_code
def yX5_count : MethodName := ⟨RX5, "count", "(I)I"⟩
abbrev cX5_mix : ByteArray := prog_7_method_46_code
def yX5_mix : MethodName := ⟨RX5, "mix", "(J)V"⟩
abbrev cX5_many : ByteArray := prog_7_method_47_code
def yX5_many : MethodName := ⟨RX5, "many", "(I)I"⟩
abbrev cX5_digest : ByteArray := prog_7_method_48_code
def yX5_digest : MethodName := ⟨RX5, "digest", "()J"⟩
def RJx8e188 : String := "java/lang/Cloneable"
def TJx8e188 : u_T := fun k => match k with
  | _ => ("", "", "", false)
def tyJx8e188 : Nat → FieldType := fun k => match k with
  | _ => .int
abbrev wsJx8e1880 : List Cond := u_ws RJx8e188 TJx8e188 0
theorem nmJx8e188 : ∀ a, a < 0 → ∀ b, b < 0 → a ≠ b → (TJx8e188 a).2.1 ≠ (TJx8e188 b).2.1 := by decide +kernel
theorem tyJx8e188_ok : ∀ k, k < 0 → parseFieldDescriptor (TJx8e188 k).2.2.1 = some (tyJx8e188 k) := by decide +kernel
def RJ6 : String := "java/lang/Integer"
def TJ6 : u_T := fun k => match k with
  | _ => ("", "", "", false)
def tyJ6 : Nat → FieldType := fun k => match k with
  | _ => .int
abbrev wsJ60 : List Cond := u_ws RJ6 TJ6 0
theorem nmJ6 : ∀ a, a < 0 → ∀ b, b < 0 → a ≠ b → (TJ6 a).2.1 ≠ (TJ6 b).2.1 := by decide +kernel
theorem tyJ6_ok : ∀ k, k < 0 → parseFieldDescriptor (TJ6 k).2.2.1 = some (tyJ6 k) := by decide +kernel
abbrev cJ6_bitCount_0f7a4 : ByteArray := prog_9_method_49_code
def yJ6_bitCount_0f7a4 : MethodName := ⟨RJ6, "bitCount", "(I)I"⟩
def RJ9 : String := "java/lang/Math"
def TJ9 : u_T := fun k => match k with
  | _ => ("", "", "", false)
def tyJ9 : Nat → FieldType := fun k => match k with
  | _ => .int
abbrev wsJ90 : List Cond := u_ws RJ9 TJ9 0
theorem nmJ9 : ∀ a, a < 0 → ∀ b, b < 0 → a ≠ b → (TJ9 a).2.1 ≠ (TJ9 b).2.1 := by decide +kernel
theorem tyJ9_ok : ∀ k, k < 0 → parseFieldDescriptor (TJ9 k).2.2.1 = some (tyJ9 k) := by decide +kernel
abbrev cJ9_floorDiv_7cf53 : ByteArray := prog_10_method_47_code
def yJ9_floorDiv_7cf53 : MethodName := ⟨RJ9, "floorDiv", "(II)I"⟩
abbrev cJ9_max_7cf53 : ByteArray := prog_10_method_65_code
def yJ9_max_7cf53 : MethodName := ⟨RJ9, "max", "(II)I"⟩
abbrev cJ9_min_7cf53 : ByteArray := prog_10_method_69_code
def yJ9_min_7cf53 : MethodName := ⟨RJ9, "min", "(II)I"⟩
def RJ10 : String := "java/lang/System"
def TJ10 : u_T := fun k => match k with
  | _ => ("", "", "", false)
def tyJ10 : Nat → FieldType := fun k => match k with
  | _ => .int
abbrev wsJ100 : List Cond := u_ws RJ10 TJ10 0
theorem nmJ10 : ∀ a, a < 0 → ∀ b, b < 0 → a ≠ b → (TJ10 a).2.1 ≠ (TJ10 b).2.1 := by decide +kernel
theorem tyJ10_ok : ∀ k, k < 0 → parseFieldDescriptor (TJ10 k).2.2.1 = some (tyJ10 k) := by decide +kernel
def RJ7 : String := "java/util/Arrays"
def TJ7 : u_T := fun k => match k with
  | _ => ("", "", "", false)
def tyJ7 : Nat → FieldType := fun k => match k with
  | _ => .int
abbrev wsJ70 : List Cond := u_ws RJ7 TJ7 0
theorem nmJ7 : ∀ a, a < 0 → ∀ b, b < 0 → a ≠ b → (TJ7 a).2.1 ≠ (TJ7 b).2.1 := by decide +kernel
theorem tyJ7_ok : ∀ k, k < 0 → parseFieldDescriptor (TJ7 k).2.2.1 = some (tyJ7 k) := by decide +kernel
abbrev cJ7_fill_53178 : ByteArray := prog_12_method_103_code
def yJ7_fill_53178 : MethodName := ⟨RJ7, "fill", "([II)V"⟩
def RL : String := "PicturePathLaw"
abbrev cL_law : ByteArray := code
def yL_law : MethodName := ⟨RL, "law", "([I)Z"⟩
abbrev vwCl : List vw_C := [(RX0, TX0, 4), (RX1, TX1, 2), (RX2, TX2, 3), (RX3, TX3, 4), (RX4, TX4, 6), (RX5, TX5, 18)]
end
section
theorem dX0_init_0 : decode cX0_init 0 = .ok (.aload_n 0, 1) := by decide +kernel
theorem dX0_init_1 : decode cX0_init 1 = .ok (.invokespecial 3, 3) := by decide +kernel
theorem dX0_init_4 : decode cX0_init 4 = .ok (.aload_n 0, 1) := by decide +kernel
theorem dX0_init_5 : decode cX0_init 5 = .ok (.sipush 256, 3) := by decide +kernel
theorem dX0_init_8 : decode cX0_init 8 = .ok (.newarray .int, 2) := by decide +kernel
theorem dX0_init_10 : decode cX0_init 10 = .ok (.putfield 9, 3) := by decide +kernel
theorem dX0_init_13 : decode cX0_init 13 = .ok (.aload_n 0, 1) := by decide +kernel
theorem dX0_init_14 : decode cX0_init 14 = .ok (.sipush 256, 3) := by decide +kernel
theorem dX0_init_17 : decode cX0_init 17 = .ok (.newarray .boolean, 2) := by decide +kernel
theorem dX0_init_19 : decode cX0_init 19 = .ok (.putfield 15, 3) := by decide +kernel
theorem dX0_init_22 : decode cX0_init 22 = .ok (.return_, 1) := by decide +kernel
theorem dX0_renew_0 : decode cX0_renew 0 = .ok (.aload_n 0, 1) := by decide +kernel
theorem dX0_renew_1 : decode cX0_renew 1 = .ok (.iload_n 1, 1) := by decide +kernel
theorem dX0_renew_2 : decode cX0_renew 2 = .ok (.putfield 19, 3) := by decide +kernel
theorem dX0_renew_5 : decode cX0_renew 5 = .ok (.aload_n 0, 1) := by decide +kernel
theorem dX0_renew_6 : decode cX0_renew 6 = .ok (.iload_n 2, 1) := by decide +kernel
theorem dX0_renew_7 : decode cX0_renew 7 = .ok (.putfield 23, 3) := by decide +kernel
theorem dX0_renew_10 : decode cX0_renew 10 = .ok (.iconst 0, 1) := by decide +kernel
theorem dX0_renew_11 : decode cX0_renew 11 = .ok (.istore_n 3, 1) := by decide +kernel
theorem dX0_renew_12 : decode cX0_renew 12 = .ok (.iload_n 3, 1) := by decide +kernel
theorem dX0_renew_13 : decode cX0_renew 13 = .ok (.sipush 256, 3) := by decide +kernel
theorem dX0_renew_16 : decode cX0_renew 16 = .ok (.if_icmp .ge 23, 3) := by decide +kernel
theorem dX0_renew_19 : decode cX0_renew 19 = .ok (.aload_n 0, 1) := by decide +kernel
theorem dX0_renew_20 : decode cX0_renew 20 = .ok (.getfield 9, 3) := by decide +kernel
theorem dX0_renew_23 : decode cX0_renew 23 = .ok (.iload_n 3, 1) := by decide +kernel
theorem dX0_renew_24 : decode cX0_renew 24 = .ok (.iconst 0, 1) := by decide +kernel
theorem dX0_renew_25 : decode cX0_renew 25 = .ok (.iastore, 1) := by decide +kernel
theorem dX0_renew_26 : decode cX0_renew 26 = .ok (.aload_n 0, 1) := by decide +kernel
theorem dX0_renew_27 : decode cX0_renew 27 = .ok (.getfield 15, 3) := by decide +kernel
theorem dX0_renew_30 : decode cX0_renew 30 = .ok (.iload_n 3, 1) := by decide +kernel
theorem dX0_renew_31 : decode cX0_renew 31 = .ok (.iconst 0, 1) := by decide +kernel
theorem dX0_renew_32 : decode cX0_renew 32 = .ok (.bastore, 1) := by decide +kernel
theorem dX0_renew_33 : decode cX0_renew 33 = .ok (.iinc 3 1, 3) := by decide +kernel
theorem dX0_renew_36 : decode cX0_renew 36 = .ok (.goto (-24), 3) := by decide +kernel
theorem dX0_renew_39 : decode cX0_renew 39 = .ok (.return_, 1) := by decide +kernel
theorem dX0_hasPlace_0 : decode cX0_hasPlace 0 = .ok (.iload_n 1, 1) := by decide +kernel
theorem dX0_hasPlace_1 : decode cX0_hasPlace 1 = .ok (.ifCond .lt 27, 3) := by decide +kernel
theorem dX0_hasPlace_4 : decode cX0_hasPlace 4 = .ok (.iload_n 1, 1) := by decide +kernel
theorem dX0_hasPlace_5 : decode cX0_hasPlace 5 = .ok (.aload_n 0, 1) := by decide +kernel
theorem dX0_hasPlace_6 : decode cX0_hasPlace 6 = .ok (.getfield 19, 3) := by decide +kernel
theorem dX0_hasPlace_9 : decode cX0_hasPlace 9 = .ok (.if_icmp .ge 19, 3) := by decide +kernel
theorem dX0_hasPlace_12 : decode cX0_hasPlace 12 = .ok (.iload_n 2, 1) := by decide +kernel
theorem dX0_hasPlace_13 : decode cX0_hasPlace 13 = .ok (.ifCond .lt 15, 3) := by decide +kernel
theorem dX0_hasPlace_16 : decode cX0_hasPlace 16 = .ok (.iload_n 2, 1) := by decide +kernel
theorem dX0_hasPlace_17 : decode cX0_hasPlace 17 = .ok (.aload_n 0, 1) := by decide +kernel
theorem dX0_hasPlace_18 : decode cX0_hasPlace 18 = .ok (.getfield 23, 3) := by decide +kernel
theorem dX0_hasPlace_21 : decode cX0_hasPlace 21 = .ok (.if_icmp .ge 7, 3) := by decide +kernel
theorem dX0_hasPlace_24 : decode cX0_hasPlace 24 = .ok (.iconst 1, 1) := by decide +kernel
theorem dX0_hasPlace_25 : decode cX0_hasPlace 25 = .ok (.goto 4, 3) := by decide +kernel
theorem dX0_hasPlace_28 : decode cX0_hasPlace 28 = .ok (.iconst 0, 1) := by decide +kernel
theorem dX0_hasPlace_29 : decode cX0_hasPlace 29 = .ok (.ireturn, 1) := by decide +kernel
theorem dX0_howManyDead_0 : decode cX0_howManyDead 0 = .ok (.iconst 0, 1) := by decide +kernel
theorem dX0_howManyDead_1 : decode cX0_howManyDead 1 = .ok (.istore_n 1, 1) := by decide +kernel
theorem dX0_howManyDead_2 : decode cX0_howManyDead 2 = .ok (.iconst 0, 1) := by decide +kernel
theorem dX0_howManyDead_3 : decode cX0_howManyDead 3 = .ok (.istore_n 2, 1) := by decide +kernel
theorem dX0_howManyDead_4 : decode cX0_howManyDead 4 = .ok (.iload_n 2, 1) := by decide +kernel
theorem dX0_howManyDead_5 : decode cX0_howManyDead 5 = .ok (.sipush 256, 3) := by decide +kernel
theorem dX0_howManyDead_8 : decode cX0_howManyDead 8 = .ok (.if_icmp .ge 21, 3) := by decide +kernel
theorem dX0_howManyDead_11 : decode cX0_howManyDead 11 = .ok (.aload_n 0, 1) := by decide +kernel
theorem dX0_howManyDead_12 : decode cX0_howManyDead 12 = .ok (.getfield 15, 3) := by decide +kernel
theorem dX0_howManyDead_15 : decode cX0_howManyDead 15 = .ok (.iload_n 2, 1) := by decide +kernel
theorem dX0_howManyDead_16 : decode cX0_howManyDead 16 = .ok (.baload, 1) := by decide +kernel
theorem dX0_howManyDead_17 : decode cX0_howManyDead 17 = .ok (.ifCond .eq 6, 3) := by decide +kernel
theorem dX0_howManyDead_20 : decode cX0_howManyDead 20 = .ok (.iinc 1 1, 3) := by decide +kernel
theorem dX0_howManyDead_23 : decode cX0_howManyDead 23 = .ok (.iinc 2 1, 3) := by decide +kernel
theorem dX0_howManyDead_26 : decode cX0_howManyDead 26 = .ok (.goto (-22), 3) := by decide +kernel
theorem dX0_howManyDead_29 : decode cX0_howManyDead 29 = .ok (.iload_n 1, 1) := by decide +kernel
theorem dX0_howManyDead_30 : decode cX0_howManyDead 30 = .ok (.ireturn, 1) := by decide +kernel
theorem dX1_init_0 : decode cX1_init 0 = .ok (.aload_n 0, 1) := by decide +kernel
theorem dX1_init_1 : decode cX1_init 1 = .ok (.invokespecial 3, 3) := by decide +kernel
theorem dX1_init_4 : decode cX1_init 4 = .ok (.aload_n 0, 1) := by decide +kernel
theorem dX1_init_5 : decode cX1_init 5 = .ok (.bipush 11, 2) := by decide +kernel
theorem dX1_init_7 : decode cX1_init 7 = .ok (.bipush 48, 2) := by decide +kernel
theorem dX1_init_9 : decode cX1_init 9 = .ok (.multianewarray 9 2, 4) := by decide +kernel
theorem dX1_init_13 : decode cX1_init 13 = .ok (.putfield 11, 3) := by decide +kernel
theorem dX1_init_16 : decode cX1_init 16 = .ok (.return_, 1) := by decide +kernel
theorem dX1_begin_0 : decode cX1_begin 0 = .ok (.aload_n 0, 1) := by decide +kernel
theorem dX1_begin_1 : decode cX1_begin 1 = .ok (.iload_n 1, 1) := by decide +kernel
theorem dX1_begin_2 : decode cX1_begin 2 = .ok (.putfield 16, 3) := by decide +kernel
theorem dX1_begin_5 : decode cX1_begin 5 = .ok (.aload_n 0, 1) := by decide +kernel
theorem dX1_begin_6 : decode cX1_begin 6 = .ok (.getfield 11, 3) := by decide +kernel
theorem dX1_begin_9 : decode cX1_begin 9 = .ok (.iload_n 1, 1) := by decide +kernel
theorem dX1_begin_10 : decode cX1_begin 10 = .ok (.aaload, 1) := by decide +kernel
theorem dX1_begin_11 : decode cX1_begin 11 = .ok (.iconst 0, 1) := by decide +kernel
theorem dX1_begin_12 : decode cX1_begin 12 = .ok (.invokestatic 20, 3) := by decide +kernel
theorem dX1_begin_15 : decode cX1_begin 15 = .ok (.return_, 1) := by decide +kernel
theorem dX1_askFor_0 : decode cX1_askFor 0 = .ok (.iconst 1, 1) := by decide +kernel
theorem dX1_askFor_1 : decode cX1_askFor 1 = .ok (.iload_n 3, 1) := by decide +kernel
theorem dX1_askFor_2 : decode cX1_askFor 2 = .ok (.ishl, 1) := by decide +kernel
theorem dX1_askFor_3 : decode cX1_askFor 3 = .ok (.iconst 1, 1) := by decide +kernel
theorem dX1_askFor_4 : decode cX1_askFor 4 = .ok (.isub, 1) := by decide +kernel
theorem dX1_askFor_5 : decode cX1_askFor 5 = .ok (.iload_n 1, 1) := by decide +kernel
theorem dX1_askFor_6 : decode cX1_askFor 6 = .ok (.ishl, 1) := by decide +kernel
theorem dX1_askFor_7 : decode cX1_askFor 7 = .ok (.istore 6, 2) := by decide +kernel
theorem dX1_askFor_9 : decode cX1_askFor 9 = .ok (.iload_n 2, 1) := by decide +kernel
theorem dX1_askFor_10 : decode cX1_askFor 10 = .ok (.istore 7, 2) := by decide +kernel
theorem dX1_askFor_12 : decode cX1_askFor 12 = .ok (.iload 7, 2) := by decide +kernel
theorem dX1_askFor_14 : decode cX1_askFor 14 = .ok (.iload_n 2, 1) := by decide +kernel
theorem dX1_askFor_15 : decode cX1_askFor 15 = .ok (.iload 4, 2) := by decide +kernel
theorem dX1_askFor_17 : decode cX1_askFor 17 = .ok (.iadd, 1) := by decide +kernel
theorem dX1_askFor_18 : decode cX1_askFor 18 = .ok (.if_icmp .ge 32, 3) := by decide +kernel
theorem dX1_askFor_21 : decode cX1_askFor 21 = .ok (.aload_n 0, 1) := by decide +kernel
theorem dX1_askFor_22 : decode cX1_askFor 22 = .ok (.getfield 11, 3) := by decide +kernel
theorem dX1_askFor_25 : decode cX1_askFor 25 = .ok (.aload_n 0, 1) := by decide +kernel
theorem dX1_askFor_26 : decode cX1_askFor 26 = .ok (.getfield 16, 3) := by decide +kernel
theorem dX1_askFor_29 : decode cX1_askFor 29 = .ok (.aaload, 1) := by decide +kernel
theorem dX1_askFor_30 : decode cX1_askFor 30 = .ok (.iload 5, 2) := by decide +kernel
theorem dX1_askFor_32 : decode cX1_askFor 32 = .ok (.bipush 16, 2) := by decide +kernel
theorem dX1_askFor_34 : decode cX1_askFor 34 = .ok (.imul, 1) := by decide +kernel
theorem dX1_askFor_35 : decode cX1_askFor 35 = .ok (.iload 7, 2) := by decide +kernel
theorem dX1_askFor_37 : decode cX1_askFor 37 = .ok (.iadd, 1) := by decide +kernel
theorem dX1_askFor_38 : decode cX1_askFor 38 = .ok (.dup2, 1) := by decide +kernel
theorem dX1_askFor_39 : decode cX1_askFor 39 = .ok (.iaload, 1) := by decide +kernel
theorem dX1_askFor_40 : decode cX1_askFor 40 = .ok (.iload 6, 2) := by decide +kernel
theorem dX1_askFor_42 : decode cX1_askFor 42 = .ok (.ior, 1) := by decide +kernel
theorem dX1_askFor_43 : decode cX1_askFor 43 = .ok (.iastore, 1) := by decide +kernel
theorem dX1_askFor_44 : decode cX1_askFor 44 = .ok (.iinc 7 1, 3) := by decide +kernel
theorem dX1_askFor_47 : decode cX1_askFor 47 = .ok (.goto (-35), 3) := by decide +kernel
theorem dX1_askFor_50 : decode cX1_askFor 50 = .ok (.return_, 1) := by decide +kernel
theorem dX1_isAsked_0 : decode cX1_isAsked 0 = .ok (.aload_n 0, 1) := by decide +kernel
theorem dX1_isAsked_1 : decode cX1_isAsked 1 = .ok (.getfield 11, 3) := by decide +kernel
theorem dX1_isAsked_4 : decode cX1_isAsked 4 = .ok (.iload_n 1, 1) := by decide +kernel
theorem dX1_isAsked_5 : decode cX1_isAsked 5 = .ok (.aaload, 1) := by decide +kernel
theorem dX1_isAsked_6 : decode cX1_isAsked 6 = .ok (.iload 4, 2) := by decide +kernel
theorem dX1_isAsked_8 : decode cX1_isAsked 8 = .ok (.bipush 16, 2) := by decide +kernel
theorem dX1_isAsked_10 : decode cX1_isAsked 10 = .ok (.imul, 1) := by decide +kernel
theorem dX1_isAsked_11 : decode cX1_isAsked 11 = .ok (.iload_n 3, 1) := by decide +kernel
theorem dX1_isAsked_12 : decode cX1_isAsked 12 = .ok (.iadd, 1) := by decide +kernel
theorem dX1_isAsked_13 : decode cX1_isAsked 13 = .ok (.iaload, 1) := by decide +kernel
theorem dX1_isAsked_14 : decode cX1_isAsked 14 = .ok (.iload_n 2, 1) := by decide +kernel
theorem dX1_isAsked_15 : decode cX1_isAsked 15 = .ok (.ishr, 1) := by decide +kernel
theorem dX1_isAsked_16 : decode cX1_isAsked 16 = .ok (.iconst 1, 1) := by decide +kernel
theorem dX1_isAsked_17 : decode cX1_isAsked 17 = .ok (.iand, 1) := by decide +kernel
theorem dX1_isAsked_18 : decode cX1_isAsked 18 = .ok (.iconst 1, 1) := by decide +kernel
theorem dX1_isAsked_19 : decode cX1_isAsked 19 = .ok (.if_icmp .ne 7, 3) := by decide +kernel
theorem dX1_isAsked_22 : decode cX1_isAsked 22 = .ok (.iconst 1, 1) := by decide +kernel
theorem dX1_isAsked_23 : decode cX1_isAsked 23 = .ok (.goto 4, 3) := by decide +kernel
theorem dX1_isAsked_26 : decode cX1_isAsked 26 = .ok (.iconst 0, 1) := by decide +kernel
theorem dX1_isAsked_27 : decode cX1_isAsked 27 = .ok (.ireturn, 1) := by decide +kernel
theorem dX1_cellsAsked_0 : decode cX1_cellsAsked 0 = .ok (.iconst 0, 1) := by decide +kernel
theorem dX1_cellsAsked_1 : decode cX1_cellsAsked 1 = .ok (.istore_n 1, 1) := by decide +kernel
theorem dX1_cellsAsked_2 : decode cX1_cellsAsked 2 = .ok (.iconst 0, 1) := by decide +kernel
theorem dX1_cellsAsked_3 : decode cX1_cellsAsked 3 = .ok (.istore_n 2, 1) := by decide +kernel
theorem dX1_cellsAsked_4 : decode cX1_cellsAsked 4 = .ok (.iload_n 2, 1) := by decide +kernel
theorem dX1_cellsAsked_5 : decode cX1_cellsAsked 5 = .ok (.bipush 16, 2) := by decide +kernel
theorem dX1_cellsAsked_7 : decode cX1_cellsAsked 7 = .ok (.if_icmp .ge 23, 3) := by decide +kernel
theorem dX1_cellsAsked_10 : decode cX1_cellsAsked 10 = .ok (.iload_n 1, 1) := by decide +kernel
theorem dX1_cellsAsked_11 : decode cX1_cellsAsked 11 = .ok (.aload_n 0, 1) := by decide +kernel
theorem dX1_cellsAsked_12 : decode cX1_cellsAsked 12 = .ok (.getfield 11, 3) := by decide +kernel
theorem dX1_cellsAsked_15 : decode cX1_cellsAsked 15 = .ok (.iconst 0, 1) := by decide +kernel
theorem dX1_cellsAsked_16 : decode cX1_cellsAsked 16 = .ok (.aaload, 1) := by decide +kernel
theorem dX1_cellsAsked_17 : decode cX1_cellsAsked 17 = .ok (.iload_n 2, 1) := by decide +kernel
theorem dX1_cellsAsked_18 : decode cX1_cellsAsked 18 = .ok (.iaload, 1) := by decide +kernel
theorem dX1_cellsAsked_19 : decode cX1_cellsAsked 19 = .ok (.invokestatic 26, 3) := by decide +kernel
theorem dX1_cellsAsked_22 : decode cX1_cellsAsked 22 = .ok (.iadd, 1) := by decide +kernel
theorem dX1_cellsAsked_23 : decode cX1_cellsAsked 23 = .ok (.istore_n 1, 1) := by decide +kernel
theorem dX1_cellsAsked_24 : decode cX1_cellsAsked 24 = .ok (.iinc 2 1, 3) := by decide +kernel
theorem dX1_cellsAsked_27 : decode cX1_cellsAsked 27 = .ok (.goto (-23), 3) := by decide +kernel
theorem dX1_cellsAsked_30 : decode cX1_cellsAsked 30 = .ok (.iload_n 1, 1) := by decide +kernel
theorem dX1_cellsAsked_31 : decode cX1_cellsAsked 31 = .ok (.ireturn, 1) := by decide +kernel
theorem dX1_traceBack_0 : decode cX1_traceBack 0 = .ok (.aload_n 0, 1) := by decide +kernel
theorem dX1_traceBack_1 : decode cX1_traceBack 1 = .ok (.getfield 16, 3) := by decide +kernel
theorem dX1_traceBack_4 : decode cX1_traceBack 4 = .ok (.iconst 1, 1) := by decide +kernel
theorem dX1_traceBack_5 : decode cX1_traceBack 5 = .ok (.isub, 1) := by decide +kernel
theorem dX1_traceBack_6 : decode cX1_traceBack 6 = .ok (.istore_n 2, 1) := by decide +kernel
theorem dX1_traceBack_7 : decode cX1_traceBack 7 = .ok (.iload_n 2, 1) := by decide +kernel
theorem dX1_traceBack_8 : decode cX1_traceBack 8 = .ok (.ifCond .lt 48, 3) := by decide +kernel
theorem dX1_traceBack_11 : decode cX1_traceBack 11 = .ok (.aload_n 0, 1) := by decide +kernel
theorem dX1_traceBack_12 : decode cX1_traceBack 12 = .ok (.getfield 11, 3) := by decide +kernel
theorem dX1_traceBack_15 : decode cX1_traceBack 15 = .ok (.iload_n 2, 1) := by decide +kernel
theorem dX1_traceBack_16 : decode cX1_traceBack 16 = .ok (.aaload, 1) := by decide +kernel
theorem dX1_traceBack_17 : decode cX1_traceBack 17 = .ok (.iconst 0, 1) := by decide +kernel
theorem dX1_traceBack_18 : decode cX1_traceBack 18 = .ok (.invokestatic 20, 3) := by decide +kernel
theorem dX1_traceBack_21 : decode cX1_traceBack 21 = .ok (.aload_n 1, 1) := by decide +kernel
theorem dX1_traceBack_22 : decode cX1_traceBack 22 = .ok (.getfield 32, 3) := by decide +kernel
theorem dX1_traceBack_25 : decode cX1_traceBack 25 = .ok (.iload_n 2, 1) := by decide +kernel
theorem dX1_traceBack_26 : decode cX1_traceBack 26 = .ok (.iaload, 1) := by decide +kernel
theorem dX1_traceBack_27 : decode cX1_traceBack 27 = .ok (.aload_n 0, 1) := by decide +kernel
theorem dX1_traceBack_28 : decode cX1_traceBack 28 = .ok (.getfield 11, 3) := by decide +kernel
theorem dX1_traceBack_31 : decode cX1_traceBack 31 = .ok (.iload_n 2, 1) := by decide +kernel
theorem dX1_traceBack_32 : decode cX1_traceBack 32 = .ok (.iconst 1, 1) := by decide +kernel
theorem dX1_traceBack_33 : decode cX1_traceBack 33 = .ok (.iadd, 1) := by decide +kernel
theorem dX1_traceBack_34 : decode cX1_traceBack 34 = .ok (.aaload, 1) := by decide +kernel
theorem dX1_traceBack_35 : decode cX1_traceBack 35 = .ok (.aload_n 0, 1) := by decide +kernel
theorem dX1_traceBack_36 : decode cX1_traceBack 36 = .ok (.getfield 11, 3) := by decide +kernel
theorem dX1_traceBack_39 : decode cX1_traceBack 39 = .ok (.iload_n 2, 1) := by decide +kernel
theorem dX1_traceBack_40 : decode cX1_traceBack 40 = .ok (.aaload, 1) := by decide +kernel
theorem dX1_traceBack_41 : decode cX1_traceBack 41 = .ok (.aload_n 1, 1) := by decide +kernel
theorem dX1_traceBack_42 : decode cX1_traceBack 42 = .ok (.getfield 38, 3) := by decide +kernel
theorem dX1_traceBack_45 : decode cX1_traceBack 45 = .ok (.iload_n 2, 1) := by decide +kernel
theorem dX1_traceBack_46 : decode cX1_traceBack 46 = .ok (.aaload, 1) := by decide +kernel
theorem dX1_traceBack_47 : decode cX1_traceBack 47 = .ok (.invokestatic 41, 3) := by decide +kernel
theorem dX1_traceBack_50 : decode cX1_traceBack 50 = .ok (.iinc 2 (-1), 3) := by decide +kernel
theorem dX1_traceBack_53 : decode cX1_traceBack 53 = .ok (.goto (-46), 3) := by decide +kernel
theorem dX1_traceBack_56 : decode cX1_traceBack 56 = .ok (.return_, 1) := by decide +kernel
theorem dX1_traceStep_0 : decode cX1_traceStep 0 = .ok (.iload_n 0, 1) := by decide +kernel
theorem dX1_traceStep_1 : decode cX1_traceStep 1 = .ok (.tableswitch 74 2 7 #[39, 39, 48, 57, 74, 65], 39) := by decide +kernel
theorem dX1_traceStep_40 : decode cX1_traceStep 40 = .ok (.aload_n 1, 1) := by decide +kernel
theorem dX1_traceStep_41 : decode cX1_traceStep 41 = .ok (.aload_n 2, 1) := by decide +kernel
theorem dX1_traceStep_42 : decode cX1_traceStep 42 = .ok (.aload_n 3, 1) := by decide +kernel
theorem dX1_traceStep_43 : decode cX1_traceStep 43 = .ok (.invokestatic 45, 3) := by decide +kernel
theorem dX1_traceStep_46 : decode cX1_traceStep 46 = .ok (.goto 38, 3) := by decide +kernel
theorem dX1_traceStep_49 : decode cX1_traceStep 49 = .ok (.aload_n 1, 1) := by decide +kernel
theorem dX1_traceStep_50 : decode cX1_traceStep 50 = .ok (.aload_n 2, 1) := by decide +kernel
theorem dX1_traceStep_51 : decode cX1_traceStep 51 = .ok (.aload_n 3, 1) := by decide +kernel
theorem dX1_traceStep_52 : decode cX1_traceStep 52 = .ok (.invokestatic 49, 3) := by decide +kernel
theorem dX1_traceStep_55 : decode cX1_traceStep 55 = .ok (.goto 29, 3) := by decide +kernel
theorem dX1_traceStep_58 : decode cX1_traceStep 58 = .ok (.aload_n 1, 1) := by decide +kernel
theorem dX1_traceStep_59 : decode cX1_traceStep 59 = .ok (.aload_n 2, 1) := by decide +kernel
theorem dX1_traceStep_60 : decode cX1_traceStep 60 = .ok (.invokestatic 52, 3) := by decide +kernel
theorem dX1_traceStep_63 : decode cX1_traceStep 63 = .ok (.goto 21, 3) := by decide +kernel
theorem dX1_traceStep_66 : decode cX1_traceStep 66 = .ok (.aload_n 1, 1) := by decide +kernel
theorem dX1_traceStep_67 : decode cX1_traceStep 67 = .ok (.aload_n 2, 1) := by decide +kernel
theorem dX1_traceStep_68 : decode cX1_traceStep 68 = .ok (.aload_n 3, 1) := by decide +kernel
theorem dX1_traceStep_69 : decode cX1_traceStep 69 = .ok (.invokestatic 56, 3) := by decide +kernel
theorem dX1_traceStep_72 : decode cX1_traceStep 72 = .ok (.goto 12, 3) := by decide +kernel
theorem dX1_traceStep_75 : decode cX1_traceStep 75 = .ok (.aload_n 1, 1) := by decide +kernel
theorem dX1_traceStep_76 : decode cX1_traceStep 76 = .ok (.iconst 0, 1) := by decide +kernel
theorem dX1_traceStep_77 : decode cX1_traceStep 77 = .ok (.aload_n 2, 1) := by decide +kernel
theorem dX1_traceStep_78 : decode cX1_traceStep 78 = .ok (.iconst 0, 1) := by decide +kernel
theorem dX1_traceStep_79 : decode cX1_traceStep 79 = .ok (.bipush 48, 2) := by decide +kernel
theorem dX1_traceStep_81 : decode cX1_traceStep 81 = .ok (.invokestatic 59, 3) := by decide +kernel
theorem dX1_traceStep_84 : decode cX1_traceStep 84 = .ok (.return_, 1) := by decide +kernel
theorem dX1_traceNear_0 : decode cX1_traceNear 0 = .ok (.aload_n 2, 1) := by decide +kernel
theorem dX1_traceNear_1 : decode cX1_traceNear 1 = .ok (.iconst 1, 1) := by decide +kernel
theorem dX1_traceNear_2 : decode cX1_traceNear 2 = .ok (.iaload, 1) := by decide +kernel
theorem dX1_traceNear_3 : decode cX1_traceNear 3 = .ok (.istore_n 3, 1) := by decide +kernel
theorem dX1_traceNear_4 : decode cX1_traceNear 4 = .ok (.iconst 1, 1) := by decide +kernel
theorem dX1_traceNear_5 : decode cX1_traceNear 5 = .ok (.aload_n 2, 1) := by decide +kernel
theorem dX1_traceNear_6 : decode cX1_traceNear 6 = .ok (.iconst 0, 1) := by decide +kernel
theorem dX1_traceNear_7 : decode cX1_traceNear 7 = .ok (.iaload, 1) := by decide +kernel
theorem dX1_traceNear_8 : decode cX1_traceNear 8 = .ok (.ishl, 1) := by decide +kernel
theorem dX1_traceNear_9 : decode cX1_traceNear 9 = .ok (.iconst 1, 1) := by decide +kernel
theorem dX1_traceNear_10 : decode cX1_traceNear 10 = .ok (.isub, 1) := by decide +kernel
theorem dX1_traceNear_11 : decode cX1_traceNear 11 = .ok (.istore 4, 2) := by decide +kernel
theorem dX1_traceNear_13 : decode cX1_traceNear 13 = .ok (.iconst 0, 1) := by decide +kernel
theorem dX1_traceNear_14 : decode cX1_traceNear 14 = .ok (.istore 5, 2) := by decide +kernel
theorem dX1_traceNear_16 : decode cX1_traceNear 16 = .ok (.iload 5, 2) := by decide +kernel
theorem dX1_traceNear_18 : decode cX1_traceNear 18 = .ok (.iload_n 3, 1) := by decide +kernel
theorem dX1_traceNear_19 : decode cX1_traceNear 19 = .ok (.if_icmp .ge 73, 3) := by decide +kernel
theorem dX1_traceNear_22 : decode cX1_traceNear 22 = .ok (.aload_n 0, 1) := by decide +kernel
theorem dX1_traceNear_23 : decode cX1_traceNear 23 = .ok (.iload 5, 2) := by decide +kernel
theorem dX1_traceNear_25 : decode cX1_traceNear 25 = .ok (.iaload, 1) := by decide +kernel
theorem dX1_traceNear_26 : decode cX1_traceNear 26 = .ok (.istore 6, 2) := by decide +kernel
theorem dX1_traceNear_28 : decode cX1_traceNear 28 = .ok (.aload_n 1, 1) := by decide +kernel
theorem dX1_traceNear_29 : decode cX1_traceNear 29 = .ok (.iload 5, 2) := by decide +kernel
theorem dX1_traceNear_31 : decode cX1_traceNear 31 = .ok (.dup2, 1) := by decide +kernel
theorem dX1_traceNear_32 : decode cX1_traceNear 32 = .ok (.iaload, 1) := by decide +kernel
theorem dX1_traceNear_33 : decode cX1_traceNear 33 = .ok (.iload 6, 2) := by decide +kernel
theorem dX1_traceNear_35 : decode cX1_traceNear 35 = .ok (.iload 6, 2) := by decide +kernel
theorem dX1_traceNear_37 : decode cX1_traceNear 37 = .ok (.iconst 2, 1) := by decide +kernel
theorem dX1_traceNear_38 : decode cX1_traceNear 38 = .ok (.ishl, 1) := by decide +kernel
theorem dX1_traceNear_39 : decode cX1_traceNear 39 = .ok (.ior, 1) := by decide +kernel
theorem dX1_traceNear_40 : decode cX1_traceNear 40 = .ok (.iload 6, 2) := by decide +kernel
theorem dX1_traceNear_42 : decode cX1_traceNear 42 = .ok (.iconst 2, 1) := by decide +kernel
theorem dX1_traceNear_43 : decode cX1_traceNear 43 = .ok (.ishr, 1) := by decide +kernel
theorem dX1_traceNear_44 : decode cX1_traceNear 44 = .ok (.ior, 1) := by decide +kernel
theorem dX1_traceNear_45 : decode cX1_traceNear 45 = .ok (.iload 4, 2) := by decide +kernel
theorem dX1_traceNear_47 : decode cX1_traceNear 47 = .ok (.iand, 1) := by decide +kernel
theorem dX1_traceNear_48 : decode cX1_traceNear 48 = .ok (.ior, 1) := by decide +kernel
theorem dX1_traceNear_49 : decode cX1_traceNear 49 = .ok (.iastore, 1) := by decide +kernel
theorem dX1_traceNear_50 : decode cX1_traceNear 50 = .ok (.iload 5, 2) := by decide +kernel
theorem dX1_traceNear_52 : decode cX1_traceNear 52 = .ok (.iconst 2, 1) := by decide +kernel
theorem dX1_traceNear_53 : decode cX1_traceNear 53 = .ok (.if_icmp .lt 14, 3) := by decide +kernel
theorem dX1_traceNear_56 : decode cX1_traceNear 56 = .ok (.aload_n 1, 1) := by decide +kernel
theorem dX1_traceNear_57 : decode cX1_traceNear 57 = .ok (.iload 5, 2) := by decide +kernel
theorem dX1_traceNear_59 : decode cX1_traceNear 59 = .ok (.iconst 2, 1) := by decide +kernel
theorem dX1_traceNear_60 : decode cX1_traceNear 60 = .ok (.isub, 1) := by decide +kernel
theorem dX1_traceNear_61 : decode cX1_traceNear 61 = .ok (.dup2, 1) := by decide +kernel
theorem dX1_traceNear_62 : decode cX1_traceNear 62 = .ok (.iaload, 1) := by decide +kernel
theorem dX1_traceNear_63 : decode cX1_traceNear 63 = .ok (.iload 6, 2) := by decide +kernel
theorem dX1_traceNear_65 : decode cX1_traceNear 65 = .ok (.ior, 1) := by decide +kernel
theorem dX1_traceNear_66 : decode cX1_traceNear 66 = .ok (.iastore, 1) := by decide +kernel
theorem dX1_traceNear_67 : decode cX1_traceNear 67 = .ok (.iload 5, 2) := by decide +kernel
theorem dX1_traceNear_69 : decode cX1_traceNear 69 = .ok (.iconst 2, 1) := by decide +kernel
theorem dX1_traceNear_70 : decode cX1_traceNear 70 = .ok (.iadd, 1) := by decide +kernel
theorem dX1_traceNear_71 : decode cX1_traceNear 71 = .ok (.iload_n 3, 1) := by decide +kernel
theorem dX1_traceNear_72 : decode cX1_traceNear 72 = .ok (.if_icmp .ge 14, 3) := by decide +kernel
theorem dX1_traceNear_75 : decode cX1_traceNear 75 = .ok (.aload_n 1, 1) := by decide +kernel
theorem dX1_traceNear_76 : decode cX1_traceNear 76 = .ok (.iload 5, 2) := by decide +kernel
theorem dX1_traceNear_78 : decode cX1_traceNear 78 = .ok (.iconst 2, 1) := by decide +kernel
theorem dX1_traceNear_79 : decode cX1_traceNear 79 = .ok (.iadd, 1) := by decide +kernel
theorem dX1_traceNear_80 : decode cX1_traceNear 80 = .ok (.dup2, 1) := by decide +kernel
theorem dX1_traceNear_81 : decode cX1_traceNear 81 = .ok (.iaload, 1) := by decide +kernel
theorem dX1_traceNear_82 : decode cX1_traceNear 82 = .ok (.iload 6, 2) := by decide +kernel
theorem dX1_traceNear_84 : decode cX1_traceNear 84 = .ok (.ior, 1) := by decide +kernel
theorem dX1_traceNear_85 : decode cX1_traceNear 85 = .ok (.iastore, 1) := by decide +kernel
theorem dX1_traceNear_86 : decode cX1_traceNear 86 = .ok (.iinc 5 1, 3) := by decide +kernel
theorem dX1_traceNear_89 : decode cX1_traceNear 89 = .ok (.goto (-73), 3) := by decide +kernel
theorem dX1_traceNear_92 : decode cX1_traceNear 92 = .ok (.return_, 1) := by decide +kernel
theorem dX1_traceColours_0 : decode cX1_traceColours 0 = .ok (.aload_n 2, 1) := by decide +kernel
theorem dX1_traceColours_1 : decode cX1_traceColours 1 = .ok (.iconst 1, 1) := by decide +kernel
theorem dX1_traceColours_2 : decode cX1_traceColours 2 = .ok (.iaload, 1) := by decide +kernel
theorem dX1_traceColours_3 : decode cX1_traceColours 3 = .ok (.istore_n 3, 1) := by decide +kernel
theorem dX1_traceColours_4 : decode cX1_traceColours 4 = .ok (.iconst 1, 1) := by decide +kernel
theorem dX1_traceColours_5 : decode cX1_traceColours 5 = .ok (.aload_n 2, 1) := by decide +kernel
theorem dX1_traceColours_6 : decode cX1_traceColours 6 = .ok (.iconst 0, 1) := by decide +kernel
theorem dX1_traceColours_7 : decode cX1_traceColours 7 = .ok (.iaload, 1) := by decide +kernel
theorem dX1_traceColours_8 : decode cX1_traceColours 8 = .ok (.ishl, 1) := by decide +kernel
theorem dX1_traceColours_9 : decode cX1_traceColours 9 = .ok (.iconst 1, 1) := by decide +kernel
theorem dX1_traceColours_10 : decode cX1_traceColours 10 = .ok (.isub, 1) := by decide +kernel
theorem dX1_traceColours_11 : decode cX1_traceColours 11 = .ok (.istore 4, 2) := by decide +kernel
theorem dX1_traceColours_13 : decode cX1_traceColours 13 = .ok (.iconst 0, 1) := by decide +kernel
theorem dX1_traceColours_14 : decode cX1_traceColours 14 = .ok (.istore 5, 2) := by decide +kernel
theorem dX1_traceColours_16 : decode cX1_traceColours 16 = .ok (.iload 5, 2) := by decide +kernel
theorem dX1_traceColours_18 : decode cX1_traceColours 18 = .ok (.iconst 3, 1) := by decide +kernel
theorem dX1_traceColours_19 : decode cX1_traceColours 19 = .ok (.if_icmp .ge 131, 3) := by decide +kernel
theorem dX1_traceColours_22 : decode cX1_traceColours 22 = .ok (.iconst 0, 1) := by decide +kernel
theorem dX1_traceColours_23 : decode cX1_traceColours 23 = .ok (.istore 6, 2) := by decide +kernel
theorem dX1_traceColours_25 : decode cX1_traceColours 25 = .ok (.iload 6, 2) := by decide +kernel
theorem dX1_traceColours_27 : decode cX1_traceColours 27 = .ok (.iload_n 3, 1) := by decide +kernel
theorem dX1_traceColours_28 : decode cX1_traceColours 28 = .ok (.if_icmp .ge 116, 3) := by decide +kernel
theorem dX1_traceColours_31 : decode cX1_traceColours 31 = .ok (.aload_n 0, 1) := by decide +kernel
theorem dX1_traceColours_32 : decode cX1_traceColours 32 = .ok (.iload 5, 2) := by decide +kernel
theorem dX1_traceColours_34 : decode cX1_traceColours 34 = .ok (.bipush 16, 2) := by decide +kernel
theorem dX1_traceColours_36 : decode cX1_traceColours 36 = .ok (.imul, 1) := by decide +kernel
theorem dX1_traceColours_37 : decode cX1_traceColours 37 = .ok (.iload 6, 2) := by decide +kernel
theorem dX1_traceColours_39 : decode cX1_traceColours 39 = .ok (.iadd, 1) := by decide +kernel
theorem dX1_traceColours_40 : decode cX1_traceColours 40 = .ok (.iaload, 1) := by decide +kernel
theorem dX1_traceColours_41 : decode cX1_traceColours 41 = .ok (.istore 7, 2) := by decide +kernel
theorem dX1_traceColours_43 : decode cX1_traceColours 43 = .ok (.iload 7, 2) := by decide +kernel
theorem dX1_traceColours_45 : decode cX1_traceColours 45 = .ok (.iload 5, 2) := by decide +kernel
theorem dX1_traceColours_47 : decode cX1_traceColours 47 = .ok (.iload 6, 2) := by decide +kernel
theorem dX1_traceColours_49 : decode cX1_traceColours 49 = .ok (.invokestatic 65, 3) := by decide +kernel
theorem dX1_traceColours_52 : decode cX1_traceColours 52 = .ok (.iand, 1) := by decide +kernel
theorem dX1_traceColours_53 : decode cX1_traceColours 53 = .ok (.istore 8, 2) := by decide +kernel
theorem dX1_traceColours_55 : decode cX1_traceColours 55 = .ok (.iload 7, 2) := by decide +kernel
theorem dX1_traceColours_57 : decode cX1_traceColours 57 = .ok (.iload 8, 2) := by decide +kernel
theorem dX1_traceColours_59 : decode cX1_traceColours 59 = .ok (.iconst (-1), 1) := by decide +kernel
theorem dX1_traceColours_60 : decode cX1_traceColours 60 = .ok (.ixor, 1) := by decide +kernel
theorem dX1_traceColours_61 : decode cX1_traceColours 61 = .ok (.iand, 1) := by decide +kernel
theorem dX1_traceColours_62 : decode cX1_traceColours 62 = .ok (.istore 9, 2) := by decide +kernel
theorem dX1_traceColours_64 : decode cX1_traceColours 64 = .ok (.iload 9, 2) := by decide +kernel
theorem dX1_traceColours_66 : decode cX1_traceColours 66 = .ok (.iload 9, 2) := by decide +kernel
theorem dX1_traceColours_68 : decode cX1_traceColours 68 = .ok (.iconst 1, 1) := by decide +kernel
theorem dX1_traceColours_69 : decode cX1_traceColours 69 = .ok (.ishl, 1) := by decide +kernel
theorem dX1_traceColours_70 : decode cX1_traceColours 70 = .ok (.ior, 1) := by decide +kernel
theorem dX1_traceColours_71 : decode cX1_traceColours 71 = .ok (.iload 9, 2) := by decide +kernel
theorem dX1_traceColours_73 : decode cX1_traceColours 73 = .ok (.iconst 1, 1) := by decide +kernel
theorem dX1_traceColours_74 : decode cX1_traceColours 74 = .ok (.ishr, 1) := by decide +kernel
theorem dX1_traceColours_75 : decode cX1_traceColours 75 = .ok (.ior, 1) := by decide +kernel
theorem dX1_traceColours_76 : decode cX1_traceColours 76 = .ok (.iload 4, 2) := by decide +kernel
theorem dX1_traceColours_78 : decode cX1_traceColours 78 = .ok (.iand, 1) := by decide +kernel
theorem dX1_traceColours_79 : decode cX1_traceColours 79 = .ok (.istore 10, 2) := by decide +kernel
theorem dX1_traceColours_81 : decode cX1_traceColours 81 = .ok (.aload_n 1, 1) := by decide +kernel
theorem dX1_traceColours_82 : decode cX1_traceColours 82 = .ok (.iload 6, 2) := by decide +kernel
theorem dX1_traceColours_84 : decode cX1_traceColours 84 = .ok (.dup2, 1) := by decide +kernel
theorem dX1_traceColours_85 : decode cX1_traceColours 85 = .ok (.iaload, 1) := by decide +kernel
theorem dX1_traceColours_86 : decode cX1_traceColours 86 = .ok (.iload 8, 2) := by decide +kernel
theorem dX1_traceColours_88 : decode cX1_traceColours 88 = .ok (.ior, 1) := by decide +kernel
theorem dX1_traceColours_89 : decode cX1_traceColours 89 = .ok (.iastore, 1) := by decide +kernel
theorem dX1_traceColours_90 : decode cX1_traceColours 90 = .ok (.iload 6, 2) := by decide +kernel
theorem dX1_traceColours_92 : decode cX1_traceColours 92 = .ok (.iconst 1, 1) := by decide +kernel
theorem dX1_traceColours_93 : decode cX1_traceColours 93 = .ok (.isub, 1) := by decide +kernel
theorem dX1_traceColours_94 : decode cX1_traceColours 94 = .ok (.iconst 0, 1) := by decide +kernel
theorem dX1_traceColours_95 : decode cX1_traceColours 95 = .ok (.invokestatic 69, 3) := by decide +kernel
theorem dX1_traceColours_98 : decode cX1_traceColours 98 = .ok (.istore 11, 2) := by decide +kernel
theorem dX1_traceColours_100 : decode cX1_traceColours 100 = .ok (.iload 11, 2) := by decide +kernel
theorem dX1_traceColours_102 : decode cX1_traceColours 102 = .ok (.iload 6, 2) := by decide +kernel
theorem dX1_traceColours_104 : decode cX1_traceColours 104 = .ok (.iconst 1, 1) := by decide +kernel
theorem dX1_traceColours_105 : decode cX1_traceColours 105 = .ok (.iadd, 1) := by decide +kernel
theorem dX1_traceColours_106 : decode cX1_traceColours 106 = .ok (.iload_n 3, 1) := by decide +kernel
theorem dX1_traceColours_107 : decode cX1_traceColours 107 = .ok (.iconst 1, 1) := by decide +kernel
theorem dX1_traceColours_108 : decode cX1_traceColours 108 = .ok (.isub, 1) := by decide +kernel
theorem dX1_traceColours_109 : decode cX1_traceColours 109 = .ok (.invokestatic 74, 3) := by decide +kernel
theorem dX1_traceColours_112 : decode cX1_traceColours 112 = .ok (.if_icmp .gt 26, 3) := by decide +kernel
theorem dX1_traceColours_115 : decode cX1_traceColours 115 = .ok (.aload_n 1, 1) := by decide +kernel
theorem dX1_traceColours_116 : decode cX1_traceColours 116 = .ok (.iload 11, 2) := by decide +kernel
theorem dX1_traceColours_118 : decode cX1_traceColours 118 = .ok (.dup2, 1) := by decide +kernel
theorem dX1_traceColours_119 : decode cX1_traceColours 119 = .ok (.iaload, 1) := by decide +kernel
theorem dX1_traceColours_120 : decode cX1_traceColours 120 = .ok (.iload 10, 2) := by decide +kernel
theorem dX1_traceColours_122 : decode cX1_traceColours 122 = .ok (.iload 5, 2) := by decide +kernel
theorem dX1_traceColours_124 : decode cX1_traceColours 124 = .ok (.iload 11, 2) := by decide +kernel
theorem dX1_traceColours_126 : decode cX1_traceColours 126 = .ok (.invokestatic 65, 3) := by decide +kernel
theorem dX1_traceColours_129 : decode cX1_traceColours 129 = .ok (.iand, 1) := by decide +kernel
theorem dX1_traceColours_130 : decode cX1_traceColours 130 = .ok (.ior, 1) := by decide +kernel
theorem dX1_traceColours_131 : decode cX1_traceColours 131 = .ok (.iastore, 1) := by decide +kernel
theorem dX1_traceColours_132 : decode cX1_traceColours 132 = .ok (.iinc 11 1, 3) := by decide +kernel
theorem dX1_traceColours_135 : decode cX1_traceColours 135 = .ok (.goto (-35), 3) := by decide +kernel
theorem dX1_traceColours_138 : decode cX1_traceColours 138 = .ok (.iinc 6 1, 3) := by decide +kernel
theorem dX1_traceColours_141 : decode cX1_traceColours 141 = .ok (.goto (-116), 3) := by decide +kernel
theorem dX1_traceColours_144 : decode cX1_traceColours 144 = .ok (.iinc 5 1, 3) := by decide +kernel
theorem dX1_traceColours_147 : decode cX1_traceColours 147 = .ok (.goto (-131), 3) := by decide +kernel
theorem dX1_traceColours_150 : decode cX1_traceColours 150 = .ok (.return_, 1) := by decide +kernel
theorem dX1_columnsOf_0 : decode cX1_columnsOf 0 = .ok (.iload_n 1, 1) := by decide +kernel
theorem dX1_columnsOf_1 : decode cX1_columnsOf 1 = .ok (.iconst 1, 1) := by decide +kernel
theorem dX1_columnsOf_2 : decode cX1_columnsOf 2 = .ok (.iand, 1) := by decide +kernel
theorem dX1_columnsOf_3 : decode cX1_columnsOf 3 = .ok (.istore_n 2, 1) := by decide +kernel
theorem dX1_columnsOf_4 : decode cX1_columnsOf 4 = .ok (.iload_n 0, 1) := by decide +kernel
theorem dX1_columnsOf_5 : decode cX1_columnsOf 5 = .ok (.iload_n 2, 1) := by decide +kernel
theorem dX1_columnsOf_6 : decode cX1_columnsOf 6 = .ok (.if_icmp .ne 7, 3) := by decide +kernel
theorem dX1_columnsOf_9 : decode cX1_columnsOf 9 = .ok (.sipush 21845, 3) := by decide +kernel
theorem dX1_columnsOf_12 : decode cX1_columnsOf 12 = .ok (.ireturn, 1) := by decide +kernel
theorem dX1_columnsOf_13 : decode cX1_columnsOf 13 = .ok (.iload_n 0, 1) := by decide +kernel
theorem dX1_columnsOf_14 : decode cX1_columnsOf 14 = .ok (.iload_n 2, 1) := by decide +kernel
theorem dX1_columnsOf_15 : decode cX1_columnsOf 15 = .ok (.iconst 1, 1) := by decide +kernel
theorem dX1_columnsOf_16 : decode cX1_columnsOf 16 = .ok (.iadd, 1) := by decide +kernel
theorem dX1_columnsOf_17 : decode cX1_columnsOf 17 = .ok (.if_icmp .ne 8, 3) := by decide +kernel
theorem dX1_columnsOf_20 : decode cX1_columnsOf 20 = .ok (.ldc 77, 2) := by decide +kernel
theorem dX1_columnsOf_22 : decode cX1_columnsOf 22 = .ok (.goto 4, 3) := by decide +kernel
theorem dX1_columnsOf_25 : decode cX1_columnsOf 25 = .ok (.iconst 0, 1) := by decide +kernel
theorem dX1_columnsOf_26 : decode cX1_columnsOf 26 = .ok (.ireturn, 1) := by decide +kernel
theorem dX1_traceMatrix_0 : decode cX1_traceMatrix 0 = .ok (.iconst 0, 1) := by decide +kernel
theorem dX1_traceMatrix_1 : decode cX1_traceMatrix 1 = .ok (.istore_n 2, 1) := by decide +kernel
theorem dX1_traceMatrix_2 : decode cX1_traceMatrix 2 = .ok (.iload_n 2, 1) := by decide +kernel
theorem dX1_traceMatrix_3 : decode cX1_traceMatrix 3 = .ok (.bipush 16, 2) := by decide +kernel
theorem dX1_traceMatrix_5 : decode cX1_traceMatrix 5 = .ok (.if_icmp .ge 52, 3) := by decide +kernel
theorem dX1_traceMatrix_8 : decode cX1_traceMatrix 8 = .ok (.aload_n 0, 1) := by decide +kernel
theorem dX1_traceMatrix_9 : decode cX1_traceMatrix 9 = .ok (.iload_n 2, 1) := by decide +kernel
theorem dX1_traceMatrix_10 : decode cX1_traceMatrix 10 = .ok (.iaload, 1) := by decide +kernel
theorem dX1_traceMatrix_11 : decode cX1_traceMatrix 11 = .ok (.aload_n 0, 1) := by decide +kernel
theorem dX1_traceMatrix_12 : decode cX1_traceMatrix 12 = .ok (.bipush 16, 2) := by decide +kernel
theorem dX1_traceMatrix_14 : decode cX1_traceMatrix 14 = .ok (.iload_n 2, 1) := by decide +kernel
theorem dX1_traceMatrix_15 : decode cX1_traceMatrix 15 = .ok (.iadd, 1) := by decide +kernel
theorem dX1_traceMatrix_16 : decode cX1_traceMatrix 16 = .ok (.iaload, 1) := by decide +kernel
theorem dX1_traceMatrix_17 : decode cX1_traceMatrix 17 = .ok (.ior, 1) := by decide +kernel
theorem dX1_traceMatrix_18 : decode cX1_traceMatrix 18 = .ok (.aload_n 0, 1) := by decide +kernel
theorem dX1_traceMatrix_19 : decode cX1_traceMatrix 19 = .ok (.bipush 32, 2) := by decide +kernel
theorem dX1_traceMatrix_21 : decode cX1_traceMatrix 21 = .ok (.iload_n 2, 1) := by decide +kernel
theorem dX1_traceMatrix_22 : decode cX1_traceMatrix 22 = .ok (.iadd, 1) := by decide +kernel
theorem dX1_traceMatrix_23 : decode cX1_traceMatrix 23 = .ok (.iaload, 1) := by decide +kernel
theorem dX1_traceMatrix_24 : decode cX1_traceMatrix 24 = .ok (.ior, 1) := by decide +kernel
theorem dX1_traceMatrix_25 : decode cX1_traceMatrix 25 = .ok (.istore_n 3, 1) := by decide +kernel
theorem dX1_traceMatrix_26 : decode cX1_traceMatrix 26 = .ok (.iconst 0, 1) := by decide +kernel
theorem dX1_traceMatrix_27 : decode cX1_traceMatrix 27 = .ok (.istore 4, 2) := by decide +kernel
theorem dX1_traceMatrix_29 : decode cX1_traceMatrix 29 = .ok (.iload 4, 2) := by decide +kernel
theorem dX1_traceMatrix_31 : decode cX1_traceMatrix 31 = .ok (.iconst 3, 1) := by decide +kernel
theorem dX1_traceMatrix_32 : decode cX1_traceMatrix 32 = .ok (.if_icmp .ge 19, 3) := by decide +kernel
theorem dX1_traceMatrix_35 : decode cX1_traceMatrix 35 = .ok (.aload_n 1, 1) := by decide +kernel
theorem dX1_traceMatrix_36 : decode cX1_traceMatrix 36 = .ok (.iload 4, 2) := by decide +kernel
theorem dX1_traceMatrix_38 : decode cX1_traceMatrix 38 = .ok (.bipush 16, 2) := by decide +kernel
theorem dX1_traceMatrix_40 : decode cX1_traceMatrix 40 = .ok (.imul, 1) := by decide +kernel
theorem dX1_traceMatrix_41 : decode cX1_traceMatrix 41 = .ok (.iload_n 2, 1) := by decide +kernel
theorem dX1_traceMatrix_42 : decode cX1_traceMatrix 42 = .ok (.iadd, 1) := by decide +kernel
theorem dX1_traceMatrix_43 : decode cX1_traceMatrix 43 = .ok (.iload_n 3, 1) := by decide +kernel
theorem dX1_traceMatrix_44 : decode cX1_traceMatrix 44 = .ok (.iastore, 1) := by decide +kernel
theorem dX1_traceMatrix_45 : decode cX1_traceMatrix 45 = .ok (.iinc 4 1, 3) := by decide +kernel
theorem dX1_traceMatrix_48 : decode cX1_traceMatrix 48 = .ok (.goto (-19), 3) := by decide +kernel
theorem dX1_traceMatrix_51 : decode cX1_traceMatrix 51 = .ok (.iinc 2 1, 3) := by decide +kernel
theorem dX1_traceMatrix_54 : decode cX1_traceMatrix 54 = .ok (.goto (-52), 3) := by decide +kernel
theorem dX1_traceMatrix_57 : decode cX1_traceMatrix 57 = .ok (.return_, 1) := by decide +kernel
theorem dX1_traceHalf_0 : decode cX1_traceHalf 0 = .ok (.iconst 0, 1) := by decide +kernel
theorem dX1_traceHalf_1 : decode cX1_traceHalf 1 = .ok (.istore_n 3, 1) := by decide +kernel
theorem dX1_traceHalf_2 : decode cX1_traceHalf 2 = .ok (.iload_n 3, 1) := by decide +kernel
theorem dX1_traceHalf_3 : decode cX1_traceHalf 3 = .ok (.iconst 3, 1) := by decide +kernel
theorem dX1_traceHalf_4 : decode cX1_traceHalf 4 = .ok (.if_icmp .ge 70, 3) := by decide +kernel
theorem dX1_traceHalf_7 : decode cX1_traceHalf 7 = .ok (.iconst 0, 1) := by decide +kernel
theorem dX1_traceHalf_8 : decode cX1_traceHalf 8 = .ok (.istore 4, 2) := by decide +kernel
theorem dX1_traceHalf_10 : decode cX1_traceHalf 10 = .ok (.iload 4, 2) := by decide +kernel
theorem dX1_traceHalf_12 : decode cX1_traceHalf 12 = .ok (.aload_n 2, 1) := by decide +kernel
theorem dX1_traceHalf_13 : decode cX1_traceHalf 13 = .ok (.iconst 1, 1) := by decide +kernel
theorem dX1_traceHalf_14 : decode cX1_traceHalf 14 = .ok (.iaload, 1) := by decide +kernel
theorem dX1_traceHalf_15 : decode cX1_traceHalf 15 = .ok (.iconst 2, 1) := by decide +kernel
theorem dX1_traceHalf_16 : decode cX1_traceHalf 16 = .ok (.idiv, 1) := by decide +kernel
theorem dX1_traceHalf_17 : decode cX1_traceHalf 17 = .ok (.if_icmp .ge 51, 3) := by decide +kernel
theorem dX1_traceHalf_20 : decode cX1_traceHalf 20 = .ok (.aload_n 0, 1) := by decide +kernel
theorem dX1_traceHalf_21 : decode cX1_traceHalf 21 = .ok (.iload_n 3, 1) := by decide +kernel
theorem dX1_traceHalf_22 : decode cX1_traceHalf 22 = .ok (.bipush 16, 2) := by decide +kernel
theorem dX1_traceHalf_24 : decode cX1_traceHalf 24 = .ok (.imul, 1) := by decide +kernel
theorem dX1_traceHalf_25 : decode cX1_traceHalf 25 = .ok (.iload 4, 2) := by decide +kernel
theorem dX1_traceHalf_27 : decode cX1_traceHalf 27 = .ok (.iadd, 1) := by decide +kernel
theorem dX1_traceHalf_28 : decode cX1_traceHalf 28 = .ok (.iaload, 1) := by decide +kernel
theorem dX1_traceHalf_29 : decode cX1_traceHalf 29 = .ok (.invokestatic 78, 3) := by decide +kernel
theorem dX1_traceHalf_32 : decode cX1_traceHalf 32 = .ok (.istore 5, 2) := by decide +kernel
theorem dX1_traceHalf_34 : decode cX1_traceHalf 34 = .ok (.aload_n 1, 1) := by decide +kernel
theorem dX1_traceHalf_35 : decode cX1_traceHalf 35 = .ok (.iload_n 3, 1) := by decide +kernel
theorem dX1_traceHalf_36 : decode cX1_traceHalf 36 = .ok (.bipush 16, 2) := by decide +kernel
theorem dX1_traceHalf_38 : decode cX1_traceHalf 38 = .ok (.imul, 1) := by decide +kernel
theorem dX1_traceHalf_39 : decode cX1_traceHalf 39 = .ok (.iconst 2, 1) := by decide +kernel
theorem dX1_traceHalf_40 : decode cX1_traceHalf 40 = .ok (.iload 4, 2) := by decide +kernel
theorem dX1_traceHalf_42 : decode cX1_traceHalf 42 = .ok (.imul, 1) := by decide +kernel
theorem dX1_traceHalf_43 : decode cX1_traceHalf 43 = .ok (.iadd, 1) := by decide +kernel
theorem dX1_traceHalf_44 : decode cX1_traceHalf 44 = .ok (.iload 5, 2) := by decide +kernel
theorem dX1_traceHalf_46 : decode cX1_traceHalf 46 = .ok (.iastore, 1) := by decide +kernel
theorem dX1_traceHalf_47 : decode cX1_traceHalf 47 = .ok (.aload_n 1, 1) := by decide +kernel
theorem dX1_traceHalf_48 : decode cX1_traceHalf 48 = .ok (.iload_n 3, 1) := by decide +kernel
theorem dX1_traceHalf_49 : decode cX1_traceHalf 49 = .ok (.bipush 16, 2) := by decide +kernel
theorem dX1_traceHalf_51 : decode cX1_traceHalf 51 = .ok (.imul, 1) := by decide +kernel
theorem dX1_traceHalf_52 : decode cX1_traceHalf 52 = .ok (.iconst 2, 1) := by decide +kernel
theorem dX1_traceHalf_53 : decode cX1_traceHalf 53 = .ok (.iload 4, 2) := by decide +kernel
theorem dX1_traceHalf_55 : decode cX1_traceHalf 55 = .ok (.imul, 1) := by decide +kernel
theorem dX1_traceHalf_56 : decode cX1_traceHalf 56 = .ok (.iadd, 1) := by decide +kernel
theorem dX1_traceHalf_57 : decode cX1_traceHalf 57 = .ok (.iconst 1, 1) := by decide +kernel
theorem dX1_traceHalf_58 : decode cX1_traceHalf 58 = .ok (.iadd, 1) := by decide +kernel
theorem dX1_traceHalf_59 : decode cX1_traceHalf 59 = .ok (.iload 5, 2) := by decide +kernel
theorem dX1_traceHalf_61 : decode cX1_traceHalf 61 = .ok (.iastore, 1) := by decide +kernel
theorem dX1_traceHalf_62 : decode cX1_traceHalf 62 = .ok (.iinc 4 1, 3) := by decide +kernel
theorem dX1_traceHalf_65 : decode cX1_traceHalf 65 = .ok (.goto (-55), 3) := by decide +kernel
theorem dX1_traceHalf_68 : decode cX1_traceHalf 68 = .ok (.iinc 3 1, 3) := by decide +kernel
theorem dX1_traceHalf_71 : decode cX1_traceHalf 71 = .ok (.goto (-69), 3) := by decide +kernel
theorem dX1_traceHalf_74 : decode cX1_traceHalf 74 = .ok (.return_, 1) := by decide +kernel
theorem dX1_doubled_0 : decode cX1_doubled 0 = .ok (.iconst 0, 1) := by decide +kernel
theorem dX1_doubled_1 : decode cX1_doubled 1 = .ok (.istore_n 1, 1) := by decide +kernel
theorem dX1_doubled_2 : decode cX1_doubled 2 = .ok (.iconst 0, 1) := by decide +kernel
theorem dX1_doubled_3 : decode cX1_doubled 3 = .ok (.istore_n 2, 1) := by decide +kernel
theorem dX1_doubled_4 : decode cX1_doubled 4 = .ok (.iload_n 2, 1) := by decide +kernel
theorem dX1_doubled_5 : decode cX1_doubled 5 = .ok (.bipush 8, 2) := by decide +kernel
theorem dX1_doubled_7 : decode cX1_doubled 7 = .ok (.if_icmp .ge 26, 3) := by decide +kernel
theorem dX1_doubled_10 : decode cX1_doubled 10 = .ok (.iload_n 0, 1) := by decide +kernel
theorem dX1_doubled_11 : decode cX1_doubled 11 = .ok (.iload_n 2, 1) := by decide +kernel
theorem dX1_doubled_12 : decode cX1_doubled 12 = .ok (.ishr, 1) := by decide +kernel
theorem dX1_doubled_13 : decode cX1_doubled 13 = .ok (.iconst 1, 1) := by decide +kernel
theorem dX1_doubled_14 : decode cX1_doubled 14 = .ok (.iand, 1) := by decide +kernel
theorem dX1_doubled_15 : decode cX1_doubled 15 = .ok (.iconst 1, 1) := by decide +kernel
theorem dX1_doubled_16 : decode cX1_doubled 16 = .ok (.if_icmp .ne 11, 3) := by decide +kernel
theorem dX1_doubled_19 : decode cX1_doubled 19 = .ok (.iload_n 1, 1) := by decide +kernel
theorem dX1_doubled_20 : decode cX1_doubled 20 = .ok (.iconst 3, 1) := by decide +kernel
theorem dX1_doubled_21 : decode cX1_doubled 21 = .ok (.iconst 2, 1) := by decide +kernel
theorem dX1_doubled_22 : decode cX1_doubled 22 = .ok (.iload_n 2, 1) := by decide +kernel
theorem dX1_doubled_23 : decode cX1_doubled 23 = .ok (.imul, 1) := by decide +kernel
theorem dX1_doubled_24 : decode cX1_doubled 24 = .ok (.ishl, 1) := by decide +kernel
theorem dX1_doubled_25 : decode cX1_doubled 25 = .ok (.ior, 1) := by decide +kernel
theorem dX1_doubled_26 : decode cX1_doubled 26 = .ok (.istore_n 1, 1) := by decide +kernel
theorem dX1_doubled_27 : decode cX1_doubled 27 = .ok (.iinc 2 1, 3) := by decide +kernel
theorem dX1_doubled_30 : decode cX1_doubled 30 = .ok (.goto (-26), 3) := by decide +kernel
theorem dX1_doubled_33 : decode cX1_doubled 33 = .ok (.iload_n 1, 1) := by decide +kernel
theorem dX1_doubled_34 : decode cX1_doubled 34 = .ok (.ireturn, 1) := by decide +kernel
theorem dX2_init_0 : decode cX2_init 0 = .ok (.aload_n 0, 1) := by decide +kernel
theorem dX2_init_1 : decode cX2_init 1 = .ok (.invokespecial 3, 3) := by decide +kernel
theorem dX2_init_4 : decode cX2_init 4 = .ok (.aload_n 0, 1) := by decide +kernel
theorem dX2_init_5 : decode cX2_init 5 = .ok (.sipush 768, 3) := by decide +kernel
theorem dX2_init_8 : decode cX2_init 8 = .ok (.newarray .int, 2) := by decide +kernel
theorem dX2_init_10 : decode cX2_init 10 = .ok (.putfield 9, 3) := by decide +kernel
theorem dX2_init_13 : decode cX2_init 13 = .ok (.aload_n 0, 1) := by decide +kernel
theorem dX2_init_14 : decode cX2_init 14 = .ok (.sipush 768, 3) := by decide +kernel
theorem dX2_init_17 : decode cX2_init 17 = .ok (.newarray .int, 2) := by decide +kernel
theorem dX2_init_19 : decode cX2_init 19 = .ok (.putfield 15, 3) := by decide +kernel
theorem dX2_init_22 : decode cX2_init 22 = .ok (.aload_n 0, 1) := by decide +kernel
theorem dX2_init_23 : decode cX2_init 23 = .ok (.iconst 5, 1) := by decide +kernel
theorem dX2_init_24 : decode cX2_init 24 = .ok (.newarray .int, 2) := by decide +kernel
theorem dX2_init_26 : decode cX2_init 26 = .ok (.putfield 18, 3) := by decide +kernel
theorem dX2_init_29 : decode cX2_init 29 = .ok (.return_, 1) := by decide +kernel
theorem dX2_make_0 : decode cX2_make 0 = .ok (.aload_n 3, 1) := by decide +kernel
theorem dX2_make_1 : decode cX2_make 1 = .ok (.aload_n 2, 1) := by decide +kernel
theorem dX2_make_2 : decode cX2_make 2 = .ok (.invokevirtual 21, 3) := by decide +kernel
theorem dX2_make_5 : decode cX2_make 5 = .ok (.aload_n 0, 1) := by decide +kernel
theorem dX2_make_6 : decode cX2_make 6 = .ok (.aload_n 1, 1) := by decide +kernel
theorem dX2_make_7 : decode cX2_make 7 = .ok (.aload_n 3, 1) := by decide +kernel
theorem dX2_make_8 : decode cX2_make 8 = .ok (.invokevirtual 27, 3) := by decide +kernel
theorem dX2_make_11 : decode cX2_make 11 = .ok (.iconst 0, 1) := by decide +kernel
theorem dX2_make_12 : decode cX2_make 12 = .ok (.istore 4, 2) := by decide +kernel
theorem dX2_make_14 : decode cX2_make 14 = .ok (.iload 4, 2) := by decide +kernel
theorem dX2_make_16 : decode cX2_make 16 = .ok (.aload_n 3, 1) := by decide +kernel
theorem dX2_make_17 : decode cX2_make 17 = .ok (.getfield 31, 3) := by decide +kernel
theorem dX2_make_20 : decode cX2_make 20 = .ok (.if_icmp .ge 38, 3) := by decide +kernel
theorem dX2_make_23 : decode cX2_make 23 = .ok (.aload_n 0, 1) := by decide +kernel
theorem dX2_make_24 : decode cX2_make 24 = .ok (.aload_n 1, 1) := by decide +kernel
theorem dX2_make_25 : decode cX2_make 25 = .ok (.aload_n 2, 1) := by decide +kernel
theorem dX2_make_26 : decode cX2_make 26 = .ok (.aload_n 3, 1) := by decide +kernel
theorem dX2_make_27 : decode cX2_make 27 = .ok (.iload 4, 2) := by decide +kernel
theorem dX2_make_29 : decode cX2_make 29 = .ok (.invokevirtual 35, 3) := by decide +kernel
theorem dX2_make_32 : decode cX2_make 32 = .ok (.aload_n 0, 1) := by decide +kernel
theorem dX2_make_33 : decode cX2_make 33 = .ok (.getfield 9, 3) := by decide +kernel
theorem dX2_make_36 : decode cX2_make 36 = .ok (.astore 5, 2) := by decide +kernel
theorem dX2_make_38 : decode cX2_make 38 = .ok (.aload_n 0, 1) := by decide +kernel
theorem dX2_make_39 : decode cX2_make 39 = .ok (.aload_n 0, 1) := by decide +kernel
theorem dX2_make_40 : decode cX2_make 40 = .ok (.getfield 15, 3) := by decide +kernel
theorem dX2_make_43 : decode cX2_make 43 = .ok (.putfield 9, 3) := by decide +kernel
theorem dX2_make_46 : decode cX2_make 46 = .ok (.aload_n 0, 1) := by decide +kernel
theorem dX2_make_47 : decode cX2_make 47 = .ok (.aload 5, 2) := by decide +kernel
theorem dX2_make_49 : decode cX2_make 49 = .ok (.putfield 15, 3) := by decide +kernel
theorem dX2_make_52 : decode cX2_make 52 = .ok (.iinc 4 1, 3) := by decide +kernel
theorem dX2_make_55 : decode cX2_make 55 = .ok (.goto (-41), 3) := by decide +kernel
theorem dX2_make_58 : decode cX2_make 58 = .ok (.return_, 1) := by decide +kernel
theorem dX2_made_0 : decode cX2_made 0 = .ok (.aload_n 0, 1) := by decide +kernel
theorem dX2_made_1 : decode cX2_made 1 = .ok (.getfield 9, 3) := by decide +kernel
theorem dX2_made_4 : decode cX2_made 4 = .ok (.iload_n 3, 1) := by decide +kernel
theorem dX2_made_5 : decode cX2_made 5 = .ok (.sipush 256, 3) := by decide +kernel
theorem dX2_made_8 : decode cX2_made 8 = .ok (.imul, 1) := by decide +kernel
theorem dX2_made_9 : decode cX2_made 9 = .ok (.iload_n 2, 1) := by decide +kernel
theorem dX2_made_10 : decode cX2_made 10 = .ok (.bipush 16, 2) := by decide +kernel
theorem dX2_made_12 : decode cX2_made 12 = .ok (.imul, 1) := by decide +kernel
theorem dX2_made_13 : decode cX2_made 13 = .ok (.iadd, 1) := by decide +kernel
theorem dX2_made_14 : decode cX2_made 14 = .ok (.iload_n 1, 1) := by decide +kernel
theorem dX2_made_15 : decode cX2_made 15 = .ok (.iadd, 1) := by decide +kernel
theorem dX2_made_16 : decode cX2_made 16 = .ok (.iaload, 1) := by decide +kernel
theorem dX2_made_17 : decode cX2_made 17 = .ok (.ireturn, 1) := by decide +kernel
theorem dX2_sumOf_0 : decode cX2_sumOf 0 = .ok (.iconst 0, 1) := by decide +kernel
theorem dX2_sumOf_1 : decode cX2_sumOf 1 = .ok (.istore 6, 2) := by decide +kernel
theorem dX2_sumOf_3 : decode cX2_sumOf 3 = .ok (.iload_n 2, 1) := by decide +kernel
theorem dX2_sumOf_4 : decode cX2_sumOf 4 = .ok (.istore 7, 2) := by decide +kernel
theorem dX2_sumOf_6 : decode cX2_sumOf 6 = .ok (.iload 7, 2) := by decide +kernel
theorem dX2_sumOf_8 : decode cX2_sumOf 8 = .ok (.iload_n 2, 1) := by decide +kernel
theorem dX2_sumOf_9 : decode cX2_sumOf 9 = .ok (.iload 4, 2) := by decide +kernel
theorem dX2_sumOf_11 : decode cX2_sumOf 11 = .ok (.iadd, 1) := by decide +kernel
theorem dX2_sumOf_12 : decode cX2_sumOf 12 = .ok (.if_icmp .ge 41, 3) := by decide +kernel
theorem dX2_sumOf_15 : decode cX2_sumOf 15 = .ok (.iload_n 1, 1) := by decide +kernel
theorem dX2_sumOf_16 : decode cX2_sumOf 16 = .ok (.istore 8, 2) := by decide +kernel
theorem dX2_sumOf_18 : decode cX2_sumOf 18 = .ok (.iload 8, 2) := by decide +kernel
theorem dX2_sumOf_20 : decode cX2_sumOf 20 = .ok (.iload_n 1, 1) := by decide +kernel
theorem dX2_sumOf_21 : decode cX2_sumOf 21 = .ok (.iload_n 3, 1) := by decide +kernel
theorem dX2_sumOf_22 : decode cX2_sumOf 22 = .ok (.iadd, 1) := by decide +kernel
theorem dX2_sumOf_23 : decode cX2_sumOf 23 = .ok (.if_icmp .ge 24, 3) := by decide +kernel
theorem dX2_sumOf_26 : decode cX2_sumOf 26 = .ok (.iload 6, 2) := by decide +kernel
theorem dX2_sumOf_28 : decode cX2_sumOf 28 = .ok (.aload_n 0, 1) := by decide +kernel
theorem dX2_sumOf_29 : decode cX2_sumOf 29 = .ok (.iload 8, 2) := by decide +kernel
theorem dX2_sumOf_31 : decode cX2_sumOf 31 = .ok (.iload 7, 2) := by decide +kernel
theorem dX2_sumOf_33 : decode cX2_sumOf 33 = .ok (.iload 5, 2) := by decide +kernel
theorem dX2_sumOf_35 : decode cX2_sumOf 35 = .ok (.invokevirtual 39, 3) := by decide +kernel
theorem dX2_sumOf_38 : decode cX2_sumOf 38 = .ok (.iadd, 1) := by decide +kernel
theorem dX2_sumOf_39 : decode cX2_sumOf 39 = .ok (.istore 6, 2) := by decide +kernel
theorem dX2_sumOf_41 : decode cX2_sumOf 41 = .ok (.iinc 8 1, 3) := by decide +kernel
theorem dX2_sumOf_44 : decode cX2_sumOf 44 = .ok (.goto (-26), 3) := by decide +kernel
theorem dX2_sumOf_47 : decode cX2_sumOf 47 = .ok (.iinc 7 1, 3) := by decide +kernel
theorem dX2_sumOf_50 : decode cX2_sumOf 50 = .ok (.goto (-44), 3) := by decide +kernel
theorem dX2_sumOf_53 : decode cX2_sumOf 53 = .ok (.iload 6, 2) := by decide +kernel
theorem dX2_sumOf_55 : decode cX2_sumOf 55 = .ok (.ireturn, 1) := by decide +kernel
theorem dX2_leastOf_0 : decode cX2_leastOf 0 = .ok (.sipush 4095, 3) := by decide +kernel
theorem dX2_leastOf_3 : decode cX2_leastOf 3 = .ok (.istore 4, 2) := by decide +kernel
theorem dX2_leastOf_5 : decode cX2_leastOf 5 = .ok (.iconst 0, 1) := by decide +kernel
theorem dX2_leastOf_6 : decode cX2_leastOf 6 = .ok (.istore 5, 2) := by decide +kernel
theorem dX2_leastOf_8 : decode cX2_leastOf 8 = .ok (.iload 5, 2) := by decide +kernel
theorem dX2_leastOf_10 : decode cX2_leastOf 10 = .ok (.iload_n 2, 1) := by decide +kernel
theorem dX2_leastOf_11 : decode cX2_leastOf 11 = .ok (.if_icmp .ge 40, 3) := by decide +kernel
theorem dX2_leastOf_14 : decode cX2_leastOf 14 = .ok (.iconst 0, 1) := by decide +kernel
theorem dX2_leastOf_15 : decode cX2_leastOf 15 = .ok (.istore 6, 2) := by decide +kernel
theorem dX2_leastOf_17 : decode cX2_leastOf 17 = .ok (.iload 6, 2) := by decide +kernel
theorem dX2_leastOf_19 : decode cX2_leastOf 19 = .ok (.iload_n 1, 1) := by decide +kernel
theorem dX2_leastOf_20 : decode cX2_leastOf 20 = .ok (.if_icmp .ge 25, 3) := by decide +kernel
theorem dX2_leastOf_23 : decode cX2_leastOf 23 = .ok (.iload 4, 2) := by decide +kernel
theorem dX2_leastOf_25 : decode cX2_leastOf 25 = .ok (.aload_n 0, 1) := by decide +kernel
theorem dX2_leastOf_26 : decode cX2_leastOf 26 = .ok (.iload 6, 2) := by decide +kernel
theorem dX2_leastOf_28 : decode cX2_leastOf 28 = .ok (.iload 5, 2) := by decide +kernel
theorem dX2_leastOf_30 : decode cX2_leastOf 30 = .ok (.iload_n 3, 1) := by decide +kernel
theorem dX2_leastOf_31 : decode cX2_leastOf 31 = .ok (.invokevirtual 39, 3) := by decide +kernel
theorem dX2_leastOf_34 : decode cX2_leastOf 34 = .ok (.invokestatic 43, 3) := by decide +kernel
theorem dX2_leastOf_37 : decode cX2_leastOf 37 = .ok (.istore 4, 2) := by decide +kernel
theorem dX2_leastOf_39 : decode cX2_leastOf 39 = .ok (.iinc 6 1, 3) := by decide +kernel
theorem dX2_leastOf_42 : decode cX2_leastOf 42 = .ok (.goto (-25), 3) := by decide +kernel
theorem dX2_leastOf_45 : decode cX2_leastOf 45 = .ok (.iinc 5 1, 3) := by decide +kernel
theorem dX2_leastOf_48 : decode cX2_leastOf 48 = .ok (.goto (-40), 3) := by decide +kernel
theorem dX2_leastOf_51 : decode cX2_leastOf 51 = .ok (.iload 4, 2) := by decide +kernel
theorem dX2_leastOf_53 : decode cX2_leastOf 53 = .ok (.ireturn, 1) := by decide +kernel
theorem dX2_greatestOf_0 : decode cX2_greatestOf 0 = .ok (.iconst 0, 1) := by decide +kernel
theorem dX2_greatestOf_1 : decode cX2_greatestOf 1 = .ok (.istore 4, 2) := by decide +kernel
theorem dX2_greatestOf_3 : decode cX2_greatestOf 3 = .ok (.iconst 0, 1) := by decide +kernel
theorem dX2_greatestOf_4 : decode cX2_greatestOf 4 = .ok (.istore 5, 2) := by decide +kernel
theorem dX2_greatestOf_6 : decode cX2_greatestOf 6 = .ok (.iload 5, 2) := by decide +kernel
theorem dX2_greatestOf_8 : decode cX2_greatestOf 8 = .ok (.iload_n 2, 1) := by decide +kernel
theorem dX2_greatestOf_9 : decode cX2_greatestOf 9 = .ok (.if_icmp .ge 40, 3) := by decide +kernel
theorem dX2_greatestOf_12 : decode cX2_greatestOf 12 = .ok (.iconst 0, 1) := by decide +kernel
theorem dX2_greatestOf_13 : decode cX2_greatestOf 13 = .ok (.istore 6, 2) := by decide +kernel
theorem dX2_greatestOf_15 : decode cX2_greatestOf 15 = .ok (.iload 6, 2) := by decide +kernel
theorem dX2_greatestOf_17 : decode cX2_greatestOf 17 = .ok (.iload_n 1, 1) := by decide +kernel
theorem dX2_greatestOf_18 : decode cX2_greatestOf 18 = .ok (.if_icmp .ge 25, 3) := by decide +kernel
theorem dX2_greatestOf_21 : decode cX2_greatestOf 21 = .ok (.iload 4, 2) := by decide +kernel
theorem dX2_greatestOf_23 : decode cX2_greatestOf 23 = .ok (.aload_n 0, 1) := by decide +kernel
theorem dX2_greatestOf_24 : decode cX2_greatestOf 24 = .ok (.iload 6, 2) := by decide +kernel
theorem dX2_greatestOf_26 : decode cX2_greatestOf 26 = .ok (.iload 5, 2) := by decide +kernel
theorem dX2_greatestOf_28 : decode cX2_greatestOf 28 = .ok (.iload_n 3, 1) := by decide +kernel
theorem dX2_greatestOf_29 : decode cX2_greatestOf 29 = .ok (.invokevirtual 39, 3) := by decide +kernel
theorem dX2_greatestOf_32 : decode cX2_greatestOf 32 = .ok (.invokestatic 49, 3) := by decide +kernel
theorem dX2_greatestOf_35 : decode cX2_greatestOf 35 = .ok (.istore 4, 2) := by decide +kernel
theorem dX2_greatestOf_37 : decode cX2_greatestOf 37 = .ok (.iinc 6 1, 3) := by decide +kernel
theorem dX2_greatestOf_40 : decode cX2_greatestOf 40 = .ok (.goto (-25), 3) := by decide +kernel
theorem dX2_greatestOf_43 : decode cX2_greatestOf 43 = .ok (.iinc 5 1, 3) := by decide +kernel
theorem dX2_greatestOf_46 : decode cX2_greatestOf 46 = .ok (.goto (-40), 3) := by decide +kernel
theorem dX2_greatestOf_49 : decode cX2_greatestOf 49 = .ok (.iload 4, 2) := by decide +kernel
theorem dX2_greatestOf_51 : decode cX2_greatestOf 51 = .ok (.ireturn, 1) := by decide +kernel
theorem dX2_takeCells_0 : decode cX2_takeCells 0 = .ok (.iconst 0, 1) := by decide +kernel
theorem dX2_takeCells_1 : decode cX2_takeCells 1 = .ok (.istore_n 3, 1) := by decide +kernel
theorem dX2_takeCells_2 : decode cX2_takeCells 2 = .ok (.iload_n 3, 1) := by decide +kernel
theorem dX2_takeCells_3 : decode cX2_takeCells 3 = .ok (.aload_n 1, 1) := by decide +kernel
theorem dX2_takeCells_4 : decode cX2_takeCells 4 = .ok (.getfield 52, 3) := by decide +kernel
theorem dX2_takeCells_7 : decode cX2_takeCells 7 = .ok (.if_icmp .ge 61, 3) := by decide +kernel
theorem dX2_takeCells_10 : decode cX2_takeCells 10 = .ok (.iconst 0, 1) := by decide +kernel
theorem dX2_takeCells_11 : decode cX2_takeCells 11 = .ok (.istore 4, 2) := by decide +kernel
theorem dX2_takeCells_13 : decode cX2_takeCells 13 = .ok (.iload 4, 2) := by decide +kernel
theorem dX2_takeCells_15 : decode cX2_takeCells 15 = .ok (.aload_n 1, 1) := by decide +kernel
theorem dX2_takeCells_16 : decode cX2_takeCells 16 = .ok (.getfield 57, 3) := by decide +kernel
theorem dX2_takeCells_19 : decode cX2_takeCells 19 = .ok (.if_icmp .ge 43, 3) := by decide +kernel
theorem dX2_takeCells_22 : decode cX2_takeCells 22 = .ok (.aload_n 2, 1) := by decide +kernel
theorem dX2_takeCells_23 : decode cX2_takeCells 23 = .ok (.iconst 0, 1) := by decide +kernel
theorem dX2_takeCells_24 : decode cX2_takeCells 24 = .ok (.iload 4, 2) := by decide +kernel
theorem dX2_takeCells_26 : decode cX2_takeCells 26 = .ok (.iload_n 3, 1) := by decide +kernel
theorem dX2_takeCells_27 : decode cX2_takeCells 27 = .ok (.iconst 0, 1) := by decide +kernel
theorem dX2_takeCells_28 : decode cX2_takeCells 28 = .ok (.invokevirtual 60, 3) := by decide +kernel
theorem dX2_takeCells_31 : decode cX2_takeCells 31 = .ok (.ifCond .eq 25, 3) := by decide +kernel
theorem dX2_takeCells_34 : decode cX2_takeCells 34 = .ok (.aload_n 0, 1) := by decide +kernel
theorem dX2_takeCells_35 : decode cX2_takeCells 35 = .ok (.getfield 9, 3) := by decide +kernel
theorem dX2_takeCells_38 : decode cX2_takeCells 38 = .ok (.iload 4, 2) := by decide +kernel
theorem dX2_takeCells_40 : decode cX2_takeCells 40 = .ok (.iload_n 3, 1) := by decide +kernel
theorem dX2_takeCells_41 : decode cX2_takeCells 41 = .ok (.invokestatic 64, 3) := by decide +kernel
theorem dX2_takeCells_44 : decode cX2_takeCells 44 = .ok (.aload_n 1, 1) := by decide +kernel
theorem dX2_takeCells_45 : decode cX2_takeCells 45 = .ok (.getfield 67, 3) := by decide +kernel
theorem dX2_takeCells_48 : decode cX2_takeCells 48 = .ok (.iload 4, 2) := by decide +kernel
theorem dX2_takeCells_50 : decode cX2_takeCells 50 = .ok (.iload_n 3, 1) := by decide +kernel
theorem dX2_takeCells_51 : decode cX2_takeCells 51 = .ok (.invokestatic 64, 3) := by decide +kernel
theorem dX2_takeCells_54 : decode cX2_takeCells 54 = .ok (.iaload, 1) := by decide +kernel
theorem dX2_takeCells_55 : decode cX2_takeCells 55 = .ok (.iastore, 1) := by decide +kernel
theorem dX2_takeCells_56 : decode cX2_takeCells 56 = .ok (.iinc 4 1, 3) := by decide +kernel
theorem dX2_takeCells_59 : decode cX2_takeCells 59 = .ok (.goto (-46), 3) := by decide +kernel
theorem dX2_takeCells_62 : decode cX2_takeCells 62 = .ok (.iinc 3 1, 3) := by decide +kernel
theorem dX2_takeCells_65 : decode cX2_takeCells 65 = .ok (.goto (-63), 3) := by decide +kernel
theorem dX2_takeCells_68 : decode cX2_takeCells 68 = .ok (.return_, 1) := by decide +kernel
theorem dX2_makeStage_0 : decode cX2_makeStage 0 = .ok (.aload_n 2, 1) := by decide +kernel
theorem dX2_makeStage_1 : decode cX2_makeStage 1 = .ok (.getfield 70, 3) := by decide +kernel
theorem dX2_makeStage_4 : decode cX2_makeStage 4 = .ok (.iload 4, 2) := by decide +kernel
theorem dX2_makeStage_6 : decode cX2_makeStage 6 = .ok (.iconst 1, 1) := by decide +kernel
theorem dX2_makeStage_7 : decode cX2_makeStage 7 = .ok (.iadd, 1) := by decide +kernel
theorem dX2_makeStage_8 : decode cX2_makeStage 8 = .ok (.aaload, 1) := by decide +kernel
theorem dX2_makeStage_9 : decode cX2_makeStage 9 = .ok (.astore 5, 2) := by decide +kernel
theorem dX2_makeStage_11 : decode cX2_makeStage 11 = .ok (.iconst 0, 1) := by decide +kernel
theorem dX2_makeStage_12 : decode cX2_makeStage 12 = .ok (.istore 6, 2) := by decide +kernel
theorem dX2_makeStage_14 : decode cX2_makeStage 14 = .ok (.iload 6, 2) := by decide +kernel
theorem dX2_makeStage_16 : decode cX2_makeStage 16 = .ok (.aload 5, 2) := by decide +kernel
theorem dX2_makeStage_18 : decode cX2_makeStage 18 = .ok (.iconst 2, 1) := by decide +kernel
theorem dX2_makeStage_19 : decode cX2_makeStage 19 = .ok (.iaload, 1) := by decide +kernel
theorem dX2_makeStage_20 : decode cX2_makeStage 20 = .ok (.if_icmp .ge 140, 3) := by decide +kernel
theorem dX2_makeStage_23 : decode cX2_makeStage 23 = .ok (.iconst 0, 1) := by decide +kernel
theorem dX2_makeStage_24 : decode cX2_makeStage 24 = .ok (.istore 7, 2) := by decide +kernel
theorem dX2_makeStage_26 : decode cX2_makeStage 26 = .ok (.iload 7, 2) := by decide +kernel
theorem dX2_makeStage_28 : decode cX2_makeStage 28 = .ok (.aload 5, 2) := by decide +kernel
theorem dX2_makeStage_30 : decode cX2_makeStage 30 = .ok (.iconst 1, 1) := by decide +kernel
theorem dX2_makeStage_31 : decode cX2_makeStage 31 = .ok (.iaload, 1) := by decide +kernel
theorem dX2_makeStage_32 : decode cX2_makeStage 32 = .ok (.if_icmp .ge 122, 3) := by decide +kernel
theorem dX2_makeStage_35 : decode cX2_makeStage 35 = .ok (.aload_n 3, 1) := by decide +kernel
theorem dX2_makeStage_36 : decode cX2_makeStage 36 = .ok (.getfield 76, 3) := by decide +kernel
theorem dX2_makeStage_39 : decode cX2_makeStage 39 = .ok (.iload 4, 2) := by decide +kernel
theorem dX2_makeStage_41 : decode cX2_makeStage 41 = .ok (.iconst 1, 1) := by decide +kernel
theorem dX2_makeStage_42 : decode cX2_makeStage 42 = .ok (.iadd, 1) := by decide +kernel
theorem dX2_makeStage_43 : decode cX2_makeStage 43 = .ok (.aaload, 1) := by decide +kernel
theorem dX2_makeStage_44 : decode cX2_makeStage 44 = .ok (.iload 6, 2) := by decide +kernel
theorem dX2_makeStage_46 : decode cX2_makeStage 46 = .ok (.bipush 16, 2) := by decide +kernel
theorem dX2_makeStage_48 : decode cX2_makeStage 48 = .ok (.imul, 1) := by decide +kernel
theorem dX2_makeStage_49 : decode cX2_makeStage 49 = .ok (.iload 7, 2) := by decide +kernel
theorem dX2_makeStage_51 : decode cX2_makeStage 51 = .ok (.iadd, 1) := by decide +kernel
theorem dX2_makeStage_52 : decode cX2_makeStage 52 = .ok (.iaload, 1) := by decide +kernel
theorem dX2_makeStage_53 : decode cX2_makeStage 53 = .ok (.istore 8, 2) := by decide +kernel
theorem dX2_makeStage_55 : decode cX2_makeStage 55 = .ok (.iconst 0, 1) := by decide +kernel
theorem dX2_makeStage_56 : decode cX2_makeStage 56 = .ok (.istore 9, 2) := by decide +kernel
theorem dX2_makeStage_58 : decode cX2_makeStage 58 = .ok (.iload 9, 2) := by decide +kernel
theorem dX2_makeStage_60 : decode cX2_makeStage 60 = .ok (.bipush 16, 2) := by decide +kernel
theorem dX2_makeStage_62 : decode cX2_makeStage 62 = .ok (.if_icmp .ge 86, 3) := by decide +kernel
theorem dX2_makeStage_65 : decode cX2_makeStage 65 = .ok (.iload 8, 2) := by decide +kernel
theorem dX2_makeStage_67 : decode cX2_makeStage 67 = .ok (.iload 9, 2) := by decide +kernel
theorem dX2_makeStage_69 : decode cX2_makeStage 69 = .ok (.ishr, 1) := by decide +kernel
theorem dX2_makeStage_70 : decode cX2_makeStage 70 = .ok (.ifCond .eq 78, 3) := by decide +kernel
theorem dX2_makeStage_73 : decode cX2_makeStage 73 = .ok (.iload 8, 2) := by decide +kernel
theorem dX2_makeStage_75 : decode cX2_makeStage 75 = .ok (.iload 9, 2) := by decide +kernel
theorem dX2_makeStage_77 : decode cX2_makeStage 77 = .ok (.ishr, 1) := by decide +kernel
theorem dX2_makeStage_78 : decode cX2_makeStage 78 = .ok (.iconst 1, 1) := by decide +kernel
theorem dX2_makeStage_79 : decode cX2_makeStage 79 = .ok (.iand, 1) := by decide +kernel
theorem dX2_makeStage_80 : decode cX2_makeStage 80 = .ok (.iconst 1, 1) := by decide +kernel
theorem dX2_makeStage_81 : decode cX2_makeStage 81 = .ok (.if_icmp .ne 61, 3) := by decide +kernel
theorem dX2_makeStage_84 : decode cX2_makeStage 84 = .ok (.aload_n 0, 1) := by decide +kernel
theorem dX2_makeStage_85 : decode cX2_makeStage 85 = .ok (.aload_n 1, 1) := by decide +kernel
theorem dX2_makeStage_86 : decode cX2_makeStage 86 = .ok (.aload_n 2, 1) := by decide +kernel
theorem dX2_makeStage_87 : decode cX2_makeStage 87 = .ok (.getfield 79, 3) := by decide +kernel
theorem dX2_makeStage_90 : decode cX2_makeStage 90 = .ok (.iload 4, 2) := by decide +kernel
theorem dX2_makeStage_92 : decode cX2_makeStage 92 = .ok (.iaload, 1) := by decide +kernel
theorem dX2_makeStage_93 : decode cX2_makeStage 93 = .ok (.aload_n 2, 1) := by decide +kernel
theorem dX2_makeStage_94 : decode cX2_makeStage 94 = .ok (.getfield 82, 3) := by decide +kernel
theorem dX2_makeStage_97 : decode cX2_makeStage 97 = .ok (.iload 4, 2) := by decide +kernel
theorem dX2_makeStage_99 : decode cX2_makeStage 99 = .ok (.aaload, 1) := by decide +kernel
theorem dX2_makeStage_100 : decode cX2_makeStage 100 = .ok (.iload 9, 2) := by decide +kernel
theorem dX2_makeStage_102 : decode cX2_makeStage 102 = .ok (.iload 7, 2) := by decide +kernel
theorem dX2_makeStage_104 : decode cX2_makeStage 104 = .ok (.iload 6, 2) := by decide +kernel
theorem dX2_makeStage_106 : decode cX2_makeStage 106 = .ok (.invokevirtual 85, 3) := by decide +kernel
theorem dX2_makeStage_109 : decode cX2_makeStage 109 = .ok (.istore 10, 2) := by decide +kernel
theorem dX2_makeStage_111 : decode cX2_makeStage 111 = .ok (.aload_n 0, 1) := by decide +kernel
theorem dX2_makeStage_112 : decode cX2_makeStage 112 = .ok (.getfield 15, 3) := by decide +kernel
theorem dX2_makeStage_115 : decode cX2_makeStage 115 = .ok (.iload 6, 2) := by decide +kernel
theorem dX2_makeStage_117 : decode cX2_makeStage 117 = .ok (.sipush 256, 3) := by decide +kernel
theorem dX2_makeStage_120 : decode cX2_makeStage 120 = .ok (.imul, 1) := by decide +kernel
theorem dX2_makeStage_121 : decode cX2_makeStage 121 = .ok (.iload 9, 2) := by decide +kernel
theorem dX2_makeStage_123 : decode cX2_makeStage 123 = .ok (.iload 7, 2) := by decide +kernel
theorem dX2_makeStage_125 : decode cX2_makeStage 125 = .ok (.invokestatic 64, 3) := by decide +kernel
theorem dX2_makeStage_128 : decode cX2_makeStage 128 = .ok (.iadd, 1) := by decide +kernel
theorem dX2_makeStage_129 : decode cX2_makeStage 129 = .ok (.iconst 0, 1) := by decide +kernel
theorem dX2_makeStage_130 : decode cX2_makeStage 130 = .ok (.iload 10, 2) := by decide +kernel
theorem dX2_makeStage_132 : decode cX2_makeStage 132 = .ok (.sipush 4095, 3) := by decide +kernel
theorem dX2_makeStage_135 : decode cX2_makeStage 135 = .ok (.invokestatic 43, 3) := by decide +kernel
theorem dX2_makeStage_138 : decode cX2_makeStage 138 = .ok (.invokestatic 49, 3) := by decide +kernel
theorem dX2_makeStage_141 : decode cX2_makeStage 141 = .ok (.iastore, 1) := by decide +kernel
theorem dX2_makeStage_142 : decode cX2_makeStage 142 = .ok (.iinc 9 1, 3) := by decide +kernel
theorem dX2_makeStage_145 : decode cX2_makeStage 145 = .ok (.goto (-87), 3) := by decide +kernel
theorem dX2_makeStage_148 : decode cX2_makeStage 148 = .ok (.iinc 7 1, 3) := by decide +kernel
theorem dX2_makeStage_151 : decode cX2_makeStage 151 = .ok (.goto (-125), 3) := by decide +kernel
theorem dX2_makeStage_154 : decode cX2_makeStage 154 = .ok (.iinc 6 1, 3) := by decide +kernel
theorem dX2_makeStage_157 : decode cX2_makeStage 157 = .ok (.goto (-143), 3) := by decide +kernel
theorem dX2_makeStage_160 : decode cX2_makeStage 160 = .ok (.return_, 1) := by decide +kernel
theorem dX2_behindStep_0 : decode cX2_behindStep 0 = .ok (.iload_n 2, 1) := by decide +kernel
theorem dX2_behindStep_1 : decode cX2_behindStep 1 = .ok (.tableswitch 142 0 6 #[43, 58, 83, 93, 103, 115, 127], 43) := by decide +kernel
theorem dX2_behindStep_44 : decode cX2_behindStep 44 = .ok (.aload_n 0, 1) := by decide +kernel
theorem dX2_behindStep_45 : decode cX2_behindStep 45 = .ok (.iload 4, 2) := by decide +kernel
theorem dX2_behindStep_47 : decode cX2_behindStep 47 = .ok (.iload 5, 2) := by decide +kernel
theorem dX2_behindStep_49 : decode cX2_behindStep 49 = .ok (.iload 6, 2) := by decide +kernel
theorem dX2_behindStep_51 : decode cX2_behindStep 51 = .ok (.invokevirtual 39, 3) := by decide +kernel
theorem dX2_behindStep_54 : decode cX2_behindStep 54 = .ok (.aload_n 3, 1) := by decide +kernel
theorem dX2_behindStep_55 : decode cX2_behindStep 55 = .ok (.iconst 0, 1) := by decide +kernel
theorem dX2_behindStep_56 : decode cX2_behindStep 56 = .ok (.iaload, 1) := by decide +kernel
theorem dX2_behindStep_57 : decode cX2_behindStep 57 = .ok (.isub, 1) := by decide +kernel
theorem dX2_behindStep_58 : decode cX2_behindStep 58 = .ok (.ireturn, 1) := by decide +kernel
theorem dX2_behindStep_59 : decode cX2_behindStep 59 = .ok (.aload_n 0, 1) := by decide +kernel
theorem dX2_behindStep_60 : decode cX2_behindStep 60 = .ok (.iload 4, 2) := by decide +kernel
theorem dX2_behindStep_62 : decode cX2_behindStep 62 = .ok (.iload 5, 2) := by decide +kernel
theorem dX2_behindStep_64 : decode cX2_behindStep 64 = .ok (.iload 6, 2) := by decide +kernel
theorem dX2_behindStep_66 : decode cX2_behindStep 66 = .ok (.invokevirtual 39, 3) := by decide +kernel
theorem dX2_behindStep_69 : decode cX2_behindStep 69 = .ok (.aload_n 3, 1) := by decide +kernel
theorem dX2_behindStep_70 : decode cX2_behindStep 70 = .ok (.iload 4, 2) := by decide +kernel
theorem dX2_behindStep_72 : decode cX2_behindStep 72 = .ok (.iload 5, 2) := by decide +kernel
theorem dX2_behindStep_74 : decode cX2_behindStep 74 = .ok (.invokestatic 89, 3) := by decide +kernel
theorem dX2_behindStep_77 : decode cX2_behindStep 77 = .ok (.iaload, 1) := by decide +kernel
theorem dX2_behindStep_78 : decode cX2_behindStep 78 = .ok (.imul, 1) := by decide +kernel
theorem dX2_behindStep_79 : decode cX2_behindStep 79 = .ok (.sipush 1000, 3) := by decide +kernel
theorem dX2_behindStep_82 : decode cX2_behindStep 82 = .ok (.idiv, 1) := by decide +kernel
theorem dX2_behindStep_83 : decode cX2_behindStep 83 = .ok (.ireturn, 1) := by decide +kernel
theorem dX2_behindStep_84 : decode cX2_behindStep 84 = .ok (.aload_n 0, 1) := by decide +kernel
theorem dX2_behindStep_85 : decode cX2_behindStep 85 = .ok (.aload_n 1, 1) := by decide +kernel
theorem dX2_behindStep_86 : decode cX2_behindStep 86 = .ok (.iload 4, 2) := by decide +kernel
theorem dX2_behindStep_88 : decode cX2_behindStep 88 = .ok (.iload 5, 2) := by decide +kernel
theorem dX2_behindStep_90 : decode cX2_behindStep 90 = .ok (.invokevirtual 92, 3) := by decide +kernel
theorem dX2_behindStep_93 : decode cX2_behindStep 93 = .ok (.ireturn, 1) := by decide +kernel
theorem dX2_behindStep_94 : decode cX2_behindStep 94 = .ok (.aload_n 0, 1) := by decide +kernel
theorem dX2_behindStep_95 : decode cX2_behindStep 95 = .ok (.aload_n 1, 1) := by decide +kernel
theorem dX2_behindStep_96 : decode cX2_behindStep 96 = .ok (.iload 4, 2) := by decide +kernel
theorem dX2_behindStep_98 : decode cX2_behindStep 98 = .ok (.iload 5, 2) := by decide +kernel
theorem dX2_behindStep_100 : decode cX2_behindStep 100 = .ok (.invokevirtual 96, 3) := by decide +kernel
theorem dX2_behindStep_103 : decode cX2_behindStep 103 = .ok (.ireturn, 1) := by decide +kernel
theorem dX2_behindStep_104 : decode cX2_behindStep 104 = .ok (.aload_n 0, 1) := by decide +kernel
theorem dX2_behindStep_105 : decode cX2_behindStep 105 = .ok (.aload_n 1, 1) := by decide +kernel
theorem dX2_behindStep_106 : decode cX2_behindStep 106 = .ok (.iload 4, 2) := by decide +kernel
theorem dX2_behindStep_108 : decode cX2_behindStep 108 = .ok (.iload 5, 2) := by decide +kernel
theorem dX2_behindStep_110 : decode cX2_behindStep 110 = .ok (.iload 6, 2) := by decide +kernel
theorem dX2_behindStep_112 : decode cX2_behindStep 112 = .ok (.invokevirtual 99, 3) := by decide +kernel
theorem dX2_behindStep_115 : decode cX2_behindStep 115 = .ok (.ireturn, 1) := by decide +kernel
theorem dX2_behindStep_116 : decode cX2_behindStep 116 = .ok (.aload_n 0, 1) := by decide +kernel
theorem dX2_behindStep_117 : decode cX2_behindStep 117 = .ok (.aload_n 3, 1) := by decide +kernel
theorem dX2_behindStep_118 : decode cX2_behindStep 118 = .ok (.iload 4, 2) := by decide +kernel
theorem dX2_behindStep_120 : decode cX2_behindStep 120 = .ok (.iload 5, 2) := by decide +kernel
theorem dX2_behindStep_122 : decode cX2_behindStep 122 = .ok (.iload 6, 2) := by decide +kernel
theorem dX2_behindStep_124 : decode cX2_behindStep 124 = .ok (.invokevirtual 103, 3) := by decide +kernel
theorem dX2_behindStep_127 : decode cX2_behindStep 127 = .ok (.ireturn, 1) := by decide +kernel
theorem dX2_behindStep_128 : decode cX2_behindStep 128 = .ok (.aload_n 3, 1) := by decide +kernel
theorem dX2_behindStep_129 : decode cX2_behindStep 129 = .ok (.aload_n 0, 1) := by decide +kernel
theorem dX2_behindStep_130 : decode cX2_behindStep 130 = .ok (.iload 4, 2) := by decide +kernel
theorem dX2_behindStep_132 : decode cX2_behindStep 132 = .ok (.iload 5, 2) := by decide +kernel
theorem dX2_behindStep_134 : decode cX2_behindStep 134 = .ok (.iload 6, 2) := by decide +kernel
theorem dX2_behindStep_136 : decode cX2_behindStep 136 = .ok (.invokevirtual 39, 3) := by decide +kernel
theorem dX2_behindStep_139 : decode cX2_behindStep 139 = .ok (.invokestatic 107, 3) := by decide +kernel
theorem dX2_behindStep_142 : decode cX2_behindStep 142 = .ok (.ireturn, 1) := by decide +kernel
theorem dX2_behindStep_143 : decode cX2_behindStep 143 = .ok (.aload_n 0, 1) := by decide +kernel
theorem dX2_behindStep_144 : decode cX2_behindStep 144 = .ok (.iconst 2, 1) := by decide +kernel
theorem dX2_behindStep_145 : decode cX2_behindStep 145 = .ok (.iload 4, 2) := by decide +kernel
theorem dX2_behindStep_147 : decode cX2_behindStep 147 = .ok (.imul, 1) := by decide +kernel
theorem dX2_behindStep_148 : decode cX2_behindStep 148 = .ok (.iconst 2, 1) := by decide +kernel
theorem dX2_behindStep_149 : decode cX2_behindStep 149 = .ok (.iload 5, 2) := by decide +kernel
theorem dX2_behindStep_151 : decode cX2_behindStep 151 = .ok (.imul, 1) := by decide +kernel
theorem dX2_behindStep_152 : decode cX2_behindStep 152 = .ok (.iconst 2, 1) := by decide +kernel
theorem dX2_behindStep_153 : decode cX2_behindStep 153 = .ok (.iconst 2, 1) := by decide +kernel
theorem dX2_behindStep_154 : decode cX2_behindStep 154 = .ok (.iload 6, 2) := by decide +kernel
theorem dX2_behindStep_156 : decode cX2_behindStep 156 = .ok (.invokevirtual 111, 3) := by decide +kernel
theorem dX2_behindStep_159 : decode cX2_behindStep 159 = .ok (.iconst 4, 1) := by decide +kernel
theorem dX2_behindStep_160 : decode cX2_behindStep 160 = .ok (.idiv, 1) := by decide +kernel
theorem dX2_behindStep_161 : decode cX2_behindStep 161 = .ok (.ireturn, 1) := by decide +kernel
theorem dX2_mended_0 : decode cX2_mended 0 = .ok (.aload_n 0, 1) := by decide +kernel
theorem dX2_mended_1 : decode cX2_mended 1 = .ok (.iload_n 2, 1) := by decide +kernel
theorem dX2_mended_2 : decode cX2_mended 2 = .ok (.iload_n 3, 1) := by decide +kernel
theorem dX2_mended_3 : decode cX2_mended 3 = .ok (.iconst 0, 1) := by decide +kernel
theorem dX2_mended_4 : decode cX2_mended 4 = .ok (.invokevirtual 39, 3) := by decide +kernel
theorem dX2_mended_7 : decode cX2_mended 7 = .ok (.istore 4, 2) := by decide +kernel
theorem dX2_mended_9 : decode cX2_mended 9 = .ok (.aload_n 1, 1) := by decide +kernel
theorem dX2_mended_10 : decode cX2_mended 10 = .ok (.getfield 115, 3) := by decide +kernel
theorem dX2_mended_13 : decode cX2_mended 13 = .ok (.iload_n 2, 1) := by decide +kernel
theorem dX2_mended_14 : decode cX2_mended 14 = .ok (.iload_n 3, 1) := by decide +kernel
theorem dX2_mended_15 : decode cX2_mended 15 = .ok (.invokestatic 64, 3) := by decide +kernel
theorem dX2_mended_18 : decode cX2_mended 18 = .ok (.baload, 1) := by decide +kernel
theorem dX2_mended_19 : decode cX2_mended 19 = .ok (.ifCond .ne 6, 3) := by decide +kernel
theorem dX2_mended_22 : decode cX2_mended 22 = .ok (.iload 4, 2) := by decide +kernel
theorem dX2_mended_24 : decode cX2_mended 24 = .ok (.ireturn, 1) := by decide +kernel
theorem dX2_mended_25 : decode cX2_mended 25 = .ok (.iconst 0, 1) := by decide +kernel
theorem dX2_mended_26 : decode cX2_mended 26 = .ok (.istore 5, 2) := by decide +kernel
theorem dX2_mended_28 : decode cX2_mended 28 = .ok (.iconst 0, 1) := by decide +kernel
theorem dX2_mended_29 : decode cX2_mended 29 = .ok (.istore 6, 2) := by decide +kernel
theorem dX2_mended_31 : decode cX2_mended 31 = .ok (.iconst 0, 1) := by decide +kernel
theorem dX2_mended_32 : decode cX2_mended 32 = .ok (.istore 7, 2) := by decide +kernel
theorem dX2_mended_34 : decode cX2_mended 34 = .ok (.iload 7, 2) := by decide +kernel
theorem dX2_mended_36 : decode cX2_mended 36 = .ok (.iconst 4, 1) := by decide +kernel
theorem dX2_mended_37 : decode cX2_mended 37 = .ok (.if_icmp .ge 72, 3) := by decide +kernel
theorem dX2_mended_40 : decode cX2_mended 40 = .ok (.iload_n 2, 1) := by decide +kernel
theorem dX2_mended_41 : decode cX2_mended 41 = .ok (.getstatic 119, 3) := by decide +kernel
theorem dX2_mended_44 : decode cX2_mended 44 = .ok (.iload 7, 2) := by decide +kernel
theorem dX2_mended_46 : decode cX2_mended 46 = .ok (.iaload, 1) := by decide +kernel
theorem dX2_mended_47 : decode cX2_mended 47 = .ok (.iadd, 1) := by decide +kernel
theorem dX2_mended_48 : decode cX2_mended 48 = .ok (.istore 8, 2) := by decide +kernel
theorem dX2_mended_50 : decode cX2_mended 50 = .ok (.iload_n 3, 1) := by decide +kernel
theorem dX2_mended_51 : decode cX2_mended 51 = .ok (.getstatic 122, 3) := by decide +kernel
theorem dX2_mended_54 : decode cX2_mended 54 = .ok (.iload 7, 2) := by decide +kernel
theorem dX2_mended_56 : decode cX2_mended 56 = .ok (.iaload, 1) := by decide +kernel
theorem dX2_mended_57 : decode cX2_mended 57 = .ok (.iadd, 1) := by decide +kernel
theorem dX2_mended_58 : decode cX2_mended 58 = .ok (.istore 9, 2) := by decide +kernel
theorem dX2_mended_60 : decode cX2_mended 60 = .ok (.aload_n 1, 1) := by decide +kernel
theorem dX2_mended_61 : decode cX2_mended 61 = .ok (.iload 8, 2) := by decide +kernel
theorem dX2_mended_63 : decode cX2_mended 63 = .ok (.iload 9, 2) := by decide +kernel
theorem dX2_mended_65 : decode cX2_mended 65 = .ok (.invokevirtual 125, 3) := by decide +kernel
theorem dX2_mended_68 : decode cX2_mended 68 = .ok (.ifCond .eq 35, 3) := by decide +kernel
theorem dX2_mended_71 : decode cX2_mended 71 = .ok (.aload_n 1, 1) := by decide +kernel
theorem dX2_mended_72 : decode cX2_mended 72 = .ok (.getfield 115, 3) := by decide +kernel
theorem dX2_mended_75 : decode cX2_mended 75 = .ok (.iload 8, 2) := by decide +kernel
end
section
theorem dX2_mended_77 : decode cX2_mended 77 = .ok (.iload 9, 2) := by decide +kernel
theorem dX2_mended_79 : decode cX2_mended 79 = .ok (.invokestatic 64, 3) := by decide +kernel
theorem dX2_mended_82 : decode cX2_mended 82 = .ok (.baload, 1) := by decide +kernel
theorem dX2_mended_83 : decode cX2_mended 83 = .ok (.ifCond .ne 20, 3) := by decide +kernel
theorem dX2_mended_86 : decode cX2_mended 86 = .ok (.iload 5, 2) := by decide +kernel
theorem dX2_mended_88 : decode cX2_mended 88 = .ok (.aload_n 0, 1) := by decide +kernel
theorem dX2_mended_89 : decode cX2_mended 89 = .ok (.iload 8, 2) := by decide +kernel
theorem dX2_mended_91 : decode cX2_mended 91 = .ok (.iload 9, 2) := by decide +kernel
theorem dX2_mended_93 : decode cX2_mended 93 = .ok (.iconst 0, 1) := by decide +kernel
theorem dX2_mended_94 : decode cX2_mended 94 = .ok (.invokevirtual 39, 3) := by decide +kernel
theorem dX2_mended_97 : decode cX2_mended 97 = .ok (.iadd, 1) := by decide +kernel
theorem dX2_mended_98 : decode cX2_mended 98 = .ok (.istore 5, 2) := by decide +kernel
theorem dX2_mended_100 : decode cX2_mended 100 = .ok (.iinc 6 1, 3) := by decide +kernel
theorem dX2_mended_103 : decode cX2_mended 103 = .ok (.iinc 7 1, 3) := by decide +kernel
theorem dX2_mended_106 : decode cX2_mended 106 = .ok (.goto (-72), 3) := by decide +kernel
theorem dX2_mended_109 : decode cX2_mended 109 = .ok (.iload 6, 2) := by decide +kernel
theorem dX2_mended_111 : decode cX2_mended 111 = .ok (.ifCond .ne 8, 3) := by decide +kernel
theorem dX2_mended_114 : decode cX2_mended 114 = .ok (.iload 4, 2) := by decide +kernel
theorem dX2_mended_116 : decode cX2_mended 116 = .ok (.goto 8, 3) := by decide +kernel
theorem dX2_mended_119 : decode cX2_mended 119 = .ok (.iload 5, 2) := by decide +kernel
theorem dX2_mended_121 : decode cX2_mended 121 = .ok (.iload 6, 2) := by decide +kernel
theorem dX2_mended_123 : decode cX2_mended 123 = .ok (.idiv, 1) := by decide +kernel
theorem dX2_mended_124 : decode cX2_mended 124 = .ok (.ireturn, 1) := by decide +kernel
theorem dX2_middle_0 : decode cX2_middle 0 = .ok (.aload_n 0, 1) := by decide +kernel
theorem dX2_middle_1 : decode cX2_middle 1 = .ok (.iload_n 2, 1) := by decide +kernel
theorem dX2_middle_2 : decode cX2_middle 2 = .ok (.iload_n 3, 1) := by decide +kernel
theorem dX2_middle_3 : decode cX2_middle 3 = .ok (.iconst 0, 1) := by decide +kernel
theorem dX2_middle_4 : decode cX2_middle 4 = .ok (.invokevirtual 39, 3) := by decide +kernel
theorem dX2_middle_7 : decode cX2_middle 7 = .ok (.istore 4, 2) := by decide +kernel
theorem dX2_middle_9 : decode cX2_middle 9 = .ok (.aload_n 0, 1) := by decide +kernel
theorem dX2_middle_10 : decode cX2_middle 10 = .ok (.getfield 18, 3) := by decide +kernel
theorem dX2_middle_13 : decode cX2_middle 13 = .ok (.iconst 4, 1) := by decide +kernel
theorem dX2_middle_14 : decode cX2_middle 14 = .ok (.iload 4, 2) := by decide +kernel
theorem dX2_middle_16 : decode cX2_middle 16 = .ok (.iastore, 1) := by decide +kernel
theorem dX2_middle_17 : decode cX2_middle 17 = .ok (.iconst 0, 1) := by decide +kernel
theorem dX2_middle_18 : decode cX2_middle 18 = .ok (.istore 5, 2) := by decide +kernel
theorem dX2_middle_20 : decode cX2_middle 20 = .ok (.iload 5, 2) := by decide +kernel
theorem dX2_middle_22 : decode cX2_middle 22 = .ok (.iconst 4, 1) := by decide +kernel
theorem dX2_middle_23 : decode cX2_middle 23 = .ok (.if_icmp .ge 61, 3) := by decide +kernel
theorem dX2_middle_26 : decode cX2_middle 26 = .ok (.iload_n 2, 1) := by decide +kernel
theorem dX2_middle_27 : decode cX2_middle 27 = .ok (.getstatic 119, 3) := by decide +kernel
theorem dX2_middle_30 : decode cX2_middle 30 = .ok (.iload 5, 2) := by decide +kernel
theorem dX2_middle_32 : decode cX2_middle 32 = .ok (.iaload, 1) := by decide +kernel
theorem dX2_middle_33 : decode cX2_middle 33 = .ok (.iadd, 1) := by decide +kernel
theorem dX2_middle_34 : decode cX2_middle 34 = .ok (.istore 6, 2) := by decide +kernel
theorem dX2_middle_36 : decode cX2_middle 36 = .ok (.iload_n 3, 1) := by decide +kernel
theorem dX2_middle_37 : decode cX2_middle 37 = .ok (.getstatic 122, 3) := by decide +kernel
theorem dX2_middle_40 : decode cX2_middle 40 = .ok (.iload 5, 2) := by decide +kernel
theorem dX2_middle_42 : decode cX2_middle 42 = .ok (.iaload, 1) := by decide +kernel
theorem dX2_middle_43 : decode cX2_middle 43 = .ok (.iadd, 1) := by decide +kernel
theorem dX2_middle_44 : decode cX2_middle 44 = .ok (.istore 7, 2) := by decide +kernel
theorem dX2_middle_46 : decode cX2_middle 46 = .ok (.aload_n 0, 1) := by decide +kernel
theorem dX2_middle_47 : decode cX2_middle 47 = .ok (.getfield 18, 3) := by decide +kernel
theorem dX2_middle_50 : decode cX2_middle 50 = .ok (.iload 5, 2) := by decide +kernel
theorem dX2_middle_52 : decode cX2_middle 52 = .ok (.aload_n 1, 1) := by decide +kernel
theorem dX2_middle_53 : decode cX2_middle 53 = .ok (.iload 6, 2) := by decide +kernel
theorem dX2_middle_55 : decode cX2_middle 55 = .ok (.iload 7, 2) := by decide +kernel
theorem dX2_middle_57 : decode cX2_middle 57 = .ok (.invokevirtual 125, 3) := by decide +kernel
theorem dX2_middle_60 : decode cX2_middle 60 = .ok (.ifCond .eq 15, 3) := by decide +kernel
theorem dX2_middle_63 : decode cX2_middle 63 = .ok (.aload_n 0, 1) := by decide +kernel
theorem dX2_middle_64 : decode cX2_middle 64 = .ok (.iload 6, 2) := by decide +kernel
theorem dX2_middle_66 : decode cX2_middle 66 = .ok (.iload 7, 2) := by decide +kernel
theorem dX2_middle_68 : decode cX2_middle 68 = .ok (.iconst 0, 1) := by decide +kernel
theorem dX2_middle_69 : decode cX2_middle 69 = .ok (.invokevirtual 39, 3) := by decide +kernel
theorem dX2_middle_72 : decode cX2_middle 72 = .ok (.goto 5, 3) := by decide +kernel
theorem dX2_middle_75 : decode cX2_middle 75 = .ok (.iload 4, 2) := by decide +kernel
theorem dX2_middle_77 : decode cX2_middle 77 = .ok (.iastore, 1) := by decide +kernel
theorem dX2_middle_78 : decode cX2_middle 78 = .ok (.iinc 5 1, 3) := by decide +kernel
theorem dX2_middle_81 : decode cX2_middle 81 = .ok (.goto (-61), 3) := by decide +kernel
theorem dX2_middle_84 : decode cX2_middle 84 = .ok (.aload_n 0, 1) := by decide +kernel
theorem dX2_middle_85 : decode cX2_middle 85 = .ok (.invokevirtual 129, 3) := by decide +kernel
theorem dX2_middle_88 : decode cX2_middle 88 = .ok (.aload_n 0, 1) := by decide +kernel
theorem dX2_middle_89 : decode cX2_middle 89 = .ok (.getfield 18, 3) := by decide +kernel
theorem dX2_middle_92 : decode cX2_middle 92 = .ok (.iconst 2, 1) := by decide +kernel
theorem dX2_middle_93 : decode cX2_middle 93 = .ok (.iaload, 1) := by decide +kernel
theorem dX2_middle_94 : decode cX2_middle 94 = .ok (.ireturn, 1) := by decide +kernel
theorem dX2_putFiveInOrder_0 : decode cX2_putFiveInOrder 0 = .ok (.iconst 1, 1) := by decide +kernel
theorem dX2_putFiveInOrder_1 : decode cX2_putFiveInOrder 1 = .ok (.istore_n 1, 1) := by decide +kernel
theorem dX2_putFiveInOrder_2 : decode cX2_putFiveInOrder 2 = .ok (.iload_n 1, 1) := by decide +kernel
theorem dX2_putFiveInOrder_3 : decode cX2_putFiveInOrder 3 = .ok (.aload_n 0, 1) := by decide +kernel
theorem dX2_putFiveInOrder_4 : decode cX2_putFiveInOrder 4 = .ok (.getfield 18, 3) := by decide +kernel
theorem dX2_putFiveInOrder_7 : decode cX2_putFiveInOrder 7 = .ok (.arraylength, 1) := by decide +kernel
theorem dX2_putFiveInOrder_8 : decode cX2_putFiveInOrder 8 = .ok (.if_icmp .ge 61, 3) := by decide +kernel
theorem dX2_putFiveInOrder_11 : decode cX2_putFiveInOrder 11 = .ok (.aload_n 0, 1) := by decide +kernel
theorem dX2_putFiveInOrder_12 : decode cX2_putFiveInOrder 12 = .ok (.getfield 18, 3) := by decide +kernel
theorem dX2_putFiveInOrder_15 : decode cX2_putFiveInOrder 15 = .ok (.iload_n 1, 1) := by decide +kernel
theorem dX2_putFiveInOrder_16 : decode cX2_putFiveInOrder 16 = .ok (.iaload, 1) := by decide +kernel
theorem dX2_putFiveInOrder_17 : decode cX2_putFiveInOrder 17 = .ok (.istore_n 2, 1) := by decide +kernel
theorem dX2_putFiveInOrder_18 : decode cX2_putFiveInOrder 18 = .ok (.iload_n 1, 1) := by decide +kernel
theorem dX2_putFiveInOrder_19 : decode cX2_putFiveInOrder 19 = .ok (.istore_n 3, 1) := by decide +kernel
theorem dX2_putFiveInOrder_20 : decode cX2_putFiveInOrder 20 = .ok (.iload_n 3, 1) := by decide +kernel
theorem dX2_putFiveInOrder_21 : decode cX2_putFiveInOrder 21 = .ok (.ifCond .le 35, 3) := by decide +kernel
theorem dX2_putFiveInOrder_24 : decode cX2_putFiveInOrder 24 = .ok (.aload_n 0, 1) := by decide +kernel
theorem dX2_putFiveInOrder_25 : decode cX2_putFiveInOrder 25 = .ok (.getfield 18, 3) := by decide +kernel
theorem dX2_putFiveInOrder_28 : decode cX2_putFiveInOrder 28 = .ok (.iload_n 3, 1) := by decide +kernel
theorem dX2_putFiveInOrder_29 : decode cX2_putFiveInOrder 29 = .ok (.iconst 1, 1) := by decide +kernel
theorem dX2_putFiveInOrder_30 : decode cX2_putFiveInOrder 30 = .ok (.isub, 1) := by decide +kernel
theorem dX2_putFiveInOrder_31 : decode cX2_putFiveInOrder 31 = .ok (.iaload, 1) := by decide +kernel
theorem dX2_putFiveInOrder_32 : decode cX2_putFiveInOrder 32 = .ok (.iload_n 2, 1) := by decide +kernel
theorem dX2_putFiveInOrder_33 : decode cX2_putFiveInOrder 33 = .ok (.if_icmp .le 23, 3) := by decide +kernel
theorem dX2_putFiveInOrder_36 : decode cX2_putFiveInOrder 36 = .ok (.aload_n 0, 1) := by decide +kernel
theorem dX2_putFiveInOrder_37 : decode cX2_putFiveInOrder 37 = .ok (.getfield 18, 3) := by decide +kernel
theorem dX2_putFiveInOrder_40 : decode cX2_putFiveInOrder 40 = .ok (.iload_n 3, 1) := by decide +kernel
theorem dX2_putFiveInOrder_41 : decode cX2_putFiveInOrder 41 = .ok (.aload_n 0, 1) := by decide +kernel
theorem dX2_putFiveInOrder_42 : decode cX2_putFiveInOrder 42 = .ok (.getfield 18, 3) := by decide +kernel
theorem dX2_putFiveInOrder_45 : decode cX2_putFiveInOrder 45 = .ok (.iload_n 3, 1) := by decide +kernel
theorem dX2_putFiveInOrder_46 : decode cX2_putFiveInOrder 46 = .ok (.iconst 1, 1) := by decide +kernel
theorem dX2_putFiveInOrder_47 : decode cX2_putFiveInOrder 47 = .ok (.isub, 1) := by decide +kernel
theorem dX2_putFiveInOrder_48 : decode cX2_putFiveInOrder 48 = .ok (.iaload, 1) := by decide +kernel
theorem dX2_putFiveInOrder_49 : decode cX2_putFiveInOrder 49 = .ok (.iastore, 1) := by decide +kernel
theorem dX2_putFiveInOrder_50 : decode cX2_putFiveInOrder 50 = .ok (.iinc 3 (-1), 3) := by decide +kernel
theorem dX2_putFiveInOrder_53 : decode cX2_putFiveInOrder 53 = .ok (.goto (-33), 3) := by decide +kernel
theorem dX2_putFiveInOrder_56 : decode cX2_putFiveInOrder 56 = .ok (.aload_n 0, 1) := by decide +kernel
theorem dX2_putFiveInOrder_57 : decode cX2_putFiveInOrder 57 = .ok (.getfield 18, 3) := by decide +kernel
theorem dX2_putFiveInOrder_60 : decode cX2_putFiveInOrder 60 = .ok (.iload_n 3, 1) := by decide +kernel
theorem dX2_putFiveInOrder_61 : decode cX2_putFiveInOrder 61 = .ok (.iload_n 2, 1) := by decide +kernel
theorem dX2_putFiveInOrder_62 : decode cX2_putFiveInOrder 62 = .ok (.iastore, 1) := by decide +kernel
theorem dX2_putFiveInOrder_63 : decode cX2_putFiveInOrder 63 = .ok (.iinc 1 1, 3) := by decide +kernel
theorem dX2_putFiveInOrder_66 : decode cX2_putFiveInOrder 66 = .ok (.goto (-64), 3) := by decide +kernel
theorem dX2_putFiveInOrder_69 : decode cX2_putFiveInOrder 69 = .ok (.return_, 1) := by decide +kernel
theorem dX2_filled_0 : decode cX2_filled 0 = .ok (.iload_n 2, 1) := by decide +kernel
theorem dX2_filled_1 : decode cX2_filled 1 = .ok (.iload_n 3, 1) := by decide +kernel
theorem dX2_filled_2 : decode cX2_filled 2 = .ok (.invokestatic 89, 3) := by decide +kernel
theorem dX2_filled_5 : decode cX2_filled 5 = .ok (.iload 4, 2) := by decide +kernel
theorem dX2_filled_7 : decode cX2_filled 7 = .ok (.if_icmp .ne 11, 3) := by decide +kernel
theorem dX2_filled_10 : decode cX2_filled 10 = .ok (.aload_n 0, 1) := by decide +kernel
theorem dX2_filled_11 : decode cX2_filled 11 = .ok (.iload_n 2, 1) := by decide +kernel
theorem dX2_filled_12 : decode cX2_filled 12 = .ok (.iload_n 3, 1) := by decide +kernel
theorem dX2_filled_13 : decode cX2_filled 13 = .ok (.iconst 0, 1) := by decide +kernel
theorem dX2_filled_14 : decode cX2_filled 14 = .ok (.invokevirtual 39, 3) := by decide +kernel
theorem dX2_filled_17 : decode cX2_filled 17 = .ok (.ireturn, 1) := by decide +kernel
theorem dX2_filled_18 : decode cX2_filled 18 = .ok (.iconst 0, 1) := by decide +kernel
theorem dX2_filled_19 : decode cX2_filled 19 = .ok (.istore 5, 2) := by decide +kernel
theorem dX2_filled_21 : decode cX2_filled 21 = .ok (.iconst 0, 1) := by decide +kernel
theorem dX2_filled_22 : decode cX2_filled 22 = .ok (.istore 6, 2) := by decide +kernel
theorem dX2_filled_24 : decode cX2_filled 24 = .ok (.iload_n 3, 1) := by decide +kernel
theorem dX2_filled_25 : decode cX2_filled 25 = .ok (.iconst 1, 1) := by decide +kernel
theorem dX2_filled_26 : decode cX2_filled 26 = .ok (.isub, 1) := by decide +kernel
theorem dX2_filled_27 : decode cX2_filled 27 = .ok (.istore 7, 2) := by decide +kernel
theorem dX2_filled_29 : decode cX2_filled 29 = .ok (.iload 7, 2) := by decide +kernel
theorem dX2_filled_31 : decode cX2_filled 31 = .ok (.iload_n 3, 1) := by decide +kernel
theorem dX2_filled_32 : decode cX2_filled 32 = .ok (.iconst 1, 1) := by decide +kernel
theorem dX2_filled_33 : decode cX2_filled 33 = .ok (.iadd, 1) := by decide +kernel
theorem dX2_filled_34 : decode cX2_filled 34 = .ok (.if_icmp .gt 68, 3) := by decide +kernel
theorem dX2_filled_37 : decode cX2_filled 37 = .ok (.iload_n 2, 1) := by decide +kernel
theorem dX2_filled_38 : decode cX2_filled 38 = .ok (.iconst 1, 1) := by decide +kernel
theorem dX2_filled_39 : decode cX2_filled 39 = .ok (.isub, 1) := by decide +kernel
theorem dX2_filled_40 : decode cX2_filled 40 = .ok (.istore 8, 2) := by decide +kernel
theorem dX2_filled_42 : decode cX2_filled 42 = .ok (.iload 8, 2) := by decide +kernel
theorem dX2_filled_44 : decode cX2_filled 44 = .ok (.iload_n 2, 1) := by decide +kernel
theorem dX2_filled_45 : decode cX2_filled 45 = .ok (.iconst 1, 1) := by decide +kernel
theorem dX2_filled_46 : decode cX2_filled 46 = .ok (.iadd, 1) := by decide +kernel
theorem dX2_filled_47 : decode cX2_filled 47 = .ok (.if_icmp .gt 49, 3) := by decide +kernel
theorem dX2_filled_50 : decode cX2_filled 50 = .ok (.aload_n 1, 1) := by decide +kernel
theorem dX2_filled_51 : decode cX2_filled 51 = .ok (.iload 8, 2) := by decide +kernel
theorem dX2_filled_53 : decode cX2_filled 53 = .ok (.iload 7, 2) := by decide +kernel
theorem dX2_filled_55 : decode cX2_filled 55 = .ok (.invokevirtual 125, 3) := by decide +kernel
theorem dX2_filled_58 : decode cX2_filled 58 = .ok (.ifCond .eq 32, 3) := by decide +kernel
theorem dX2_filled_61 : decode cX2_filled 61 = .ok (.iload 8, 2) := by decide +kernel
theorem dX2_filled_63 : decode cX2_filled 63 = .ok (.iload 7, 2) := by decide +kernel
theorem dX2_filled_65 : decode cX2_filled 65 = .ok (.invokestatic 89, 3) := by decide +kernel
theorem dX2_filled_68 : decode cX2_filled 68 = .ok (.iload 4, 2) := by decide +kernel
theorem dX2_filled_70 : decode cX2_filled 70 = .ok (.if_icmp .ne 20, 3) := by decide +kernel
theorem dX2_filled_73 : decode cX2_filled 73 = .ok (.iload 5, 2) := by decide +kernel
theorem dX2_filled_75 : decode cX2_filled 75 = .ok (.aload_n 0, 1) := by decide +kernel
theorem dX2_filled_76 : decode cX2_filled 76 = .ok (.iload 8, 2) := by decide +kernel
theorem dX2_filled_78 : decode cX2_filled 78 = .ok (.iload 7, 2) := by decide +kernel
theorem dX2_filled_80 : decode cX2_filled 80 = .ok (.iconst 0, 1) := by decide +kernel
theorem dX2_filled_81 : decode cX2_filled 81 = .ok (.invokevirtual 39, 3) := by decide +kernel
theorem dX2_filled_84 : decode cX2_filled 84 = .ok (.iadd, 1) := by decide +kernel
theorem dX2_filled_85 : decode cX2_filled 85 = .ok (.istore 5, 2) := by decide +kernel
theorem dX2_filled_87 : decode cX2_filled 87 = .ok (.iinc 6 1, 3) := by decide +kernel
theorem dX2_filled_90 : decode cX2_filled 90 = .ok (.iinc 8 1, 3) := by decide +kernel
theorem dX2_filled_93 : decode cX2_filled 93 = .ok (.goto (-51), 3) := by decide +kernel
theorem dX2_filled_96 : decode cX2_filled 96 = .ok (.iinc 7 1, 3) := by decide +kernel
theorem dX2_filled_99 : decode cX2_filled 99 = .ok (.goto (-70), 3) := by decide +kernel
theorem dX2_filled_102 : decode cX2_filled 102 = .ok (.iload 6, 2) := by decide +kernel
theorem dX2_filled_104 : decode cX2_filled 104 = .ok (.ifCond .ne 7, 3) := by decide +kernel
theorem dX2_filled_107 : decode cX2_filled 107 = .ok (.iconst 0, 1) := by decide +kernel
theorem dX2_filled_108 : decode cX2_filled 108 = .ok (.goto 8, 3) := by decide +kernel
theorem dX2_filled_111 : decode cX2_filled 111 = .ok (.iload 5, 2) := by decide +kernel
theorem dX2_filled_113 : decode cX2_filled 113 = .ok (.iload 6, 2) := by decide +kernel
theorem dX2_filled_115 : decode cX2_filled 115 = .ok (.idiv, 1) := by decide +kernel
theorem dX2_filled_116 : decode cX2_filled 116 = .ok (.ireturn, 1) := by decide +kernel
theorem dX2_mingled_0 : decode cX2_mingled 0 = .ok (.iconst 0, 1) := by decide +kernel
theorem dX2_mingled_1 : decode cX2_mingled 1 = .ok (.istore 5, 2) := by decide +kernel
theorem dX2_mingled_3 : decode cX2_mingled 3 = .ok (.iconst 0, 1) := by decide +kernel
theorem dX2_mingled_4 : decode cX2_mingled 4 = .ok (.istore 6, 2) := by decide +kernel
theorem dX2_mingled_6 : decode cX2_mingled 6 = .ok (.iload 6, 2) := by decide +kernel
theorem dX2_mingled_8 : decode cX2_mingled 8 = .ok (.iconst 3, 1) := by decide +kernel
theorem dX2_mingled_9 : decode cX2_mingled 9 = .ok (.if_icmp .ge 32, 3) := by decide +kernel
theorem dX2_mingled_12 : decode cX2_mingled 12 = .ok (.iload 5, 2) := by decide +kernel
theorem dX2_mingled_14 : decode cX2_mingled 14 = .ok (.aload_n 1, 1) := by decide +kernel
theorem dX2_mingled_15 : decode cX2_mingled 15 = .ok (.iload 4, 2) := by decide +kernel
theorem dX2_mingled_17 : decode cX2_mingled 17 = .ok (.iconst 3, 1) := by decide +kernel
theorem dX2_mingled_18 : decode cX2_mingled 18 = .ok (.imul, 1) := by decide +kernel
theorem dX2_mingled_19 : decode cX2_mingled 19 = .ok (.iload 6, 2) := by decide +kernel
theorem dX2_mingled_21 : decode cX2_mingled 21 = .ok (.iadd, 1) := by decide +kernel
theorem dX2_mingled_22 : decode cX2_mingled 22 = .ok (.iaload, 1) := by decide +kernel
theorem dX2_mingled_23 : decode cX2_mingled 23 = .ok (.aload_n 0, 1) := by decide +kernel
theorem dX2_mingled_24 : decode cX2_mingled 24 = .ok (.iload_n 2, 1) := by decide +kernel
theorem dX2_mingled_25 : decode cX2_mingled 25 = .ok (.iload_n 3, 1) := by decide +kernel
theorem dX2_mingled_26 : decode cX2_mingled 26 = .ok (.iload 6, 2) := by decide +kernel
theorem dX2_mingled_28 : decode cX2_mingled 28 = .ok (.invokevirtual 39, 3) := by decide +kernel
theorem dX2_mingled_31 : decode cX2_mingled 31 = .ok (.imul, 1) := by decide +kernel
theorem dX2_mingled_32 : decode cX2_mingled 32 = .ok (.iadd, 1) := by decide +kernel
theorem dX2_mingled_33 : decode cX2_mingled 33 = .ok (.istore 5, 2) := by decide +kernel
theorem dX2_mingled_35 : decode cX2_mingled 35 = .ok (.iinc 6 1, 3) := by decide +kernel
theorem dX2_mingled_38 : decode cX2_mingled 38 = .ok (.goto (-32), 3) := by decide +kernel
theorem dX2_mingled_41 : decode cX2_mingled 41 = .ok (.iload 5, 2) := by decide +kernel
theorem dX2_mingled_43 : decode cX2_mingled 43 = .ok (.sipush 1000, 3) := by decide +kernel
theorem dX2_mingled_46 : decode cX2_mingled 46 = .ok (.invokestatic 132, 3) := by decide +kernel
theorem dX2_mingled_49 : decode cX2_mingled 49 = .ok (.ireturn, 1) := by decide +kernel
theorem dX2_bent_0 : decode cX2_bent 0 = .ok (.iload_n 1, 1) := by decide +kernel
theorem dX2_bent_1 : decode cX2_bent 1 = .ok (.sipush 256, 3) := by decide +kernel
theorem dX2_bent_4 : decode cX2_bent 4 = .ok (.idiv, 1) := by decide +kernel
theorem dX2_bent_5 : decode cX2_bent 5 = .ok (.istore_n 2, 1) := by decide +kernel
theorem dX2_bent_6 : decode cX2_bent 6 = .ok (.iload_n 1, 1) := by decide +kernel
theorem dX2_bent_7 : decode cX2_bent 7 = .ok (.sipush 256, 3) := by decide +kernel
theorem dX2_bent_10 : decode cX2_bent 10 = .ok (.irem, 1) := by decide +kernel
theorem dX2_bent_11 : decode cX2_bent 11 = .ok (.istore_n 3, 1) := by decide +kernel
theorem dX2_bent_12 : decode cX2_bent 12 = .ok (.aload_n 0, 1) := by decide +kernel
theorem dX2_bent_13 : decode cX2_bent 13 = .ok (.iload_n 2, 1) := by decide +kernel
theorem dX2_bent_14 : decode cX2_bent 14 = .ok (.iaload, 1) := by decide +kernel
theorem dX2_bent_15 : decode cX2_bent 15 = .ok (.aload_n 0, 1) := by decide +kernel
theorem dX2_bent_16 : decode cX2_bent 16 = .ok (.iload_n 2, 1) := by decide +kernel
theorem dX2_bent_17 : decode cX2_bent 17 = .ok (.iconst 1, 1) := by decide +kernel
theorem dX2_bent_18 : decode cX2_bent 18 = .ok (.iadd, 1) := by decide +kernel
theorem dX2_bent_19 : decode cX2_bent 19 = .ok (.iaload, 1) := by decide +kernel
theorem dX2_bent_20 : decode cX2_bent 20 = .ok (.aload_n 0, 1) := by decide +kernel
theorem dX2_bent_21 : decode cX2_bent 21 = .ok (.iload_n 2, 1) := by decide +kernel
theorem dX2_bent_22 : decode cX2_bent 22 = .ok (.iaload, 1) := by decide +kernel
theorem dX2_bent_23 : decode cX2_bent 23 = .ok (.isub, 1) := by decide +kernel
theorem dX2_bent_24 : decode cX2_bent 24 = .ok (.iload_n 3, 1) := by decide +kernel
theorem dX2_bent_25 : decode cX2_bent 25 = .ok (.imul, 1) := by decide +kernel
theorem dX2_bent_26 : decode cX2_bent 26 = .ok (.sipush 256, 3) := by decide +kernel
theorem dX2_bent_29 : decode cX2_bent 29 = .ok (.idiv, 1) := by decide +kernel
theorem dX2_bent_30 : decode cX2_bent 30 = .ok (.iadd, 1) := by decide +kernel
theorem dX2_bent_31 : decode cX2_bent 31 = .ok (.ireturn, 1) := by decide +kernel
theorem dX3_init_0 : decode cX3_init 0 = .ok (.aload_n 0, 1) := by decide +kernel
theorem dX3_init_1 : decode cX3_init 1 = .ok (.invokespecial 3, 3) := by decide +kernel
theorem dX3_init_4 : decode cX3_init 4 = .ok (.aload_n 0, 1) := by decide +kernel
theorem dX3_init_5 : decode cX3_init 5 = .ok (.bipush 10, 2) := by decide +kernel
theorem dX3_init_7 : decode cX3_init 7 = .ok (.newarray .int, 2) := by decide +kernel
theorem dX3_init_9 : decode cX3_init 9 = .ok (.putfield 9, 3) := by decide +kernel
theorem dX3_init_12 : decode cX3_init 12 = .ok (.aload_n 0, 1) := by decide +kernel
theorem dX3_init_13 : decode cX3_init 13 = .ok (.bipush 10, 2) := by decide +kernel
theorem dX3_init_15 : decode cX3_init 15 = .ok (.bipush 17, 2) := by decide +kernel
theorem dX3_init_17 : decode cX3_init 17 = .ok (.multianewarray 15 2, 4) := by decide +kernel
theorem dX3_init_21 : decode cX3_init 21 = .ok (.putfield 17, 3) := by decide +kernel
theorem dX3_init_24 : decode cX3_init 24 = .ok (.aload_n 0, 1) := by decide +kernel
theorem dX3_init_25 : decode cX3_init 25 = .ok (.bipush 11, 2) := by decide +kernel
theorem dX3_init_27 : decode cX3_init 27 = .ok (.iconst 5, 1) := by decide +kernel
theorem dX3_init_28 : decode cX3_init 28 = .ok (.multianewarray 15 2, 4) := by decide +kernel
theorem dX3_init_32 : decode cX3_init 32 = .ok (.putfield 20, 3) := by decide +kernel
theorem dX3_init_35 : decode cX3_init 35 = .ok (.return_, 1) := by decide +kernel
theorem dX3_restart_0 : decode cX3_restart 0 = .ok (.aload_n 0, 1) := by decide +kernel
theorem dX3_restart_1 : decode cX3_restart 1 = .ok (.iconst 0, 1) := by decide +kernel
theorem dX3_restart_2 : decode cX3_restart 2 = .ok (.putfield 23, 3) := by decide +kernel
theorem dX3_restart_5 : decode cX3_restart 5 = .ok (.aload_n 0, 1) := by decide +kernel
theorem dX3_restart_6 : decode cX3_restart 6 = .ok (.getfield 20, 3) := by decide +kernel
theorem dX3_restart_9 : decode cX3_restart 9 = .ok (.iconst 0, 1) := by decide +kernel
theorem dX3_restart_10 : decode cX3_restart 10 = .ok (.aaload, 1) := by decide +kernel
theorem dX3_restart_11 : decode cX3_restart 11 = .ok (.iconst 0, 1) := by decide +kernel
theorem dX3_restart_12 : decode cX3_restart 12 = .ok (.iload_n 1, 1) := by decide +kernel
theorem dX3_restart_13 : decode cX3_restart 13 = .ok (.iastore, 1) := by decide +kernel
theorem dX3_restart_14 : decode cX3_restart 14 = .ok (.aload_n 0, 1) := by decide +kernel
theorem dX3_restart_15 : decode cX3_restart 15 = .ok (.getfield 20, 3) := by decide +kernel
theorem dX3_restart_18 : decode cX3_restart 18 = .ok (.iconst 0, 1) := by decide +kernel
theorem dX3_restart_19 : decode cX3_restart 19 = .ok (.aaload, 1) := by decide +kernel
theorem dX3_restart_20 : decode cX3_restart 20 = .ok (.iconst 1, 1) := by decide +kernel
theorem dX3_restart_21 : decode cX3_restart 21 = .ok (.iload_n 2, 1) := by decide +kernel
theorem dX3_restart_22 : decode cX3_restart 22 = .ok (.iastore, 1) := by decide +kernel
theorem dX3_restart_23 : decode cX3_restart 23 = .ok (.aload_n 0, 1) := by decide +kernel
theorem dX3_restart_24 : decode cX3_restart 24 = .ok (.getfield 20, 3) := by decide +kernel
theorem dX3_restart_27 : decode cX3_restart 27 = .ok (.iconst 0, 1) := by decide +kernel
theorem dX3_restart_28 : decode cX3_restart 28 = .ok (.aaload, 1) := by decide +kernel
theorem dX3_restart_29 : decode cX3_restart 29 = .ok (.iconst 2, 1) := by decide +kernel
theorem dX3_restart_30 : decode cX3_restart 30 = .ok (.iconst 1, 1) := by decide +kernel
theorem dX3_restart_31 : decode cX3_restart 31 = .ok (.iastore, 1) := by decide +kernel
theorem dX3_restart_32 : decode cX3_restart 32 = .ok (.aload_n 0, 1) := by decide +kernel
theorem dX3_restart_33 : decode cX3_restart 33 = .ok (.getfield 20, 3) := by decide +kernel
theorem dX3_restart_36 : decode cX3_restart 36 = .ok (.iconst 0, 1) := by decide +kernel
theorem dX3_restart_37 : decode cX3_restart 37 = .ok (.aaload, 1) := by decide +kernel
theorem dX3_restart_38 : decode cX3_restart 38 = .ok (.iconst 3, 1) := by decide +kernel
theorem dX3_restart_39 : decode cX3_restart 39 = .ok (.iconst 0, 1) := by decide +kernel
theorem dX3_restart_40 : decode cX3_restart 40 = .ok (.iastore, 1) := by decide +kernel
theorem dX3_restart_41 : decode cX3_restart 41 = .ok (.aload_n 0, 1) := by decide +kernel
theorem dX3_restart_42 : decode cX3_restart 42 = .ok (.getfield 20, 3) := by decide +kernel
theorem dX3_restart_45 : decode cX3_restart 45 = .ok (.iconst 0, 1) := by decide +kernel
theorem dX3_restart_46 : decode cX3_restart 46 = .ok (.aaload, 1) := by decide +kernel
theorem dX3_restart_47 : decode cX3_restart 47 = .ok (.iconst 4, 1) := by decide +kernel
theorem dX3_restart_48 : decode cX3_restart 48 = .ok (.iconst 1, 1) := by decide +kernel
theorem dX3_restart_49 : decode cX3_restart 49 = .ok (.iastore, 1) := by decide +kernel
theorem dX3_restart_50 : decode cX3_restart 50 = .ok (.return_, 1) := by decide +kernel
theorem dX3_mayTake_0 : decode cX3_mayTake 0 = .ok (.aload_n 0, 1) := by decide +kernel
theorem dX3_mayTake_1 : decode cX3_mayTake 1 = .ok (.getfield 20, 3) := by decide +kernel
theorem dX3_mayTake_4 : decode cX3_mayTake 4 = .ok (.aload_n 0, 1) := by decide +kernel
theorem dX3_mayTake_5 : decode cX3_mayTake 5 = .ok (.getfield 23, 3) := by decide +kernel
theorem dX3_mayTake_8 : decode cX3_mayTake 8 = .ok (.aaload, 1) := by decide +kernel
theorem dX3_mayTake_9 : decode cX3_mayTake 9 = .ok (.astore_n 2, 1) := by decide +kernel
theorem dX3_mayTake_10 : decode cX3_mayTake 10 = .ok (.aload_n 2, 1) := by decide +kernel
theorem dX3_mayTake_11 : decode cX3_mayTake 11 = .ok (.iconst 2, 1) := by decide +kernel
theorem dX3_mayTake_12 : decode cX3_mayTake 12 = .ok (.iaload, 1) := by decide +kernel
theorem dX3_mayTake_13 : decode cX3_mayTake 13 = .ok (.iconst 3, 1) := by decide +kernel
theorem dX3_mayTake_14 : decode cX3_mayTake 14 = .ok (.if_icmp .ne 7, 3) := by decide +kernel
theorem dX3_mayTake_17 : decode cX3_mayTake 17 = .ok (.iconst 1, 1) := by decide +kernel
theorem dX3_mayTake_18 : decode cX3_mayTake 18 = .ok (.goto 4, 3) := by decide +kernel
theorem dX3_mayTake_21 : decode cX3_mayTake 21 = .ok (.iconst 0, 1) := by decide +kernel
theorem dX3_mayTake_22 : decode cX3_mayTake 22 = .ok (.istore_n 3, 1) := by decide +kernel
theorem dX3_mayTake_23 : decode cX3_mayTake 23 = .ok (.iload_n 1, 1) := by decide +kernel
theorem dX3_mayTake_24 : decode cX3_mayTake 24 = .ok (.iconst 4, 1) := by decide +kernel
theorem dX3_mayTake_25 : decode cX3_mayTake 25 = .ok (.if_icmp .gt 13, 3) := by decide +kernel
theorem dX3_mayTake_28 : decode cX3_mayTake 28 = .ok (.iload_n 3, 1) := by decide +kernel
theorem dX3_mayTake_29 : decode cX3_mayTake 29 = .ok (.ifCond .ne 7, 3) := by decide +kernel
theorem dX3_mayTake_32 : decode cX3_mayTake 32 = .ok (.iconst 1, 1) := by decide +kernel
theorem dX3_mayTake_33 : decode cX3_mayTake 33 = .ok (.goto 4, 3) := by decide +kernel
theorem dX3_mayTake_36 : decode cX3_mayTake 36 = .ok (.iconst 0, 1) := by decide +kernel
theorem dX3_mayTake_37 : decode cX3_mayTake 37 = .ok (.ireturn, 1) := by decide +kernel
theorem dX3_mayTake_38 : decode cX3_mayTake 38 = .ok (.iload_n 1, 1) := by decide +kernel
theorem dX3_mayTake_39 : decode cX3_mayTake 39 = .ok (.bipush 7, 2) := by decide +kernel
theorem dX3_mayTake_41 : decode cX3_mayTake 41 = .ok (.if_icmp .ne 27, 3) := by decide +kernel
theorem dX3_mayTake_44 : decode cX3_mayTake 44 = .ok (.iload_n 3, 1) := by decide +kernel
theorem dX3_mayTake_45 : decode cX3_mayTake 45 = .ok (.ifCond .eq 21, 3) := by decide +kernel
theorem dX3_mayTake_48 : decode cX3_mayTake 48 = .ok (.aload_n 2, 1) := by decide +kernel
theorem dX3_mayTake_49 : decode cX3_mayTake 49 = .ok (.iconst 0, 1) := by decide +kernel
theorem dX3_mayTake_50 : decode cX3_mayTake 50 = .ok (.iaload, 1) := by decide +kernel
theorem dX3_mayTake_51 : decode cX3_mayTake 51 = .ok (.iconst 2, 1) := by decide +kernel
theorem dX3_mayTake_52 : decode cX3_mayTake 52 = .ok (.if_icmp .lt 14, 3) := by decide +kernel
theorem dX3_mayTake_55 : decode cX3_mayTake 55 = .ok (.aload_n 2, 1) := by decide +kernel
theorem dX3_mayTake_56 : decode cX3_mayTake 56 = .ok (.iconst 1, 1) := by decide +kernel
theorem dX3_mayTake_57 : decode cX3_mayTake 57 = .ok (.iaload, 1) := by decide +kernel
theorem dX3_mayTake_58 : decode cX3_mayTake 58 = .ok (.iconst 2, 1) := by decide +kernel
theorem dX3_mayTake_59 : decode cX3_mayTake 59 = .ok (.if_icmp .lt 7, 3) := by decide +kernel
theorem dX3_mayTake_62 : decode cX3_mayTake 62 = .ok (.iconst 1, 1) := by decide +kernel
theorem dX3_mayTake_63 : decode cX3_mayTake 63 = .ok (.goto 4, 3) := by decide +kernel
theorem dX3_mayTake_66 : decode cX3_mayTake 66 = .ok (.iconst 0, 1) := by decide +kernel
theorem dX3_mayTake_67 : decode cX3_mayTake 67 = .ok (.ireturn, 1) := by decide +kernel
theorem dX3_mayTake_68 : decode cX3_mayTake 68 = .ok (.iload_n 3, 1) := by decide +kernel
theorem dX3_mayTake_69 : decode cX3_mayTake 69 = .ok (.ireturn, 1) := by decide +kernel
theorem dX3_append_0 : decode cX3_append 0 = .ok (.aload_n 0, 1) := by decide +kernel
theorem dX3_append_1 : decode cX3_append 1 = .ok (.getfield 9, 3) := by decide +kernel
theorem dX3_append_4 : decode cX3_append 4 = .ok (.aload_n 0, 1) := by decide +kernel
theorem dX3_append_5 : decode cX3_append 5 = .ok (.getfield 23, 3) := by decide +kernel
theorem dX3_append_8 : decode cX3_append 8 = .ok (.iload_n 1, 1) := by decide +kernel
theorem dX3_append_9 : decode cX3_append 9 = .ok (.iastore, 1) := by decide +kernel
theorem dX3_append_10 : decode cX3_append 10 = .ok (.aload_n 2, 1) := by decide +kernel
theorem dX3_append_11 : decode cX3_append 11 = .ok (.iconst 0, 1) := by decide +kernel
theorem dX3_append_12 : decode cX3_append 12 = .ok (.aload_n 0, 1) := by decide +kernel
theorem dX3_append_13 : decode cX3_append 13 = .ok (.getfield 17, 3) := by decide +kernel
theorem dX3_append_16 : decode cX3_append 16 = .ok (.aload_n 0, 1) := by decide +kernel
theorem dX3_append_17 : decode cX3_append 17 = .ok (.getfield 23, 3) := by decide +kernel
theorem dX3_append_20 : decode cX3_append 20 = .ok (.aaload, 1) := by decide +kernel
theorem dX3_append_21 : decode cX3_append 21 = .ok (.iconst 0, 1) := by decide +kernel
theorem dX3_append_22 : decode cX3_append 22 = .ok (.getstatic 27, 3) := by decide +kernel
theorem dX3_append_25 : decode cX3_append 25 = .ok (.iload_n 1, 1) := by decide +kernel
theorem dX3_append_26 : decode cX3_append 26 = .ok (.iaload, 1) := by decide +kernel
theorem dX3_append_27 : decode cX3_append 27 = .ok (.invokestatic 30, 3) := by decide +kernel
theorem dX3_append_30 : decode cX3_append 30 = .ok (.aload_n 0, 1) := by decide +kernel
theorem dX3_append_31 : decode cX3_append 31 = .ok (.getfield 20, 3) := by decide +kernel
theorem dX3_append_34 : decode cX3_append 34 = .ok (.aload_n 0, 1) := by decide +kernel
theorem dX3_append_35 : decode cX3_append 35 = .ok (.getfield 23, 3) := by decide +kernel
theorem dX3_append_38 : decode cX3_append 38 = .ok (.aaload, 1) := by decide +kernel
theorem dX3_append_39 : decode cX3_append 39 = .ok (.astore_n 3, 1) := by decide +kernel
theorem dX3_append_40 : decode cX3_append 40 = .ok (.aload_n 0, 1) := by decide +kernel
theorem dX3_append_41 : decode cX3_append 41 = .ok (.getfield 20, 3) := by decide +kernel
theorem dX3_append_44 : decode cX3_append 44 = .ok (.aload_n 0, 1) := by decide +kernel
theorem dX3_append_45 : decode cX3_append 45 = .ok (.getfield 23, 3) := by decide +kernel
theorem dX3_append_48 : decode cX3_append 48 = .ok (.iconst 1, 1) := by decide +kernel
theorem dX3_append_49 : decode cX3_append 49 = .ok (.iadd, 1) := by decide +kernel
theorem dX3_append_50 : decode cX3_append 50 = .ok (.aaload, 1) := by decide +kernel
theorem dX3_append_51 : decode cX3_append 51 = .ok (.astore 4, 2) := by decide +kernel
theorem dX3_append_53 : decode cX3_append 53 = .ok (.iload_n 1, 1) := by decide +kernel
theorem dX3_append_54 : decode cX3_append 54 = .ok (.bipush 7, 2) := by decide +kernel
theorem dX3_append_56 : decode cX3_append 56 = .ok (.if_icmp .ne 7, 3) := by decide +kernel
theorem dX3_append_59 : decode cX3_append 59 = .ok (.iconst 2, 1) := by decide +kernel
theorem dX3_append_60 : decode cX3_append 60 = .ok (.goto 4, 3) := by decide +kernel
theorem dX3_append_63 : decode cX3_append 63 = .ok (.iconst 1, 1) := by decide +kernel
theorem dX3_append_64 : decode cX3_append 64 = .ok (.istore 5, 2) := by decide +kernel
theorem dX3_append_66 : decode cX3_append 66 = .ok (.aload 4, 2) := by decide +kernel
theorem dX3_append_68 : decode cX3_append 68 = .ok (.iconst 0, 1) := by decide +kernel
theorem dX3_append_69 : decode cX3_append 69 = .ok (.aload_n 3, 1) := by decide +kernel
theorem dX3_append_70 : decode cX3_append 70 = .ok (.iconst 0, 1) := by decide +kernel
theorem dX3_append_71 : decode cX3_append 71 = .ok (.iaload, 1) := by decide +kernel
theorem dX3_append_72 : decode cX3_append 72 = .ok (.iload 5, 2) := by decide +kernel
theorem dX3_append_74 : decode cX3_append 74 = .ok (.idiv, 1) := by decide +kernel
theorem dX3_append_75 : decode cX3_append 75 = .ok (.iastore, 1) := by decide +kernel
theorem dX3_append_76 : decode cX3_append 76 = .ok (.aload 4, 2) := by decide +kernel
theorem dX3_append_78 : decode cX3_append 78 = .ok (.iconst 1, 1) := by decide +kernel
theorem dX3_append_79 : decode cX3_append 79 = .ok (.aload_n 3, 1) := by decide +kernel
theorem dX3_append_80 : decode cX3_append 80 = .ok (.iconst 1, 1) := by decide +kernel
theorem dX3_append_81 : decode cX3_append 81 = .ok (.iaload, 1) := by decide +kernel
theorem dX3_append_82 : decode cX3_append 82 = .ok (.iload 5, 2) := by decide +kernel
theorem dX3_append_84 : decode cX3_append 84 = .ok (.idiv, 1) := by decide +kernel
theorem dX3_append_85 : decode cX3_append 85 = .ok (.iastore, 1) := by decide +kernel
theorem dX3_append_86 : decode cX3_append 86 = .ok (.aload 4, 2) := by decide +kernel
theorem dX3_append_88 : decode cX3_append 88 = .ok (.iconst 2, 1) := by decide +kernel
theorem dX3_append_89 : decode cX3_append 89 = .ok (.iload_n 1, 1) := by decide +kernel
theorem dX3_append_90 : decode cX3_append 90 = .ok (.iconst 4, 1) := by decide +kernel
theorem dX3_append_91 : decode cX3_append 91 = .ok (.if_icmp .ne 7, 3) := by decide +kernel
theorem dX3_append_94 : decode cX3_append 94 = .ok (.iconst 3, 1) := by decide +kernel
theorem dX3_append_95 : decode cX3_append 95 = .ok (.goto 6, 3) := by decide +kernel
theorem dX3_append_98 : decode cX3_append 98 = .ok (.aload_n 3, 1) := by decide +kernel
theorem dX3_append_99 : decode cX3_append 99 = .ok (.iconst 2, 1) := by decide +kernel
theorem dX3_append_100 : decode cX3_append 100 = .ok (.iaload, 1) := by decide +kernel
theorem dX3_append_101 : decode cX3_append 101 = .ok (.iastore, 1) := by decide +kernel
theorem dX3_append_102 : decode cX3_append 102 = .ok (.aload 4, 2) := by decide +kernel
theorem dX3_append_104 : decode cX3_append 104 = .ok (.iconst 3, 1) := by decide +kernel
theorem dX3_append_105 : decode cX3_append 105 = .ok (.aload_n 3, 1) := by decide +kernel
theorem dX3_append_106 : decode cX3_append 106 = .ok (.iconst 3, 1) := by decide +kernel
theorem dX3_append_107 : decode cX3_append 107 = .ok (.iaload, 1) := by decide +kernel
theorem dX3_append_108 : decode cX3_append 108 = .ok (.iload_n 1, 1) := by decide +kernel
theorem dX3_append_109 : decode cX3_append 109 = .ok (.aload_n 3, 1) := by decide +kernel
theorem dX3_append_110 : decode cX3_append 110 = .ok (.iconst 4, 1) := by decide +kernel
theorem dX3_append_111 : decode cX3_append 111 = .ok (.iaload, 1) := by decide +kernel
theorem dX3_append_112 : decode cX3_append 112 = .ok (.invokestatic 36, 3) := by decide +kernel
theorem dX3_append_115 : decode cX3_append 115 = .ok (.iadd, 1) := by decide +kernel
theorem dX3_append_116 : decode cX3_append 116 = .ok (.iastore, 1) := by decide +kernel
theorem dX3_append_117 : decode cX3_append 117 = .ok (.aload 4, 2) := by decide +kernel
theorem dX3_append_119 : decode cX3_append 119 = .ok (.iconst 4, 1) := by decide +kernel
theorem dX3_append_120 : decode cX3_append 120 = .ok (.aload_n 3, 1) := by decide +kernel
theorem dX3_append_121 : decode cX3_append 121 = .ok (.iconst 4, 1) := by decide +kernel
theorem dX3_append_122 : decode cX3_append 122 = .ok (.iaload, 1) := by decide +kernel
theorem dX3_append_123 : decode cX3_append 123 = .ok (.iload 5, 2) := by decide +kernel
theorem dX3_append_125 : decode cX3_append 125 = .ok (.imul, 1) := by decide +kernel
theorem dX3_append_126 : decode cX3_append 126 = .ok (.iastore, 1) := by decide +kernel
theorem dX3_append_127 : decode cX3_append 127 = .ok (.aload_n 0, 1) := by decide +kernel
theorem dX3_append_128 : decode cX3_append 128 = .ok (.dup, 1) := by decide +kernel
theorem dX3_append_129 : decode cX3_append 129 = .ok (.getfield 23, 3) := by decide +kernel
theorem dX3_append_132 : decode cX3_append 132 = .ok (.iconst 1, 1) := by decide +kernel
theorem dX3_append_133 : decode cX3_append 133 = .ok (.iadd, 1) := by decide +kernel
theorem dX3_append_134 : decode cX3_append 134 = .ok (.putfield 23, 3) := by decide +kernel
theorem dX3_append_137 : decode cX3_append 137 = .ok (.return_, 1) := by decide +kernel
theorem dX3_lagOf_0 : decode cX3_lagOf 0 = .ok (.iload_n 0, 1) := by decide +kernel
theorem dX3_lagOf_1 : decode cX3_lagOf 1 = .ok (.tableswitch 45 2 7 #[39, 39, 41, 45, 45, 43], 39) := by decide +kernel
theorem dX3_lagOf_40 : decode cX3_lagOf 40 = .ok (.iconst 2, 1) := by decide +kernel
theorem dX3_lagOf_41 : decode cX3_lagOf 41 = .ok (.ireturn, 1) := by decide +kernel
theorem dX3_lagOf_42 : decode cX3_lagOf 42 = .ok (.iconst 1, 1) := by decide +kernel
theorem dX3_lagOf_43 : decode cX3_lagOf 43 = .ok (.ireturn, 1) := by decide +kernel
theorem dX3_lagOf_44 : decode cX3_lagOf 44 = .ok (.iload_n 1, 1) := by decide +kernel
theorem dX3_lagOf_45 : decode cX3_lagOf 45 = .ok (.ireturn, 1) := by decide +kernel
theorem dX3_lagOf_46 : decode cX3_lagOf 46 = .ok (.iconst 0, 1) := by decide +kernel
theorem dX3_lagOf_47 : decode cX3_lagOf 47 = .ok (.ireturn, 1) := by decide +kernel
theorem dX3_hasStage_0 : decode cX3_hasStage 0 = .ok (.iload_n 1, 1) := by decide +kernel
theorem dX3_hasStage_1 : decode cX3_hasStage 1 = .ok (.iconst 0, 1) := by decide +kernel
theorem dX3_hasStage_2 : decode cX3_hasStage 2 = .ok (.aload_n 0, 1) := by decide +kernel
theorem dX3_hasStage_3 : decode cX3_hasStage 3 = .ok (.getfield 23, 3) := by decide +kernel
theorem dX3_hasStage_6 : decode cX3_hasStage 6 = .ok (.invokestatic 40, 3) := by decide +kernel
theorem dX3_hasStage_9 : decode cX3_hasStage 9 = .ok (.ireturn, 1) := by decide +kernel
theorem dX3_hasPlane_0 : decode cX3_hasPlane 0 = .ok (.iload_n 2, 1) := by decide +kernel
theorem dX3_hasPlane_1 : decode cX3_hasPlane 1 = .ok (.iconst 0, 1) := by decide +kernel
theorem dX3_hasPlane_2 : decode cX3_hasPlane 2 = .ok (.aload_n 0, 1) := by decide +kernel
theorem dX3_hasPlane_3 : decode cX3_hasPlane 3 = .ok (.getfield 20, 3) := by decide +kernel
theorem dX3_hasPlane_6 : decode cX3_hasPlane 6 = .ok (.iload_n 1, 1) := by decide +kernel
theorem dX3_hasPlane_7 : decode cX3_hasPlane 7 = .ok (.aaload, 1) := by decide +kernel
theorem dX3_hasPlane_8 : decode cX3_hasPlane 8 = .ok (.iconst 2, 1) := by decide +kernel
theorem dX3_hasPlane_9 : decode cX3_hasPlane 9 = .ok (.iaload, 1) := by decide +kernel
theorem dX3_hasPlane_10 : decode cX3_hasPlane 10 = .ok (.iconst 1, 1) := by decide +kernel
theorem dX3_hasPlane_11 : decode cX3_hasPlane 11 = .ok (.isub, 1) := by decide +kernel
theorem dX3_hasPlane_12 : decode cX3_hasPlane 12 = .ok (.invokestatic 40, 3) := by decide +kernel
theorem dX3_hasPlane_15 : decode cX3_hasPlane 15 = .ok (.ireturn, 1) := by decide +kernel
theorem dX3_holdsPart_0 : decode cX3_holdsPart 0 = .ok (.iload_n 2, 1) := by decide +kernel
theorem dX3_holdsPart_1 : decode cX3_holdsPart 1 = .ok (.ifCond .lt 53, 3) := by decide +kernel
theorem dX3_holdsPart_4 : decode cX3_holdsPart 4 = .ok (.iload_n 3, 1) := by decide +kernel
theorem dX3_holdsPart_5 : decode cX3_holdsPart 5 = .ok (.ifCond .lt 49, 3) := by decide +kernel
theorem dX3_holdsPart_8 : decode cX3_holdsPart 8 = .ok (.iload 4, 2) := by decide +kernel
theorem dX3_holdsPart_10 : decode cX3_holdsPart 10 = .ok (.iconst 1, 1) := by decide +kernel
theorem dX3_holdsPart_11 : decode cX3_holdsPart 11 = .ok (.if_icmp .lt 43, 3) := by decide +kernel
theorem dX3_holdsPart_14 : decode cX3_holdsPart 14 = .ok (.iload 5, 2) := by decide +kernel
theorem dX3_holdsPart_16 : decode cX3_holdsPart 16 = .ok (.iconst 1, 1) := by decide +kernel
theorem dX3_holdsPart_17 : decode cX3_holdsPart 17 = .ok (.if_icmp .lt 37, 3) := by decide +kernel
theorem dX3_holdsPart_20 : decode cX3_holdsPart 20 = .ok (.iload 4, 2) := by decide +kernel
theorem dX3_holdsPart_22 : decode cX3_holdsPart 22 = .ok (.aload_n 0, 1) := by decide +kernel
theorem dX3_holdsPart_23 : decode cX3_holdsPart 23 = .ok (.getfield 20, 3) := by decide +kernel
theorem dX3_holdsPart_26 : decode cX3_holdsPart 26 = .ok (.iload_n 1, 1) := by decide +kernel
theorem dX3_holdsPart_27 : decode cX3_holdsPart 27 = .ok (.aaload, 1) := by decide +kernel
theorem dX3_holdsPart_28 : decode cX3_holdsPart 28 = .ok (.iconst 0, 1) := by decide +kernel
theorem dX3_holdsPart_29 : decode cX3_holdsPart 29 = .ok (.iaload, 1) := by decide +kernel
theorem dX3_holdsPart_30 : decode cX3_holdsPart 30 = .ok (.iload_n 2, 1) := by decide +kernel
theorem dX3_holdsPart_31 : decode cX3_holdsPart 31 = .ok (.isub, 1) := by decide +kernel
theorem dX3_holdsPart_32 : decode cX3_holdsPart 32 = .ok (.if_icmp .gt 22, 3) := by decide +kernel
theorem dX3_holdsPart_35 : decode cX3_holdsPart 35 = .ok (.iload 5, 2) := by decide +kernel
theorem dX3_holdsPart_37 : decode cX3_holdsPart 37 = .ok (.aload_n 0, 1) := by decide +kernel
theorem dX3_holdsPart_38 : decode cX3_holdsPart 38 = .ok (.getfield 20, 3) := by decide +kernel
theorem dX3_holdsPart_41 : decode cX3_holdsPart 41 = .ok (.iload_n 1, 1) := by decide +kernel
theorem dX3_holdsPart_42 : decode cX3_holdsPart 42 = .ok (.aaload, 1) := by decide +kernel
theorem dX3_holdsPart_43 : decode cX3_holdsPart 43 = .ok (.iconst 1, 1) := by decide +kernel
theorem dX3_holdsPart_44 : decode cX3_holdsPart 44 = .ok (.iaload, 1) := by decide +kernel
theorem dX3_holdsPart_45 : decode cX3_holdsPart 45 = .ok (.iload_n 3, 1) := by decide +kernel
theorem dX3_holdsPart_46 : decode cX3_holdsPart 46 = .ok (.isub, 1) := by decide +kernel
theorem dX3_holdsPart_47 : decode cX3_holdsPart 47 = .ok (.if_icmp .gt 7, 3) := by decide +kernel
theorem dX3_holdsPart_50 : decode cX3_holdsPart 50 = .ok (.iconst 1, 1) := by decide +kernel
theorem dX3_holdsPart_51 : decode cX3_holdsPart 51 = .ok (.goto 4, 3) := by decide +kernel
theorem dX3_holdsPart_54 : decode cX3_holdsPart 54 = .ok (.iconst 0, 1) := by decide +kernel
theorem dX3_holdsPart_55 : decode cX3_holdsPart 55 = .ok (.ireturn, 1) := by decide +kernel
theorem dX4_init_0 : decode cX4_init 0 = .ok (.aload_n 0, 1) := by decide +kernel
theorem dX4_init_1 : decode cX4_init 1 = .ok (.invokespecial 3, 3) := by decide +kernel
theorem dX4_init_4 : decode cX4_init 4 = .ok (.aload_n 0, 1) := by decide +kernel
theorem dX4_init_5 : decode cX4_init 5 = .ok (.new 9, 3) := by decide +kernel
theorem dX4_init_8 : decode cX4_init 8 = .ok (.dup, 1) := by decide +kernel
theorem dX4_init_9 : decode cX4_init 9 = .ok (.invokespecial 11, 3) := by decide +kernel
theorem dX4_init_12 : decode cX4_init 12 = .ok (.putfield 12, 3) := by decide +kernel
theorem dX4_init_15 : decode cX4_init 15 = .ok (.aload_n 0, 1) := by decide +kernel
theorem dX4_init_16 : decode cX4_init 16 = .ok (.new 16, 3) := by decide +kernel
theorem dX4_init_19 : decode cX4_init 19 = .ok (.dup, 1) := by decide +kernel
theorem dX4_init_20 : decode cX4_init 20 = .ok (.invokespecial 18, 3) := by decide +kernel
theorem dX4_init_23 : decode cX4_init 23 = .ok (.putfield 19, 3) := by decide +kernel
theorem dX4_init_26 : decode cX4_init 26 = .ok (.aload_n 0, 1) := by decide +kernel
theorem dX4_init_27 : decode cX4_init 27 = .ok (.new 23, 3) := by decide +kernel
theorem dX4_init_30 : decode cX4_init 30 = .ok (.dup, 1) := by decide +kernel
theorem dX4_init_31 : decode cX4_init 31 = .ok (.invokespecial 25, 3) := by decide +kernel
theorem dX4_init_34 : decode cX4_init 34 = .ok (.putfield 26, 3) := by decide +kernel
theorem dX4_init_37 : decode cX4_init 37 = .ok (.aload_n 0, 1) := by decide +kernel
theorem dX4_init_38 : decode cX4_init 38 = .ok (.new 30, 3) := by decide +kernel
theorem dX4_init_41 : decode cX4_init 41 = .ok (.dup, 1) := by decide +kernel
theorem dX4_init_42 : decode cX4_init 42 = .ok (.invokespecial 32, 3) := by decide +kernel
theorem dX4_init_45 : decode cX4_init 45 = .ok (.putfield 33, 3) := by decide +kernel
theorem dX4_init_48 : decode cX4_init 48 = .ok (.aload_n 0, 1) := by decide +kernel
theorem dX4_init_49 : decode cX4_init 49 = .ok (.getstatic 37, 3) := by decide +kernel
theorem dX4_init_52 : decode cX4_init 52 = .ok (.invokevirtual 41, 3) := by decide +kernel
theorem dX4_init_55 : decode cX4_init 55 = .ok (.checkcast 42, 3) := by decide +kernel
theorem dX4_init_58 : decode cX4_init 58 = .ok (.putfield 46, 3) := by decide +kernel
theorem dX4_init_61 : decode cX4_init 61 = .ok (.aload_n 0, 1) := by decide +kernel
theorem dX4_init_62 : decode cX4_init 62 = .ok (.bipush 17, 2) := by decide +kernel
theorem dX4_init_64 : decode cX4_init 64 = .ok (.newarray .int, 2) := by decide +kernel
theorem dX4_init_66 : decode cX4_init 66 = .ok (.putfield 49, 3) := by decide +kernel
theorem dX4_init_69 : decode cX4_init 69 = .ok (.aload_n 0, 1) := by decide +kernel
theorem dX4_init_70 : decode cX4_init 70 = .ok (.getfield 12, 3) := by decide +kernel
theorem dX4_init_73 : decode cX4_init 73 = .ok (.iconst 1, 1) := by decide +kernel
theorem dX4_init_74 : decode cX4_init 74 = .ok (.iconst 1, 1) := by decide +kernel
theorem dX4_init_75 : decode cX4_init 75 = .ok (.invokevirtual 52, 3) := by decide +kernel
theorem dX4_init_78 : decode cX4_init 78 = .ok (.aload_n 0, 1) := by decide +kernel
theorem dX4_init_79 : decode cX4_init 79 = .ok (.getfield 19, 3) := by decide +kernel
theorem dX4_init_82 : decode cX4_init 82 = .ok (.iconst 1, 1) := by decide +kernel
theorem dX4_init_83 : decode cX4_init 83 = .ok (.iconst 1, 1) := by decide +kernel
theorem dX4_init_84 : decode cX4_init 84 = .ok (.invokevirtual 56, 3) := by decide +kernel
theorem dX4_init_87 : decode cX4_init 87 = .ok (.iconst 0, 1) := by decide +kernel
theorem dX4_init_88 : decode cX4_init 88 = .ok (.istore_n 1, 1) := by decide +kernel
theorem dX4_init_89 : decode cX4_init 89 = .ok (.iload_n 1, 1) := by decide +kernel
theorem dX4_init_90 : decode cX4_init 90 = .ok (.bipush 17, 2) := by decide +kernel
theorem dX4_init_92 : decode cX4_init 92 = .ok (.if_icmp .ge 26, 3) := by decide +kernel
theorem dX4_init_95 : decode cX4_init 95 = .ok (.aload_n 0, 1) := by decide +kernel
theorem dX4_init_96 : decode cX4_init 96 = .ok (.getfield 49, 3) := by decide +kernel
theorem dX4_init_99 : decode cX4_init 99 = .ok (.iload_n 1, 1) := by decide +kernel
theorem dX4_init_100 : decode cX4_init 100 = .ok (.sipush 256, 3) := by decide +kernel
theorem dX4_init_103 : decode cX4_init 103 = .ok (.iload_n 1, 1) := by decide +kernel
theorem dX4_init_104 : decode cX4_init 104 = .ok (.imul, 1) := by decide +kernel
theorem dX4_init_105 : decode cX4_init 105 = .ok (.sipush 4095, 3) := by decide +kernel
theorem dX4_init_108 : decode cX4_init 108 = .ok (.invokestatic 59, 3) := by decide +kernel
theorem dX4_init_111 : decode cX4_init 111 = .ok (.iastore, 1) := by decide +kernel
theorem dX4_init_112 : decode cX4_init 112 = .ok (.iinc 1 1, 3) := by decide +kernel
theorem dX4_init_115 : decode cX4_init 115 = .ok (.goto (-26), 3) := by decide +kernel
theorem dX4_init_118 : decode cX4_init 118 = .ok (.return_, 1) := by decide +kernel
theorem dX4_size_0 : decode cX4_size 0 = .ok (.iload_n 1, 1) := by decide +kernel
theorem dX4_size_1 : decode cX4_size 1 = .ok (.iconst 1, 1) := by decide +kernel
theorem dX4_size_2 : decode cX4_size 2 = .ok (.bipush 16, 2) := by decide +kernel
theorem dX4_size_4 : decode cX4_size 4 = .ok (.invokestatic 65, 3) := by decide +kernel
theorem dX4_size_7 : decode cX4_size 7 = .ok (.ifCond .eq 13, 3) := by decide +kernel
theorem dX4_size_10 : decode cX4_size 10 = .ok (.iload_n 2, 1) := by decide +kernel
theorem dX4_size_11 : decode cX4_size 11 = .ok (.iconst 1, 1) := by decide +kernel
theorem dX4_size_12 : decode cX4_size 12 = .ok (.bipush 16, 2) := by decide +kernel
theorem dX4_size_14 : decode cX4_size 14 = .ok (.invokestatic 65, 3) := by decide +kernel
theorem dX4_size_17 : decode cX4_size 17 = .ok (.ifCond .ne 6, 3) := by decide +kernel
theorem dX4_size_20 : decode cX4_size 20 = .ok (.bipush (-102), 2) := by decide +kernel
theorem dX4_size_22 : decode cX4_size 22 = .ok (.ireturn, 1) := by decide +kernel
theorem dX4_size_23 : decode cX4_size 23 = .ok (.aload_n 0, 1) := by decide +kernel
theorem dX4_size_24 : decode cX4_size 24 = .ok (.getfield 12, 3) := by decide +kernel
theorem dX4_size_27 : decode cX4_size 27 = .ok (.iload_n 1, 1) := by decide +kernel
theorem dX4_size_28 : decode cX4_size 28 = .ok (.iload_n 2, 1) := by decide +kernel
theorem dX4_size_29 : decode cX4_size 29 = .ok (.invokevirtual 52, 3) := by decide +kernel
theorem dX4_size_32 : decode cX4_size 32 = .ok (.aload_n 0, 1) := by decide +kernel
theorem dX4_size_33 : decode cX4_size 33 = .ok (.getfield 19, 3) := by decide +kernel
theorem dX4_size_36 : decode cX4_size 36 = .ok (.iload_n 1, 1) := by decide +kernel
theorem dX4_size_37 : decode cX4_size 37 = .ok (.iload_n 2, 1) := by decide +kernel
theorem dX4_size_38 : decode cX4_size 38 = .ok (.invokevirtual 56, 3) := by decide +kernel
theorem dX4_size_41 : decode cX4_size 41 = .ok (.iload_n 1, 1) := by decide +kernel
theorem dX4_size_42 : decode cX4_size 42 = .ok (.iload_n 2, 1) := by decide +kernel
theorem dX4_size_43 : decode cX4_size 43 = .ok (.imul, 1) := by decide +kernel
theorem dX4_size_44 : decode cX4_size 44 = .ok (.ireturn, 1) := by decide +kernel
theorem dX4_cell_0 : decode cX4_cell 0 = .ok (.aload_n 0, 1) := by decide +kernel
theorem dX4_cell_1 : decode cX4_cell 1 = .ok (.getfield 12, 3) := by decide +kernel
theorem dX4_cell_4 : decode cX4_cell 4 = .ok (.iload_n 1, 1) := by decide +kernel
theorem dX4_cell_5 : decode cX4_cell 5 = .ok (.iload_n 2, 1) := by decide +kernel
theorem dX4_cell_6 : decode cX4_cell 6 = .ok (.invokevirtual 69, 3) := by decide +kernel
theorem dX4_cell_9 : decode cX4_cell 9 = .ok (.ifCond .ne 6, 3) := by decide +kernel
theorem dX4_cell_12 : decode cX4_cell 12 = .ok (.bipush (-101), 2) := by decide +kernel
theorem dX4_cell_14 : decode cX4_cell 14 = .ok (.ireturn, 1) := by decide +kernel
theorem dX4_cell_15 : decode cX4_cell 15 = .ok (.iload_n 3, 1) := by decide +kernel
theorem dX4_cell_16 : decode cX4_cell 16 = .ok (.iconst 0, 1) := by decide +kernel
theorem dX4_cell_17 : decode cX4_cell 17 = .ok (.sipush 1023, 3) := by decide +kernel
theorem dX4_cell_20 : decode cX4_cell 20 = .ok (.invokestatic 65, 3) := by decide +kernel
theorem dX4_cell_23 : decode cX4_cell 23 = .ok (.ifCond .ne 6, 3) := by decide +kernel
theorem dX4_cell_26 : decode cX4_cell 26 = .ok (.bipush (-102), 2) := by decide +kernel
theorem dX4_cell_28 : decode cX4_cell 28 = .ok (.ireturn, 1) := by decide +kernel
theorem dX4_cell_29 : decode cX4_cell 29 = .ok (.iload_n 1, 1) := by decide +kernel
theorem dX4_cell_30 : decode cX4_cell 30 = .ok (.iload_n 2, 1) := by decide +kernel
theorem dX4_cell_31 : decode cX4_cell 31 = .ok (.invokestatic 73, 3) := by decide +kernel
theorem dX4_cell_34 : decode cX4_cell 34 = .ok (.istore 4, 2) := by decide +kernel
theorem dX4_cell_36 : decode cX4_cell 36 = .ok (.aload_n 0, 1) := by decide +kernel
theorem dX4_cell_37 : decode cX4_cell 37 = .ok (.getfield 12, 3) := by decide +kernel
theorem dX4_cell_40 : decode cX4_cell 40 = .ok (.getfield 76, 3) := by decide +kernel
theorem dX4_cell_43 : decode cX4_cell 43 = .ok (.iload 4, 2) := by decide +kernel
theorem dX4_cell_45 : decode cX4_cell 45 = .ok (.iaload, 1) := by decide +kernel
theorem dX4_cell_46 : decode cX4_cell 46 = .ok (.istore 5, 2) := by decide +kernel
theorem dX4_cell_48 : decode cX4_cell 48 = .ok (.aload_n 0, 1) := by decide +kernel
theorem dX4_cell_49 : decode cX4_cell 49 = .ok (.getfield 12, 3) := by decide +kernel
theorem dX4_cell_52 : decode cX4_cell 52 = .ok (.getfield 76, 3) := by decide +kernel
theorem dX4_cell_55 : decode cX4_cell 55 = .ok (.iload 4, 2) := by decide +kernel
theorem dX4_cell_57 : decode cX4_cell 57 = .ok (.iload_n 3, 1) := by decide +kernel
theorem dX4_cell_58 : decode cX4_cell 58 = .ok (.iastore, 1) := by decide +kernel
theorem dX4_cell_59 : decode cX4_cell 59 = .ok (.iload 5, 2) := by decide +kernel
theorem dX4_cell_61 : decode cX4_cell 61 = .ok (.ireturn, 1) := by decide +kernel
theorem dX4_dead_0 : decode cX4_dead 0 = .ok (.aload_n 0, 1) := by decide +kernel
theorem dX4_dead_1 : decode cX4_dead 1 = .ok (.getfield 12, 3) := by decide +kernel
theorem dX4_dead_4 : decode cX4_dead 4 = .ok (.iload_n 1, 1) := by decide +kernel
theorem dX4_dead_5 : decode cX4_dead 5 = .ok (.iload_n 2, 1) := by decide +kernel
theorem dX4_dead_6 : decode cX4_dead 6 = .ok (.invokevirtual 69, 3) := by decide +kernel
theorem dX4_dead_9 : decode cX4_dead 9 = .ok (.ifCond .ne 6, 3) := by decide +kernel
theorem dX4_dead_12 : decode cX4_dead 12 = .ok (.bipush (-101), 2) := by decide +kernel
theorem dX4_dead_14 : decode cX4_dead 14 = .ok (.ireturn, 1) := by decide +kernel
theorem dX4_dead_15 : decode cX4_dead 15 = .ok (.iload_n 1, 1) := by decide +kernel
theorem dX4_dead_16 : decode cX4_dead 16 = .ok (.iload_n 2, 1) := by decide +kernel
theorem dX4_dead_17 : decode cX4_dead 17 = .ok (.invokestatic 73, 3) := by decide +kernel
theorem dX4_dead_20 : decode cX4_dead 20 = .ok (.istore 4, 2) := by decide +kernel
theorem dX4_dead_22 : decode cX4_dead 22 = .ok (.aload_n 0, 1) := by decide +kernel
theorem dX4_dead_23 : decode cX4_dead 23 = .ok (.getfield 12, 3) := by decide +kernel
theorem dX4_dead_26 : decode cX4_dead 26 = .ok (.getfield 79, 3) := by decide +kernel
theorem dX4_dead_29 : decode cX4_dead 29 = .ok (.iload 4, 2) := by decide +kernel
theorem dX4_dead_31 : decode cX4_dead 31 = .ok (.baload, 1) := by decide +kernel
theorem dX4_dead_32 : decode cX4_dead 32 = .ok (.ifCond .eq 7, 3) := by decide +kernel
theorem dX4_dead_35 : decode cX4_dead 35 = .ok (.iconst 1, 1) := by decide +kernel
theorem dX4_dead_36 : decode cX4_dead 36 = .ok (.goto 4, 3) := by decide +kernel
theorem dX4_dead_39 : decode cX4_dead 39 = .ok (.iconst 0, 1) := by decide +kernel
theorem dX4_dead_40 : decode cX4_dead 40 = .ok (.istore 5, 2) := by decide +kernel
theorem dX4_dead_42 : decode cX4_dead 42 = .ok (.aload_n 0, 1) := by decide +kernel
theorem dX4_dead_43 : decode cX4_dead 43 = .ok (.getfield 12, 3) := by decide +kernel
theorem dX4_dead_46 : decode cX4_dead 46 = .ok (.getfield 79, 3) := by decide +kernel
theorem dX4_dead_49 : decode cX4_dead 49 = .ok (.iload 4, 2) := by decide +kernel
theorem dX4_dead_51 : decode cX4_dead 51 = .ok (.iload_n 3, 1) := by decide +kernel
theorem dX4_dead_52 : decode cX4_dead 52 = .ok (.bastore, 1) := by decide +kernel
theorem dX4_dead_53 : decode cX4_dead 53 = .ok (.iload 5, 2) := by decide +kernel
theorem dX4_dead_55 : decode cX4_dead 55 = .ok (.ireturn, 1) := by decide +kernel
theorem dX4_black_0 : decode cX4_black 0 = .ok (.iload_n 1, 1) := by decide +kernel
theorem dX4_black_1 : decode cX4_black 1 = .ok (.iconst 0, 1) := by decide +kernel
theorem dX4_black_2 : decode cX4_black 2 = .ok (.sipush 1023, 3) := by decide +kernel
theorem dX4_black_5 : decode cX4_black 5 = .ok (.invokestatic 65, 3) := by decide +kernel
theorem dX4_black_8 : decode cX4_black 8 = .ok (.ifCond .ne 6, 3) := by decide +kernel
theorem dX4_black_11 : decode cX4_black 11 = .ok (.bipush (-102), 2) := by decide +kernel
theorem dX4_black_13 : decode cX4_black 13 = .ok (.ireturn, 1) := by decide +kernel
theorem dX4_black_14 : decode cX4_black 14 = .ok (.aload_n 0, 1) := by decide +kernel
theorem dX4_black_15 : decode cX4_black 15 = .ok (.iconst 0, 1) := by decide +kernel
theorem dX4_black_16 : decode cX4_black 16 = .ok (.iconst 1, 1) := by decide +kernel
theorem dX4_black_17 : decode cX4_black 17 = .ok (.newarray .int, 2) := by decide +kernel
theorem dX4_black_19 : decode cX4_black 19 = .ok (.dup, 1) := by decide +kernel
theorem dX4_black_20 : decode cX4_black 20 = .ok (.iconst 0, 1) := by decide +kernel
theorem dX4_black_21 : decode cX4_black 21 = .ok (.iload_n 1, 1) := by decide +kernel
theorem dX4_black_22 : decode cX4_black 22 = .ok (.iastore, 1) := by decide +kernel
theorem dX4_black_23 : decode cX4_black 23 = .ok (.invokevirtual 83, 3) := by decide +kernel
theorem dX4_black_26 : decode cX4_black 26 = .ok (.ireturn, 1) := by decide +kernel
theorem dX4_gain_0 : decode cX4_gain 0 = .ok (.iload_n 1, 1) := by decide +kernel
theorem dX4_gain_1 : decode cX4_gain 1 = .ok (.iconst 0, 1) := by decide +kernel
theorem dX4_gain_2 : decode cX4_gain 2 = .ok (.sipush 8000, 3) := by decide +kernel
theorem dX4_gain_5 : decode cX4_gain 5 = .ok (.invokestatic 65, 3) := by decide +kernel
theorem dX4_gain_8 : decode cX4_gain 8 = .ok (.ifCond .eq 25, 3) := by decide +kernel
theorem dX4_gain_11 : decode cX4_gain 11 = .ok (.iload_n 2, 1) := by decide +kernel
theorem dX4_gain_12 : decode cX4_gain 12 = .ok (.iconst 0, 1) := by decide +kernel
theorem dX4_gain_13 : decode cX4_gain 13 = .ok (.sipush 8000, 3) := by decide +kernel
theorem dX4_gain_16 : decode cX4_gain 16 = .ok (.invokestatic 65, 3) := by decide +kernel
theorem dX4_gain_19 : decode cX4_gain 19 = .ok (.ifCond .eq 14, 3) := by decide +kernel
theorem dX4_gain_22 : decode cX4_gain 22 = .ok (.iload_n 3, 1) := by decide +kernel
theorem dX4_gain_23 : decode cX4_gain 23 = .ok (.iconst 0, 1) := by decide +kernel
theorem dX4_gain_24 : decode cX4_gain 24 = .ok (.sipush 8000, 3) := by decide +kernel
theorem dX4_gain_27 : decode cX4_gain 27 = .ok (.invokestatic 65, 3) := by decide +kernel
theorem dX4_gain_30 : decode cX4_gain 30 = .ok (.ifCond .ne 6, 3) := by decide +kernel
theorem dX4_gain_33 : decode cX4_gain 33 = .ok (.bipush (-102), 2) := by decide +kernel
theorem dX4_gain_35 : decode cX4_gain 35 = .ok (.ireturn, 1) := by decide +kernel
theorem dX4_gain_36 : decode cX4_gain 36 = .ok (.aload_n 0, 1) := by decide +kernel
theorem dX4_gain_37 : decode cX4_gain 37 = .ok (.iconst 1, 1) := by decide +kernel
theorem dX4_gain_38 : decode cX4_gain 38 = .ok (.iconst 3, 1) := by decide +kernel
theorem dX4_gain_39 : decode cX4_gain 39 = .ok (.newarray .int, 2) := by decide +kernel
theorem dX4_gain_41 : decode cX4_gain 41 = .ok (.dup, 1) := by decide +kernel
theorem dX4_gain_42 : decode cX4_gain 42 = .ok (.iconst 0, 1) := by decide +kernel
theorem dX4_gain_43 : decode cX4_gain 43 = .ok (.iload_n 1, 1) := by decide +kernel
theorem dX4_gain_44 : decode cX4_gain 44 = .ok (.iastore, 1) := by decide +kernel
theorem dX4_gain_45 : decode cX4_gain 45 = .ok (.dup, 1) := by decide +kernel
theorem dX4_gain_46 : decode cX4_gain 46 = .ok (.iconst 1, 1) := by decide +kernel
theorem dX4_gain_47 : decode cX4_gain 47 = .ok (.iload_n 2, 1) := by decide +kernel
theorem dX4_gain_48 : decode cX4_gain 48 = .ok (.iastore, 1) := by decide +kernel
theorem dX4_gain_49 : decode cX4_gain 49 = .ok (.dup, 1) := by decide +kernel
theorem dX4_gain_50 : decode cX4_gain 50 = .ok (.iconst 2, 1) := by decide +kernel
theorem dX4_gain_51 : decode cX4_gain 51 = .ok (.iload_n 3, 1) := by decide +kernel
theorem dX4_gain_52 : decode cX4_gain 52 = .ok (.iastore, 1) := by decide +kernel
theorem dX4_gain_53 : decode cX4_gain 53 = .ok (.invokevirtual 83, 3) := by decide +kernel
theorem dX4_gain_56 : decode cX4_gain 56 = .ok (.ireturn, 1) := by decide +kernel
theorem dX4_step_0 : decode cX4_step 0 = .ok (.iload_n 1, 1) := by decide +kernel
theorem dX4_step_1 : decode cX4_step 1 = .ok (.iconst 2, 1) := by decide +kernel
theorem dX4_step_2 : decode cX4_step 2 = .ok (.if_icmp .eq 22, 3) := by decide +kernel
theorem dX4_step_5 : decode cX4_step 5 = .ok (.iload_n 1, 1) := by decide +kernel
theorem dX4_step_6 : decode cX4_step 6 = .ok (.iconst 3, 1) := by decide +kernel
theorem dX4_step_7 : decode cX4_step 7 = .ok (.if_icmp .eq 17, 3) := by decide +kernel
theorem dX4_step_10 : decode cX4_step 10 = .ok (.iload_n 1, 1) := by decide +kernel
theorem dX4_step_11 : decode cX4_step 11 = .ok (.iconst 4, 1) := by decide +kernel
theorem dX4_step_12 : decode cX4_step 12 = .ok (.if_icmp .eq 12, 3) := by decide +kernel
theorem dX4_step_15 : decode cX4_step 15 = .ok (.iload_n 1, 1) := by decide +kernel
theorem dX4_step_16 : decode cX4_step 16 = .ok (.bipush 7, 2) := by decide +kernel
theorem dX4_step_18 : decode cX4_step 18 = .ok (.if_icmp .eq 6, 3) := by decide +kernel
theorem dX4_step_21 : decode cX4_step 21 = .ok (.bipush (-102), 2) := by decide +kernel
theorem dX4_step_23 : decode cX4_step 23 = .ok (.ireturn, 1) := by decide +kernel
theorem dX4_step_24 : decode cX4_step 24 = .ok (.aload_n 0, 1) := by decide +kernel
theorem dX4_step_25 : decode cX4_step 25 = .ok (.iload_n 1, 1) := by decide +kernel
theorem dX4_step_26 : decode cX4_step 26 = .ok (.getstatic 87, 3) := by decide +kernel
theorem dX4_step_29 : decode cX4_step 29 = .ok (.invokevirtual 83, 3) := by decide +kernel
theorem dX4_step_32 : decode cX4_step 32 = .ok (.ireturn, 1) := by decide +kernel
theorem dX4_entry_0 : decode cX4_entry 0 = .ok (.iload_n 1, 1) := by decide +kernel
theorem dX4_entry_1 : decode cX4_entry 1 = .ok (.iconst 0, 1) := by decide +kernel
theorem dX4_entry_2 : decode cX4_entry 2 = .ok (.bipush 8, 2) := by decide +kernel
theorem dX4_entry_4 : decode cX4_entry 4 = .ok (.invokestatic 65, 3) := by decide +kernel
theorem dX4_entry_7 : decode cX4_entry 7 = .ok (.ifCond .ne 6, 3) := by decide +kernel
theorem dX4_entry_10 : decode cX4_entry 10 = .ok (.bipush (-101), 2) := by decide +kernel
theorem dX4_entry_12 : decode cX4_entry 12 = .ok (.ireturn, 1) := by decide +kernel
theorem dX4_entry_13 : decode cX4_entry 13 = .ok (.iload_n 2, 1) := by decide +kernel
theorem dX4_entry_14 : decode cX4_entry 14 = .ok (.sipush (-4000), 3) := by decide +kernel
theorem dX4_entry_17 : decode cX4_entry 17 = .ok (.sipush 4000, 3) := by decide +kernel
theorem dX4_entry_20 : decode cX4_entry 20 = .ok (.invokestatic 65, 3) := by decide +kernel
theorem dX4_entry_23 : decode cX4_entry 23 = .ok (.ifCond .ne 6, 3) := by decide +kernel
theorem dX4_entry_26 : decode cX4_entry 26 = .ok (.bipush (-102), 2) := by decide +kernel
theorem dX4_entry_28 : decode cX4_entry 28 = .ok (.ireturn, 1) := by decide +kernel
theorem dX4_entry_29 : decode cX4_entry 29 = .ok (.aload_n 0, 1) := by decide +kernel
theorem dX4_entry_30 : decode cX4_entry 30 = .ok (.getfield 46, 3) := by decide +kernel
theorem dX4_entry_33 : decode cX4_entry 33 = .ok (.iload_n 1, 1) := by decide +kernel
theorem dX4_entry_34 : decode cX4_entry 34 = .ok (.iaload, 1) := by decide +kernel
theorem dX4_entry_35 : decode cX4_entry 35 = .ok (.istore_n 3, 1) := by decide +kernel
theorem dX4_entry_36 : decode cX4_entry 36 = .ok (.aload_n 0, 1) := by decide +kernel
theorem dX4_entry_37 : decode cX4_entry 37 = .ok (.getfield 46, 3) := by decide +kernel
theorem dX4_entry_40 : decode cX4_entry 40 = .ok (.iload_n 1, 1) := by decide +kernel
theorem dX4_entry_41 : decode cX4_entry 41 = .ok (.iload_n 2, 1) := by decide +kernel
theorem dX4_entry_42 : decode cX4_entry 42 = .ok (.iastore, 1) := by decide +kernel
theorem dX4_entry_43 : decode cX4_entry 43 = .ok (.iload_n 3, 1) := by decide +kernel
theorem dX4_entry_44 : decode cX4_entry 44 = .ok (.ireturn, 1) := by decide +kernel
theorem dX4_matrix_0 : decode cX4_matrix 0 = .ok (.aload_n 0, 1) := by decide +kernel
theorem dX4_matrix_1 : decode cX4_matrix 1 = .ok (.iconst 5, 1) := by decide +kernel
theorem dX4_matrix_2 : decode cX4_matrix 2 = .ok (.aload_n 0, 1) := by decide +kernel
theorem dX4_matrix_3 : decode cX4_matrix 3 = .ok (.getfield 46, 3) := by decide +kernel
theorem dX4_matrix_6 : decode cX4_matrix 6 = .ok (.invokevirtual 83, 3) := by decide +kernel
theorem dX4_matrix_9 : decode cX4_matrix 9 = .ok (.ireturn, 1) := by decide +kernel
theorem dX4_point_0 : decode cX4_point 0 = .ok (.iload_n 1, 1) := by decide +kernel
theorem dX4_point_1 : decode cX4_point 1 = .ok (.iconst 0, 1) := by decide +kernel
theorem dX4_point_2 : decode cX4_point 2 = .ok (.bipush 16, 2) := by decide +kernel
theorem dX4_point_4 : decode cX4_point 4 = .ok (.invokestatic 65, 3) := by decide +kernel
theorem dX4_point_7 : decode cX4_point 7 = .ok (.ifCond .ne 6, 3) := by decide +kernel
theorem dX4_point_10 : decode cX4_point 10 = .ok (.bipush (-101), 2) := by decide +kernel
theorem dX4_point_12 : decode cX4_point 12 = .ok (.ireturn, 1) := by decide +kernel
theorem dX4_point_13 : decode cX4_point 13 = .ok (.iload_n 2, 1) := by decide +kernel
theorem dX4_point_14 : decode cX4_point 14 = .ok (.iconst 0, 1) := by decide +kernel
theorem dX4_point_15 : decode cX4_point 15 = .ok (.sipush 4095, 3) := by decide +kernel
theorem dX4_point_18 : decode cX4_point 18 = .ok (.invokestatic 65, 3) := by decide +kernel
theorem dX4_point_21 : decode cX4_point 21 = .ok (.ifCond .ne 6, 3) := by decide +kernel
theorem dX4_point_24 : decode cX4_point 24 = .ok (.bipush (-102), 2) := by decide +kernel
theorem dX4_point_26 : decode cX4_point 26 = .ok (.ireturn, 1) := by decide +kernel
theorem dX4_point_27 : decode cX4_point 27 = .ok (.aload_n 0, 1) := by decide +kernel
theorem dX4_point_28 : decode cX4_point 28 = .ok (.getfield 49, 3) := by decide +kernel
theorem dX4_point_31 : decode cX4_point 31 = .ok (.iload_n 1, 1) := by decide +kernel
theorem dX4_point_32 : decode cX4_point 32 = .ok (.iaload, 1) := by decide +kernel
theorem dX4_point_33 : decode cX4_point 33 = .ok (.istore_n 3, 1) := by decide +kernel
theorem dX4_point_34 : decode cX4_point 34 = .ok (.aload_n 0, 1) := by decide +kernel
theorem dX4_point_35 : decode cX4_point 35 = .ok (.getfield 49, 3) := by decide +kernel
theorem dX4_point_38 : decode cX4_point 38 = .ok (.iload_n 1, 1) := by decide +kernel
theorem dX4_point_39 : decode cX4_point 39 = .ok (.iload_n 2, 1) := by decide +kernel
theorem dX4_point_40 : decode cX4_point 40 = .ok (.iastore, 1) := by decide +kernel
theorem dX4_point_41 : decode cX4_point 41 = .ok (.iload_n 3, 1) := by decide +kernel
theorem dX4_point_42 : decode cX4_point 42 = .ok (.ireturn, 1) := by decide +kernel
theorem dX4_curve_0 : decode cX4_curve 0 = .ok (.iconst 1, 1) := by decide +kernel
theorem dX4_curve_1 : decode cX4_curve 1 = .ok (.istore_n 1, 1) := by decide +kernel
theorem dX4_curve_2 : decode cX4_curve 2 = .ok (.iload_n 1, 1) := by decide +kernel
theorem dX4_curve_3 : decode cX4_curve 3 = .ok (.bipush 17, 2) := by decide +kernel
theorem dX4_curve_5 : decode cX4_curve 5 = .ok (.if_icmp .ge 29, 3) := by decide +kernel
theorem dX4_curve_8 : decode cX4_curve 8 = .ok (.aload_n 0, 1) := by decide +kernel
theorem dX4_curve_9 : decode cX4_curve 9 = .ok (.getfield 49, 3) := by decide +kernel
theorem dX4_curve_12 : decode cX4_curve 12 = .ok (.iload_n 1, 1) := by decide +kernel
theorem dX4_curve_13 : decode cX4_curve 13 = .ok (.iaload, 1) := by decide +kernel
theorem dX4_curve_14 : decode cX4_curve 14 = .ok (.aload_n 0, 1) := by decide +kernel
theorem dX4_curve_15 : decode cX4_curve 15 = .ok (.getfield 49, 3) := by decide +kernel
theorem dX4_curve_18 : decode cX4_curve 18 = .ok (.iload_n 1, 1) := by decide +kernel
theorem dX4_curve_19 : decode cX4_curve 19 = .ok (.iconst 1, 1) := by decide +kernel
theorem dX4_curve_20 : decode cX4_curve 20 = .ok (.isub, 1) := by decide +kernel
theorem dX4_curve_21 : decode cX4_curve 21 = .ok (.iaload, 1) := by decide +kernel
theorem dX4_curve_22 : decode cX4_curve 22 = .ok (.if_icmp .ge 6, 3) := by decide +kernel
theorem dX4_curve_25 : decode cX4_curve 25 = .ok (.bipush (-102), 2) := by decide +kernel
theorem dX4_curve_27 : decode cX4_curve 27 = .ok (.ireturn, 1) := by decide +kernel
theorem dX4_curve_28 : decode cX4_curve 28 = .ok (.iinc 1 1, 3) := by decide +kernel
theorem dX4_curve_31 : decode cX4_curve 31 = .ok (.goto (-29), 3) := by decide +kernel
theorem dX4_curve_34 : decode cX4_curve 34 = .ok (.aload_n 0, 1) := by decide +kernel
theorem dX4_curve_35 : decode cX4_curve 35 = .ok (.bipush 6, 2) := by decide +kernel
theorem dX4_curve_37 : decode cX4_curve 37 = .ok (.aload_n 0, 1) := by decide +kernel
theorem dX4_curve_38 : decode cX4_curve 38 = .ok (.getfield 49, 3) := by decide +kernel
theorem dX4_curve_41 : decode cX4_curve 41 = .ok (.invokevirtual 83, 3) := by decide +kernel
theorem dX4_curve_44 : decode cX4_curve 44 = .ok (.ireturn, 1) := by decide +kernel
theorem dX4_undo_0 : decode cX4_undo 0 = .ok (.aload_n 0, 1) := by decide +kernel
theorem dX4_undo_1 : decode cX4_undo 1 = .ok (.getfield 19, 3) := by decide +kernel
theorem dX4_undo_4 : decode cX4_undo 4 = .ok (.getfield 90, 3) := by decide +kernel
theorem dX4_undo_7 : decode cX4_undo 7 = .ok (.ifCond .ne 6, 3) := by decide +kernel
theorem dX4_undo_10 : decode cX4_undo 10 = .ok (.bipush (-103), 2) := by decide +kernel
theorem dX4_undo_12 : decode cX4_undo 12 = .ok (.ireturn, 1) := by decide +kernel
theorem dX4_undo_13 : decode cX4_undo 13 = .ok (.aload_n 0, 1) := by decide +kernel
theorem dX4_undo_14 : decode cX4_undo 14 = .ok (.getfield 19, 3) := by decide +kernel
theorem dX4_undo_17 : decode cX4_undo 17 = .ok (.dup, 1) := by decide +kernel
theorem dX4_undo_18 : decode cX4_undo 18 = .ok (.getfield 90, 3) := by decide +kernel
theorem dX4_undo_21 : decode cX4_undo 21 = .ok (.iconst 1, 1) := by decide +kernel
theorem dX4_undo_22 : decode cX4_undo 22 = .ok (.isub, 1) := by decide +kernel
theorem dX4_undo_23 : decode cX4_undo 23 = .ok (.putfield 90, 3) := by decide +kernel
theorem dX4_undo_26 : decode cX4_undo 26 = .ok (.aload_n 0, 1) := by decide +kernel
theorem dX4_undo_27 : decode cX4_undo 27 = .ok (.getfield 19, 3) := by decide +kernel
theorem dX4_undo_30 : decode cX4_undo 30 = .ok (.getfield 90, 3) := by decide +kernel
theorem dX4_undo_33 : decode cX4_undo 33 = .ok (.ireturn, 1) := by decide +kernel
theorem dX4_kind_0 : decode cX4_kind 0 = .ok (.iload_n 1, 1) := by decide +kernel
theorem dX4_kind_1 : decode cX4_kind 1 = .ok (.iconst 0, 1) := by decide +kernel
theorem dX4_kind_2 : decode cX4_kind 2 = .ok (.aload_n 0, 1) := by decide +kernel
theorem dX4_kind_3 : decode cX4_kind 3 = .ok (.getfield 19, 3) := by decide +kernel
theorem dX4_kind_6 : decode cX4_kind 6 = .ok (.getfield 90, 3) := by decide +kernel
theorem dX4_kind_9 : decode cX4_kind 9 = .ok (.iconst 1, 1) := by decide +kernel
theorem dX4_kind_10 : decode cX4_kind 10 = .ok (.isub, 1) := by decide +kernel
theorem dX4_kind_11 : decode cX4_kind 11 = .ok (.invokestatic 65, 3) := by decide +kernel
theorem dX4_kind_14 : decode cX4_kind 14 = .ok (.ifCond .eq 15, 3) := by decide +kernel
theorem dX4_kind_17 : decode cX4_kind 17 = .ok (.aload_n 0, 1) := by decide +kernel
theorem dX4_kind_18 : decode cX4_kind 18 = .ok (.getfield 19, 3) := by decide +kernel
theorem dX4_kind_21 : decode cX4_kind 21 = .ok (.getfield 94, 3) := by decide +kernel
theorem dX4_kind_24 : decode cX4_kind 24 = .ok (.iload_n 1, 1) := by decide +kernel
theorem dX4_kind_25 : decode cX4_kind 25 = .ok (.iaload, 1) := by decide +kernel
theorem dX4_kind_26 : decode cX4_kind 26 = .ok (.goto 4, 3) := by decide +kernel
theorem dX4_kind_29 : decode cX4_kind 29 = .ok (.iconst (-1), 1) := by decide +kernel
theorem dX4_kind_30 : decode cX4_kind 30 = .ok (.ireturn, 1) := by decide +kernel
theorem dX4_stage_0 : decode cX4_stage 0 = .ok (.aload_n 0, 1) := by decide +kernel
theorem dX4_stage_1 : decode cX4_stage 1 = .ok (.getfield 19, 3) := by decide +kernel
theorem dX4_stage_4 : decode cX4_stage 4 = .ok (.iload_n 1, 1) := by decide +kernel
theorem dX4_stage_5 : decode cX4_stage 5 = .ok (.invokevirtual 97, 3) := by decide +kernel
theorem dX4_stage_8 : decode cX4_stage 8 = .ok (.ifCond .ne 6, 3) := by decide +kernel
theorem dX4_stage_11 : decode cX4_stage 11 = .ok (.bipush (-101), 2) := by decide +kernel
theorem dX4_stage_13 : decode cX4_stage 13 = .ok (.ireturn, 1) := by decide +kernel
theorem dX4_stage_14 : decode cX4_stage 14 = .ok (.iload_n 2, 1) := by decide +kernel
theorem dX4_stage_15 : decode cX4_stage 15 = .ok (.iconst 0, 1) := by decide +kernel
theorem dX4_stage_16 : decode cX4_stage 16 = .ok (.iconst 4, 1) := by decide +kernel
theorem dX4_stage_17 : decode cX4_stage 17 = .ok (.invokestatic 65, 3) := by decide +kernel
theorem dX4_stage_20 : decode cX4_stage 20 = .ok (.ifCond .ne 6, 3) := by decide +kernel
theorem dX4_stage_23 : decode cX4_stage 23 = .ok (.bipush (-102), 2) := by decide +kernel
theorem dX4_stage_25 : decode cX4_stage 25 = .ok (.ireturn, 1) := by decide +kernel
theorem dX4_stage_26 : decode cX4_stage 26 = .ok (.aload_n 0, 1) := by decide +kernel
theorem dX4_stage_27 : decode cX4_stage 27 = .ok (.getfield 19, 3) := by decide +kernel
theorem dX4_stage_30 : decode cX4_stage 30 = .ok (.getfield 101, 3) := by decide +kernel
theorem dX4_stage_33 : decode cX4_stage 33 = .ok (.iload_n 1, 1) := by decide +kernel
theorem dX4_stage_34 : decode cX4_stage 34 = .ok (.aaload, 1) := by decide +kernel
theorem dX4_stage_35 : decode cX4_stage 35 = .ok (.iload_n 2, 1) := by decide +kernel
theorem dX4_stage_36 : decode cX4_stage 36 = .ok (.iaload, 1) := by decide +kernel
theorem dX4_stage_37 : decode cX4_stage 37 = .ok (.ireturn, 1) := by decide +kernel
theorem dX4_at_0 : decode cX4_at 0 = .ok (.aload_n 0, 1) := by decide +kernel
theorem dX4_at_1 : decode cX4_at 1 = .ok (.getfield 19, 3) := by decide +kernel
theorem dX4_at_4 : decode cX4_at 4 = .ok (.iload_n 1, 1) := by decide +kernel
theorem dX4_at_5 : decode cX4_at 5 = .ok (.invokevirtual 97, 3) := by decide +kernel
theorem dX4_at_8 : decode cX4_at 8 = .ok (.ifCond .ne 6, 3) := by decide +kernel
theorem dX4_at_11 : decode cX4_at 11 = .ok (.bipush (-101), 2) := by decide +kernel
theorem dX4_at_13 : decode cX4_at 13 = .ok (.ireturn, 1) := by decide +kernel
theorem dX4_at_14 : decode cX4_at 14 = .ok (.aload_n 0, 1) := by decide +kernel
theorem dX4_at_15 : decode cX4_at 15 = .ok (.getfield 19, 3) := by decide +kernel
theorem dX4_at_18 : decode cX4_at 18 = .ok (.iload_n 1, 1) := by decide +kernel
theorem dX4_at_19 : decode cX4_at 19 = .ok (.iload_n 2, 1) := by decide +kernel
theorem dX4_at_20 : decode cX4_at 20 = .ok (.iload_n 3, 1) := by decide +kernel
theorem dX4_at_21 : decode cX4_at 21 = .ok (.iconst 1, 1) := by decide +kernel
theorem dX4_at_22 : decode cX4_at 22 = .ok (.iconst 1, 1) := by decide +kernel
theorem dX4_at_23 : decode cX4_at 23 = .ok (.invokevirtual 105, 3) := by decide +kernel
theorem dX4_at_26 : decode cX4_at 26 = .ok (.ifCond .eq 16, 3) := by decide +kernel
theorem dX4_at_29 : decode cX4_at 29 = .ok (.aload_n 0, 1) := by decide +kernel
theorem dX4_at_30 : decode cX4_at 30 = .ok (.getfield 19, 3) := by decide +kernel
theorem dX4_at_33 : decode cX4_at 33 = .ok (.iload_n 1, 1) := by decide +kernel
theorem dX4_at_34 : decode cX4_at 34 = .ok (.iload 4, 2) := by decide +kernel
theorem dX4_at_36 : decode cX4_at 36 = .ok (.invokevirtual 109, 3) := by decide +kernel
theorem dX4_at_39 : decode cX4_at 39 = .ok (.ifCond .ne 6, 3) := by decide +kernel
theorem dX4_at_42 : decode cX4_at 42 = .ok (.bipush (-102), 2) := by decide +kernel
theorem dX4_at_44 : decode cX4_at 44 = .ok (.ireturn, 1) := by decide +kernel
theorem dX4_at_45 : decode cX4_at 45 = .ok (.aload_n 0, 1) := by decide +kernel
theorem dX4_at_46 : decode cX4_at 46 = .ok (.getfield 26, 3) := by decide +kernel
theorem dX4_at_49 : decode cX4_at 49 = .ok (.iload_n 1, 1) := by decide +kernel
theorem dX4_at_50 : decode cX4_at 50 = .ok (.invokevirtual 112, 3) := by decide +kernel
theorem dX4_at_53 : decode cX4_at 53 = .ok (.aload_n 0, 1) := by decide +kernel
theorem dX4_at_54 : decode cX4_at 54 = .ok (.getfield 26, 3) := by decide +kernel
theorem dX4_at_57 : decode cX4_at 57 = .ok (.iload_n 2, 1) := by decide +kernel
theorem dX4_at_58 : decode cX4_at 58 = .ok (.iload_n 3, 1) := by decide +kernel
theorem dX4_at_59 : decode cX4_at 59 = .ok (.iconst 1, 1) := by decide +kernel
theorem dX4_at_60 : decode cX4_at 60 = .ok (.iconst 1, 1) := by decide +kernel
theorem dX4_at_61 : decode cX4_at 61 = .ok (.iload 4, 2) := by decide +kernel
theorem dX4_at_63 : decode cX4_at 63 = .ok (.invokevirtual 116, 3) := by decide +kernel
theorem dX4_at_66 : decode cX4_at 66 = .ok (.aload_n 0, 1) := by decide +kernel
theorem dX4_at_67 : decode cX4_at 67 = .ok (.getfield 33, 3) := by decide +kernel
theorem dX4_at_70 : decode cX4_at 70 = .ok (.aload_n 0, 1) := by decide +kernel
theorem dX4_at_71 : decode cX4_at 71 = .ok (.getfield 12, 3) := by decide +kernel
theorem dX4_at_74 : decode cX4_at 74 = .ok (.aload_n 0, 1) := by decide +kernel
theorem dX4_at_75 : decode cX4_at 75 = .ok (.getfield 19, 3) := by decide +kernel
theorem dX4_at_78 : decode cX4_at 78 = .ok (.aload_n 0, 1) := by decide +kernel
theorem dX4_at_79 : decode cX4_at 79 = .ok (.getfield 26, 3) := by decide +kernel
theorem dX4_at_82 : decode cX4_at 82 = .ok (.invokevirtual 120, 3) := by decide +kernel
theorem dX4_at_85 : decode cX4_at 85 = .ok (.aload_n 0, 1) := by decide +kernel
theorem dX4_at_86 : decode cX4_at 86 = .ok (.getfield 33, 3) := by decide +kernel
end
section
theorem dX4_at_89 : decode cX4_at 89 = .ok (.iload_n 2, 1) := by decide +kernel
theorem dX4_at_90 : decode cX4_at 90 = .ok (.iload_n 3, 1) := by decide +kernel
theorem dX4_at_91 : decode cX4_at 91 = .ok (.iload 4, 2) := by decide +kernel
theorem dX4_at_93 : decode cX4_at 93 = .ok (.invokevirtual 124, 3) := by decide +kernel
theorem dX4_at_96 : decode cX4_at 96 = .ok (.ireturn, 1) := by decide +kernel
theorem dX4_part_0 : decode cX4_part 0 = .ok (.aload_n 0, 1) := by decide +kernel
theorem dX4_part_1 : decode cX4_part 1 = .ok (.getfield 19, 3) := by decide +kernel
theorem dX4_part_4 : decode cX4_part 4 = .ok (.getfield 90, 3) := by decide +kernel
theorem dX4_part_7 : decode cX4_part 7 = .ok (.istore 6, 2) := by decide +kernel
theorem dX4_part_9 : decode cX4_part 9 = .ok (.aload_n 0, 1) := by decide +kernel
theorem dX4_part_10 : decode cX4_part 10 = .ok (.getfield 19, 3) := by decide +kernel
theorem dX4_part_13 : decode cX4_part 13 = .ok (.iload 6, 2) := by decide +kernel
theorem dX4_part_15 : decode cX4_part 15 = .ok (.iload_n 1, 1) := by decide +kernel
theorem dX4_part_16 : decode cX4_part 16 = .ok (.iload_n 2, 1) := by decide +kernel
theorem dX4_part_17 : decode cX4_part 17 = .ok (.iload_n 3, 1) := by decide +kernel
theorem dX4_part_18 : decode cX4_part 18 = .ok (.iload 4, 2) := by decide +kernel
theorem dX4_part_20 : decode cX4_part 20 = .ok (.invokevirtual 105, 3) := by decide +kernel
theorem dX4_part_23 : decode cX4_part 23 = .ok (.ifCond .eq 17, 3) := by decide +kernel
theorem dX4_part_26 : decode cX4_part 26 = .ok (.aload_n 0, 1) := by decide +kernel
theorem dX4_part_27 : decode cX4_part 27 = .ok (.getfield 19, 3) := by decide +kernel
theorem dX4_part_30 : decode cX4_part 30 = .ok (.iload 6, 2) := by decide +kernel
theorem dX4_part_32 : decode cX4_part 32 = .ok (.iload 5, 2) := by decide +kernel
theorem dX4_part_34 : decode cX4_part 34 = .ok (.invokevirtual 109, 3) := by decide +kernel
theorem dX4_part_37 : decode cX4_part 37 = .ok (.ifCond .ne 6, 3) := by decide +kernel
theorem dX4_part_40 : decode cX4_part 40 = .ok (.bipush (-102), 2) := by decide +kernel
theorem dX4_part_42 : decode cX4_part 42 = .ok (.ireturn, 1) := by decide +kernel
theorem dX4_part_43 : decode cX4_part 43 = .ok (.aload_n 0, 1) := by decide +kernel
theorem dX4_part_44 : decode cX4_part 44 = .ok (.getfield 26, 3) := by decide +kernel
theorem dX4_part_47 : decode cX4_part 47 = .ok (.iload 6, 2) := by decide +kernel
theorem dX4_part_49 : decode cX4_part 49 = .ok (.invokevirtual 112, 3) := by decide +kernel
theorem dX4_part_52 : decode cX4_part 52 = .ok (.aload_n 0, 1) := by decide +kernel
theorem dX4_part_53 : decode cX4_part 53 = .ok (.getfield 26, 3) := by decide +kernel
theorem dX4_part_56 : decode cX4_part 56 = .ok (.iload_n 1, 1) := by decide +kernel
theorem dX4_part_57 : decode cX4_part 57 = .ok (.iload_n 2, 1) := by decide +kernel
theorem dX4_part_58 : decode cX4_part 58 = .ok (.iload_n 3, 1) := by decide +kernel
theorem dX4_part_59 : decode cX4_part 59 = .ok (.iload 4, 2) := by decide +kernel
theorem dX4_part_61 : decode cX4_part 61 = .ok (.iload 5, 2) := by decide +kernel
theorem dX4_part_63 : decode cX4_part 63 = .ok (.invokevirtual 116, 3) := by decide +kernel
theorem dX4_part_66 : decode cX4_part 66 = .ok (.aload_n 0, 1) := by decide +kernel
theorem dX4_part_67 : decode cX4_part 67 = .ok (.getfield 33, 3) := by decide +kernel
theorem dX4_part_70 : decode cX4_part 70 = .ok (.aload_n 0, 1) := by decide +kernel
theorem dX4_part_71 : decode cX4_part 71 = .ok (.getfield 12, 3) := by decide +kernel
theorem dX4_part_74 : decode cX4_part 74 = .ok (.aload_n 0, 1) := by decide +kernel
theorem dX4_part_75 : decode cX4_part 75 = .ok (.getfield 19, 3) := by decide +kernel
theorem dX4_part_78 : decode cX4_part 78 = .ok (.aload_n 0, 1) := by decide +kernel
theorem dX4_part_79 : decode cX4_part 79 = .ok (.getfield 26, 3) := by decide +kernel
theorem dX4_part_82 : decode cX4_part 82 = .ok (.invokevirtual 120, 3) := by decide +kernel
theorem dX4_part_85 : decode cX4_part 85 = .ok (.aload_n 0, 1) := by decide +kernel
theorem dX4_part_86 : decode cX4_part 86 = .ok (.getfield 33, 3) := by decide +kernel
theorem dX4_part_89 : decode cX4_part 89 = .ok (.iload_n 1, 1) := by decide +kernel
theorem dX4_part_90 : decode cX4_part 90 = .ok (.iload_n 2, 1) := by decide +kernel
theorem dX4_part_91 : decode cX4_part 91 = .ok (.iload_n 3, 1) := by decide +kernel
theorem dX4_part_92 : decode cX4_part 92 = .ok (.iload 4, 2) := by decide +kernel
theorem dX4_part_94 : decode cX4_part 94 = .ok (.iload 5, 2) := by decide +kernel
theorem dX4_part_96 : decode cX4_part 96 = .ok (.invokevirtual 128, 3) := by decide +kernel
theorem dX4_part_99 : decode cX4_part 99 = .ok (.ireturn, 1) := by decide +kernel
theorem dX4_needs_0 : decode cX4_needs 0 = .ok (.aload_n 0, 1) := by decide +kernel
theorem dX4_needs_1 : decode cX4_needs 1 = .ok (.getfield 19, 3) := by decide +kernel
theorem dX4_needs_4 : decode cX4_needs 4 = .ok (.getfield 90, 3) := by decide +kernel
theorem dX4_needs_7 : decode cX4_needs 7 = .ok (.istore 5, 2) := by decide +kernel
theorem dX4_needs_9 : decode cX4_needs 9 = .ok (.aload_n 0, 1) := by decide +kernel
theorem dX4_needs_10 : decode cX4_needs 10 = .ok (.getfield 19, 3) := by decide +kernel
theorem dX4_needs_13 : decode cX4_needs 13 = .ok (.iload 5, 2) := by decide +kernel
theorem dX4_needs_15 : decode cX4_needs 15 = .ok (.iload_n 1, 1) := by decide +kernel
theorem dX4_needs_16 : decode cX4_needs 16 = .ok (.iload_n 2, 1) := by decide +kernel
theorem dX4_needs_17 : decode cX4_needs 17 = .ok (.iload_n 3, 1) := by decide +kernel
theorem dX4_needs_18 : decode cX4_needs 18 = .ok (.iload 4, 2) := by decide +kernel
theorem dX4_needs_20 : decode cX4_needs 20 = .ok (.invokevirtual 105, 3) := by decide +kernel
theorem dX4_needs_23 : decode cX4_needs 23 = .ok (.ifCond .ne 6, 3) := by decide +kernel
theorem dX4_needs_26 : decode cX4_needs 26 = .ok (.bipush (-102), 2) := by decide +kernel
theorem dX4_needs_28 : decode cX4_needs 28 = .ok (.ireturn, 1) := by decide +kernel
theorem dX4_needs_29 : decode cX4_needs 29 = .ok (.aload_n 0, 1) := by decide +kernel
theorem dX4_needs_30 : decode cX4_needs 30 = .ok (.getfield 26, 3) := by decide +kernel
theorem dX4_needs_33 : decode cX4_needs 33 = .ok (.iload 5, 2) := by decide +kernel
theorem dX4_needs_35 : decode cX4_needs 35 = .ok (.invokevirtual 112, 3) := by decide +kernel
theorem dX4_needs_38 : decode cX4_needs 38 = .ok (.iconst 0, 1) := by decide +kernel
theorem dX4_needs_39 : decode cX4_needs 39 = .ok (.istore 6, 2) := by decide +kernel
theorem dX4_needs_41 : decode cX4_needs 41 = .ok (.iload 6, 2) := by decide +kernel
theorem dX4_needs_43 : decode cX4_needs 43 = .ok (.aload_n 0, 1) := by decide +kernel
theorem dX4_needs_44 : decode cX4_needs 44 = .ok (.getfield 19, 3) := by decide +kernel
theorem dX4_needs_47 : decode cX4_needs 47 = .ok (.getfield 101, 3) := by decide +kernel
theorem dX4_needs_50 : decode cX4_needs 50 = .ok (.iload 5, 2) := by decide +kernel
theorem dX4_needs_52 : decode cX4_needs 52 = .ok (.aaload, 1) := by decide +kernel
theorem dX4_needs_53 : decode cX4_needs 53 = .ok (.iconst 2, 1) := by decide +kernel
theorem dX4_needs_54 : decode cX4_needs 54 = .ok (.iaload, 1) := by decide +kernel
theorem dX4_needs_55 : decode cX4_needs 55 = .ok (.if_icmp .ge 23, 3) := by decide +kernel
theorem dX4_needs_58 : decode cX4_needs 58 = .ok (.aload_n 0, 1) := by decide +kernel
theorem dX4_needs_59 : decode cX4_needs 59 = .ok (.getfield 26, 3) := by decide +kernel
theorem dX4_needs_62 : decode cX4_needs 62 = .ok (.iload_n 1, 1) := by decide +kernel
theorem dX4_needs_63 : decode cX4_needs 63 = .ok (.iload_n 2, 1) := by decide +kernel
theorem dX4_needs_64 : decode cX4_needs 64 = .ok (.iload_n 3, 1) := by decide +kernel
theorem dX4_needs_65 : decode cX4_needs 65 = .ok (.iload 4, 2) := by decide +kernel
theorem dX4_needs_67 : decode cX4_needs 67 = .ok (.iload 6, 2) := by decide +kernel
theorem dX4_needs_69 : decode cX4_needs 69 = .ok (.invokevirtual 116, 3) := by decide +kernel
theorem dX4_needs_72 : decode cX4_needs 72 = .ok (.iinc 6 1, 3) := by decide +kernel
theorem dX4_needs_75 : decode cX4_needs 75 = .ok (.goto (-34), 3) := by decide +kernel
theorem dX4_needs_78 : decode cX4_needs 78 = .ok (.aload_n 0, 1) := by decide +kernel
theorem dX4_needs_79 : decode cX4_needs 79 = .ok (.getfield 26, 3) := by decide +kernel
theorem dX4_needs_82 : decode cX4_needs 82 = .ok (.aload_n 0, 1) := by decide +kernel
theorem dX4_needs_83 : decode cX4_needs 83 = .ok (.getfield 19, 3) := by decide +kernel
theorem dX4_needs_86 : decode cX4_needs 86 = .ok (.invokevirtual 132, 3) := by decide +kernel
theorem dX4_needs_89 : decode cX4_needs 89 = .ok (.aload_n 0, 1) := by decide +kernel
theorem dX4_needs_90 : decode cX4_needs 90 = .ok (.getfield 26, 3) := by decide +kernel
theorem dX4_needs_93 : decode cX4_needs 93 = .ok (.invokevirtual 136, 3) := by decide +kernel
theorem dX4_needs_96 : decode cX4_needs 96 = .ok (.ireturn, 1) := by decide +kernel
theorem dX4_counts_0 : decode cX4_counts 0 = .ok (.aload_n 0, 1) := by decide +kernel
theorem dX4_counts_1 : decode cX4_counts 1 = .ok (.getfield 19, 3) := by decide +kernel
theorem dX4_counts_4 : decode cX4_counts 4 = .ok (.getfield 90, 3) := by decide +kernel
theorem dX4_counts_7 : decode cX4_counts 7 = .ok (.istore 6, 2) := by decide +kernel
theorem dX4_counts_9 : decode cX4_counts 9 = .ok (.aload_n 0, 1) := by decide +kernel
theorem dX4_counts_10 : decode cX4_counts 10 = .ok (.getfield 12, 3) := by decide +kernel
theorem dX4_counts_13 : decode cX4_counts 13 = .ok (.iload_n 1, 1) := by decide +kernel
theorem dX4_counts_14 : decode cX4_counts 14 = .ok (.iload_n 2, 1) := by decide +kernel
theorem dX4_counts_15 : decode cX4_counts 15 = .ok (.invokevirtual 69, 3) := by decide +kernel
theorem dX4_counts_18 : decode cX4_counts 18 = .ok (.ifCond .ne 6, 3) := by decide +kernel
theorem dX4_counts_21 : decode cX4_counts 21 = .ok (.bipush (-101), 2) := by decide +kernel
theorem dX4_counts_23 : decode cX4_counts 23 = .ok (.ireturn, 1) := by decide +kernel
theorem dX4_counts_24 : decode cX4_counts 24 = .ok (.aload_n 0, 1) := by decide +kernel
theorem dX4_counts_25 : decode cX4_counts 25 = .ok (.getfield 19, 3) := by decide +kernel
theorem dX4_counts_28 : decode cX4_counts 28 = .ok (.iload 6, 2) := by decide +kernel
theorem dX4_counts_30 : decode cX4_counts 30 = .ok (.iload_n 3, 1) := by decide +kernel
theorem dX4_counts_31 : decode cX4_counts 31 = .ok (.iload 4, 2) := by decide +kernel
theorem dX4_counts_33 : decode cX4_counts 33 = .ok (.iconst 1, 1) := by decide +kernel
theorem dX4_counts_34 : decode cX4_counts 34 = .ok (.iconst 1, 1) := by decide +kernel
theorem dX4_counts_35 : decode cX4_counts 35 = .ok (.invokevirtual 105, 3) := by decide +kernel
theorem dX4_counts_38 : decode cX4_counts 38 = .ok (.ifCond .eq 17, 3) := by decide +kernel
theorem dX4_counts_41 : decode cX4_counts 41 = .ok (.aload_n 0, 1) := by decide +kernel
theorem dX4_counts_42 : decode cX4_counts 42 = .ok (.getfield 19, 3) := by decide +kernel
theorem dX4_counts_45 : decode cX4_counts 45 = .ok (.iload 6, 2) := by decide +kernel
theorem dX4_counts_47 : decode cX4_counts 47 = .ok (.iload 5, 2) := by decide +kernel
theorem dX4_counts_49 : decode cX4_counts 49 = .ok (.invokevirtual 109, 3) := by decide +kernel
theorem dX4_counts_52 : decode cX4_counts 52 = .ok (.ifCond .ne 6, 3) := by decide +kernel
theorem dX4_counts_55 : decode cX4_counts 55 = .ok (.bipush (-102), 2) := by decide +kernel
theorem dX4_counts_57 : decode cX4_counts 57 = .ok (.ireturn, 1) := by decide +kernel
theorem dX4_counts_58 : decode cX4_counts 58 = .ok (.aload_n 0, 1) := by decide +kernel
theorem dX4_counts_59 : decode cX4_counts 59 = .ok (.getfield 26, 3) := by decide +kernel
theorem dX4_counts_62 : decode cX4_counts 62 = .ok (.iload 6, 2) := by decide +kernel
theorem dX4_counts_64 : decode cX4_counts 64 = .ok (.invokevirtual 112, 3) := by decide +kernel
theorem dX4_counts_67 : decode cX4_counts 67 = .ok (.aload_n 0, 1) := by decide +kernel
theorem dX4_counts_68 : decode cX4_counts 68 = .ok (.getfield 26, 3) := by decide +kernel
theorem dX4_counts_71 : decode cX4_counts 71 = .ok (.iload_n 3, 1) := by decide +kernel
theorem dX4_counts_72 : decode cX4_counts 72 = .ok (.iload 4, 2) := by decide +kernel
theorem dX4_counts_74 : decode cX4_counts 74 = .ok (.iconst 1, 1) := by decide +kernel
theorem dX4_counts_75 : decode cX4_counts 75 = .ok (.iconst 1, 1) := by decide +kernel
theorem dX4_counts_76 : decode cX4_counts 76 = .ok (.iload 5, 2) := by decide +kernel
theorem dX4_counts_78 : decode cX4_counts 78 = .ok (.invokevirtual 116, 3) := by decide +kernel
theorem dX4_counts_81 : decode cX4_counts 81 = .ok (.aload_n 0, 1) := by decide +kernel
theorem dX4_counts_82 : decode cX4_counts 82 = .ok (.getfield 26, 3) := by decide +kernel
theorem dX4_counts_85 : decode cX4_counts 85 = .ok (.aload_n 0, 1) := by decide +kernel
theorem dX4_counts_86 : decode cX4_counts 86 = .ok (.getfield 19, 3) := by decide +kernel
theorem dX4_counts_89 : decode cX4_counts 89 = .ok (.invokevirtual 132, 3) := by decide +kernel
theorem dX4_counts_92 : decode cX4_counts 92 = .ok (.aload_n 0, 1) := by decide +kernel
theorem dX4_counts_93 : decode cX4_counts 93 = .ok (.getfield 26, 3) := by decide +kernel
theorem dX4_counts_96 : decode cX4_counts 96 = .ok (.iconst 0, 1) := by decide +kernel
theorem dX4_counts_97 : decode cX4_counts 97 = .ok (.iload_n 1, 1) := by decide +kernel
theorem dX4_counts_98 : decode cX4_counts 98 = .ok (.iload_n 2, 1) := by decide +kernel
theorem dX4_counts_99 : decode cX4_counts 99 = .ok (.iconst 0, 1) := by decide +kernel
theorem dX4_counts_100 : decode cX4_counts 100 = .ok (.invokevirtual 140, 3) := by decide +kernel
theorem dX4_counts_103 : decode cX4_counts 103 = .ok (.ifCond .eq 7, 3) := by decide +kernel
theorem dX4_counts_106 : decode cX4_counts 106 = .ok (.iconst 1, 1) := by decide +kernel
theorem dX4_counts_107 : decode cX4_counts 107 = .ok (.goto 4, 3) := by decide +kernel
theorem dX4_counts_110 : decode cX4_counts 110 = .ok (.iconst 0, 1) := by decide +kernel
theorem dX4_counts_111 : decode cX4_counts 111 = .ok (.ireturn, 1) := by decide +kernel
theorem dX4_bound_0 : decode cX4_bound 0 = .ok (.aload_n 0, 1) := by decide +kernel
theorem dX4_bound_1 : decode cX4_bound 1 = .ok (.getfield 19, 3) := by decide +kernel
theorem dX4_bound_4 : decode cX4_bound 4 = .ok (.getfield 90, 3) := by decide +kernel
theorem dX4_bound_7 : decode cX4_bound 7 = .ok (.istore_n 3, 1) := by decide +kernel
theorem dX4_bound_8 : decode cX4_bound 8 = .ok (.aload_n 0, 1) := by decide +kernel
theorem dX4_bound_9 : decode cX4_bound 9 = .ok (.getfield 19, 3) := by decide +kernel
theorem dX4_bound_12 : decode cX4_bound 12 = .ok (.iload_n 3, 1) := by decide +kernel
theorem dX4_bound_13 : decode cX4_bound 13 = .ok (.iload_n 1, 1) := by decide +kernel
theorem dX4_bound_14 : decode cX4_bound 14 = .ok (.invokevirtual 109, 3) := by decide +kernel
theorem dX4_bound_17 : decode cX4_bound 17 = .ok (.ifCond .eq 12, 3) := by decide +kernel
theorem dX4_bound_20 : decode cX4_bound 20 = .ok (.iload_n 2, 1) := by decide +kernel
theorem dX4_bound_21 : decode cX4_bound 21 = .ok (.iconst 0, 1) := by decide +kernel
theorem dX4_bound_22 : decode cX4_bound 22 = .ok (.iconst 1, 1) := by decide +kernel
theorem dX4_bound_23 : decode cX4_bound 23 = .ok (.invokestatic 65, 3) := by decide +kernel
theorem dX4_bound_26 : decode cX4_bound 26 = .ok (.ifCond .ne 6, 3) := by decide +kernel
theorem dX4_bound_29 : decode cX4_bound 29 = .ok (.bipush (-102), 2) := by decide +kernel
theorem dX4_bound_31 : decode cX4_bound 31 = .ok (.ireturn, 1) := by decide +kernel
theorem dX4_bound_32 : decode cX4_bound 32 = .ok (.aload_n 0, 1) := by decide +kernel
theorem dX4_bound_33 : decode cX4_bound 33 = .ok (.getfield 19, 3) := by decide +kernel
theorem dX4_bound_36 : decode cX4_bound 36 = .ok (.getfield 101, 3) := by decide +kernel
theorem dX4_bound_39 : decode cX4_bound 39 = .ok (.iload_n 3, 1) := by decide +kernel
theorem dX4_bound_40 : decode cX4_bound 40 = .ok (.aaload, 1) := by decide +kernel
theorem dX4_bound_41 : decode cX4_bound 41 = .ok (.iconst 0, 1) := by decide +kernel
theorem dX4_bound_42 : decode cX4_bound 42 = .ok (.iaload, 1) := by decide +kernel
theorem dX4_bound_43 : decode cX4_bound 43 = .ok (.istore 4, 2) := by decide +kernel
theorem dX4_bound_45 : decode cX4_bound 45 = .ok (.aload_n 0, 1) := by decide +kernel
theorem dX4_bound_46 : decode cX4_bound 46 = .ok (.getfield 19, 3) := by decide +kernel
theorem dX4_bound_49 : decode cX4_bound 49 = .ok (.getfield 101, 3) := by decide +kernel
theorem dX4_bound_52 : decode cX4_bound 52 = .ok (.iload_n 3, 1) := by decide +kernel
theorem dX4_bound_53 : decode cX4_bound 53 = .ok (.aaload, 1) := by decide +kernel
theorem dX4_bound_54 : decode cX4_bound 54 = .ok (.iconst 1, 1) := by decide +kernel
theorem dX4_bound_55 : decode cX4_bound 55 = .ok (.iaload, 1) := by decide +kernel
theorem dX4_bound_56 : decode cX4_bound 56 = .ok (.istore 5, 2) := by decide +kernel
theorem dX4_bound_58 : decode cX4_bound 58 = .ok (.aload_n 0, 1) := by decide +kernel
theorem dX4_bound_59 : decode cX4_bound 59 = .ok (.getfield 26, 3) := by decide +kernel
theorem dX4_bound_62 : decode cX4_bound 62 = .ok (.iload_n 3, 1) := by decide +kernel
theorem dX4_bound_63 : decode cX4_bound 63 = .ok (.invokevirtual 112, 3) := by decide +kernel
theorem dX4_bound_66 : decode cX4_bound 66 = .ok (.aload_n 0, 1) := by decide +kernel
theorem dX4_bound_67 : decode cX4_bound 67 = .ok (.getfield 26, 3) := by decide +kernel
theorem dX4_bound_70 : decode cX4_bound 70 = .ok (.iconst 0, 1) := by decide +kernel
theorem dX4_bound_71 : decode cX4_bound 71 = .ok (.iconst 0, 1) := by decide +kernel
theorem dX4_bound_72 : decode cX4_bound 72 = .ok (.iload 4, 2) := by decide +kernel
theorem dX4_bound_74 : decode cX4_bound 74 = .ok (.iload 5, 2) := by decide +kernel
theorem dX4_bound_76 : decode cX4_bound 76 = .ok (.iload_n 1, 1) := by decide +kernel
theorem dX4_bound_77 : decode cX4_bound 77 = .ok (.invokevirtual 116, 3) := by decide +kernel
theorem dX4_bound_80 : decode cX4_bound 80 = .ok (.aload_n 0, 1) := by decide +kernel
theorem dX4_bound_81 : decode cX4_bound 81 = .ok (.getfield 33, 3) := by decide +kernel
theorem dX4_bound_84 : decode cX4_bound 84 = .ok (.aload_n 0, 1) := by decide +kernel
theorem dX4_bound_85 : decode cX4_bound 85 = .ok (.getfield 12, 3) := by decide +kernel
theorem dX4_bound_88 : decode cX4_bound 88 = .ok (.aload_n 0, 1) := by decide +kernel
theorem dX4_bound_89 : decode cX4_bound 89 = .ok (.getfield 19, 3) := by decide +kernel
theorem dX4_bound_92 : decode cX4_bound 92 = .ok (.aload_n 0, 1) := by decide +kernel
theorem dX4_bound_93 : decode cX4_bound 93 = .ok (.getfield 26, 3) := by decide +kernel
theorem dX4_bound_96 : decode cX4_bound 96 = .ok (.invokevirtual 120, 3) := by decide +kernel
theorem dX4_bound_99 : decode cX4_bound 99 = .ok (.iload_n 2, 1) := by decide +kernel
theorem dX4_bound_100 : decode cX4_bound 100 = .ok (.ifCond .ne 18, 3) := by decide +kernel
theorem dX4_bound_103 : decode cX4_bound 103 = .ok (.aload_n 0, 1) := by decide +kernel
theorem dX4_bound_104 : decode cX4_bound 104 = .ok (.getfield 33, 3) := by decide +kernel
theorem dX4_bound_107 : decode cX4_bound 107 = .ok (.iload 4, 2) := by decide +kernel
theorem dX4_bound_109 : decode cX4_bound 109 = .ok (.iload 5, 2) := by decide +kernel
theorem dX4_bound_111 : decode cX4_bound 111 = .ok (.iload_n 1, 1) := by decide +kernel
theorem dX4_bound_112 : decode cX4_bound 112 = .ok (.invokevirtual 144, 3) := by decide +kernel
theorem dX4_bound_115 : decode cX4_bound 115 = .ok (.goto 15, 3) := by decide +kernel
theorem dX4_bound_118 : decode cX4_bound 118 = .ok (.aload_n 0, 1) := by decide +kernel
theorem dX4_bound_119 : decode cX4_bound 119 = .ok (.getfield 33, 3) := by decide +kernel
theorem dX4_bound_122 : decode cX4_bound 122 = .ok (.iload 4, 2) := by decide +kernel
theorem dX4_bound_124 : decode cX4_bound 124 = .ok (.iload 5, 2) := by decide +kernel
theorem dX4_bound_126 : decode cX4_bound 126 = .ok (.iload_n 1, 1) := by decide +kernel
theorem dX4_bound_127 : decode cX4_bound 127 = .ok (.invokevirtual 147, 3) := by decide +kernel
theorem dX4_bound_130 : decode cX4_bound 130 = .ok (.ireturn, 1) := by decide +kernel
theorem dX4_count_0 : decode cX4_count 0 = .ok (.iload_n 1, 1) := by decide +kernel
theorem dX4_count_1 : decode cX4_count 1 = .ok (.tableswitch 63 0 3 #[31, 39, 47, 55], 31) := by decide +kernel
theorem dX4_count_32 : decode cX4_count 32 = .ok (.aload_n 0, 1) := by decide +kernel
theorem dX4_count_33 : decode cX4_count 33 = .ok (.getfield 12, 3) := by decide +kernel
theorem dX4_count_36 : decode cX4_count 36 = .ok (.getfield 150, 3) := by decide +kernel
theorem dX4_count_39 : decode cX4_count 39 = .ok (.ireturn, 1) := by decide +kernel
theorem dX4_count_40 : decode cX4_count 40 = .ok (.aload_n 0, 1) := by decide +kernel
theorem dX4_count_41 : decode cX4_count 41 = .ok (.getfield 12, 3) := by decide +kernel
theorem dX4_count_44 : decode cX4_count 44 = .ok (.getfield 153, 3) := by decide +kernel
theorem dX4_count_47 : decode cX4_count 47 = .ok (.ireturn, 1) := by decide +kernel
theorem dX4_count_48 : decode cX4_count 48 = .ok (.aload_n 0, 1) := by decide +kernel
theorem dX4_count_49 : decode cX4_count 49 = .ok (.getfield 12, 3) := by decide +kernel
theorem dX4_count_52 : decode cX4_count 52 = .ok (.invokevirtual 156, 3) := by decide +kernel
theorem dX4_count_55 : decode cX4_count 55 = .ok (.ireturn, 1) := by decide +kernel
theorem dX4_count_56 : decode cX4_count 56 = .ok (.aload_n 0, 1) := by decide +kernel
theorem dX4_count_57 : decode cX4_count 57 = .ok (.getfield 19, 3) := by decide +kernel
theorem dX4_count_60 : decode cX4_count 60 = .ok (.getfield 90, 3) := by decide +kernel
theorem dX4_count_63 : decode cX4_count 63 = .ok (.ireturn, 1) := by decide +kernel
theorem dX4_count_64 : decode cX4_count 64 = .ok (.bipush (-102), 2) := by decide +kernel
theorem dX4_count_66 : decode cX4_count 66 = .ok (.ireturn, 1) := by decide +kernel
theorem dX4_digest_0 : decode cX4_digest 0 = .ok (.ldc2_w 159, 3) := by decide +kernel
theorem dX4_digest_3 : decode cX4_digest 3 = .ok (.aload_n 0, 1) := by decide +kernel
theorem dX4_digest_4 : decode cX4_digest 4 = .ok (.getfield 12, 3) := by decide +kernel
theorem dX4_digest_7 : decode cX4_digest 7 = .ok (.getfield 150, 3) := by decide +kernel
theorem dX4_digest_10 : decode cX4_digest 10 = .ok (.i2l, 1) := by decide +kernel
theorem dX4_digest_11 : decode cX4_digest 11 = .ok (.invokestatic 161, 3) := by decide +kernel
theorem dX4_digest_14 : decode cX4_digest 14 = .ok (.lstore_n 1, 1) := by decide +kernel
theorem dX4_digest_15 : decode cX4_digest 15 = .ok (.lload_n 1, 1) := by decide +kernel
theorem dX4_digest_16 : decode cX4_digest 16 = .ok (.aload_n 0, 1) := by decide +kernel
theorem dX4_digest_17 : decode cX4_digest 17 = .ok (.getfield 12, 3) := by decide +kernel
theorem dX4_digest_20 : decode cX4_digest 20 = .ok (.getfield 153, 3) := by decide +kernel
theorem dX4_digest_23 : decode cX4_digest 23 = .ok (.i2l, 1) := by decide +kernel
theorem dX4_digest_24 : decode cX4_digest 24 = .ok (.invokestatic 161, 3) := by decide +kernel
theorem dX4_digest_27 : decode cX4_digest 27 = .ok (.lstore_n 1, 1) := by decide +kernel
theorem dX4_digest_28 : decode cX4_digest 28 = .ok (.aload_n 0, 1) := by decide +kernel
theorem dX4_digest_29 : decode cX4_digest 29 = .ok (.lload_n 1, 1) := by decide +kernel
theorem dX4_digest_30 : decode cX4_digest 30 = .ok (.invokevirtual 165, 3) := by decide +kernel
theorem dX4_digest_33 : decode cX4_digest 33 = .ok (.lstore_n 1, 1) := by decide +kernel
theorem dX4_digest_34 : decode cX4_digest 34 = .ok (.aload_n 0, 1) := by decide +kernel
theorem dX4_digest_35 : decode cX4_digest 35 = .ok (.lload_n 1, 1) := by decide +kernel
theorem dX4_digest_36 : decode cX4_digest 36 = .ok (.invokevirtual 169, 3) := by decide +kernel
theorem dX4_digest_39 : decode cX4_digest 39 = .ok (.lstore_n 1, 1) := by decide +kernel
theorem dX4_digest_40 : decode cX4_digest 40 = .ok (.lload_n 1, 1) := by decide +kernel
theorem dX4_digest_41 : decode cX4_digest 41 = .ok (.aload_n 0, 1) := by decide +kernel
theorem dX4_digest_42 : decode cX4_digest 42 = .ok (.getfield 46, 3) := by decide +kernel
theorem dX4_digest_45 : decode cX4_digest 45 = .ok (.bipush 9, 2) := by decide +kernel
theorem dX4_digest_47 : decode cX4_digest 47 = .ok (.invokestatic 172, 3) := by decide +kernel
theorem dX4_digest_50 : decode cX4_digest 50 = .ok (.lstore_n 1, 1) := by decide +kernel
theorem dX4_digest_51 : decode cX4_digest 51 = .ok (.lload_n 1, 1) := by decide +kernel
theorem dX4_digest_52 : decode cX4_digest 52 = .ok (.aload_n 0, 1) := by decide +kernel
theorem dX4_digest_53 : decode cX4_digest 53 = .ok (.getfield 49, 3) := by decide +kernel
theorem dX4_digest_56 : decode cX4_digest 56 = .ok (.bipush 17, 2) := by decide +kernel
theorem dX4_digest_58 : decode cX4_digest 58 = .ok (.invokestatic 172, 3) := by decide +kernel
theorem dX4_digest_61 : decode cX4_digest 61 = .ok (.lstore_n 1, 1) := by decide +kernel
theorem dX4_digest_62 : decode cX4_digest 62 = .ok (.aload_n 0, 1) := by decide +kernel
theorem dX4_digest_63 : decode cX4_digest 63 = .ok (.lload_n 1, 1) := by decide +kernel
theorem dX4_digest_64 : decode cX4_digest 64 = .ok (.invokevirtual 176, 3) := by decide +kernel
theorem dX4_digest_67 : decode cX4_digest 67 = .ok (.lreturn, 1) := by decide +kernel
theorem dX4_addStep_0 : decode cX4_addStep 0 = .ok (.aload_n 0, 1) := by decide +kernel
theorem dX4_addStep_1 : decode cX4_addStep 1 = .ok (.getfield 19, 3) := by decide +kernel
theorem dX4_addStep_4 : decode cX4_addStep 4 = .ok (.iload_n 1, 1) := by decide +kernel
theorem dX4_addStep_5 : decode cX4_addStep 5 = .ok (.invokevirtual 179, 3) := by decide +kernel
theorem dX4_addStep_8 : decode cX4_addStep 8 = .ok (.ifCond .ne 6, 3) := by decide +kernel
theorem dX4_addStep_11 : decode cX4_addStep 11 = .ok (.bipush (-103), 2) := by decide +kernel
theorem dX4_addStep_13 : decode cX4_addStep 13 = .ok (.ireturn, 1) := by decide +kernel
theorem dX4_addStep_14 : decode cX4_addStep 14 = .ok (.aload_n 0, 1) := by decide +kernel
theorem dX4_addStep_15 : decode cX4_addStep 15 = .ok (.getfield 19, 3) := by decide +kernel
theorem dX4_addStep_18 : decode cX4_addStep 18 = .ok (.getfield 90, 3) := by decide +kernel
theorem dX4_addStep_21 : decode cX4_addStep 21 = .ok (.bipush 10, 2) := by decide +kernel
theorem dX4_addStep_23 : decode cX4_addStep 23 = .ok (.if_icmp .lt 6, 3) := by decide +kernel
theorem dX4_addStep_26 : decode cX4_addStep 26 = .ok (.bipush (-104), 2) := by decide +kernel
theorem dX4_addStep_28 : decode cX4_addStep 28 = .ok (.ireturn, 1) := by decide +kernel
theorem dX4_addStep_29 : decode cX4_addStep 29 = .ok (.aload_n 0, 1) := by decide +kernel
theorem dX4_addStep_30 : decode cX4_addStep 30 = .ok (.getfield 19, 3) := by decide +kernel
theorem dX4_addStep_33 : decode cX4_addStep 33 = .ok (.iload_n 1, 1) := by decide +kernel
theorem dX4_addStep_34 : decode cX4_addStep 34 = .ok (.aload_n 2, 1) := by decide +kernel
theorem dX4_addStep_35 : decode cX4_addStep 35 = .ok (.invokevirtual 182, 3) := by decide +kernel
theorem dX4_addStep_38 : decode cX4_addStep 38 = .ok (.aload_n 0, 1) := by decide +kernel
theorem dX4_addStep_39 : decode cX4_addStep 39 = .ok (.getfield 19, 3) := by decide +kernel
theorem dX4_addStep_42 : decode cX4_addStep 42 = .ok (.getfield 90, 3) := by decide +kernel
theorem dX4_addStep_45 : decode cX4_addStep 45 = .ok (.ireturn, 1) := by decide +kernel
theorem dX4_mixedCells_0 : decode cX4_mixedCells 0 = .ok (.lload_n 1, 1) := by decide +kernel
theorem dX4_mixedCells_1 : decode cX4_mixedCells 1 = .ok (.lstore_n 3, 1) := by decide +kernel
theorem dX4_mixedCells_2 : decode cX4_mixedCells 2 = .ok (.iconst 0, 1) := by decide +kernel
theorem dX4_mixedCells_3 : decode cX4_mixedCells 3 = .ok (.istore 5, 2) := by decide +kernel
theorem dX4_mixedCells_5 : decode cX4_mixedCells 5 = .ok (.iload 5, 2) := by decide +kernel
theorem dX4_mixedCells_7 : decode cX4_mixedCells 7 = .ok (.aload_n 0, 1) := by decide +kernel
theorem dX4_mixedCells_8 : decode cX4_mixedCells 8 = .ok (.getfield 12, 3) := by decide +kernel
theorem dX4_mixedCells_11 : decode cX4_mixedCells 11 = .ok (.getfield 153, 3) := by decide +kernel
theorem dX4_mixedCells_14 : decode cX4_mixedCells 14 = .ok (.if_icmp .ge 76, 3) := by decide +kernel
theorem dX4_mixedCells_17 : decode cX4_mixedCells 17 = .ok (.iconst 0, 1) := by decide +kernel
theorem dX4_mixedCells_18 : decode cX4_mixedCells 18 = .ok (.istore 6, 2) := by decide +kernel
theorem dX4_mixedCells_20 : decode cX4_mixedCells 20 = .ok (.iload 6, 2) := by decide +kernel
theorem dX4_mixedCells_22 : decode cX4_mixedCells 22 = .ok (.aload_n 0, 1) := by decide +kernel
theorem dX4_mixedCells_23 : decode cX4_mixedCells 23 = .ok (.getfield 12, 3) := by decide +kernel
theorem dX4_mixedCells_26 : decode cX4_mixedCells 26 = .ok (.getfield 150, 3) := by decide +kernel
theorem dX4_mixedCells_29 : decode cX4_mixedCells 29 = .ok (.if_icmp .ge 55, 3) := by decide +kernel
theorem dX4_mixedCells_32 : decode cX4_mixedCells 32 = .ok (.iload 6, 2) := by decide +kernel
theorem dX4_mixedCells_34 : decode cX4_mixedCells 34 = .ok (.iload 5, 2) := by decide +kernel
theorem dX4_mixedCells_36 : decode cX4_mixedCells 36 = .ok (.invokestatic 73, 3) := by decide +kernel
theorem dX4_mixedCells_39 : decode cX4_mixedCells 39 = .ok (.istore 7, 2) := by decide +kernel
theorem dX4_mixedCells_41 : decode cX4_mixedCells 41 = .ok (.lload_n 3, 1) := by decide +kernel
theorem dX4_mixedCells_42 : decode cX4_mixedCells 42 = .ok (.aload_n 0, 1) := by decide +kernel
theorem dX4_mixedCells_43 : decode cX4_mixedCells 43 = .ok (.getfield 12, 3) := by decide +kernel
theorem dX4_mixedCells_46 : decode cX4_mixedCells 46 = .ok (.getfield 76, 3) := by decide +kernel
theorem dX4_mixedCells_49 : decode cX4_mixedCells 49 = .ok (.iload 7, 2) := by decide +kernel
theorem dX4_mixedCells_51 : decode cX4_mixedCells 51 = .ok (.iaload, 1) := by decide +kernel
theorem dX4_mixedCells_52 : decode cX4_mixedCells 52 = .ok (.aload_n 0, 1) := by decide +kernel
theorem dX4_mixedCells_53 : decode cX4_mixedCells 53 = .ok (.getfield 12, 3) := by decide +kernel
theorem dX4_mixedCells_56 : decode cX4_mixedCells 56 = .ok (.getfield 79, 3) := by decide +kernel
theorem dX4_mixedCells_59 : decode cX4_mixedCells 59 = .ok (.iload 7, 2) := by decide +kernel
theorem dX4_mixedCells_61 : decode cX4_mixedCells 61 = .ok (.baload, 1) := by decide +kernel
theorem dX4_mixedCells_62 : decode cX4_mixedCells 62 = .ok (.ifCond .eq 9, 3) := by decide +kernel
theorem dX4_mixedCells_65 : decode cX4_mixedCells 65 = .ok (.sipush 5000, 3) := by decide +kernel
theorem dX4_mixedCells_68 : decode cX4_mixedCells 68 = .ok (.goto 4, 3) := by decide +kernel
theorem dX4_mixedCells_71 : decode cX4_mixedCells 71 = .ok (.iconst 0, 1) := by decide +kernel
theorem dX4_mixedCells_72 : decode cX4_mixedCells 72 = .ok (.iadd, 1) := by decide +kernel
theorem dX4_mixedCells_73 : decode cX4_mixedCells 73 = .ok (.i2l, 1) := by decide +kernel
theorem dX4_mixedCells_74 : decode cX4_mixedCells 74 = .ok (.invokestatic 161, 3) := by decide +kernel
theorem dX4_mixedCells_77 : decode cX4_mixedCells 77 = .ok (.lstore_n 3, 1) := by decide +kernel
theorem dX4_mixedCells_78 : decode cX4_mixedCells 78 = .ok (.iinc 6 1, 3) := by decide +kernel
theorem dX4_mixedCells_81 : decode cX4_mixedCells 81 = .ok (.goto (-61), 3) := by decide +kernel
theorem dX4_mixedCells_84 : decode cX4_mixedCells 84 = .ok (.iinc 5 1, 3) := by decide +kernel
theorem dX4_mixedCells_87 : decode cX4_mixedCells 87 = .ok (.goto (-82), 3) := by decide +kernel
theorem dX4_mixedCells_90 : decode cX4_mixedCells 90 = .ok (.lload_n 3, 1) := by decide +kernel
theorem dX4_mixedCells_91 : decode cX4_mixedCells 91 = .ok (.lreturn, 1) := by decide +kernel
theorem dX4_mixedSteps_0 : decode cX4_mixedSteps 0 = .ok (.lload_n 1, 1) := by decide +kernel
theorem dX4_mixedSteps_1 : decode cX4_mixedSteps 1 = .ok (.lstore_n 3, 1) := by decide +kernel
theorem dX4_mixedSteps_2 : decode cX4_mixedSteps 2 = .ok (.iconst 0, 1) := by decide +kernel
theorem dX4_mixedSteps_3 : decode cX4_mixedSteps 3 = .ok (.istore 5, 2) := by decide +kernel
theorem dX4_mixedSteps_5 : decode cX4_mixedSteps 5 = .ok (.iload 5, 2) := by decide +kernel
theorem dX4_mixedSteps_7 : decode cX4_mixedSteps 7 = .ok (.aload_n 0, 1) := by decide +kernel
theorem dX4_mixedSteps_8 : decode cX4_mixedSteps 8 = .ok (.getfield 19, 3) := by decide +kernel
theorem dX4_mixedSteps_11 : decode cX4_mixedSteps 11 = .ok (.getfield 90, 3) := by decide +kernel
theorem dX4_mixedSteps_14 : decode cX4_mixedSteps 14 = .ok (.if_icmp .ge 50, 3) := by decide +kernel
theorem dX4_mixedSteps_17 : decode cX4_mixedSteps 17 = .ok (.aload_n 0, 1) := by decide +kernel
theorem dX4_mixedSteps_18 : decode cX4_mixedSteps 18 = .ok (.getfield 19, 3) := by decide +kernel
theorem dX4_mixedSteps_21 : decode cX4_mixedSteps 21 = .ok (.getfield 94, 3) := by decide +kernel
theorem dX4_mixedSteps_24 : decode cX4_mixedSteps 24 = .ok (.iload 5, 2) := by decide +kernel
theorem dX4_mixedSteps_26 : decode cX4_mixedSteps 26 = .ok (.iaload, 1) := by decide +kernel
theorem dX4_mixedSteps_27 : decode cX4_mixedSteps 27 = .ok (.istore 6, 2) := by decide +kernel
theorem dX4_mixedSteps_29 : decode cX4_mixedSteps 29 = .ok (.lload_n 3, 1) := by decide +kernel
theorem dX4_mixedSteps_30 : decode cX4_mixedSteps 30 = .ok (.iload 6, 2) := by decide +kernel
theorem dX4_mixedSteps_32 : decode cX4_mixedSteps 32 = .ok (.i2l, 1) := by decide +kernel
theorem dX4_mixedSteps_33 : decode cX4_mixedSteps 33 = .ok (.invokestatic 161, 3) := by decide +kernel
theorem dX4_mixedSteps_36 : decode cX4_mixedSteps 36 = .ok (.lstore_n 3, 1) := by decide +kernel
theorem dX4_mixedSteps_37 : decode cX4_mixedSteps 37 = .ok (.lload_n 3, 1) := by decide +kernel
theorem dX4_mixedSteps_38 : decode cX4_mixedSteps 38 = .ok (.aload_n 0, 1) := by decide +kernel
theorem dX4_mixedSteps_39 : decode cX4_mixedSteps 39 = .ok (.getfield 19, 3) := by decide +kernel
theorem dX4_mixedSteps_42 : decode cX4_mixedSteps 42 = .ok (.getfield 186, 3) := by decide +kernel
theorem dX4_mixedSteps_45 : decode cX4_mixedSteps 45 = .ok (.iload 5, 2) := by decide +kernel
theorem dX4_mixedSteps_47 : decode cX4_mixedSteps 47 = .ok (.aaload, 1) := by decide +kernel
theorem dX4_mixedSteps_48 : decode cX4_mixedSteps 48 = .ok (.getstatic 189, 3) := by decide +kernel
theorem dX4_mixedSteps_51 : decode cX4_mixedSteps 51 = .ok (.iload 6, 2) := by decide +kernel
theorem dX4_mixedSteps_53 : decode cX4_mixedSteps 53 = .ok (.iaload, 1) := by decide +kernel
theorem dX4_mixedSteps_54 : decode cX4_mixedSteps 54 = .ok (.invokestatic 172, 3) := by decide +kernel
theorem dX4_mixedSteps_57 : decode cX4_mixedSteps 57 = .ok (.lstore_n 3, 1) := by decide +kernel
theorem dX4_mixedSteps_58 : decode cX4_mixedSteps 58 = .ok (.iinc 5 1, 3) := by decide +kernel
theorem dX4_mixedSteps_61 : decode cX4_mixedSteps 61 = .ok (.goto (-56), 3) := by decide +kernel
theorem dX4_mixedSteps_64 : decode cX4_mixedSteps 64 = .ok (.lload_n 3, 1) := by decide +kernel
theorem dX4_mixedSteps_65 : decode cX4_mixedSteps 65 = .ok (.lreturn, 1) := by decide +kernel
theorem dX4_mixedPicture_0 : decode cX4_mixedPicture 0 = .ok (.aload_n 0, 1) := by decide +kernel
theorem dX4_mixedPicture_1 : decode cX4_mixedPicture 1 = .ok (.getfield 19, 3) := by decide +kernel
theorem dX4_mixedPicture_4 : decode cX4_mixedPicture 4 = .ok (.getfield 101, 3) := by decide +kernel
theorem dX4_mixedPicture_7 : decode cX4_mixedPicture 7 = .ok (.aload_n 0, 1) := by decide +kernel
theorem dX4_mixedPicture_8 : decode cX4_mixedPicture 8 = .ok (.getfield 19, 3) := by decide +kernel
theorem dX4_mixedPicture_11 : decode cX4_mixedPicture 11 = .ok (.getfield 90, 3) := by decide +kernel
theorem dX4_mixedPicture_14 : decode cX4_mixedPicture 14 = .ok (.aaload, 1) := by decide +kernel
theorem dX4_mixedPicture_15 : decode cX4_mixedPicture 15 = .ok (.astore_n 3, 1) := by decide +kernel
theorem dX4_mixedPicture_16 : decode cX4_mixedPicture 16 = .ok (.aload_n 0, 1) := by decide +kernel
theorem dX4_mixedPicture_17 : decode cX4_mixedPicture 17 = .ok (.getfield 26, 3) := by decide +kernel
theorem dX4_mixedPicture_20 : decode cX4_mixedPicture 20 = .ok (.aload_n 0, 1) := by decide +kernel
theorem dX4_mixedPicture_21 : decode cX4_mixedPicture 21 = .ok (.getfield 19, 3) := by decide +kernel
theorem dX4_mixedPicture_24 : decode cX4_mixedPicture 24 = .ok (.getfield 90, 3) := by decide +kernel
theorem dX4_mixedPicture_27 : decode cX4_mixedPicture 27 = .ok (.invokevirtual 112, 3) := by decide +kernel
theorem dX4_mixedPicture_30 : decode cX4_mixedPicture 30 = .ok (.iconst 0, 1) := by decide +kernel
theorem dX4_mixedPicture_31 : decode cX4_mixedPicture 31 = .ok (.istore 4, 2) := by decide +kernel
theorem dX4_mixedPicture_33 : decode cX4_mixedPicture 33 = .ok (.iload 4, 2) := by decide +kernel
theorem dX4_mixedPicture_35 : decode cX4_mixedPicture 35 = .ok (.aload_n 3, 1) := by decide +kernel
theorem dX4_mixedPicture_36 : decode cX4_mixedPicture 36 = .ok (.iconst 2, 1) := by decide +kernel
theorem dX4_mixedPicture_37 : decode cX4_mixedPicture 37 = .ok (.iaload, 1) := by decide +kernel
theorem dX4_mixedPicture_38 : decode cX4_mixedPicture 38 = .ok (.if_icmp .ge 26, 3) := by decide +kernel
theorem dX4_mixedPicture_41 : decode cX4_mixedPicture 41 = .ok (.aload_n 0, 1) := by decide +kernel
theorem dX4_mixedPicture_42 : decode cX4_mixedPicture 42 = .ok (.getfield 26, 3) := by decide +kernel
theorem dX4_mixedPicture_45 : decode cX4_mixedPicture 45 = .ok (.iconst 0, 1) := by decide +kernel
theorem dX4_mixedPicture_46 : decode cX4_mixedPicture 46 = .ok (.iconst 0, 1) := by decide +kernel
theorem dX4_mixedPicture_47 : decode cX4_mixedPicture 47 = .ok (.aload_n 3, 1) := by decide +kernel
theorem dX4_mixedPicture_48 : decode cX4_mixedPicture 48 = .ok (.iconst 0, 1) := by decide +kernel
theorem dX4_mixedPicture_49 : decode cX4_mixedPicture 49 = .ok (.iaload, 1) := by decide +kernel
theorem dX4_mixedPicture_50 : decode cX4_mixedPicture 50 = .ok (.aload_n 3, 1) := by decide +kernel
theorem dX4_mixedPicture_51 : decode cX4_mixedPicture 51 = .ok (.iconst 1, 1) := by decide +kernel
theorem dX4_mixedPicture_52 : decode cX4_mixedPicture 52 = .ok (.iaload, 1) := by decide +kernel
theorem dX4_mixedPicture_53 : decode cX4_mixedPicture 53 = .ok (.iload 4, 2) := by decide +kernel
theorem dX4_mixedPicture_55 : decode cX4_mixedPicture 55 = .ok (.invokevirtual 116, 3) := by decide +kernel
theorem dX4_mixedPicture_58 : decode cX4_mixedPicture 58 = .ok (.iinc 4 1, 3) := by decide +kernel
theorem dX4_mixedPicture_61 : decode cX4_mixedPicture 61 = .ok (.goto (-28), 3) := by decide +kernel
theorem dX4_mixedPicture_64 : decode cX4_mixedPicture 64 = .ok (.aload_n 0, 1) := by decide +kernel
theorem dX4_mixedPicture_65 : decode cX4_mixedPicture 65 = .ok (.getfield 33, 3) := by decide +kernel
theorem dX4_mixedPicture_68 : decode cX4_mixedPicture 68 = .ok (.aload_n 0, 1) := by decide +kernel
theorem dX4_mixedPicture_69 : decode cX4_mixedPicture 69 = .ok (.getfield 12, 3) := by decide +kernel
theorem dX4_mixedPicture_72 : decode cX4_mixedPicture 72 = .ok (.aload_n 0, 1) := by decide +kernel
theorem dX4_mixedPicture_73 : decode cX4_mixedPicture 73 = .ok (.getfield 19, 3) := by decide +kernel
theorem dX4_mixedPicture_76 : decode cX4_mixedPicture 76 = .ok (.aload_n 0, 1) := by decide +kernel
theorem dX4_mixedPicture_77 : decode cX4_mixedPicture 77 = .ok (.getfield 26, 3) := by decide +kernel
theorem dX4_mixedPicture_80 : decode cX4_mixedPicture 80 = .ok (.invokevirtual 120, 3) := by decide +kernel
theorem dX4_mixedPicture_83 : decode cX4_mixedPicture 83 = .ok (.lload_n 1, 1) := by decide +kernel
theorem dX4_mixedPicture_84 : decode cX4_mixedPicture 84 = .ok (.lstore 4, 2) := by decide +kernel
theorem dX4_mixedPicture_86 : decode cX4_mixedPicture 86 = .ok (.iconst 0, 1) := by decide +kernel
theorem dX4_mixedPicture_87 : decode cX4_mixedPicture 87 = .ok (.istore 6, 2) := by decide +kernel
theorem dX4_mixedPicture_89 : decode cX4_mixedPicture 89 = .ok (.iload 6, 2) := by decide +kernel
theorem dX4_mixedPicture_91 : decode cX4_mixedPicture 91 = .ok (.aload_n 3, 1) := by decide +kernel
theorem dX4_mixedPicture_92 : decode cX4_mixedPicture 92 = .ok (.iconst 1, 1) := by decide +kernel
theorem dX4_mixedPicture_93 : decode cX4_mixedPicture 93 = .ok (.iaload, 1) := by decide +kernel
theorem dX4_mixedPicture_94 : decode cX4_mixedPicture 94 = .ok (.if_icmp .ge 64, 3) := by decide +kernel
theorem dX4_mixedPicture_97 : decode cX4_mixedPicture 97 = .ok (.iconst 0, 1) := by decide +kernel
theorem dX4_mixedPicture_98 : decode cX4_mixedPicture 98 = .ok (.istore 7, 2) := by decide +kernel
theorem dX4_mixedPicture_100 : decode cX4_mixedPicture 100 = .ok (.iload 7, 2) := by decide +kernel
theorem dX4_mixedPicture_102 : decode cX4_mixedPicture 102 = .ok (.aload_n 3, 1) := by decide +kernel
theorem dX4_mixedPicture_103 : decode cX4_mixedPicture 103 = .ok (.iconst 0, 1) := by decide +kernel
theorem dX4_mixedPicture_104 : decode cX4_mixedPicture 104 = .ok (.iaload, 1) := by decide +kernel
theorem dX4_mixedPicture_105 : decode cX4_mixedPicture 105 = .ok (.if_icmp .ge 47, 3) := by decide +kernel
theorem dX4_mixedPicture_108 : decode cX4_mixedPicture 108 = .ok (.iconst 0, 1) := by decide +kernel
theorem dX4_mixedPicture_109 : decode cX4_mixedPicture 109 = .ok (.istore 8, 2) := by decide +kernel
theorem dX4_mixedPicture_111 : decode cX4_mixedPicture 111 = .ok (.iload 8, 2) := by decide +kernel
theorem dX4_mixedPicture_113 : decode cX4_mixedPicture 113 = .ok (.aload_n 3, 1) := by decide +kernel
theorem dX4_mixedPicture_114 : decode cX4_mixedPicture 114 = .ok (.iconst 2, 1) := by decide +kernel
theorem dX4_mixedPicture_115 : decode cX4_mixedPicture 115 = .ok (.iaload, 1) := by decide +kernel
theorem dX4_mixedPicture_116 : decode cX4_mixedPicture 116 = .ok (.if_icmp .ge 30, 3) := by decide +kernel
theorem dX4_mixedPicture_119 : decode cX4_mixedPicture 119 = .ok (.lload 4, 2) := by decide +kernel
theorem dX4_mixedPicture_121 : decode cX4_mixedPicture 121 = .ok (.aload_n 0, 1) := by decide +kernel
theorem dX4_mixedPicture_122 : decode cX4_mixedPicture 122 = .ok (.getfield 33, 3) := by decide +kernel
theorem dX4_mixedPicture_125 : decode cX4_mixedPicture 125 = .ok (.iload 7, 2) := by decide +kernel
theorem dX4_mixedPicture_127 : decode cX4_mixedPicture 127 = .ok (.iload 6, 2) := by decide +kernel
theorem dX4_mixedPicture_129 : decode cX4_mixedPicture 129 = .ok (.iload 8, 2) := by decide +kernel
theorem dX4_mixedPicture_131 : decode cX4_mixedPicture 131 = .ok (.invokevirtual 124, 3) := by decide +kernel
theorem dX4_mixedPicture_134 : decode cX4_mixedPicture 134 = .ok (.i2l, 1) := by decide +kernel
theorem dX4_mixedPicture_135 : decode cX4_mixedPicture 135 = .ok (.invokestatic 161, 3) := by decide +kernel
theorem dX4_mixedPicture_138 : decode cX4_mixedPicture 138 = .ok (.lstore 4, 2) := by decide +kernel
theorem dX4_mixedPicture_140 : decode cX4_mixedPicture 140 = .ok (.iinc 8 1, 3) := by decide +kernel
theorem dX4_mixedPicture_143 : decode cX4_mixedPicture 143 = .ok (.goto (-32), 3) := by decide +kernel
theorem dX4_mixedPicture_146 : decode cX4_mixedPicture 146 = .ok (.iinc 7 1, 3) := by decide +kernel
theorem dX4_mixedPicture_149 : decode cX4_mixedPicture 149 = .ok (.goto (-49), 3) := by decide +kernel
theorem dX4_mixedPicture_152 : decode cX4_mixedPicture 152 = .ok (.iinc 6 1, 3) := by decide +kernel
theorem dX4_mixedPicture_155 : decode cX4_mixedPicture 155 = .ok (.goto (-66), 3) := by decide +kernel
theorem dX4_mixedPicture_158 : decode cX4_mixedPicture 158 = .ok (.lload 4, 2) := by decide +kernel
theorem dX4_mixedPicture_160 : decode cX4_mixedPicture 160 = .ok (.lreturn, 1) := by decide +kernel
theorem dX4_mixedRow_0 : decode cX4_mixedRow 0 = .ok (.lload_n 0, 1) := by decide +kernel
theorem dX4_mixedRow_1 : decode cX4_mixedRow 1 = .ok (.lstore 4, 2) := by decide +kernel
theorem dX4_mixedRow_3 : decode cX4_mixedRow 3 = .ok (.iconst 0, 1) := by decide +kernel
theorem dX4_mixedRow_4 : decode cX4_mixedRow 4 = .ok (.istore 6, 2) := by decide +kernel
theorem dX4_mixedRow_6 : decode cX4_mixedRow 6 = .ok (.iload 6, 2) := by decide +kernel
theorem dX4_mixedRow_8 : decode cX4_mixedRow 8 = .ok (.iload_n 3, 1) := by decide +kernel
theorem dX4_mixedRow_9 : decode cX4_mixedRow 9 = .ok (.if_icmp .ge 21, 3) := by decide +kernel
theorem dX4_mixedRow_12 : decode cX4_mixedRow 12 = .ok (.lload 4, 2) := by decide +kernel
theorem dX4_mixedRow_14 : decode cX4_mixedRow 14 = .ok (.aload_n 2, 1) := by decide +kernel
theorem dX4_mixedRow_15 : decode cX4_mixedRow 15 = .ok (.iload 6, 2) := by decide +kernel
theorem dX4_mixedRow_17 : decode cX4_mixedRow 17 = .ok (.iaload, 1) := by decide +kernel
theorem dX4_mixedRow_18 : decode cX4_mixedRow 18 = .ok (.i2l, 1) := by decide +kernel
theorem dX4_mixedRow_19 : decode cX4_mixedRow 19 = .ok (.invokestatic 161, 3) := by decide +kernel
theorem dX4_mixedRow_22 : decode cX4_mixedRow 22 = .ok (.lstore 4, 2) := by decide +kernel
theorem dX4_mixedRow_24 : decode cX4_mixedRow 24 = .ok (.iinc 6 1, 3) := by decide +kernel
theorem dX4_mixedRow_27 : decode cX4_mixedRow 27 = .ok (.goto (-21), 3) := by decide +kernel
theorem dX4_mixedRow_30 : decode cX4_mixedRow 30 = .ok (.lload 4, 2) := by decide +kernel
theorem dX4_mixedRow_32 : decode cX4_mixedRow 32 = .ok (.lreturn, 1) := by decide +kernel
theorem dX4_mixed_0 : decode cX4_mixed 0 = .ok (.ldc2_w 192, 3) := by decide +kernel
theorem dX4_mixed_3 : decode cX4_mixed 3 = .ok (.lload_n 0, 1) := by decide +kernel
theorem dX4_mixed_4 : decode cX4_mixed 4 = .ok (.lmul, 1) := by decide +kernel
theorem dX4_mixed_5 : decode cX4_mixed 5 = .ok (.lload_n 2, 1) := by decide +kernel
theorem dX4_mixed_6 : decode cX4_mixed 6 = .ok (.ladd, 1) := by decide +kernel
theorem dX4_mixed_7 : decode cX4_mixed 7 = .ok (.lreturn, 1) := by decide +kernel
theorem dX4_isWithin_0 : decode cX4_isWithin 0 = .ok (.iload_n 0, 1) := by decide +kernel
theorem dX4_isWithin_1 : decode cX4_isWithin 1 = .ok (.iload_n 1, 1) := by decide +kernel
theorem dX4_isWithin_2 : decode cX4_isWithin 2 = .ok (.if_icmp .lt 12, 3) := by decide +kernel
theorem dX4_isWithin_5 : decode cX4_isWithin 5 = .ok (.iload_n 0, 1) := by decide +kernel
theorem dX4_isWithin_6 : decode cX4_isWithin 6 = .ok (.iload_n 2, 1) := by decide +kernel
theorem dX4_isWithin_7 : decode cX4_isWithin 7 = .ok (.if_icmp .gt 7, 3) := by decide +kernel
theorem dX4_isWithin_10 : decode cX4_isWithin 10 = .ok (.iconst 1, 1) := by decide +kernel
theorem dX4_isWithin_11 : decode cX4_isWithin 11 = .ok (.goto 4, 3) := by decide +kernel
theorem dX4_isWithin_14 : decode cX4_isWithin 14 = .ok (.iconst 0, 1) := by decide +kernel
theorem dX4_isWithin_15 : decode cX4_isWithin 15 = .ok (.ireturn, 1) := by decide +kernel
theorem dX4_placeOf_0 : decode cX4_placeOf 0 = .ok (.iload_n 1, 1) := by decide +kernel
theorem dX4_placeOf_1 : decode cX4_placeOf 1 = .ok (.bipush 16, 2) := by decide +kernel
theorem dX4_placeOf_3 : decode cX4_placeOf 3 = .ok (.imul, 1) := by decide +kernel
theorem dX4_placeOf_4 : decode cX4_placeOf 4 = .ok (.iload_n 0, 1) := by decide +kernel
theorem dX4_placeOf_5 : decode cX4_placeOf 5 = .ok (.iadd, 1) := by decide +kernel
theorem dX4_placeOf_6 : decode cX4_placeOf 6 = .ok (.ireturn, 1) := by decide +kernel
theorem dX4_colourOf_0 : decode cX4_colourOf 0 = .ok (.iload_n 0, 1) := by decide +kernel
theorem dX4_colourOf_1 : decode cX4_colourOf 1 = .ok (.iconst 1, 1) := by decide +kernel
theorem dX4_colourOf_2 : decode cX4_colourOf 2 = .ok (.iand, 1) := by decide +kernel
theorem dX4_colourOf_3 : decode cX4_colourOf 3 = .ok (.iload_n 1, 1) := by decide +kernel
theorem dX4_colourOf_4 : decode cX4_colourOf 4 = .ok (.iconst 1, 1) := by decide +kernel
theorem dX4_colourOf_5 : decode cX4_colourOf 5 = .ok (.iand, 1) := by decide +kernel
theorem dX4_colourOf_6 : decode cX4_colourOf 6 = .ok (.iadd, 1) := by decide +kernel
theorem dX4_colourOf_7 : decode cX4_colourOf 7 = .ok (.ireturn, 1) := by decide +kernel
theorem dX5_init_0 : decode cX5_init 0 = .ok (.aload_n 0, 1) := by decide +kernel
theorem dX5_init_1 : decode cX5_init 1 = .ok (.invokespecial 1, 3) := by decide +kernel
theorem dX5_init_4 : decode cX5_init 4 = .ok (.aload_n 0, 1) := by decide +kernel
theorem dX5_init_5 : decode cX5_init 5 = .ok (.iconst 1, 1) := by decide +kernel
theorem dX5_init_6 : decode cX5_init 6 = .ok (.putfield 7, 3) := by decide +kernel
theorem dX5_init_9 : decode cX5_init 9 = .ok (.aload_n 0, 1) := by decide +kernel
theorem dX5_init_10 : decode cX5_init 10 = .ok (.iconst 1, 1) := by decide +kernel
theorem dX5_init_11 : decode cX5_init 11 = .ok (.putfield 13, 3) := by decide +kernel
theorem dX5_init_14 : decode cX5_init 14 = .ok (.aload_n 0, 1) := by decide +kernel
theorem dX5_init_15 : decode cX5_init 15 = .ok (.sipush 256, 3) := by decide +kernel
theorem dX5_init_18 : decode cX5_init 18 = .ok (.newarray .int, 2) := by decide +kernel
theorem dX5_init_20 : decode cX5_init 20 = .ok (.putfield 16, 3) := by decide +kernel
theorem dX5_init_23 : decode cX5_init 23 = .ok (.aload_n 0, 1) := by decide +kernel
theorem dX5_init_24 : decode cX5_init 24 = .ok (.sipush 256, 3) := by decide +kernel
theorem dX5_init_27 : decode cX5_init 27 = .ok (.newarray .boolean, 2) := by decide +kernel
theorem dX5_init_29 : decode cX5_init 29 = .ok (.putfield 20, 3) := by decide +kernel
theorem dX5_init_32 : decode cX5_init 32 = .ok (.aload_n 0, 1) := by decide +kernel
theorem dX5_init_33 : decode cX5_init 33 = .ok (.bipush 10, 2) := by decide +kernel
theorem dX5_init_35 : decode cX5_init 35 = .ok (.newarray .int, 2) := by decide +kernel
theorem dX5_init_37 : decode cX5_init 37 = .ok (.putfield 24, 3) := by decide +kernel
theorem dX5_init_40 : decode cX5_init 40 = .ok (.aload_n 0, 1) := by decide +kernel
theorem dX5_init_41 : decode cX5_init 41 = .ok (.sipush 170, 3) := by decide +kernel
theorem dX5_init_44 : decode cX5_init 44 = .ok (.newarray .int, 2) := by decide +kernel
theorem dX5_init_46 : decode cX5_init 46 = .ok (.putfield 27, 3) := by decide +kernel
theorem dX5_init_49 : decode cX5_init 49 = .ok (.aload_n 0, 1) := by decide +kernel
theorem dX5_init_50 : decode cX5_init 50 = .ok (.bipush 9, 2) := by decide +kernel
theorem dX5_init_52 : decode cX5_init 52 = .ok (.newarray .int, 2) := by decide +kernel
theorem dX5_init_54 : decode cX5_init 54 = .ok (.putfield 30, 3) := by decide +kernel
theorem dX5_init_57 : decode cX5_init 57 = .ok (.aload_n 0, 1) := by decide +kernel
theorem dX5_init_58 : decode cX5_init 58 = .ok (.bipush 17, 2) := by decide +kernel
theorem dX5_init_60 : decode cX5_init 60 = .ok (.newarray .int, 2) := by decide +kernel
theorem dX5_init_62 : decode cX5_init 62 = .ok (.putfield 33, 3) := by decide +kernel
theorem dX5_init_65 : decode cX5_init 65 = .ok (.aload_n 0, 1) := by decide +kernel
theorem dX5_init_66 : decode cX5_init 66 = .ok (.bipush 11, 2) := by decide +kernel
theorem dX5_init_68 : decode cX5_init 68 = .ok (.newarray .int, 2) := by decide +kernel
theorem dX5_init_70 : decode cX5_init 70 = .ok (.putfield 36, 3) := by decide +kernel
theorem dX5_init_73 : decode cX5_init 73 = .ok (.aload_n 0, 1) := by decide +kernel
theorem dX5_init_74 : decode cX5_init 74 = .ok (.bipush 11, 2) := by decide +kernel
theorem dX5_init_76 : decode cX5_init 76 = .ok (.newarray .int, 2) := by decide +kernel
theorem dX5_init_78 : decode cX5_init 78 = .ok (.putfield 39, 3) := by decide +kernel
theorem dX5_init_81 : decode cX5_init 81 = .ok (.aload_n 0, 1) := by decide +kernel
theorem dX5_init_82 : decode cX5_init 82 = .ok (.bipush 11, 2) := by decide +kernel
theorem dX5_init_84 : decode cX5_init 84 = .ok (.newarray .int, 2) := by decide +kernel
theorem dX5_init_86 : decode cX5_init 86 = .ok (.putfield 42, 3) := by decide +kernel
theorem dX5_init_89 : decode cX5_init 89 = .ok (.aload_n 0, 1) := by decide +kernel
theorem dX5_init_90 : decode cX5_init 90 = .ok (.bipush 11, 2) := by decide +kernel
theorem dX5_init_92 : decode cX5_init 92 = .ok (.newarray .int, 2) := by decide +kernel
theorem dX5_init_94 : decode cX5_init 94 = .ok (.putfield 45, 3) := by decide +kernel
theorem dX5_init_97 : decode cX5_init 97 = .ok (.aload_n 0, 1) := by decide +kernel
theorem dX5_init_98 : decode cX5_init 98 = .ok (.bipush 11, 2) := by decide +kernel
theorem dX5_init_100 : decode cX5_init 100 = .ok (.newarray .int, 2) := by decide +kernel
theorem dX5_init_102 : decode cX5_init 102 = .ok (.putfield 48, 3) := by decide +kernel
theorem dX5_init_105 : decode cX5_init 105 = .ok (.aload_n 0, 1) := by decide +kernel
theorem dX5_init_106 : decode cX5_init 106 = .ok (.sipush 8448, 3) := by decide +kernel
theorem dX5_init_109 : decode cX5_init 109 = .ok (.newarray .int, 2) := by decide +kernel
theorem dX5_init_111 : decode cX5_init 111 = .ok (.putfield 51, 3) := by decide +kernel
theorem dX5_init_114 : decode cX5_init 114 = .ok (.aload_n 0, 1) := by decide +kernel
theorem dX5_init_115 : decode cX5_init 115 = .ok (.sipush 8448, 3) := by decide +kernel
theorem dX5_init_118 : decode cX5_init 118 = .ok (.newarray .boolean, 2) := by decide +kernel
theorem dX5_init_120 : decode cX5_init 120 = .ok (.putfield 54, 3) := by decide +kernel
theorem dX5_init_123 : decode cX5_init 123 = .ok (.aload_n 0, 1) := by decide +kernel
theorem dX5_init_124 : decode cX5_init 124 = .ok (.iconst 5, 1) := by decide +kernel
theorem dX5_init_125 : decode cX5_init 125 = .ok (.newarray .int, 2) := by decide +kernel
theorem dX5_init_127 : decode cX5_init 127 = .ok (.putfield 57, 3) := by decide +kernel
theorem dX5_init_130 : decode cX5_init 130 = .ok (.aload_n 0, 1) := by decide +kernel
theorem dX5_init_131 : decode cX5_init 131 = .ok (.getfield 30, 3) := by decide +kernel
theorem dX5_init_134 : decode cX5_init 134 = .ok (.iconst 0, 1) := by decide +kernel
theorem dX5_init_135 : decode cX5_init 135 = .ok (.sipush 1000, 3) := by decide +kernel
theorem dX5_init_138 : decode cX5_init 138 = .ok (.iastore, 1) := by decide +kernel
theorem dX5_init_139 : decode cX5_init 139 = .ok (.aload_n 0, 1) := by decide +kernel
theorem dX5_init_140 : decode cX5_init 140 = .ok (.getfield 30, 3) := by decide +kernel
theorem dX5_init_143 : decode cX5_init 143 = .ok (.iconst 4, 1) := by decide +kernel
theorem dX5_init_144 : decode cX5_init 144 = .ok (.sipush 1000, 3) := by decide +kernel
theorem dX5_init_147 : decode cX5_init 147 = .ok (.iastore, 1) := by decide +kernel
theorem dX5_init_148 : decode cX5_init 148 = .ok (.aload_n 0, 1) := by decide +kernel
theorem dX5_init_149 : decode cX5_init 149 = .ok (.getfield 30, 3) := by decide +kernel
theorem dX5_init_152 : decode cX5_init 152 = .ok (.bipush 8, 2) := by decide +kernel
theorem dX5_init_154 : decode cX5_init 154 = .ok (.sipush 1000, 3) := by decide +kernel
theorem dX5_init_157 : decode cX5_init 157 = .ok (.iastore, 1) := by decide +kernel
theorem dX5_init_158 : decode cX5_init 158 = .ok (.iconst 0, 1) := by decide +kernel
theorem dX5_init_159 : decode cX5_init 159 = .ok (.istore_n 1, 1) := by decide +kernel
theorem dX5_init_160 : decode cX5_init 160 = .ok (.iload_n 1, 1) := by decide +kernel
theorem dX5_init_161 : decode cX5_init 161 = .ok (.bipush 17, 2) := by decide +kernel
theorem dX5_init_163 : decode cX5_init 163 = .ok (.if_icmp .ge 32, 3) := by decide +kernel
theorem dX5_init_166 : decode cX5_init 166 = .ok (.aload_n 0, 1) := by decide +kernel
theorem dX5_init_167 : decode cX5_init 167 = .ok (.getfield 33, 3) := by decide +kernel
theorem dX5_init_170 : decode cX5_init 170 = .ok (.iload_n 1, 1) := by decide +kernel
theorem dX5_init_171 : decode cX5_init 171 = .ok (.iload_n 1, 1) := by decide +kernel
theorem dX5_init_172 : decode cX5_init 172 = .ok (.bipush 16, 2) := by decide +kernel
theorem dX5_init_174 : decode cX5_init 174 = .ok (.if_icmp .ge 11, 3) := by decide +kernel
theorem dX5_init_177 : decode cX5_init 177 = .ok (.sipush 256, 3) := by decide +kernel
theorem dX5_init_180 : decode cX5_init 180 = .ok (.iload_n 1, 1) := by decide +kernel
theorem dX5_init_181 : decode cX5_init 181 = .ok (.imul, 1) := by decide +kernel
theorem dX5_init_182 : decode cX5_init 182 = .ok (.goto 6, 3) := by decide +kernel
theorem dX5_init_185 : decode cX5_init 185 = .ok (.sipush 4095, 3) := by decide +kernel
theorem dX5_init_188 : decode cX5_init 188 = .ok (.iastore, 1) := by decide +kernel
theorem dX5_init_189 : decode cX5_init 189 = .ok (.iinc 1 1, 3) := by decide +kernel
theorem dX5_init_192 : decode cX5_init 192 = .ok (.goto (-32), 3) := by decide +kernel
theorem dX5_init_195 : decode cX5_init 195 = .ok (.return_, 1) := by decide +kernel
theorem dX5_in_0 : decode cX5_in 0 = .ok (.iload_n 0, 1) := by decide +kernel
theorem dX5_in_1 : decode cX5_in 1 = .ok (.iload_n 1, 1) := by decide +kernel
theorem dX5_in_2 : decode cX5_in 2 = .ok (.if_icmp .lt 12, 3) := by decide +kernel
theorem dX5_in_5 : decode cX5_in 5 = .ok (.iload_n 0, 1) := by decide +kernel
theorem dX5_in_6 : decode cX5_in 6 = .ok (.iload_n 2, 1) := by decide +kernel
theorem dX5_in_7 : decode cX5_in 7 = .ok (.if_icmp .gt 7, 3) := by decide +kernel
theorem dX5_in_10 : decode cX5_in 10 = .ok (.iconst 1, 1) := by decide +kernel
theorem dX5_in_11 : decode cX5_in 11 = .ok (.goto 4, 3) := by decide +kernel
theorem dX5_in_14 : decode cX5_in 14 = .ok (.iconst 0, 1) := by decide +kernel
theorem dX5_in_15 : decode cX5_in 15 = .ok (.ireturn, 1) := by decide +kernel
theorem dX5_size_0 : decode cX5_size 0 = .ok (.iload_n 1, 1) := by decide +kernel
theorem dX5_size_1 : decode cX5_size 1 = .ok (.iconst 1, 1) := by decide +kernel
theorem dX5_size_2 : decode cX5_size 2 = .ok (.bipush 16, 2) := by decide +kernel
theorem dX5_size_4 : decode cX5_size 4 = .ok (.invokestatic 60, 3) := by decide +kernel
theorem dX5_size_7 : decode cX5_size 7 = .ok (.ifCond .eq 13, 3) := by decide +kernel
theorem dX5_size_10 : decode cX5_size 10 = .ok (.iload_n 2, 1) := by decide +kernel
theorem dX5_size_11 : decode cX5_size 11 = .ok (.iconst 1, 1) := by decide +kernel
theorem dX5_size_12 : decode cX5_size 12 = .ok (.bipush 16, 2) := by decide +kernel
theorem dX5_size_14 : decode cX5_size 14 = .ok (.invokestatic 60, 3) := by decide +kernel
theorem dX5_size_17 : decode cX5_size 17 = .ok (.ifCond .ne 6, 3) := by decide +kernel
theorem dX5_size_20 : decode cX5_size 20 = .ok (.bipush (-102), 2) := by decide +kernel
theorem dX5_size_22 : decode cX5_size 22 = .ok (.ireturn, 1) := by decide +kernel
theorem dX5_size_23 : decode cX5_size 23 = .ok (.aload_n 0, 1) := by decide +kernel
theorem dX5_size_24 : decode cX5_size 24 = .ok (.iload_n 1, 1) := by decide +kernel
theorem dX5_size_25 : decode cX5_size 25 = .ok (.putfield 7, 3) := by decide +kernel
theorem dX5_size_28 : decode cX5_size 28 = .ok (.aload_n 0, 1) := by decide +kernel
theorem dX5_size_29 : decode cX5_size 29 = .ok (.iload_n 2, 1) := by decide +kernel
theorem dX5_size_30 : decode cX5_size 30 = .ok (.putfield 13, 3) := by decide +kernel
theorem dX5_size_33 : decode cX5_size 33 = .ok (.aload_n 0, 1) := by decide +kernel
theorem dX5_size_34 : decode cX5_size 34 = .ok (.iconst 0, 1) := by decide +kernel
theorem dX5_size_35 : decode cX5_size 35 = .ok (.putfield 64, 3) := by decide +kernel
theorem dX5_size_38 : decode cX5_size 38 = .ok (.iconst 0, 1) := by decide +kernel
theorem dX5_size_39 : decode cX5_size 39 = .ok (.istore_n 3, 1) := by decide +kernel
theorem dX5_size_40 : decode cX5_size 40 = .ok (.iload_n 3, 1) := by decide +kernel
theorem dX5_size_41 : decode cX5_size 41 = .ok (.sipush 256, 3) := by decide +kernel
theorem dX5_size_44 : decode cX5_size 44 = .ok (.if_icmp .ge 23, 3) := by decide +kernel
theorem dX5_size_47 : decode cX5_size 47 = .ok (.aload_n 0, 1) := by decide +kernel
theorem dX5_size_48 : decode cX5_size 48 = .ok (.getfield 16, 3) := by decide +kernel
theorem dX5_size_51 : decode cX5_size 51 = .ok (.iload_n 3, 1) := by decide +kernel
theorem dX5_size_52 : decode cX5_size 52 = .ok (.iconst 0, 1) := by decide +kernel
theorem dX5_size_53 : decode cX5_size 53 = .ok (.iastore, 1) := by decide +kernel
theorem dX5_size_54 : decode cX5_size 54 = .ok (.aload_n 0, 1) := by decide +kernel
theorem dX5_size_55 : decode cX5_size 55 = .ok (.getfield 20, 3) := by decide +kernel
theorem dX5_size_58 : decode cX5_size 58 = .ok (.iload_n 3, 1) := by decide +kernel
theorem dX5_size_59 : decode cX5_size 59 = .ok (.iconst 0, 1) := by decide +kernel
theorem dX5_size_60 : decode cX5_size 60 = .ok (.bastore, 1) := by decide +kernel
theorem dX5_size_61 : decode cX5_size 61 = .ok (.iinc 3 1, 3) := by decide +kernel
theorem dX5_size_64 : decode cX5_size 64 = .ok (.goto (-24), 3) := by decide +kernel
theorem dX5_size_67 : decode cX5_size 67 = .ok (.iload_n 1, 1) := by decide +kernel
theorem dX5_size_68 : decode cX5_size 68 = .ok (.iload_n 2, 1) := by decide +kernel
theorem dX5_size_69 : decode cX5_size 69 = .ok (.imul, 1) := by decide +kernel
theorem dX5_size_70 : decode cX5_size 70 = .ok (.ireturn, 1) := by decide +kernel
theorem dX5_isCell_0 : decode cX5_isCell 0 = .ok (.iload_n 1, 1) := by decide +kernel
theorem dX5_isCell_1 : decode cX5_isCell 1 = .ok (.iconst 0, 1) := by decide +kernel
theorem dX5_isCell_2 : decode cX5_isCell 2 = .ok (.aload_n 0, 1) := by decide +kernel
theorem dX5_isCell_3 : decode cX5_isCell 3 = .ok (.getfield 7, 3) := by decide +kernel
theorem dX5_isCell_6 : decode cX5_isCell 6 = .ok (.iconst 1, 1) := by decide +kernel
theorem dX5_isCell_7 : decode cX5_isCell 7 = .ok (.isub, 1) := by decide +kernel
theorem dX5_isCell_8 : decode cX5_isCell 8 = .ok (.invokestatic 60, 3) := by decide +kernel
theorem dX5_isCell_11 : decode cX5_isCell 11 = .ok (.ifCond .eq 21, 3) := by decide +kernel
theorem dX5_isCell_14 : decode cX5_isCell 14 = .ok (.iload_n 2, 1) := by decide +kernel
theorem dX5_isCell_15 : decode cX5_isCell 15 = .ok (.iconst 0, 1) := by decide +kernel
theorem dX5_isCell_16 : decode cX5_isCell 16 = .ok (.aload_n 0, 1) := by decide +kernel
theorem dX5_isCell_17 : decode cX5_isCell 17 = .ok (.getfield 13, 3) := by decide +kernel
theorem dX5_isCell_20 : decode cX5_isCell 20 = .ok (.iconst 1, 1) := by decide +kernel
theorem dX5_isCell_21 : decode cX5_isCell 21 = .ok (.isub, 1) := by decide +kernel
theorem dX5_isCell_22 : decode cX5_isCell 22 = .ok (.invokestatic 60, 3) := by decide +kernel
theorem dX5_isCell_25 : decode cX5_isCell 25 = .ok (.ifCond .eq 7, 3) := by decide +kernel
theorem dX5_isCell_28 : decode cX5_isCell 28 = .ok (.iconst 1, 1) := by decide +kernel
theorem dX5_isCell_29 : decode cX5_isCell 29 = .ok (.goto 4, 3) := by decide +kernel
theorem dX5_isCell_32 : decode cX5_isCell 32 = .ok (.iconst 0, 1) := by decide +kernel
theorem dX5_isCell_33 : decode cX5_isCell 33 = .ok (.ireturn, 1) := by decide +kernel
theorem dX5_cell_0 : decode cX5_cell 0 = .ok (.aload_n 0, 1) := by decide +kernel
theorem dX5_cell_1 : decode cX5_cell 1 = .ok (.iload_n 1, 1) := by decide +kernel
theorem dX5_cell_2 : decode cX5_cell 2 = .ok (.iload_n 2, 1) := by decide +kernel
theorem dX5_cell_3 : decode cX5_cell 3 = .ok (.invokevirtual 67, 3) := by decide +kernel
theorem dX5_cell_6 : decode cX5_cell 6 = .ok (.ifCond .ne 6, 3) := by decide +kernel
theorem dX5_cell_9 : decode cX5_cell 9 = .ok (.bipush (-101), 2) := by decide +kernel
theorem dX5_cell_11 : decode cX5_cell 11 = .ok (.ireturn, 1) := by decide +kernel
theorem dX5_cell_12 : decode cX5_cell 12 = .ok (.iload_n 3, 1) := by decide +kernel
theorem dX5_cell_13 : decode cX5_cell 13 = .ok (.iconst 0, 1) := by decide +kernel
theorem dX5_cell_14 : decode cX5_cell 14 = .ok (.sipush 1023, 3) := by decide +kernel
theorem dX5_cell_17 : decode cX5_cell 17 = .ok (.invokestatic 60, 3) := by decide +kernel
theorem dX5_cell_20 : decode cX5_cell 20 = .ok (.ifCond .ne 6, 3) := by decide +kernel
theorem dX5_cell_23 : decode cX5_cell 23 = .ok (.bipush (-102), 2) := by decide +kernel
theorem dX5_cell_25 : decode cX5_cell 25 = .ok (.ireturn, 1) := by decide +kernel
theorem dX5_cell_26 : decode cX5_cell 26 = .ok (.aload_n 0, 1) := by decide +kernel
theorem dX5_cell_27 : decode cX5_cell 27 = .ok (.getfield 16, 3) := by decide +kernel
theorem dX5_cell_30 : decode cX5_cell 30 = .ok (.bipush 16, 2) := by decide +kernel
theorem dX5_cell_32 : decode cX5_cell 32 = .ok (.iload_n 2, 1) := by decide +kernel
theorem dX5_cell_33 : decode cX5_cell 33 = .ok (.imul, 1) := by decide +kernel
theorem dX5_cell_34 : decode cX5_cell 34 = .ok (.iload_n 1, 1) := by decide +kernel
theorem dX5_cell_35 : decode cX5_cell 35 = .ok (.iadd, 1) := by decide +kernel
theorem dX5_cell_36 : decode cX5_cell 36 = .ok (.iaload, 1) := by decide +kernel
theorem dX5_cell_37 : decode cX5_cell 37 = .ok (.istore 4, 2) := by decide +kernel
theorem dX5_cell_39 : decode cX5_cell 39 = .ok (.aload_n 0, 1) := by decide +kernel
theorem dX5_cell_40 : decode cX5_cell 40 = .ok (.getfield 16, 3) := by decide +kernel
theorem dX5_cell_43 : decode cX5_cell 43 = .ok (.bipush 16, 2) := by decide +kernel
theorem dX5_cell_45 : decode cX5_cell 45 = .ok (.iload_n 2, 1) := by decide +kernel
theorem dX5_cell_46 : decode cX5_cell 46 = .ok (.imul, 1) := by decide +kernel
theorem dX5_cell_47 : decode cX5_cell 47 = .ok (.iload_n 1, 1) := by decide +kernel
theorem dX5_cell_48 : decode cX5_cell 48 = .ok (.iadd, 1) := by decide +kernel
theorem dX5_cell_49 : decode cX5_cell 49 = .ok (.iload_n 3, 1) := by decide +kernel
theorem dX5_cell_50 : decode cX5_cell 50 = .ok (.iastore, 1) := by decide +kernel
theorem dX5_cell_51 : decode cX5_cell 51 = .ok (.iload 4, 2) := by decide +kernel
theorem dX5_cell_53 : decode cX5_cell 53 = .ok (.ireturn, 1) := by decide +kernel
theorem dX5_dead_0 : decode cX5_dead 0 = .ok (.aload_n 0, 1) := by decide +kernel
theorem dX5_dead_1 : decode cX5_dead 1 = .ok (.iload_n 1, 1) := by decide +kernel
theorem dX5_dead_2 : decode cX5_dead 2 = .ok (.iload_n 2, 1) := by decide +kernel
theorem dX5_dead_3 : decode cX5_dead 3 = .ok (.invokevirtual 67, 3) := by decide +kernel
theorem dX5_dead_6 : decode cX5_dead 6 = .ok (.ifCond .ne 6, 3) := by decide +kernel
theorem dX5_dead_9 : decode cX5_dead 9 = .ok (.bipush (-101), 2) := by decide +kernel
theorem dX5_dead_11 : decode cX5_dead 11 = .ok (.ireturn, 1) := by decide +kernel
theorem dX5_dead_12 : decode cX5_dead 12 = .ok (.aload_n 0, 1) := by decide +kernel
theorem dX5_dead_13 : decode cX5_dead 13 = .ok (.getfield 20, 3) := by decide +kernel
theorem dX5_dead_16 : decode cX5_dead 16 = .ok (.bipush 16, 2) := by decide +kernel
theorem dX5_dead_18 : decode cX5_dead 18 = .ok (.iload_n 2, 1) := by decide +kernel
theorem dX5_dead_19 : decode cX5_dead 19 = .ok (.imul, 1) := by decide +kernel
theorem dX5_dead_20 : decode cX5_dead 20 = .ok (.iload_n 1, 1) := by decide +kernel
theorem dX5_dead_21 : decode cX5_dead 21 = .ok (.iadd, 1) := by decide +kernel
theorem dX5_dead_22 : decode cX5_dead 22 = .ok (.baload, 1) := by decide +kernel
theorem dX5_dead_23 : decode cX5_dead 23 = .ok (.ifCond .eq 7, 3) := by decide +kernel
theorem dX5_dead_26 : decode cX5_dead 26 = .ok (.iconst 1, 1) := by decide +kernel
theorem dX5_dead_27 : decode cX5_dead 27 = .ok (.goto 4, 3) := by decide +kernel
theorem dX5_dead_30 : decode cX5_dead 30 = .ok (.iconst 0, 1) := by decide +kernel
theorem dX5_dead_31 : decode cX5_dead 31 = .ok (.istore 4, 2) := by decide +kernel
theorem dX5_dead_33 : decode cX5_dead 33 = .ok (.aload_n 0, 1) := by decide +kernel
theorem dX5_dead_34 : decode cX5_dead 34 = .ok (.getfield 20, 3) := by decide +kernel
theorem dX5_dead_37 : decode cX5_dead 37 = .ok (.bipush 16, 2) := by decide +kernel
theorem dX5_dead_39 : decode cX5_dead 39 = .ok (.iload_n 2, 1) := by decide +kernel
theorem dX5_dead_40 : decode cX5_dead 40 = .ok (.imul, 1) := by decide +kernel
theorem dX5_dead_41 : decode cX5_dead 41 = .ok (.iload_n 1, 1) := by decide +kernel
theorem dX5_dead_42 : decode cX5_dead 42 = .ok (.iadd, 1) := by decide +kernel
theorem dX5_dead_43 : decode cX5_dead 43 = .ok (.iload_n 3, 1) := by decide +kernel
theorem dX5_dead_44 : decode cX5_dead 44 = .ok (.bastore, 1) := by decide +kernel
theorem dX5_dead_45 : decode cX5_dead 45 = .ok (.iload 4, 2) := by decide +kernel
theorem dX5_dead_47 : decode cX5_dead 47 = .ok (.ireturn, 1) := by decide +kernel
theorem dX5_hasColours_0 : decode cX5_hasColours 0 = .ok (.iconst 0, 1) := by decide +kernel
theorem dX5_hasColours_1 : decode cX5_hasColours 1 = .ok (.istore_n 1, 1) := by decide +kernel
theorem dX5_hasColours_2 : decode cX5_hasColours 2 = .ok (.iconst 0, 1) := by decide +kernel
theorem dX5_hasColours_3 : decode cX5_hasColours 3 = .ok (.istore_n 2, 1) := by decide +kernel
theorem dX5_hasColours_4 : decode cX5_hasColours 4 = .ok (.iload_n 2, 1) := by decide +kernel
theorem dX5_hasColours_5 : decode cX5_hasColours 5 = .ok (.aload_n 0, 1) := by decide +kernel
theorem dX5_hasColours_6 : decode cX5_hasColours 6 = .ok (.getfield 64, 3) := by decide +kernel
theorem dX5_hasColours_9 : decode cX5_hasColours 9 = .ok (.if_icmp .ge 29, 3) := by decide +kernel
theorem dX5_hasColours_12 : decode cX5_hasColours 12 = .ok (.iload_n 1, 1) := by decide +kernel
theorem dX5_hasColours_13 : decode cX5_hasColours 13 = .ok (.ifCond .ne 13, 3) := by decide +kernel
theorem dX5_hasColours_16 : decode cX5_hasColours 16 = .ok (.aload_n 0, 1) := by decide +kernel
theorem dX5_hasColours_17 : decode cX5_hasColours 17 = .ok (.getfield 24, 3) := by decide +kernel
theorem dX5_hasColours_20 : decode cX5_hasColours 20 = .ok (.iload_n 2, 1) := by decide +kernel
theorem dX5_hasColours_21 : decode cX5_hasColours 21 = .ok (.iaload, 1) := by decide +kernel
theorem dX5_hasColours_22 : decode cX5_hasColours 22 = .ok (.iconst 4, 1) := by decide +kernel
theorem dX5_hasColours_23 : decode cX5_hasColours 23 = .ok (.if_icmp .ne 7, 3) := by decide +kernel
theorem dX5_hasColours_26 : decode cX5_hasColours 26 = .ok (.iconst 1, 1) := by decide +kernel
theorem dX5_hasColours_27 : decode cX5_hasColours 27 = .ok (.goto 4, 3) := by decide +kernel
theorem dX5_hasColours_30 : decode cX5_hasColours 30 = .ok (.iconst 0, 1) := by decide +kernel
theorem dX5_hasColours_31 : decode cX5_hasColours 31 = .ok (.istore_n 1, 1) := by decide +kernel
theorem dX5_hasColours_32 : decode cX5_hasColours 32 = .ok (.iinc 2 1, 3) := by decide +kernel
theorem dX5_hasColours_35 : decode cX5_hasColours 35 = .ok (.goto (-31), 3) := by decide +kernel
theorem dX5_hasColours_38 : decode cX5_hasColours 38 = .ok (.iload_n 1, 1) := by decide +kernel
theorem dX5_hasColours_39 : decode cX5_hasColours 39 = .ok (.ireturn, 1) := by decide +kernel
theorem dX5_barred_0 : decode cX5_barred 0 = .ok (.aload_n 0, 1) := by decide +kernel
theorem dX5_barred_1 : decode cX5_barred 1 = .ok (.invokevirtual 71, 3) := by decide +kernel
theorem dX5_barred_4 : decode cX5_barred 4 = .ok (.iload_n 1, 1) := by decide +kernel
theorem dX5_barred_5 : decode cX5_barred 5 = .ok (.iconst 4, 1) := by decide +kernel
theorem dX5_barred_6 : decode cX5_barred 6 = .ok (.if_icmp .gt 18, 3) := by decide +kernel
theorem dX5_barred_9 : decode cX5_barred 9 = .ok (.aload_n 0, 1) := by decide +kernel
theorem dX5_barred_10 : decode cX5_barred 10 = .ok (.invokevirtual 74, 3) := by decide +kernel
theorem dX5_barred_13 : decode cX5_barred 13 = .ok (.ifCond .ne 7, 3) := by decide +kernel
theorem dX5_barred_16 : decode cX5_barred 16 = .ok (.iconst 1, 1) := by decide +kernel
theorem dX5_barred_17 : decode cX5_barred 17 = .ok (.goto 11, 3) := by decide +kernel
theorem dX5_barred_20 : decode cX5_barred 20 = .ok (.iconst 0, 1) := by decide +kernel
theorem dX5_barred_21 : decode cX5_barred 21 = .ok (.goto 7, 3) := by decide +kernel
theorem dX5_barred_24 : decode cX5_barred 24 = .ok (.aload_n 0, 1) := by decide +kernel
theorem dX5_barred_25 : decode cX5_barred 25 = .ok (.invokevirtual 74, 3) := by decide +kernel
theorem dX5_barred_28 : decode cX5_barred 28 = .ok (.istore_n 2, 1) := by decide +kernel
theorem dX5_barred_29 : decode cX5_barred 29 = .ok (.iload_n 2, 1) := by decide +kernel
theorem dX5_barred_30 : decode cX5_barred 30 = .ok (.ifCond .eq 35, 3) := by decide +kernel
theorem dX5_barred_33 : decode cX5_barred 33 = .ok (.iload_n 1, 1) := by decide +kernel
theorem dX5_barred_34 : decode cX5_barred 34 = .ok (.bipush 7, 2) := by decide +kernel
theorem dX5_barred_36 : decode cX5_barred 36 = .ok (.if_icmp .ne 32, 3) := by decide +kernel
theorem dX5_barred_39 : decode cX5_barred 39 = .ok (.aload_n 0, 1) := by decide +kernel
theorem dX5_barred_40 : decode cX5_barred 40 = .ok (.getfield 36, 3) := by decide +kernel
theorem dX5_barred_43 : decode cX5_barred 43 = .ok (.aload_n 0, 1) := by decide +kernel
theorem dX5_barred_44 : decode cX5_barred 44 = .ok (.getfield 64, 3) := by decide +kernel
theorem dX5_barred_47 : decode cX5_barred 47 = .ok (.iaload, 1) := by decide +kernel
theorem dX5_barred_48 : decode cX5_barred 48 = .ok (.iconst 2, 1) := by decide +kernel
theorem dX5_barred_49 : decode cX5_barred 49 = .ok (.if_icmp .lt 16, 3) := by decide +kernel
theorem dX5_barred_52 : decode cX5_barred 52 = .ok (.aload_n 0, 1) := by decide +kernel
theorem dX5_barred_53 : decode cX5_barred 53 = .ok (.getfield 39, 3) := by decide +kernel
theorem dX5_barred_56 : decode cX5_barred 56 = .ok (.aload_n 0, 1) := by decide +kernel
theorem dX5_barred_57 : decode cX5_barred 57 = .ok (.getfield 64, 3) := by decide +kernel
theorem dX5_barred_60 : decode cX5_barred 60 = .ok (.iaload, 1) := by decide +kernel
theorem dX5_barred_61 : decode cX5_barred 61 = .ok (.iconst 2, 1) := by decide +kernel
theorem dX5_barred_62 : decode cX5_barred 62 = .ok (.if_icmp .ge 6, 3) := by decide +kernel
theorem dX5_barred_65 : decode cX5_barred 65 = .ok (.bipush (-103), 2) := by decide +kernel
theorem dX5_barred_67 : decode cX5_barred 67 = .ok (.ireturn, 1) := by decide +kernel
theorem dX5_barred_68 : decode cX5_barred 68 = .ok (.aload_n 0, 1) := by decide +kernel
theorem dX5_barred_69 : decode cX5_barred 69 = .ok (.getfield 64, 3) := by decide +kernel
theorem dX5_barred_72 : decode cX5_barred 72 = .ok (.bipush 10, 2) := by decide +kernel
theorem dX5_barred_74 : decode cX5_barred 74 = .ok (.if_icmp .ne 8, 3) := by decide +kernel
theorem dX5_barred_77 : decode cX5_barred 77 = .ok (.bipush (-104), 2) := by decide +kernel
theorem dX5_barred_79 : decode cX5_barred 79 = .ok (.goto 4, 3) := by decide +kernel
theorem dX5_barred_82 : decode cX5_barred 82 = .ok (.iconst 0, 1) := by decide +kernel
theorem dX5_barred_83 : decode cX5_barred 83 = .ok (.ireturn, 1) := by decide +kernel
theorem dX5_come_0 : decode cX5_come 0 = .ok (.aload_n 0, 1) := by decide +kernel
theorem dX5_come_1 : decode cX5_come 1 = .ok (.getfield 24, 3) := by decide +kernel
theorem dX5_come_4 : decode cX5_come 4 = .ok (.aload_n 0, 1) := by decide +kernel
theorem dX5_come_5 : decode cX5_come 5 = .ok (.getfield 64, 3) := by decide +kernel
theorem dX5_come_8 : decode cX5_come 8 = .ok (.iload_n 1, 1) := by decide +kernel
theorem dX5_come_9 : decode cX5_come 9 = .ok (.iastore, 1) := by decide +kernel
theorem dX5_come_10 : decode cX5_come 10 = .ok (.aload_n 0, 1) := by decide +kernel
theorem dX5_come_11 : decode cX5_come 11 = .ok (.dup, 1) := by decide +kernel
theorem dX5_come_12 : decode cX5_come 12 = .ok (.getfield 64, 3) := by decide +kernel
theorem dX5_come_15 : decode cX5_come 15 = .ok (.iconst 1, 1) := by decide +kernel
theorem dX5_come_16 : decode cX5_come 16 = .ok (.iadd, 1) := by decide +kernel
theorem dX5_come_17 : decode cX5_come 17 = .ok (.putfield 64, 3) := by decide +kernel
theorem dX5_come_20 : decode cX5_come 20 = .ok (.aload_n 0, 1) := by decide +kernel
theorem dX5_come_21 : decode cX5_come 21 = .ok (.getfield 64, 3) := by decide +kernel
theorem dX5_come_24 : decode cX5_come 24 = .ok (.ireturn, 1) := by decide +kernel
theorem dX5_black_0 : decode cX5_black 0 = .ok (.iload_n 1, 1) := by decide +kernel
theorem dX5_black_1 : decode cX5_black 1 = .ok (.iconst 0, 1) := by decide +kernel
theorem dX5_black_2 : decode cX5_black 2 = .ok (.sipush 1023, 3) := by decide +kernel
theorem dX5_black_5 : decode cX5_black 5 = .ok (.invokestatic 60, 3) := by decide +kernel
theorem dX5_black_8 : decode cX5_black 8 = .ok (.ifCond .ne 6, 3) := by decide +kernel
theorem dX5_black_11 : decode cX5_black 11 = .ok (.bipush (-102), 2) := by decide +kernel
theorem dX5_black_13 : decode cX5_black 13 = .ok (.ireturn, 1) := by decide +kernel
theorem dX5_black_14 : decode cX5_black 14 = .ok (.aload_n 0, 1) := by decide +kernel
theorem dX5_black_15 : decode cX5_black 15 = .ok (.iconst 0, 1) := by decide +kernel
theorem dX5_black_16 : decode cX5_black 16 = .ok (.invokevirtual 78, 3) := by decide +kernel
theorem dX5_black_19 : decode cX5_black 19 = .ok (.istore_n 2, 1) := by decide +kernel
theorem dX5_black_20 : decode cX5_black 20 = .ok (.iload_n 2, 1) := by decide +kernel
theorem dX5_black_21 : decode cX5_black 21 = .ok (.ifCond .eq 5, 3) := by decide +kernel
theorem dX5_black_24 : decode cX5_black 24 = .ok (.iload_n 2, 1) := by decide +kernel
theorem dX5_black_25 : decode cX5_black 25 = .ok (.ireturn, 1) := by decide +kernel
theorem dX5_black_26 : decode cX5_black 26 = .ok (.aload_n 0, 1) := by decide +kernel
theorem dX5_black_27 : decode cX5_black 27 = .ok (.getfield 27, 3) := by decide +kernel
theorem dX5_black_30 : decode cX5_black 30 = .ok (.bipush 17, 2) := by decide +kernel
theorem dX5_black_32 : decode cX5_black 32 = .ok (.aload_n 0, 1) := by decide +kernel
theorem dX5_black_33 : decode cX5_black 33 = .ok (.getfield 64, 3) := by decide +kernel
theorem dX5_black_36 : decode cX5_black 36 = .ok (.imul, 1) := by decide +kernel
theorem dX5_black_37 : decode cX5_black 37 = .ok (.iload_n 1, 1) := by decide +kernel
theorem dX5_black_38 : decode cX5_black 38 = .ok (.iastore, 1) := by decide +kernel
theorem dX5_black_39 : decode cX5_black 39 = .ok (.aload_n 0, 1) := by decide +kernel
theorem dX5_black_40 : decode cX5_black 40 = .ok (.iconst 0, 1) := by decide +kernel
theorem dX5_black_41 : decode cX5_black 41 = .ok (.invokevirtual 82, 3) := by decide +kernel
theorem dX5_black_44 : decode cX5_black 44 = .ok (.ireturn, 1) := by decide +kernel
theorem dX5_gain_0 : decode cX5_gain 0 = .ok (.iload_n 1, 1) := by decide +kernel
theorem dX5_gain_1 : decode cX5_gain 1 = .ok (.iconst 0, 1) := by decide +kernel
theorem dX5_gain_2 : decode cX5_gain 2 = .ok (.sipush 8000, 3) := by decide +kernel
theorem dX5_gain_5 : decode cX5_gain 5 = .ok (.invokestatic 60, 3) := by decide +kernel
theorem dX5_gain_8 : decode cX5_gain 8 = .ok (.ifCond .eq 25, 3) := by decide +kernel
theorem dX5_gain_11 : decode cX5_gain 11 = .ok (.iload_n 2, 1) := by decide +kernel
theorem dX5_gain_12 : decode cX5_gain 12 = .ok (.iconst 0, 1) := by decide +kernel
theorem dX5_gain_13 : decode cX5_gain 13 = .ok (.sipush 8000, 3) := by decide +kernel
theorem dX5_gain_16 : decode cX5_gain 16 = .ok (.invokestatic 60, 3) := by decide +kernel
theorem dX5_gain_19 : decode cX5_gain 19 = .ok (.ifCond .eq 14, 3) := by decide +kernel
theorem dX5_gain_22 : decode cX5_gain 22 = .ok (.iload_n 3, 1) := by decide +kernel
theorem dX5_gain_23 : decode cX5_gain 23 = .ok (.iconst 0, 1) := by decide +kernel
theorem dX5_gain_24 : decode cX5_gain 24 = .ok (.sipush 8000, 3) := by decide +kernel
theorem dX5_gain_27 : decode cX5_gain 27 = .ok (.invokestatic 60, 3) := by decide +kernel
theorem dX5_gain_30 : decode cX5_gain 30 = .ok (.ifCond .ne 6, 3) := by decide +kernel
theorem dX5_gain_33 : decode cX5_gain 33 = .ok (.bipush (-102), 2) := by decide +kernel
theorem dX5_gain_35 : decode cX5_gain 35 = .ok (.ireturn, 1) := by decide +kernel
theorem dX5_gain_36 : decode cX5_gain 36 = .ok (.aload_n 0, 1) := by decide +kernel
theorem dX5_gain_37 : decode cX5_gain 37 = .ok (.iconst 1, 1) := by decide +kernel
theorem dX5_gain_38 : decode cX5_gain 38 = .ok (.invokevirtual 78, 3) := by decide +kernel
theorem dX5_gain_41 : decode cX5_gain 41 = .ok (.istore 4, 2) := by decide +kernel
theorem dX5_gain_43 : decode cX5_gain 43 = .ok (.iload 4, 2) := by decide +kernel
theorem dX5_gain_45 : decode cX5_gain 45 = .ok (.ifCond .eq 6, 3) := by decide +kernel
theorem dX5_gain_48 : decode cX5_gain 48 = .ok (.iload 4, 2) := by decide +kernel
theorem dX5_gain_50 : decode cX5_gain 50 = .ok (.ireturn, 1) := by decide +kernel
theorem dX5_gain_51 : decode cX5_gain 51 = .ok (.aload_n 0, 1) := by decide +kernel
theorem dX5_gain_52 : decode cX5_gain 52 = .ok (.getfield 27, 3) := by decide +kernel
end
section
theorem dX5_gain_55 : decode cX5_gain 55 = .ok (.bipush 17, 2) := by decide +kernel
theorem dX5_gain_57 : decode cX5_gain 57 = .ok (.aload_n 0, 1) := by decide +kernel
theorem dX5_gain_58 : decode cX5_gain 58 = .ok (.getfield 64, 3) := by decide +kernel
theorem dX5_gain_61 : decode cX5_gain 61 = .ok (.imul, 1) := by decide +kernel
theorem dX5_gain_62 : decode cX5_gain 62 = .ok (.iload_n 1, 1) := by decide +kernel
theorem dX5_gain_63 : decode cX5_gain 63 = .ok (.iastore, 1) := by decide +kernel
theorem dX5_gain_64 : decode cX5_gain 64 = .ok (.aload_n 0, 1) := by decide +kernel
theorem dX5_gain_65 : decode cX5_gain 65 = .ok (.getfield 27, 3) := by decide +kernel
theorem dX5_gain_68 : decode cX5_gain 68 = .ok (.bipush 17, 2) := by decide +kernel
theorem dX5_gain_70 : decode cX5_gain 70 = .ok (.aload_n 0, 1) := by decide +kernel
theorem dX5_gain_71 : decode cX5_gain 71 = .ok (.getfield 64, 3) := by decide +kernel
theorem dX5_gain_74 : decode cX5_gain 74 = .ok (.imul, 1) := by decide +kernel
theorem dX5_gain_75 : decode cX5_gain 75 = .ok (.iconst 1, 1) := by decide +kernel
theorem dX5_gain_76 : decode cX5_gain 76 = .ok (.iadd, 1) := by decide +kernel
theorem dX5_gain_77 : decode cX5_gain 77 = .ok (.iload_n 2, 1) := by decide +kernel
theorem dX5_gain_78 : decode cX5_gain 78 = .ok (.iastore, 1) := by decide +kernel
theorem dX5_gain_79 : decode cX5_gain 79 = .ok (.aload_n 0, 1) := by decide +kernel
theorem dX5_gain_80 : decode cX5_gain 80 = .ok (.getfield 27, 3) := by decide +kernel
theorem dX5_gain_83 : decode cX5_gain 83 = .ok (.bipush 17, 2) := by decide +kernel
theorem dX5_gain_85 : decode cX5_gain 85 = .ok (.aload_n 0, 1) := by decide +kernel
theorem dX5_gain_86 : decode cX5_gain 86 = .ok (.getfield 64, 3) := by decide +kernel
theorem dX5_gain_89 : decode cX5_gain 89 = .ok (.imul, 1) := by decide +kernel
theorem dX5_gain_90 : decode cX5_gain 90 = .ok (.iconst 2, 1) := by decide +kernel
theorem dX5_gain_91 : decode cX5_gain 91 = .ok (.iadd, 1) := by decide +kernel
theorem dX5_gain_92 : decode cX5_gain 92 = .ok (.iload_n 3, 1) := by decide +kernel
theorem dX5_gain_93 : decode cX5_gain 93 = .ok (.iastore, 1) := by decide +kernel
theorem dX5_gain_94 : decode cX5_gain 94 = .ok (.aload_n 0, 1) := by decide +kernel
theorem dX5_gain_95 : decode cX5_gain 95 = .ok (.iconst 1, 1) := by decide +kernel
theorem dX5_gain_96 : decode cX5_gain 96 = .ok (.invokevirtual 82, 3) := by decide +kernel
theorem dX5_gain_99 : decode cX5_gain 99 = .ok (.ireturn, 1) := by decide +kernel
theorem dX5_step_0 : decode cX5_step 0 = .ok (.iload_n 1, 1) := by decide +kernel
theorem dX5_step_1 : decode cX5_step 1 = .ok (.iconst 2, 1) := by decide +kernel
theorem dX5_step_2 : decode cX5_step 2 = .ok (.if_icmp .eq 22, 3) := by decide +kernel
theorem dX5_step_5 : decode cX5_step 5 = .ok (.iload_n 1, 1) := by decide +kernel
theorem dX5_step_6 : decode cX5_step 6 = .ok (.iconst 3, 1) := by decide +kernel
theorem dX5_step_7 : decode cX5_step 7 = .ok (.if_icmp .eq 17, 3) := by decide +kernel
theorem dX5_step_10 : decode cX5_step 10 = .ok (.iload_n 1, 1) := by decide +kernel
theorem dX5_step_11 : decode cX5_step 11 = .ok (.iconst 4, 1) := by decide +kernel
theorem dX5_step_12 : decode cX5_step 12 = .ok (.if_icmp .eq 12, 3) := by decide +kernel
theorem dX5_step_15 : decode cX5_step 15 = .ok (.iload_n 1, 1) := by decide +kernel
theorem dX5_step_16 : decode cX5_step 16 = .ok (.bipush 7, 2) := by decide +kernel
theorem dX5_step_18 : decode cX5_step 18 = .ok (.if_icmp .eq 6, 3) := by decide +kernel
theorem dX5_step_21 : decode cX5_step 21 = .ok (.bipush (-102), 2) := by decide +kernel
theorem dX5_step_23 : decode cX5_step 23 = .ok (.ireturn, 1) := by decide +kernel
theorem dX5_step_24 : decode cX5_step 24 = .ok (.aload_n 0, 1) := by decide +kernel
theorem dX5_step_25 : decode cX5_step 25 = .ok (.iload_n 1, 1) := by decide +kernel
theorem dX5_step_26 : decode cX5_step 26 = .ok (.invokevirtual 78, 3) := by decide +kernel
theorem dX5_step_29 : decode cX5_step 29 = .ok (.istore_n 2, 1) := by decide +kernel
theorem dX5_step_30 : decode cX5_step 30 = .ok (.iload_n 2, 1) := by decide +kernel
theorem dX5_step_31 : decode cX5_step 31 = .ok (.ifCond .eq 7, 3) := by decide +kernel
theorem dX5_step_34 : decode cX5_step 34 = .ok (.iload_n 2, 1) := by decide +kernel
theorem dX5_step_35 : decode cX5_step 35 = .ok (.goto 8, 3) := by decide +kernel
theorem dX5_step_38 : decode cX5_step 38 = .ok (.aload_n 0, 1) := by decide +kernel
theorem dX5_step_39 : decode cX5_step 39 = .ok (.iload_n 1, 1) := by decide +kernel
theorem dX5_step_40 : decode cX5_step 40 = .ok (.invokevirtual 82, 3) := by decide +kernel
theorem dX5_step_43 : decode cX5_step 43 = .ok (.ireturn, 1) := by decide +kernel
theorem dX5_entry_0 : decode cX5_entry 0 = .ok (.iload_n 1, 1) := by decide +kernel
theorem dX5_entry_1 : decode cX5_entry 1 = .ok (.iconst 0, 1) := by decide +kernel
theorem dX5_entry_2 : decode cX5_entry 2 = .ok (.bipush 8, 2) := by decide +kernel
theorem dX5_entry_4 : decode cX5_entry 4 = .ok (.invokestatic 60, 3) := by decide +kernel
theorem dX5_entry_7 : decode cX5_entry 7 = .ok (.ifCond .ne 6, 3) := by decide +kernel
theorem dX5_entry_10 : decode cX5_entry 10 = .ok (.bipush (-101), 2) := by decide +kernel
theorem dX5_entry_12 : decode cX5_entry 12 = .ok (.ireturn, 1) := by decide +kernel
theorem dX5_entry_13 : decode cX5_entry 13 = .ok (.iload_n 2, 1) := by decide +kernel
theorem dX5_entry_14 : decode cX5_entry 14 = .ok (.sipush (-4000), 3) := by decide +kernel
theorem dX5_entry_17 : decode cX5_entry 17 = .ok (.sipush 4000, 3) := by decide +kernel
theorem dX5_entry_20 : decode cX5_entry 20 = .ok (.invokestatic 60, 3) := by decide +kernel
theorem dX5_entry_23 : decode cX5_entry 23 = .ok (.ifCond .ne 6, 3) := by decide +kernel
theorem dX5_entry_26 : decode cX5_entry 26 = .ok (.bipush (-102), 2) := by decide +kernel
theorem dX5_entry_28 : decode cX5_entry 28 = .ok (.ireturn, 1) := by decide +kernel
theorem dX5_entry_29 : decode cX5_entry 29 = .ok (.aload_n 0, 1) := by decide +kernel
theorem dX5_entry_30 : decode cX5_entry 30 = .ok (.getfield 30, 3) := by decide +kernel
theorem dX5_entry_33 : decode cX5_entry 33 = .ok (.iload_n 1, 1) := by decide +kernel
theorem dX5_entry_34 : decode cX5_entry 34 = .ok (.iaload, 1) := by decide +kernel
theorem dX5_entry_35 : decode cX5_entry 35 = .ok (.istore_n 3, 1) := by decide +kernel
theorem dX5_entry_36 : decode cX5_entry 36 = .ok (.aload_n 0, 1) := by decide +kernel
theorem dX5_entry_37 : decode cX5_entry 37 = .ok (.getfield 30, 3) := by decide +kernel
theorem dX5_entry_40 : decode cX5_entry 40 = .ok (.iload_n 1, 1) := by decide +kernel
theorem dX5_entry_41 : decode cX5_entry 41 = .ok (.iload_n 2, 1) := by decide +kernel
theorem dX5_entry_42 : decode cX5_entry 42 = .ok (.iastore, 1) := by decide +kernel
theorem dX5_entry_43 : decode cX5_entry 43 = .ok (.iload_n 3, 1) := by decide +kernel
theorem dX5_entry_44 : decode cX5_entry 44 = .ok (.ireturn, 1) := by decide +kernel
theorem dX5_matrix_0 : decode cX5_matrix 0 = .ok (.aload_n 0, 1) := by decide +kernel
theorem dX5_matrix_1 : decode cX5_matrix 1 = .ok (.iconst 5, 1) := by decide +kernel
theorem dX5_matrix_2 : decode cX5_matrix 2 = .ok (.invokevirtual 78, 3) := by decide +kernel
theorem dX5_matrix_5 : decode cX5_matrix 5 = .ok (.istore_n 1, 1) := by decide +kernel
theorem dX5_matrix_6 : decode cX5_matrix 6 = .ok (.iload_n 1, 1) := by decide +kernel
theorem dX5_matrix_7 : decode cX5_matrix 7 = .ok (.ifCond .eq 5, 3) := by decide +kernel
theorem dX5_matrix_10 : decode cX5_matrix 10 = .ok (.iload_n 1, 1) := by decide +kernel
theorem dX5_matrix_11 : decode cX5_matrix 11 = .ok (.ireturn, 1) := by decide +kernel
theorem dX5_matrix_12 : decode cX5_matrix 12 = .ok (.iconst 0, 1) := by decide +kernel
theorem dX5_matrix_13 : decode cX5_matrix 13 = .ok (.istore_n 2, 1) := by decide +kernel
theorem dX5_matrix_14 : decode cX5_matrix 14 = .ok (.iload_n 2, 1) := by decide +kernel
theorem dX5_matrix_15 : decode cX5_matrix 15 = .ok (.bipush 9, 2) := by decide +kernel
theorem dX5_matrix_17 : decode cX5_matrix 17 = .ok (.if_icmp .ge 29, 3) := by decide +kernel
theorem dX5_matrix_20 : decode cX5_matrix 20 = .ok (.aload_n 0, 1) := by decide +kernel
theorem dX5_matrix_21 : decode cX5_matrix 21 = .ok (.getfield 27, 3) := by decide +kernel
theorem dX5_matrix_24 : decode cX5_matrix 24 = .ok (.bipush 17, 2) := by decide +kernel
theorem dX5_matrix_26 : decode cX5_matrix 26 = .ok (.aload_n 0, 1) := by decide +kernel
theorem dX5_matrix_27 : decode cX5_matrix 27 = .ok (.getfield 64, 3) := by decide +kernel
theorem dX5_matrix_30 : decode cX5_matrix 30 = .ok (.imul, 1) := by decide +kernel
theorem dX5_matrix_31 : decode cX5_matrix 31 = .ok (.iload_n 2, 1) := by decide +kernel
theorem dX5_matrix_32 : decode cX5_matrix 32 = .ok (.iadd, 1) := by decide +kernel
theorem dX5_matrix_33 : decode cX5_matrix 33 = .ok (.aload_n 0, 1) := by decide +kernel
theorem dX5_matrix_34 : decode cX5_matrix 34 = .ok (.getfield 30, 3) := by decide +kernel
theorem dX5_matrix_37 : decode cX5_matrix 37 = .ok (.iload_n 2, 1) := by decide +kernel
theorem dX5_matrix_38 : decode cX5_matrix 38 = .ok (.iaload, 1) := by decide +kernel
theorem dX5_matrix_39 : decode cX5_matrix 39 = .ok (.iastore, 1) := by decide +kernel
theorem dX5_matrix_40 : decode cX5_matrix 40 = .ok (.iinc 2 1, 3) := by decide +kernel
theorem dX5_matrix_43 : decode cX5_matrix 43 = .ok (.goto (-29), 3) := by decide +kernel
theorem dX5_matrix_46 : decode cX5_matrix 46 = .ok (.aload_n 0, 1) := by decide +kernel
theorem dX5_matrix_47 : decode cX5_matrix 47 = .ok (.iconst 5, 1) := by decide +kernel
theorem dX5_matrix_48 : decode cX5_matrix 48 = .ok (.invokevirtual 82, 3) := by decide +kernel
theorem dX5_matrix_51 : decode cX5_matrix 51 = .ok (.ireturn, 1) := by decide +kernel
theorem dX5_point_0 : decode cX5_point 0 = .ok (.iload_n 1, 1) := by decide +kernel
theorem dX5_point_1 : decode cX5_point 1 = .ok (.iconst 0, 1) := by decide +kernel
theorem dX5_point_2 : decode cX5_point 2 = .ok (.bipush 16, 2) := by decide +kernel
theorem dX5_point_4 : decode cX5_point 4 = .ok (.invokestatic 60, 3) := by decide +kernel
theorem dX5_point_7 : decode cX5_point 7 = .ok (.ifCond .ne 6, 3) := by decide +kernel
theorem dX5_point_10 : decode cX5_point 10 = .ok (.bipush (-101), 2) := by decide +kernel
theorem dX5_point_12 : decode cX5_point 12 = .ok (.ireturn, 1) := by decide +kernel
theorem dX5_point_13 : decode cX5_point 13 = .ok (.iload_n 2, 1) := by decide +kernel
theorem dX5_point_14 : decode cX5_point 14 = .ok (.iconst 0, 1) := by decide +kernel
theorem dX5_point_15 : decode cX5_point 15 = .ok (.sipush 4095, 3) := by decide +kernel
theorem dX5_point_18 : decode cX5_point 18 = .ok (.invokestatic 60, 3) := by decide +kernel
theorem dX5_point_21 : decode cX5_point 21 = .ok (.ifCond .ne 6, 3) := by decide +kernel
theorem dX5_point_24 : decode cX5_point 24 = .ok (.bipush (-102), 2) := by decide +kernel
theorem dX5_point_26 : decode cX5_point 26 = .ok (.ireturn, 1) := by decide +kernel
theorem dX5_point_27 : decode cX5_point 27 = .ok (.aload_n 0, 1) := by decide +kernel
theorem dX5_point_28 : decode cX5_point 28 = .ok (.getfield 33, 3) := by decide +kernel
theorem dX5_point_31 : decode cX5_point 31 = .ok (.iload_n 1, 1) := by decide +kernel
theorem dX5_point_32 : decode cX5_point 32 = .ok (.iaload, 1) := by decide +kernel
theorem dX5_point_33 : decode cX5_point 33 = .ok (.istore_n 3, 1) := by decide +kernel
theorem dX5_point_34 : decode cX5_point 34 = .ok (.aload_n 0, 1) := by decide +kernel
theorem dX5_point_35 : decode cX5_point 35 = .ok (.getfield 33, 3) := by decide +kernel
theorem dX5_point_38 : decode cX5_point 38 = .ok (.iload_n 1, 1) := by decide +kernel
theorem dX5_point_39 : decode cX5_point 39 = .ok (.iload_n 2, 1) := by decide +kernel
theorem dX5_point_40 : decode cX5_point 40 = .ok (.iastore, 1) := by decide +kernel
theorem dX5_point_41 : decode cX5_point 41 = .ok (.iload_n 3, 1) := by decide +kernel
theorem dX5_point_42 : decode cX5_point 42 = .ok (.ireturn, 1) := by decide +kernel
theorem dX5_curve_0 : decode cX5_curve 0 = .ok (.iconst 1, 1) := by decide +kernel
theorem dX5_curve_1 : decode cX5_curve 1 = .ok (.istore_n 1, 1) := by decide +kernel
theorem dX5_curve_2 : decode cX5_curve 2 = .ok (.iload_n 1, 1) := by decide +kernel
theorem dX5_curve_3 : decode cX5_curve 3 = .ok (.bipush 17, 2) := by decide +kernel
theorem dX5_curve_5 : decode cX5_curve 5 = .ok (.if_icmp .ge 29, 3) := by decide +kernel
theorem dX5_curve_8 : decode cX5_curve 8 = .ok (.aload_n 0, 1) := by decide +kernel
theorem dX5_curve_9 : decode cX5_curve 9 = .ok (.getfield 33, 3) := by decide +kernel
theorem dX5_curve_12 : decode cX5_curve 12 = .ok (.iload_n 1, 1) := by decide +kernel
theorem dX5_curve_13 : decode cX5_curve 13 = .ok (.iaload, 1) := by decide +kernel
theorem dX5_curve_14 : decode cX5_curve 14 = .ok (.aload_n 0, 1) := by decide +kernel
theorem dX5_curve_15 : decode cX5_curve 15 = .ok (.getfield 33, 3) := by decide +kernel
theorem dX5_curve_18 : decode cX5_curve 18 = .ok (.iload_n 1, 1) := by decide +kernel
theorem dX5_curve_19 : decode cX5_curve 19 = .ok (.iconst 1, 1) := by decide +kernel
theorem dX5_curve_20 : decode cX5_curve 20 = .ok (.isub, 1) := by decide +kernel
theorem dX5_curve_21 : decode cX5_curve 21 = .ok (.iaload, 1) := by decide +kernel
theorem dX5_curve_22 : decode cX5_curve 22 = .ok (.if_icmp .ge 6, 3) := by decide +kernel
theorem dX5_curve_25 : decode cX5_curve 25 = .ok (.bipush (-102), 2) := by decide +kernel
theorem dX5_curve_27 : decode cX5_curve 27 = .ok (.ireturn, 1) := by decide +kernel
theorem dX5_curve_28 : decode cX5_curve 28 = .ok (.iinc 1 1, 3) := by decide +kernel
theorem dX5_curve_31 : decode cX5_curve 31 = .ok (.goto (-29), 3) := by decide +kernel
theorem dX5_curve_34 : decode cX5_curve 34 = .ok (.aload_n 0, 1) := by decide +kernel
theorem dX5_curve_35 : decode cX5_curve 35 = .ok (.bipush 6, 2) := by decide +kernel
theorem dX5_curve_37 : decode cX5_curve 37 = .ok (.invokevirtual 78, 3) := by decide +kernel
theorem dX5_curve_40 : decode cX5_curve 40 = .ok (.istore_n 1, 1) := by decide +kernel
theorem dX5_curve_41 : decode cX5_curve 41 = .ok (.iload_n 1, 1) := by decide +kernel
theorem dX5_curve_42 : decode cX5_curve 42 = .ok (.ifCond .eq 5, 3) := by decide +kernel
theorem dX5_curve_45 : decode cX5_curve 45 = .ok (.iload_n 1, 1) := by decide +kernel
theorem dX5_curve_46 : decode cX5_curve 46 = .ok (.ireturn, 1) := by decide +kernel
theorem dX5_curve_47 : decode cX5_curve 47 = .ok (.iconst 0, 1) := by decide +kernel
theorem dX5_curve_48 : decode cX5_curve 48 = .ok (.istore_n 2, 1) := by decide +kernel
theorem dX5_curve_49 : decode cX5_curve 49 = .ok (.iload_n 2, 1) := by decide +kernel
theorem dX5_curve_50 : decode cX5_curve 50 = .ok (.bipush 17, 2) := by decide +kernel
theorem dX5_curve_52 : decode cX5_curve 52 = .ok (.if_icmp .ge 29, 3) := by decide +kernel
theorem dX5_curve_55 : decode cX5_curve 55 = .ok (.aload_n 0, 1) := by decide +kernel
theorem dX5_curve_56 : decode cX5_curve 56 = .ok (.getfield 27, 3) := by decide +kernel
theorem dX5_curve_59 : decode cX5_curve 59 = .ok (.bipush 17, 2) := by decide +kernel
theorem dX5_curve_61 : decode cX5_curve 61 = .ok (.aload_n 0, 1) := by decide +kernel
theorem dX5_curve_62 : decode cX5_curve 62 = .ok (.getfield 64, 3) := by decide +kernel
theorem dX5_curve_65 : decode cX5_curve 65 = .ok (.imul, 1) := by decide +kernel
theorem dX5_curve_66 : decode cX5_curve 66 = .ok (.iload_n 2, 1) := by decide +kernel
theorem dX5_curve_67 : decode cX5_curve 67 = .ok (.iadd, 1) := by decide +kernel
theorem dX5_curve_68 : decode cX5_curve 68 = .ok (.aload_n 0, 1) := by decide +kernel
theorem dX5_curve_69 : decode cX5_curve 69 = .ok (.getfield 33, 3) := by decide +kernel
theorem dX5_curve_72 : decode cX5_curve 72 = .ok (.iload_n 2, 1) := by decide +kernel
theorem dX5_curve_73 : decode cX5_curve 73 = .ok (.iaload, 1) := by decide +kernel
theorem dX5_curve_74 : decode cX5_curve 74 = .ok (.iastore, 1) := by decide +kernel
theorem dX5_curve_75 : decode cX5_curve 75 = .ok (.iinc 2 1, 3) := by decide +kernel
theorem dX5_curve_78 : decode cX5_curve 78 = .ok (.goto (-29), 3) := by decide +kernel
theorem dX5_curve_81 : decode cX5_curve 81 = .ok (.aload_n 0, 1) := by decide +kernel
theorem dX5_curve_82 : decode cX5_curve 82 = .ok (.bipush 6, 2) := by decide +kernel
theorem dX5_curve_84 : decode cX5_curve 84 = .ok (.invokevirtual 82, 3) := by decide +kernel
theorem dX5_curve_87 : decode cX5_curve 87 = .ok (.ireturn, 1) := by decide +kernel
theorem dX5_undo_0 : decode cX5_undo 0 = .ok (.aload_n 0, 1) := by decide +kernel
theorem dX5_undo_1 : decode cX5_undo 1 = .ok (.getfield 64, 3) := by decide +kernel
theorem dX5_undo_4 : decode cX5_undo 4 = .ok (.ifCond .ne 6, 3) := by decide +kernel
theorem dX5_undo_7 : decode cX5_undo 7 = .ok (.bipush (-103), 2) := by decide +kernel
theorem dX5_undo_9 : decode cX5_undo 9 = .ok (.ireturn, 1) := by decide +kernel
theorem dX5_undo_10 : decode cX5_undo 10 = .ok (.aload_n 0, 1) := by decide +kernel
theorem dX5_undo_11 : decode cX5_undo 11 = .ok (.dup, 1) := by decide +kernel
theorem dX5_undo_12 : decode cX5_undo 12 = .ok (.getfield 64, 3) := by decide +kernel
theorem dX5_undo_15 : decode cX5_undo 15 = .ok (.iconst 1, 1) := by decide +kernel
theorem dX5_undo_16 : decode cX5_undo 16 = .ok (.isub, 1) := by decide +kernel
theorem dX5_undo_17 : decode cX5_undo 17 = .ok (.putfield 64, 3) := by decide +kernel
theorem dX5_undo_20 : decode cX5_undo 20 = .ok (.aload_n 0, 1) := by decide +kernel
theorem dX5_undo_21 : decode cX5_undo 21 = .ok (.getfield 64, 3) := by decide +kernel
theorem dX5_undo_24 : decode cX5_undo 24 = .ok (.ireturn, 1) := by decide +kernel
theorem dX5_kind_0 : decode cX5_kind 0 = .ok (.iload_n 1, 1) := by decide +kernel
theorem dX5_kind_1 : decode cX5_kind 1 = .ok (.iconst 0, 1) := by decide +kernel
theorem dX5_kind_2 : decode cX5_kind 2 = .ok (.aload_n 0, 1) := by decide +kernel
theorem dX5_kind_3 : decode cX5_kind 3 = .ok (.getfield 64, 3) := by decide +kernel
theorem dX5_kind_6 : decode cX5_kind 6 = .ok (.iconst 1, 1) := by decide +kernel
theorem dX5_kind_7 : decode cX5_kind 7 = .ok (.isub, 1) := by decide +kernel
theorem dX5_kind_8 : decode cX5_kind 8 = .ok (.invokestatic 60, 3) := by decide +kernel
theorem dX5_kind_11 : decode cX5_kind 11 = .ok (.ifCond .eq 12, 3) := by decide +kernel
theorem dX5_kind_14 : decode cX5_kind 14 = .ok (.aload_n 0, 1) := by decide +kernel
theorem dX5_kind_15 : decode cX5_kind 15 = .ok (.getfield 24, 3) := by decide +kernel
theorem dX5_kind_18 : decode cX5_kind 18 = .ok (.iload_n 1, 1) := by decide +kernel
theorem dX5_kind_19 : decode cX5_kind 19 = .ok (.iaload, 1) := by decide +kernel
theorem dX5_kind_20 : decode cX5_kind 20 = .ok (.goto 4, 3) := by decide +kernel
theorem dX5_kind_23 : decode cX5_kind 23 = .ok (.iconst (-1), 1) := by decide +kernel
theorem dX5_kind_24 : decode cX5_kind 24 = .ok (.ireturn, 1) := by decide +kernel
theorem dX5_measure_0 : decode cX5_measure 0 = .ok (.aload_n 0, 1) := by decide +kernel
theorem dX5_measure_1 : decode cX5_measure 1 = .ok (.getfield 36, 3) := by decide +kernel
theorem dX5_measure_4 : decode cX5_measure 4 = .ok (.iconst 0, 1) := by decide +kernel
theorem dX5_measure_5 : decode cX5_measure 5 = .ok (.aload_n 0, 1) := by decide +kernel
theorem dX5_measure_6 : decode cX5_measure 6 = .ok (.getfield 7, 3) := by decide +kernel
theorem dX5_measure_9 : decode cX5_measure 9 = .ok (.iastore, 1) := by decide +kernel
theorem dX5_measure_10 : decode cX5_measure 10 = .ok (.aload_n 0, 1) := by decide +kernel
theorem dX5_measure_11 : decode cX5_measure 11 = .ok (.getfield 39, 3) := by decide +kernel
theorem dX5_measure_14 : decode cX5_measure 14 = .ok (.iconst 0, 1) := by decide +kernel
theorem dX5_measure_15 : decode cX5_measure 15 = .ok (.aload_n 0, 1) := by decide +kernel
theorem dX5_measure_16 : decode cX5_measure 16 = .ok (.getfield 13, 3) := by decide +kernel
theorem dX5_measure_19 : decode cX5_measure 19 = .ok (.iastore, 1) := by decide +kernel
theorem dX5_measure_20 : decode cX5_measure 20 = .ok (.aload_n 0, 1) := by decide +kernel
theorem dX5_measure_21 : decode cX5_measure 21 = .ok (.getfield 42, 3) := by decide +kernel
theorem dX5_measure_24 : decode cX5_measure 24 = .ok (.iconst 0, 1) := by decide +kernel
theorem dX5_measure_25 : decode cX5_measure 25 = .ok (.iconst 1, 1) := by decide +kernel
theorem dX5_measure_26 : decode cX5_measure 26 = .ok (.iastore, 1) := by decide +kernel
theorem dX5_measure_27 : decode cX5_measure 27 = .ok (.aload_n 0, 1) := by decide +kernel
theorem dX5_measure_28 : decode cX5_measure 28 = .ok (.getfield 45, 3) := by decide +kernel
theorem dX5_measure_31 : decode cX5_measure 31 = .ok (.iconst 0, 1) := by decide +kernel
theorem dX5_measure_32 : decode cX5_measure 32 = .ok (.iconst 0, 1) := by decide +kernel
theorem dX5_measure_33 : decode cX5_measure 33 = .ok (.iastore, 1) := by decide +kernel
theorem dX5_measure_34 : decode cX5_measure 34 = .ok (.aload_n 0, 1) := by decide +kernel
theorem dX5_measure_35 : decode cX5_measure 35 = .ok (.getfield 48, 3) := by decide +kernel
theorem dX5_measure_38 : decode cX5_measure 38 = .ok (.iconst 0, 1) := by decide +kernel
theorem dX5_measure_39 : decode cX5_measure 39 = .ok (.iconst 1, 1) := by decide +kernel
theorem dX5_measure_40 : decode cX5_measure 40 = .ok (.iastore, 1) := by decide +kernel
theorem dX5_measure_41 : decode cX5_measure 41 = .ok (.iconst 0, 1) := by decide +kernel
theorem dX5_measure_42 : decode cX5_measure 42 = .ok (.istore_n 1, 1) := by decide +kernel
theorem dX5_measure_43 : decode cX5_measure 43 = .ok (.iload_n 1, 1) := by decide +kernel
theorem dX5_measure_44 : decode cX5_measure 44 = .ok (.aload_n 0, 1) := by decide +kernel
theorem dX5_measure_45 : decode cX5_measure 45 = .ok (.getfield 64, 3) := by decide +kernel
theorem dX5_measure_48 : decode cX5_measure 48 = .ok (.if_icmp .ge 210, 3) := by decide +kernel
theorem dX5_measure_51 : decode cX5_measure 51 = .ok (.aload_n 0, 1) := by decide +kernel
theorem dX5_measure_52 : decode cX5_measure 52 = .ok (.getfield 24, 3) := by decide +kernel
theorem dX5_measure_55 : decode cX5_measure 55 = .ok (.iload_n 1, 1) := by decide +kernel
theorem dX5_measure_56 : decode cX5_measure 56 = .ok (.iaload, 1) := by decide +kernel
theorem dX5_measure_57 : decode cX5_measure 57 = .ok (.bipush 7, 2) := by decide +kernel
theorem dX5_measure_59 : decode cX5_measure 59 = .ok (.if_icmp .ne 7, 3) := by decide +kernel
theorem dX5_measure_62 : decode cX5_measure 62 = .ok (.iconst 1, 1) := by decide +kernel
theorem dX5_measure_63 : decode cX5_measure 63 = .ok (.goto 4, 3) := by decide +kernel
theorem dX5_measure_66 : decode cX5_measure 66 = .ok (.iconst 0, 1) := by decide +kernel
theorem dX5_measure_67 : decode cX5_measure 67 = .ok (.istore_n 2, 1) := by decide +kernel
theorem dX5_measure_68 : decode cX5_measure 68 = .ok (.aload_n 0, 1) := by decide +kernel
theorem dX5_measure_69 : decode cX5_measure 69 = .ok (.getfield 36, 3) := by decide +kernel
theorem dX5_measure_72 : decode cX5_measure 72 = .ok (.iload_n 1, 1) := by decide +kernel
theorem dX5_measure_73 : decode cX5_measure 73 = .ok (.iconst 1, 1) := by decide +kernel
theorem dX5_measure_74 : decode cX5_measure 74 = .ok (.iadd, 1) := by decide +kernel
theorem dX5_measure_75 : decode cX5_measure 75 = .ok (.iload_n 2, 1) := by decide +kernel
theorem dX5_measure_76 : decode cX5_measure 76 = .ok (.ifCond .eq 14, 3) := by decide +kernel
theorem dX5_measure_79 : decode cX5_measure 79 = .ok (.aload_n 0, 1) := by decide +kernel
theorem dX5_measure_80 : decode cX5_measure 80 = .ok (.getfield 36, 3) := by decide +kernel
theorem dX5_measure_83 : decode cX5_measure 83 = .ok (.iload_n 1, 1) := by decide +kernel
theorem dX5_measure_84 : decode cX5_measure 84 = .ok (.iaload, 1) := by decide +kernel
theorem dX5_measure_85 : decode cX5_measure 85 = .ok (.iconst 2, 1) := by decide +kernel
theorem dX5_measure_86 : decode cX5_measure 86 = .ok (.idiv, 1) := by decide +kernel
theorem dX5_measure_87 : decode cX5_measure 87 = .ok (.goto 9, 3) := by decide +kernel
theorem dX5_measure_90 : decode cX5_measure 90 = .ok (.aload_n 0, 1) := by decide +kernel
theorem dX5_measure_91 : decode cX5_measure 91 = .ok (.getfield 36, 3) := by decide +kernel
theorem dX5_measure_94 : decode cX5_measure 94 = .ok (.iload_n 1, 1) := by decide +kernel
theorem dX5_measure_95 : decode cX5_measure 95 = .ok (.iaload, 1) := by decide +kernel
theorem dX5_measure_96 : decode cX5_measure 96 = .ok (.iastore, 1) := by decide +kernel
theorem dX5_measure_97 : decode cX5_measure 97 = .ok (.aload_n 0, 1) := by decide +kernel
theorem dX5_measure_98 : decode cX5_measure 98 = .ok (.getfield 39, 3) := by decide +kernel
theorem dX5_measure_101 : decode cX5_measure 101 = .ok (.iload_n 1, 1) := by decide +kernel
theorem dX5_measure_102 : decode cX5_measure 102 = .ok (.iconst 1, 1) := by decide +kernel
theorem dX5_measure_103 : decode cX5_measure 103 = .ok (.iadd, 1) := by decide +kernel
theorem dX5_measure_104 : decode cX5_measure 104 = .ok (.iload_n 2, 1) := by decide +kernel
theorem dX5_measure_105 : decode cX5_measure 105 = .ok (.ifCond .eq 14, 3) := by decide +kernel
theorem dX5_measure_108 : decode cX5_measure 108 = .ok (.aload_n 0, 1) := by decide +kernel
theorem dX5_measure_109 : decode cX5_measure 109 = .ok (.getfield 39, 3) := by decide +kernel
theorem dX5_measure_112 : decode cX5_measure 112 = .ok (.iload_n 1, 1) := by decide +kernel
theorem dX5_measure_113 : decode cX5_measure 113 = .ok (.iaload, 1) := by decide +kernel
theorem dX5_measure_114 : decode cX5_measure 114 = .ok (.iconst 2, 1) := by decide +kernel
theorem dX5_measure_115 : decode cX5_measure 115 = .ok (.idiv, 1) := by decide +kernel
theorem dX5_measure_116 : decode cX5_measure 116 = .ok (.goto 9, 3) := by decide +kernel
theorem dX5_measure_119 : decode cX5_measure 119 = .ok (.aload_n 0, 1) := by decide +kernel
theorem dX5_measure_120 : decode cX5_measure 120 = .ok (.getfield 39, 3) := by decide +kernel
theorem dX5_measure_123 : decode cX5_measure 123 = .ok (.iload_n 1, 1) := by decide +kernel
theorem dX5_measure_124 : decode cX5_measure 124 = .ok (.iaload, 1) := by decide +kernel
theorem dX5_measure_125 : decode cX5_measure 125 = .ok (.iastore, 1) := by decide +kernel
theorem dX5_measure_126 : decode cX5_measure 126 = .ok (.aload_n 0, 1) := by decide +kernel
theorem dX5_measure_127 : decode cX5_measure 127 = .ok (.getfield 42, 3) := by decide +kernel
theorem dX5_measure_130 : decode cX5_measure 130 = .ok (.iload_n 1, 1) := by decide +kernel
theorem dX5_measure_131 : decode cX5_measure 131 = .ok (.iconst 1, 1) := by decide +kernel
theorem dX5_measure_132 : decode cX5_measure 132 = .ok (.iadd, 1) := by decide +kernel
theorem dX5_measure_133 : decode cX5_measure 133 = .ok (.aload_n 0, 1) := by decide +kernel
theorem dX5_measure_134 : decode cX5_measure 134 = .ok (.getfield 24, 3) := by decide +kernel
theorem dX5_measure_137 : decode cX5_measure 137 = .ok (.iload_n 1, 1) := by decide +kernel
theorem dX5_measure_138 : decode cX5_measure 138 = .ok (.iaload, 1) := by decide +kernel
theorem dX5_measure_139 : decode cX5_measure 139 = .ok (.iconst 4, 1) := by decide +kernel
theorem dX5_measure_140 : decode cX5_measure 140 = .ok (.if_icmp .ne 7, 3) := by decide +kernel
theorem dX5_measure_143 : decode cX5_measure 143 = .ok (.iconst 3, 1) := by decide +kernel
theorem dX5_measure_144 : decode cX5_measure 144 = .ok (.goto 9, 3) := by decide +kernel
theorem dX5_measure_147 : decode cX5_measure 147 = .ok (.aload_n 0, 1) := by decide +kernel
theorem dX5_measure_148 : decode cX5_measure 148 = .ok (.getfield 42, 3) := by decide +kernel
theorem dX5_measure_151 : decode cX5_measure 151 = .ok (.iload_n 1, 1) := by decide +kernel
theorem dX5_measure_152 : decode cX5_measure 152 = .ok (.iaload, 1) := by decide +kernel
theorem dX5_measure_153 : decode cX5_measure 153 = .ok (.iastore, 1) := by decide +kernel
theorem dX5_measure_154 : decode cX5_measure 154 = .ok (.aload_n 0, 1) := by decide +kernel
theorem dX5_measure_155 : decode cX5_measure 155 = .ok (.getfield 24, 3) := by decide +kernel
theorem dX5_measure_158 : decode cX5_measure 158 = .ok (.iload_n 1, 1) := by decide +kernel
theorem dX5_measure_159 : decode cX5_measure 159 = .ok (.iaload, 1) := by decide +kernel
theorem dX5_measure_160 : decode cX5_measure 160 = .ok (.iconst 2, 1) := by decide +kernel
theorem dX5_measure_161 : decode cX5_measure 161 = .ok (.if_icmp .eq 13, 3) := by decide +kernel
theorem dX5_measure_164 : decode cX5_measure 164 = .ok (.aload_n 0, 1) := by decide +kernel
theorem dX5_measure_165 : decode cX5_measure 165 = .ok (.getfield 24, 3) := by decide +kernel
theorem dX5_measure_168 : decode cX5_measure 168 = .ok (.iload_n 1, 1) := by decide +kernel
theorem dX5_measure_169 : decode cX5_measure 169 = .ok (.iaload, 1) := by decide +kernel
theorem dX5_measure_170 : decode cX5_measure 170 = .ok (.iconst 3, 1) := by decide +kernel
theorem dX5_measure_171 : decode cX5_measure 171 = .ok (.if_icmp .ne 7, 3) := by decide +kernel
theorem dX5_measure_174 : decode cX5_measure 174 = .ok (.iconst 2, 1) := by decide +kernel
theorem dX5_measure_175 : decode cX5_measure 175 = .ok (.goto 31, 3) := by decide +kernel
theorem dX5_measure_178 : decode cX5_measure 178 = .ok (.aload_n 0, 1) := by decide +kernel
theorem dX5_measure_179 : decode cX5_measure 179 = .ok (.getfield 24, 3) := by decide +kernel
theorem dX5_measure_182 : decode cX5_measure 182 = .ok (.iload_n 1, 1) := by decide +kernel
theorem dX5_measure_183 : decode cX5_measure 183 = .ok (.iaload, 1) := by decide +kernel
theorem dX5_measure_184 : decode cX5_measure 184 = .ok (.iconst 4, 1) := by decide +kernel
theorem dX5_measure_185 : decode cX5_measure 185 = .ok (.if_icmp .ne 7, 3) := by decide +kernel
theorem dX5_measure_188 : decode cX5_measure 188 = .ok (.iconst 1, 1) := by decide +kernel
theorem dX5_measure_189 : decode cX5_measure 189 = .ok (.goto 17, 3) := by decide +kernel
theorem dX5_measure_192 : decode cX5_measure 192 = .ok (.iload_n 2, 1) := by decide +kernel
theorem dX5_measure_193 : decode cX5_measure 193 = .ok (.ifCond .eq 12, 3) := by decide +kernel
theorem dX5_measure_196 : decode cX5_measure 196 = .ok (.aload_n 0, 1) := by decide +kernel
theorem dX5_measure_197 : decode cX5_measure 197 = .ok (.getfield 48, 3) := by decide +kernel
theorem dX5_measure_200 : decode cX5_measure 200 = .ok (.iload_n 1, 1) := by decide +kernel
theorem dX5_measure_201 : decode cX5_measure 201 = .ok (.iaload, 1) := by decide +kernel
theorem dX5_measure_202 : decode cX5_measure 202 = .ok (.goto 4, 3) := by decide +kernel
theorem dX5_measure_205 : decode cX5_measure 205 = .ok (.iconst 0, 1) := by decide +kernel
theorem dX5_measure_206 : decode cX5_measure 206 = .ok (.istore_n 3, 1) := by decide +kernel
theorem dX5_measure_207 : decode cX5_measure 207 = .ok (.aload_n 0, 1) := by decide +kernel
theorem dX5_measure_208 : decode cX5_measure 208 = .ok (.getfield 45, 3) := by decide +kernel
theorem dX5_measure_211 : decode cX5_measure 211 = .ok (.iload_n 1, 1) := by decide +kernel
theorem dX5_measure_212 : decode cX5_measure 212 = .ok (.iconst 1, 1) := by decide +kernel
theorem dX5_measure_213 : decode cX5_measure 213 = .ok (.iadd, 1) := by decide +kernel
theorem dX5_measure_214 : decode cX5_measure 214 = .ok (.aload_n 0, 1) := by decide +kernel
theorem dX5_measure_215 : decode cX5_measure 215 = .ok (.getfield 45, 3) := by decide +kernel
theorem dX5_measure_218 : decode cX5_measure 218 = .ok (.iload_n 1, 1) := by decide +kernel
theorem dX5_measure_219 : decode cX5_measure 219 = .ok (.iaload, 1) := by decide +kernel
theorem dX5_measure_220 : decode cX5_measure 220 = .ok (.iload_n 3, 1) := by decide +kernel
theorem dX5_measure_221 : decode cX5_measure 221 = .ok (.iadd, 1) := by decide +kernel
theorem dX5_measure_222 : decode cX5_measure 222 = .ok (.iastore, 1) := by decide +kernel
theorem dX5_measure_223 : decode cX5_measure 223 = .ok (.aload_n 0, 1) := by decide +kernel
theorem dX5_measure_224 : decode cX5_measure 224 = .ok (.getfield 48, 3) := by decide +kernel
theorem dX5_measure_227 : decode cX5_measure 227 = .ok (.iload_n 1, 1) := by decide +kernel
theorem dX5_measure_228 : decode cX5_measure 228 = .ok (.iconst 1, 1) := by decide +kernel
theorem dX5_measure_229 : decode cX5_measure 229 = .ok (.iadd, 1) := by decide +kernel
theorem dX5_measure_230 : decode cX5_measure 230 = .ok (.iload_n 2, 1) := by decide +kernel
theorem dX5_measure_231 : decode cX5_measure 231 = .ok (.ifCond .eq 14, 3) := by decide +kernel
theorem dX5_measure_234 : decode cX5_measure 234 = .ok (.iconst 2, 1) := by decide +kernel
theorem dX5_measure_235 : decode cX5_measure 235 = .ok (.aload_n 0, 1) := by decide +kernel
theorem dX5_measure_236 : decode cX5_measure 236 = .ok (.getfield 48, 3) := by decide +kernel
theorem dX5_measure_239 : decode cX5_measure 239 = .ok (.iload_n 1, 1) := by decide +kernel
theorem dX5_measure_240 : decode cX5_measure 240 = .ok (.iaload, 1) := by decide +kernel
theorem dX5_measure_241 : decode cX5_measure 241 = .ok (.imul, 1) := by decide +kernel
theorem dX5_measure_242 : decode cX5_measure 242 = .ok (.goto 9, 3) := by decide +kernel
theorem dX5_measure_245 : decode cX5_measure 245 = .ok (.aload_n 0, 1) := by decide +kernel
theorem dX5_measure_246 : decode cX5_measure 246 = .ok (.getfield 48, 3) := by decide +kernel
theorem dX5_measure_249 : decode cX5_measure 249 = .ok (.iload_n 1, 1) := by decide +kernel
theorem dX5_measure_250 : decode cX5_measure 250 = .ok (.iaload, 1) := by decide +kernel
theorem dX5_measure_251 : decode cX5_measure 251 = .ok (.iastore, 1) := by decide +kernel
theorem dX5_measure_252 : decode cX5_measure 252 = .ok (.iinc 1 1, 3) := by decide +kernel
theorem dX5_measure_255 : decode cX5_measure 255 = .ok (.goto (-212), 3) := by decide +kernel
theorem dX5_measure_258 : decode cX5_measure 258 = .ok (.return_, 1) := by decide +kernel
theorem dX5_colour_0 : decode cX5_colour 0 = .ok (.iload_n 0, 1) := by decide +kernel
theorem dX5_colour_1 : decode cX5_colour 1 = .ok (.iconst 2, 1) := by decide +kernel
theorem dX5_colour_2 : decode cX5_colour 2 = .ok (.irem, 1) := by decide +kernel
theorem dX5_colour_3 : decode cX5_colour 3 = .ok (.ifCond .ne 13, 3) := by decide +kernel
theorem dX5_colour_6 : decode cX5_colour 6 = .ok (.iload_n 1, 1) := by decide +kernel
theorem dX5_colour_7 : decode cX5_colour 7 = .ok (.iconst 2, 1) := by decide +kernel
theorem dX5_colour_8 : decode cX5_colour 8 = .ok (.irem, 1) := by decide +kernel
theorem dX5_colour_9 : decode cX5_colour 9 = .ok (.ifCond .ne 7, 3) := by decide +kernel
theorem dX5_colour_12 : decode cX5_colour 12 = .ok (.iconst 0, 1) := by decide +kernel
theorem dX5_colour_13 : decode cX5_colour 13 = .ok (.goto 22, 3) := by decide +kernel
theorem dX5_colour_16 : decode cX5_colour 16 = .ok (.iload_n 0, 1) := by decide +kernel
theorem dX5_colour_17 : decode cX5_colour 17 = .ok (.iconst 2, 1) := by decide +kernel
theorem dX5_colour_18 : decode cX5_colour 18 = .ok (.irem, 1) := by decide +kernel
theorem dX5_colour_19 : decode cX5_colour 19 = .ok (.iconst 1, 1) := by decide +kernel
theorem dX5_colour_20 : decode cX5_colour 20 = .ok (.if_icmp .ne 14, 3) := by decide +kernel
theorem dX5_colour_23 : decode cX5_colour 23 = .ok (.iload_n 1, 1) := by decide +kernel
theorem dX5_colour_24 : decode cX5_colour 24 = .ok (.iconst 2, 1) := by decide +kernel
theorem dX5_colour_25 : decode cX5_colour 25 = .ok (.irem, 1) := by decide +kernel
theorem dX5_colour_26 : decode cX5_colour 26 = .ok (.iconst 1, 1) := by decide +kernel
theorem dX5_colour_27 : decode cX5_colour 27 = .ok (.if_icmp .ne 7, 3) := by decide +kernel
theorem dX5_colour_30 : decode cX5_colour 30 = .ok (.iconst 2, 1) := by decide +kernel
theorem dX5_colour_31 : decode cX5_colour 31 = .ok (.goto 4, 3) := by decide +kernel
theorem dX5_colour_34 : decode cX5_colour 34 = .ok (.iconst 1, 1) := by decide +kernel
theorem dX5_colour_35 : decode cX5_colour 35 = .ok (.ireturn, 1) := by decide +kernel
theorem dX5_place_0 : decode cX5_place 0 = .ok (.sipush 768, 3) := by decide +kernel
theorem dX5_place_3 : decode cX5_place 3 = .ok (.iload_n 0, 1) := by decide +kernel
theorem dX5_place_4 : decode cX5_place 4 = .ok (.imul, 1) := by decide +kernel
theorem dX5_place_5 : decode cX5_place 5 = .ok (.iconst 3, 1) := by decide +kernel
theorem dX5_place_6 : decode cX5_place 6 = .ok (.bipush 16, 2) := by decide +kernel
theorem dX5_place_8 : decode cX5_place 8 = .ok (.iload_n 2, 1) := by decide +kernel
theorem dX5_place_9 : decode cX5_place 9 = .ok (.imul, 1) := by decide +kernel
theorem dX5_place_10 : decode cX5_place 10 = .ok (.iload_n 1, 1) := by decide +kernel
theorem dX5_place_11 : decode cX5_place 11 = .ok (.iadd, 1) := by decide +kernel
theorem dX5_place_12 : decode cX5_place 12 = .ok (.imul, 1) := by decide +kernel
theorem dX5_place_13 : decode cX5_place 13 = .ok (.iadd, 1) := by decide +kernel
theorem dX5_place_14 : decode cX5_place 14 = .ok (.iload_n 3, 1) := by decide +kernel
theorem dX5_place_15 : decode cX5_place 15 = .ok (.iadd, 1) := by decide +kernel
theorem dX5_place_16 : decode cX5_place 16 = .ok (.ireturn, 1) := by decide +kernel
theorem dX5_isPlace_0 : decode cX5_isPlace 0 = .ok (.iload_n 2, 1) := by decide +kernel
theorem dX5_isPlace_1 : decode cX5_isPlace 1 = .ok (.iconst 0, 1) := by decide +kernel
theorem dX5_isPlace_2 : decode cX5_isPlace 2 = .ok (.aload_n 0, 1) := by decide +kernel
theorem dX5_isPlace_3 : decode cX5_isPlace 3 = .ok (.getfield 36, 3) := by decide +kernel
theorem dX5_isPlace_6 : decode cX5_isPlace 6 = .ok (.iload_n 1, 1) := by decide +kernel
theorem dX5_isPlace_7 : decode cX5_isPlace 7 = .ok (.iaload, 1) := by decide +kernel
theorem dX5_isPlace_8 : decode cX5_isPlace 8 = .ok (.iconst 1, 1) := by decide +kernel
theorem dX5_isPlace_9 : decode cX5_isPlace 9 = .ok (.isub, 1) := by decide +kernel
theorem dX5_isPlace_10 : decode cX5_isPlace 10 = .ok (.invokestatic 60, 3) := by decide +kernel
theorem dX5_isPlace_13 : decode cX5_isPlace 13 = .ok (.ifCond .eq 23, 3) := by decide +kernel
theorem dX5_isPlace_16 : decode cX5_isPlace 16 = .ok (.iload_n 3, 1) := by decide +kernel
theorem dX5_isPlace_17 : decode cX5_isPlace 17 = .ok (.iconst 0, 1) := by decide +kernel
theorem dX5_isPlace_18 : decode cX5_isPlace 18 = .ok (.aload_n 0, 1) := by decide +kernel
theorem dX5_isPlace_19 : decode cX5_isPlace 19 = .ok (.getfield 39, 3) := by decide +kernel
theorem dX5_isPlace_22 : decode cX5_isPlace 22 = .ok (.iload_n 1, 1) := by decide +kernel
theorem dX5_isPlace_23 : decode cX5_isPlace 23 = .ok (.iaload, 1) := by decide +kernel
theorem dX5_isPlace_24 : decode cX5_isPlace 24 = .ok (.iconst 1, 1) := by decide +kernel
theorem dX5_isPlace_25 : decode cX5_isPlace 25 = .ok (.isub, 1) := by decide +kernel
theorem dX5_isPlace_26 : decode cX5_isPlace 26 = .ok (.invokestatic 60, 3) := by decide +kernel
theorem dX5_isPlace_29 : decode cX5_isPlace 29 = .ok (.ifCond .eq 7, 3) := by decide +kernel
theorem dX5_isPlace_32 : decode cX5_isPlace 32 = .ok (.iconst 1, 1) := by decide +kernel
theorem dX5_isPlace_33 : decode cX5_isPlace 33 = .ok (.goto 4, 3) := by decide +kernel
theorem dX5_isPlace_36 : decode cX5_isPlace 36 = .ok (.iconst 0, 1) := by decide +kernel
theorem dX5_isPlace_37 : decode cX5_isPlace 37 = .ok (.ireturn, 1) := by decide +kernel
theorem dX5_overX_0 : decode cX5_overX 0 = .ok (.iload_n 0, 1) := by decide +kernel
theorem dX5_overX_1 : decode cX5_overX 1 = .ok (.ifCond .ne 8, 3) := by decide +kernel
theorem dX5_overX_4 : decode cX5_overX 4 = .ok (.bipush (-2), 2) := by decide +kernel
theorem dX5_overX_6 : decode cX5_overX 6 = .ok (.goto 13, 3) := by decide +kernel
theorem dX5_overX_9 : decode cX5_overX 9 = .ok (.iload_n 0, 1) := by decide +kernel
theorem dX5_overX_10 : decode cX5_overX 10 = .ok (.iconst 1, 1) := by decide +kernel
theorem dX5_overX_11 : decode cX5_overX 11 = .ok (.if_icmp .ne 7, 3) := by decide +kernel
theorem dX5_overX_14 : decode cX5_overX 14 = .ok (.iconst 2, 1) := by decide +kernel
theorem dX5_overX_15 : decode cX5_overX 15 = .ok (.goto 4, 3) := by decide +kernel
theorem dX5_overX_18 : decode cX5_overX 18 = .ok (.iconst 0, 1) := by decide +kernel
theorem dX5_overX_19 : decode cX5_overX 19 = .ok (.ireturn, 1) := by decide +kernel
theorem dX5_overY_0 : decode cX5_overY 0 = .ok (.iload_n 0, 1) := by decide +kernel
theorem dX5_overY_1 : decode cX5_overY 1 = .ok (.iconst 2, 1) := by decide +kernel
theorem dX5_overY_2 : decode cX5_overY 2 = .ok (.if_icmp .ne 8, 3) := by decide +kernel
theorem dX5_overY_5 : decode cX5_overY 5 = .ok (.bipush (-2), 2) := by decide +kernel
theorem dX5_overY_7 : decode cX5_overY 7 = .ok (.goto 13, 3) := by decide +kernel
theorem dX5_overY_10 : decode cX5_overY 10 = .ok (.iload_n 0, 1) := by decide +kernel
theorem dX5_overY_11 : decode cX5_overY 11 = .ok (.iconst 3, 1) := by decide +kernel
theorem dX5_overY_12 : decode cX5_overY 12 = .ok (.if_icmp .ne 7, 3) := by decide +kernel
theorem dX5_overY_15 : decode cX5_overY 15 = .ok (.iconst 2, 1) := by decide +kernel
theorem dX5_overY_16 : decode cX5_overY 16 = .ok (.goto 4, 3) := by decide +kernel
theorem dX5_overY_19 : decode cX5_overY 19 = .ok (.iconst 0, 1) := by decide +kernel
theorem dX5_overY_20 : decode cX5_overY 20 = .ok (.ireturn, 1) := by decide +kernel
theorem dX5_mended_0 : decode cX5_mended 0 = .ok (.aload_n 0, 1) := by decide +kernel
theorem dX5_mended_1 : decode cX5_mended 1 = .ok (.getfield 51, 3) := by decide +kernel
theorem dX5_mended_4 : decode cX5_mended 4 = .ok (.iload_n 1, 1) := by decide +kernel
theorem dX5_mended_5 : decode cX5_mended 5 = .ok (.iload_n 2, 1) := by decide +kernel
theorem dX5_mended_6 : decode cX5_mended 6 = .ok (.iload_n 3, 1) := by decide +kernel
theorem dX5_mended_7 : decode cX5_mended 7 = .ok (.iconst 0, 1) := by decide +kernel
theorem dX5_mended_8 : decode cX5_mended 8 = .ok (.invokestatic 85, 3) := by decide +kernel
theorem dX5_mended_11 : decode cX5_mended 11 = .ok (.iaload, 1) := by decide +kernel
theorem dX5_mended_12 : decode cX5_mended 12 = .ok (.istore 4, 2) := by decide +kernel
theorem dX5_mended_14 : decode cX5_mended 14 = .ok (.aload_n 0, 1) := by decide +kernel
theorem dX5_mended_15 : decode cX5_mended 15 = .ok (.getfield 20, 3) := by decide +kernel
theorem dX5_mended_18 : decode cX5_mended 18 = .ok (.bipush 16, 2) := by decide +kernel
theorem dX5_mended_20 : decode cX5_mended 20 = .ok (.iload_n 3, 1) := by decide +kernel
theorem dX5_mended_21 : decode cX5_mended 21 = .ok (.imul, 1) := by decide +kernel
theorem dX5_mended_22 : decode cX5_mended 22 = .ok (.iload_n 2, 1) := by decide +kernel
theorem dX5_mended_23 : decode cX5_mended 23 = .ok (.iadd, 1) := by decide +kernel
theorem dX5_mended_24 : decode cX5_mended 24 = .ok (.baload, 1) := by decide +kernel
theorem dX5_mended_25 : decode cX5_mended 25 = .ok (.ifCond .ne 6, 3) := by decide +kernel
theorem dX5_mended_28 : decode cX5_mended 28 = .ok (.iload 4, 2) := by decide +kernel
theorem dX5_mended_30 : decode cX5_mended 30 = .ok (.ireturn, 1) := by decide +kernel
theorem dX5_mended_31 : decode cX5_mended 31 = .ok (.iconst 0, 1) := by decide +kernel
theorem dX5_mended_32 : decode cX5_mended 32 = .ok (.istore 5, 2) := by decide +kernel
theorem dX5_mended_34 : decode cX5_mended 34 = .ok (.iconst 0, 1) := by decide +kernel
theorem dX5_mended_35 : decode cX5_mended 35 = .ok (.istore 6, 2) := by decide +kernel
theorem dX5_mended_37 : decode cX5_mended 37 = .ok (.iconst 0, 1) := by decide +kernel
theorem dX5_mended_38 : decode cX5_mended 38 = .ok (.istore 7, 2) := by decide +kernel
theorem dX5_mended_40 : decode cX5_mended 40 = .ok (.iload 7, 2) := by decide +kernel
theorem dX5_mended_42 : decode cX5_mended 42 = .ok (.iconst 4, 1) := by decide +kernel
theorem dX5_mended_43 : decode cX5_mended 43 = .ok (.if_icmp .ge 77, 3) := by decide +kernel
theorem dX5_mended_46 : decode cX5_mended 46 = .ok (.iload_n 2, 1) := by decide +kernel
theorem dX5_mended_47 : decode cX5_mended 47 = .ok (.iload 7, 2) := by decide +kernel
theorem dX5_mended_49 : decode cX5_mended 49 = .ok (.invokestatic 89, 3) := by decide +kernel
theorem dX5_mended_52 : decode cX5_mended 52 = .ok (.iadd, 1) := by decide +kernel
theorem dX5_mended_53 : decode cX5_mended 53 = .ok (.istore 8, 2) := by decide +kernel
theorem dX5_mended_55 : decode cX5_mended 55 = .ok (.iload_n 3, 1) := by decide +kernel
theorem dX5_mended_56 : decode cX5_mended 56 = .ok (.iload 7, 2) := by decide +kernel
theorem dX5_mended_58 : decode cX5_mended 58 = .ok (.invokestatic 92, 3) := by decide +kernel
theorem dX5_mended_61 : decode cX5_mended 61 = .ok (.iadd, 1) := by decide +kernel
theorem dX5_mended_62 : decode cX5_mended 62 = .ok (.istore 9, 2) := by decide +kernel
theorem dX5_mended_64 : decode cX5_mended 64 = .ok (.aload_n 0, 1) := by decide +kernel
theorem dX5_mended_65 : decode cX5_mended 65 = .ok (.iload_n 1, 1) := by decide +kernel
theorem dX5_mended_66 : decode cX5_mended 66 = .ok (.iload 8, 2) := by decide +kernel
theorem dX5_mended_68 : decode cX5_mended 68 = .ok (.iload 9, 2) := by decide +kernel
theorem dX5_mended_70 : decode cX5_mended 70 = .ok (.invokevirtual 95, 3) := by decide +kernel
theorem dX5_mended_73 : decode cX5_mended 73 = .ok (.ifCond .eq 41, 3) := by decide +kernel
theorem dX5_mended_76 : decode cX5_mended 76 = .ok (.aload_n 0, 1) := by decide +kernel
theorem dX5_mended_77 : decode cX5_mended 77 = .ok (.getfield 20, 3) := by decide +kernel
theorem dX5_mended_80 : decode cX5_mended 80 = .ok (.bipush 16, 2) := by decide +kernel
theorem dX5_mended_82 : decode cX5_mended 82 = .ok (.iload 9, 2) := by decide +kernel
theorem dX5_mended_84 : decode cX5_mended 84 = .ok (.imul, 1) := by decide +kernel
theorem dX5_mended_85 : decode cX5_mended 85 = .ok (.iload 8, 2) := by decide +kernel
theorem dX5_mended_87 : decode cX5_mended 87 = .ok (.iadd, 1) := by decide +kernel
theorem dX5_mended_88 : decode cX5_mended 88 = .ok (.baload, 1) := by decide +kernel
theorem dX5_mended_89 : decode cX5_mended 89 = .ok (.ifCond .ne 25, 3) := by decide +kernel
theorem dX5_mended_92 : decode cX5_mended 92 = .ok (.iload 5, 2) := by decide +kernel
theorem dX5_mended_94 : decode cX5_mended 94 = .ok (.aload_n 0, 1) := by decide +kernel
theorem dX5_mended_95 : decode cX5_mended 95 = .ok (.getfield 51, 3) := by decide +kernel
theorem dX5_mended_98 : decode cX5_mended 98 = .ok (.iload_n 1, 1) := by decide +kernel
theorem dX5_mended_99 : decode cX5_mended 99 = .ok (.iload 8, 2) := by decide +kernel
theorem dX5_mended_101 : decode cX5_mended 101 = .ok (.iload 9, 2) := by decide +kernel
theorem dX5_mended_103 : decode cX5_mended 103 = .ok (.iconst 0, 1) := by decide +kernel
theorem dX5_mended_104 : decode cX5_mended 104 = .ok (.invokestatic 85, 3) := by decide +kernel
theorem dX5_mended_107 : decode cX5_mended 107 = .ok (.iaload, 1) := by decide +kernel
theorem dX5_mended_108 : decode cX5_mended 108 = .ok (.iadd, 1) := by decide +kernel
theorem dX5_mended_109 : decode cX5_mended 109 = .ok (.istore 5, 2) := by decide +kernel
theorem dX5_mended_111 : decode cX5_mended 111 = .ok (.iinc 6 1, 3) := by decide +kernel
theorem dX5_mended_114 : decode cX5_mended 114 = .ok (.iinc 7 1, 3) := by decide +kernel
theorem dX5_mended_117 : decode cX5_mended 117 = .ok (.goto (-77), 3) := by decide +kernel
theorem dX5_mended_120 : decode cX5_mended 120 = .ok (.iload 6, 2) := by decide +kernel
theorem dX5_mended_122 : decode cX5_mended 122 = .ok (.ifCond .ne 8, 3) := by decide +kernel
theorem dX5_mended_125 : decode cX5_mended 125 = .ok (.iload 4, 2) := by decide +kernel
theorem dX5_mended_127 : decode cX5_mended 127 = .ok (.goto 8, 3) := by decide +kernel
theorem dX5_mended_130 : decode cX5_mended 130 = .ok (.iload 5, 2) := by decide +kernel
theorem dX5_mended_132 : decode cX5_mended 132 = .ok (.iload 6, 2) := by decide +kernel
theorem dX5_mended_134 : decode cX5_mended 134 = .ok (.idiv, 1) := by decide +kernel
theorem dX5_mended_135 : decode cX5_mended 135 = .ok (.ireturn, 1) := by decide +kernel
theorem dX5_middle_0 : decode cX5_middle 0 = .ok (.aload_n 0, 1) := by decide +kernel
theorem dX5_middle_1 : decode cX5_middle 1 = .ok (.getfield 51, 3) := by decide +kernel
theorem dX5_middle_4 : decode cX5_middle 4 = .ok (.iload_n 1, 1) := by decide +kernel
theorem dX5_middle_5 : decode cX5_middle 5 = .ok (.iload_n 2, 1) := by decide +kernel
theorem dX5_middle_6 : decode cX5_middle 6 = .ok (.iload_n 3, 1) := by decide +kernel
theorem dX5_middle_7 : decode cX5_middle 7 = .ok (.iconst 0, 1) := by decide +kernel
theorem dX5_middle_8 : decode cX5_middle 8 = .ok (.invokestatic 85, 3) := by decide +kernel
theorem dX5_middle_11 : decode cX5_middle 11 = .ok (.iaload, 1) := by decide +kernel
theorem dX5_middle_12 : decode cX5_middle 12 = .ok (.istore 4, 2) := by decide +kernel
theorem dX5_middle_14 : decode cX5_middle 14 = .ok (.aload_n 0, 1) := by decide +kernel
theorem dX5_middle_15 : decode cX5_middle 15 = .ok (.getfield 57, 3) := by decide +kernel
theorem dX5_middle_18 : decode cX5_middle 18 = .ok (.iconst 4, 1) := by decide +kernel
theorem dX5_middle_19 : decode cX5_middle 19 = .ok (.iload 4, 2) := by decide +kernel
theorem dX5_middle_21 : decode cX5_middle 21 = .ok (.iastore, 1) := by decide +kernel
theorem dX5_middle_22 : decode cX5_middle 22 = .ok (.iconst 0, 1) := by decide +kernel
theorem dX5_middle_23 : decode cX5_middle 23 = .ok (.istore 5, 2) := by decide +kernel
theorem dX5_middle_25 : decode cX5_middle 25 = .ok (.iload 5, 2) := by decide +kernel
theorem dX5_middle_27 : decode cX5_middle 27 = .ok (.iconst 4, 1) := by decide +kernel
theorem dX5_middle_28 : decode cX5_middle 28 = .ok (.if_icmp .ge 65, 3) := by decide +kernel
theorem dX5_middle_31 : decode cX5_middle 31 = .ok (.iload_n 2, 1) := by decide +kernel
theorem dX5_middle_32 : decode cX5_middle 32 = .ok (.iload 5, 2) := by decide +kernel
theorem dX5_middle_34 : decode cX5_middle 34 = .ok (.invokestatic 89, 3) := by decide +kernel
theorem dX5_middle_37 : decode cX5_middle 37 = .ok (.iadd, 1) := by decide +kernel
theorem dX5_middle_38 : decode cX5_middle 38 = .ok (.istore 6, 2) := by decide +kernel
theorem dX5_middle_40 : decode cX5_middle 40 = .ok (.iload_n 3, 1) := by decide +kernel
theorem dX5_middle_41 : decode cX5_middle 41 = .ok (.iload 5, 2) := by decide +kernel
theorem dX5_middle_43 : decode cX5_middle 43 = .ok (.invokestatic 92, 3) := by decide +kernel
theorem dX5_middle_46 : decode cX5_middle 46 = .ok (.iadd, 1) := by decide +kernel
theorem dX5_middle_47 : decode cX5_middle 47 = .ok (.istore 7, 2) := by decide +kernel
theorem dX5_middle_49 : decode cX5_middle 49 = .ok (.aload_n 0, 1) := by decide +kernel
theorem dX5_middle_50 : decode cX5_middle 50 = .ok (.getfield 57, 3) := by decide +kernel
theorem dX5_middle_53 : decode cX5_middle 53 = .ok (.iload 5, 2) := by decide +kernel
theorem dX5_middle_55 : decode cX5_middle 55 = .ok (.aload_n 0, 1) := by decide +kernel
theorem dX5_middle_56 : decode cX5_middle 56 = .ok (.iload_n 1, 1) := by decide +kernel
theorem dX5_middle_57 : decode cX5_middle 57 = .ok (.iload 6, 2) := by decide +kernel
theorem dX5_middle_59 : decode cX5_middle 59 = .ok (.iload 7, 2) := by decide +kernel
theorem dX5_middle_61 : decode cX5_middle 61 = .ok (.invokevirtual 95, 3) := by decide +kernel
theorem dX5_middle_64 : decode cX5_middle 64 = .ok (.ifCond .eq 20, 3) := by decide +kernel
theorem dX5_middle_67 : decode cX5_middle 67 = .ok (.aload_n 0, 1) := by decide +kernel
theorem dX5_middle_68 : decode cX5_middle 68 = .ok (.getfield 51, 3) := by decide +kernel
theorem dX5_middle_71 : decode cX5_middle 71 = .ok (.iload_n 1, 1) := by decide +kernel
theorem dX5_middle_72 : decode cX5_middle 72 = .ok (.iload 6, 2) := by decide +kernel
theorem dX5_middle_74 : decode cX5_middle 74 = .ok (.iload 7, 2) := by decide +kernel
theorem dX5_middle_76 : decode cX5_middle 76 = .ok (.iconst 0, 1) := by decide +kernel
theorem dX5_middle_77 : decode cX5_middle 77 = .ok (.invokestatic 85, 3) := by decide +kernel
theorem dX5_middle_80 : decode cX5_middle 80 = .ok (.iaload, 1) := by decide +kernel
theorem dX5_middle_81 : decode cX5_middle 81 = .ok (.goto 5, 3) := by decide +kernel
theorem dX5_middle_84 : decode cX5_middle 84 = .ok (.iload 4, 2) := by decide +kernel
theorem dX5_middle_86 : decode cX5_middle 86 = .ok (.iastore, 1) := by decide +kernel
theorem dX5_middle_87 : decode cX5_middle 87 = .ok (.iinc 5 1, 3) := by decide +kernel
theorem dX5_middle_90 : decode cX5_middle 90 = .ok (.goto (-65), 3) := by decide +kernel
theorem dX5_middle_93 : decode cX5_middle 93 = .ok (.iconst 1, 1) := by decide +kernel
theorem dX5_middle_94 : decode cX5_middle 94 = .ok (.istore 5, 2) := by decide +kernel
theorem dX5_middle_96 : decode cX5_middle 96 = .ok (.iload 5, 2) := by decide +kernel
theorem dX5_middle_98 : decode cX5_middle 98 = .ok (.iconst 5, 1) := by decide +kernel
theorem dX5_middle_99 : decode cX5_middle 99 = .ok (.if_icmp .ge 72, 3) := by decide +kernel
theorem dX5_middle_102 : decode cX5_middle 102 = .ok (.aload_n 0, 1) := by decide +kernel
theorem dX5_middle_103 : decode cX5_middle 103 = .ok (.getfield 57, 3) := by decide +kernel
theorem dX5_middle_106 : decode cX5_middle 106 = .ok (.iload 5, 2) := by decide +kernel
theorem dX5_middle_108 : decode cX5_middle 108 = .ok (.iaload, 1) := by decide +kernel
theorem dX5_middle_109 : decode cX5_middle 109 = .ok (.istore 6, 2) := by decide +kernel
theorem dX5_middle_111 : decode cX5_middle 111 = .ok (.iload 5, 2) := by decide +kernel
theorem dX5_middle_113 : decode cX5_middle 113 = .ok (.istore 7, 2) := by decide +kernel
theorem dX5_middle_115 : decode cX5_middle 115 = .ok (.iload 7, 2) := by decide +kernel
theorem dX5_middle_117 : decode cX5_middle 117 = .ok (.ifCond .le 39, 3) := by decide +kernel
theorem dX5_middle_120 : decode cX5_middle 120 = .ok (.aload_n 0, 1) := by decide +kernel
theorem dX5_middle_121 : decode cX5_middle 121 = .ok (.getfield 57, 3) := by decide +kernel
theorem dX5_middle_124 : decode cX5_middle 124 = .ok (.iload 7, 2) := by decide +kernel
theorem dX5_middle_126 : decode cX5_middle 126 = .ok (.iconst 1, 1) := by decide +kernel
theorem dX5_middle_127 : decode cX5_middle 127 = .ok (.isub, 1) := by decide +kernel
theorem dX5_middle_128 : decode cX5_middle 128 = .ok (.iaload, 1) := by decide +kernel
theorem dX5_middle_129 : decode cX5_middle 129 = .ok (.iload 6, 2) := by decide +kernel
theorem dX5_middle_131 : decode cX5_middle 131 = .ok (.if_icmp .le 25, 3) := by decide +kernel
theorem dX5_middle_134 : decode cX5_middle 134 = .ok (.aload_n 0, 1) := by decide +kernel
theorem dX5_middle_135 : decode cX5_middle 135 = .ok (.getfield 57, 3) := by decide +kernel
theorem dX5_middle_138 : decode cX5_middle 138 = .ok (.iload 7, 2) := by decide +kernel
theorem dX5_middle_140 : decode cX5_middle 140 = .ok (.aload_n 0, 1) := by decide +kernel
theorem dX5_middle_141 : decode cX5_middle 141 = .ok (.getfield 57, 3) := by decide +kernel
theorem dX5_middle_144 : decode cX5_middle 144 = .ok (.iload 7, 2) := by decide +kernel
theorem dX5_middle_146 : decode cX5_middle 146 = .ok (.iconst 1, 1) := by decide +kernel
theorem dX5_middle_147 : decode cX5_middle 147 = .ok (.isub, 1) := by decide +kernel
theorem dX5_middle_148 : decode cX5_middle 148 = .ok (.iaload, 1) := by decide +kernel
theorem dX5_middle_149 : decode cX5_middle 149 = .ok (.iastore, 1) := by decide +kernel
theorem dX5_middle_150 : decode cX5_middle 150 = .ok (.iinc 7 (-1), 3) := by decide +kernel
theorem dX5_middle_153 : decode cX5_middle 153 = .ok (.goto (-38), 3) := by decide +kernel
theorem dX5_middle_156 : decode cX5_middle 156 = .ok (.aload_n 0, 1) := by decide +kernel
theorem dX5_middle_157 : decode cX5_middle 157 = .ok (.getfield 57, 3) := by decide +kernel
theorem dX5_middle_160 : decode cX5_middle 160 = .ok (.iload 7, 2) := by decide +kernel
theorem dX5_middle_162 : decode cX5_middle 162 = .ok (.iload 6, 2) := by decide +kernel
theorem dX5_middle_164 : decode cX5_middle 164 = .ok (.iastore, 1) := by decide +kernel
theorem dX5_middle_165 : decode cX5_middle 165 = .ok (.iinc 5 1, 3) := by decide +kernel
theorem dX5_middle_168 : decode cX5_middle 168 = .ok (.goto (-72), 3) := by decide +kernel
theorem dX5_middle_171 : decode cX5_middle 171 = .ok (.aload_n 0, 1) := by decide +kernel
theorem dX5_middle_172 : decode cX5_middle 172 = .ok (.getfield 57, 3) := by decide +kernel
theorem dX5_middle_175 : decode cX5_middle 175 = .ok (.iconst 2, 1) := by decide +kernel
theorem dX5_middle_176 : decode cX5_middle 176 = .ok (.iaload, 1) := by decide +kernel
theorem dX5_middle_177 : decode cX5_middle 177 = .ok (.ireturn, 1) := by decide +kernel
theorem dX5_coloured_0 : decode cX5_coloured 0 = .ok (.iload_n 2, 1) := by decide +kernel
theorem dX5_coloured_1 : decode cX5_coloured 1 = .ok (.iload_n 3, 1) := by decide +kernel
theorem dX5_coloured_2 : decode cX5_coloured 2 = .ok (.invokestatic 98, 3) := by decide +kernel
theorem dX5_coloured_5 : decode cX5_coloured 5 = .ok (.iload 4, 2) := by decide +kernel
theorem dX5_coloured_7 : decode cX5_coloured 7 = .ok (.if_icmp .ne 16, 3) := by decide +kernel
theorem dX5_coloured_10 : decode cX5_coloured 10 = .ok (.aload_n 0, 1) := by decide +kernel
theorem dX5_coloured_11 : decode cX5_coloured 11 = .ok (.getfield 51, 3) := by decide +kernel
theorem dX5_coloured_14 : decode cX5_coloured 14 = .ok (.iload_n 1, 1) := by decide +kernel
theorem dX5_coloured_15 : decode cX5_coloured 15 = .ok (.iload_n 2, 1) := by decide +kernel
theorem dX5_coloured_16 : decode cX5_coloured 16 = .ok (.iload_n 3, 1) := by decide +kernel
theorem dX5_coloured_17 : decode cX5_coloured 17 = .ok (.iconst 0, 1) := by decide +kernel
theorem dX5_coloured_18 : decode cX5_coloured 18 = .ok (.invokestatic 85, 3) := by decide +kernel
theorem dX5_coloured_21 : decode cX5_coloured 21 = .ok (.iaload, 1) := by decide +kernel
theorem dX5_coloured_22 : decode cX5_coloured 22 = .ok (.ireturn, 1) := by decide +kernel
theorem dX5_coloured_23 : decode cX5_coloured 23 = .ok (.iconst 0, 1) := by decide +kernel
theorem dX5_coloured_24 : decode cX5_coloured 24 = .ok (.istore 5, 2) := by decide +kernel
theorem dX5_coloured_26 : decode cX5_coloured 26 = .ok (.iconst 0, 1) := by decide +kernel
theorem dX5_coloured_27 : decode cX5_coloured 27 = .ok (.istore 6, 2) := by decide +kernel
theorem dX5_coloured_29 : decode cX5_coloured 29 = .ok (.iload_n 3, 1) := by decide +kernel
theorem dX5_coloured_30 : decode cX5_coloured 30 = .ok (.iconst 1, 1) := by decide +kernel
theorem dX5_coloured_31 : decode cX5_coloured 31 = .ok (.isub, 1) := by decide +kernel
theorem dX5_coloured_32 : decode cX5_coloured 32 = .ok (.istore 7, 2) := by decide +kernel
theorem dX5_coloured_34 : decode cX5_coloured 34 = .ok (.iload 7, 2) := by decide +kernel
theorem dX5_coloured_36 : decode cX5_coloured 36 = .ok (.iload_n 3, 1) := by decide +kernel
theorem dX5_coloured_37 : decode cX5_coloured 37 = .ok (.iconst 1, 1) := by decide +kernel
theorem dX5_coloured_38 : decode cX5_coloured 38 = .ok (.iadd, 1) := by decide +kernel
theorem dX5_coloured_39 : decode cX5_coloured 39 = .ok (.if_icmp .gt 86, 3) := by decide +kernel
theorem dX5_coloured_42 : decode cX5_coloured 42 = .ok (.iload_n 2, 1) := by decide +kernel
theorem dX5_coloured_43 : decode cX5_coloured 43 = .ok (.iconst 1, 1) := by decide +kernel
theorem dX5_coloured_44 : decode cX5_coloured 44 = .ok (.isub, 1) := by decide +kernel
theorem dX5_coloured_45 : decode cX5_coloured 45 = .ok (.istore 8, 2) := by decide +kernel
theorem dX5_coloured_47 : decode cX5_coloured 47 = .ok (.iload 8, 2) := by decide +kernel
theorem dX5_coloured_49 : decode cX5_coloured 49 = .ok (.iload_n 2, 1) := by decide +kernel
theorem dX5_coloured_50 : decode cX5_coloured 50 = .ok (.iconst 1, 1) := by decide +kernel
theorem dX5_coloured_51 : decode cX5_coloured 51 = .ok (.iadd, 1) := by decide +kernel
theorem dX5_coloured_52 : decode cX5_coloured 52 = .ok (.if_icmp .gt 67, 3) := by decide +kernel
theorem dX5_coloured_55 : decode cX5_coloured 55 = .ok (.aload_n 0, 1) := by decide +kernel
theorem dX5_coloured_56 : decode cX5_coloured 56 = .ok (.iload_n 1, 1) := by decide +kernel
theorem dX5_coloured_57 : decode cX5_coloured 57 = .ok (.iload 8, 2) := by decide +kernel
theorem dX5_coloured_59 : decode cX5_coloured 59 = .ok (.iload 7, 2) := by decide +kernel
theorem dX5_coloured_61 : decode cX5_coloured 61 = .ok (.invokevirtual 95, 3) := by decide +kernel
theorem dX5_coloured_64 : decode cX5_coloured 64 = .ok (.ifCond .eq 49, 3) := by decide +kernel
theorem dX5_coloured_67 : decode cX5_coloured 67 = .ok (.iload 8, 2) := by decide +kernel
theorem dX5_coloured_69 : decode cX5_coloured 69 = .ok (.iload 7, 2) := by decide +kernel
theorem dX5_coloured_71 : decode cX5_coloured 71 = .ok (.invokestatic 98, 3) := by decide +kernel
theorem dX5_coloured_74 : decode cX5_coloured 74 = .ok (.iload 4, 2) := by decide +kernel
theorem dX5_coloured_76 : decode cX5_coloured 76 = .ok (.if_icmp .ne 37, 3) := by decide +kernel
theorem dX5_coloured_79 : decode cX5_coloured 79 = .ok (.iload 8, 2) := by decide +kernel
theorem dX5_coloured_81 : decode cX5_coloured 81 = .ok (.iload_n 2, 1) := by decide +kernel
theorem dX5_coloured_82 : decode cX5_coloured 82 = .ok (.if_icmp .ne 9, 3) := by decide +kernel
theorem dX5_coloured_85 : decode cX5_coloured 85 = .ok (.iload 7, 2) := by decide +kernel
theorem dX5_coloured_87 : decode cX5_coloured 87 = .ok (.iload_n 3, 1) := by decide +kernel
theorem dX5_coloured_88 : decode cX5_coloured 88 = .ok (.if_icmp .eq 25, 3) := by decide +kernel
theorem dX5_coloured_91 : decode cX5_coloured 91 = .ok (.iload 5, 2) := by decide +kernel
theorem dX5_coloured_93 : decode cX5_coloured 93 = .ok (.aload_n 0, 1) := by decide +kernel
theorem dX5_coloured_94 : decode cX5_coloured 94 = .ok (.getfield 51, 3) := by decide +kernel
theorem dX5_coloured_97 : decode cX5_coloured 97 = .ok (.iload_n 1, 1) := by decide +kernel
theorem dX5_coloured_98 : decode cX5_coloured 98 = .ok (.iload 8, 2) := by decide +kernel
theorem dX5_coloured_100 : decode cX5_coloured 100 = .ok (.iload 7, 2) := by decide +kernel
theorem dX5_coloured_102 : decode cX5_coloured 102 = .ok (.iconst 0, 1) := by decide +kernel
theorem dX5_coloured_103 : decode cX5_coloured 103 = .ok (.invokestatic 85, 3) := by decide +kernel
theorem dX5_coloured_106 : decode cX5_coloured 106 = .ok (.iaload, 1) := by decide +kernel
theorem dX5_coloured_107 : decode cX5_coloured 107 = .ok (.iadd, 1) := by decide +kernel
theorem dX5_coloured_108 : decode cX5_coloured 108 = .ok (.istore 5, 2) := by decide +kernel
theorem dX5_coloured_110 : decode cX5_coloured 110 = .ok (.iinc 6 1, 3) := by decide +kernel
theorem dX5_coloured_113 : decode cX5_coloured 113 = .ok (.iinc 8 1, 3) := by decide +kernel
theorem dX5_coloured_116 : decode cX5_coloured 116 = .ok (.goto (-69), 3) := by decide +kernel
theorem dX5_coloured_119 : decode cX5_coloured 119 = .ok (.iinc 7 1, 3) := by decide +kernel
theorem dX5_coloured_122 : decode cX5_coloured 122 = .ok (.goto (-88), 3) := by decide +kernel
theorem dX5_coloured_125 : decode cX5_coloured 125 = .ok (.iload 6, 2) := by decide +kernel
theorem dX5_coloured_127 : decode cX5_coloured 127 = .ok (.ifCond .ne 7, 3) := by decide +kernel
theorem dX5_coloured_130 : decode cX5_coloured 130 = .ok (.iconst 0, 1) := by decide +kernel
theorem dX5_coloured_131 : decode cX5_coloured 131 = .ok (.goto 8, 3) := by decide +kernel
theorem dX5_coloured_134 : decode cX5_coloured 134 = .ok (.iload 5, 2) := by decide +kernel
theorem dX5_coloured_136 : decode cX5_coloured 136 = .ok (.iload 6, 2) := by decide +kernel
theorem dX5_coloured_138 : decode cX5_coloured 138 = .ok (.idiv, 1) := by decide +kernel
theorem dX5_coloured_139 : decode cX5_coloured 139 = .ok (.ireturn, 1) := by decide +kernel
theorem dX5_matrixed_0 : decode cX5_matrixed 0 = .ok (.iconst 0, 1) := by decide +kernel
theorem dX5_matrixed_1 : decode cX5_matrixed 1 = .ok (.istore 5, 2) := by decide +kernel
theorem dX5_matrixed_3 : decode cX5_matrixed 3 = .ok (.iconst 0, 1) := by decide +kernel
theorem dX5_matrixed_4 : decode cX5_matrixed 4 = .ok (.istore 6, 2) := by decide +kernel
theorem dX5_matrixed_6 : decode cX5_matrixed 6 = .ok (.iload 6, 2) := by decide +kernel
theorem dX5_matrixed_8 : decode cX5_matrixed 8 = .ok (.iconst 3, 1) := by decide +kernel
theorem dX5_matrixed_9 : decode cX5_matrixed 9 = .ok (.if_icmp .ge 45, 3) := by decide +kernel
theorem dX5_matrixed_12 : decode cX5_matrixed 12 = .ok (.iload 5, 2) := by decide +kernel
theorem dX5_matrixed_14 : decode cX5_matrixed 14 = .ok (.aload_n 0, 1) := by decide +kernel
theorem dX5_matrixed_15 : decode cX5_matrixed 15 = .ok (.getfield 27, 3) := by decide +kernel
theorem dX5_matrixed_18 : decode cX5_matrixed 18 = .ok (.bipush 17, 2) := by decide +kernel
theorem dX5_matrixed_20 : decode cX5_matrixed 20 = .ok (.iload_n 1, 1) := by decide +kernel
theorem dX5_matrixed_21 : decode cX5_matrixed 21 = .ok (.imul, 1) := by decide +kernel
theorem dX5_matrixed_22 : decode cX5_matrixed 22 = .ok (.iconst 3, 1) := by decide +kernel
theorem dX5_matrixed_23 : decode cX5_matrixed 23 = .ok (.iload 4, 2) := by decide +kernel
theorem dX5_matrixed_25 : decode cX5_matrixed 25 = .ok (.imul, 1) := by decide +kernel
theorem dX5_matrixed_26 : decode cX5_matrixed 26 = .ok (.iadd, 1) := by decide +kernel
theorem dX5_matrixed_27 : decode cX5_matrixed 27 = .ok (.iload 6, 2) := by decide +kernel
theorem dX5_matrixed_29 : decode cX5_matrixed 29 = .ok (.iadd, 1) := by decide +kernel
theorem dX5_matrixed_30 : decode cX5_matrixed 30 = .ok (.iaload, 1) := by decide +kernel
theorem dX5_matrixed_31 : decode cX5_matrixed 31 = .ok (.aload_n 0, 1) := by decide +kernel
theorem dX5_matrixed_32 : decode cX5_matrixed 32 = .ok (.getfield 51, 3) := by decide +kernel
theorem dX5_matrixed_35 : decode cX5_matrixed 35 = .ok (.iload_n 1, 1) := by decide +kernel
theorem dX5_matrixed_36 : decode cX5_matrixed 36 = .ok (.iload_n 2, 1) := by decide +kernel
theorem dX5_matrixed_37 : decode cX5_matrixed 37 = .ok (.iload_n 3, 1) := by decide +kernel
theorem dX5_matrixed_38 : decode cX5_matrixed 38 = .ok (.iload 6, 2) := by decide +kernel
theorem dX5_matrixed_40 : decode cX5_matrixed 40 = .ok (.invokestatic 85, 3) := by decide +kernel
theorem dX5_matrixed_43 : decode cX5_matrixed 43 = .ok (.iaload, 1) := by decide +kernel
theorem dX5_matrixed_44 : decode cX5_matrixed 44 = .ok (.imul, 1) := by decide +kernel
theorem dX5_matrixed_45 : decode cX5_matrixed 45 = .ok (.iadd, 1) := by decide +kernel
theorem dX5_matrixed_46 : decode cX5_matrixed 46 = .ok (.istore 5, 2) := by decide +kernel
theorem dX5_matrixed_48 : decode cX5_matrixed 48 = .ok (.iinc 6 1, 3) := by decide +kernel
theorem dX5_matrixed_51 : decode cX5_matrixed 51 = .ok (.goto (-45), 3) := by decide +kernel
theorem dX5_matrixed_54 : decode cX5_matrixed 54 = .ok (.iload 5, 2) := by decide +kernel
theorem dX5_matrixed_56 : decode cX5_matrixed 56 = .ok (.ifCond .ge 7, 3) := by decide +kernel
theorem dX5_matrixed_59 : decode cX5_matrixed 59 = .ok (.iconst 0, 1) := by decide +kernel
theorem dX5_matrixed_60 : decode cX5_matrixed 60 = .ok (.goto 9, 3) := by decide +kernel
theorem dX5_matrixed_63 : decode cX5_matrixed 63 = .ok (.iload 5, 2) := by decide +kernel
theorem dX5_matrixed_65 : decode cX5_matrixed 65 = .ok (.sipush 1000, 3) := by decide +kernel
theorem dX5_matrixed_68 : decode cX5_matrixed 68 = .ok (.idiv, 1) := by decide +kernel
theorem dX5_matrixed_69 : decode cX5_matrixed 69 = .ok (.ireturn, 1) := by decide +kernel
theorem dX5_curved_0 : decode cX5_curved 0 = .ok (.iload_n 2, 1) := by decide +kernel
theorem dX5_curved_1 : decode cX5_curved 1 = .ok (.sipush 256, 3) := by decide +kernel
theorem dX5_curved_4 : decode cX5_curved 4 = .ok (.idiv, 1) := by decide +kernel
theorem dX5_curved_5 : decode cX5_curved 5 = .ok (.istore_n 3, 1) := by decide +kernel
theorem dX5_curved_6 : decode cX5_curved 6 = .ok (.aload_n 0, 1) := by decide +kernel
theorem dX5_curved_7 : decode cX5_curved 7 = .ok (.getfield 27, 3) := by decide +kernel
theorem dX5_curved_10 : decode cX5_curved 10 = .ok (.bipush 17, 2) := by decide +kernel
theorem dX5_curved_12 : decode cX5_curved 12 = .ok (.iload_n 1, 1) := by decide +kernel
theorem dX5_curved_13 : decode cX5_curved 13 = .ok (.imul, 1) := by decide +kernel
theorem dX5_curved_14 : decode cX5_curved 14 = .ok (.iload_n 3, 1) := by decide +kernel
theorem dX5_curved_15 : decode cX5_curved 15 = .ok (.iadd, 1) := by decide +kernel
theorem dX5_curved_16 : decode cX5_curved 16 = .ok (.iaload, 1) := by decide +kernel
theorem dX5_curved_17 : decode cX5_curved 17 = .ok (.istore 4, 2) := by decide +kernel
theorem dX5_curved_19 : decode cX5_curved 19 = .ok (.iload 4, 2) := by decide +kernel
theorem dX5_curved_21 : decode cX5_curved 21 = .ok (.aload_n 0, 1) := by decide +kernel
theorem dX5_curved_22 : decode cX5_curved 22 = .ok (.getfield 27, 3) := by decide +kernel
theorem dX5_curved_25 : decode cX5_curved 25 = .ok (.bipush 17, 2) := by decide +kernel
theorem dX5_curved_27 : decode cX5_curved 27 = .ok (.iload_n 1, 1) := by decide +kernel
theorem dX5_curved_28 : decode cX5_curved 28 = .ok (.imul, 1) := by decide +kernel
theorem dX5_curved_29 : decode cX5_curved 29 = .ok (.iload_n 3, 1) := by decide +kernel
theorem dX5_curved_30 : decode cX5_curved 30 = .ok (.iadd, 1) := by decide +kernel
theorem dX5_curved_31 : decode cX5_curved 31 = .ok (.iconst 1, 1) := by decide +kernel
theorem dX5_curved_32 : decode cX5_curved 32 = .ok (.iadd, 1) := by decide +kernel
theorem dX5_curved_33 : decode cX5_curved 33 = .ok (.iaload, 1) := by decide +kernel
theorem dX5_curved_34 : decode cX5_curved 34 = .ok (.iload 4, 2) := by decide +kernel
theorem dX5_curved_36 : decode cX5_curved 36 = .ok (.isub, 1) := by decide +kernel
theorem dX5_curved_37 : decode cX5_curved 37 = .ok (.iload_n 2, 1) := by decide +kernel
theorem dX5_curved_38 : decode cX5_curved 38 = .ok (.sipush 256, 3) := by decide +kernel
theorem dX5_curved_41 : decode cX5_curved 41 = .ok (.irem, 1) := by decide +kernel
theorem dX5_curved_42 : decode cX5_curved 42 = .ok (.imul, 1) := by decide +kernel
theorem dX5_curved_43 : decode cX5_curved 43 = .ok (.sipush 256, 3) := by decide +kernel
theorem dX5_curved_46 : decode cX5_curved 46 = .ok (.idiv, 1) := by decide +kernel
theorem dX5_curved_47 : decode cX5_curved 47 = .ok (.iadd, 1) := by decide +kernel
theorem dX5_curved_48 : decode cX5_curved 48 = .ok (.ireturn, 1) := by decide +kernel
theorem dX5_halved_0 : decode cX5_halved 0 = .ok (.iconst 0, 1) := by decide +kernel
theorem dX5_halved_1 : decode cX5_halved 1 = .ok (.istore 5, 2) := by decide +kernel
theorem dX5_halved_3 : decode cX5_halved 3 = .ok (.iconst 0, 1) := by decide +kernel
theorem dX5_halved_4 : decode cX5_halved 4 = .ok (.istore 6, 2) := by decide +kernel
theorem dX5_halved_6 : decode cX5_halved 6 = .ok (.iload 6, 2) := by decide +kernel
theorem dX5_halved_8 : decode cX5_halved 8 = .ok (.iconst 4, 1) := by decide +kernel
theorem dX5_halved_9 : decode cX5_halved 9 = .ok (.if_icmp .ge 41, 3) := by decide +kernel
theorem dX5_halved_12 : decode cX5_halved 12 = .ok (.iload 5, 2) := by decide +kernel
theorem dX5_halved_14 : decode cX5_halved 14 = .ok (.aload_n 0, 1) := by decide +kernel
theorem dX5_halved_15 : decode cX5_halved 15 = .ok (.getfield 51, 3) := by decide +kernel
theorem dX5_halved_18 : decode cX5_halved 18 = .ok (.iload_n 1, 1) := by decide +kernel
theorem dX5_halved_19 : decode cX5_halved 19 = .ok (.iconst 2, 1) := by decide +kernel
theorem dX5_halved_20 : decode cX5_halved 20 = .ok (.iload_n 2, 1) := by decide +kernel
theorem dX5_halved_21 : decode cX5_halved 21 = .ok (.imul, 1) := by decide +kernel
theorem dX5_halved_22 : decode cX5_halved 22 = .ok (.iload 6, 2) := by decide +kernel
theorem dX5_halved_24 : decode cX5_halved 24 = .ok (.iconst 2, 1) := by decide +kernel
theorem dX5_halved_25 : decode cX5_halved 25 = .ok (.irem, 1) := by decide +kernel
theorem dX5_halved_26 : decode cX5_halved 26 = .ok (.iadd, 1) := by decide +kernel
theorem dX5_halved_27 : decode cX5_halved 27 = .ok (.iconst 2, 1) := by decide +kernel
theorem dX5_halved_28 : decode cX5_halved 28 = .ok (.iload_n 3, 1) := by decide +kernel
theorem dX5_halved_29 : decode cX5_halved 29 = .ok (.imul, 1) := by decide +kernel
theorem dX5_halved_30 : decode cX5_halved 30 = .ok (.iload 6, 2) := by decide +kernel
theorem dX5_halved_32 : decode cX5_halved 32 = .ok (.iconst 2, 1) := by decide +kernel
theorem dX5_halved_33 : decode cX5_halved 33 = .ok (.idiv, 1) := by decide +kernel
theorem dX5_halved_34 : decode cX5_halved 34 = .ok (.iadd, 1) := by decide +kernel
theorem dX5_halved_35 : decode cX5_halved 35 = .ok (.iload 4, 2) := by decide +kernel
theorem dX5_halved_37 : decode cX5_halved 37 = .ok (.invokestatic 85, 3) := by decide +kernel
theorem dX5_halved_40 : decode cX5_halved 40 = .ok (.iaload, 1) := by decide +kernel
theorem dX5_halved_41 : decode cX5_halved 41 = .ok (.iadd, 1) := by decide +kernel
theorem dX5_halved_42 : decode cX5_halved 42 = .ok (.istore 5, 2) := by decide +kernel
theorem dX5_halved_44 : decode cX5_halved 44 = .ok (.iinc 6 1, 3) := by decide +kernel
theorem dX5_halved_47 : decode cX5_halved 47 = .ok (.goto (-41), 3) := by decide +kernel
theorem dX5_halved_50 : decode cX5_halved 50 = .ok (.iload 5, 2) := by decide +kernel
theorem dX5_halved_52 : decode cX5_halved 52 = .ok (.iconst 4, 1) := by decide +kernel
theorem dX5_halved_53 : decode cX5_halved 53 = .ok (.idiv, 1) := by decide +kernel
theorem dX5_halved_54 : decode cX5_halved 54 = .ok (.ireturn, 1) := by decide +kernel
theorem dX5_made_0 : decode cX5_made 0 = .ok (.aload_n 0, 1) := by decide +kernel
theorem dX5_made_1 : decode cX5_made 1 = .ok (.getfield 24, 3) := by decide +kernel
theorem dX5_made_4 : decode cX5_made 4 = .ok (.iload_n 1, 1) := by decide +kernel
theorem dX5_made_5 : decode cX5_made 5 = .ok (.iaload, 1) := by decide +kernel
theorem dX5_made_6 : decode cX5_made 6 = .ok (.bipush 7, 2) := by decide +kernel
theorem dX5_made_8 : decode cX5_made 8 = .ok (.if_icmp .eq 13, 3) := by decide +kernel
theorem dX5_made_11 : decode cX5_made 11 = .ok (.aload_n 0, 1) := by decide +kernel
theorem dX5_made_12 : decode cX5_made 12 = .ok (.getfield 24, 3) := by decide +kernel
theorem dX5_made_15 : decode cX5_made 15 = .ok (.iload_n 1, 1) := by decide +kernel
theorem dX5_made_16 : decode cX5_made 16 = .ok (.iaload, 1) := by decide +kernel
theorem dX5_made_17 : decode cX5_made 17 = .ok (.iconst 4, 1) := by decide +kernel
theorem dX5_made_18 : decode cX5_made 18 = .ok (.if_icmp .ne 7, 3) := by decide +kernel
theorem dX5_made_21 : decode cX5_made 21 = .ok (.iconst 0, 1) := by decide +kernel
theorem dX5_made_22 : decode cX5_made 22 = .ok (.goto 16, 3) := by decide +kernel
theorem dX5_made_25 : decode cX5_made 25 = .ok (.aload_n 0, 1) := by decide +kernel
theorem dX5_made_26 : decode cX5_made 26 = .ok (.getfield 51, 3) := by decide +kernel
theorem dX5_made_29 : decode cX5_made 29 = .ok (.iload_n 1, 1) := by decide +kernel
theorem dX5_made_30 : decode cX5_made 30 = .ok (.iload_n 2, 1) := by decide +kernel
theorem dX5_made_31 : decode cX5_made 31 = .ok (.iload_n 3, 1) := by decide +kernel
theorem dX5_made_32 : decode cX5_made 32 = .ok (.iload 4, 2) := by decide +kernel
theorem dX5_made_34 : decode cX5_made 34 = .ok (.invokestatic 85, 3) := by decide +kernel
theorem dX5_made_37 : decode cX5_made 37 = .ok (.iaload, 1) := by decide +kernel
theorem dX5_made_38 : decode cX5_made 38 = .ok (.istore 5, 2) := by decide +kernel
theorem dX5_made_40 : decode cX5_made 40 = .ok (.aload_n 0, 1) := by decide +kernel
theorem dX5_made_41 : decode cX5_made 41 = .ok (.getfield 24, 3) := by decide +kernel
theorem dX5_made_44 : decode cX5_made 44 = .ok (.iload_n 1, 1) := by decide +kernel
theorem dX5_made_45 : decode cX5_made 45 = .ok (.iaload, 1) := by decide +kernel
theorem dX5_made_46 : decode cX5_made 46 = .ok (.tableswitch 122 0 6 #[42, 55, 78, 86, 94, 104, 114], 42) := by decide +kernel
theorem dX5_made_88 : decode cX5_made 88 = .ok (.iload 5, 2) := by decide +kernel
theorem dX5_made_90 : decode cX5_made 90 = .ok (.aload_n 0, 1) := by decide +kernel
theorem dX5_made_91 : decode cX5_made 91 = .ok (.getfield 27, 3) := by decide +kernel
theorem dX5_made_94 : decode cX5_made 94 = .ok (.bipush 17, 2) := by decide +kernel
theorem dX5_made_96 : decode cX5_made 96 = .ok (.iload_n 1, 1) := by decide +kernel
theorem dX5_made_97 : decode cX5_made 97 = .ok (.imul, 1) := by decide +kernel
theorem dX5_made_98 : decode cX5_made 98 = .ok (.iaload, 1) := by decide +kernel
theorem dX5_made_99 : decode cX5_made 99 = .ok (.isub, 1) := by decide +kernel
theorem dX5_made_100 : decode cX5_made 100 = .ok (.ireturn, 1) := by decide +kernel
theorem dX5_made_101 : decode cX5_made 101 = .ok (.iload 5, 2) := by decide +kernel
theorem dX5_made_103 : decode cX5_made 103 = .ok (.aload_n 0, 1) := by decide +kernel
theorem dX5_made_104 : decode cX5_made 104 = .ok (.getfield 27, 3) := by decide +kernel
theorem dX5_made_107 : decode cX5_made 107 = .ok (.bipush 17, 2) := by decide +kernel
theorem dX5_made_109 : decode cX5_made 109 = .ok (.iload_n 1, 1) := by decide +kernel
theorem dX5_made_110 : decode cX5_made 110 = .ok (.imul, 1) := by decide +kernel
theorem dX5_made_111 : decode cX5_made 111 = .ok (.iload_n 2, 1) := by decide +kernel
theorem dX5_made_112 : decode cX5_made 112 = .ok (.iload_n 3, 1) := by decide +kernel
theorem dX5_made_113 : decode cX5_made 113 = .ok (.invokestatic 98, 3) := by decide +kernel
theorem dX5_made_116 : decode cX5_made 116 = .ok (.iadd, 1) := by decide +kernel
theorem dX5_made_117 : decode cX5_made 117 = .ok (.iaload, 1) := by decide +kernel
theorem dX5_made_118 : decode cX5_made 118 = .ok (.imul, 1) := by decide +kernel
theorem dX5_made_119 : decode cX5_made 119 = .ok (.sipush 1000, 3) := by decide +kernel
theorem dX5_made_122 : decode cX5_made 122 = .ok (.idiv, 1) := by decide +kernel
theorem dX5_made_123 : decode cX5_made 123 = .ok (.ireturn, 1) := by decide +kernel
theorem dX5_made_124 : decode cX5_made 124 = .ok (.aload_n 0, 1) := by decide +kernel
theorem dX5_made_125 : decode cX5_made 125 = .ok (.iload_n 1, 1) := by decide +kernel
theorem dX5_made_126 : decode cX5_made 126 = .ok (.iload_n 2, 1) := by decide +kernel
theorem dX5_made_127 : decode cX5_made 127 = .ok (.iload_n 3, 1) := by decide +kernel
theorem dX5_made_128 : decode cX5_made 128 = .ok (.invokevirtual 102, 3) := by decide +kernel
theorem dX5_made_131 : decode cX5_made 131 = .ok (.ireturn, 1) := by decide +kernel
theorem dX5_made_132 : decode cX5_made 132 = .ok (.aload_n 0, 1) := by decide +kernel
theorem dX5_made_133 : decode cX5_made 133 = .ok (.iload_n 1, 1) := by decide +kernel
theorem dX5_made_134 : decode cX5_made 134 = .ok (.iload_n 2, 1) := by decide +kernel
theorem dX5_made_135 : decode cX5_made 135 = .ok (.iload_n 3, 1) := by decide +kernel
theorem dX5_made_136 : decode cX5_made 136 = .ok (.invokevirtual 106, 3) := by decide +kernel
theorem dX5_made_139 : decode cX5_made 139 = .ok (.ireturn, 1) := by decide +kernel
theorem dX5_made_140 : decode cX5_made 140 = .ok (.aload_n 0, 1) := by decide +kernel
theorem dX5_made_141 : decode cX5_made 141 = .ok (.iload_n 1, 1) := by decide +kernel
theorem dX5_made_142 : decode cX5_made 142 = .ok (.iload_n 2, 1) := by decide +kernel
theorem dX5_made_143 : decode cX5_made 143 = .ok (.iload_n 3, 1) := by decide +kernel
theorem dX5_made_144 : decode cX5_made 144 = .ok (.iload 4, 2) := by decide +kernel
end
section
theorem dX5_made_146 : decode cX5_made 146 = .ok (.invokevirtual 109, 3) := by decide +kernel
theorem dX5_made_149 : decode cX5_made 149 = .ok (.ireturn, 1) := by decide +kernel
theorem dX5_made_150 : decode cX5_made 150 = .ok (.aload_n 0, 1) := by decide +kernel
theorem dX5_made_151 : decode cX5_made 151 = .ok (.iload_n 1, 1) := by decide +kernel
theorem dX5_made_152 : decode cX5_made 152 = .ok (.iload_n 2, 1) := by decide +kernel
theorem dX5_made_153 : decode cX5_made 153 = .ok (.iload_n 3, 1) := by decide +kernel
theorem dX5_made_154 : decode cX5_made 154 = .ok (.iload 4, 2) := by decide +kernel
theorem dX5_made_156 : decode cX5_made 156 = .ok (.invokevirtual 112, 3) := by decide +kernel
theorem dX5_made_159 : decode cX5_made 159 = .ok (.ireturn, 1) := by decide +kernel
theorem dX5_made_160 : decode cX5_made 160 = .ok (.aload_n 0, 1) := by decide +kernel
theorem dX5_made_161 : decode cX5_made 161 = .ok (.iload_n 1, 1) := by decide +kernel
theorem dX5_made_162 : decode cX5_made 162 = .ok (.iload 5, 2) := by decide +kernel
theorem dX5_made_164 : decode cX5_made 164 = .ok (.invokevirtual 115, 3) := by decide +kernel
theorem dX5_made_167 : decode cX5_made 167 = .ok (.ireturn, 1) := by decide +kernel
theorem dX5_made_168 : decode cX5_made 168 = .ok (.aload_n 0, 1) := by decide +kernel
theorem dX5_made_169 : decode cX5_made 169 = .ok (.iload_n 1, 1) := by decide +kernel
theorem dX5_made_170 : decode cX5_made 170 = .ok (.iload_n 2, 1) := by decide +kernel
theorem dX5_made_171 : decode cX5_made 171 = .ok (.iload_n 3, 1) := by decide +kernel
theorem dX5_made_172 : decode cX5_made 172 = .ok (.iload 4, 2) := by decide +kernel
theorem dX5_made_174 : decode cX5_made 174 = .ok (.invokevirtual 118, 3) := by decide +kernel
theorem dX5_made_177 : decode cX5_made 177 = .ok (.ireturn, 1) := by decide +kernel
theorem dX5_make_0 : decode cX5_make 0 = .ok (.aload_n 0, 1) := by decide +kernel
theorem dX5_make_1 : decode cX5_make 1 = .ok (.invokevirtual 71, 3) := by decide +kernel
theorem dX5_make_4 : decode cX5_make 4 = .ok (.iconst 0, 1) := by decide +kernel
theorem dX5_make_5 : decode cX5_make 5 = .ok (.istore_n 2, 1) := by decide +kernel
theorem dX5_make_6 : decode cX5_make 6 = .ok (.iload_n 2, 1) := by decide +kernel
theorem dX5_make_7 : decode cX5_make 7 = .ok (.aload_n 0, 1) := by decide +kernel
theorem dX5_make_8 : decode cX5_make 8 = .ok (.getfield 13, 3) := by decide +kernel
theorem dX5_make_11 : decode cX5_make 11 = .ok (.if_icmp .ge 48, 3) := by decide +kernel
theorem dX5_make_14 : decode cX5_make 14 = .ok (.iconst 0, 1) := by decide +kernel
theorem dX5_make_15 : decode cX5_make 15 = .ok (.istore_n 3, 1) := by decide +kernel
theorem dX5_make_16 : decode cX5_make 16 = .ok (.iload_n 3, 1) := by decide +kernel
theorem dX5_make_17 : decode cX5_make 17 = .ok (.aload_n 0, 1) := by decide +kernel
theorem dX5_make_18 : decode cX5_make 18 = .ok (.getfield 7, 3) := by decide +kernel
theorem dX5_make_21 : decode cX5_make 21 = .ok (.if_icmp .ge 32, 3) := by decide +kernel
theorem dX5_make_24 : decode cX5_make 24 = .ok (.aload_n 0, 1) := by decide +kernel
theorem dX5_make_25 : decode cX5_make 25 = .ok (.getfield 51, 3) := by decide +kernel
theorem dX5_make_28 : decode cX5_make 28 = .ok (.iconst 0, 1) := by decide +kernel
theorem dX5_make_29 : decode cX5_make 29 = .ok (.iload_n 3, 1) := by decide +kernel
theorem dX5_make_30 : decode cX5_make 30 = .ok (.iload_n 2, 1) := by decide +kernel
theorem dX5_make_31 : decode cX5_make 31 = .ok (.iconst 0, 1) := by decide +kernel
theorem dX5_make_32 : decode cX5_make 32 = .ok (.invokestatic 85, 3) := by decide +kernel
theorem dX5_make_35 : decode cX5_make 35 = .ok (.aload_n 0, 1) := by decide +kernel
theorem dX5_make_36 : decode cX5_make 36 = .ok (.getfield 16, 3) := by decide +kernel
theorem dX5_make_39 : decode cX5_make 39 = .ok (.bipush 16, 2) := by decide +kernel
theorem dX5_make_41 : decode cX5_make 41 = .ok (.iload_n 2, 1) := by decide +kernel
theorem dX5_make_42 : decode cX5_make 42 = .ok (.imul, 1) := by decide +kernel
theorem dX5_make_43 : decode cX5_make 43 = .ok (.iload_n 3, 1) := by decide +kernel
theorem dX5_make_44 : decode cX5_make 44 = .ok (.iadd, 1) := by decide +kernel
theorem dX5_make_45 : decode cX5_make 45 = .ok (.iaload, 1) := by decide +kernel
theorem dX5_make_46 : decode cX5_make 46 = .ok (.iastore, 1) := by decide +kernel
theorem dX5_make_47 : decode cX5_make 47 = .ok (.iinc 3 1, 3) := by decide +kernel
theorem dX5_make_50 : decode cX5_make 50 = .ok (.goto (-34), 3) := by decide +kernel
theorem dX5_make_53 : decode cX5_make 53 = .ok (.iinc 2 1, 3) := by decide +kernel
theorem dX5_make_56 : decode cX5_make 56 = .ok (.goto (-50), 3) := by decide +kernel
theorem dX5_make_59 : decode cX5_make 59 = .ok (.iconst 0, 1) := by decide +kernel
theorem dX5_make_60 : decode cX5_make 60 = .ok (.istore_n 2, 1) := by decide +kernel
theorem dX5_make_61 : decode cX5_make 61 = .ok (.iload_n 2, 1) := by decide +kernel
theorem dX5_make_62 : decode cX5_make 62 = .ok (.iload_n 1, 1) := by decide +kernel
theorem dX5_make_63 : decode cX5_make 63 = .ok (.if_icmp .ge 126, 3) := by decide +kernel
theorem dX5_make_66 : decode cX5_make 66 = .ok (.iconst 0, 1) := by decide +kernel
theorem dX5_make_67 : decode cX5_make 67 = .ok (.istore_n 3, 1) := by decide +kernel
theorem dX5_make_68 : decode cX5_make 68 = .ok (.iload_n 3, 1) := by decide +kernel
theorem dX5_make_69 : decode cX5_make 69 = .ok (.aload_n 0, 1) := by decide +kernel
theorem dX5_make_70 : decode cX5_make 70 = .ok (.getfield 39, 3) := by decide +kernel
theorem dX5_make_73 : decode cX5_make 73 = .ok (.iload_n 2, 1) := by decide +kernel
theorem dX5_make_74 : decode cX5_make 74 = .ok (.iconst 1, 1) := by decide +kernel
theorem dX5_make_75 : decode cX5_make 75 = .ok (.iadd, 1) := by decide +kernel
theorem dX5_make_76 : decode cX5_make 76 = .ok (.iaload, 1) := by decide +kernel
theorem dX5_make_77 : decode cX5_make 77 = .ok (.if_icmp .ge 106, 3) := by decide +kernel
theorem dX5_make_80 : decode cX5_make 80 = .ok (.iconst 0, 1) := by decide +kernel
theorem dX5_make_81 : decode cX5_make 81 = .ok (.istore 4, 2) := by decide +kernel
theorem dX5_make_83 : decode cX5_make 83 = .ok (.iload 4, 2) := by decide +kernel
theorem dX5_make_85 : decode cX5_make 85 = .ok (.aload_n 0, 1) := by decide +kernel
theorem dX5_make_86 : decode cX5_make 86 = .ok (.getfield 36, 3) := by decide +kernel
theorem dX5_make_89 : decode cX5_make 89 = .ok (.iload_n 2, 1) := by decide +kernel
theorem dX5_make_90 : decode cX5_make 90 = .ok (.iconst 1, 1) := by decide +kernel
theorem dX5_make_91 : decode cX5_make 91 = .ok (.iadd, 1) := by decide +kernel
theorem dX5_make_92 : decode cX5_make 92 = .ok (.iaload, 1) := by decide +kernel
theorem dX5_make_93 : decode cX5_make 93 = .ok (.if_icmp .ge 84, 3) := by decide +kernel
theorem dX5_make_96 : decode cX5_make 96 = .ok (.iconst 0, 1) := by decide +kernel
theorem dX5_make_97 : decode cX5_make 97 = .ok (.istore 5, 2) := by decide +kernel
theorem dX5_make_99 : decode cX5_make 99 = .ok (.iload 5, 2) := by decide +kernel
theorem dX5_make_101 : decode cX5_make 101 = .ok (.aload_n 0, 1) := by decide +kernel
theorem dX5_make_102 : decode cX5_make 102 = .ok (.getfield 42, 3) := by decide +kernel
theorem dX5_make_105 : decode cX5_make 105 = .ok (.iload_n 2, 1) := by decide +kernel
theorem dX5_make_106 : decode cX5_make 106 = .ok (.iconst 1, 1) := by decide +kernel
theorem dX5_make_107 : decode cX5_make 107 = .ok (.iadd, 1) := by decide +kernel
theorem dX5_make_108 : decode cX5_make 108 = .ok (.iaload, 1) := by decide +kernel
theorem dX5_make_109 : decode cX5_make 109 = .ok (.if_icmp .ge 62, 3) := by decide +kernel
theorem dX5_make_112 : decode cX5_make 112 = .ok (.aload_n 0, 1) := by decide +kernel
theorem dX5_make_113 : decode cX5_make 113 = .ok (.iload_n 2, 1) := by decide +kernel
theorem dX5_make_114 : decode cX5_make 114 = .ok (.iload 4, 2) := by decide +kernel
theorem dX5_make_116 : decode cX5_make 116 = .ok (.iload_n 3, 1) := by decide +kernel
theorem dX5_make_117 : decode cX5_make 117 = .ok (.iload 5, 2) := by decide +kernel
theorem dX5_make_119 : decode cX5_make 119 = .ok (.invokevirtual 121, 3) := by decide +kernel
theorem dX5_make_122 : decode cX5_make 122 = .ok (.istore 6, 2) := by decide +kernel
theorem dX5_make_124 : decode cX5_make 124 = .ok (.aload_n 0, 1) := by decide +kernel
theorem dX5_make_125 : decode cX5_make 125 = .ok (.getfield 51, 3) := by decide +kernel
theorem dX5_make_128 : decode cX5_make 128 = .ok (.iload_n 2, 1) := by decide +kernel
theorem dX5_make_129 : decode cX5_make 129 = .ok (.iconst 1, 1) := by decide +kernel
theorem dX5_make_130 : decode cX5_make 130 = .ok (.iadd, 1) := by decide +kernel
theorem dX5_make_131 : decode cX5_make 131 = .ok (.iload 4, 2) := by decide +kernel
theorem dX5_make_133 : decode cX5_make 133 = .ok (.iload_n 3, 1) := by decide +kernel
theorem dX5_make_134 : decode cX5_make 134 = .ok (.iload 5, 2) := by decide +kernel
theorem dX5_make_136 : decode cX5_make 136 = .ok (.invokestatic 85, 3) := by decide +kernel
theorem dX5_make_139 : decode cX5_make 139 = .ok (.iload 6, 2) := by decide +kernel
theorem dX5_make_141 : decode cX5_make 141 = .ok (.ifCond .ge 7, 3) := by decide +kernel
theorem dX5_make_144 : decode cX5_make 144 = .ok (.iconst 0, 1) := by decide +kernel
theorem dX5_make_145 : decode cX5_make 145 = .ok (.goto 19, 3) := by decide +kernel
theorem dX5_make_148 : decode cX5_make 148 = .ok (.iload 6, 2) := by decide +kernel
theorem dX5_make_150 : decode cX5_make 150 = .ok (.sipush 4095, 3) := by decide +kernel
theorem dX5_make_153 : decode cX5_make 153 = .ok (.if_icmp .le 9, 3) := by decide +kernel
theorem dX5_make_156 : decode cX5_make 156 = .ok (.sipush 4095, 3) := by decide +kernel
theorem dX5_make_159 : decode cX5_make 159 = .ok (.goto 5, 3) := by decide +kernel
theorem dX5_make_162 : decode cX5_make 162 = .ok (.iload 6, 2) := by decide +kernel
theorem dX5_make_164 : decode cX5_make 164 = .ok (.iastore, 1) := by decide +kernel
theorem dX5_make_165 : decode cX5_make 165 = .ok (.iinc 5 1, 3) := by decide +kernel
theorem dX5_make_168 : decode cX5_make 168 = .ok (.goto (-69), 3) := by decide +kernel
theorem dX5_make_171 : decode cX5_make 171 = .ok (.iinc 4 1, 3) := by decide +kernel
theorem dX5_make_174 : decode cX5_make 174 = .ok (.goto (-91), 3) := by decide +kernel
theorem dX5_make_177 : decode cX5_make 177 = .ok (.iinc 3 1, 3) := by decide +kernel
theorem dX5_make_180 : decode cX5_make 180 = .ok (.goto (-112), 3) := by decide +kernel
theorem dX5_make_183 : decode cX5_make 183 = .ok (.iinc 2 1, 3) := by decide +kernel
theorem dX5_make_186 : decode cX5_make 186 = .ok (.goto (-125), 3) := by decide +kernel
theorem dX5_make_189 : decode cX5_make 189 = .ok (.return_, 1) := by decide +kernel
theorem dX5_stage_0 : decode cX5_stage 0 = .ok (.iload_n 1, 1) := by decide +kernel
theorem dX5_stage_1 : decode cX5_stage 1 = .ok (.iconst 0, 1) := by decide +kernel
theorem dX5_stage_2 : decode cX5_stage 2 = .ok (.aload_n 0, 1) := by decide +kernel
theorem dX5_stage_3 : decode cX5_stage 3 = .ok (.getfield 64, 3) := by decide +kernel
theorem dX5_stage_6 : decode cX5_stage 6 = .ok (.invokestatic 60, 3) := by decide +kernel
theorem dX5_stage_9 : decode cX5_stage 9 = .ok (.ifCond .ne 6, 3) := by decide +kernel
theorem dX5_stage_12 : decode cX5_stage 12 = .ok (.bipush (-101), 2) := by decide +kernel
theorem dX5_stage_14 : decode cX5_stage 14 = .ok (.ireturn, 1) := by decide +kernel
theorem dX5_stage_15 : decode cX5_stage 15 = .ok (.aload_n 0, 1) := by decide +kernel
theorem dX5_stage_16 : decode cX5_stage 16 = .ok (.invokevirtual 71, 3) := by decide +kernel
theorem dX5_stage_19 : decode cX5_stage 19 = .ok (.iload_n 2, 1) := by decide +kernel
theorem dX5_stage_20 : decode cX5_stage 20 = .ok (.ifCond .ne 12, 3) := by decide +kernel
theorem dX5_stage_23 : decode cX5_stage 23 = .ok (.aload_n 0, 1) := by decide +kernel
theorem dX5_stage_24 : decode cX5_stage 24 = .ok (.getfield 36, 3) := by decide +kernel
theorem dX5_stage_27 : decode cX5_stage 27 = .ok (.iload_n 1, 1) := by decide +kernel
theorem dX5_stage_28 : decode cX5_stage 28 = .ok (.iaload, 1) := by decide +kernel
theorem dX5_stage_29 : decode cX5_stage 29 = .ok (.goto 61, 3) := by decide +kernel
theorem dX5_stage_32 : decode cX5_stage 32 = .ok (.iload_n 2, 1) := by decide +kernel
theorem dX5_stage_33 : decode cX5_stage 33 = .ok (.iconst 1, 1) := by decide +kernel
theorem dX5_stage_34 : decode cX5_stage 34 = .ok (.if_icmp .ne 12, 3) := by decide +kernel
theorem dX5_stage_37 : decode cX5_stage 37 = .ok (.aload_n 0, 1) := by decide +kernel
theorem dX5_stage_38 : decode cX5_stage 38 = .ok (.getfield 39, 3) := by decide +kernel
theorem dX5_stage_41 : decode cX5_stage 41 = .ok (.iload_n 1, 1) := by decide +kernel
theorem dX5_stage_42 : decode cX5_stage 42 = .ok (.iaload, 1) := by decide +kernel
theorem dX5_stage_43 : decode cX5_stage 43 = .ok (.goto 47, 3) := by decide +kernel
theorem dX5_stage_46 : decode cX5_stage 46 = .ok (.iload_n 2, 1) := by decide +kernel
theorem dX5_stage_47 : decode cX5_stage 47 = .ok (.iconst 2, 1) := by decide +kernel
theorem dX5_stage_48 : decode cX5_stage 48 = .ok (.if_icmp .ne 12, 3) := by decide +kernel
theorem dX5_stage_51 : decode cX5_stage 51 = .ok (.aload_n 0, 1) := by decide +kernel
theorem dX5_stage_52 : decode cX5_stage 52 = .ok (.getfield 42, 3) := by decide +kernel
theorem dX5_stage_55 : decode cX5_stage 55 = .ok (.iload_n 1, 1) := by decide +kernel
theorem dX5_stage_56 : decode cX5_stage 56 = .ok (.iaload, 1) := by decide +kernel
theorem dX5_stage_57 : decode cX5_stage 57 = .ok (.goto 33, 3) := by decide +kernel
theorem dX5_stage_60 : decode cX5_stage 60 = .ok (.iload_n 2, 1) := by decide +kernel
theorem dX5_stage_61 : decode cX5_stage 61 = .ok (.iconst 3, 1) := by decide +kernel
theorem dX5_stage_62 : decode cX5_stage 62 = .ok (.if_icmp .ne 12, 3) := by decide +kernel
theorem dX5_stage_65 : decode cX5_stage 65 = .ok (.aload_n 0, 1) := by decide +kernel
theorem dX5_stage_66 : decode cX5_stage 66 = .ok (.getfield 45, 3) := by decide +kernel
theorem dX5_stage_69 : decode cX5_stage 69 = .ok (.iload_n 1, 1) := by decide +kernel
theorem dX5_stage_70 : decode cX5_stage 70 = .ok (.iaload, 1) := by decide +kernel
theorem dX5_stage_71 : decode cX5_stage 71 = .ok (.goto 19, 3) := by decide +kernel
theorem dX5_stage_74 : decode cX5_stage 74 = .ok (.iload_n 2, 1) := by decide +kernel
theorem dX5_stage_75 : decode cX5_stage 75 = .ok (.iconst 4, 1) := by decide +kernel
theorem dX5_stage_76 : decode cX5_stage 76 = .ok (.if_icmp .ne 12, 3) := by decide +kernel
theorem dX5_stage_79 : decode cX5_stage 79 = .ok (.aload_n 0, 1) := by decide +kernel
theorem dX5_stage_80 : decode cX5_stage 80 = .ok (.getfield 48, 3) := by decide +kernel
theorem dX5_stage_83 : decode cX5_stage 83 = .ok (.iload_n 1, 1) := by decide +kernel
theorem dX5_stage_84 : decode cX5_stage 84 = .ok (.iaload, 1) := by decide +kernel
theorem dX5_stage_85 : decode cX5_stage 85 = .ok (.goto 5, 3) := by decide +kernel
theorem dX5_stage_88 : decode cX5_stage 88 = .ok (.bipush (-102), 2) := by decide +kernel
theorem dX5_stage_90 : decode cX5_stage 90 = .ok (.ireturn, 1) := by decide +kernel
theorem dX5_at_0 : decode cX5_at 0 = .ok (.iload_n 1, 1) := by decide +kernel
theorem dX5_at_1 : decode cX5_at 1 = .ok (.iconst 0, 1) := by decide +kernel
theorem dX5_at_2 : decode cX5_at 2 = .ok (.aload_n 0, 1) := by decide +kernel
theorem dX5_at_3 : decode cX5_at 3 = .ok (.getfield 64, 3) := by decide +kernel
theorem dX5_at_6 : decode cX5_at 6 = .ok (.invokestatic 60, 3) := by decide +kernel
theorem dX5_at_9 : decode cX5_at 9 = .ok (.ifCond .ne 6, 3) := by decide +kernel
theorem dX5_at_12 : decode cX5_at 12 = .ok (.bipush (-101), 2) := by decide +kernel
theorem dX5_at_14 : decode cX5_at 14 = .ok (.ireturn, 1) := by decide +kernel
theorem dX5_at_15 : decode cX5_at 15 = .ok (.aload_n 0, 1) := by decide +kernel
theorem dX5_at_16 : decode cX5_at 16 = .ok (.iload_n 1, 1) := by decide +kernel
theorem dX5_at_17 : decode cX5_at 17 = .ok (.invokevirtual 124, 3) := by decide +kernel
theorem dX5_at_20 : decode cX5_at 20 = .ok (.aload_n 0, 1) := by decide +kernel
theorem dX5_at_21 : decode cX5_at 21 = .ok (.iload_n 1, 1) := by decide +kernel
theorem dX5_at_22 : decode cX5_at 22 = .ok (.iload_n 2, 1) := by decide +kernel
theorem dX5_at_23 : decode cX5_at 23 = .ok (.iload_n 3, 1) := by decide +kernel
theorem dX5_at_24 : decode cX5_at 24 = .ok (.invokevirtual 95, 3) := by decide +kernel
theorem dX5_at_27 : decode cX5_at 27 = .ok (.ifCond .eq 36, 3) := by decide +kernel
theorem dX5_at_30 : decode cX5_at 30 = .ok (.iload 4, 2) := by decide +kernel
theorem dX5_at_32 : decode cX5_at 32 = .ok (.iconst 0, 1) := by decide +kernel
theorem dX5_at_33 : decode cX5_at 33 = .ok (.aload_n 0, 1) := by decide +kernel
theorem dX5_at_34 : decode cX5_at 34 = .ok (.getfield 42, 3) := by decide +kernel
theorem dX5_at_37 : decode cX5_at 37 = .ok (.iload_n 1, 1) := by decide +kernel
theorem dX5_at_38 : decode cX5_at 38 = .ok (.iaload, 1) := by decide +kernel
theorem dX5_at_39 : decode cX5_at 39 = .ok (.iconst 1, 1) := by decide +kernel
theorem dX5_at_40 : decode cX5_at 40 = .ok (.isub, 1) := by decide +kernel
theorem dX5_at_41 : decode cX5_at 41 = .ok (.invokestatic 60, 3) := by decide +kernel
theorem dX5_at_44 : decode cX5_at 44 = .ok (.ifCond .eq 19, 3) := by decide +kernel
theorem dX5_at_47 : decode cX5_at 47 = .ok (.aload_n 0, 1) := by decide +kernel
theorem dX5_at_48 : decode cX5_at 48 = .ok (.getfield 51, 3) := by decide +kernel
theorem dX5_at_51 : decode cX5_at 51 = .ok (.iload_n 1, 1) := by decide +kernel
theorem dX5_at_52 : decode cX5_at 52 = .ok (.iload_n 2, 1) := by decide +kernel
theorem dX5_at_53 : decode cX5_at 53 = .ok (.iload_n 3, 1) := by decide +kernel
theorem dX5_at_54 : decode cX5_at 54 = .ok (.iload 4, 2) := by decide +kernel
theorem dX5_at_56 : decode cX5_at 56 = .ok (.invokestatic 85, 3) := by decide +kernel
theorem dX5_at_59 : decode cX5_at 59 = .ok (.iaload, 1) := by decide +kernel
theorem dX5_at_60 : decode cX5_at 60 = .ok (.goto 5, 3) := by decide +kernel
theorem dX5_at_63 : decode cX5_at 63 = .ok (.bipush (-102), 2) := by decide +kernel
theorem dX5_at_65 : decode cX5_at 65 = .ok (.ireturn, 1) := by decide +kernel
theorem dX5_isPart_0 : decode cX5_isPart 0 = .ok (.iload_n 1, 1) := by decide +kernel
theorem dX5_isPart_1 : decode cX5_isPart 1 = .ok (.iconst 0, 1) := by decide +kernel
theorem dX5_isPart_2 : decode cX5_isPart 2 = .ok (.aload_n 0, 1) := by decide +kernel
theorem dX5_isPart_3 : decode cX5_isPart 3 = .ok (.getfield 36, 3) := by decide +kernel
theorem dX5_isPart_6 : decode cX5_isPart 6 = .ok (.aload_n 0, 1) := by decide +kernel
theorem dX5_isPart_7 : decode cX5_isPart 7 = .ok (.getfield 64, 3) := by decide +kernel
theorem dX5_isPart_10 : decode cX5_isPart 10 = .ok (.iaload, 1) := by decide +kernel
theorem dX5_isPart_11 : decode cX5_isPart 11 = .ok (.iconst 1, 1) := by decide +kernel
theorem dX5_isPart_12 : decode cX5_isPart 12 = .ok (.isub, 1) := by decide +kernel
theorem dX5_isPart_13 : decode cX5_isPart 13 = .ok (.invokestatic 60, 3) := by decide +kernel
theorem dX5_isPart_16 : decode cX5_isPart 16 = .ok (.ifCond .eq 65, 3) := by decide +kernel
theorem dX5_isPart_19 : decode cX5_isPart 19 = .ok (.iload_n 2, 1) := by decide +kernel
theorem dX5_isPart_20 : decode cX5_isPart 20 = .ok (.iconst 0, 1) := by decide +kernel
theorem dX5_isPart_21 : decode cX5_isPart 21 = .ok (.aload_n 0, 1) := by decide +kernel
theorem dX5_isPart_22 : decode cX5_isPart 22 = .ok (.getfield 39, 3) := by decide +kernel
theorem dX5_isPart_25 : decode cX5_isPart 25 = .ok (.aload_n 0, 1) := by decide +kernel
theorem dX5_isPart_26 : decode cX5_isPart 26 = .ok (.getfield 64, 3) := by decide +kernel
theorem dX5_isPart_29 : decode cX5_isPart 29 = .ok (.iaload, 1) := by decide +kernel
theorem dX5_isPart_30 : decode cX5_isPart 30 = .ok (.iconst 1, 1) := by decide +kernel
theorem dX5_isPart_31 : decode cX5_isPart 31 = .ok (.isub, 1) := by decide +kernel
theorem dX5_isPart_32 : decode cX5_isPart 32 = .ok (.invokestatic 60, 3) := by decide +kernel
theorem dX5_isPart_35 : decode cX5_isPart 35 = .ok (.ifCond .eq 46, 3) := by decide +kernel
theorem dX5_isPart_38 : decode cX5_isPart 38 = .ok (.iload_n 3, 1) := by decide +kernel
theorem dX5_isPart_39 : decode cX5_isPart 39 = .ok (.iconst 1, 1) := by decide +kernel
theorem dX5_isPart_40 : decode cX5_isPart 40 = .ok (.aload_n 0, 1) := by decide +kernel
theorem dX5_isPart_41 : decode cX5_isPart 41 = .ok (.getfield 36, 3) := by decide +kernel
theorem dX5_isPart_44 : decode cX5_isPart 44 = .ok (.aload_n 0, 1) := by decide +kernel
theorem dX5_isPart_45 : decode cX5_isPart 45 = .ok (.getfield 64, 3) := by decide +kernel
theorem dX5_isPart_48 : decode cX5_isPart 48 = .ok (.iaload, 1) := by decide +kernel
theorem dX5_isPart_49 : decode cX5_isPart 49 = .ok (.iload_n 1, 1) := by decide +kernel
theorem dX5_isPart_50 : decode cX5_isPart 50 = .ok (.isub, 1) := by decide +kernel
theorem dX5_isPart_51 : decode cX5_isPart 51 = .ok (.invokestatic 60, 3) := by decide +kernel
theorem dX5_isPart_54 : decode cX5_isPart 54 = .ok (.ifCond .eq 27, 3) := by decide +kernel
theorem dX5_isPart_57 : decode cX5_isPart 57 = .ok (.iload 4, 2) := by decide +kernel
theorem dX5_isPart_59 : decode cX5_isPart 59 = .ok (.iconst 1, 1) := by decide +kernel
theorem dX5_isPart_60 : decode cX5_isPart 60 = .ok (.aload_n 0, 1) := by decide +kernel
theorem dX5_isPart_61 : decode cX5_isPart 61 = .ok (.getfield 39, 3) := by decide +kernel
theorem dX5_isPart_64 : decode cX5_isPart 64 = .ok (.aload_n 0, 1) := by decide +kernel
theorem dX5_isPart_65 : decode cX5_isPart 65 = .ok (.getfield 64, 3) := by decide +kernel
theorem dX5_isPart_68 : decode cX5_isPart 68 = .ok (.iaload, 1) := by decide +kernel
theorem dX5_isPart_69 : decode cX5_isPart 69 = .ok (.iload_n 2, 1) := by decide +kernel
theorem dX5_isPart_70 : decode cX5_isPart 70 = .ok (.isub, 1) := by decide +kernel
theorem dX5_isPart_71 : decode cX5_isPart 71 = .ok (.invokestatic 60, 3) := by decide +kernel
theorem dX5_isPart_74 : decode cX5_isPart 74 = .ok (.ifCond .eq 7, 3) := by decide +kernel
theorem dX5_isPart_77 : decode cX5_isPart 77 = .ok (.iconst 1, 1) := by decide +kernel
theorem dX5_isPart_78 : decode cX5_isPart 78 = .ok (.goto 4, 3) := by decide +kernel
theorem dX5_isPart_81 : decode cX5_isPart 81 = .ok (.iconst 0, 1) := by decide +kernel
theorem dX5_isPart_82 : decode cX5_isPart 82 = .ok (.ireturn, 1) := by decide +kernel
theorem dX5_part_0 : decode cX5_part 0 = .ok (.aload_n 0, 1) := by decide +kernel
theorem dX5_part_1 : decode cX5_part 1 = .ok (.aload_n 0, 1) := by decide +kernel
theorem dX5_part_2 : decode cX5_part 2 = .ok (.getfield 64, 3) := by decide +kernel
theorem dX5_part_5 : decode cX5_part 5 = .ok (.invokevirtual 124, 3) := by decide +kernel
theorem dX5_part_8 : decode cX5_part 8 = .ok (.aload_n 0, 1) := by decide +kernel
theorem dX5_part_9 : decode cX5_part 9 = .ok (.iload_n 1, 1) := by decide +kernel
theorem dX5_part_10 : decode cX5_part 10 = .ok (.iload_n 2, 1) := by decide +kernel
theorem dX5_part_11 : decode cX5_part 11 = .ok (.iload_n 3, 1) := by decide +kernel
theorem dX5_part_12 : decode cX5_part 12 = .ok (.iload 4, 2) := by decide +kernel
theorem dX5_part_14 : decode cX5_part 14 = .ok (.invokevirtual 128, 3) := by decide +kernel
theorem dX5_part_17 : decode cX5_part 17 = .ok (.ifCond .eq 23, 3) := by decide +kernel
theorem dX5_part_20 : decode cX5_part 20 = .ok (.iload 5, 2) := by decide +kernel
theorem dX5_part_22 : decode cX5_part 22 = .ok (.iconst 0, 1) := by decide +kernel
theorem dX5_part_23 : decode cX5_part 23 = .ok (.aload_n 0, 1) := by decide +kernel
theorem dX5_part_24 : decode cX5_part 24 = .ok (.getfield 42, 3) := by decide +kernel
theorem dX5_part_27 : decode cX5_part 27 = .ok (.aload_n 0, 1) := by decide +kernel
theorem dX5_part_28 : decode cX5_part 28 = .ok (.getfield 64, 3) := by decide +kernel
theorem dX5_part_31 : decode cX5_part 31 = .ok (.iaload, 1) := by decide +kernel
theorem dX5_part_32 : decode cX5_part 32 = .ok (.iconst 1, 1) := by decide +kernel
theorem dX5_part_33 : decode cX5_part 33 = .ok (.isub, 1) := by decide +kernel
theorem dX5_part_34 : decode cX5_part 34 = .ok (.invokestatic 60, 3) := by decide +kernel
theorem dX5_part_37 : decode cX5_part 37 = .ok (.ifCond .ne 6, 3) := by decide +kernel
theorem dX5_part_40 : decode cX5_part 40 = .ok (.bipush (-102), 2) := by decide +kernel
theorem dX5_part_42 : decode cX5_part 42 = .ok (.ireturn, 1) := by decide +kernel
theorem dX5_part_43 : decode cX5_part 43 = .ok (.iconst 0, 1) := by decide +kernel
theorem dX5_part_44 : decode cX5_part 44 = .ok (.istore 6, 2) := by decide +kernel
theorem dX5_part_46 : decode cX5_part 46 = .ok (.iload_n 2, 1) := by decide +kernel
theorem dX5_part_47 : decode cX5_part 47 = .ok (.istore 7, 2) := by decide +kernel
theorem dX5_part_49 : decode cX5_part 49 = .ok (.iload 7, 2) := by decide +kernel
theorem dX5_part_51 : decode cX5_part 51 = .ok (.iload_n 2, 1) := by decide +kernel
theorem dX5_part_52 : decode cX5_part 52 = .ok (.iload 4, 2) := by decide +kernel
theorem dX5_part_54 : decode cX5_part 54 = .ok (.iadd, 1) := by decide +kernel
theorem dX5_part_55 : decode cX5_part 55 = .ok (.if_icmp .ge 49, 3) := by decide +kernel
theorem dX5_part_58 : decode cX5_part 58 = .ok (.iload_n 1, 1) := by decide +kernel
theorem dX5_part_59 : decode cX5_part 59 = .ok (.istore 8, 2) := by decide +kernel
theorem dX5_part_61 : decode cX5_part 61 = .ok (.iload 8, 2) := by decide +kernel
theorem dX5_part_63 : decode cX5_part 63 = .ok (.iload_n 1, 1) := by decide +kernel
theorem dX5_part_64 : decode cX5_part 64 = .ok (.iload_n 3, 1) := by decide +kernel
theorem dX5_part_65 : decode cX5_part 65 = .ok (.iadd, 1) := by decide +kernel
theorem dX5_part_66 : decode cX5_part 66 = .ok (.if_icmp .ge 32, 3) := by decide +kernel
theorem dX5_part_69 : decode cX5_part 69 = .ok (.iload 6, 2) := by decide +kernel
theorem dX5_part_71 : decode cX5_part 71 = .ok (.aload_n 0, 1) := by decide +kernel
theorem dX5_part_72 : decode cX5_part 72 = .ok (.getfield 51, 3) := by decide +kernel
theorem dX5_part_75 : decode cX5_part 75 = .ok (.aload_n 0, 1) := by decide +kernel
theorem dX5_part_76 : decode cX5_part 76 = .ok (.getfield 64, 3) := by decide +kernel
theorem dX5_part_79 : decode cX5_part 79 = .ok (.iload 8, 2) := by decide +kernel
theorem dX5_part_81 : decode cX5_part 81 = .ok (.iload 7, 2) := by decide +kernel
theorem dX5_part_83 : decode cX5_part 83 = .ok (.iload 5, 2) := by decide +kernel
theorem dX5_part_85 : decode cX5_part 85 = .ok (.invokestatic 85, 3) := by decide +kernel
theorem dX5_part_88 : decode cX5_part 88 = .ok (.iaload, 1) := by decide +kernel
theorem dX5_part_89 : decode cX5_part 89 = .ok (.iadd, 1) := by decide +kernel
theorem dX5_part_90 : decode cX5_part 90 = .ok (.istore 6, 2) := by decide +kernel
theorem dX5_part_92 : decode cX5_part 92 = .ok (.iinc 8 1, 3) := by decide +kernel
theorem dX5_part_95 : decode cX5_part 95 = .ok (.goto (-34), 3) := by decide +kernel
theorem dX5_part_98 : decode cX5_part 98 = .ok (.iinc 7 1, 3) := by decide +kernel
theorem dX5_part_101 : decode cX5_part 101 = .ok (.goto (-52), 3) := by decide +kernel
theorem dX5_part_104 : decode cX5_part 104 = .ok (.iload 6, 2) := by decide +kernel
theorem dX5_part_106 : decode cX5_part 106 = .ok (.ireturn, 1) := by decide +kernel
theorem dX5_touch_0 : decode cX5_touch 0 = .ok (.aload_n 0, 1) := by decide +kernel
theorem dX5_touch_1 : decode cX5_touch 1 = .ok (.iload_n 1, 1) := by decide +kernel
theorem dX5_touch_2 : decode cX5_touch 2 = .ok (.iload_n 2, 1) := by decide +kernel
theorem dX5_touch_3 : decode cX5_touch 3 = .ok (.iload_n 3, 1) := by decide +kernel
theorem dX5_touch_4 : decode cX5_touch 4 = .ok (.invokevirtual 95, 3) := by decide +kernel
theorem dX5_touch_7 : decode cX5_touch 7 = .ok (.ifCond .eq 17, 3) := by decide +kernel
theorem dX5_touch_10 : decode cX5_touch 10 = .ok (.aload_n 0, 1) := by decide +kernel
theorem dX5_touch_11 : decode cX5_touch 11 = .ok (.getfield 54, 3) := by decide +kernel
theorem dX5_touch_14 : decode cX5_touch 14 = .ok (.iload_n 1, 1) := by decide +kernel
theorem dX5_touch_15 : decode cX5_touch 15 = .ok (.iload_n 2, 1) := by decide +kernel
theorem dX5_touch_16 : decode cX5_touch 16 = .ok (.iload_n 3, 1) := by decide +kernel
theorem dX5_touch_17 : decode cX5_touch 17 = .ok (.iload 4, 2) := by decide +kernel
theorem dX5_touch_19 : decode cX5_touch 19 = .ok (.invokestatic 85, 3) := by decide +kernel
theorem dX5_touch_22 : decode cX5_touch 22 = .ok (.iconst 1, 1) := by decide +kernel
theorem dX5_touch_23 : decode cX5_touch 23 = .ok (.bastore, 1) := by decide +kernel
theorem dX5_touch_24 : decode cX5_touch 24 = .ok (.return_, 1) := by decide +kernel
theorem dX5_countFor_0 : decode cX5_countFor 0 = .ok (.aload_n 0, 1) := by decide +kernel
theorem dX5_countFor_1 : decode cX5_countFor 1 = .ok (.getfield 24, 3) := by decide +kernel
theorem dX5_countFor_4 : decode cX5_countFor 4 = .ok (.iload_n 1, 1) := by decide +kernel
theorem dX5_countFor_5 : decode cX5_countFor 5 = .ok (.iaload, 1) := by decide +kernel
theorem dX5_countFor_6 : decode cX5_countFor 6 = .ok (.tableswitch 286 2 7 #[38, 38, 84, 218, 286, 245], 38) := by decide +kernel
theorem dX5_countFor_44 : decode cX5_countFor 44 = .ok (.iconst 0, 1) := by decide +kernel
theorem dX5_countFor_45 : decode cX5_countFor 45 = .ok (.istore 5, 2) := by decide +kernel
theorem dX5_countFor_47 : decode cX5_countFor 47 = .ok (.iload 5, 2) := by decide +kernel
theorem dX5_countFor_49 : decode cX5_countFor 49 = .ok (.iconst 4, 1) := by decide +kernel
theorem dX5_countFor_50 : decode cX5_countFor 50 = .ok (.if_icmp .ge 29, 3) := by decide +kernel
theorem dX5_countFor_53 : decode cX5_countFor 53 = .ok (.aload_n 0, 1) := by decide +kernel
theorem dX5_countFor_54 : decode cX5_countFor 54 = .ok (.iload_n 1, 1) := by decide +kernel
theorem dX5_countFor_55 : decode cX5_countFor 55 = .ok (.iload_n 2, 1) := by decide +kernel
theorem dX5_countFor_56 : decode cX5_countFor 56 = .ok (.iload 5, 2) := by decide +kernel
theorem dX5_countFor_58 : decode cX5_countFor 58 = .ok (.invokestatic 89, 3) := by decide +kernel
theorem dX5_countFor_61 : decode cX5_countFor 61 = .ok (.iadd, 1) := by decide +kernel
theorem dX5_countFor_62 : decode cX5_countFor 62 = .ok (.iload_n 3, 1) := by decide +kernel
theorem dX5_countFor_63 : decode cX5_countFor 63 = .ok (.iload 5, 2) := by decide +kernel
theorem dX5_countFor_65 : decode cX5_countFor 65 = .ok (.invokestatic 92, 3) := by decide +kernel
theorem dX5_countFor_68 : decode cX5_countFor 68 = .ok (.iadd, 1) := by decide +kernel
theorem dX5_countFor_69 : decode cX5_countFor 69 = .ok (.iconst 0, 1) := by decide +kernel
theorem dX5_countFor_70 : decode cX5_countFor 70 = .ok (.invokevirtual 132, 3) := by decide +kernel
theorem dX5_countFor_73 : decode cX5_countFor 73 = .ok (.iinc 5 1, 3) := by decide +kernel
theorem dX5_countFor_76 : decode cX5_countFor 76 = .ok (.goto (-29), 3) := by decide +kernel
theorem dX5_countFor_79 : decode cX5_countFor 79 = .ok (.aload_n 0, 1) := by decide +kernel
theorem dX5_countFor_80 : decode cX5_countFor 80 = .ok (.iload_n 1, 1) := by decide +kernel
theorem dX5_countFor_81 : decode cX5_countFor 81 = .ok (.iload_n 2, 1) := by decide +kernel
theorem dX5_countFor_82 : decode cX5_countFor 82 = .ok (.iload_n 3, 1) := by decide +kernel
theorem dX5_countFor_83 : decode cX5_countFor 83 = .ok (.iconst 0, 1) := by decide +kernel
theorem dX5_countFor_84 : decode cX5_countFor 84 = .ok (.invokevirtual 132, 3) := by decide +kernel
theorem dX5_countFor_87 : decode cX5_countFor 87 = .ok (.goto 214, 3) := by decide +kernel
theorem dX5_countFor_90 : decode cX5_countFor 90 = .ok (.iload_n 2, 1) := by decide +kernel
theorem dX5_countFor_91 : decode cX5_countFor 91 = .ok (.iload_n 3, 1) := by decide +kernel
theorem dX5_countFor_92 : decode cX5_countFor 92 = .ok (.invokestatic 98, 3) := by decide +kernel
theorem dX5_countFor_95 : decode cX5_countFor 95 = .ok (.iload 4, 2) := by decide +kernel
theorem dX5_countFor_97 : decode cX5_countFor 97 = .ok (.if_icmp .ne 7, 3) := by decide +kernel
theorem dX5_countFor_100 : decode cX5_countFor 100 = .ok (.iconst 1, 1) := by decide +kernel
theorem dX5_countFor_101 : decode cX5_countFor 101 = .ok (.goto 4, 3) := by decide +kernel
theorem dX5_countFor_104 : decode cX5_countFor 104 = .ok (.iconst 0, 1) := by decide +kernel
theorem dX5_countFor_105 : decode cX5_countFor 105 = .ok (.istore 5, 2) := by decide +kernel
theorem dX5_countFor_107 : decode cX5_countFor 107 = .ok (.iload_n 3, 1) := by decide +kernel
theorem dX5_countFor_108 : decode cX5_countFor 108 = .ok (.iconst 1, 1) := by decide +kernel
theorem dX5_countFor_109 : decode cX5_countFor 109 = .ok (.isub, 1) := by decide +kernel
theorem dX5_countFor_110 : decode cX5_countFor 110 = .ok (.istore 6, 2) := by decide +kernel
theorem dX5_countFor_112 : decode cX5_countFor 112 = .ok (.iload 6, 2) := by decide +kernel
theorem dX5_countFor_114 : decode cX5_countFor 114 = .ok (.iload_n 3, 1) := by decide +kernel
theorem dX5_countFor_115 : decode cX5_countFor 115 = .ok (.iconst 1, 1) := by decide +kernel
theorem dX5_countFor_116 : decode cX5_countFor 116 = .ok (.iadd, 1) := by decide +kernel
theorem dX5_countFor_117 : decode cX5_countFor 117 = .ok (.if_icmp .gt 104, 3) := by decide +kernel
theorem dX5_countFor_120 : decode cX5_countFor 120 = .ok (.iload_n 2, 1) := by decide +kernel
theorem dX5_countFor_121 : decode cX5_countFor 121 = .ok (.iconst 1, 1) := by decide +kernel
theorem dX5_countFor_122 : decode cX5_countFor 122 = .ok (.isub, 1) := by decide +kernel
theorem dX5_countFor_123 : decode cX5_countFor 123 = .ok (.istore 7, 2) := by decide +kernel
theorem dX5_countFor_125 : decode cX5_countFor 125 = .ok (.iload 7, 2) := by decide +kernel
theorem dX5_countFor_127 : decode cX5_countFor 127 = .ok (.iload_n 2, 1) := by decide +kernel
theorem dX5_countFor_128 : decode cX5_countFor 128 = .ok (.iconst 1, 1) := by decide +kernel
theorem dX5_countFor_129 : decode cX5_countFor 129 = .ok (.iadd, 1) := by decide +kernel
theorem dX5_countFor_130 : decode cX5_countFor 130 = .ok (.if_icmp .gt 85, 3) := by decide +kernel
theorem dX5_countFor_133 : decode cX5_countFor 133 = .ok (.iload 7, 2) := by decide +kernel
theorem dX5_countFor_135 : decode cX5_countFor 135 = .ok (.iconst 0, 1) := by decide +kernel
theorem dX5_countFor_136 : decode cX5_countFor 136 = .ok (.bipush 16, 2) := by decide +kernel
theorem dX5_countFor_138 : decode cX5_countFor 138 = .ok (.invokestatic 60, 3) := by decide +kernel
theorem dX5_countFor_141 : decode cX5_countFor 141 = .ok (.ifCond .eq 68, 3) := by decide +kernel
theorem dX5_countFor_144 : decode cX5_countFor 144 = .ok (.iload 6, 2) := by decide +kernel
theorem dX5_countFor_146 : decode cX5_countFor 146 = .ok (.iconst 0, 1) := by decide +kernel
theorem dX5_countFor_147 : decode cX5_countFor 147 = .ok (.bipush 16, 2) := by decide +kernel
theorem dX5_countFor_149 : decode cX5_countFor 149 = .ok (.invokestatic 60, 3) := by decide +kernel
theorem dX5_countFor_152 : decode cX5_countFor 152 = .ok (.ifCond .eq 57, 3) := by decide +kernel
theorem dX5_countFor_155 : decode cX5_countFor 155 = .ok (.iload 7, 2) := by decide +kernel
theorem dX5_countFor_157 : decode cX5_countFor 157 = .ok (.iload 6, 2) := by decide +kernel
theorem dX5_countFor_159 : decode cX5_countFor 159 = .ok (.invokestatic 98, 3) := by decide +kernel
theorem dX5_countFor_162 : decode cX5_countFor 162 = .ok (.iload 4, 2) := by decide +kernel
theorem dX5_countFor_164 : decode cX5_countFor 164 = .ok (.if_icmp .ne 45, 3) := by decide +kernel
theorem dX5_countFor_167 : decode cX5_countFor 167 = .ok (.iload 5, 2) := by decide +kernel
theorem dX5_countFor_169 : decode cX5_countFor 169 = .ok (.ifCond .eq 18, 3) := by decide +kernel
theorem dX5_countFor_172 : decode cX5_countFor 172 = .ok (.iload 7, 2) := by decide +kernel
theorem dX5_countFor_174 : decode cX5_countFor 174 = .ok (.iload_n 2, 1) := by decide +kernel
theorem dX5_countFor_175 : decode cX5_countFor 175 = .ok (.if_icmp .ne 34, 3) := by decide +kernel
theorem dX5_countFor_178 : decode cX5_countFor 178 = .ok (.iload 6, 2) := by decide +kernel
theorem dX5_countFor_180 : decode cX5_countFor 180 = .ok (.iload_n 3, 1) := by decide +kernel
theorem dX5_countFor_181 : decode cX5_countFor 181 = .ok (.if_icmp .ne 28, 3) := by decide +kernel
theorem dX5_countFor_184 : decode cX5_countFor 184 = .ok (.goto 15, 3) := by decide +kernel
theorem dX5_countFor_187 : decode cX5_countFor 187 = .ok (.iload 7, 2) := by decide +kernel
theorem dX5_countFor_189 : decode cX5_countFor 189 = .ok (.iload_n 2, 1) := by decide +kernel
theorem dX5_countFor_190 : decode cX5_countFor 190 = .ok (.if_icmp .ne 9, 3) := by decide +kernel
theorem dX5_countFor_193 : decode cX5_countFor 193 = .ok (.iload 6, 2) := by decide +kernel
theorem dX5_countFor_195 : decode cX5_countFor 195 = .ok (.iload_n 3, 1) := by decide +kernel
theorem dX5_countFor_196 : decode cX5_countFor 196 = .ok (.if_icmp .eq 13, 3) := by decide +kernel
theorem dX5_countFor_199 : decode cX5_countFor 199 = .ok (.aload_n 0, 1) := by decide +kernel
theorem dX5_countFor_200 : decode cX5_countFor 200 = .ok (.iload_n 1, 1) := by decide +kernel
theorem dX5_countFor_201 : decode cX5_countFor 201 = .ok (.iload 7, 2) := by decide +kernel
theorem dX5_countFor_203 : decode cX5_countFor 203 = .ok (.iload 6, 2) := by decide +kernel
theorem dX5_countFor_205 : decode cX5_countFor 205 = .ok (.iconst 0, 1) := by decide +kernel
theorem dX5_countFor_206 : decode cX5_countFor 206 = .ok (.invokevirtual 132, 3) := by decide +kernel
theorem dX5_countFor_209 : decode cX5_countFor 209 = .ok (.iinc 7 1, 3) := by decide +kernel
theorem dX5_countFor_212 : decode cX5_countFor 212 = .ok (.goto (-87), 3) := by decide +kernel
theorem dX5_countFor_215 : decode cX5_countFor 215 = .ok (.iinc 6 1, 3) := by decide +kernel
theorem dX5_countFor_218 : decode cX5_countFor 218 = .ok (.goto (-106), 3) := by decide +kernel
theorem dX5_countFor_221 : decode cX5_countFor 221 = .ok (.goto 80, 3) := by decide +kernel
theorem dX5_countFor_224 : decode cX5_countFor 224 = .ok (.iconst 0, 1) := by decide +kernel
theorem dX5_countFor_225 : decode cX5_countFor 225 = .ok (.istore 6, 2) := by decide +kernel
theorem dX5_countFor_227 : decode cX5_countFor 227 = .ok (.iload 6, 2) := by decide +kernel
theorem dX5_countFor_229 : decode cX5_countFor 229 = .ok (.iconst 3, 1) := by decide +kernel
theorem dX5_countFor_230 : decode cX5_countFor 230 = .ok (.if_icmp .ge 18, 3) := by decide +kernel
theorem dX5_countFor_233 : decode cX5_countFor 233 = .ok (.aload_n 0, 1) := by decide +kernel
theorem dX5_countFor_234 : decode cX5_countFor 234 = .ok (.iload_n 1, 1) := by decide +kernel
theorem dX5_countFor_235 : decode cX5_countFor 235 = .ok (.iload_n 2, 1) := by decide +kernel
theorem dX5_countFor_236 : decode cX5_countFor 236 = .ok (.iload_n 3, 1) := by decide +kernel
theorem dX5_countFor_237 : decode cX5_countFor 237 = .ok (.iload 6, 2) := by decide +kernel
theorem dX5_countFor_239 : decode cX5_countFor 239 = .ok (.invokevirtual 132, 3) := by decide +kernel
theorem dX5_countFor_242 : decode cX5_countFor 242 = .ok (.iinc 6 1, 3) := by decide +kernel
theorem dX5_countFor_245 : decode cX5_countFor 245 = .ok (.goto (-18), 3) := by decide +kernel
theorem dX5_countFor_248 : decode cX5_countFor 248 = .ok (.goto 53, 3) := by decide +kernel
theorem dX5_countFor_251 : decode cX5_countFor 251 = .ok (.iconst 0, 1) := by decide +kernel
theorem dX5_countFor_252 : decode cX5_countFor 252 = .ok (.istore 6, 2) := by decide +kernel
theorem dX5_countFor_254 : decode cX5_countFor 254 = .ok (.iload 6, 2) := by decide +kernel
theorem dX5_countFor_256 : decode cX5_countFor 256 = .ok (.iconst 4, 1) := by decide +kernel
theorem dX5_countFor_257 : decode cX5_countFor 257 = .ok (.if_icmp .ge 32, 3) := by decide +kernel
theorem dX5_countFor_260 : decode cX5_countFor 260 = .ok (.aload_n 0, 1) := by decide +kernel
theorem dX5_countFor_261 : decode cX5_countFor 261 = .ok (.iload_n 1, 1) := by decide +kernel
theorem dX5_countFor_262 : decode cX5_countFor 262 = .ok (.iconst 2, 1) := by decide +kernel
theorem dX5_countFor_263 : decode cX5_countFor 263 = .ok (.iload_n 2, 1) := by decide +kernel
theorem dX5_countFor_264 : decode cX5_countFor 264 = .ok (.imul, 1) := by decide +kernel
theorem dX5_countFor_265 : decode cX5_countFor 265 = .ok (.iload 6, 2) := by decide +kernel
theorem dX5_countFor_267 : decode cX5_countFor 267 = .ok (.iconst 2, 1) := by decide +kernel
theorem dX5_countFor_268 : decode cX5_countFor 268 = .ok (.irem, 1) := by decide +kernel
theorem dX5_countFor_269 : decode cX5_countFor 269 = .ok (.iadd, 1) := by decide +kernel
theorem dX5_countFor_270 : decode cX5_countFor 270 = .ok (.iconst 2, 1) := by decide +kernel
theorem dX5_countFor_271 : decode cX5_countFor 271 = .ok (.iload_n 3, 1) := by decide +kernel
theorem dX5_countFor_272 : decode cX5_countFor 272 = .ok (.imul, 1) := by decide +kernel
theorem dX5_countFor_273 : decode cX5_countFor 273 = .ok (.iload 6, 2) := by decide +kernel
theorem dX5_countFor_275 : decode cX5_countFor 275 = .ok (.iconst 2, 1) := by decide +kernel
theorem dX5_countFor_276 : decode cX5_countFor 276 = .ok (.idiv, 1) := by decide +kernel
theorem dX5_countFor_277 : decode cX5_countFor 277 = .ok (.iadd, 1) := by decide +kernel
theorem dX5_countFor_278 : decode cX5_countFor 278 = .ok (.iload 4, 2) := by decide +kernel
theorem dX5_countFor_280 : decode cX5_countFor 280 = .ok (.invokevirtual 132, 3) := by decide +kernel
theorem dX5_countFor_283 : decode cX5_countFor 283 = .ok (.iinc 6 1, 3) := by decide +kernel
theorem dX5_countFor_286 : decode cX5_countFor 286 = .ok (.goto (-32), 3) := by decide +kernel
theorem dX5_countFor_289 : decode cX5_countFor 289 = .ok (.goto 12, 3) := by decide +kernel
theorem dX5_countFor_292 : decode cX5_countFor 292 = .ok (.aload_n 0, 1) := by decide +kernel
theorem dX5_countFor_293 : decode cX5_countFor 293 = .ok (.iload_n 1, 1) := by decide +kernel
theorem dX5_countFor_294 : decode cX5_countFor 294 = .ok (.iload_n 2, 1) := by decide +kernel
theorem dX5_countFor_295 : decode cX5_countFor 295 = .ok (.iload_n 3, 1) := by decide +kernel
theorem dX5_countFor_296 : decode cX5_countFor 296 = .ok (.iload 4, 2) := by decide +kernel
theorem dX5_countFor_298 : decode cX5_countFor 298 = .ok (.invokevirtual 132, 3) := by decide +kernel
theorem dX5_countFor_301 : decode cX5_countFor 301 = .ok (.return_, 1) := by decide +kernel
theorem dX5_forget_0 : decode cX5_forget 0 = .ok (.aload_n 0, 1) := by decide +kernel
theorem dX5_forget_1 : decode cX5_forget 1 = .ok (.invokevirtual 71, 3) := by decide +kernel
theorem dX5_forget_4 : decode cX5_forget 4 = .ok (.iconst 0, 1) := by decide +kernel
theorem dX5_forget_5 : decode cX5_forget 5 = .ok (.istore_n 1, 1) := by decide +kernel
theorem dX5_forget_6 : decode cX5_forget 6 = .ok (.iload_n 1, 1) := by decide +kernel
theorem dX5_forget_7 : decode cX5_forget 7 = .ok (.sipush 8448, 3) := by decide +kernel
theorem dX5_forget_10 : decode cX5_forget 10 = .ok (.if_icmp .ge 16, 3) := by decide +kernel
theorem dX5_forget_13 : decode cX5_forget 13 = .ok (.aload_n 0, 1) := by decide +kernel
theorem dX5_forget_14 : decode cX5_forget 14 = .ok (.getfield 54, 3) := by decide +kernel
theorem dX5_forget_17 : decode cX5_forget 17 = .ok (.iload_n 1, 1) := by decide +kernel
theorem dX5_forget_18 : decode cX5_forget 18 = .ok (.iconst 0, 1) := by decide +kernel
theorem dX5_forget_19 : decode cX5_forget 19 = .ok (.bastore, 1) := by decide +kernel
theorem dX5_forget_20 : decode cX5_forget 20 = .ok (.iinc 1 1, 3) := by decide +kernel
theorem dX5_forget_23 : decode cX5_forget 23 = .ok (.goto (-17), 3) := by decide +kernel
theorem dX5_forget_26 : decode cX5_forget 26 = .ok (.return_, 1) := by decide +kernel
theorem dX5_trace_0 : decode cX5_trace 0 = .ok (.aload_n 0, 1) := by decide +kernel
theorem dX5_trace_1 : decode cX5_trace 1 = .ok (.getfield 64, 3) := by decide +kernel
theorem dX5_trace_4 : decode cX5_trace 4 = .ok (.iconst 1, 1) := by decide +kernel
theorem dX5_trace_5 : decode cX5_trace 5 = .ok (.isub, 1) := by decide +kernel
theorem dX5_trace_6 : decode cX5_trace 6 = .ok (.istore_n 1, 1) := by decide +kernel
theorem dX5_trace_7 : decode cX5_trace 7 = .ok (.iload_n 1, 1) := by decide +kernel
theorem dX5_trace_8 : decode cX5_trace 8 = .ok (.ifCond .lt 98, 3) := by decide +kernel
theorem dX5_trace_11 : decode cX5_trace 11 = .ok (.iconst 0, 1) := by decide +kernel
theorem dX5_trace_12 : decode cX5_trace 12 = .ok (.istore_n 2, 1) := by decide +kernel
theorem dX5_trace_13 : decode cX5_trace 13 = .ok (.iload_n 2, 1) := by decide +kernel
theorem dX5_trace_14 : decode cX5_trace 14 = .ok (.aload_n 0, 1) := by decide +kernel
theorem dX5_trace_15 : decode cX5_trace 15 = .ok (.getfield 39, 3) := by decide +kernel
theorem dX5_trace_18 : decode cX5_trace 18 = .ok (.iload_n 1, 1) := by decide +kernel
theorem dX5_trace_19 : decode cX5_trace 19 = .ok (.iconst 1, 1) := by decide +kernel
theorem dX5_trace_20 : decode cX5_trace 20 = .ok (.iadd, 1) := by decide +kernel
theorem dX5_trace_21 : decode cX5_trace 21 = .ok (.iaload, 1) := by decide +kernel
theorem dX5_trace_22 : decode cX5_trace 22 = .ok (.if_icmp .ge 78, 3) := by decide +kernel
theorem dX5_trace_25 : decode cX5_trace 25 = .ok (.iconst 0, 1) := by decide +kernel
theorem dX5_trace_26 : decode cX5_trace 26 = .ok (.istore_n 3, 1) := by decide +kernel
theorem dX5_trace_27 : decode cX5_trace 27 = .ok (.iload_n 3, 1) := by decide +kernel
theorem dX5_trace_28 : decode cX5_trace 28 = .ok (.aload_n 0, 1) := by decide +kernel
theorem dX5_trace_29 : decode cX5_trace 29 = .ok (.getfield 36, 3) := by decide +kernel
theorem dX5_trace_32 : decode cX5_trace 32 = .ok (.iload_n 1, 1) := by decide +kernel
theorem dX5_trace_33 : decode cX5_trace 33 = .ok (.iconst 1, 1) := by decide +kernel
theorem dX5_trace_34 : decode cX5_trace 34 = .ok (.iadd, 1) := by decide +kernel
theorem dX5_trace_35 : decode cX5_trace 35 = .ok (.iaload, 1) := by decide +kernel
theorem dX5_trace_36 : decode cX5_trace 36 = .ok (.if_icmp .ge 58, 3) := by decide +kernel
theorem dX5_trace_39 : decode cX5_trace 39 = .ok (.iconst 0, 1) := by decide +kernel
theorem dX5_trace_40 : decode cX5_trace 40 = .ok (.istore 4, 2) := by decide +kernel
theorem dX5_trace_42 : decode cX5_trace 42 = .ok (.iload 4, 2) := by decide +kernel
theorem dX5_trace_44 : decode cX5_trace 44 = .ok (.aload_n 0, 1) := by decide +kernel
theorem dX5_trace_45 : decode cX5_trace 45 = .ok (.getfield 42, 3) := by decide +kernel
theorem dX5_trace_48 : decode cX5_trace 48 = .ok (.iload_n 1, 1) := by decide +kernel
theorem dX5_trace_49 : decode cX5_trace 49 = .ok (.iconst 1, 1) := by decide +kernel
theorem dX5_trace_50 : decode cX5_trace 50 = .ok (.iadd, 1) := by decide +kernel
theorem dX5_trace_51 : decode cX5_trace 51 = .ok (.iaload, 1) := by decide +kernel
theorem dX5_trace_52 : decode cX5_trace 52 = .ok (.if_icmp .ge 36, 3) := by decide +kernel
theorem dX5_trace_55 : decode cX5_trace 55 = .ok (.aload_n 0, 1) := by decide +kernel
theorem dX5_trace_56 : decode cX5_trace 56 = .ok (.getfield 54, 3) := by decide +kernel
theorem dX5_trace_59 : decode cX5_trace 59 = .ok (.iload_n 1, 1) := by decide +kernel
theorem dX5_trace_60 : decode cX5_trace 60 = .ok (.iconst 1, 1) := by decide +kernel
theorem dX5_trace_61 : decode cX5_trace 61 = .ok (.iadd, 1) := by decide +kernel
theorem dX5_trace_62 : decode cX5_trace 62 = .ok (.iload_n 3, 1) := by decide +kernel
theorem dX5_trace_63 : decode cX5_trace 63 = .ok (.iload_n 2, 1) := by decide +kernel
theorem dX5_trace_64 : decode cX5_trace 64 = .ok (.iload 4, 2) := by decide +kernel
theorem dX5_trace_66 : decode cX5_trace 66 = .ok (.invokestatic 85, 3) := by decide +kernel
theorem dX5_trace_69 : decode cX5_trace 69 = .ok (.baload, 1) := by decide +kernel
theorem dX5_trace_70 : decode cX5_trace 70 = .ok (.ifCond .eq 12, 3) := by decide +kernel
theorem dX5_trace_73 : decode cX5_trace 73 = .ok (.aload_n 0, 1) := by decide +kernel
theorem dX5_trace_74 : decode cX5_trace 74 = .ok (.iload_n 1, 1) := by decide +kernel
theorem dX5_trace_75 : decode cX5_trace 75 = .ok (.iload_n 3, 1) := by decide +kernel
theorem dX5_trace_76 : decode cX5_trace 76 = .ok (.iload_n 2, 1) := by decide +kernel
theorem dX5_trace_77 : decode cX5_trace 77 = .ok (.iload 4, 2) := by decide +kernel
theorem dX5_trace_79 : decode cX5_trace 79 = .ok (.invokevirtual 136, 3) := by decide +kernel
theorem dX5_trace_82 : decode cX5_trace 82 = .ok (.iinc 4 1, 3) := by decide +kernel
theorem dX5_trace_85 : decode cX5_trace 85 = .ok (.goto (-43), 3) := by decide +kernel
theorem dX5_trace_88 : decode cX5_trace 88 = .ok (.iinc 3 1, 3) := by decide +kernel
theorem dX5_trace_91 : decode cX5_trace 91 = .ok (.goto (-64), 3) := by decide +kernel
theorem dX5_trace_94 : decode cX5_trace 94 = .ok (.iinc 2 1, 3) := by decide +kernel
theorem dX5_trace_97 : decode cX5_trace 97 = .ok (.goto (-84), 3) := by decide +kernel
theorem dX5_trace_100 : decode cX5_trace 100 = .ok (.iinc 1 (-1), 3) := by decide +kernel
theorem dX5_trace_103 : decode cX5_trace 103 = .ok (.goto (-96), 3) := by decide +kernel
theorem dX5_trace_106 : decode cX5_trace 106 = .ok (.return_, 1) := by decide +kernel
theorem dX5_needs_0 : decode cX5_needs 0 = .ok (.aload_n 0, 1) := by decide +kernel
theorem dX5_needs_1 : decode cX5_needs 1 = .ok (.invokevirtual 139, 3) := by decide +kernel
theorem dX5_needs_4 : decode cX5_needs 4 = .ok (.aload_n 0, 1) := by decide +kernel
theorem dX5_needs_5 : decode cX5_needs 5 = .ok (.iload_n 1, 1) := by decide +kernel
theorem dX5_needs_6 : decode cX5_needs 6 = .ok (.iload_n 2, 1) := by decide +kernel
theorem dX5_needs_7 : decode cX5_needs 7 = .ok (.iload_n 3, 1) := by decide +kernel
theorem dX5_needs_8 : decode cX5_needs 8 = .ok (.iload 4, 2) := by decide +kernel
theorem dX5_needs_10 : decode cX5_needs 10 = .ok (.invokevirtual 128, 3) := by decide +kernel
theorem dX5_needs_13 : decode cX5_needs 13 = .ok (.ifCond .ne 6, 3) := by decide +kernel
theorem dX5_needs_16 : decode cX5_needs 16 = .ok (.bipush (-102), 2) := by decide +kernel
theorem dX5_needs_18 : decode cX5_needs 18 = .ok (.ireturn, 1) := by decide +kernel
theorem dX5_needs_19 : decode cX5_needs 19 = .ok (.iload_n 2, 1) := by decide +kernel
theorem dX5_needs_20 : decode cX5_needs 20 = .ok (.istore 5, 2) := by decide +kernel
theorem dX5_needs_22 : decode cX5_needs 22 = .ok (.iload 5, 2) := by decide +kernel
theorem dX5_needs_24 : decode cX5_needs 24 = .ok (.iload_n 2, 1) := by decide +kernel
theorem dX5_needs_25 : decode cX5_needs 25 = .ok (.iload 4, 2) := by decide +kernel
theorem dX5_needs_27 : decode cX5_needs 27 = .ok (.iadd, 1) := by decide +kernel
theorem dX5_needs_28 : decode cX5_needs 28 = .ok (.if_icmp .ge 68, 3) := by decide +kernel
theorem dX5_needs_31 : decode cX5_needs 31 = .ok (.iload_n 1, 1) := by decide +kernel
theorem dX5_needs_32 : decode cX5_needs 32 = .ok (.istore 6, 2) := by decide +kernel
theorem dX5_needs_34 : decode cX5_needs 34 = .ok (.iload 6, 2) := by decide +kernel
theorem dX5_needs_36 : decode cX5_needs 36 = .ok (.iload_n 1, 1) := by decide +kernel
theorem dX5_needs_37 : decode cX5_needs 37 = .ok (.iload_n 3, 1) := by decide +kernel
theorem dX5_needs_38 : decode cX5_needs 38 = .ok (.iadd, 1) := by decide +kernel
theorem dX5_needs_39 : decode cX5_needs 39 = .ok (.if_icmp .ge 51, 3) := by decide +kernel
theorem dX5_needs_42 : decode cX5_needs 42 = .ok (.iconst 0, 1) := by decide +kernel
theorem dX5_needs_43 : decode cX5_needs 43 = .ok (.istore 7, 2) := by decide +kernel
theorem dX5_needs_45 : decode cX5_needs 45 = .ok (.iload 7, 2) := by decide +kernel
theorem dX5_needs_47 : decode cX5_needs 47 = .ok (.aload_n 0, 1) := by decide +kernel
theorem dX5_needs_48 : decode cX5_needs 48 = .ok (.getfield 42, 3) := by decide +kernel
theorem dX5_needs_51 : decode cX5_needs 51 = .ok (.aload_n 0, 1) := by decide +kernel
theorem dX5_needs_52 : decode cX5_needs 52 = .ok (.getfield 64, 3) := by decide +kernel
theorem dX5_needs_55 : decode cX5_needs 55 = .ok (.iaload, 1) := by decide +kernel
theorem dX5_needs_56 : decode cX5_needs 56 = .ok (.if_icmp .ge 28, 3) := by decide +kernel
theorem dX5_needs_59 : decode cX5_needs 59 = .ok (.aload_n 0, 1) := by decide +kernel
theorem dX5_needs_60 : decode cX5_needs 60 = .ok (.getfield 54, 3) := by decide +kernel
theorem dX5_needs_63 : decode cX5_needs 63 = .ok (.aload_n 0, 1) := by decide +kernel
theorem dX5_needs_64 : decode cX5_needs 64 = .ok (.getfield 64, 3) := by decide +kernel
theorem dX5_needs_67 : decode cX5_needs 67 = .ok (.iload 6, 2) := by decide +kernel
theorem dX5_needs_69 : decode cX5_needs 69 = .ok (.iload 5, 2) := by decide +kernel
theorem dX5_needs_71 : decode cX5_needs 71 = .ok (.iload 7, 2) := by decide +kernel
theorem dX5_needs_73 : decode cX5_needs 73 = .ok (.invokestatic 85, 3) := by decide +kernel
theorem dX5_needs_76 : decode cX5_needs 76 = .ok (.iconst 1, 1) := by decide +kernel
theorem dX5_needs_77 : decode cX5_needs 77 = .ok (.bastore, 1) := by decide +kernel
theorem dX5_needs_78 : decode cX5_needs 78 = .ok (.iinc 7 1, 3) := by decide +kernel
theorem dX5_needs_81 : decode cX5_needs 81 = .ok (.goto (-36), 3) := by decide +kernel
theorem dX5_needs_84 : decode cX5_needs 84 = .ok (.iinc 6 1, 3) := by decide +kernel
theorem dX5_needs_87 : decode cX5_needs 87 = .ok (.goto (-53), 3) := by decide +kernel
theorem dX5_needs_90 : decode cX5_needs 90 = .ok (.iinc 5 1, 3) := by decide +kernel
theorem dX5_needs_93 : decode cX5_needs 93 = .ok (.goto (-71), 3) := by decide +kernel
theorem dX5_needs_96 : decode cX5_needs 96 = .ok (.aload_n 0, 1) := by decide +kernel
theorem dX5_needs_97 : decode cX5_needs 97 = .ok (.invokevirtual 142, 3) := by decide +kernel
theorem dX5_needs_100 : decode cX5_needs 100 = .ok (.iconst 0, 1) := by decide +kernel
theorem dX5_needs_101 : decode cX5_needs 101 = .ok (.istore 5, 2) := by decide +kernel
theorem dX5_needs_103 : decode cX5_needs 103 = .ok (.iconst 0, 1) := by decide +kernel
theorem dX5_needs_104 : decode cX5_needs 104 = .ok (.istore 6, 2) := by decide +kernel
theorem dX5_needs_106 : decode cX5_needs 106 = .ok (.iload 6, 2) := by decide +kernel
theorem dX5_needs_108 : decode cX5_needs 108 = .ok (.aload_n 0, 1) := by decide +kernel
theorem dX5_needs_109 : decode cX5_needs 109 = .ok (.getfield 13, 3) := by decide +kernel
theorem dX5_needs_112 : decode cX5_needs 112 = .ok (.if_icmp .ge 54, 3) := by decide +kernel
theorem dX5_needs_115 : decode cX5_needs 115 = .ok (.iconst 0, 1) := by decide +kernel
theorem dX5_needs_116 : decode cX5_needs 116 = .ok (.istore 7, 2) := by decide +kernel
theorem dX5_needs_118 : decode cX5_needs 118 = .ok (.iload 7, 2) := by decide +kernel
theorem dX5_needs_120 : decode cX5_needs 120 = .ok (.aload_n 0, 1) := by decide +kernel
theorem dX5_needs_121 : decode cX5_needs 121 = .ok (.getfield 7, 3) := by decide +kernel
theorem dX5_needs_124 : decode cX5_needs 124 = .ok (.if_icmp .ge 36, 3) := by decide +kernel
theorem dX5_needs_127 : decode cX5_needs 127 = .ok (.iload 5, 2) := by decide +kernel
theorem dX5_needs_129 : decode cX5_needs 129 = .ok (.aload_n 0, 1) := by decide +kernel
theorem dX5_needs_130 : decode cX5_needs 130 = .ok (.getfield 54, 3) := by decide +kernel
theorem dX5_needs_133 : decode cX5_needs 133 = .ok (.iconst 0, 1) := by decide +kernel
theorem dX5_needs_134 : decode cX5_needs 134 = .ok (.iload 7, 2) := by decide +kernel
theorem dX5_needs_136 : decode cX5_needs 136 = .ok (.iload 6, 2) := by decide +kernel
theorem dX5_needs_138 : decode cX5_needs 138 = .ok (.iconst 0, 1) := by decide +kernel
theorem dX5_needs_139 : decode cX5_needs 139 = .ok (.invokestatic 85, 3) := by decide +kernel
theorem dX5_needs_142 : decode cX5_needs 142 = .ok (.baload, 1) := by decide +kernel
theorem dX5_needs_143 : decode cX5_needs 143 = .ok (.ifCond .eq 7, 3) := by decide +kernel
theorem dX5_needs_146 : decode cX5_needs 146 = .ok (.iconst 1, 1) := by decide +kernel
theorem dX5_needs_147 : decode cX5_needs 147 = .ok (.goto 4, 3) := by decide +kernel
theorem dX5_needs_150 : decode cX5_needs 150 = .ok (.iconst 0, 1) := by decide +kernel
theorem dX5_needs_151 : decode cX5_needs 151 = .ok (.iadd, 1) := by decide +kernel
theorem dX5_needs_152 : decode cX5_needs 152 = .ok (.istore 5, 2) := by decide +kernel
theorem dX5_needs_154 : decode cX5_needs 154 = .ok (.iinc 7 1, 3) := by decide +kernel
theorem dX5_needs_157 : decode cX5_needs 157 = .ok (.goto (-39), 3) := by decide +kernel
theorem dX5_needs_160 : decode cX5_needs 160 = .ok (.iinc 6 1, 3) := by decide +kernel
theorem dX5_needs_163 : decode cX5_needs 163 = .ok (.goto (-57), 3) := by decide +kernel
theorem dX5_needs_166 : decode cX5_needs 166 = .ok (.iload 5, 2) := by decide +kernel
theorem dX5_needs_168 : decode cX5_needs 168 = .ok (.ireturn, 1) := by decide +kernel
theorem dX5_counts_0 : decode cX5_counts 0 = .ok (.aload_n 0, 1) := by decide +kernel
theorem dX5_counts_1 : decode cX5_counts 1 = .ok (.iload_n 1, 1) := by decide +kernel
theorem dX5_counts_2 : decode cX5_counts 2 = .ok (.iload_n 2, 1) := by decide +kernel
theorem dX5_counts_3 : decode cX5_counts 3 = .ok (.invokevirtual 67, 3) := by decide +kernel
theorem dX5_counts_6 : decode cX5_counts 6 = .ok (.ifCond .ne 6, 3) := by decide +kernel
theorem dX5_counts_9 : decode cX5_counts 9 = .ok (.bipush (-101), 2) := by decide +kernel
theorem dX5_counts_11 : decode cX5_counts 11 = .ok (.ireturn, 1) := by decide +kernel
theorem dX5_counts_12 : decode cX5_counts 12 = .ok (.aload_n 0, 1) := by decide +kernel
theorem dX5_counts_13 : decode cX5_counts 13 = .ok (.invokevirtual 139, 3) := by decide +kernel
theorem dX5_counts_16 : decode cX5_counts 16 = .ok (.aload_n 0, 1) := by decide +kernel
theorem dX5_counts_17 : decode cX5_counts 17 = .ok (.aload_n 0, 1) := by decide +kernel
theorem dX5_counts_18 : decode cX5_counts 18 = .ok (.getfield 64, 3) := by decide +kernel
theorem dX5_counts_21 : decode cX5_counts 21 = .ok (.iload_n 3, 1) := by decide +kernel
theorem dX5_counts_22 : decode cX5_counts 22 = .ok (.iload 4, 2) := by decide +kernel
theorem dX5_counts_24 : decode cX5_counts 24 = .ok (.invokevirtual 95, 3) := by decide +kernel
theorem dX5_counts_27 : decode cX5_counts 27 = .ok (.ifCond .eq 23, 3) := by decide +kernel
theorem dX5_counts_30 : decode cX5_counts 30 = .ok (.iload 5, 2) := by decide +kernel
theorem dX5_counts_32 : decode cX5_counts 32 = .ok (.iconst 0, 1) := by decide +kernel
theorem dX5_counts_33 : decode cX5_counts 33 = .ok (.aload_n 0, 1) := by decide +kernel
theorem dX5_counts_34 : decode cX5_counts 34 = .ok (.getfield 42, 3) := by decide +kernel
theorem dX5_counts_37 : decode cX5_counts 37 = .ok (.aload_n 0, 1) := by decide +kernel
theorem dX5_counts_38 : decode cX5_counts 38 = .ok (.getfield 64, 3) := by decide +kernel
theorem dX5_counts_41 : decode cX5_counts 41 = .ok (.iaload, 1) := by decide +kernel
theorem dX5_counts_42 : decode cX5_counts 42 = .ok (.iconst 1, 1) := by decide +kernel
theorem dX5_counts_43 : decode cX5_counts 43 = .ok (.isub, 1) := by decide +kernel
theorem dX5_counts_44 : decode cX5_counts 44 = .ok (.invokestatic 60, 3) := by decide +kernel
theorem dX5_counts_47 : decode cX5_counts 47 = .ok (.ifCond .ne 6, 3) := by decide +kernel
theorem dX5_counts_50 : decode cX5_counts 50 = .ok (.bipush (-102), 2) := by decide +kernel
theorem dX5_counts_52 : decode cX5_counts 52 = .ok (.ireturn, 1) := by decide +kernel
theorem dX5_counts_53 : decode cX5_counts 53 = .ok (.aload_n 0, 1) := by decide +kernel
theorem dX5_counts_54 : decode cX5_counts 54 = .ok (.getfield 54, 3) := by decide +kernel
theorem dX5_counts_57 : decode cX5_counts 57 = .ok (.aload_n 0, 1) := by decide +kernel
theorem dX5_counts_58 : decode cX5_counts 58 = .ok (.getfield 64, 3) := by decide +kernel
theorem dX5_counts_61 : decode cX5_counts 61 = .ok (.iload_n 3, 1) := by decide +kernel
theorem dX5_counts_62 : decode cX5_counts 62 = .ok (.iload 4, 2) := by decide +kernel
theorem dX5_counts_64 : decode cX5_counts 64 = .ok (.iload 5, 2) := by decide +kernel
theorem dX5_counts_66 : decode cX5_counts 66 = .ok (.invokestatic 85, 3) := by decide +kernel
theorem dX5_counts_69 : decode cX5_counts 69 = .ok (.iconst 1, 1) := by decide +kernel
theorem dX5_counts_70 : decode cX5_counts 70 = .ok (.bastore, 1) := by decide +kernel
theorem dX5_counts_71 : decode cX5_counts 71 = .ok (.aload_n 0, 1) := by decide +kernel
theorem dX5_counts_72 : decode cX5_counts 72 = .ok (.invokevirtual 142, 3) := by decide +kernel
theorem dX5_counts_75 : decode cX5_counts 75 = .ok (.aload_n 0, 1) := by decide +kernel
theorem dX5_counts_76 : decode cX5_counts 76 = .ok (.getfield 54, 3) := by decide +kernel
theorem dX5_counts_79 : decode cX5_counts 79 = .ok (.iconst 0, 1) := by decide +kernel
theorem dX5_counts_80 : decode cX5_counts 80 = .ok (.iload_n 1, 1) := by decide +kernel
theorem dX5_counts_81 : decode cX5_counts 81 = .ok (.iload_n 2, 1) := by decide +kernel
theorem dX5_counts_82 : decode cX5_counts 82 = .ok (.iconst 0, 1) := by decide +kernel
theorem dX5_counts_83 : decode cX5_counts 83 = .ok (.invokestatic 85, 3) := by decide +kernel
theorem dX5_counts_86 : decode cX5_counts 86 = .ok (.baload, 1) := by decide +kernel
theorem dX5_counts_87 : decode cX5_counts 87 = .ok (.ifCond .eq 7, 3) := by decide +kernel
theorem dX5_counts_90 : decode cX5_counts 90 = .ok (.iconst 1, 1) := by decide +kernel
theorem dX5_counts_91 : decode cX5_counts 91 = .ok (.goto 4, 3) := by decide +kernel
theorem dX5_counts_94 : decode cX5_counts 94 = .ok (.iconst 0, 1) := by decide +kernel
theorem dX5_counts_95 : decode cX5_counts 95 = .ok (.ireturn, 1) := by decide +kernel
theorem dX5_bound_0 : decode cX5_bound 0 = .ok (.aload_n 0, 1) := by decide +kernel
theorem dX5_bound_1 : decode cX5_bound 1 = .ok (.aload_n 0, 1) := by decide +kernel
theorem dX5_bound_2 : decode cX5_bound 2 = .ok (.getfield 64, 3) := by decide +kernel
theorem dX5_bound_5 : decode cX5_bound 5 = .ok (.invokevirtual 124, 3) := by decide +kernel
theorem dX5_bound_8 : decode cX5_bound 8 = .ok (.iload_n 1, 1) := by decide +kernel
theorem dX5_bound_9 : decode cX5_bound 9 = .ok (.iconst 0, 1) := by decide +kernel
theorem dX5_bound_10 : decode cX5_bound 10 = .ok (.aload_n 0, 1) := by decide +kernel
theorem dX5_bound_11 : decode cX5_bound 11 = .ok (.getfield 42, 3) := by decide +kernel
theorem dX5_bound_14 : decode cX5_bound 14 = .ok (.aload_n 0, 1) := by decide +kernel
theorem dX5_bound_15 : decode cX5_bound 15 = .ok (.getfield 64, 3) := by decide +kernel
theorem dX5_bound_18 : decode cX5_bound 18 = .ok (.iaload, 1) := by decide +kernel
theorem dX5_bound_19 : decode cX5_bound 19 = .ok (.iconst 1, 1) := by decide +kernel
theorem dX5_bound_20 : decode cX5_bound 20 = .ok (.isub, 1) := by decide +kernel
theorem dX5_bound_21 : decode cX5_bound 21 = .ok (.invokestatic 60, 3) := by decide +kernel
theorem dX5_bound_24 : decode cX5_bound 24 = .ok (.ifCond .eq 12, 3) := by decide +kernel
theorem dX5_bound_27 : decode cX5_bound 27 = .ok (.iload_n 2, 1) := by decide +kernel
theorem dX5_bound_28 : decode cX5_bound 28 = .ok (.iconst 0, 1) := by decide +kernel
theorem dX5_bound_29 : decode cX5_bound 29 = .ok (.iconst 1, 1) := by decide +kernel
theorem dX5_bound_30 : decode cX5_bound 30 = .ok (.invokestatic 60, 3) := by decide +kernel
theorem dX5_bound_33 : decode cX5_bound 33 = .ok (.ifCond .ne 6, 3) := by decide +kernel
theorem dX5_bound_36 : decode cX5_bound 36 = .ok (.bipush (-102), 2) := by decide +kernel
theorem dX5_bound_38 : decode cX5_bound 38 = .ok (.ireturn, 1) := by decide +kernel
theorem dX5_bound_39 : decode cX5_bound 39 = .ok (.aload_n 0, 1) := by decide +kernel
theorem dX5_bound_40 : decode cX5_bound 40 = .ok (.getfield 51, 3) := by decide +kernel
theorem dX5_bound_43 : decode cX5_bound 43 = .ok (.aload_n 0, 1) := by decide +kernel
theorem dX5_bound_44 : decode cX5_bound 44 = .ok (.getfield 64, 3) := by decide +kernel
theorem dX5_bound_47 : decode cX5_bound 47 = .ok (.iconst 0, 1) := by decide +kernel
theorem dX5_bound_48 : decode cX5_bound 48 = .ok (.iconst 0, 1) := by decide +kernel
theorem dX5_bound_49 : decode cX5_bound 49 = .ok (.iload_n 1, 1) := by decide +kernel
theorem dX5_bound_50 : decode cX5_bound 50 = .ok (.invokestatic 85, 3) := by decide +kernel
theorem dX5_bound_53 : decode cX5_bound 53 = .ok (.iaload, 1) := by decide +kernel
theorem dX5_bound_54 : decode cX5_bound 54 = .ok (.istore_n 3, 1) := by decide +kernel
theorem dX5_bound_55 : decode cX5_bound 55 = .ok (.iconst 0, 1) := by decide +kernel
theorem dX5_bound_56 : decode cX5_bound 56 = .ok (.istore 4, 2) := by decide +kernel
theorem dX5_bound_58 : decode cX5_bound 58 = .ok (.iload 4, 2) := by decide +kernel
theorem dX5_bound_60 : decode cX5_bound 60 = .ok (.aload_n 0, 1) := by decide +kernel
theorem dX5_bound_61 : decode cX5_bound 61 = .ok (.getfield 39, 3) := by decide +kernel
theorem dX5_bound_64 : decode cX5_bound 64 = .ok (.aload_n 0, 1) := by decide +kernel
theorem dX5_bound_65 : decode cX5_bound 65 = .ok (.getfield 64, 3) := by decide +kernel
theorem dX5_bound_68 : decode cX5_bound 68 = .ok (.iaload, 1) := by decide +kernel
theorem dX5_bound_69 : decode cX5_bound 69 = .ok (.if_icmp .ge 83, 3) := by decide +kernel
theorem dX5_bound_72 : decode cX5_bound 72 = .ok (.iconst 0, 1) := by decide +kernel
theorem dX5_bound_73 : decode cX5_bound 73 = .ok (.istore 5, 2) := by decide +kernel
theorem dX5_bound_75 : decode cX5_bound 75 = .ok (.iload 5, 2) := by decide +kernel
theorem dX5_bound_77 : decode cX5_bound 77 = .ok (.aload_n 0, 1) := by decide +kernel
theorem dX5_bound_78 : decode cX5_bound 78 = .ok (.getfield 36, 3) := by decide +kernel
theorem dX5_bound_81 : decode cX5_bound 81 = .ok (.aload_n 0, 1) := by decide +kernel
theorem dX5_bound_82 : decode cX5_bound 82 = .ok (.getfield 64, 3) := by decide +kernel
theorem dX5_bound_85 : decode cX5_bound 85 = .ok (.iaload, 1) := by decide +kernel
theorem dX5_bound_86 : decode cX5_bound 86 = .ok (.if_icmp .ge 60, 3) := by decide +kernel
theorem dX5_bound_89 : decode cX5_bound 89 = .ok (.aload_n 0, 1) := by decide +kernel
theorem dX5_bound_90 : decode cX5_bound 90 = .ok (.getfield 51, 3) := by decide +kernel
theorem dX5_bound_93 : decode cX5_bound 93 = .ok (.aload_n 0, 1) := by decide +kernel
theorem dX5_bound_94 : decode cX5_bound 94 = .ok (.getfield 64, 3) := by decide +kernel
theorem dX5_bound_97 : decode cX5_bound 97 = .ok (.iload 5, 2) := by decide +kernel
theorem dX5_bound_99 : decode cX5_bound 99 = .ok (.iload 4, 2) := by decide +kernel
theorem dX5_bound_101 : decode cX5_bound 101 = .ok (.iload_n 1, 1) := by decide +kernel
theorem dX5_bound_102 : decode cX5_bound 102 = .ok (.invokestatic 85, 3) := by decide +kernel
theorem dX5_bound_105 : decode cX5_bound 105 = .ok (.iaload, 1) := by decide +kernel
theorem dX5_bound_106 : decode cX5_bound 106 = .ok (.istore 6, 2) := by decide +kernel
theorem dX5_bound_108 : decode cX5_bound 108 = .ok (.iload_n 2, 1) := by decide +kernel
theorem dX5_bound_109 : decode cX5_bound 109 = .ok (.ifCond .ne 18, 3) := by decide +kernel
theorem dX5_bound_112 : decode cX5_bound 112 = .ok (.iload 6, 2) := by decide +kernel
theorem dX5_bound_114 : decode cX5_bound 114 = .ok (.iload_n 3, 1) := by decide +kernel
theorem dX5_bound_115 : decode cX5_bound 115 = .ok (.if_icmp .ge 8, 3) := by decide +kernel
theorem dX5_bound_118 : decode cX5_bound 118 = .ok (.iload 6, 2) := by decide +kernel
theorem dX5_bound_120 : decode cX5_bound 120 = .ok (.goto 19, 3) := by decide +kernel
theorem dX5_bound_123 : decode cX5_bound 123 = .ok (.iload_n 3, 1) := by decide +kernel
theorem dX5_bound_124 : decode cX5_bound 124 = .ok (.goto 15, 3) := by decide +kernel
theorem dX5_bound_127 : decode cX5_bound 127 = .ok (.iload 6, 2) := by decide +kernel
theorem dX5_bound_129 : decode cX5_bound 129 = .ok (.iload_n 3, 1) := by decide +kernel
theorem dX5_bound_130 : decode cX5_bound 130 = .ok (.if_icmp .le 8, 3) := by decide +kernel
theorem dX5_bound_133 : decode cX5_bound 133 = .ok (.iload 6, 2) := by decide +kernel
theorem dX5_bound_135 : decode cX5_bound 135 = .ok (.goto 4, 3) := by decide +kernel
theorem dX5_bound_138 : decode cX5_bound 138 = .ok (.iload_n 3, 1) := by decide +kernel
theorem dX5_bound_139 : decode cX5_bound 139 = .ok (.istore_n 3, 1) := by decide +kernel
theorem dX5_bound_140 : decode cX5_bound 140 = .ok (.iinc 5 1, 3) := by decide +kernel
theorem dX5_bound_143 : decode cX5_bound 143 = .ok (.goto (-68), 3) := by decide +kernel
theorem dX5_bound_146 : decode cX5_bound 146 = .ok (.iinc 4 1, 3) := by decide +kernel
theorem dX5_bound_149 : decode cX5_bound 149 = .ok (.goto (-91), 3) := by decide +kernel
theorem dX5_bound_152 : decode cX5_bound 152 = .ok (.iload_n 3, 1) := by decide +kernel
theorem dX5_bound_153 : decode cX5_bound 153 = .ok (.ireturn, 1) := by decide +kernel
theorem dX5_count_0 : decode cX5_count 0 = .ok (.iconst 0, 1) := by decide +kernel
theorem dX5_count_1 : decode cX5_count 1 = .ok (.istore_n 2, 1) := by decide +kernel
theorem dX5_count_2 : decode cX5_count 2 = .ok (.iconst 0, 1) := by decide +kernel
theorem dX5_count_3 : decode cX5_count 3 = .ok (.istore_n 3, 1) := by decide +kernel
theorem dX5_count_4 : decode cX5_count 4 = .ok (.iload_n 3, 1) := by decide +kernel
theorem dX5_count_5 : decode cX5_count 5 = .ok (.sipush 256, 3) := by decide +kernel
theorem dX5_count_8 : decode cX5_count 8 = .ok (.if_icmp .ge 26, 3) := by decide +kernel
theorem dX5_count_11 : decode cX5_count 11 = .ok (.iload_n 2, 1) := by decide +kernel
theorem dX5_count_12 : decode cX5_count 12 = .ok (.aload_n 0, 1) := by decide +kernel
theorem dX5_count_13 : decode cX5_count 13 = .ok (.getfield 20, 3) := by decide +kernel
theorem dX5_count_16 : decode cX5_count 16 = .ok (.iload_n 3, 1) := by decide +kernel
theorem dX5_count_17 : decode cX5_count 17 = .ok (.baload, 1) := by decide +kernel
theorem dX5_count_18 : decode cX5_count 18 = .ok (.ifCond .eq 7, 3) := by decide +kernel
theorem dX5_count_21 : decode cX5_count 21 = .ok (.iconst 1, 1) := by decide +kernel
theorem dX5_count_22 : decode cX5_count 22 = .ok (.goto 4, 3) := by decide +kernel
theorem dX5_count_25 : decode cX5_count 25 = .ok (.iconst 0, 1) := by decide +kernel
theorem dX5_count_26 : decode cX5_count 26 = .ok (.iadd, 1) := by decide +kernel
theorem dX5_count_27 : decode cX5_count 27 = .ok (.istore_n 2, 1) := by decide +kernel
theorem dX5_count_28 : decode cX5_count 28 = .ok (.iinc 3 1, 3) := by decide +kernel
theorem dX5_count_31 : decode cX5_count 31 = .ok (.goto (-27), 3) := by decide +kernel
theorem dX5_count_34 : decode cX5_count 34 = .ok (.iload_n 1, 1) := by decide +kernel
theorem dX5_count_35 : decode cX5_count 35 = .ok (.ifCond .ne 10, 3) := by decide +kernel
theorem dX5_count_38 : decode cX5_count 38 = .ok (.aload_n 0, 1) := by decide +kernel
theorem dX5_count_39 : decode cX5_count 39 = .ok (.getfield 7, 3) := by decide +kernel
theorem dX5_count_42 : decode cX5_count 42 = .ok (.goto 38, 3) := by decide +kernel
theorem dX5_count_45 : decode cX5_count 45 = .ok (.iload_n 1, 1) := by decide +kernel
theorem dX5_count_46 : decode cX5_count 46 = .ok (.iconst 1, 1) := by decide +kernel
theorem dX5_count_47 : decode cX5_count 47 = .ok (.if_icmp .ne 10, 3) := by decide +kernel
theorem dX5_count_50 : decode cX5_count 50 = .ok (.aload_n 0, 1) := by decide +kernel
theorem dX5_count_51 : decode cX5_count 51 = .ok (.getfield 13, 3) := by decide +kernel
theorem dX5_count_54 : decode cX5_count 54 = .ok (.goto 26, 3) := by decide +kernel
theorem dX5_count_57 : decode cX5_count 57 = .ok (.iload_n 1, 1) := by decide +kernel
theorem dX5_count_58 : decode cX5_count 58 = .ok (.iconst 2, 1) := by decide +kernel
theorem dX5_count_59 : decode cX5_count 59 = .ok (.if_icmp .ne 7, 3) := by decide +kernel
theorem dX5_count_62 : decode cX5_count 62 = .ok (.iload_n 2, 1) := by decide +kernel
theorem dX5_count_63 : decode cX5_count 63 = .ok (.goto 17, 3) := by decide +kernel
theorem dX5_count_66 : decode cX5_count 66 = .ok (.iload_n 1, 1) := by decide +kernel
theorem dX5_count_67 : decode cX5_count 67 = .ok (.iconst 3, 1) := by decide +kernel
theorem dX5_count_68 : decode cX5_count 68 = .ok (.if_icmp .ne 10, 3) := by decide +kernel
theorem dX5_count_71 : decode cX5_count 71 = .ok (.aload_n 0, 1) := by decide +kernel
theorem dX5_count_72 : decode cX5_count 72 = .ok (.getfield 64, 3) := by decide +kernel
theorem dX5_count_75 : decode cX5_count 75 = .ok (.goto 5, 3) := by decide +kernel
theorem dX5_count_78 : decode cX5_count 78 = .ok (.bipush (-102), 2) := by decide +kernel
theorem dX5_count_80 : decode cX5_count 80 = .ok (.ireturn, 1) := by decide +kernel
theorem dX5_mix_0 : decode cX5_mix 0 = .ok (.aload_n 0, 1) := by decide +kernel
theorem dX5_mix_1 : decode cX5_mix 1 = .ok (.ldc2_w 145, 3) := by decide +kernel
theorem dX5_mix_4 : decode cX5_mix 4 = .ok (.aload_n 0, 1) := by decide +kernel
theorem dX5_mix_5 : decode cX5_mix 5 = .ok (.getfield 147, 3) := by decide +kernel
theorem dX5_mix_8 : decode cX5_mix 8 = .ok (.lmul, 1) := by decide +kernel
theorem dX5_mix_9 : decode cX5_mix 9 = .ok (.lload_n 1, 1) := by decide +kernel
theorem dX5_mix_10 : decode cX5_mix 10 = .ok (.ladd, 1) := by decide +kernel
theorem dX5_mix_11 : decode cX5_mix 11 = .ok (.putfield 147, 3) := by decide +kernel
theorem dX5_mix_14 : decode cX5_mix 14 = .ok (.return_, 1) := by decide +kernel
theorem dX5_many_0 : decode cX5_many 0 = .ok (.iload_n 0, 1) := by decide +kernel
theorem dX5_many_1 : decode cX5_many 1 = .ok (.ifCond .ne 7, 3) := by decide +kernel
theorem dX5_many_4 : decode cX5_many 4 = .ok (.iconst 1, 1) := by decide +kernel
theorem dX5_many_5 : decode cX5_many 5 = .ok (.goto 34, 3) := by decide +kernel
theorem dX5_many_8 : decode cX5_many 8 = .ok (.iload_n 0, 1) := by decide +kernel
theorem dX5_many_9 : decode cX5_many 9 = .ok (.iconst 1, 1) := by decide +kernel
theorem dX5_many_10 : decode cX5_many 10 = .ok (.if_icmp .ne 7, 3) := by decide +kernel
theorem dX5_many_13 : decode cX5_many 13 = .ok (.iconst 3, 1) := by decide +kernel
theorem dX5_many_14 : decode cX5_many 14 = .ok (.goto 25, 3) := by decide +kernel
theorem dX5_many_17 : decode cX5_many 17 = .ok (.iload_n 0, 1) := by decide +kernel
theorem dX5_many_18 : decode cX5_many 18 = .ok (.iconst 5, 1) := by decide +kernel
theorem dX5_many_19 : decode cX5_many 19 = .ok (.if_icmp .ne 8, 3) := by decide +kernel
theorem dX5_many_22 : decode cX5_many 22 = .ok (.bipush 9, 2) := by decide +kernel
theorem dX5_many_24 : decode cX5_many 24 = .ok (.goto 15, 3) := by decide +kernel
theorem dX5_many_27 : decode cX5_many 27 = .ok (.iload_n 0, 1) := by decide +kernel
theorem dX5_many_28 : decode cX5_many 28 = .ok (.bipush 6, 2) := by decide +kernel
theorem dX5_many_30 : decode cX5_many 30 = .ok (.if_icmp .ne 8, 3) := by decide +kernel
theorem dX5_many_33 : decode cX5_many 33 = .ok (.bipush 17, 2) := by decide +kernel
theorem dX5_many_35 : decode cX5_many 35 = .ok (.goto 4, 3) := by decide +kernel
theorem dX5_many_38 : decode cX5_many 38 = .ok (.iconst 0, 1) := by decide +kernel
theorem dX5_many_39 : decode cX5_many 39 = .ok (.ireturn, 1) := by decide +kernel
theorem dX5_digest_0 : decode cX5_digest 0 = .ok (.aload_n 0, 1) := by decide +kernel
theorem dX5_digest_1 : decode cX5_digest 1 = .ok (.aload_n 0, 1) := by decide +kernel
theorem dX5_digest_2 : decode cX5_digest 2 = .ok (.getfield 64, 3) := by decide +kernel
theorem dX5_digest_5 : decode cX5_digest 5 = .ok (.invokevirtual 124, 3) := by decide +kernel
theorem dX5_digest_8 : decode cX5_digest 8 = .ok (.aload_n 0, 1) := by decide +kernel
theorem dX5_digest_9 : decode cX5_digest 9 = .ok (.ldc2_w 151, 3) := by decide +kernel
theorem dX5_digest_12 : decode cX5_digest 12 = .ok (.putfield 147, 3) := by decide +kernel
theorem dX5_digest_15 : decode cX5_digest 15 = .ok (.aload_n 0, 1) := by decide +kernel
theorem dX5_digest_16 : decode cX5_digest 16 = .ok (.aload_n 0, 1) := by decide +kernel
theorem dX5_digest_17 : decode cX5_digest 17 = .ok (.getfield 7, 3) := by decide +kernel
theorem dX5_digest_20 : decode cX5_digest 20 = .ok (.i2l, 1) := by decide +kernel
theorem dX5_digest_21 : decode cX5_digest 21 = .ok (.invokevirtual 153, 3) := by decide +kernel
theorem dX5_digest_24 : decode cX5_digest 24 = .ok (.aload_n 0, 1) := by decide +kernel
theorem dX5_digest_25 : decode cX5_digest 25 = .ok (.aload_n 0, 1) := by decide +kernel
theorem dX5_digest_26 : decode cX5_digest 26 = .ok (.getfield 13, 3) := by decide +kernel
theorem dX5_digest_29 : decode cX5_digest 29 = .ok (.i2l, 1) := by decide +kernel
theorem dX5_digest_30 : decode cX5_digest 30 = .ok (.invokevirtual 153, 3) := by decide +kernel
theorem dX5_digest_33 : decode cX5_digest 33 = .ok (.iconst 0, 1) := by decide +kernel
theorem dX5_digest_34 : decode cX5_digest 34 = .ok (.istore_n 1, 1) := by decide +kernel
theorem dX5_digest_35 : decode cX5_digest 35 = .ok (.iload_n 1, 1) := by decide +kernel
theorem dX5_digest_36 : decode cX5_digest 36 = .ok (.aload_n 0, 1) := by decide +kernel
theorem dX5_digest_37 : decode cX5_digest 37 = .ok (.getfield 13, 3) := by decide +kernel
theorem dX5_digest_40 : decode cX5_digest 40 = .ok (.if_icmp .ge 63, 3) := by decide +kernel
theorem dX5_digest_43 : decode cX5_digest 43 = .ok (.iconst 0, 1) := by decide +kernel
theorem dX5_digest_44 : decode cX5_digest 44 = .ok (.istore_n 2, 1) := by decide +kernel
theorem dX5_digest_45 : decode cX5_digest 45 = .ok (.iload_n 2, 1) := by decide +kernel
theorem dX5_digest_46 : decode cX5_digest 46 = .ok (.aload_n 0, 1) := by decide +kernel
theorem dX5_digest_47 : decode cX5_digest 47 = .ok (.getfield 7, 3) := by decide +kernel
theorem dX5_digest_50 : decode cX5_digest 50 = .ok (.if_icmp .ge 47, 3) := by decide +kernel
theorem dX5_digest_53 : decode cX5_digest 53 = .ok (.aload_n 0, 1) := by decide +kernel
theorem dX5_digest_54 : decode cX5_digest 54 = .ok (.aload_n 0, 1) := by decide +kernel
theorem dX5_digest_55 : decode cX5_digest 55 = .ok (.getfield 16, 3) := by decide +kernel
theorem dX5_digest_58 : decode cX5_digest 58 = .ok (.bipush 16, 2) := by decide +kernel
theorem dX5_digest_60 : decode cX5_digest 60 = .ok (.iload_n 1, 1) := by decide +kernel
theorem dX5_digest_61 : decode cX5_digest 61 = .ok (.imul, 1) := by decide +kernel
theorem dX5_digest_62 : decode cX5_digest 62 = .ok (.iload_n 2, 1) := by decide +kernel
theorem dX5_digest_63 : decode cX5_digest 63 = .ok (.iadd, 1) := by decide +kernel
theorem dX5_digest_64 : decode cX5_digest 64 = .ok (.iaload, 1) := by decide +kernel
theorem dX5_digest_65 : decode cX5_digest 65 = .ok (.aload_n 0, 1) := by decide +kernel
theorem dX5_digest_66 : decode cX5_digest 66 = .ok (.getfield 20, 3) := by decide +kernel
theorem dX5_digest_69 : decode cX5_digest 69 = .ok (.bipush 16, 2) := by decide +kernel
theorem dX5_digest_71 : decode cX5_digest 71 = .ok (.iload_n 1, 1) := by decide +kernel
end
section
theorem dX5_digest_72 : decode cX5_digest 72 = .ok (.imul, 1) := by decide +kernel
theorem dX5_digest_73 : decode cX5_digest 73 = .ok (.iload_n 2, 1) := by decide +kernel
theorem dX5_digest_74 : decode cX5_digest 74 = .ok (.iadd, 1) := by decide +kernel
theorem dX5_digest_75 : decode cX5_digest 75 = .ok (.baload, 1) := by decide +kernel
theorem dX5_digest_76 : decode cX5_digest 76 = .ok (.ifCond .eq 9, 3) := by decide +kernel
theorem dX5_digest_79 : decode cX5_digest 79 = .ok (.sipush 5000, 3) := by decide +kernel
theorem dX5_digest_82 : decode cX5_digest 82 = .ok (.goto 4, 3) := by decide +kernel
theorem dX5_digest_85 : decode cX5_digest 85 = .ok (.iconst 0, 1) := by decide +kernel
theorem dX5_digest_86 : decode cX5_digest 86 = .ok (.iadd, 1) := by decide +kernel
theorem dX5_digest_87 : decode cX5_digest 87 = .ok (.i2l, 1) := by decide +kernel
theorem dX5_digest_88 : decode cX5_digest 88 = .ok (.invokevirtual 153, 3) := by decide +kernel
theorem dX5_digest_91 : decode cX5_digest 91 = .ok (.iinc 2 1, 3) := by decide +kernel
theorem dX5_digest_94 : decode cX5_digest 94 = .ok (.goto (-49), 3) := by decide +kernel
theorem dX5_digest_97 : decode cX5_digest 97 = .ok (.iinc 1 1, 3) := by decide +kernel
theorem dX5_digest_100 : decode cX5_digest 100 = .ok (.goto (-65), 3) := by decide +kernel
theorem dX5_digest_103 : decode cX5_digest 103 = .ok (.iconst 0, 1) := by decide +kernel
theorem dX5_digest_104 : decode cX5_digest 104 = .ok (.istore_n 1, 1) := by decide +kernel
theorem dX5_digest_105 : decode cX5_digest 105 = .ok (.iload_n 1, 1) := by decide +kernel
theorem dX5_digest_106 : decode cX5_digest 106 = .ok (.aload_n 0, 1) := by decide +kernel
theorem dX5_digest_107 : decode cX5_digest 107 = .ok (.getfield 64, 3) := by decide +kernel
theorem dX5_digest_110 : decode cX5_digest 110 = .ok (.if_icmp .ge 57, 3) := by decide +kernel
theorem dX5_digest_113 : decode cX5_digest 113 = .ok (.aload_n 0, 1) := by decide +kernel
theorem dX5_digest_114 : decode cX5_digest 114 = .ok (.aload_n 0, 1) := by decide +kernel
theorem dX5_digest_115 : decode cX5_digest 115 = .ok (.getfield 24, 3) := by decide +kernel
theorem dX5_digest_118 : decode cX5_digest 118 = .ok (.iload_n 1, 1) := by decide +kernel
theorem dX5_digest_119 : decode cX5_digest 119 = .ok (.iaload, 1) := by decide +kernel
theorem dX5_digest_120 : decode cX5_digest 120 = .ok (.i2l, 1) := by decide +kernel
theorem dX5_digest_121 : decode cX5_digest 121 = .ok (.invokevirtual 153, 3) := by decide +kernel
theorem dX5_digest_124 : decode cX5_digest 124 = .ok (.iconst 0, 1) := by decide +kernel
theorem dX5_digest_125 : decode cX5_digest 125 = .ok (.istore_n 2, 1) := by decide +kernel
theorem dX5_digest_126 : decode cX5_digest 126 = .ok (.iload_n 2, 1) := by decide +kernel
theorem dX5_digest_127 : decode cX5_digest 127 = .ok (.aload_n 0, 1) := by decide +kernel
theorem dX5_digest_128 : decode cX5_digest 128 = .ok (.getfield 24, 3) := by decide +kernel
theorem dX5_digest_131 : decode cX5_digest 131 = .ok (.iload_n 1, 1) := by decide +kernel
theorem dX5_digest_132 : decode cX5_digest 132 = .ok (.iaload, 1) := by decide +kernel
theorem dX5_digest_133 : decode cX5_digest 133 = .ok (.invokestatic 157, 3) := by decide +kernel
theorem dX5_digest_136 : decode cX5_digest 136 = .ok (.if_icmp .ge 25, 3) := by decide +kernel
theorem dX5_digest_139 : decode cX5_digest 139 = .ok (.aload_n 0, 1) := by decide +kernel
theorem dX5_digest_140 : decode cX5_digest 140 = .ok (.aload_n 0, 1) := by decide +kernel
theorem dX5_digest_141 : decode cX5_digest 141 = .ok (.getfield 27, 3) := by decide +kernel
theorem dX5_digest_144 : decode cX5_digest 144 = .ok (.bipush 17, 2) := by decide +kernel
theorem dX5_digest_146 : decode cX5_digest 146 = .ok (.iload_n 1, 1) := by decide +kernel
theorem dX5_digest_147 : decode cX5_digest 147 = .ok (.imul, 1) := by decide +kernel
theorem dX5_digest_148 : decode cX5_digest 148 = .ok (.iload_n 2, 1) := by decide +kernel
theorem dX5_digest_149 : decode cX5_digest 149 = .ok (.iadd, 1) := by decide +kernel
theorem dX5_digest_150 : decode cX5_digest 150 = .ok (.iaload, 1) := by decide +kernel
theorem dX5_digest_151 : decode cX5_digest 151 = .ok (.i2l, 1) := by decide +kernel
theorem dX5_digest_152 : decode cX5_digest 152 = .ok (.invokevirtual 153, 3) := by decide +kernel
theorem dX5_digest_155 : decode cX5_digest 155 = .ok (.iinc 2 1, 3) := by decide +kernel
theorem dX5_digest_158 : decode cX5_digest 158 = .ok (.goto (-32), 3) := by decide +kernel
theorem dX5_digest_161 : decode cX5_digest 161 = .ok (.iinc 1 1, 3) := by decide +kernel
theorem dX5_digest_164 : decode cX5_digest 164 = .ok (.goto (-59), 3) := by decide +kernel
theorem dX5_digest_167 : decode cX5_digest 167 = .ok (.iconst 0, 1) := by decide +kernel
theorem dX5_digest_168 : decode cX5_digest 168 = .ok (.istore_n 1, 1) := by decide +kernel
theorem dX5_digest_169 : decode cX5_digest 169 = .ok (.iload_n 1, 1) := by decide +kernel
theorem dX5_digest_170 : decode cX5_digest 170 = .ok (.bipush 9, 2) := by decide +kernel
theorem dX5_digest_172 : decode cX5_digest 172 = .ok (.if_icmp .ge 20, 3) := by decide +kernel
theorem dX5_digest_175 : decode cX5_digest 175 = .ok (.aload_n 0, 1) := by decide +kernel
theorem dX5_digest_176 : decode cX5_digest 176 = .ok (.aload_n 0, 1) := by decide +kernel
theorem dX5_digest_177 : decode cX5_digest 177 = .ok (.getfield 30, 3) := by decide +kernel
theorem dX5_digest_180 : decode cX5_digest 180 = .ok (.iload_n 1, 1) := by decide +kernel
theorem dX5_digest_181 : decode cX5_digest 181 = .ok (.iaload, 1) := by decide +kernel
theorem dX5_digest_182 : decode cX5_digest 182 = .ok (.i2l, 1) := by decide +kernel
theorem dX5_digest_183 : decode cX5_digest 183 = .ok (.invokevirtual 153, 3) := by decide +kernel
theorem dX5_digest_186 : decode cX5_digest 186 = .ok (.iinc 1 1, 3) := by decide +kernel
theorem dX5_digest_189 : decode cX5_digest 189 = .ok (.goto (-20), 3) := by decide +kernel
theorem dX5_digest_192 : decode cX5_digest 192 = .ok (.iconst 0, 1) := by decide +kernel
theorem dX5_digest_193 : decode cX5_digest 193 = .ok (.istore_n 1, 1) := by decide +kernel
theorem dX5_digest_194 : decode cX5_digest 194 = .ok (.iload_n 1, 1) := by decide +kernel
theorem dX5_digest_195 : decode cX5_digest 195 = .ok (.bipush 17, 2) := by decide +kernel
theorem dX5_digest_197 : decode cX5_digest 197 = .ok (.if_icmp .ge 20, 3) := by decide +kernel
theorem dX5_digest_200 : decode cX5_digest 200 = .ok (.aload_n 0, 1) := by decide +kernel
theorem dX5_digest_201 : decode cX5_digest 201 = .ok (.aload_n 0, 1) := by decide +kernel
theorem dX5_digest_202 : decode cX5_digest 202 = .ok (.getfield 33, 3) := by decide +kernel
theorem dX5_digest_205 : decode cX5_digest 205 = .ok (.iload_n 1, 1) := by decide +kernel
theorem dX5_digest_206 : decode cX5_digest 206 = .ok (.iaload, 1) := by decide +kernel
theorem dX5_digest_207 : decode cX5_digest 207 = .ok (.i2l, 1) := by decide +kernel
theorem dX5_digest_208 : decode cX5_digest 208 = .ok (.invokevirtual 153, 3) := by decide +kernel
theorem dX5_digest_211 : decode cX5_digest 211 = .ok (.iinc 1 1, 3) := by decide +kernel
theorem dX5_digest_214 : decode cX5_digest 214 = .ok (.goto (-20), 3) := by decide +kernel
theorem dX5_digest_217 : decode cX5_digest 217 = .ok (.iconst 0, 1) := by decide +kernel
theorem dX5_digest_218 : decode cX5_digest 218 = .ok (.istore_n 1, 1) := by decide +kernel
theorem dX5_digest_219 : decode cX5_digest 219 = .ok (.iload_n 1, 1) := by decide +kernel
theorem dX5_digest_220 : decode cX5_digest 220 = .ok (.aload_n 0, 1) := by decide +kernel
theorem dX5_digest_221 : decode cX5_digest 221 = .ok (.getfield 39, 3) := by decide +kernel
theorem dX5_digest_224 : decode cX5_digest 224 = .ok (.aload_n 0, 1) := by decide +kernel
theorem dX5_digest_225 : decode cX5_digest 225 = .ok (.getfield 64, 3) := by decide +kernel
theorem dX5_digest_228 : decode cX5_digest 228 = .ok (.iaload, 1) := by decide +kernel
theorem dX5_digest_229 : decode cX5_digest 229 = .ok (.if_icmp .ge 71, 3) := by decide +kernel
theorem dX5_digest_232 : decode cX5_digest 232 = .ok (.iconst 0, 1) := by decide +kernel
theorem dX5_digest_233 : decode cX5_digest 233 = .ok (.istore_n 2, 1) := by decide +kernel
theorem dX5_digest_234 : decode cX5_digest 234 = .ok (.iload_n 2, 1) := by decide +kernel
theorem dX5_digest_235 : decode cX5_digest 235 = .ok (.aload_n 0, 1) := by decide +kernel
theorem dX5_digest_236 : decode cX5_digest 236 = .ok (.getfield 36, 3) := by decide +kernel
theorem dX5_digest_239 : decode cX5_digest 239 = .ok (.aload_n 0, 1) := by decide +kernel
theorem dX5_digest_240 : decode cX5_digest 240 = .ok (.getfield 64, 3) := by decide +kernel
theorem dX5_digest_243 : decode cX5_digest 243 = .ok (.iaload, 1) := by decide +kernel
theorem dX5_digest_244 : decode cX5_digest 244 = .ok (.if_icmp .ge 50, 3) := by decide +kernel
theorem dX5_digest_247 : decode cX5_digest 247 = .ok (.iconst 0, 1) := by decide +kernel
theorem dX5_digest_248 : decode cX5_digest 248 = .ok (.istore_n 3, 1) := by decide +kernel
theorem dX5_digest_249 : decode cX5_digest 249 = .ok (.iload_n 3, 1) := by decide +kernel
theorem dX5_digest_250 : decode cX5_digest 250 = .ok (.aload_n 0, 1) := by decide +kernel
theorem dX5_digest_251 : decode cX5_digest 251 = .ok (.getfield 42, 3) := by decide +kernel
theorem dX5_digest_254 : decode cX5_digest 254 = .ok (.aload_n 0, 1) := by decide +kernel
theorem dX5_digest_255 : decode cX5_digest 255 = .ok (.getfield 64, 3) := by decide +kernel
theorem dX5_digest_258 : decode cX5_digest 258 = .ok (.iaload, 1) := by decide +kernel
theorem dX5_digest_259 : decode cX5_digest 259 = .ok (.if_icmp .ge 29, 3) := by decide +kernel
theorem dX5_digest_262 : decode cX5_digest 262 = .ok (.aload_n 0, 1) := by decide +kernel
theorem dX5_digest_263 : decode cX5_digest 263 = .ok (.aload_n 0, 1) := by decide +kernel
theorem dX5_digest_264 : decode cX5_digest 264 = .ok (.getfield 51, 3) := by decide +kernel
theorem dX5_digest_267 : decode cX5_digest 267 = .ok (.aload_n 0, 1) := by decide +kernel
theorem dX5_digest_268 : decode cX5_digest 268 = .ok (.getfield 64, 3) := by decide +kernel
theorem dX5_digest_271 : decode cX5_digest 271 = .ok (.iload_n 2, 1) := by decide +kernel
theorem dX5_digest_272 : decode cX5_digest 272 = .ok (.iload_n 1, 1) := by decide +kernel
theorem dX5_digest_273 : decode cX5_digest 273 = .ok (.iload_n 3, 1) := by decide +kernel
theorem dX5_digest_274 : decode cX5_digest 274 = .ok (.invokestatic 85, 3) := by decide +kernel
theorem dX5_digest_277 : decode cX5_digest 277 = .ok (.iaload, 1) := by decide +kernel
theorem dX5_digest_278 : decode cX5_digest 278 = .ok (.i2l, 1) := by decide +kernel
theorem dX5_digest_279 : decode cX5_digest 279 = .ok (.invokevirtual 153, 3) := by decide +kernel
theorem dX5_digest_282 : decode cX5_digest 282 = .ok (.iinc 3 1, 3) := by decide +kernel
theorem dX5_digest_285 : decode cX5_digest 285 = .ok (.goto (-36), 3) := by decide +kernel
theorem dX5_digest_288 : decode cX5_digest 288 = .ok (.iinc 2 1, 3) := by decide +kernel
theorem dX5_digest_291 : decode cX5_digest 291 = .ok (.goto (-57), 3) := by decide +kernel
theorem dX5_digest_294 : decode cX5_digest 294 = .ok (.iinc 1 1, 3) := by decide +kernel
theorem dX5_digest_297 : decode cX5_digest 297 = .ok (.goto (-78), 3) := by decide +kernel
theorem dX5_digest_300 : decode cX5_digest 300 = .ok (.aload_n 0, 1) := by decide +kernel
theorem dX5_digest_301 : decode cX5_digest 301 = .ok (.getfield 147, 3) := by decide +kernel
theorem dX5_digest_304 : decode cX5_digest 304 = .ok (.lreturn, 1) := by decide +kernel
theorem dJ6_bitCount_0f7a4_0 : decode cJ6_bitCount_0f7a4 0 = .ok (.iload_n 0, 1) := by decide +kernel
theorem dJ6_bitCount_0f7a4_1 : decode cJ6_bitCount_0f7a4 1 = .ok (.iload_n 0, 1) := by decide +kernel
theorem dJ6_bitCount_0f7a4_2 : decode cJ6_bitCount_0f7a4 2 = .ok (.iconst 1, 1) := by decide +kernel
theorem dJ6_bitCount_0f7a4_3 : decode cJ6_bitCount_0f7a4 3 = .ok (.iushr, 1) := by decide +kernel
theorem dJ6_bitCount_0f7a4_4 : decode cJ6_bitCount_0f7a4 4 = .ok (.ldc_w 265, 3) := by decide +kernel
theorem dJ6_bitCount_0f7a4_7 : decode cJ6_bitCount_0f7a4 7 = .ok (.iand, 1) := by decide +kernel
theorem dJ6_bitCount_0f7a4_8 : decode cJ6_bitCount_0f7a4 8 = .ok (.isub, 1) := by decide +kernel
theorem dJ6_bitCount_0f7a4_9 : decode cJ6_bitCount_0f7a4 9 = .ok (.istore_n 0, 1) := by decide +kernel
theorem dJ6_bitCount_0f7a4_10 : decode cJ6_bitCount_0f7a4 10 = .ok (.iload_n 0, 1) := by decide +kernel
theorem dJ6_bitCount_0f7a4_11 : decode cJ6_bitCount_0f7a4 11 = .ok (.ldc_w 266, 3) := by decide +kernel
theorem dJ6_bitCount_0f7a4_14 : decode cJ6_bitCount_0f7a4 14 = .ok (.iand, 1) := by decide +kernel
theorem dJ6_bitCount_0f7a4_15 : decode cJ6_bitCount_0f7a4 15 = .ok (.iload_n 0, 1) := by decide +kernel
theorem dJ6_bitCount_0f7a4_16 : decode cJ6_bitCount_0f7a4 16 = .ok (.iconst 2, 1) := by decide +kernel
theorem dJ6_bitCount_0f7a4_17 : decode cJ6_bitCount_0f7a4 17 = .ok (.iushr, 1) := by decide +kernel
theorem dJ6_bitCount_0f7a4_18 : decode cJ6_bitCount_0f7a4 18 = .ok (.ldc_w 266, 3) := by decide +kernel
theorem dJ6_bitCount_0f7a4_21 : decode cJ6_bitCount_0f7a4 21 = .ok (.iand, 1) := by decide +kernel
theorem dJ6_bitCount_0f7a4_22 : decode cJ6_bitCount_0f7a4 22 = .ok (.iadd, 1) := by decide +kernel
theorem dJ6_bitCount_0f7a4_23 : decode cJ6_bitCount_0f7a4 23 = .ok (.istore_n 0, 1) := by decide +kernel
theorem dJ6_bitCount_0f7a4_24 : decode cJ6_bitCount_0f7a4 24 = .ok (.iload_n 0, 1) := by decide +kernel
theorem dJ6_bitCount_0f7a4_25 : decode cJ6_bitCount_0f7a4 25 = .ok (.iload_n 0, 1) := by decide +kernel
theorem dJ6_bitCount_0f7a4_26 : decode cJ6_bitCount_0f7a4 26 = .ok (.iconst 4, 1) := by decide +kernel
theorem dJ6_bitCount_0f7a4_27 : decode cJ6_bitCount_0f7a4 27 = .ok (.iushr, 1) := by decide +kernel
theorem dJ6_bitCount_0f7a4_28 : decode cJ6_bitCount_0f7a4 28 = .ok (.iadd, 1) := by decide +kernel
theorem dJ6_bitCount_0f7a4_29 : decode cJ6_bitCount_0f7a4 29 = .ok (.ldc_w 267, 3) := by decide +kernel
theorem dJ6_bitCount_0f7a4_32 : decode cJ6_bitCount_0f7a4 32 = .ok (.iand, 1) := by decide +kernel
theorem dJ6_bitCount_0f7a4_33 : decode cJ6_bitCount_0f7a4 33 = .ok (.istore_n 0, 1) := by decide +kernel
theorem dJ6_bitCount_0f7a4_34 : decode cJ6_bitCount_0f7a4 34 = .ok (.iload_n 0, 1) := by decide +kernel
theorem dJ6_bitCount_0f7a4_35 : decode cJ6_bitCount_0f7a4 35 = .ok (.iload_n 0, 1) := by decide +kernel
theorem dJ6_bitCount_0f7a4_36 : decode cJ6_bitCount_0f7a4 36 = .ok (.bipush 8, 2) := by decide +kernel
theorem dJ6_bitCount_0f7a4_38 : decode cJ6_bitCount_0f7a4 38 = .ok (.iushr, 1) := by decide +kernel
theorem dJ6_bitCount_0f7a4_39 : decode cJ6_bitCount_0f7a4 39 = .ok (.iadd, 1) := by decide +kernel
theorem dJ6_bitCount_0f7a4_40 : decode cJ6_bitCount_0f7a4 40 = .ok (.istore_n 0, 1) := by decide +kernel
theorem dJ6_bitCount_0f7a4_41 : decode cJ6_bitCount_0f7a4 41 = .ok (.iload_n 0, 1) := by decide +kernel
theorem dJ6_bitCount_0f7a4_42 : decode cJ6_bitCount_0f7a4 42 = .ok (.iload_n 0, 1) := by decide +kernel
theorem dJ6_bitCount_0f7a4_43 : decode cJ6_bitCount_0f7a4 43 = .ok (.bipush 16, 2) := by decide +kernel
theorem dJ6_bitCount_0f7a4_45 : decode cJ6_bitCount_0f7a4 45 = .ok (.iushr, 1) := by decide +kernel
theorem dJ6_bitCount_0f7a4_46 : decode cJ6_bitCount_0f7a4 46 = .ok (.iadd, 1) := by decide +kernel
theorem dJ6_bitCount_0f7a4_47 : decode cJ6_bitCount_0f7a4 47 = .ok (.istore_n 0, 1) := by decide +kernel
theorem dJ6_bitCount_0f7a4_48 : decode cJ6_bitCount_0f7a4 48 = .ok (.iload_n 0, 1) := by decide +kernel
theorem dJ6_bitCount_0f7a4_49 : decode cJ6_bitCount_0f7a4 49 = .ok (.bipush 63, 2) := by decide +kernel
theorem dJ6_bitCount_0f7a4_51 : decode cJ6_bitCount_0f7a4 51 = .ok (.iand, 1) := by decide +kernel
theorem dJ6_bitCount_0f7a4_52 : decode cJ6_bitCount_0f7a4 52 = .ok (.ireturn, 1) := by decide +kernel
theorem dJ9_floorDiv_7cf53_0 : decode cJ9_floorDiv_7cf53 0 = .ok (.iload_n 0, 1) := by decide +kernel
theorem dJ9_floorDiv_7cf53_1 : decode cJ9_floorDiv_7cf53 1 = .ok (.iload_n 1, 1) := by decide +kernel
theorem dJ9_floorDiv_7cf53_2 : decode cJ9_floorDiv_7cf53 2 = .ok (.idiv, 1) := by decide +kernel
theorem dJ9_floorDiv_7cf53_3 : decode cJ9_floorDiv_7cf53 3 = .ok (.istore_n 2, 1) := by decide +kernel
theorem dJ9_floorDiv_7cf53_4 : decode cJ9_floorDiv_7cf53 4 = .ok (.iload_n 0, 1) := by decide +kernel
theorem dJ9_floorDiv_7cf53_5 : decode cJ9_floorDiv_7cf53 5 = .ok (.iload_n 1, 1) := by decide +kernel
theorem dJ9_floorDiv_7cf53_6 : decode cJ9_floorDiv_7cf53 6 = .ok (.ixor, 1) := by decide +kernel
theorem dJ9_floorDiv_7cf53_7 : decode cJ9_floorDiv_7cf53 7 = .ok (.ifCond .ge 14, 3) := by decide +kernel
theorem dJ9_floorDiv_7cf53_10 : decode cJ9_floorDiv_7cf53 10 = .ok (.iload_n 2, 1) := by decide +kernel
theorem dJ9_floorDiv_7cf53_11 : decode cJ9_floorDiv_7cf53 11 = .ok (.iload_n 1, 1) := by decide +kernel
theorem dJ9_floorDiv_7cf53_12 : decode cJ9_floorDiv_7cf53 12 = .ok (.imul, 1) := by decide +kernel
theorem dJ9_floorDiv_7cf53_13 : decode cJ9_floorDiv_7cf53 13 = .ok (.iload_n 0, 1) := by decide +kernel
theorem dJ9_floorDiv_7cf53_14 : decode cJ9_floorDiv_7cf53 14 = .ok (.if_icmp .eq 7, 3) := by decide +kernel
theorem dJ9_floorDiv_7cf53_17 : decode cJ9_floorDiv_7cf53 17 = .ok (.iload_n 2, 1) := by decide +kernel
theorem dJ9_floorDiv_7cf53_18 : decode cJ9_floorDiv_7cf53 18 = .ok (.iconst 1, 1) := by decide +kernel
theorem dJ9_floorDiv_7cf53_19 : decode cJ9_floorDiv_7cf53 19 = .ok (.isub, 1) := by decide +kernel
theorem dJ9_floorDiv_7cf53_20 : decode cJ9_floorDiv_7cf53 20 = .ok (.ireturn, 1) := by decide +kernel
theorem dJ9_floorDiv_7cf53_21 : decode cJ9_floorDiv_7cf53 21 = .ok (.iload_n 2, 1) := by decide +kernel
theorem dJ9_floorDiv_7cf53_22 : decode cJ9_floorDiv_7cf53 22 = .ok (.ireturn, 1) := by decide +kernel
theorem dJ9_max_7cf53_0 : decode cJ9_max_7cf53 0 = .ok (.iload_n 0, 1) := by decide +kernel
theorem dJ9_max_7cf53_1 : decode cJ9_max_7cf53 1 = .ok (.iload_n 1, 1) := by decide +kernel
theorem dJ9_max_7cf53_2 : decode cJ9_max_7cf53 2 = .ok (.if_icmp .lt 7, 3) := by decide +kernel
theorem dJ9_max_7cf53_5 : decode cJ9_max_7cf53 5 = .ok (.iload_n 0, 1) := by decide +kernel
theorem dJ9_max_7cf53_6 : decode cJ9_max_7cf53 6 = .ok (.goto 4, 3) := by decide +kernel
theorem dJ9_max_7cf53_9 : decode cJ9_max_7cf53 9 = .ok (.iload_n 1, 1) := by decide +kernel
theorem dJ9_max_7cf53_10 : decode cJ9_max_7cf53 10 = .ok (.ireturn, 1) := by decide +kernel
theorem dJ9_min_7cf53_0 : decode cJ9_min_7cf53 0 = .ok (.iload_n 0, 1) := by decide +kernel
theorem dJ9_min_7cf53_1 : decode cJ9_min_7cf53 1 = .ok (.iload_n 1, 1) := by decide +kernel
theorem dJ9_min_7cf53_2 : decode cJ9_min_7cf53 2 = .ok (.if_icmp .gt 7, 3) := by decide +kernel
theorem dJ9_min_7cf53_5 : decode cJ9_min_7cf53 5 = .ok (.iload_n 0, 1) := by decide +kernel
theorem dJ9_min_7cf53_6 : decode cJ9_min_7cf53 6 = .ok (.goto 4, 3) := by decide +kernel
theorem dJ9_min_7cf53_9 : decode cJ9_min_7cf53 9 = .ok (.iload_n 1, 1) := by decide +kernel
theorem dJ9_min_7cf53_10 : decode cJ9_min_7cf53 10 = .ok (.ireturn, 1) := by decide +kernel
theorem dJ7_fill_53178_0 : decode cJ7_fill_53178 0 = .ok (.iconst 0, 1) := by decide +kernel
theorem dJ7_fill_53178_1 : decode cJ7_fill_53178 1 = .ok (.istore_n 2, 1) := by decide +kernel
theorem dJ7_fill_53178_2 : decode cJ7_fill_53178 2 = .ok (.aload_n 0, 1) := by decide +kernel
theorem dJ7_fill_53178_3 : decode cJ7_fill_53178 3 = .ok (.arraylength, 1) := by decide +kernel
theorem dJ7_fill_53178_4 : decode cJ7_fill_53178 4 = .ok (.istore_n 3, 1) := by decide +kernel
theorem dJ7_fill_53178_5 : decode cJ7_fill_53178 5 = .ok (.iload_n 2, 1) := by decide +kernel
theorem dJ7_fill_53178_6 : decode cJ7_fill_53178 6 = .ok (.iload_n 3, 1) := by decide +kernel
theorem dJ7_fill_53178_7 : decode cJ7_fill_53178 7 = .ok (.if_icmp .ge 13, 3) := by decide +kernel
theorem dJ7_fill_53178_10 : decode cJ7_fill_53178 10 = .ok (.aload_n 0, 1) := by decide +kernel
theorem dJ7_fill_53178_11 : decode cJ7_fill_53178 11 = .ok (.iload_n 2, 1) := by decide +kernel
theorem dJ7_fill_53178_12 : decode cJ7_fill_53178 12 = .ok (.iload_n 1, 1) := by decide +kernel
theorem dJ7_fill_53178_13 : decode cJ7_fill_53178 13 = .ok (.iastore, 1) := by decide +kernel
theorem dJ7_fill_53178_14 : decode cJ7_fill_53178 14 = .ok (.iinc 2 1, 3) := by decide +kernel
theorem dJ7_fill_53178_17 : decode cJ7_fill_53178 17 = .ok (.goto (-12), 3) := by decide +kernel
theorem dJ7_fill_53178_20 : decode cJ7_fill_53178 20 = .ok (.return_, 1) := by decide +kernel
theorem dL_law_0 : decode cL_law 0 = .ok (.new 7, 3) := by decide +kernel
theorem dL_law_3 : decode cL_law 3 = .ok (.dup, 1) := by decide +kernel
theorem dL_law_4 : decode cL_law 4 = .ok (.invokespecial 9, 3) := by decide +kernel
theorem dL_law_7 : decode cL_law 7 = .ok (.astore_n 1, 1) := by decide +kernel
theorem dL_law_8 : decode cL_law 8 = .ok (.new 10, 3) := by decide +kernel
theorem dL_law_11 : decode cL_law 11 = .ok (.dup, 1) := by decide +kernel
theorem dL_law_12 : decode cL_law 12 = .ok (.invokespecial 12, 3) := by decide +kernel
theorem dL_law_15 : decode cL_law 15 = .ok (.astore_n 2, 1) := by decide +kernel
theorem dL_law_16 : decode cL_law 16 = .ok (.iconst 0, 1) := by decide +kernel
theorem dL_law_17 : decode cL_law 17 = .ok (.istore_n 3, 1) := by decide +kernel
theorem dL_law_18 : decode cL_law 18 = .ok (.iload_n 3, 1) := by decide +kernel
theorem dL_law_19 : decode cL_law 19 = .ok (.aload_n 0, 1) := by decide +kernel
theorem dL_law_20 : decode cL_law 20 = .ok (.arraylength, 1) := by decide +kernel
theorem dL_law_21 : decode cL_law 21 = .ok (.bipush 6, 2) := by decide +kernel
theorem dL_law_23 : decode cL_law 23 = .ok (.isub, 1) := by decide +kernel
theorem dL_law_24 : decode cL_law 24 = .ok (.if_icmp .gt 797, 3) := by decide +kernel
theorem dL_law_27 : decode cL_law 27 = .ok (.aload_n 0, 1) := by decide +kernel
theorem dL_law_28 : decode cL_law 28 = .ok (.iload_n 3, 1) := by decide +kernel
theorem dL_law_29 : decode cL_law 29 = .ok (.iaload, 1) := by decide +kernel
theorem dL_law_30 : decode cL_law 30 = .ok (.bipush 31, 2) := by decide +kernel
theorem dL_law_32 : decode cL_law 32 = .ok (.iand, 1) := by decide +kernel
theorem dL_law_33 : decode cL_law 33 = .ok (.tableswitch 782 0 19 #[95, 128, 171, 230, 253, 296, 319, 352, 365, 398, 411, 424, 447, 480, 533, 596, 649, 712, 745, 768], 95) := by decide +kernel
theorem dL_law_128 : decode cL_law 128 = .ok (.aload_n 1, 1) := by decide +kernel
theorem dL_law_129 : decode cL_law 129 = .ok (.aload_n 0, 1) := by decide +kernel
theorem dL_law_130 : decode cL_law 130 = .ok (.iload_n 3, 1) := by decide +kernel
theorem dL_law_131 : decode cL_law 131 = .ok (.iconst 1, 1) := by decide +kernel
theorem dL_law_132 : decode cL_law 132 = .ok (.iadd, 1) := by decide +kernel
theorem dL_law_133 : decode cL_law 133 = .ok (.iaload, 1) := by decide +kernel
theorem dL_law_134 : decode cL_law 134 = .ok (.aload_n 0, 1) := by decide +kernel
theorem dL_law_135 : decode cL_law 135 = .ok (.iload_n 3, 1) := by decide +kernel
theorem dL_law_136 : decode cL_law 136 = .ok (.iconst 2, 1) := by decide +kernel
theorem dL_law_137 : decode cL_law 137 = .ok (.iadd, 1) := by decide +kernel
theorem dL_law_138 : decode cL_law 138 = .ok (.iaload, 1) := by decide +kernel
theorem dL_law_139 : decode cL_law 139 = .ok (.invokevirtual 13, 3) := by decide +kernel
theorem dL_law_142 : decode cL_law 142 = .ok (.aload_n 2, 1) := by decide +kernel
theorem dL_law_143 : decode cL_law 143 = .ok (.aload_n 0, 1) := by decide +kernel
theorem dL_law_144 : decode cL_law 144 = .ok (.iload_n 3, 1) := by decide +kernel
theorem dL_law_145 : decode cL_law 145 = .ok (.iconst 1, 1) := by decide +kernel
theorem dL_law_146 : decode cL_law 146 = .ok (.iadd, 1) := by decide +kernel
theorem dL_law_147 : decode cL_law 147 = .ok (.iaload, 1) := by decide +kernel
theorem dL_law_148 : decode cL_law 148 = .ok (.aload_n 0, 1) := by decide +kernel
theorem dL_law_149 : decode cL_law 149 = .ok (.iload_n 3, 1) := by decide +kernel
theorem dL_law_150 : decode cL_law 150 = .ok (.iconst 2, 1) := by decide +kernel
theorem dL_law_151 : decode cL_law 151 = .ok (.iadd, 1) := by decide +kernel
theorem dL_law_152 : decode cL_law 152 = .ok (.iaload, 1) := by decide +kernel
theorem dL_law_153 : decode cL_law 153 = .ok (.invokevirtual 17, 3) := by decide +kernel
theorem dL_law_156 : decode cL_law 156 = .ok (.if_icmp .eq 659, 3) := by decide +kernel
theorem dL_law_159 : decode cL_law 159 = .ok (.iconst 0, 1) := by decide +kernel
theorem dL_law_160 : decode cL_law 160 = .ok (.ireturn, 1) := by decide +kernel
theorem dL_law_161 : decode cL_law 161 = .ok (.aload_n 1, 1) := by decide +kernel
theorem dL_law_162 : decode cL_law 162 = .ok (.aload_n 0, 1) := by decide +kernel
theorem dL_law_163 : decode cL_law 163 = .ok (.iload_n 3, 1) := by decide +kernel
theorem dL_law_164 : decode cL_law 164 = .ok (.iconst 1, 1) := by decide +kernel
theorem dL_law_165 : decode cL_law 165 = .ok (.iadd, 1) := by decide +kernel
theorem dL_law_166 : decode cL_law 166 = .ok (.iaload, 1) := by decide +kernel
theorem dL_law_167 : decode cL_law 167 = .ok (.aload_n 0, 1) := by decide +kernel
theorem dL_law_168 : decode cL_law 168 = .ok (.iload_n 3, 1) := by decide +kernel
theorem dL_law_169 : decode cL_law 169 = .ok (.iconst 2, 1) := by decide +kernel
theorem dL_law_170 : decode cL_law 170 = .ok (.iadd, 1) := by decide +kernel
theorem dL_law_171 : decode cL_law 171 = .ok (.iaload, 1) := by decide +kernel
theorem dL_law_172 : decode cL_law 172 = .ok (.aload_n 0, 1) := by decide +kernel
theorem dL_law_173 : decode cL_law 173 = .ok (.iload_n 3, 1) := by decide +kernel
theorem dL_law_174 : decode cL_law 174 = .ok (.iconst 3, 1) := by decide +kernel
theorem dL_law_175 : decode cL_law 175 = .ok (.iadd, 1) := by decide +kernel
theorem dL_law_176 : decode cL_law 176 = .ok (.iaload, 1) := by decide +kernel
theorem dL_law_177 : decode cL_law 177 = .ok (.invokevirtual 18, 3) := by decide +kernel
theorem dL_law_180 : decode cL_law 180 = .ok (.aload_n 2, 1) := by decide +kernel
theorem dL_law_181 : decode cL_law 181 = .ok (.aload_n 0, 1) := by decide +kernel
theorem dL_law_182 : decode cL_law 182 = .ok (.iload_n 3, 1) := by decide +kernel
theorem dL_law_183 : decode cL_law 183 = .ok (.iconst 1, 1) := by decide +kernel
theorem dL_law_184 : decode cL_law 184 = .ok (.iadd, 1) := by decide +kernel
theorem dL_law_185 : decode cL_law 185 = .ok (.iaload, 1) := by decide +kernel
theorem dL_law_186 : decode cL_law 186 = .ok (.aload_n 0, 1) := by decide +kernel
theorem dL_law_187 : decode cL_law 187 = .ok (.iload_n 3, 1) := by decide +kernel
theorem dL_law_188 : decode cL_law 188 = .ok (.iconst 2, 1) := by decide +kernel
theorem dL_law_189 : decode cL_law 189 = .ok (.iadd, 1) := by decide +kernel
theorem dL_law_190 : decode cL_law 190 = .ok (.iaload, 1) := by decide +kernel
theorem dL_law_191 : decode cL_law 191 = .ok (.aload_n 0, 1) := by decide +kernel
theorem dL_law_192 : decode cL_law 192 = .ok (.iload_n 3, 1) := by decide +kernel
theorem dL_law_193 : decode cL_law 193 = .ok (.iconst 3, 1) := by decide +kernel
theorem dL_law_194 : decode cL_law 194 = .ok (.iadd, 1) := by decide +kernel
theorem dL_law_195 : decode cL_law 195 = .ok (.iaload, 1) := by decide +kernel
theorem dL_law_196 : decode cL_law 196 = .ok (.invokevirtual 22, 3) := by decide +kernel
theorem dL_law_199 : decode cL_law 199 = .ok (.if_icmp .eq 616, 3) := by decide +kernel
theorem dL_law_202 : decode cL_law 202 = .ok (.iconst 0, 1) := by decide +kernel
theorem dL_law_203 : decode cL_law 203 = .ok (.ireturn, 1) := by decide +kernel
theorem dL_law_204 : decode cL_law 204 = .ok (.aload_n 1, 1) := by decide +kernel
theorem dL_law_205 : decode cL_law 205 = .ok (.aload_n 0, 1) := by decide +kernel
theorem dL_law_206 : decode cL_law 206 = .ok (.iload_n 3, 1) := by decide +kernel
theorem dL_law_207 : decode cL_law 207 = .ok (.iconst 1, 1) := by decide +kernel
theorem dL_law_208 : decode cL_law 208 = .ok (.iadd, 1) := by decide +kernel
theorem dL_law_209 : decode cL_law 209 = .ok (.iaload, 1) := by decide +kernel
theorem dL_law_210 : decode cL_law 210 = .ok (.aload_n 0, 1) := by decide +kernel
theorem dL_law_211 : decode cL_law 211 = .ok (.iload_n 3, 1) := by decide +kernel
theorem dL_law_212 : decode cL_law 212 = .ok (.iconst 2, 1) := by decide +kernel
theorem dL_law_213 : decode cL_law 213 = .ok (.iadd, 1) := by decide +kernel
theorem dL_law_214 : decode cL_law 214 = .ok (.iaload, 1) := by decide +kernel
theorem dL_law_215 : decode cL_law 215 = .ok (.aload_n 0, 1) := by decide +kernel
theorem dL_law_216 : decode cL_law 216 = .ok (.iload_n 3, 1) := by decide +kernel
theorem dL_law_217 : decode cL_law 217 = .ok (.iconst 3, 1) := by decide +kernel
theorem dL_law_218 : decode cL_law 218 = .ok (.iadd, 1) := by decide +kernel
theorem dL_law_219 : decode cL_law 219 = .ok (.iaload, 1) := by decide +kernel
theorem dL_law_220 : decode cL_law 220 = .ok (.ifCond .eq 7, 3) := by decide +kernel
theorem dL_law_223 : decode cL_law 223 = .ok (.iconst 1, 1) := by decide +kernel
theorem dL_law_224 : decode cL_law 224 = .ok (.goto 4, 3) := by decide +kernel
theorem dL_law_227 : decode cL_law 227 = .ok (.iconst 0, 1) := by decide +kernel
theorem dL_law_228 : decode cL_law 228 = .ok (.invokevirtual 23, 3) := by decide +kernel
theorem dL_law_231 : decode cL_law 231 = .ok (.aload_n 2, 1) := by decide +kernel
theorem dL_law_232 : decode cL_law 232 = .ok (.aload_n 0, 1) := by decide +kernel
theorem dL_law_233 : decode cL_law 233 = .ok (.iload_n 3, 1) := by decide +kernel
theorem dL_law_234 : decode cL_law 234 = .ok (.iconst 1, 1) := by decide +kernel
theorem dL_law_235 : decode cL_law 235 = .ok (.iadd, 1) := by decide +kernel
theorem dL_law_236 : decode cL_law 236 = .ok (.iaload, 1) := by decide +kernel
theorem dL_law_237 : decode cL_law 237 = .ok (.aload_n 0, 1) := by decide +kernel
theorem dL_law_238 : decode cL_law 238 = .ok (.iload_n 3, 1) := by decide +kernel
theorem dL_law_239 : decode cL_law 239 = .ok (.iconst 2, 1) := by decide +kernel
theorem dL_law_240 : decode cL_law 240 = .ok (.iadd, 1) := by decide +kernel
theorem dL_law_241 : decode cL_law 241 = .ok (.iaload, 1) := by decide +kernel
theorem dL_law_242 : decode cL_law 242 = .ok (.aload_n 0, 1) := by decide +kernel
theorem dL_law_243 : decode cL_law 243 = .ok (.iload_n 3, 1) := by decide +kernel
theorem dL_law_244 : decode cL_law 244 = .ok (.iconst 3, 1) := by decide +kernel
theorem dL_law_245 : decode cL_law 245 = .ok (.iadd, 1) := by decide +kernel
theorem dL_law_246 : decode cL_law 246 = .ok (.iaload, 1) := by decide +kernel
theorem dL_law_247 : decode cL_law 247 = .ok (.ifCond .eq 7, 3) := by decide +kernel
theorem dL_law_250 : decode cL_law 250 = .ok (.iconst 1, 1) := by decide +kernel
theorem dL_law_251 : decode cL_law 251 = .ok (.goto 4, 3) := by decide +kernel
theorem dL_law_254 : decode cL_law 254 = .ok (.iconst 0, 1) := by decide +kernel
theorem dL_law_255 : decode cL_law 255 = .ok (.invokevirtual 27, 3) := by decide +kernel
theorem dL_law_258 : decode cL_law 258 = .ok (.if_icmp .eq 557, 3) := by decide +kernel
theorem dL_law_261 : decode cL_law 261 = .ok (.iconst 0, 1) := by decide +kernel
theorem dL_law_262 : decode cL_law 262 = .ok (.ireturn, 1) := by decide +kernel
theorem dL_law_263 : decode cL_law 263 = .ok (.aload_n 1, 1) := by decide +kernel
theorem dL_law_264 : decode cL_law 264 = .ok (.aload_n 0, 1) := by decide +kernel
theorem dL_law_265 : decode cL_law 265 = .ok (.iload_n 3, 1) := by decide +kernel
theorem dL_law_266 : decode cL_law 266 = .ok (.iconst 1, 1) := by decide +kernel
theorem dL_law_267 : decode cL_law 267 = .ok (.iadd, 1) := by decide +kernel
theorem dL_law_268 : decode cL_law 268 = .ok (.iaload, 1) := by decide +kernel
theorem dL_law_269 : decode cL_law 269 = .ok (.invokevirtual 28, 3) := by decide +kernel
theorem dL_law_272 : decode cL_law 272 = .ok (.aload_n 2, 1) := by decide +kernel
theorem dL_law_273 : decode cL_law 273 = .ok (.aload_n 0, 1) := by decide +kernel
theorem dL_law_274 : decode cL_law 274 = .ok (.iload_n 3, 1) := by decide +kernel
theorem dL_law_275 : decode cL_law 275 = .ok (.iconst 1, 1) := by decide +kernel
theorem dL_law_276 : decode cL_law 276 = .ok (.iadd, 1) := by decide +kernel
theorem dL_law_277 : decode cL_law 277 = .ok (.iaload, 1) := by decide +kernel
theorem dL_law_278 : decode cL_law 278 = .ok (.invokevirtual 32, 3) := by decide +kernel
theorem dL_law_281 : decode cL_law 281 = .ok (.if_icmp .eq 534, 3) := by decide +kernel
theorem dL_law_284 : decode cL_law 284 = .ok (.iconst 0, 1) := by decide +kernel
theorem dL_law_285 : decode cL_law 285 = .ok (.ireturn, 1) := by decide +kernel
theorem dL_law_286 : decode cL_law 286 = .ok (.aload_n 1, 1) := by decide +kernel
theorem dL_law_287 : decode cL_law 287 = .ok (.aload_n 0, 1) := by decide +kernel
theorem dL_law_288 : decode cL_law 288 = .ok (.iload_n 3, 1) := by decide +kernel
theorem dL_law_289 : decode cL_law 289 = .ok (.iconst 1, 1) := by decide +kernel
theorem dL_law_290 : decode cL_law 290 = .ok (.iadd, 1) := by decide +kernel
theorem dL_law_291 : decode cL_law 291 = .ok (.iaload, 1) := by decide +kernel
theorem dL_law_292 : decode cL_law 292 = .ok (.aload_n 0, 1) := by decide +kernel
theorem dL_law_293 : decode cL_law 293 = .ok (.iload_n 3, 1) := by decide +kernel
theorem dL_law_294 : decode cL_law 294 = .ok (.iconst 2, 1) := by decide +kernel
theorem dL_law_295 : decode cL_law 295 = .ok (.iadd, 1) := by decide +kernel
theorem dL_law_296 : decode cL_law 296 = .ok (.iaload, 1) := by decide +kernel
theorem dL_law_297 : decode cL_law 297 = .ok (.aload_n 0, 1) := by decide +kernel
theorem dL_law_298 : decode cL_law 298 = .ok (.iload_n 3, 1) := by decide +kernel
theorem dL_law_299 : decode cL_law 299 = .ok (.iconst 3, 1) := by decide +kernel
theorem dL_law_300 : decode cL_law 300 = .ok (.iadd, 1) := by decide +kernel
theorem dL_law_301 : decode cL_law 301 = .ok (.iaload, 1) := by decide +kernel
theorem dL_law_302 : decode cL_law 302 = .ok (.invokevirtual 33, 3) := by decide +kernel
theorem dL_law_305 : decode cL_law 305 = .ok (.aload_n 2, 1) := by decide +kernel
theorem dL_law_306 : decode cL_law 306 = .ok (.aload_n 0, 1) := by decide +kernel
theorem dL_law_307 : decode cL_law 307 = .ok (.iload_n 3, 1) := by decide +kernel
theorem dL_law_308 : decode cL_law 308 = .ok (.iconst 1, 1) := by decide +kernel
theorem dL_law_309 : decode cL_law 309 = .ok (.iadd, 1) := by decide +kernel
theorem dL_law_310 : decode cL_law 310 = .ok (.iaload, 1) := by decide +kernel
theorem dL_law_311 : decode cL_law 311 = .ok (.aload_n 0, 1) := by decide +kernel
theorem dL_law_312 : decode cL_law 312 = .ok (.iload_n 3, 1) := by decide +kernel
theorem dL_law_313 : decode cL_law 313 = .ok (.iconst 2, 1) := by decide +kernel
theorem dL_law_314 : decode cL_law 314 = .ok (.iadd, 1) := by decide +kernel
theorem dL_law_315 : decode cL_law 315 = .ok (.iaload, 1) := by decide +kernel
theorem dL_law_316 : decode cL_law 316 = .ok (.aload_n 0, 1) := by decide +kernel
theorem dL_law_317 : decode cL_law 317 = .ok (.iload_n 3, 1) := by decide +kernel
theorem dL_law_318 : decode cL_law 318 = .ok (.iconst 3, 1) := by decide +kernel
theorem dL_law_319 : decode cL_law 319 = .ok (.iadd, 1) := by decide +kernel
theorem dL_law_320 : decode cL_law 320 = .ok (.iaload, 1) := by decide +kernel
theorem dL_law_321 : decode cL_law 321 = .ok (.invokevirtual 36, 3) := by decide +kernel
theorem dL_law_324 : decode cL_law 324 = .ok (.if_icmp .eq 491, 3) := by decide +kernel
theorem dL_law_327 : decode cL_law 327 = .ok (.iconst 0, 1) := by decide +kernel
theorem dL_law_328 : decode cL_law 328 = .ok (.ireturn, 1) := by decide +kernel
theorem dL_law_329 : decode cL_law 329 = .ok (.aload_n 1, 1) := by decide +kernel
theorem dL_law_330 : decode cL_law 330 = .ok (.aload_n 0, 1) := by decide +kernel
theorem dL_law_331 : decode cL_law 331 = .ok (.iload_n 3, 1) := by decide +kernel
theorem dL_law_332 : decode cL_law 332 = .ok (.iconst 1, 1) := by decide +kernel
theorem dL_law_333 : decode cL_law 333 = .ok (.iadd, 1) := by decide +kernel
theorem dL_law_334 : decode cL_law 334 = .ok (.iaload, 1) := by decide +kernel
theorem dL_law_335 : decode cL_law 335 = .ok (.invokevirtual 37, 3) := by decide +kernel
theorem dL_law_338 : decode cL_law 338 = .ok (.aload_n 2, 1) := by decide +kernel
theorem dL_law_339 : decode cL_law 339 = .ok (.aload_n 0, 1) := by decide +kernel
theorem dL_law_340 : decode cL_law 340 = .ok (.iload_n 3, 1) := by decide +kernel
theorem dL_law_341 : decode cL_law 341 = .ok (.iconst 1, 1) := by decide +kernel
theorem dL_law_342 : decode cL_law 342 = .ok (.iadd, 1) := by decide +kernel
theorem dL_law_343 : decode cL_law 343 = .ok (.iaload, 1) := by decide +kernel
theorem dL_law_344 : decode cL_law 344 = .ok (.invokevirtual 40, 3) := by decide +kernel
theorem dL_law_347 : decode cL_law 347 = .ok (.if_icmp .eq 468, 3) := by decide +kernel
theorem dL_law_350 : decode cL_law 350 = .ok (.iconst 0, 1) := by decide +kernel
theorem dL_law_351 : decode cL_law 351 = .ok (.ireturn, 1) := by decide +kernel
theorem dL_law_352 : decode cL_law 352 = .ok (.aload_n 1, 1) := by decide +kernel
theorem dL_law_353 : decode cL_law 353 = .ok (.aload_n 0, 1) := by decide +kernel
theorem dL_law_354 : decode cL_law 354 = .ok (.iload_n 3, 1) := by decide +kernel
theorem dL_law_355 : decode cL_law 355 = .ok (.iconst 1, 1) := by decide +kernel
theorem dL_law_356 : decode cL_law 356 = .ok (.iadd, 1) := by decide +kernel
theorem dL_law_357 : decode cL_law 357 = .ok (.iaload, 1) := by decide +kernel
theorem dL_law_358 : decode cL_law 358 = .ok (.aload_n 0, 1) := by decide +kernel
theorem dL_law_359 : decode cL_law 359 = .ok (.iload_n 3, 1) := by decide +kernel
theorem dL_law_360 : decode cL_law 360 = .ok (.iconst 2, 1) := by decide +kernel
theorem dL_law_361 : decode cL_law 361 = .ok (.iadd, 1) := by decide +kernel
theorem dL_law_362 : decode cL_law 362 = .ok (.iaload, 1) := by decide +kernel
theorem dL_law_363 : decode cL_law 363 = .ok (.invokevirtual 41, 3) := by decide +kernel
theorem dL_law_366 : decode cL_law 366 = .ok (.aload_n 2, 1) := by decide +kernel
theorem dL_law_367 : decode cL_law 367 = .ok (.aload_n 0, 1) := by decide +kernel
theorem dL_law_368 : decode cL_law 368 = .ok (.iload_n 3, 1) := by decide +kernel
theorem dL_law_369 : decode cL_law 369 = .ok (.iconst 1, 1) := by decide +kernel
theorem dL_law_370 : decode cL_law 370 = .ok (.iadd, 1) := by decide +kernel
theorem dL_law_371 : decode cL_law 371 = .ok (.iaload, 1) := by decide +kernel
theorem dL_law_372 : decode cL_law 372 = .ok (.aload_n 0, 1) := by decide +kernel
theorem dL_law_373 : decode cL_law 373 = .ok (.iload_n 3, 1) := by decide +kernel
theorem dL_law_374 : decode cL_law 374 = .ok (.iconst 2, 1) := by decide +kernel
theorem dL_law_375 : decode cL_law 375 = .ok (.iadd, 1) := by decide +kernel
theorem dL_law_376 : decode cL_law 376 = .ok (.iaload, 1) := by decide +kernel
theorem dL_law_377 : decode cL_law 377 = .ok (.invokevirtual 44, 3) := by decide +kernel
theorem dL_law_380 : decode cL_law 380 = .ok (.if_icmp .eq 435, 3) := by decide +kernel
theorem dL_law_383 : decode cL_law 383 = .ok (.iconst 0, 1) := by decide +kernel
theorem dL_law_384 : decode cL_law 384 = .ok (.ireturn, 1) := by decide +kernel
theorem dL_law_385 : decode cL_law 385 = .ok (.aload_n 1, 1) := by decide +kernel
theorem dL_law_386 : decode cL_law 386 = .ok (.invokevirtual 45, 3) := by decide +kernel
theorem dL_law_389 : decode cL_law 389 = .ok (.aload_n 2, 1) := by decide +kernel
theorem dL_law_390 : decode cL_law 390 = .ok (.invokevirtual 49, 3) := by decide +kernel
theorem dL_law_393 : decode cL_law 393 = .ok (.if_icmp .eq 422, 3) := by decide +kernel
theorem dL_law_396 : decode cL_law 396 = .ok (.iconst 0, 1) := by decide +kernel
theorem dL_law_397 : decode cL_law 397 = .ok (.ireturn, 1) := by decide +kernel
theorem dL_law_398 : decode cL_law 398 = .ok (.aload_n 1, 1) := by decide +kernel
theorem dL_law_399 : decode cL_law 399 = .ok (.aload_n 0, 1) := by decide +kernel
theorem dL_law_400 : decode cL_law 400 = .ok (.iload_n 3, 1) := by decide +kernel
theorem dL_law_401 : decode cL_law 401 = .ok (.iconst 1, 1) := by decide +kernel
theorem dL_law_402 : decode cL_law 402 = .ok (.iadd, 1) := by decide +kernel
theorem dL_law_403 : decode cL_law 403 = .ok (.iaload, 1) := by decide +kernel
theorem dL_law_404 : decode cL_law 404 = .ok (.aload_n 0, 1) := by decide +kernel
theorem dL_law_405 : decode cL_law 405 = .ok (.iload_n 3, 1) := by decide +kernel
theorem dL_law_406 : decode cL_law 406 = .ok (.iconst 2, 1) := by decide +kernel
theorem dL_law_407 : decode cL_law 407 = .ok (.iadd, 1) := by decide +kernel
theorem dL_law_408 : decode cL_law 408 = .ok (.iaload, 1) := by decide +kernel
theorem dL_law_409 : decode cL_law 409 = .ok (.invokevirtual 50, 3) := by decide +kernel
theorem dL_law_412 : decode cL_law 412 = .ok (.aload_n 2, 1) := by decide +kernel
theorem dL_law_413 : decode cL_law 413 = .ok (.aload_n 0, 1) := by decide +kernel
theorem dL_law_414 : decode cL_law 414 = .ok (.iload_n 3, 1) := by decide +kernel
theorem dL_law_415 : decode cL_law 415 = .ok (.iconst 1, 1) := by decide +kernel
theorem dL_law_416 : decode cL_law 416 = .ok (.iadd, 1) := by decide +kernel
theorem dL_law_417 : decode cL_law 417 = .ok (.iaload, 1) := by decide +kernel
theorem dL_law_418 : decode cL_law 418 = .ok (.aload_n 0, 1) := by decide +kernel
theorem dL_law_419 : decode cL_law 419 = .ok (.iload_n 3, 1) := by decide +kernel
theorem dL_law_420 : decode cL_law 420 = .ok (.iconst 2, 1) := by decide +kernel
theorem dL_law_421 : decode cL_law 421 = .ok (.iadd, 1) := by decide +kernel
theorem dL_law_422 : decode cL_law 422 = .ok (.iaload, 1) := by decide +kernel
theorem dL_law_423 : decode cL_law 423 = .ok (.invokevirtual 53, 3) := by decide +kernel
theorem dL_law_426 : decode cL_law 426 = .ok (.if_icmp .eq 389, 3) := by decide +kernel
theorem dL_law_429 : decode cL_law 429 = .ok (.iconst 0, 1) := by decide +kernel
theorem dL_law_430 : decode cL_law 430 = .ok (.ireturn, 1) := by decide +kernel
theorem dL_law_431 : decode cL_law 431 = .ok (.aload_n 1, 1) := by decide +kernel
theorem dL_law_432 : decode cL_law 432 = .ok (.invokevirtual 54, 3) := by decide +kernel
theorem dL_law_435 : decode cL_law 435 = .ok (.aload_n 2, 1) := by decide +kernel
theorem dL_law_436 : decode cL_law 436 = .ok (.invokevirtual 57, 3) := by decide +kernel
theorem dL_law_439 : decode cL_law 439 = .ok (.if_icmp .eq 376, 3) := by decide +kernel
theorem dL_law_442 : decode cL_law 442 = .ok (.iconst 0, 1) := by decide +kernel
theorem dL_law_443 : decode cL_law 443 = .ok (.ireturn, 1) := by decide +kernel
theorem dL_law_444 : decode cL_law 444 = .ok (.aload_n 1, 1) := by decide +kernel
theorem dL_law_445 : decode cL_law 445 = .ok (.invokevirtual 58, 3) := by decide +kernel
theorem dL_law_448 : decode cL_law 448 = .ok (.aload_n 2, 1) := by decide +kernel
theorem dL_law_449 : decode cL_law 449 = .ok (.invokevirtual 61, 3) := by decide +kernel
theorem dL_law_452 : decode cL_law 452 = .ok (.if_icmp .eq 363, 3) := by decide +kernel
theorem dL_law_455 : decode cL_law 455 = .ok (.iconst 0, 1) := by decide +kernel
theorem dL_law_456 : decode cL_law 456 = .ok (.ireturn, 1) := by decide +kernel
theorem dL_law_457 : decode cL_law 457 = .ok (.aload_n 1, 1) := by decide +kernel
theorem dL_law_458 : decode cL_law 458 = .ok (.aload_n 0, 1) := by decide +kernel
theorem dL_law_459 : decode cL_law 459 = .ok (.iload_n 3, 1) := by decide +kernel
theorem dL_law_460 : decode cL_law 460 = .ok (.iconst 1, 1) := by decide +kernel
theorem dL_law_461 : decode cL_law 461 = .ok (.iadd, 1) := by decide +kernel
theorem dL_law_462 : decode cL_law 462 = .ok (.iaload, 1) := by decide +kernel
theorem dL_law_463 : decode cL_law 463 = .ok (.invokevirtual 62, 3) := by decide +kernel
theorem dL_law_466 : decode cL_law 466 = .ok (.aload_n 2, 1) := by decide +kernel
theorem dL_law_467 : decode cL_law 467 = .ok (.aload_n 0, 1) := by decide +kernel
theorem dL_law_468 : decode cL_law 468 = .ok (.iload_n 3, 1) := by decide +kernel
theorem dL_law_469 : decode cL_law 469 = .ok (.iconst 1, 1) := by decide +kernel
theorem dL_law_470 : decode cL_law 470 = .ok (.iadd, 1) := by decide +kernel
theorem dL_law_471 : decode cL_law 471 = .ok (.iaload, 1) := by decide +kernel
theorem dL_law_472 : decode cL_law 472 = .ok (.invokevirtual 65, 3) := by decide +kernel
theorem dL_law_475 : decode cL_law 475 = .ok (.if_icmp .eq 340, 3) := by decide +kernel
theorem dL_law_478 : decode cL_law 478 = .ok (.iconst 0, 1) := by decide +kernel
theorem dL_law_479 : decode cL_law 479 = .ok (.ireturn, 1) := by decide +kernel
theorem dL_law_480 : decode cL_law 480 = .ok (.aload_n 1, 1) := by decide +kernel
theorem dL_law_481 : decode cL_law 481 = .ok (.aload_n 0, 1) := by decide +kernel
theorem dL_law_482 : decode cL_law 482 = .ok (.iload_n 3, 1) := by decide +kernel
theorem dL_law_483 : decode cL_law 483 = .ok (.iconst 1, 1) := by decide +kernel
theorem dL_law_484 : decode cL_law 484 = .ok (.iadd, 1) := by decide +kernel
theorem dL_law_485 : decode cL_law 485 = .ok (.iaload, 1) := by decide +kernel
theorem dL_law_486 : decode cL_law 486 = .ok (.aload_n 0, 1) := by decide +kernel
theorem dL_law_487 : decode cL_law 487 = .ok (.iload_n 3, 1) := by decide +kernel
theorem dL_law_488 : decode cL_law 488 = .ok (.iconst 2, 1) := by decide +kernel
theorem dL_law_489 : decode cL_law 489 = .ok (.iadd, 1) := by decide +kernel
theorem dL_law_490 : decode cL_law 490 = .ok (.iaload, 1) := by decide +kernel
theorem dL_law_491 : decode cL_law 491 = .ok (.invokevirtual 66, 3) := by decide +kernel
theorem dL_law_494 : decode cL_law 494 = .ok (.aload_n 2, 1) := by decide +kernel
theorem dL_law_495 : decode cL_law 495 = .ok (.aload_n 0, 1) := by decide +kernel
theorem dL_law_496 : decode cL_law 496 = .ok (.iload_n 3, 1) := by decide +kernel
theorem dL_law_497 : decode cL_law 497 = .ok (.iconst 1, 1) := by decide +kernel
theorem dL_law_498 : decode cL_law 498 = .ok (.iadd, 1) := by decide +kernel
theorem dL_law_499 : decode cL_law 499 = .ok (.iaload, 1) := by decide +kernel
theorem dL_law_500 : decode cL_law 500 = .ok (.aload_n 0, 1) := by decide +kernel
theorem dL_law_501 : decode cL_law 501 = .ok (.iload_n 3, 1) := by decide +kernel
theorem dL_law_502 : decode cL_law 502 = .ok (.iconst 2, 1) := by decide +kernel
theorem dL_law_503 : decode cL_law 503 = .ok (.iadd, 1) := by decide +kernel
theorem dL_law_504 : decode cL_law 504 = .ok (.iaload, 1) := by decide +kernel
theorem dL_law_505 : decode cL_law 505 = .ok (.invokevirtual 69, 3) := by decide +kernel
theorem dL_law_508 : decode cL_law 508 = .ok (.if_icmp .eq 307, 3) := by decide +kernel
theorem dL_law_511 : decode cL_law 511 = .ok (.iconst 0, 1) := by decide +kernel
theorem dL_law_512 : decode cL_law 512 = .ok (.ireturn, 1) := by decide +kernel
theorem dL_law_513 : decode cL_law 513 = .ok (.aload_n 1, 1) := by decide +kernel
theorem dL_law_514 : decode cL_law 514 = .ok (.aload_n 0, 1) := by decide +kernel
theorem dL_law_515 : decode cL_law 515 = .ok (.iload_n 3, 1) := by decide +kernel
theorem dL_law_516 : decode cL_law 516 = .ok (.iconst 1, 1) := by decide +kernel
theorem dL_law_517 : decode cL_law 517 = .ok (.iadd, 1) := by decide +kernel
theorem dL_law_518 : decode cL_law 518 = .ok (.iaload, 1) := by decide +kernel
theorem dL_law_519 : decode cL_law 519 = .ok (.aload_n 0, 1) := by decide +kernel
theorem dL_law_520 : decode cL_law 520 = .ok (.iload_n 3, 1) := by decide +kernel
theorem dL_law_521 : decode cL_law 521 = .ok (.iconst 2, 1) := by decide +kernel
theorem dL_law_522 : decode cL_law 522 = .ok (.iadd, 1) := by decide +kernel
theorem dL_law_523 : decode cL_law 523 = .ok (.iaload, 1) := by decide +kernel
theorem dL_law_524 : decode cL_law 524 = .ok (.aload_n 0, 1) := by decide +kernel
theorem dL_law_525 : decode cL_law 525 = .ok (.iload_n 3, 1) := by decide +kernel
theorem dL_law_526 : decode cL_law 526 = .ok (.iconst 3, 1) := by decide +kernel
theorem dL_law_527 : decode cL_law 527 = .ok (.iadd, 1) := by decide +kernel
theorem dL_law_528 : decode cL_law 528 = .ok (.iaload, 1) := by decide +kernel
theorem dL_law_529 : decode cL_law 529 = .ok (.aload_n 0, 1) := by decide +kernel
theorem dL_law_530 : decode cL_law 530 = .ok (.iload_n 3, 1) := by decide +kernel
theorem dL_law_531 : decode cL_law 531 = .ok (.iconst 4, 1) := by decide +kernel
theorem dL_law_532 : decode cL_law 532 = .ok (.iadd, 1) := by decide +kernel
theorem dL_law_533 : decode cL_law 533 = .ok (.iaload, 1) := by decide +kernel
theorem dL_law_534 : decode cL_law 534 = .ok (.invokevirtual 70, 3) := by decide +kernel
theorem dL_law_537 : decode cL_law 537 = .ok (.aload_n 2, 1) := by decide +kernel
theorem dL_law_538 : decode cL_law 538 = .ok (.aload_n 0, 1) := by decide +kernel
theorem dL_law_539 : decode cL_law 539 = .ok (.iload_n 3, 1) := by decide +kernel
theorem dL_law_540 : decode cL_law 540 = .ok (.iconst 1, 1) := by decide +kernel
theorem dL_law_541 : decode cL_law 541 = .ok (.iadd, 1) := by decide +kernel
theorem dL_law_542 : decode cL_law 542 = .ok (.iaload, 1) := by decide +kernel
theorem dL_law_543 : decode cL_law 543 = .ok (.aload_n 0, 1) := by decide +kernel
theorem dL_law_544 : decode cL_law 544 = .ok (.iload_n 3, 1) := by decide +kernel
theorem dL_law_545 : decode cL_law 545 = .ok (.iconst 2, 1) := by decide +kernel
theorem dL_law_546 : decode cL_law 546 = .ok (.iadd, 1) := by decide +kernel
theorem dL_law_547 : decode cL_law 547 = .ok (.iaload, 1) := by decide +kernel
theorem dL_law_548 : decode cL_law 548 = .ok (.aload_n 0, 1) := by decide +kernel
theorem dL_law_549 : decode cL_law 549 = .ok (.iload_n 3, 1) := by decide +kernel
theorem dL_law_550 : decode cL_law 550 = .ok (.iconst 3, 1) := by decide +kernel
theorem dL_law_551 : decode cL_law 551 = .ok (.iadd, 1) := by decide +kernel
theorem dL_law_552 : decode cL_law 552 = .ok (.iaload, 1) := by decide +kernel
theorem dL_law_553 : decode cL_law 553 = .ok (.aload_n 0, 1) := by decide +kernel
theorem dL_law_554 : decode cL_law 554 = .ok (.iload_n 3, 1) := by decide +kernel
theorem dL_law_555 : decode cL_law 555 = .ok (.iconst 4, 1) := by decide +kernel
theorem dL_law_556 : decode cL_law 556 = .ok (.iadd, 1) := by decide +kernel
theorem dL_law_557 : decode cL_law 557 = .ok (.iaload, 1) := by decide +kernel
theorem dL_law_558 : decode cL_law 558 = .ok (.invokevirtual 74, 3) := by decide +kernel
theorem dL_law_561 : decode cL_law 561 = .ok (.if_icmp .eq 254, 3) := by decide +kernel
theorem dL_law_564 : decode cL_law 564 = .ok (.iconst 0, 1) := by decide +kernel
theorem dL_law_565 : decode cL_law 565 = .ok (.ireturn, 1) := by decide +kernel
theorem dL_law_566 : decode cL_law 566 = .ok (.aload_n 1, 1) := by decide +kernel
theorem dL_law_567 : decode cL_law 567 = .ok (.aload_n 0, 1) := by decide +kernel
theorem dL_law_568 : decode cL_law 568 = .ok (.iload_n 3, 1) := by decide +kernel
theorem dL_law_569 : decode cL_law 569 = .ok (.iconst 1, 1) := by decide +kernel
theorem dL_law_570 : decode cL_law 570 = .ok (.iadd, 1) := by decide +kernel
theorem dL_law_571 : decode cL_law 571 = .ok (.iaload, 1) := by decide +kernel
theorem dL_law_572 : decode cL_law 572 = .ok (.aload_n 0, 1) := by decide +kernel
theorem dL_law_573 : decode cL_law 573 = .ok (.iload_n 3, 1) := by decide +kernel
theorem dL_law_574 : decode cL_law 574 = .ok (.iconst 2, 1) := by decide +kernel
theorem dL_law_575 : decode cL_law 575 = .ok (.iadd, 1) := by decide +kernel
theorem dL_law_576 : decode cL_law 576 = .ok (.iaload, 1) := by decide +kernel
theorem dL_law_577 : decode cL_law 577 = .ok (.aload_n 0, 1) := by decide +kernel
theorem dL_law_578 : decode cL_law 578 = .ok (.iload_n 3, 1) := by decide +kernel
theorem dL_law_579 : decode cL_law 579 = .ok (.iconst 3, 1) := by decide +kernel
theorem dL_law_580 : decode cL_law 580 = .ok (.iadd, 1) := by decide +kernel
theorem dL_law_581 : decode cL_law 581 = .ok (.iaload, 1) := by decide +kernel
theorem dL_law_582 : decode cL_law 582 = .ok (.aload_n 0, 1) := by decide +kernel
theorem dL_law_583 : decode cL_law 583 = .ok (.iload_n 3, 1) := by decide +kernel
theorem dL_law_584 : decode cL_law 584 = .ok (.iconst 4, 1) := by decide +kernel
theorem dL_law_585 : decode cL_law 585 = .ok (.iadd, 1) := by decide +kernel
theorem dL_law_586 : decode cL_law 586 = .ok (.iaload, 1) := by decide +kernel
theorem dL_law_587 : decode cL_law 587 = .ok (.aload_n 0, 1) := by decide +kernel
theorem dL_law_588 : decode cL_law 588 = .ok (.iload_n 3, 1) := by decide +kernel
theorem dL_law_589 : decode cL_law 589 = .ok (.iconst 5, 1) := by decide +kernel
theorem dL_law_590 : decode cL_law 590 = .ok (.iadd, 1) := by decide +kernel
theorem dL_law_591 : decode cL_law 591 = .ok (.iaload, 1) := by decide +kernel
theorem dL_law_592 : decode cL_law 592 = .ok (.invokevirtual 75, 3) := by decide +kernel
theorem dL_law_595 : decode cL_law 595 = .ok (.aload_n 2, 1) := by decide +kernel
theorem dL_law_596 : decode cL_law 596 = .ok (.aload_n 0, 1) := by decide +kernel
theorem dL_law_597 : decode cL_law 597 = .ok (.iload_n 3, 1) := by decide +kernel
theorem dL_law_598 : decode cL_law 598 = .ok (.iconst 1, 1) := by decide +kernel
theorem dL_law_599 : decode cL_law 599 = .ok (.iadd, 1) := by decide +kernel
theorem dL_law_600 : decode cL_law 600 = .ok (.iaload, 1) := by decide +kernel
theorem dL_law_601 : decode cL_law 601 = .ok (.aload_n 0, 1) := by decide +kernel
theorem dL_law_602 : decode cL_law 602 = .ok (.iload_n 3, 1) := by decide +kernel
theorem dL_law_603 : decode cL_law 603 = .ok (.iconst 2, 1) := by decide +kernel
theorem dL_law_604 : decode cL_law 604 = .ok (.iadd, 1) := by decide +kernel
theorem dL_law_605 : decode cL_law 605 = .ok (.iaload, 1) := by decide +kernel
theorem dL_law_606 : decode cL_law 606 = .ok (.aload_n 0, 1) := by decide +kernel
theorem dL_law_607 : decode cL_law 607 = .ok (.iload_n 3, 1) := by decide +kernel
theorem dL_law_608 : decode cL_law 608 = .ok (.iconst 3, 1) := by decide +kernel
theorem dL_law_609 : decode cL_law 609 = .ok (.iadd, 1) := by decide +kernel
theorem dL_law_610 : decode cL_law 610 = .ok (.iaload, 1) := by decide +kernel
theorem dL_law_611 : decode cL_law 611 = .ok (.aload_n 0, 1) := by decide +kernel
theorem dL_law_612 : decode cL_law 612 = .ok (.iload_n 3, 1) := by decide +kernel
theorem dL_law_613 : decode cL_law 613 = .ok (.iconst 4, 1) := by decide +kernel
theorem dL_law_614 : decode cL_law 614 = .ok (.iadd, 1) := by decide +kernel
theorem dL_law_615 : decode cL_law 615 = .ok (.iaload, 1) := by decide +kernel
theorem dL_law_616 : decode cL_law 616 = .ok (.aload_n 0, 1) := by decide +kernel
theorem dL_law_617 : decode cL_law 617 = .ok (.iload_n 3, 1) := by decide +kernel
theorem dL_law_618 : decode cL_law 618 = .ok (.iconst 5, 1) := by decide +kernel
theorem dL_law_619 : decode cL_law 619 = .ok (.iadd, 1) := by decide +kernel
theorem dL_law_620 : decode cL_law 620 = .ok (.iaload, 1) := by decide +kernel
theorem dL_law_621 : decode cL_law 621 = .ok (.invokevirtual 79, 3) := by decide +kernel
theorem dL_law_624 : decode cL_law 624 = .ok (.if_icmp .eq 191, 3) := by decide +kernel
theorem dL_law_627 : decode cL_law 627 = .ok (.iconst 0, 1) := by decide +kernel
theorem dL_law_628 : decode cL_law 628 = .ok (.ireturn, 1) := by decide +kernel
theorem dL_law_629 : decode cL_law 629 = .ok (.aload_n 1, 1) := by decide +kernel
theorem dL_law_630 : decode cL_law 630 = .ok (.aload_n 0, 1) := by decide +kernel
theorem dL_law_631 : decode cL_law 631 = .ok (.iload_n 3, 1) := by decide +kernel
theorem dL_law_632 : decode cL_law 632 = .ok (.iconst 1, 1) := by decide +kernel
theorem dL_law_633 : decode cL_law 633 = .ok (.iadd, 1) := by decide +kernel
theorem dL_law_634 : decode cL_law 634 = .ok (.iaload, 1) := by decide +kernel
theorem dL_law_635 : decode cL_law 635 = .ok (.aload_n 0, 1) := by decide +kernel
theorem dL_law_636 : decode cL_law 636 = .ok (.iload_n 3, 1) := by decide +kernel
theorem dL_law_637 : decode cL_law 637 = .ok (.iconst 2, 1) := by decide +kernel
theorem dL_law_638 : decode cL_law 638 = .ok (.iadd, 1) := by decide +kernel
theorem dL_law_639 : decode cL_law 639 = .ok (.iaload, 1) := by decide +kernel
theorem dL_law_640 : decode cL_law 640 = .ok (.aload_n 0, 1) := by decide +kernel
theorem dL_law_641 : decode cL_law 641 = .ok (.iload_n 3, 1) := by decide +kernel
theorem dL_law_642 : decode cL_law 642 = .ok (.iconst 3, 1) := by decide +kernel
theorem dL_law_643 : decode cL_law 643 = .ok (.iadd, 1) := by decide +kernel
theorem dL_law_644 : decode cL_law 644 = .ok (.iaload, 1) := by decide +kernel
theorem dL_law_645 : decode cL_law 645 = .ok (.aload_n 0, 1) := by decide +kernel
theorem dL_law_646 : decode cL_law 646 = .ok (.iload_n 3, 1) := by decide +kernel
theorem dL_law_647 : decode cL_law 647 = .ok (.iconst 4, 1) := by decide +kernel
theorem dL_law_648 : decode cL_law 648 = .ok (.iadd, 1) := by decide +kernel
theorem dL_law_649 : decode cL_law 649 = .ok (.iaload, 1) := by decide +kernel
theorem dL_law_650 : decode cL_law 650 = .ok (.invokevirtual 80, 3) := by decide +kernel
theorem dL_law_653 : decode cL_law 653 = .ok (.aload_n 2, 1) := by decide +kernel
theorem dL_law_654 : decode cL_law 654 = .ok (.aload_n 0, 1) := by decide +kernel
theorem dL_law_655 : decode cL_law 655 = .ok (.iload_n 3, 1) := by decide +kernel
theorem dL_law_656 : decode cL_law 656 = .ok (.iconst 1, 1) := by decide +kernel
theorem dL_law_657 : decode cL_law 657 = .ok (.iadd, 1) := by decide +kernel
theorem dL_law_658 : decode cL_law 658 = .ok (.iaload, 1) := by decide +kernel
theorem dL_law_659 : decode cL_law 659 = .ok (.aload_n 0, 1) := by decide +kernel
theorem dL_law_660 : decode cL_law 660 = .ok (.iload_n 3, 1) := by decide +kernel
theorem dL_law_661 : decode cL_law 661 = .ok (.iconst 2, 1) := by decide +kernel
theorem dL_law_662 : decode cL_law 662 = .ok (.iadd, 1) := by decide +kernel
theorem dL_law_663 : decode cL_law 663 = .ok (.iaload, 1) := by decide +kernel
theorem dL_law_664 : decode cL_law 664 = .ok (.aload_n 0, 1) := by decide +kernel
theorem dL_law_665 : decode cL_law 665 = .ok (.iload_n 3, 1) := by decide +kernel
theorem dL_law_666 : decode cL_law 666 = .ok (.iconst 3, 1) := by decide +kernel
theorem dL_law_667 : decode cL_law 667 = .ok (.iadd, 1) := by decide +kernel
theorem dL_law_668 : decode cL_law 668 = .ok (.iaload, 1) := by decide +kernel
theorem dL_law_669 : decode cL_law 669 = .ok (.aload_n 0, 1) := by decide +kernel
theorem dL_law_670 : decode cL_law 670 = .ok (.iload_n 3, 1) := by decide +kernel
theorem dL_law_671 : decode cL_law 671 = .ok (.iconst 4, 1) := by decide +kernel
theorem dL_law_672 : decode cL_law 672 = .ok (.iadd, 1) := by decide +kernel
theorem dL_law_673 : decode cL_law 673 = .ok (.iaload, 1) := by decide +kernel
theorem dL_law_674 : decode cL_law 674 = .ok (.invokevirtual 83, 3) := by decide +kernel
theorem dL_law_677 : decode cL_law 677 = .ok (.if_icmp .eq 138, 3) := by decide +kernel
theorem dL_law_680 : decode cL_law 680 = .ok (.iconst 0, 1) := by decide +kernel
theorem dL_law_681 : decode cL_law 681 = .ok (.ireturn, 1) := by decide +kernel
theorem dL_law_682 : decode cL_law 682 = .ok (.aload_n 1, 1) := by decide +kernel
theorem dL_law_683 : decode cL_law 683 = .ok (.aload_n 0, 1) := by decide +kernel
theorem dL_law_684 : decode cL_law 684 = .ok (.iload_n 3, 1) := by decide +kernel
theorem dL_law_685 : decode cL_law 685 = .ok (.iconst 1, 1) := by decide +kernel
theorem dL_law_686 : decode cL_law 686 = .ok (.iadd, 1) := by decide +kernel
theorem dL_law_687 : decode cL_law 687 = .ok (.iaload, 1) := by decide +kernel
theorem dL_law_688 : decode cL_law 688 = .ok (.aload_n 0, 1) := by decide +kernel
theorem dL_law_689 : decode cL_law 689 = .ok (.iload_n 3, 1) := by decide +kernel
theorem dL_law_690 : decode cL_law 690 = .ok (.iconst 2, 1) := by decide +kernel
theorem dL_law_691 : decode cL_law 691 = .ok (.iadd, 1) := by decide +kernel
theorem dL_law_692 : decode cL_law 692 = .ok (.iaload, 1) := by decide +kernel
theorem dL_law_693 : decode cL_law 693 = .ok (.aload_n 0, 1) := by decide +kernel
theorem dL_law_694 : decode cL_law 694 = .ok (.iload_n 3, 1) := by decide +kernel
theorem dL_law_695 : decode cL_law 695 = .ok (.iconst 3, 1) := by decide +kernel
theorem dL_law_696 : decode cL_law 696 = .ok (.iadd, 1) := by decide +kernel
theorem dL_law_697 : decode cL_law 697 = .ok (.iaload, 1) := by decide +kernel
theorem dL_law_698 : decode cL_law 698 = .ok (.aload_n 0, 1) := by decide +kernel
theorem dL_law_699 : decode cL_law 699 = .ok (.iload_n 3, 1) := by decide +kernel
theorem dL_law_700 : decode cL_law 700 = .ok (.iconst 4, 1) := by decide +kernel
theorem dL_law_701 : decode cL_law 701 = .ok (.iadd, 1) := by decide +kernel
theorem dL_law_702 : decode cL_law 702 = .ok (.iaload, 1) := by decide +kernel
theorem dL_law_703 : decode cL_law 703 = .ok (.aload_n 0, 1) := by decide +kernel
theorem dL_law_704 : decode cL_law 704 = .ok (.iload_n 3, 1) := by decide +kernel
theorem dL_law_705 : decode cL_law 705 = .ok (.iconst 5, 1) := by decide +kernel
theorem dL_law_706 : decode cL_law 706 = .ok (.iadd, 1) := by decide +kernel
theorem dL_law_707 : decode cL_law 707 = .ok (.iaload, 1) := by decide +kernel
theorem dL_law_708 : decode cL_law 708 = .ok (.invokevirtual 84, 3) := by decide +kernel
theorem dL_law_711 : decode cL_law 711 = .ok (.aload_n 2, 1) := by decide +kernel
theorem dL_law_712 : decode cL_law 712 = .ok (.aload_n 0, 1) := by decide +kernel
theorem dL_law_713 : decode cL_law 713 = .ok (.iload_n 3, 1) := by decide +kernel
theorem dL_law_714 : decode cL_law 714 = .ok (.iconst 1, 1) := by decide +kernel
theorem dL_law_715 : decode cL_law 715 = .ok (.iadd, 1) := by decide +kernel
theorem dL_law_716 : decode cL_law 716 = .ok (.iaload, 1) := by decide +kernel
theorem dL_law_717 : decode cL_law 717 = .ok (.aload_n 0, 1) := by decide +kernel
theorem dL_law_718 : decode cL_law 718 = .ok (.iload_n 3, 1) := by decide +kernel
theorem dL_law_719 : decode cL_law 719 = .ok (.iconst 2, 1) := by decide +kernel
theorem dL_law_720 : decode cL_law 720 = .ok (.iadd, 1) := by decide +kernel
theorem dL_law_721 : decode cL_law 721 = .ok (.iaload, 1) := by decide +kernel
theorem dL_law_722 : decode cL_law 722 = .ok (.aload_n 0, 1) := by decide +kernel
theorem dL_law_723 : decode cL_law 723 = .ok (.iload_n 3, 1) := by decide +kernel
theorem dL_law_724 : decode cL_law 724 = .ok (.iconst 3, 1) := by decide +kernel
theorem dL_law_725 : decode cL_law 725 = .ok (.iadd, 1) := by decide +kernel
theorem dL_law_726 : decode cL_law 726 = .ok (.iaload, 1) := by decide +kernel
theorem dL_law_727 : decode cL_law 727 = .ok (.aload_n 0, 1) := by decide +kernel
theorem dL_law_728 : decode cL_law 728 = .ok (.iload_n 3, 1) := by decide +kernel
theorem dL_law_729 : decode cL_law 729 = .ok (.iconst 4, 1) := by decide +kernel
theorem dL_law_730 : decode cL_law 730 = .ok (.iadd, 1) := by decide +kernel
theorem dL_law_731 : decode cL_law 731 = .ok (.iaload, 1) := by decide +kernel
theorem dL_law_732 : decode cL_law 732 = .ok (.aload_n 0, 1) := by decide +kernel
theorem dL_law_733 : decode cL_law 733 = .ok (.iload_n 3, 1) := by decide +kernel
theorem dL_law_734 : decode cL_law 734 = .ok (.iconst 5, 1) := by decide +kernel
theorem dL_law_735 : decode cL_law 735 = .ok (.iadd, 1) := by decide +kernel
theorem dL_law_736 : decode cL_law 736 = .ok (.iaload, 1) := by decide +kernel
theorem dL_law_737 : decode cL_law 737 = .ok (.invokevirtual 87, 3) := by decide +kernel
theorem dL_law_740 : decode cL_law 740 = .ok (.if_icmp .eq 75, 3) := by decide +kernel
theorem dL_law_743 : decode cL_law 743 = .ok (.iconst 0, 1) := by decide +kernel
theorem dL_law_744 : decode cL_law 744 = .ok (.ireturn, 1) := by decide +kernel
theorem dL_law_745 : decode cL_law 745 = .ok (.aload_n 1, 1) := by decide +kernel
theorem dL_law_746 : decode cL_law 746 = .ok (.aload_n 0, 1) := by decide +kernel
theorem dL_law_747 : decode cL_law 747 = .ok (.iload_n 3, 1) := by decide +kernel
theorem dL_law_748 : decode cL_law 748 = .ok (.iconst 1, 1) := by decide +kernel
theorem dL_law_749 : decode cL_law 749 = .ok (.iadd, 1) := by decide +kernel
theorem dL_law_750 : decode cL_law 750 = .ok (.iaload, 1) := by decide +kernel
theorem dL_law_751 : decode cL_law 751 = .ok (.aload_n 0, 1) := by decide +kernel
theorem dL_law_752 : decode cL_law 752 = .ok (.iload_n 3, 1) := by decide +kernel
theorem dL_law_753 : decode cL_law 753 = .ok (.iconst 2, 1) := by decide +kernel
theorem dL_law_754 : decode cL_law 754 = .ok (.iadd, 1) := by decide +kernel
theorem dL_law_755 : decode cL_law 755 = .ok (.iaload, 1) := by decide +kernel
theorem dL_law_756 : decode cL_law 756 = .ok (.invokevirtual 88, 3) := by decide +kernel
theorem dL_law_759 : decode cL_law 759 = .ok (.aload_n 2, 1) := by decide +kernel
theorem dL_law_760 : decode cL_law 760 = .ok (.aload_n 0, 1) := by decide +kernel
theorem dL_law_761 : decode cL_law 761 = .ok (.iload_n 3, 1) := by decide +kernel
theorem dL_law_762 : decode cL_law 762 = .ok (.iconst 1, 1) := by decide +kernel
theorem dL_law_763 : decode cL_law 763 = .ok (.iadd, 1) := by decide +kernel
theorem dL_law_764 : decode cL_law 764 = .ok (.iaload, 1) := by decide +kernel
theorem dL_law_765 : decode cL_law 765 = .ok (.aload_n 0, 1) := by decide +kernel
theorem dL_law_766 : decode cL_law 766 = .ok (.iload_n 3, 1) := by decide +kernel
theorem dL_law_767 : decode cL_law 767 = .ok (.iconst 2, 1) := by decide +kernel
theorem dL_law_768 : decode cL_law 768 = .ok (.iadd, 1) := by decide +kernel
theorem dL_law_769 : decode cL_law 769 = .ok (.iaload, 1) := by decide +kernel
theorem dL_law_770 : decode cL_law 770 = .ok (.invokevirtual 91, 3) := by decide +kernel
theorem dL_law_773 : decode cL_law 773 = .ok (.if_icmp .eq 42, 3) := by decide +kernel
theorem dL_law_776 : decode cL_law 776 = .ok (.iconst 0, 1) := by decide +kernel
theorem dL_law_777 : decode cL_law 777 = .ok (.ireturn, 1) := by decide +kernel
theorem dL_law_778 : decode cL_law 778 = .ok (.aload_n 1, 1) := by decide +kernel
theorem dL_law_779 : decode cL_law 779 = .ok (.aload_n 0, 1) := by decide +kernel
theorem dL_law_780 : decode cL_law 780 = .ok (.iload_n 3, 1) := by decide +kernel
theorem dL_law_781 : decode cL_law 781 = .ok (.iconst 1, 1) := by decide +kernel
theorem dL_law_782 : decode cL_law 782 = .ok (.iadd, 1) := by decide +kernel
theorem dL_law_783 : decode cL_law 783 = .ok (.iaload, 1) := by decide +kernel
theorem dL_law_784 : decode cL_law 784 = .ok (.invokevirtual 92, 3) := by decide +kernel
theorem dL_law_787 : decode cL_law 787 = .ok (.aload_n 2, 1) := by decide +kernel
theorem dL_law_788 : decode cL_law 788 = .ok (.aload_n 0, 1) := by decide +kernel
theorem dL_law_789 : decode cL_law 789 = .ok (.iload_n 3, 1) := by decide +kernel
theorem dL_law_790 : decode cL_law 790 = .ok (.iconst 1, 1) := by decide +kernel
theorem dL_law_791 : decode cL_law 791 = .ok (.iadd, 1) := by decide +kernel
theorem dL_law_792 : decode cL_law 792 = .ok (.iaload, 1) := by decide +kernel
theorem dL_law_793 : decode cL_law 793 = .ok (.invokevirtual 95, 3) := by decide +kernel
theorem dL_law_796 : decode cL_law 796 = .ok (.if_icmp .eq 19, 3) := by decide +kernel
theorem dL_law_799 : decode cL_law 799 = .ok (.iconst 0, 1) := by decide +kernel
theorem dL_law_800 : decode cL_law 800 = .ok (.ireturn, 1) := by decide +kernel
theorem dL_law_801 : decode cL_law 801 = .ok (.aload_n 1, 1) := by decide +kernel
theorem dL_law_802 : decode cL_law 802 = .ok (.invokevirtual 96, 3) := by decide +kernel
theorem dL_law_805 : decode cL_law 805 = .ok (.aload_n 2, 1) := by decide +kernel
theorem dL_law_806 : decode cL_law 806 = .ok (.invokevirtual 100, 3) := by decide +kernel
theorem dL_law_809 : decode cL_law 809 = .ok (.lcmp, 1) := by decide +kernel
theorem dL_law_810 : decode cL_law 810 = .ok (.ifCond .eq 5, 3) := by decide +kernel
theorem dL_law_813 : decode cL_law 813 = .ok (.iconst 0, 1) := by decide +kernel
theorem dL_law_814 : decode cL_law 814 = .ok (.ireturn, 1) := by decide +kernel
theorem dL_law_815 : decode cL_law 815 = .ok (.iinc 3 6, 3) := by decide +kernel
theorem dL_law_818 : decode cL_law 818 = .ok (.goto (-800), 3) := by decide +kernel
theorem dL_law_821 : decode cL_law 821 = .ok (.iconst 1, 1) := by decide +kernel
theorem dL_law_822 : decode cL_law 822 = .ok (.ireturn, 1) := by decide +kernel
end
section
/-- the tables' words that are carried from call to call -/
def TG : List Cond := lw_tbl.filter goodWord
theorem TG_of {w : Cond} (h : w ∈ lw_tbl) (hg : goodWord w = true) : w ∈ TG := List.mem_filter.mpr ⟨h, hg⟩
theorem TG_good : GoodIn TG TG := fun w hw => ⟨hw, good_of_word (List.mem_filter.mp hw).2⟩
end
section
theorem woRX0_3 : Cond.methodLink RX0 3 objectInit ∈ TG := TG_of (by decide +kernel) rfl
theorem wfRX0_9 : Cond.fieldLink RX0 9 "PicturePath$Cells" "numbers" "[I" ∈ TG := TG_of (by decide +kernel) rfl
theorem wfRX0_15 : Cond.fieldLink RX0 15 "PicturePath$Cells" "deadOnes" "[Z" ∈ TG := TG_of (by decide +kernel) rfl
theorem wfRX0_19 : Cond.fieldLink RX0 19 "PicturePath$Cells" "width" "I" ∈ TG := TG_of (by decide +kernel) rfl
theorem wfRX0_23 : Cond.fieldLink RX0 23 "PicturePath$Cells" "height" "I" ∈ TG := TG_of (by decide +kernel) rfl
theorem woRX1_3 : Cond.methodLink RX1 3 objectInit ∈ TG := TG_of (by decide +kernel) rfl
theorem wmRX1_9 : Cond.classLink RX1 9 "[[I" ∈ TG := TG_of (by decide +kernel) rfl
theorem wfRX1_11 : Cond.fieldLink RX1 11 "PicturePath$Demand" "rows" "[[I" ∈ TG := TG_of (by decide +kernel) rfl
theorem wfRX1_16 : Cond.fieldLink RX1 16 "PicturePath$Demand" "top" "I" ∈ TG := TG_of (by decide +kernel) rfl
theorem wzRJ7 : Cond.initialized RJ7 ∈ TG := TG_of (by decide +kernel) rfl
theorem wcJ7_fill_53178 : Cond.code yJ7_fill_53178 cJ7_fill_53178 4 none ∈ TG := TG_of (by decide +kernel) rfl
theorem wlRX1_20 : Cond.methodLink RX1 20 yJ7_fill_53178 ∈ TG := TG_of (by decide +kernel) rfl
theorem wTJ7_fill_53178 : Cond.static yJ7_fill_53178 ∈ TG := TG_of (by decide +kernel) rfl
theorem wzRJ6 : Cond.initialized RJ6 ∈ TG := TG_of (by decide +kernel) rfl
theorem wcJ6_bitCount_0f7a4 : Cond.code yJ6_bitCount_0f7a4 cJ6_bitCount_0f7a4 1 (some .int) ∈ TG := TG_of (by decide +kernel) rfl
theorem wlRX1_26 : Cond.methodLink RX1 26 yJ6_bitCount_0f7a4 ∈ TG := TG_of (by decide +kernel) rfl
theorem wTJ6_bitCount_0f7a4 : Cond.static yJ6_bitCount_0f7a4 ∈ TG := TG_of (by decide +kernel) rfl
theorem wfRX1_32 : Cond.fieldLink RX1 32 "PicturePath$Steps" "kinds" "[I" ∈ TG := TG_of (by decide +kernel) rfl
theorem wfRX1_38 : Cond.fieldLink RX1 38 "PicturePath$Steps" "facts" "[[I" ∈ TG := TG_of (by decide +kernel) rfl
theorem wzRX1 : Cond.initialized RX1 ∈ TG := TG_of (by decide +kernel) rfl
theorem wcX1_traceStep : Cond.code yX1_traceStep cX1_traceStep 4 none ∈ TG := TG_of (by decide +kernel) rfl
theorem wlRX1_41 : Cond.methodLink RX1 41 yX1_traceStep ∈ TG := TG_of (by decide +kernel) rfl
theorem wTX1_traceStep : Cond.static yX1_traceStep ∈ TG := TG_of (by decide +kernel) rfl
theorem wcX1_traceNear : Cond.code yX1_traceNear cX1_traceNear 7 none ∈ TG := TG_of (by decide +kernel) rfl
theorem wlRX1_45 : Cond.methodLink RX1 45 yX1_traceNear ∈ TG := TG_of (by decide +kernel) rfl
theorem wTX1_traceNear : Cond.static yX1_traceNear ∈ TG := TG_of (by decide +kernel) rfl
theorem wcX1_traceColours : Cond.code yX1_traceColours cX1_traceColours 12 none ∈ TG := TG_of (by decide +kernel) rfl
theorem wlRX1_49 : Cond.methodLink RX1 49 yX1_traceColours ∈ TG := TG_of (by decide +kernel) rfl
theorem wTX1_traceColours : Cond.static yX1_traceColours ∈ TG := TG_of (by decide +kernel) rfl
theorem wcX1_traceMatrix : Cond.code yX1_traceMatrix cX1_traceMatrix 5 none ∈ TG := TG_of (by decide +kernel) rfl
theorem wlRX1_52 : Cond.methodLink RX1 52 yX1_traceMatrix ∈ TG := TG_of (by decide +kernel) rfl
theorem wTX1_traceMatrix : Cond.static yX1_traceMatrix ∈ TG := TG_of (by decide +kernel) rfl
theorem wcX1_traceHalf : Cond.code yX1_traceHalf cX1_traceHalf 6 none ∈ TG := TG_of (by decide +kernel) rfl
theorem wlRX1_56 : Cond.methodLink RX1 56 yX1_traceHalf ∈ TG := TG_of (by decide +kernel) rfl
theorem wTX1_traceHalf : Cond.static yX1_traceHalf ∈ TG := TG_of (by decide +kernel) rfl
theorem waRX1_59 : Cond.methodLink RX1 59 arraycopyName ∈ TG := TG_of (by decide +kernel) rfl
theorem wcX1_columnsOf : Cond.code yX1_columnsOf cX1_columnsOf 3 (some .int) ∈ TG := TG_of (by decide +kernel) rfl
theorem wlRX1_65 : Cond.methodLink RX1 65 yX1_columnsOf ∈ TG := TG_of (by decide +kernel) rfl
theorem wTX1_columnsOf : Cond.static yX1_columnsOf ∈ TG := TG_of (by decide +kernel) rfl
theorem wzRJ9 : Cond.initialized RJ9 ∈ TG := TG_of (by decide +kernel) rfl
theorem wcJ9_max_7cf53 : Cond.code yJ9_max_7cf53 cJ9_max_7cf53 2 (some .int) ∈ TG := TG_of (by decide +kernel) rfl
theorem wlRX1_69 : Cond.methodLink RX1 69 yJ9_max_7cf53 ∈ TG := TG_of (by decide +kernel) rfl
theorem wTJ9_max_7cf53 : Cond.static yJ9_max_7cf53 ∈ TG := TG_of (by decide +kernel) rfl
theorem wcJ9_min_7cf53 : Cond.code yJ9_min_7cf53 cJ9_min_7cf53 2 (some .int) ∈ TG := TG_of (by decide +kernel) rfl
theorem wlRX1_74 : Cond.methodLink RX1 74 yJ9_min_7cf53 ∈ TG := TG_of (by decide +kernel) rfl
theorem wTJ9_min_7cf53 : Cond.static yJ9_min_7cf53 ∈ TG := TG_of (by decide +kernel) rfl
theorem wcX1_doubled : Cond.code yX1_doubled cX1_doubled 3 (some .int) ∈ TG := TG_of (by decide +kernel) rfl
theorem wlRX1_78 : Cond.methodLink RX1 78 yX1_doubled ∈ TG := TG_of (by decide +kernel) rfl
theorem wTX1_doubled : Cond.static yX1_doubled ∈ TG := TG_of (by decide +kernel) rfl
theorem woRX2_3 : Cond.methodLink RX2 3 objectInit ∈ TG := TG_of (by decide +kernel) rfl
theorem wfRX2_9 : Cond.fieldLink RX2 9 "PicturePath$Maker" "ahead" "[I" ∈ TG := TG_of (by decide +kernel) rfl
theorem wfRX2_15 : Cond.fieldLink RX2 15 "PicturePath$Maker" "behind" "[I" ∈ TG := TG_of (by decide +kernel) rfl
theorem wfRX2_18 : Cond.fieldLink RX2 18 "PicturePath$Maker" "five" "[I" ∈ TG := TG_of (by decide +kernel) rfl
theorem wcX1_traceBack : Cond.code yX1_traceBack cX1_traceBack 3 none ∈ TG := TG_of (by decide +kernel) rfl
theorem wlRX2_21 : Cond.methodLink RX2 21 yX1_traceBack ∈ TG := TG_of (by decide +kernel) rfl
theorem wIX1_traceBack : Cond.instanceMethod yX1_traceBack ∈ TG := TG_of (by decide +kernel) rfl
theorem wSX1_traceBack : Cond.selects RX1 yX1_traceBack yX1_traceBack ∈ TG := TG_of (by decide +kernel) rfl
theorem wzRX2 : Cond.initialized RX2 ∈ TG := TG_of (by decide +kernel) rfl
theorem wcX2_takeCells : Cond.code yX2_takeCells cX2_takeCells 5 none ∈ TG := TG_of (by decide +kernel) rfl
theorem wlRX2_27 : Cond.methodLink RX2 27 yX2_takeCells ∈ TG := TG_of (by decide +kernel) rfl
theorem wIX2_takeCells : Cond.instanceMethod yX2_takeCells ∈ TG := TG_of (by decide +kernel) rfl
theorem wSX2_takeCells : Cond.selects RX2 yX2_takeCells yX2_takeCells ∈ TG := TG_of (by decide +kernel) rfl
theorem wfRX2_31 : Cond.fieldLink RX2 31 "PicturePath$Demand" "top" "I" ∈ TG := TG_of (by decide +kernel) rfl
theorem wcX2_makeStage : Cond.code yX2_makeStage cX2_makeStage 11 none ∈ TG := TG_of (by decide +kernel) rfl
theorem wlRX2_35 : Cond.methodLink RX2 35 yX2_makeStage ∈ TG := TG_of (by decide +kernel) rfl
theorem wIX2_makeStage : Cond.instanceMethod yX2_makeStage ∈ TG := TG_of (by decide +kernel) rfl
theorem wSX2_makeStage : Cond.selects RX2 yX2_makeStage yX2_makeStage ∈ TG := TG_of (by decide +kernel) rfl
theorem wcX2_made : Cond.code yX2_made cX2_made 4 (some .int) ∈ TG := TG_of (by decide +kernel) rfl
theorem wlRX2_39 : Cond.methodLink RX2 39 yX2_made ∈ TG := TG_of (by decide +kernel) rfl
theorem wIX2_made : Cond.instanceMethod yX2_made ∈ TG := TG_of (by decide +kernel) rfl
theorem wSX2_made : Cond.selects RX2 yX2_made yX2_made ∈ TG := TG_of (by decide +kernel) rfl
theorem wlRX2_43 : Cond.methodLink RX2 43 yJ9_min_7cf53 ∈ TG := TG_of (by decide +kernel) rfl
theorem wlRX2_49 : Cond.methodLink RX2 49 yJ9_max_7cf53 ∈ TG := TG_of (by decide +kernel) rfl
theorem wfRX2_52 : Cond.fieldLink RX2 52 "PicturePath$Cells" "height" "I" ∈ TG := TG_of (by decide +kernel) rfl
theorem wfRX2_57 : Cond.fieldLink RX2 57 "PicturePath$Cells" "width" "I" ∈ TG := TG_of (by decide +kernel) rfl
theorem wcX1_isAsked : Cond.code yX1_isAsked cX1_isAsked 5 (some .boolean) ∈ TG := TG_of (by decide +kernel) rfl
theorem wlRX2_60 : Cond.methodLink RX2 60 yX1_isAsked ∈ TG := TG_of (by decide +kernel) rfl
theorem wIX1_isAsked : Cond.instanceMethod yX1_isAsked ∈ TG := TG_of (by decide +kernel) rfl
theorem wSX1_isAsked : Cond.selects RX1 yX1_isAsked yX1_isAsked ∈ TG := TG_of (by decide +kernel) rfl
theorem wzRX4 : Cond.initialized RX4 ∈ TG := TG_of (by decide +kernel) rfl
theorem wcX4_placeOf : Cond.code yX4_placeOf cX4_placeOf 2 (some .int) ∈ TG := TG_of (by decide +kernel) rfl
theorem wTX4_placeOf : Cond.static yX4_placeOf ∈ TG := TG_of (by decide +kernel) rfl
theorem wfRX2_67 : Cond.fieldLink RX2 67 "PicturePath$Cells" "numbers" "[I" ∈ TG := TG_of (by decide +kernel) rfl
theorem wfRX2_70 : Cond.fieldLink RX2 70 "PicturePath$Steps" "facts" "[[I" ∈ TG := TG_of (by decide +kernel) rfl
theorem wfRX2_76 : Cond.fieldLink RX2 76 "PicturePath$Demand" "rows" "[[I" ∈ TG := TG_of (by decide +kernel) rfl
theorem wfRX2_79 : Cond.fieldLink RX2 79 "PicturePath$Steps" "kinds" "[I" ∈ TG := TG_of (by decide +kernel) rfl
theorem wfRX2_82 : Cond.fieldLink RX2 82 "PicturePath$Steps" "told" "[[I" ∈ TG := TG_of (by decide +kernel) rfl
theorem wcX2_behindStep : Cond.code yX2_behindStep cX2_behindStep 7 (some .int) ∈ TG := TG_of (by decide +kernel) rfl
theorem wlRX2_85 : Cond.methodLink RX2 85 yX2_behindStep ∈ TG := TG_of (by decide +kernel) rfl
theorem wIX2_behindStep : Cond.instanceMethod yX2_behindStep ∈ TG := TG_of (by decide +kernel) rfl
theorem wSX2_behindStep : Cond.selects RX2 yX2_behindStep yX2_behindStep ∈ TG := TG_of (by decide +kernel) rfl
theorem wcX4_colourOf : Cond.code yX4_colourOf cX4_colourOf 2 (some .int) ∈ TG := TG_of (by decide +kernel) rfl
theorem wTX4_colourOf : Cond.static yX4_colourOf ∈ TG := TG_of (by decide +kernel) rfl
theorem wcX2_mended : Cond.code yX2_mended cX2_mended 10 (some .int) ∈ TG := TG_of (by decide +kernel) rfl
theorem wlRX2_92 : Cond.methodLink RX2 92 yX2_mended ∈ TG := TG_of (by decide +kernel) rfl
theorem wIX2_mended : Cond.instanceMethod yX2_mended ∈ TG := TG_of (by decide +kernel) rfl
theorem wSX2_mended : Cond.selects RX2 yX2_mended yX2_mended ∈ TG := TG_of (by decide +kernel) rfl
theorem wcX2_middle : Cond.code yX2_middle cX2_middle 8 (some .int) ∈ TG := TG_of (by decide +kernel) rfl
theorem wlRX2_96 : Cond.methodLink RX2 96 yX2_middle ∈ TG := TG_of (by decide +kernel) rfl
theorem wIX2_middle : Cond.instanceMethod yX2_middle ∈ TG := TG_of (by decide +kernel) rfl
theorem wSX2_middle : Cond.selects RX2 yX2_middle yX2_middle ∈ TG := TG_of (by decide +kernel) rfl
theorem wcX2_filled : Cond.code yX2_filled cX2_filled 9 (some .int) ∈ TG := TG_of (by decide +kernel) rfl
theorem wlRX2_99 : Cond.methodLink RX2 99 yX2_filled ∈ TG := TG_of (by decide +kernel) rfl
theorem wIX2_filled : Cond.instanceMethod yX2_filled ∈ TG := TG_of (by decide +kernel) rfl
theorem wSX2_filled : Cond.selects RX2 yX2_filled yX2_filled ∈ TG := TG_of (by decide +kernel) rfl
theorem wcX2_mingled : Cond.code yX2_mingled cX2_mingled 7 (some .int) ∈ TG := TG_of (by decide +kernel) rfl
theorem wlRX2_103 : Cond.methodLink RX2 103 yX2_mingled ∈ TG := TG_of (by decide +kernel) rfl
theorem wIX2_mingled : Cond.instanceMethod yX2_mingled ∈ TG := TG_of (by decide +kernel) rfl
theorem wSX2_mingled : Cond.selects RX2 yX2_mingled yX2_mingled ∈ TG := TG_of (by decide +kernel) rfl
theorem wcX2_bent : Cond.code yX2_bent cX2_bent 4 (some .int) ∈ TG := TG_of (by decide +kernel) rfl
theorem wlRX2_107 : Cond.methodLink RX2 107 yX2_bent ∈ TG := TG_of (by decide +kernel) rfl
theorem wTX2_bent : Cond.static yX2_bent ∈ TG := TG_of (by decide +kernel) rfl
theorem wcX2_sumOf : Cond.code yX2_sumOf cX2_sumOf 9 (some .int) ∈ TG := TG_of (by decide +kernel) rfl
theorem wlRX2_111 : Cond.methodLink RX2 111 yX2_sumOf ∈ TG := TG_of (by decide +kernel) rfl
theorem wIX2_sumOf : Cond.instanceMethod yX2_sumOf ∈ TG := TG_of (by decide +kernel) rfl
theorem wSX2_sumOf : Cond.selects RX2 yX2_sumOf yX2_sumOf ∈ TG := TG_of (by decide +kernel) rfl
theorem wfRX2_115 : Cond.fieldLink RX2 115 "PicturePath$Cells" "deadOnes" "[Z" ∈ TG := TG_of (by decide +kernel) rfl
theorem wzRX0 : Cond.initialized RX0 ∈ TG := TG_of (by decide +kernel) rfl
theorem wcX0_hasPlace : Cond.code yX0_hasPlace cX0_hasPlace 3 (some .boolean) ∈ TG := TG_of (by decide +kernel) rfl
theorem wlRX2_125 : Cond.methodLink RX2 125 yX0_hasPlace ∈ TG := TG_of (by decide +kernel) rfl
theorem wIX0_hasPlace : Cond.instanceMethod yX0_hasPlace ∈ TG := TG_of (by decide +kernel) rfl
theorem wSX0_hasPlace : Cond.selects RX0 yX0_hasPlace yX0_hasPlace ∈ TG := TG_of (by decide +kernel) rfl
theorem wcX2_putFiveInOrder : Cond.code yX2_putFiveInOrder cX2_putFiveInOrder 4 none ∈ TG := TG_of (by decide +kernel) rfl
theorem wlRX2_129 : Cond.methodLink RX2 129 yX2_putFiveInOrder ∈ TG := TG_of (by decide +kernel) rfl
theorem wIX2_putFiveInOrder : Cond.instanceMethod yX2_putFiveInOrder ∈ TG := TG_of (by decide +kernel) rfl
theorem wSX2_putFiveInOrder : Cond.selects RX2 yX2_putFiveInOrder yX2_putFiveInOrder ∈ TG := TG_of (by decide +kernel) rfl
theorem wcJ9_floorDiv_7cf53 : Cond.code yJ9_floorDiv_7cf53 cJ9_floorDiv_7cf53 3 (some .int) ∈ TG := TG_of (by decide +kernel) rfl
theorem wlRX2_132 : Cond.methodLink RX2 132 yJ9_floorDiv_7cf53 ∈ TG := TG_of (by decide +kernel) rfl
theorem wTJ9_floorDiv_7cf53 : Cond.static yJ9_floorDiv_7cf53 ∈ TG := TG_of (by decide +kernel) rfl
theorem woRX3_3 : Cond.methodLink RX3 3 objectInit ∈ TG := TG_of (by decide +kernel) rfl
theorem wfRX3_9 : Cond.fieldLink RX3 9 "PicturePath$Steps" "kinds" "[I" ∈ TG := TG_of (by decide +kernel) rfl
theorem wmRX3_15 : Cond.classLink RX3 15 "[[I" ∈ TG := TG_of (by decide +kernel) rfl
theorem wfRX3_17 : Cond.fieldLink RX3 17 "PicturePath$Steps" "told" "[[I" ∈ TG := TG_of (by decide +kernel) rfl
theorem wfRX3_20 : Cond.fieldLink RX3 20 "PicturePath$Steps" "facts" "[[I" ∈ TG := TG_of (by decide +kernel) rfl
theorem wfRX3_23 : Cond.fieldLink RX3 23 "PicturePath$Steps" "length" "I" ∈ TG := TG_of (by decide +kernel) rfl
theorem waRX3_30 : Cond.methodLink RX3 30 arraycopyName ∈ TG := TG_of (by decide +kernel) rfl
theorem wzRX3 : Cond.initialized RX3 ∈ TG := TG_of (by decide +kernel) rfl
theorem wcX3_lagOf : Cond.code yX3_lagOf cX3_lagOf 2 (some .int) ∈ TG := TG_of (by decide +kernel) rfl
theorem wlRX3_36 : Cond.methodLink RX3 36 yX3_lagOf ∈ TG := TG_of (by decide +kernel) rfl
theorem wTX3_lagOf : Cond.static yX3_lagOf ∈ TG := TG_of (by decide +kernel) rfl
theorem wcX4_isWithin : Cond.code yX4_isWithin cX4_isWithin 3 (some .boolean) ∈ TG := TG_of (by decide +kernel) rfl
theorem wTX4_isWithin : Cond.static yX4_isWithin ∈ TG := TG_of (by decide +kernel) rfl
theorem woRX4_3 : Cond.methodLink RX4 3 objectInit ∈ TG := TG_of (by decide +kernel) rfl
theorem wnRX4_9 : Cond.classLink RX4 9 RX0 ∈ TG := TG_of (by decide +kernel) rfl
theorem wiRX0 : Cond.instantiable RX0 4 ∈ TG := TG_of (by decide +kernel) rfl
theorem wcX0_init : Cond.code yX0_init cX0_init 1 none ∈ TG := TG_of (by decide +kernel) rfl
theorem wIX0_init : Cond.instanceMethod yX0_init ∈ TG := TG_of (by decide +kernel) rfl
theorem wfRX4_12 : Cond.fieldLink RX4 12 "PicturePath" "cells" "LPicturePath$Cells;" ∈ TG := TG_of (by decide +kernel) rfl
theorem wnRX4_16 : Cond.classLink RX4 16 RX3 ∈ TG := TG_of (by decide +kernel) rfl
theorem wiRX3 : Cond.instantiable RX3 4 ∈ TG := TG_of (by decide +kernel) rfl
theorem wcX3_init : Cond.code yX3_init cX3_init 1 none ∈ TG := TG_of (by decide +kernel) rfl
theorem wIX3_init : Cond.instanceMethod yX3_init ∈ TG := TG_of (by decide +kernel) rfl
theorem wfRX4_19 : Cond.fieldLink RX4 19 "PicturePath" "steps" "LPicturePath$Steps;" ∈ TG := TG_of (by decide +kernel) rfl
theorem wnRX4_23 : Cond.classLink RX4 23 RX1 ∈ TG := TG_of (by decide +kernel) rfl
theorem wiRX1 : Cond.instantiable RX1 2 ∈ TG := TG_of (by decide +kernel) rfl
theorem wcX1_init : Cond.code yX1_init cX1_init 1 none ∈ TG := TG_of (by decide +kernel) rfl
theorem wIX1_init : Cond.instanceMethod yX1_init ∈ TG := TG_of (by decide +kernel) rfl
theorem wfRX4_26 : Cond.fieldLink RX4 26 "PicturePath" "demand" "LPicturePath$Demand;" ∈ TG := TG_of (by decide +kernel) rfl
theorem wnRX4_30 : Cond.classLink RX4 30 RX2 ∈ TG := TG_of (by decide +kernel) rfl
theorem wiRX2 : Cond.instantiable RX2 3 ∈ TG := TG_of (by decide +kernel) rfl
theorem wcX2_init : Cond.code yX2_init cX2_init 1 none ∈ TG := TG_of (by decide +kernel) rfl
theorem wIX2_init : Cond.instanceMethod yX2_init ∈ TG := TG_of (by decide +kernel) rfl
theorem wfRX4_33 : Cond.fieldLink RX4 33 "PicturePath" "maker" "LPicturePath$Maker;" ∈ TG := TG_of (by decide +kernel) rfl
theorem wgRX4_37 : Cond.fieldLink RX4 37 RX4 "FIRST_MATRIX" "[I" ∈ TG := TG_of (by decide +kernel) rfl
theorem wfRX4_46 : Cond.fieldLink RX4 46 "PicturePath" "matrixAtHand" "[I" ∈ TG := TG_of (by decide +kernel) rfl
theorem wfRX4_49 : Cond.fieldLink RX4 49 "PicturePath" "curveAtHand" "[I" ∈ TG := TG_of (by decide +kernel) rfl
theorem wcX0_renew : Cond.code yX0_renew cX0_renew 4 none ∈ TG := TG_of (by decide +kernel) rfl
theorem wlRX4_52 : Cond.methodLink RX4 52 yX0_renew ∈ TG := TG_of (by decide +kernel) rfl
theorem wIX0_renew : Cond.instanceMethod yX0_renew ∈ TG := TG_of (by decide +kernel) rfl
theorem wSX0_renew : Cond.selects RX0 yX0_renew yX0_renew ∈ TG := TG_of (by decide +kernel) rfl
theorem wcX3_restart : Cond.code yX3_restart cX3_restart 3 none ∈ TG := TG_of (by decide +kernel) rfl
theorem wlRX4_56 : Cond.methodLink RX4 56 yX3_restart ∈ TG := TG_of (by decide +kernel) rfl
theorem wIX3_restart : Cond.instanceMethod yX3_restart ∈ TG := TG_of (by decide +kernel) rfl
theorem wSX3_restart : Cond.selects RX3 yX3_restart yX3_restart ∈ TG := TG_of (by decide +kernel) rfl
theorem wlRX4_59 : Cond.methodLink RX4 59 yJ9_min_7cf53 ∈ TG := TG_of (by decide +kernel) rfl
theorem wlRX4_65 : Cond.methodLink RX4 65 yX4_isWithin ∈ TG := TG_of (by decide +kernel) rfl
theorem wlRX4_69 : Cond.methodLink RX4 69 yX0_hasPlace ∈ TG := TG_of (by decide +kernel) rfl
theorem wlRX4_73 : Cond.methodLink RX4 73 yX4_placeOf ∈ TG := TG_of (by decide +kernel) rfl
theorem wfRX4_76 : Cond.fieldLink RX4 76 "PicturePath$Cells" "numbers" "[I" ∈ TG := TG_of (by decide +kernel) rfl
theorem wfRX4_79 : Cond.fieldLink RX4 79 "PicturePath$Cells" "deadOnes" "[Z" ∈ TG := TG_of (by decide +kernel) rfl
theorem wcX4_addStep : Cond.code yX4_addStep cX4_addStep 3 (some .int) ∈ TG := TG_of (by decide +kernel) rfl
theorem wlRX4_83 : Cond.methodLink RX4 83 yX4_addStep ∈ TG := TG_of (by decide +kernel) rfl
theorem wIX4_addStep : Cond.instanceMethod yX4_addStep ∈ TG := TG_of (by decide +kernel) rfl
theorem wSX4_addStep : Cond.selects RX4 yX4_addStep yX4_addStep ∈ TG := TG_of (by decide +kernel) rfl
theorem wgRX4_87 : Cond.fieldLink RX4 87 RX4 "NO_NUMBERS" "[I" ∈ TG := TG_of (by decide +kernel) rfl
theorem wfRX4_90 : Cond.fieldLink RX4 90 "PicturePath$Steps" "length" "I" ∈ TG := TG_of (by decide +kernel) rfl
theorem wfRX4_94 : Cond.fieldLink RX4 94 "PicturePath$Steps" "kinds" "[I" ∈ TG := TG_of (by decide +kernel) rfl
theorem wcX3_hasStage : Cond.code yX3_hasStage cX3_hasStage 2 (some .boolean) ∈ TG := TG_of (by decide +kernel) rfl
theorem wlRX4_97 : Cond.methodLink RX4 97 yX3_hasStage ∈ TG := TG_of (by decide +kernel) rfl
theorem wIX3_hasStage : Cond.instanceMethod yX3_hasStage ∈ TG := TG_of (by decide +kernel) rfl
theorem wSX3_hasStage : Cond.selects RX3 yX3_hasStage yX3_hasStage ∈ TG := TG_of (by decide +kernel) rfl
theorem wfRX4_101 : Cond.fieldLink RX4 101 "PicturePath$Steps" "facts" "[[I" ∈ TG := TG_of (by decide +kernel) rfl
theorem wcX3_holdsPart : Cond.code yX3_holdsPart cX3_holdsPart 6 (some .boolean) ∈ TG := TG_of (by decide +kernel) rfl
theorem wlRX4_105 : Cond.methodLink RX4 105 yX3_holdsPart ∈ TG := TG_of (by decide +kernel) rfl
theorem wIX3_holdsPart : Cond.instanceMethod yX3_holdsPart ∈ TG := TG_of (by decide +kernel) rfl
theorem wSX3_holdsPart : Cond.selects RX3 yX3_holdsPart yX3_holdsPart ∈ TG := TG_of (by decide +kernel) rfl
theorem wcX3_hasPlane : Cond.code yX3_hasPlane cX3_hasPlane 3 (some .boolean) ∈ TG := TG_of (by decide +kernel) rfl
theorem wlRX4_109 : Cond.methodLink RX4 109 yX3_hasPlane ∈ TG := TG_of (by decide +kernel) rfl
theorem wIX3_hasPlane : Cond.instanceMethod yX3_hasPlane ∈ TG := TG_of (by decide +kernel) rfl
theorem wSX3_hasPlane : Cond.selects RX3 yX3_hasPlane yX3_hasPlane ∈ TG := TG_of (by decide +kernel) rfl
theorem wcX1_begin : Cond.code yX1_begin cX1_begin 2 none ∈ TG := TG_of (by decide +kernel) rfl
theorem wlRX4_112 : Cond.methodLink RX4 112 yX1_begin ∈ TG := TG_of (by decide +kernel) rfl
theorem wIX1_begin : Cond.instanceMethod yX1_begin ∈ TG := TG_of (by decide +kernel) rfl
theorem wSX1_begin : Cond.selects RX1 yX1_begin yX1_begin ∈ TG := TG_of (by decide +kernel) rfl
theorem wcX1_askFor : Cond.code yX1_askFor cX1_askFor 8 none ∈ TG := TG_of (by decide +kernel) rfl
theorem wlRX4_116 : Cond.methodLink RX4 116 yX1_askFor ∈ TG := TG_of (by decide +kernel) rfl
theorem wIX1_askFor : Cond.instanceMethod yX1_askFor ∈ TG := TG_of (by decide +kernel) rfl
theorem wSX1_askFor : Cond.selects RX1 yX1_askFor yX1_askFor ∈ TG := TG_of (by decide +kernel) rfl
theorem wcX2_make : Cond.code yX2_make cX2_make 6 none ∈ TG := TG_of (by decide +kernel) rfl
theorem wlRX4_120 : Cond.methodLink RX4 120 yX2_make ∈ TG := TG_of (by decide +kernel) rfl
theorem wIX2_make : Cond.instanceMethod yX2_make ∈ TG := TG_of (by decide +kernel) rfl
theorem wSX2_make : Cond.selects RX2 yX2_make yX2_make ∈ TG := TG_of (by decide +kernel) rfl
theorem wlRX4_124 : Cond.methodLink RX4 124 yX2_made ∈ TG := TG_of (by decide +kernel) rfl
theorem wlRX4_128 : Cond.methodLink RX4 128 yX2_sumOf ∈ TG := TG_of (by decide +kernel) rfl
theorem wlRX4_132 : Cond.methodLink RX4 132 yX1_traceBack ∈ TG := TG_of (by decide +kernel) rfl
theorem wcX1_cellsAsked : Cond.code yX1_cellsAsked cX1_cellsAsked 3 (some .int) ∈ TG := TG_of (by decide +kernel) rfl
theorem wlRX4_136 : Cond.methodLink RX4 136 yX1_cellsAsked ∈ TG := TG_of (by decide +kernel) rfl
theorem wIX1_cellsAsked : Cond.instanceMethod yX1_cellsAsked ∈ TG := TG_of (by decide +kernel) rfl
theorem wSX1_cellsAsked : Cond.selects RX1 yX1_cellsAsked yX1_cellsAsked ∈ TG := TG_of (by decide +kernel) rfl
theorem wlRX4_140 : Cond.methodLink RX4 140 yX1_isAsked ∈ TG := TG_of (by decide +kernel) rfl
theorem wcX2_leastOf : Cond.code yX2_leastOf cX2_leastOf 7 (some .int) ∈ TG := TG_of (by decide +kernel) rfl
theorem wlRX4_144 : Cond.methodLink RX4 144 yX2_leastOf ∈ TG := TG_of (by decide +kernel) rfl
theorem wIX2_leastOf : Cond.instanceMethod yX2_leastOf ∈ TG := TG_of (by decide +kernel) rfl
theorem wSX2_leastOf : Cond.selects RX2 yX2_leastOf yX2_leastOf ∈ TG := TG_of (by decide +kernel) rfl
theorem wcX2_greatestOf : Cond.code yX2_greatestOf cX2_greatestOf 7 (some .int) ∈ TG := TG_of (by decide +kernel) rfl
theorem wlRX4_147 : Cond.methodLink RX4 147 yX2_greatestOf ∈ TG := TG_of (by decide +kernel) rfl
theorem wIX2_greatestOf : Cond.instanceMethod yX2_greatestOf ∈ TG := TG_of (by decide +kernel) rfl
theorem wSX2_greatestOf : Cond.selects RX2 yX2_greatestOf yX2_greatestOf ∈ TG := TG_of (by decide +kernel) rfl
theorem wfRX4_150 : Cond.fieldLink RX4 150 "PicturePath$Cells" "width" "I" ∈ TG := TG_of (by decide +kernel) rfl
theorem wfRX4_153 : Cond.fieldLink RX4 153 "PicturePath$Cells" "height" "I" ∈ TG := TG_of (by decide +kernel) rfl
theorem wcX0_howManyDead : Cond.code yX0_howManyDead cX0_howManyDead 3 (some .int) ∈ TG := TG_of (by decide +kernel) rfl
theorem wlRX4_156 : Cond.methodLink RX4 156 yX0_howManyDead ∈ TG := TG_of (by decide +kernel) rfl
theorem wIX0_howManyDead : Cond.instanceMethod yX0_howManyDead ∈ TG := TG_of (by decide +kernel) rfl
theorem wSX0_howManyDead : Cond.selects RX0 yX0_howManyDead yX0_howManyDead ∈ TG := TG_of (by decide +kernel) rfl
theorem wcX4_mixed : Cond.code yX4_mixed cX4_mixed 4 (some .long) ∈ TG := TG_of (by decide +kernel) rfl
theorem wlRX4_161 : Cond.methodLink RX4 161 yX4_mixed ∈ TG := TG_of (by decide +kernel) rfl
theorem wTX4_mixed : Cond.static yX4_mixed ∈ TG := TG_of (by decide +kernel) rfl
theorem wcX4_mixedCells : Cond.code yX4_mixedCells cX4_mixedCells 8 (some .long) ∈ TG := TG_of (by decide +kernel) rfl
theorem wlRX4_165 : Cond.methodLink RX4 165 yX4_mixedCells ∈ TG := TG_of (by decide +kernel) rfl
theorem wIX4_mixedCells : Cond.instanceMethod yX4_mixedCells ∈ TG := TG_of (by decide +kernel) rfl
theorem wSX4_mixedCells : Cond.selects RX4 yX4_mixedCells yX4_mixedCells ∈ TG := TG_of (by decide +kernel) rfl
theorem wcX4_mixedSteps : Cond.code yX4_mixedSteps cX4_mixedSteps 7 (some .long) ∈ TG := TG_of (by decide +kernel) rfl
theorem wlRX4_169 : Cond.methodLink RX4 169 yX4_mixedSteps ∈ TG := TG_of (by decide +kernel) rfl
theorem wIX4_mixedSteps : Cond.instanceMethod yX4_mixedSteps ∈ TG := TG_of (by decide +kernel) rfl
theorem wSX4_mixedSteps : Cond.selects RX4 yX4_mixedSteps yX4_mixedSteps ∈ TG := TG_of (by decide +kernel) rfl
theorem wcX4_mixedRow : Cond.code yX4_mixedRow cX4_mixedRow 7 (some .long) ∈ TG := TG_of (by decide +kernel) rfl
theorem wlRX4_172 : Cond.methodLink RX4 172 yX4_mixedRow ∈ TG := TG_of (by decide +kernel) rfl
theorem wTX4_mixedRow : Cond.static yX4_mixedRow ∈ TG := TG_of (by decide +kernel) rfl
theorem wcX4_mixedPicture : Cond.code yX4_mixedPicture cX4_mixedPicture 9 (some .long) ∈ TG := TG_of (by decide +kernel) rfl
theorem wlRX4_176 : Cond.methodLink RX4 176 yX4_mixedPicture ∈ TG := TG_of (by decide +kernel) rfl
theorem wIX4_mixedPicture : Cond.instanceMethod yX4_mixedPicture ∈ TG := TG_of (by decide +kernel) rfl
theorem wSX4_mixedPicture : Cond.selects RX4 yX4_mixedPicture yX4_mixedPicture ∈ TG := TG_of (by decide +kernel) rfl
theorem wcX3_mayTake : Cond.code yX3_mayTake cX3_mayTake 4 (some .boolean) ∈ TG := TG_of (by decide +kernel) rfl
theorem wlRX4_179 : Cond.methodLink RX4 179 yX3_mayTake ∈ TG := TG_of (by decide +kernel) rfl
theorem wIX3_mayTake : Cond.instanceMethod yX3_mayTake ∈ TG := TG_of (by decide +kernel) rfl
theorem wSX3_mayTake : Cond.selects RX3 yX3_mayTake yX3_mayTake ∈ TG := TG_of (by decide +kernel) rfl
theorem wcX3_append : Cond.code yX3_append cX3_append 6 none ∈ TG := TG_of (by decide +kernel) rfl
theorem wlRX4_182 : Cond.methodLink RX4 182 yX3_append ∈ TG := TG_of (by decide +kernel) rfl
theorem wIX3_append : Cond.instanceMethod yX3_append ∈ TG := TG_of (by decide +kernel) rfl
theorem wSX3_append : Cond.selects RX3 yX3_append yX3_append ∈ TG := TG_of (by decide +kernel) rfl
theorem wfRX4_186 : Cond.fieldLink RX4 186 "PicturePath$Steps" "told" "[[I" ∈ TG := TG_of (by decide +kernel) rfl
theorem wgRX4_189 : Cond.fieldLink RX4 189 RX4 "NUMBERS_OF_KIND" "[I" ∈ TG := TG_of (by decide +kernel) rfl
theorem woRX5_1 : Cond.methodLink RX5 1 objectInit ∈ TG := TG_of (by decide +kernel) rfl
theorem wfRX5_7 : Cond.fieldLink RX5 7 "PicturePathModel" "width" "I" ∈ TG := TG_of (by decide +kernel) rfl
theorem wfRX5_13 : Cond.fieldLink RX5 13 "PicturePathModel" "height" "I" ∈ TG := TG_of (by decide +kernel) rfl
theorem wfRX5_16 : Cond.fieldLink RX5 16 "PicturePathModel" "cells" "[I" ∈ TG := TG_of (by decide +kernel) rfl
theorem wfRX5_20 : Cond.fieldLink RX5 20 "PicturePathModel" "isDead" "[Z" ∈ TG := TG_of (by decide +kernel) rfl
theorem wfRX5_24 : Cond.fieldLink RX5 24 "PicturePathModel" "kinds" "[I" ∈ TG := TG_of (by decide +kernel) rfl
theorem wfRX5_27 : Cond.fieldLink RX5 27 "PicturePathModel" "numbers" "[I" ∈ TG := TG_of (by decide +kernel) rfl
theorem wfRX5_30 : Cond.fieldLink RX5 30 "PicturePathModel" "entries" "[I" ∈ TG := TG_of (by decide +kernel) rfl
theorem wfRX5_33 : Cond.fieldLink RX5 33 "PicturePathModel" "points" "[I" ∈ TG := TG_of (by decide +kernel) rfl
theorem wfRX5_36 : Cond.fieldLink RX5 36 "PicturePathModel" "wide" "[I" ∈ TG := TG_of (by decide +kernel) rfl
theorem wfRX5_39 : Cond.fieldLink RX5 39 "PicturePathModel" "high" "[I" ∈ TG := TG_of (by decide +kernel) rfl
theorem wfRX5_42 : Cond.fieldLink RX5 42 "PicturePathModel" "planes" "[I" ∈ TG := TG_of (by decide +kernel) rfl
theorem wfRX5_45 : Cond.fieldLink RX5 45 "PicturePathModel" "lags" "[I" ∈ TG := TG_of (by decide +kernel) rfl
theorem wfRX5_48 : Cond.fieldLink RX5 48 "PicturePathModel" "scales" "[I" ∈ TG := TG_of (by decide +kernel) rfl
theorem wfRX5_51 : Cond.fieldLink RX5 51 "PicturePathModel" "picture" "[I" ∈ TG := TG_of (by decide +kernel) rfl
theorem wfRX5_54 : Cond.fieldLink RX5 54 "PicturePathModel" "counted" "[Z" ∈ TG := TG_of (by decide +kernel) rfl
theorem wfRX5_57 : Cond.fieldLink RX5 57 "PicturePathModel" "five" "[I" ∈ TG := TG_of (by decide +kernel) rfl
theorem wzRX5 : Cond.initialized RX5 ∈ TG := TG_of (by decide +kernel) rfl
theorem wcX5_in : Cond.code yX5_in cX5_in 3 (some .boolean) ∈ TG := TG_of (by decide +kernel) rfl
theorem wlRX5_60 : Cond.methodLink RX5 60 yX5_in ∈ TG := TG_of (by decide +kernel) rfl
theorem wTX5_in : Cond.static yX5_in ∈ TG := TG_of (by decide +kernel) rfl
theorem wfRX5_64 : Cond.fieldLink RX5 64 "PicturePathModel" "steps" "I" ∈ TG := TG_of (by decide +kernel) rfl
theorem wcX5_isCell : Cond.code yX5_isCell cX5_isCell 3 (some .boolean) ∈ TG := TG_of (by decide +kernel) rfl
theorem wlRX5_67 : Cond.methodLink RX5 67 yX5_isCell ∈ TG := TG_of (by decide +kernel) rfl
theorem wIX5_isCell : Cond.instanceMethod yX5_isCell ∈ TG := TG_of (by decide +kernel) rfl
theorem wSX5_isCell : Cond.selects RX5 yX5_isCell yX5_isCell ∈ TG := TG_of (by decide +kernel) rfl
theorem wcX5_measure : Cond.code yX5_measure cX5_measure 4 none ∈ TG := TG_of (by decide +kernel) rfl
theorem wlRX5_71 : Cond.methodLink RX5 71 yX5_measure ∈ TG := TG_of (by decide +kernel) rfl
theorem wIX5_measure : Cond.instanceMethod yX5_measure ∈ TG := TG_of (by decide +kernel) rfl
theorem wSX5_measure : Cond.selects RX5 yX5_measure yX5_measure ∈ TG := TG_of (by decide +kernel) rfl
theorem wcX5_hasColours : Cond.code yX5_hasColours cX5_hasColours 3 (some .boolean) ∈ TG := TG_of (by decide +kernel) rfl
theorem wlRX5_74 : Cond.methodLink RX5 74 yX5_hasColours ∈ TG := TG_of (by decide +kernel) rfl
theorem wIX5_hasColours : Cond.instanceMethod yX5_hasColours ∈ TG := TG_of (by decide +kernel) rfl
theorem wSX5_hasColours : Cond.selects RX5 yX5_hasColours yX5_hasColours ∈ TG := TG_of (by decide +kernel) rfl
theorem wcX5_barred : Cond.code yX5_barred cX5_barred 3 (some .int) ∈ TG := TG_of (by decide +kernel) rfl
theorem wlRX5_78 : Cond.methodLink RX5 78 yX5_barred ∈ TG := TG_of (by decide +kernel) rfl
theorem wIX5_barred : Cond.instanceMethod yX5_barred ∈ TG := TG_of (by decide +kernel) rfl
theorem wSX5_barred : Cond.selects RX5 yX5_barred yX5_barred ∈ TG := TG_of (by decide +kernel) rfl
theorem wcX5_come : Cond.code yX5_come cX5_come 2 (some .int) ∈ TG := TG_of (by decide +kernel) rfl
theorem wlRX5_82 : Cond.methodLink RX5 82 yX5_come ∈ TG := TG_of (by decide +kernel) rfl
theorem wIX5_come : Cond.instanceMethod yX5_come ∈ TG := TG_of (by decide +kernel) rfl
theorem wSX5_come : Cond.selects RX5 yX5_come yX5_come ∈ TG := TG_of (by decide +kernel) rfl
theorem wcX5_place : Cond.code yX5_place cX5_place 4 (some .int) ∈ TG := TG_of (by decide +kernel) rfl
theorem wlRX5_85 : Cond.methodLink RX5 85 yX5_place ∈ TG := TG_of (by decide +kernel) rfl
theorem wTX5_place : Cond.static yX5_place ∈ TG := TG_of (by decide +kernel) rfl
theorem wcX5_overX : Cond.code yX5_overX cX5_overX 1 (some .int) ∈ TG := TG_of (by decide +kernel) rfl
theorem wlRX5_89 : Cond.methodLink RX5 89 yX5_overX ∈ TG := TG_of (by decide +kernel) rfl
theorem wTX5_overX : Cond.static yX5_overX ∈ TG := TG_of (by decide +kernel) rfl
theorem wcX5_overY : Cond.code yX5_overY cX5_overY 1 (some .int) ∈ TG := TG_of (by decide +kernel) rfl
theorem wlRX5_92 : Cond.methodLink RX5 92 yX5_overY ∈ TG := TG_of (by decide +kernel) rfl
theorem wTX5_overY : Cond.static yX5_overY ∈ TG := TG_of (by decide +kernel) rfl
theorem wcX5_isPlace : Cond.code yX5_isPlace cX5_isPlace 4 (some .boolean) ∈ TG := TG_of (by decide +kernel) rfl
theorem wlRX5_95 : Cond.methodLink RX5 95 yX5_isPlace ∈ TG := TG_of (by decide +kernel) rfl
theorem wIX5_isPlace : Cond.instanceMethod yX5_isPlace ∈ TG := TG_of (by decide +kernel) rfl
theorem wSX5_isPlace : Cond.selects RX5 yX5_isPlace yX5_isPlace ∈ TG := TG_of (by decide +kernel) rfl
theorem wcX5_colour : Cond.code yX5_colour cX5_colour 2 (some .int) ∈ TG := TG_of (by decide +kernel) rfl
theorem wlRX5_98 : Cond.methodLink RX5 98 yX5_colour ∈ TG := TG_of (by decide +kernel) rfl
theorem wTX5_colour : Cond.static yX5_colour ∈ TG := TG_of (by decide +kernel) rfl
theorem wcX5_mended : Cond.code yX5_mended cX5_mended 10 (some .int) ∈ TG := TG_of (by decide +kernel) rfl
theorem wlRX5_102 : Cond.methodLink RX5 102 yX5_mended ∈ TG := TG_of (by decide +kernel) rfl
theorem wIX5_mended : Cond.instanceMethod yX5_mended ∈ TG := TG_of (by decide +kernel) rfl
theorem wSX5_mended : Cond.selects RX5 yX5_mended yX5_mended ∈ TG := TG_of (by decide +kernel) rfl
theorem wcX5_middle : Cond.code yX5_middle cX5_middle 8 (some .int) ∈ TG := TG_of (by decide +kernel) rfl
theorem wlRX5_106 : Cond.methodLink RX5 106 yX5_middle ∈ TG := TG_of (by decide +kernel) rfl
theorem wIX5_middle : Cond.instanceMethod yX5_middle ∈ TG := TG_of (by decide +kernel) rfl
theorem wSX5_middle : Cond.selects RX5 yX5_middle yX5_middle ∈ TG := TG_of (by decide +kernel) rfl
theorem wcX5_coloured : Cond.code yX5_coloured cX5_coloured 9 (some .int) ∈ TG := TG_of (by decide +kernel) rfl
theorem wlRX5_109 : Cond.methodLink RX5 109 yX5_coloured ∈ TG := TG_of (by decide +kernel) rfl
theorem wIX5_coloured : Cond.instanceMethod yX5_coloured ∈ TG := TG_of (by decide +kernel) rfl
theorem wSX5_coloured : Cond.selects RX5 yX5_coloured yX5_coloured ∈ TG := TG_of (by decide +kernel) rfl
theorem wcX5_matrixed : Cond.code yX5_matrixed cX5_matrixed 7 (some .int) ∈ TG := TG_of (by decide +kernel) rfl
theorem wlRX5_112 : Cond.methodLink RX5 112 yX5_matrixed ∈ TG := TG_of (by decide +kernel) rfl
theorem wIX5_matrixed : Cond.instanceMethod yX5_matrixed ∈ TG := TG_of (by decide +kernel) rfl
theorem wSX5_matrixed : Cond.selects RX5 yX5_matrixed yX5_matrixed ∈ TG := TG_of (by decide +kernel) rfl
theorem wcX5_curved : Cond.code yX5_curved cX5_curved 5 (some .int) ∈ TG := TG_of (by decide +kernel) rfl
theorem wlRX5_115 : Cond.methodLink RX5 115 yX5_curved ∈ TG := TG_of (by decide +kernel) rfl
theorem wIX5_curved : Cond.instanceMethod yX5_curved ∈ TG := TG_of (by decide +kernel) rfl
theorem wSX5_curved : Cond.selects RX5 yX5_curved yX5_curved ∈ TG := TG_of (by decide +kernel) rfl
theorem wcX5_halved : Cond.code yX5_halved cX5_halved 7 (some .int) ∈ TG := TG_of (by decide +kernel) rfl
theorem wlRX5_118 : Cond.methodLink RX5 118 yX5_halved ∈ TG := TG_of (by decide +kernel) rfl
theorem wIX5_halved : Cond.instanceMethod yX5_halved ∈ TG := TG_of (by decide +kernel) rfl
theorem wSX5_halved : Cond.selects RX5 yX5_halved yX5_halved ∈ TG := TG_of (by decide +kernel) rfl
theorem wcX5_made : Cond.code yX5_made cX5_made 6 (some .int) ∈ TG := TG_of (by decide +kernel) rfl
theorem wlRX5_121 : Cond.methodLink RX5 121 yX5_made ∈ TG := TG_of (by decide +kernel) rfl
theorem wIX5_made : Cond.instanceMethod yX5_made ∈ TG := TG_of (by decide +kernel) rfl
theorem wSX5_made : Cond.selects RX5 yX5_made yX5_made ∈ TG := TG_of (by decide +kernel) rfl
theorem wcX5_make : Cond.code yX5_make cX5_make 7 none ∈ TG := TG_of (by decide +kernel) rfl
theorem wlRX5_124 : Cond.methodLink RX5 124 yX5_make ∈ TG := TG_of (by decide +kernel) rfl
theorem wIX5_make : Cond.instanceMethod yX5_make ∈ TG := TG_of (by decide +kernel) rfl
theorem wSX5_make : Cond.selects RX5 yX5_make yX5_make ∈ TG := TG_of (by decide +kernel) rfl
theorem wcX5_isPart : Cond.code yX5_isPart cX5_isPart 5 (some .boolean) ∈ TG := TG_of (by decide +kernel) rfl
theorem wlRX5_128 : Cond.methodLink RX5 128 yX5_isPart ∈ TG := TG_of (by decide +kernel) rfl
theorem wIX5_isPart : Cond.instanceMethod yX5_isPart ∈ TG := TG_of (by decide +kernel) rfl
theorem wSX5_isPart : Cond.selects RX5 yX5_isPart yX5_isPart ∈ TG := TG_of (by decide +kernel) rfl
theorem wcX5_touch : Cond.code yX5_touch cX5_touch 5 none ∈ TG := TG_of (by decide +kernel) rfl
theorem wlRX5_132 : Cond.methodLink RX5 132 yX5_touch ∈ TG := TG_of (by decide +kernel) rfl
theorem wIX5_touch : Cond.instanceMethod yX5_touch ∈ TG := TG_of (by decide +kernel) rfl
theorem wSX5_touch : Cond.selects RX5 yX5_touch yX5_touch ∈ TG := TG_of (by decide +kernel) rfl
theorem wcX5_countFor : Cond.code yX5_countFor cX5_countFor 8 none ∈ TG := TG_of (by decide +kernel) rfl
theorem wlRX5_136 : Cond.methodLink RX5 136 yX5_countFor ∈ TG := TG_of (by decide +kernel) rfl
theorem wIX5_countFor : Cond.instanceMethod yX5_countFor ∈ TG := TG_of (by decide +kernel) rfl
theorem wSX5_countFor : Cond.selects RX5 yX5_countFor yX5_countFor ∈ TG := TG_of (by decide +kernel) rfl
theorem wcX5_forget : Cond.code yX5_forget cX5_forget 2 none ∈ TG := TG_of (by decide +kernel) rfl
theorem wlRX5_139 : Cond.methodLink RX5 139 yX5_forget ∈ TG := TG_of (by decide +kernel) rfl
theorem wIX5_forget : Cond.instanceMethod yX5_forget ∈ TG := TG_of (by decide +kernel) rfl
theorem wSX5_forget : Cond.selects RX5 yX5_forget yX5_forget ∈ TG := TG_of (by decide +kernel) rfl
theorem wcX5_trace : Cond.code yX5_trace cX5_trace 5 none ∈ TG := TG_of (by decide +kernel) rfl
theorem wlRX5_142 : Cond.methodLink RX5 142 yX5_trace ∈ TG := TG_of (by decide +kernel) rfl
theorem wIX5_trace : Cond.instanceMethod yX5_trace ∈ TG := TG_of (by decide +kernel) rfl
theorem wSX5_trace : Cond.selects RX5 yX5_trace yX5_trace ∈ TG := TG_of (by decide +kernel) rfl
theorem wfRX5_147 : Cond.fieldLink RX5 147 "PicturePathModel" "h" "J" ∈ TG := TG_of (by decide +kernel) rfl
theorem wcX5_mix : Cond.code yX5_mix cX5_mix 3 none ∈ TG := TG_of (by decide +kernel) rfl
theorem wlRX5_153 : Cond.methodLink RX5 153 yX5_mix ∈ TG := TG_of (by decide +kernel) rfl
theorem wIX5_mix : Cond.instanceMethod yX5_mix ∈ TG := TG_of (by decide +kernel) rfl
theorem wSX5_mix : Cond.selects RX5 yX5_mix yX5_mix ∈ TG := TG_of (by decide +kernel) rfl
theorem wcX5_many : Cond.code yX5_many cX5_many 1 (some .int) ∈ TG := TG_of (by decide +kernel) rfl
theorem wlRX5_157 : Cond.methodLink RX5 157 yX5_many ∈ TG := TG_of (by decide +kernel) rfl
theorem wTX5_many : Cond.static yX5_many ∈ TG := TG_of (by decide +kernel) rfl
theorem wcX4_size : Cond.code yX4_size cX4_size 3 (some .int) ∈ TG := TG_of (by decide +kernel) rfl
theorem wlRL_13 : Cond.methodLink RL 13 yX4_size ∈ TG := TG_of (by decide +kernel) rfl
theorem wIX4_size : Cond.instanceMethod yX4_size ∈ TG := TG_of (by decide +kernel) rfl
theorem wSX4_size : Cond.selects RX4 yX4_size yX4_size ∈ TG := TG_of (by decide +kernel) rfl
theorem wcX5_size : Cond.code yX5_size cX5_size 4 (some .int) ∈ TG := TG_of (by decide +kernel) rfl
theorem wlRL_17 : Cond.methodLink RL 17 yX5_size ∈ TG := TG_of (by decide +kernel) rfl
theorem wIX5_size : Cond.instanceMethod yX5_size ∈ TG := TG_of (by decide +kernel) rfl
theorem wSX5_size : Cond.selects RX5 yX5_size yX5_size ∈ TG := TG_of (by decide +kernel) rfl
theorem wcX4_cell : Cond.code yX4_cell cX4_cell 6 (some .int) ∈ TG := TG_of (by decide +kernel) rfl
theorem wlRL_18 : Cond.methodLink RL 18 yX4_cell ∈ TG := TG_of (by decide +kernel) rfl
theorem wIX4_cell : Cond.instanceMethod yX4_cell ∈ TG := TG_of (by decide +kernel) rfl
theorem wSX4_cell : Cond.selects RX4 yX4_cell yX4_cell ∈ TG := TG_of (by decide +kernel) rfl
theorem wcX5_cell : Cond.code yX5_cell cX5_cell 5 (some .int) ∈ TG := TG_of (by decide +kernel) rfl
theorem wlRL_22 : Cond.methodLink RL 22 yX5_cell ∈ TG := TG_of (by decide +kernel) rfl
theorem wIX5_cell : Cond.instanceMethod yX5_cell ∈ TG := TG_of (by decide +kernel) rfl
theorem wSX5_cell : Cond.selects RX5 yX5_cell yX5_cell ∈ TG := TG_of (by decide +kernel) rfl
theorem wcX4_dead : Cond.code yX4_dead cX4_dead 6 (some .int) ∈ TG := TG_of (by decide +kernel) rfl
theorem wlRL_23 : Cond.methodLink RL 23 yX4_dead ∈ TG := TG_of (by decide +kernel) rfl
theorem wIX4_dead : Cond.instanceMethod yX4_dead ∈ TG := TG_of (by decide +kernel) rfl
theorem wSX4_dead : Cond.selects RX4 yX4_dead yX4_dead ∈ TG := TG_of (by decide +kernel) rfl
theorem wcX5_dead : Cond.code yX5_dead cX5_dead 5 (some .int) ∈ TG := TG_of (by decide +kernel) rfl
theorem wlRL_27 : Cond.methodLink RL 27 yX5_dead ∈ TG := TG_of (by decide +kernel) rfl
theorem wIX5_dead : Cond.instanceMethod yX5_dead ∈ TG := TG_of (by decide +kernel) rfl
theorem wSX5_dead : Cond.selects RX5 yX5_dead yX5_dead ∈ TG := TG_of (by decide +kernel) rfl
theorem wcX4_black : Cond.code yX4_black cX4_black 2 (some .int) ∈ TG := TG_of (by decide +kernel) rfl
theorem wlRL_28 : Cond.methodLink RL 28 yX4_black ∈ TG := TG_of (by decide +kernel) rfl
theorem wIX4_black : Cond.instanceMethod yX4_black ∈ TG := TG_of (by decide +kernel) rfl
theorem wSX4_black : Cond.selects RX4 yX4_black yX4_black ∈ TG := TG_of (by decide +kernel) rfl
theorem wcX5_black : Cond.code yX5_black cX5_black 3 (some .int) ∈ TG := TG_of (by decide +kernel) rfl
theorem wlRL_32 : Cond.methodLink RL 32 yX5_black ∈ TG := TG_of (by decide +kernel) rfl
theorem wIX5_black : Cond.instanceMethod yX5_black ∈ TG := TG_of (by decide +kernel) rfl
theorem wSX5_black : Cond.selects RX5 yX5_black yX5_black ∈ TG := TG_of (by decide +kernel) rfl
theorem wcX4_gain : Cond.code yX4_gain cX4_gain 4 (some .int) ∈ TG := TG_of (by decide +kernel) rfl
theorem wlRL_33 : Cond.methodLink RL 33 yX4_gain ∈ TG := TG_of (by decide +kernel) rfl
theorem wIX4_gain : Cond.instanceMethod yX4_gain ∈ TG := TG_of (by decide +kernel) rfl
theorem wSX4_gain : Cond.selects RX4 yX4_gain yX4_gain ∈ TG := TG_of (by decide +kernel) rfl
theorem wcX5_gain : Cond.code yX5_gain cX5_gain 5 (some .int) ∈ TG := TG_of (by decide +kernel) rfl
theorem wlRL_36 : Cond.methodLink RL 36 yX5_gain ∈ TG := TG_of (by decide +kernel) rfl
theorem wIX5_gain : Cond.instanceMethod yX5_gain ∈ TG := TG_of (by decide +kernel) rfl
theorem wSX5_gain : Cond.selects RX5 yX5_gain yX5_gain ∈ TG := TG_of (by decide +kernel) rfl
theorem wcX4_step : Cond.code yX4_step cX4_step 2 (some .int) ∈ TG := TG_of (by decide +kernel) rfl
theorem wlRL_37 : Cond.methodLink RL 37 yX4_step ∈ TG := TG_of (by decide +kernel) rfl
theorem wIX4_step : Cond.instanceMethod yX4_step ∈ TG := TG_of (by decide +kernel) rfl
theorem wSX4_step : Cond.selects RX4 yX4_step yX4_step ∈ TG := TG_of (by decide +kernel) rfl
theorem wcX5_step : Cond.code yX5_step cX5_step 3 (some .int) ∈ TG := TG_of (by decide +kernel) rfl
theorem wlRL_40 : Cond.methodLink RL 40 yX5_step ∈ TG := TG_of (by decide +kernel) rfl
theorem wIX5_step : Cond.instanceMethod yX5_step ∈ TG := TG_of (by decide +kernel) rfl
theorem wSX5_step : Cond.selects RX5 yX5_step yX5_step ∈ TG := TG_of (by decide +kernel) rfl
theorem wcX4_entry : Cond.code yX4_entry cX4_entry 4 (some .int) ∈ TG := TG_of (by decide +kernel) rfl
theorem wlRL_41 : Cond.methodLink RL 41 yX4_entry ∈ TG := TG_of (by decide +kernel) rfl
theorem wIX4_entry : Cond.instanceMethod yX4_entry ∈ TG := TG_of (by decide +kernel) rfl
theorem wSX4_entry : Cond.selects RX4 yX4_entry yX4_entry ∈ TG := TG_of (by decide +kernel) rfl
theorem wcX5_entry : Cond.code yX5_entry cX5_entry 4 (some .int) ∈ TG := TG_of (by decide +kernel) rfl
theorem wlRL_44 : Cond.methodLink RL 44 yX5_entry ∈ TG := TG_of (by decide +kernel) rfl
theorem wIX5_entry : Cond.instanceMethod yX5_entry ∈ TG := TG_of (by decide +kernel) rfl
theorem wSX5_entry : Cond.selects RX5 yX5_entry yX5_entry ∈ TG := TG_of (by decide +kernel) rfl
theorem wcX4_matrix : Cond.code yX4_matrix cX4_matrix 1 (some .int) ∈ TG := TG_of (by decide +kernel) rfl
theorem wlRL_45 : Cond.methodLink RL 45 yX4_matrix ∈ TG := TG_of (by decide +kernel) rfl
theorem wIX4_matrix : Cond.instanceMethod yX4_matrix ∈ TG := TG_of (by decide +kernel) rfl
theorem wSX4_matrix : Cond.selects RX4 yX4_matrix yX4_matrix ∈ TG := TG_of (by decide +kernel) rfl
theorem wcX5_matrix : Cond.code yX5_matrix cX5_matrix 3 (some .int) ∈ TG := TG_of (by decide +kernel) rfl
theorem wlRL_49 : Cond.methodLink RL 49 yX5_matrix ∈ TG := TG_of (by decide +kernel) rfl
theorem wIX5_matrix : Cond.instanceMethod yX5_matrix ∈ TG := TG_of (by decide +kernel) rfl
theorem wSX5_matrix : Cond.selects RX5 yX5_matrix yX5_matrix ∈ TG := TG_of (by decide +kernel) rfl
theorem wcX4_point : Cond.code yX4_point cX4_point 4 (some .int) ∈ TG := TG_of (by decide +kernel) rfl
theorem wlRL_50 : Cond.methodLink RL 50 yX4_point ∈ TG := TG_of (by decide +kernel) rfl
theorem wIX4_point : Cond.instanceMethod yX4_point ∈ TG := TG_of (by decide +kernel) rfl
theorem wSX4_point : Cond.selects RX4 yX4_point yX4_point ∈ TG := TG_of (by decide +kernel) rfl
theorem wcX5_point : Cond.code yX5_point cX5_point 4 (some .int) ∈ TG := TG_of (by decide +kernel) rfl
theorem wlRL_53 : Cond.methodLink RL 53 yX5_point ∈ TG := TG_of (by decide +kernel) rfl
theorem wIX5_point : Cond.instanceMethod yX5_point ∈ TG := TG_of (by decide +kernel) rfl
theorem wSX5_point : Cond.selects RX5 yX5_point yX5_point ∈ TG := TG_of (by decide +kernel) rfl
theorem wcX4_curve : Cond.code yX4_curve cX4_curve 2 (some .int) ∈ TG := TG_of (by decide +kernel) rfl
theorem wlRL_54 : Cond.methodLink RL 54 yX4_curve ∈ TG := TG_of (by decide +kernel) rfl
theorem wIX4_curve : Cond.instanceMethod yX4_curve ∈ TG := TG_of (by decide +kernel) rfl
theorem wSX4_curve : Cond.selects RX4 yX4_curve yX4_curve ∈ TG := TG_of (by decide +kernel) rfl
theorem wcX5_curve : Cond.code yX5_curve cX5_curve 3 (some .int) ∈ TG := TG_of (by decide +kernel) rfl
theorem wlRL_57 : Cond.methodLink RL 57 yX5_curve ∈ TG := TG_of (by decide +kernel) rfl
theorem wIX5_curve : Cond.instanceMethod yX5_curve ∈ TG := TG_of (by decide +kernel) rfl
theorem wSX5_curve : Cond.selects RX5 yX5_curve yX5_curve ∈ TG := TG_of (by decide +kernel) rfl
theorem wcX4_undo : Cond.code yX4_undo cX4_undo 1 (some .int) ∈ TG := TG_of (by decide +kernel) rfl
theorem wlRL_58 : Cond.methodLink RL 58 yX4_undo ∈ TG := TG_of (by decide +kernel) rfl
theorem wIX4_undo : Cond.instanceMethod yX4_undo ∈ TG := TG_of (by decide +kernel) rfl
theorem wSX4_undo : Cond.selects RX4 yX4_undo yX4_undo ∈ TG := TG_of (by decide +kernel) rfl
theorem wcX5_undo : Cond.code yX5_undo cX5_undo 1 (some .int) ∈ TG := TG_of (by decide +kernel) rfl
theorem wlRL_61 : Cond.methodLink RL 61 yX5_undo ∈ TG := TG_of (by decide +kernel) rfl
theorem wIX5_undo : Cond.instanceMethod yX5_undo ∈ TG := TG_of (by decide +kernel) rfl
theorem wSX5_undo : Cond.selects RX5 yX5_undo yX5_undo ∈ TG := TG_of (by decide +kernel) rfl
theorem wcX4_kind : Cond.code yX4_kind cX4_kind 2 (some .int) ∈ TG := TG_of (by decide +kernel) rfl
theorem wlRL_62 : Cond.methodLink RL 62 yX4_kind ∈ TG := TG_of (by decide +kernel) rfl
theorem wIX4_kind : Cond.instanceMethod yX4_kind ∈ TG := TG_of (by decide +kernel) rfl
theorem wSX4_kind : Cond.selects RX4 yX4_kind yX4_kind ∈ TG := TG_of (by decide +kernel) rfl
theorem wcX5_kind : Cond.code yX5_kind cX5_kind 2 (some .int) ∈ TG := TG_of (by decide +kernel) rfl
theorem wlRL_65 : Cond.methodLink RL 65 yX5_kind ∈ TG := TG_of (by decide +kernel) rfl
theorem wIX5_kind : Cond.instanceMethod yX5_kind ∈ TG := TG_of (by decide +kernel) rfl
theorem wSX5_kind : Cond.selects RX5 yX5_kind yX5_kind ∈ TG := TG_of (by decide +kernel) rfl
theorem wcX4_stage : Cond.code yX4_stage cX4_stage 3 (some .int) ∈ TG := TG_of (by decide +kernel) rfl
theorem wlRL_66 : Cond.methodLink RL 66 yX4_stage ∈ TG := TG_of (by decide +kernel) rfl
theorem wIX4_stage : Cond.instanceMethod yX4_stage ∈ TG := TG_of (by decide +kernel) rfl
theorem wSX4_stage : Cond.selects RX4 yX4_stage yX4_stage ∈ TG := TG_of (by decide +kernel) rfl
theorem wcX5_stage : Cond.code yX5_stage cX5_stage 3 (some .int) ∈ TG := TG_of (by decide +kernel) rfl
theorem wlRL_69 : Cond.methodLink RL 69 yX5_stage ∈ TG := TG_of (by decide +kernel) rfl
theorem wIX5_stage : Cond.instanceMethod yX5_stage ∈ TG := TG_of (by decide +kernel) rfl
theorem wSX5_stage : Cond.selects RX5 yX5_stage yX5_stage ∈ TG := TG_of (by decide +kernel) rfl
theorem wcX4_at : Cond.code yX4_at cX4_at 5 (some .int) ∈ TG := TG_of (by decide +kernel) rfl
theorem wlRL_70 : Cond.methodLink RL 70 yX4_at ∈ TG := TG_of (by decide +kernel) rfl
theorem wIX4_at : Cond.instanceMethod yX4_at ∈ TG := TG_of (by decide +kernel) rfl
theorem wSX4_at : Cond.selects RX4 yX4_at yX4_at ∈ TG := TG_of (by decide +kernel) rfl
theorem wcX5_at : Cond.code yX5_at cX5_at 5 (some .int) ∈ TG := TG_of (by decide +kernel) rfl
theorem wlRL_74 : Cond.methodLink RL 74 yX5_at ∈ TG := TG_of (by decide +kernel) rfl
theorem wIX5_at : Cond.instanceMethod yX5_at ∈ TG := TG_of (by decide +kernel) rfl
theorem wSX5_at : Cond.selects RX5 yX5_at yX5_at ∈ TG := TG_of (by decide +kernel) rfl
theorem wcX4_part : Cond.code yX4_part cX4_part 7 (some .int) ∈ TG := TG_of (by decide +kernel) rfl
theorem wlRL_75 : Cond.methodLink RL 75 yX4_part ∈ TG := TG_of (by decide +kernel) rfl
theorem wIX4_part : Cond.instanceMethod yX4_part ∈ TG := TG_of (by decide +kernel) rfl
theorem wSX4_part : Cond.selects RX4 yX4_part yX4_part ∈ TG := TG_of (by decide +kernel) rfl
theorem wcX5_part : Cond.code yX5_part cX5_part 9 (some .int) ∈ TG := TG_of (by decide +kernel) rfl
theorem wlRL_79 : Cond.methodLink RL 79 yX5_part ∈ TG := TG_of (by decide +kernel) rfl
theorem wIX5_part : Cond.instanceMethod yX5_part ∈ TG := TG_of (by decide +kernel) rfl
theorem wSX5_part : Cond.selects RX5 yX5_part yX5_part ∈ TG := TG_of (by decide +kernel) rfl
theorem wcX4_needs : Cond.code yX4_needs cX4_needs 7 (some .int) ∈ TG := TG_of (by decide +kernel) rfl
theorem wlRL_80 : Cond.methodLink RL 80 yX4_needs ∈ TG := TG_of (by decide +kernel) rfl
theorem wIX4_needs : Cond.instanceMethod yX4_needs ∈ TG := TG_of (by decide +kernel) rfl
theorem wSX4_needs : Cond.selects RX4 yX4_needs yX4_needs ∈ TG := TG_of (by decide +kernel) rfl
theorem wcX5_needs : Cond.code yX5_needs cX5_needs 8 (some .int) ∈ TG := TG_of (by decide +kernel) rfl
theorem wlRL_83 : Cond.methodLink RL 83 yX5_needs ∈ TG := TG_of (by decide +kernel) rfl
theorem wIX5_needs : Cond.instanceMethod yX5_needs ∈ TG := TG_of (by decide +kernel) rfl
theorem wSX5_needs : Cond.selects RX5 yX5_needs yX5_needs ∈ TG := TG_of (by decide +kernel) rfl
theorem wcX4_counts : Cond.code yX4_counts cX4_counts 7 (some .int) ∈ TG := TG_of (by decide +kernel) rfl
theorem wlRL_84 : Cond.methodLink RL 84 yX4_counts ∈ TG := TG_of (by decide +kernel) rfl
theorem wIX4_counts : Cond.instanceMethod yX4_counts ∈ TG := TG_of (by decide +kernel) rfl
theorem wSX4_counts : Cond.selects RX4 yX4_counts yX4_counts ∈ TG := TG_of (by decide +kernel) rfl
theorem wcX5_counts : Cond.code yX5_counts cX5_counts 6 (some .int) ∈ TG := TG_of (by decide +kernel) rfl
theorem wlRL_87 : Cond.methodLink RL 87 yX5_counts ∈ TG := TG_of (by decide +kernel) rfl
theorem wIX5_counts : Cond.instanceMethod yX5_counts ∈ TG := TG_of (by decide +kernel) rfl
theorem wSX5_counts : Cond.selects RX5 yX5_counts yX5_counts ∈ TG := TG_of (by decide +kernel) rfl
theorem wcX4_bound : Cond.code yX4_bound cX4_bound 6 (some .int) ∈ TG := TG_of (by decide +kernel) rfl
theorem wlRL_88 : Cond.methodLink RL 88 yX4_bound ∈ TG := TG_of (by decide +kernel) rfl
theorem wIX4_bound : Cond.instanceMethod yX4_bound ∈ TG := TG_of (by decide +kernel) rfl
theorem wSX4_bound : Cond.selects RX4 yX4_bound yX4_bound ∈ TG := TG_of (by decide +kernel) rfl
theorem wcX5_bound : Cond.code yX5_bound cX5_bound 7 (some .int) ∈ TG := TG_of (by decide +kernel) rfl
theorem wlRL_91 : Cond.methodLink RL 91 yX5_bound ∈ TG := TG_of (by decide +kernel) rfl
theorem wIX5_bound : Cond.instanceMethod yX5_bound ∈ TG := TG_of (by decide +kernel) rfl
theorem wSX5_bound : Cond.selects RX5 yX5_bound yX5_bound ∈ TG := TG_of (by decide +kernel) rfl
theorem wcX4_count : Cond.code yX4_count cX4_count 2 (some .int) ∈ TG := TG_of (by decide +kernel) rfl
theorem wlRL_92 : Cond.methodLink RL 92 yX4_count ∈ TG := TG_of (by decide +kernel) rfl
theorem wIX4_count : Cond.instanceMethod yX4_count ∈ TG := TG_of (by decide +kernel) rfl
theorem wSX4_count : Cond.selects RX4 yX4_count yX4_count ∈ TG := TG_of (by decide +kernel) rfl
theorem wcX5_count : Cond.code yX5_count cX5_count 4 (some .int) ∈ TG := TG_of (by decide +kernel) rfl
theorem wlRL_95 : Cond.methodLink RL 95 yX5_count ∈ TG := TG_of (by decide +kernel) rfl
theorem wIX5_count : Cond.instanceMethod yX5_count ∈ TG := TG_of (by decide +kernel) rfl
theorem wSX5_count : Cond.selects RX5 yX5_count yX5_count ∈ TG := TG_of (by decide +kernel) rfl
theorem wcX4_digest : Cond.code yX4_digest cX4_digest 3 (some .long) ∈ TG := TG_of (by decide +kernel) rfl
theorem wlRL_96 : Cond.methodLink RL 96 yX4_digest ∈ TG := TG_of (by decide +kernel) rfl
theorem wIX4_digest : Cond.instanceMethod yX4_digest ∈ TG := TG_of (by decide +kernel) rfl
theorem wSX4_digest : Cond.selects RX4 yX4_digest yX4_digest ∈ TG := TG_of (by decide +kernel) rfl
theorem wcX5_digest : Cond.code yX5_digest cX5_digest 4 (some .long) ∈ TG := TG_of (by decide +kernel) rfl
theorem wlRL_100 : Cond.methodLink RL 100 yX5_digest ∈ TG := TG_of (by decide +kernel) rfl
theorem wIX5_digest : Cond.instanceMethod yX5_digest ∈ TG := TG_of (by decide +kernel) rfl
theorem wSX5_digest : Cond.selects RX5 yX5_digest yX5_digest ∈ TG := TG_of (by decide +kernel) rfl
theorem wArr : Cond.native arraycopyName ∈ TG := TG_of (by decide +kernel) rfl
theorem wArr2 : Cond.static arraycopyName ∈ TG := TG_of (by decide +kernel) rfl
theorem wSys : Cond.initialized "java/lang/System" ∈ TG := TG_of (by decide +kernel) rfl
theorem wObj : Cond.instanceMethod objectInit ∈ TG := TG_of (by decide +kernel) rfl
theorem wObj2 : Cond.code objectInit ⟨#[0xb1]⟩ 1 none ∈ TG := TG_of (by decide +kernel) rfl
theorem wAI : Cond.arrayClass .int ∈ TG := TG_of (by decide +kernel) rfl
theorem wAZ : Cond.arrayClass .boolean ∈ TG := TG_of (by decide +kernel) rfl
theorem wCl1 : Cond.methodLink RX4 41 ⟨"[I", "clone", "()Ljava/lang/Object;"⟩ ∈ TG := TG_of (by decide +kernel) rfl
theorem wCl2 : Cond.sameMethod "[I" "java/lang/Object" "clone" "()Ljava/lang/Object;" ∈ TG := TG_of (by decide +kernel) rfl
theorem wCl3 : Cond.native ⟨"java/lang/Object", "clone", "()Ljava/lang/Object;"⟩ ∈ TG := TG_of (by decide +kernel) rfl
theorem wCl4 : Cond.instanceMethod ⟨"java/lang/Object", "clone", "()Ljava/lang/Object;"⟩ ∈ TG := TG_of (by decide +kernel) rfl
theorem wCl5 : Cond.selects "[I" ⟨"[I", "clone", "()Ljava/lang/Object;"⟩ ⟨"java/lang/Object", "clone", "()Ljava/lang/Object;"⟩ ∈ TG := TG_of (by decide +kernel) rfl
theorem wCl6 : Cond.classLink RX4 42 "[I" ∈ TG := TG_of (by decide +kernel) rfl
theorem wk1 : Cond.constant RX1 77 43690 ∈ TG := TG_of (by decide +kernel) rfl
theorem wk2 : Cond.constant RJ6 265 1431655765 ∈ TG := TG_of (by decide +kernel) rfl
theorem wk3 : Cond.constant RJ6 266 858993459 ∈ TG := TG_of (by decide +kernel) rfl
theorem wk4 : Cond.constant RJ6 267 252645135 ∈ TG := TG_of (by decide +kernel) rfl
theorem wLRX4_159 : Cond.constantLong RX4 159 109 ∈ TG := TG_of (by decide +kernel) rfl
theorem wLRX4_192 : Cond.constantLong RX4 192 31 ∈ TG := TG_of (by decide +kernel) rfl
theorem wLRX5_145 : Cond.constantLong RX5 145 31 ∈ TG := TG_of (by decide +kernel) rfl
theorem wLRX5_151 : Cond.constantLong RX5 151 109 ∈ TG := TG_of (by decide +kernel) rfl
end
section
/-! abstract values, the layout of the heap, the judgement Rr -/
abbrev AV : Type := Option (Int ⊕ Nat ⊕ Int)
abbrev ai (z : Int) : AV := some (.inl z)
abbrev ar (p : Nat) : AV := some (.inr (.inl p))
abbrev al (z : Int) : AV := some (.inr (.inr z))
def iI (z : Int) : Int32 := Int32.ofInt z
def lI (z : Int) : Int64 := Int64.ofInt z
/-- a number as 32 bits hold it -/
def wr (z : Int) : Int := (z + 2147483648) % 4294967296 - 2147483648
theorem wr_bmod (z : Int) : z.bmod (2 ^ 32) = wr z := by
  unfold wr
  rw [Int.bmod_def]
  split <;> omega
theorem iI_toInt (z : Int) : (iI z).toInt = wr z := by
  unfold iI
  rw [Int32.toInt_ofInt]
  exact wr_bmod z
theorem wr_id {z : Int} (h1 : -2147483648 ≤ z) (h2 : z < 2147483648) : wr z = z := by unfold wr; omega
theorem wr_lo (z : Int) : -2147483648 ≤ wr z := by unfold wr; omega
theorem wr_hi (z : Int) : wr z < 2147483648 := by unfold wr; omega
theorem iI_lt (x y : Int) : iI x < iI y ↔ wr x < wr y := by rw [Int32.lt_iff_toInt_lt, iI_toInt, iI_toInt]
theorem iI_le (x y : Int) : iI x ≤ iI y ↔ wr x ≤ wr y := by rw [Int32.le_iff_toInt_le, iI_toInt, iI_toInt]
theorem iI_eq (x y : Int) : iI x = iI y ↔ wr x = wr y := by rw [← Int32.toInt_inj, iI_toInt, iI_toInt]
theorem iI_add (x y : Int) : iI x + iI y = iI (x + y) := (Int32.ofInt_add x y).symm
theorem iI_sub (x y : Int) : iI x - iI y = iI (x - y) := (Int32.ofInt_sub x y).symm
theorem iI_mul (x y : Int) : iI x * iI y = iI (x * y) := (Int32.ofInt_mul x y).symm
theorem iI_0 : (0 : Int32) = iI 0 := rfl
theorem iI_of (x : Int32) : iI x.toInt = x := Int32.ofInt_toInt x
theorem iI_clamp {k : Nat} (h : k < 2147483648) : (iI k).toNatClampNeg = k := by
  show (iI k).toInt.toNat = k
  rw [iI_toInt, wr_id (by omega) (by omega)]
  rfl
theorem iI_in {k n : Nat} (h : k < n) (hn : n < 2147483648) : vp_in (iI k) n := by
  rw [vp_in_iff, iI_toInt, wr_id (by omega) (by omega)]
  omega
theorem lI_add (x y : Int) : lI x + lI y = lI (x + y) := (Int64.ofInt_add x y).symm
theorem lI_mul (x y : Int) : lI x * lI y = lI (x * y) := (Int64.ofInt_mul x y).symm
theorem lI_i2l (x : Int) : (iI x).toInt64 = lI (wr x) := by
  have h : (lI (wr x)).toInt = (iI x).toInt64.toInt := by
    rw [Int32.toInt_toInt64, iI_toInt]
    unfold lI
    exact Int64.toInt_ofInt_of_le (by have := wr_lo x; omega) (by have := wr_hi x; omega)
  exact (Int64.toInt_inj.mp h).symm
/-- D, (int[], boolean[], int[][]), the base, the addresses of tables, the script's length and numbers -/
abbrev GE : Type := va_G × (ClassId × ClassId × ClassId) × Nat × (Nat → Nat) × Nat × (Nat → Int)
def adr (G : GE) (p : Nat) : Nat := if p < 1000000 then G.2.2.1 + p else G.2.2.2.1 (p - 1000000)
def cv (G : GE) : AV → Value
  | none => .null
  | some (.inl z) => .int (iI z)
  | some (.inr (.inl p)) => .ref (adr G p)
  | some (.inr (.inr z)) => .long (lI z)
/-- the numbers by place and slot, the references by place and slot, how many places there are, lengths of passing arrays -/
abbrev Sg : Type := (Nat → Nat → Int) × (Nat → Nat → Option Nat) × Nat × (Nat → Nat)
def lay : List (Nat × Nat) := [(7, 6), (3, 4), (0, 256), (1, 256), (6, 4), (0, 10), (2, 10),
  (0, 17), (0, 17), (0, 17), (0, 17), (0, 17), (0, 17), (0, 17), (0, 17), (0, 17), (0, 17),
  (2, 11), (0, 5), (0, 5), (0, 5), (0, 5), (0, 5), (0, 5), (0, 5), (0, 5), (0, 5), (0, 5), (0, 5),
  (4, 2), (2, 11), (0, 48), (0, 48), (0, 48), (0, 48), (0, 48), (0, 48), (0, 48), (0, 48), (0, 48), (0, 48), (0, 48),
  (5, 3), (0, 768), (0, 768), (0, 5), (0, 9), (0, 17),
  (8, 18), (0, 256), (1, 256), (0, 10), (0, 170), (0, 9), (0, 17), (0, 11), (0, 11), (0, 11), (0, 11), (0, 11), (0, 8448), (1, 8448), (0, 5)]
def ftl : List (List Nat) := [[0, 0, 1, 1], [0, 1], [1, 1, 1], [0, 1, 1, 1], [1, 1, 1, 1, 1, 1], [0, 0, 1, 1, 0, 1, 1, 1, 1, 1, 1, 1, 1, 1, 1, 1, 1, 2]]
def fv (G : GE) (f : Nat → Int) (g : Nat → Option Nat) (t j : Nat) : Value := match t with
  | 0 => .int (iI (f j))
  | 1 => va_rf ((g j).map (adr G))
  | _ => .long (lI (f j))
def fvs (G : GE) (f : Nat → Int) (g : Nat → Option Nat) : List Nat → Nat → List Value
  | [], _ => []
  | t :: ts, j => fv G f g t j :: fvs G f g ts (j + 1)
def kd (σ : Sg) (p : Nat) : Nat × Nat := match lay[p]? with
  | some q => q
  | none => (0, σ.2.2.2 p)
def cellAt (G : GE) (d : Nat × Nat) (f : Nat → Int) (g : Nat → Option Nat) : va_E := match d with
  | (0, n) => .inl (G.2.1.1, n, .inl (fun j => iI (f j)))
  | (1, n) => .inl (G.2.1.2.1, n, .inl (fun j => iI (f j)))
  | (2, n) => .inl (G.2.1.2.2, n, .inr (.inr (.inr (.inr (fun j => (g j).map (adr G))))))
  | (c + 3, _) => .inr (c, fvs G f g (ftl.getD c []) 0)
def cellOf (G : GE) (σ : Sg) (p : Nat) : va_E := cellAt G (kd σ p) (σ.1 p) (σ.2.1 p)
def wsOf (G : GE) (σ : Sg) : va_W := (List.range σ.2.2.1).map (fun k => (G.2.2.1 + k, cellOf G σ k))
def Rp (G : GE) (σ : Sg) (H : Heap) : Prop := va_P G.1 vwCl (wsOf G σ) H ∧ σ.2.2.1 ≤ 1000000
def AA (G : GE) : Nat → Prop := fun q => G.2.2.1 ≤ q
theorem ws_get (G : GE) (σ : Sg) {k : Nat} (h : k < σ.2.2.1) : (wsOf G σ)[k]? = some (G.2.2.1 + k, cellOf G σ k) := by
  unfold wsOf
  rw [List.getElem?_map, List.getElem?_range h]
  rfl
theorem ws_none (G : GE) (σ : Sg) {k : Nat} (h : σ.2.2.1 ≤ k) : (wsOf G σ)[k]? = none := by
  unfold wsOf
  rw [List.getElem?_eq_none]
  simp
  exact h
theorem ws_at (G : GE) (σ : Sg) {k : Nat} {q : Nat × va_E} (h : (wsOf G σ)[k]? = some q) : k < σ.2.2.1 ∧ q = (G.2.2.1 + k, cellOf G σ k) := by
  by_cases hk : k < σ.2.2.1
  · rw [ws_get G σ hk] at h
    exact ⟨hk, (Option.some.inj h).symm⟩
  · rw [ws_none G σ (Nat.le_of_not_lt hk)] at h
    cases h
theorem ws_D (G : GE) (σ : Sg) : va_D (AA G) (wsOf G σ) := by
  refine ⟨fun i j p q hi hj he => ?_, fun k q hk => ?_⟩
  · obtain ⟨-, rfl⟩ := ws_at G σ hi
    obtain ⟨-, rfl⟩ := ws_at G σ hj
    have : G.2.2.1 + i = G.2.2.1 + j := he
    omega
  · obtain ⟨-, rfl⟩ := ws_at G σ hk
    exact Nat.le_add_right _ _
theorem ws_set (G : GE) (σ σ' : Sg) {k : Nat} {e : va_E} (h : k < σ.2.2.1) (hn : σ'.2.2.1 = σ.2.2.1) (he : cellOf G σ' k = e) (ho : ∀ j, j ≠ k → cellOf G σ' j = cellOf G σ j) : (wsOf G σ).set k (G.2.2.1 + k, e) = wsOf G σ' := by
  apply List.ext_getElem?
  intro i
  rw [List.getElem?_set]
  by_cases hi : i < σ.2.2.1
  · rw [ws_get G σ' (by rw [hn]; exact hi), ws_get G σ hi]
    by_cases hk : k = i
    · subst hk
      have : k < (wsOf G σ).length := by unfold wsOf; simp; exact h
      rw [if_pos rfl, if_pos this, he]
    · rw [if_neg hk, ho i (Ne.symm hk)]
  · rw [ws_none G σ' (by rw [hn]; omega), ws_none G σ (by omega), if_neg (by omega)]
theorem ws_push (G : GE) (σ σ' : Sg) {e : va_E} (hn : σ'.2.2.1 = σ.2.2.1 + 1) (he : cellOf G σ' σ.2.2.1 = e) (ho : ∀ j, j < σ.2.2.1 → cellOf G σ' j = cellOf G σ j) : wsOf G σ ++ [(G.2.2.1 + σ.2.2.1, e)] = wsOf G σ' := by
  apply List.ext_getElem?
  intro i
  have hl : (wsOf G σ).length = σ.2.2.1 := by unfold wsOf; simp
  by_cases hi : i < σ.2.2.1
  · rw [List.getElem?_append_left (by rw [hl]; exact hi), ws_get G σ hi, ws_get G σ' (by omega), ho i hi]
  · rw [List.getElem?_append_right (by omega), hl]
    by_cases hk : i = σ.2.2.1
    · subst hk
      rw [ws_get G σ' (by omega), he]
      simp
    · rw [ws_none G σ' (by omega)]
      rw [List.getElem?_eq_none]
      simp
      omega
def tnm : Nat → String := fun t => match t with
  | 0 => "FIRST_MATRIX"
  | 1 => "NUMBERS_OF_KIND"
  | 2 => "NO_NUMBERS"
  | 3 => "NEAR_X"
  | _ => "NEAR_Y"
def tbl : Nat → List Int := fun t => match t with
  | 0 => [1000, 0, 0, 0, 1000, 0, 0, 0, 1000]
  | 1 => [1, 3, 0, 0, 0, 9, 17, 0]
  | 2 => []
  | 3 => [-2, 2, 0, 0]
  | 4 => [0, 0, -2, 2]
  | _ => []
def tN (G : GE) (t : Nat) : Nat := if t = 5 then G.2.2.2.2.1 else (tbl t).length
def tF (G : GE) (t j : Nat) : Int := if t = 5 then G.2.2.2.2.2 j else (tbl t).getD j 0
def nestW : List Cond := [
  .fieldLinkNest RX2 119 RX4 "NEAR_X" "[I" RX4, .fieldLinkNest RX2 122 RX4 "NEAR_Y" "[I" RX4, .fieldLinkNest RX3 27 RX4 "NUMBERS_OF_KIND" "[I" RX4,
  .methodLinkNest RX4 11 yX0_init RX4, .methodLinkNest RX4 18 yX3_init RX4, .methodLinkNest RX4 25 yX1_init RX4, .methodLinkNest RX4 32 yX2_init RX4,
  .methodLinkNest RX2 64 yX4_placeOf RX4, .methodLinkNest RX2 89 yX4_colourOf RX4, .methodLinkNest RX3 40 yX4_isWithin RX4, .castable "[I" "java/lang/Cloneable"]
theorem nest_warm {s U : State} (hW : s.WarmedH U.vm) : ∀ w ∈ nestW, va_Nw w s → va_Nw w U := by
  intro w hw h
  simp only [nestW, List.mem_cons, List.not_mem_nil, or_false] at hw
  rcases hw with rfl | rfl | rfl | rfl | rfl | rfl | rfl | rfl | rfl | rfl | rfl
  · exact va_Nw.warmF hW h
  · exact va_Nw.warmF hW h
  · exact va_Nw.warmF hW h
  · exact va_Nw.warmM hW h
  · exact va_Nw.warmM hW h
  · exact va_Nw.warmM hW h
  · exact va_Nw.warmM hW h
  · exact va_Nw.warmM hW h
  · exact va_Nw.warmM hW h
  · exact va_Nw.warmM hW h
  · exact va_Nw.warmC hW h
theorem nest_tab : ∀ w ∈ nestW, w.onTables = true := by
  intro w hw
  simp only [nestW, List.mem_cons, List.not_mem_nil, or_false] at hw
  rcases hw with rfl | rfl | rfl | rfl | rfl | rfl | rfl | rfl | rfl | rfl | rfl <;> rfl
abbrev tysG (G : GE) : List (ClassId × FieldType) := [(G.2.1.1, .int), (G.2.1.2.1, .boolean), (G.2.1.2.2, .array .int)]
def GK (G : GE) (U : State) : Prop :=
  va_K G.1 vwCl (tysG G) U ∧ (∀ w ∈ nestW, va_Nw w U) ∧ (Cond.arrayOver (.array .int)).before #[] U = true ∧
  (∀ t, t < 5 → va_Z RX4 (tnm t) "[I" (.ref (G.2.2.2.1 t)) (AA G) U U.heap) ∧
  (∀ t, t < 6 → va_X (G.2.2.2.1 t) (tN G t) (fun j => iI (tF G t j)) U U.heap ∧ G.2.2.2.1 t < G.2.2.1)
theorem GK.warm {G : GE} {s U : State} (hW : s.WarmedH U.vm) (hh : ∀ q : Nat, q < s.heap.size → ¬ AA G q → U.heap[q]? = s.heap[q]?) (h : GK G s) : GK G U := by
  obtain ⟨h1, h2, h3, h4, h5⟩ := h
  refine ⟨va_K.moved hW.alike h1, fun w hw => nest_warm hW w hw (h2 w hw), over_moved hW.alike h3, fun t ht => ?_, fun t ht => ?_⟩
  · exact ((h4 t ht).moved hW.alike).kept hh
  · obtain ⟨h6, h7⟩ := h5 t ht
    refine ⟨(h6.moved hW.alike).kept (hh _ ?_ (Nat.not_le.mpr h7)), h7⟩
    obtain ⟨scr, h8, -⟩ := h6
    exact (Array.getElem?_eq_some_iff.mp h8).1
theorem GK.calling {G : GE} {U : State} {g : JFrame} {mk : MethodId} {a : Array Value} (h : GK G U) : GK G (U.calling g mk a) := by
  obtain ⟨h1, h2, h3, h4, h5⟩ := h
  refine ⟨va_K.moved (u := U) (U := U.calling g mk a) (Vm.Alike.refl U.vm) h1, fun w hw => va_Nw.same (u := U) (U := U.calling g mk a) (nest_tab w hw) rfl (h2 w hw), over_moved (u := U) (E := U.calling g mk a) (Vm.Alike.refl U.vm) h3, fun t ht => ?_, fun t ht => ?_⟩
  · exact (h4 t ht).moved (U := U.calling g mk a) (Vm.Alike.refl U.vm)
  · exact ⟨(h5 t ht).1.moved (U := U.calling g mk a) (Vm.Alike.refl U.vm), (h5 t ht).2⟩
/-- the locals that are known -/
def lvL (G : GE) (ls : List AV) : List (Nat × Value) := (List.range ls.length).filterMap (fun k => match ls[k]? with
  | some (some v) => some (k, cv G (some v))
  | _ => none)
theorem lvL_mem {G : GE} {ls : List AV} {q : Nat × Value} : q ∈ lvL G ls ↔ ∃ v, ls[q.1]? = some (some v) ∧ q.2 = cv G (some v) := by
  unfold lvL
  rw [List.mem_filterMap]
  constructor
  · rintro ⟨k, hk, h⟩
    cases hv : ls[k]? with
    | none => rw [hv] at h; cases h
    | some o =>
      cases o with
      | none => rw [hv] at h; cases h
      | some v =>
        rw [hv] at h
        cases h
        exact ⟨v, hv, rfl⟩
  · rintro ⟨v, hv, h⟩
    refine ⟨q.1, List.mem_range.mpr (List.getElem?_eq_some_iff.mp hv).1, ?_⟩
    rw [hv]
    obtain ⟨a, b⟩ := q
    cases h
    rfl
theorem lv_mono {ls : Array Slot} {n : Nat} {l l' : List (Nat × Value)} (h : lv_has ls n l) (hs : ∀ q ∈ l', q ∈ l) : lv_has ls n l' := ⟨h.1, h.2.1, fun q hq => h.2.2 q (hs q hq)⟩
theorem lv_get {G : GE} {cls : Array Slot} {n k : Nat} {ls : List AV} {v : Int ⊕ Nat ⊕ Int} (h : lv_has cls n (lvL G ls)) (hk : ls[k]? = some (some v)) : cls[k]? = some (.val (cv G (some v))) := h.2.2 (k, cv G (some v)) (lvL_mem.mpr ⟨v, hk, rfl⟩)
def clr (ls : List AV) (i : Nat) : List AV := match i with
  | 0 => ls
  | j + 1 => match ls[j]? with
    | some (some (.inr (.inr _))) => ls.set j none
    | _ => ls
abbrev sto (ls : List AV) (i : Nat) (v : AV) : List AV := (clr ls i).set i v
abbrev stL (ls : List AV) (i : Nat) (v : AV) : List AV := ((clr ls i).set i v).set (i + 1) none
theorem clr_get {ls : List AV} {i k : Nat} {v : Int ⊕ Nat ⊕ Int} (h : (clr ls i)[k]? = some (some v)) : ls[k]? = some (some v) ∧ ¬ (k + 1 = i ∧ ∃ z, v = .inr (.inr z)) := by
  cases i with
  | zero => exact ⟨h, fun q => by omega⟩
  | succ j =>
    simp only [clr] at h
    split at h
    · rename_i z hz
      rw [List.getElem?_set] at h
      by_cases hj : j = k
      · subst hj
        rw [if_pos rfl] at h
        split at h
        · cases h
        · cases h
      · rw [if_neg hj] at h
        exact ⟨h, fun q => by omega⟩
    · rename_i hno
      refine ⟨h, fun q => ?_⟩
      obtain ⟨hk, z, rfl⟩ := q
      have : k = j := by omega
      subst this
      exact hno z h
theorem cv_cat2 {G : GE} {v : Int ⊕ Nat ⊕ Int} (h : (cv G (some v)).category = 2) : ∃ z, v = .inr (.inr z) := by
  rcases v with z | p | z
  · simp [cv, Value.category] at h
  · simp [cv, Value.category] at h
  · exact ⟨z, rfl⟩
theorem sto_mem {G : GE} {ls : List AV} {i : Nat} {v : AV} {w : Value} (hw : cv G v = w) : ∀ q ∈ lvL G (sto ls i v), q ∈ (i, w) :: (lvL G ls).filter (fun q => !(q.1 == i) && !(q.1 + 1 == i && q.2.category == 2)) := by
  intro q hq
  obtain ⟨x, hx, he⟩ := lvL_mem.mp hq
  obtain ⟨a, b⟩ := q
  dsimp only at hx he
  subst he
  rw [List.getElem?_set] at hx
  by_cases hi : i = a
  · subst hi
    rw [if_pos rfl] at hx
    split at hx
    · have := Option.some.inj hx
      subst this
      rw [hw]
      exact List.mem_cons_self
    · cases hx
  · rw [if_neg hi] at hx
    obtain ⟨h1, h2⟩ := clr_get hx
    refine List.mem_cons_of_mem _ (List.mem_filter.mpr ⟨lvL_mem.mpr ⟨x, h1, rfl⟩, ?_⟩)
    simp only [Bool.and_eq_true, Bool.not_eq_true', beq_eq_false_iff_ne, Bool.and_eq_false_iff]
    refine ⟨Ne.symm hi, ?_⟩
    by_cases h3 : a + 1 = i
    · right
      intro h4
      exact h2 ⟨h3, cv_cat2 h4⟩
    · left
      exact h3
theorem stL_mem {G : GE} {ls : List AV} {i : Nat} {v : AV} {w : Value} (hw : cv G v = w) : ∀ q ∈ lvL G (stL ls i v), q ∈ (i, w) :: (lvL G ls).filter (fun q => !(q.1 == i) && (!(q.1 == i + 1) && !(q.1 + 1 == i && q.2.category == 2))) := by
  intro q hq
  obtain ⟨x, hx, he⟩ := lvL_mem.mp hq
  obtain ⟨a, b⟩ := q
  dsimp only at hx he
  subst he
  rw [List.getElem?_set] at hx
  by_cases hi1 : i + 1 = a
  · rw [if_pos hi1] at hx
    split at hx <;> cases hx
  · rw [if_neg hi1, List.getElem?_set] at hx
    by_cases hi : i = a
    · subst hi
      rw [if_pos rfl] at hx
      split at hx
      · have := Option.some.inj hx
        subst this
        rw [hw]
        exact List.mem_cons_self
      · cases hx
    · rw [if_neg hi] at hx
      obtain ⟨h1, h2⟩ := clr_get hx
      refine List.mem_cons_of_mem _ (List.mem_filter.mpr ⟨lvL_mem.mpr ⟨x, h1, rfl⟩, ?_⟩)
      simp only [Bool.and_eq_true, Bool.not_eq_true', beq_eq_false_iff_ne, Bool.and_eq_false_iff]
      refine ⟨Ne.symm hi, Ne.symm hi1, ?_⟩
      by_cases h3 : a + 1 = i
      · right
        intro h4
        exact h2 ⟨h3, cv_cat2 h4⟩
      · left
        exact h3
end
section
/-! the judgement, and its rows -/
abbrev Zt : Type := List Frame → Array Value → State → State → Prop
/-- own class, code, locals, answer's type, name, room, places at the entry, the end -/
abbrev KT : Type := String × ByteArray × Nat × Option FieldType × String × Room × Nat × Zt
def Cx (G : GE) (K : KT) (p : Program) (s : State) (m : MethodId) (args : Array Value) (meth : Method) (c : Code) : Prop :=
  p.tables.exec = Jvm.exec ∧ c.code = K.2.1 ∧ c.maxLocals = K.2.2.1 ∧ meth.sig.returnType = K.2.2.2.1 ∧ s.vm.findClass K.1 = some m.cls ∧ (∀ w ∈ TG, w.before args s = true) ∧ meth.locks = false ∧ meth.name = K.2.2.2.2.1 ∧ GK G s ∧ s.heap.size = G.2.2.1 + K.2.2.2.2.2.2.1
def Rr (l : Launch) (G : GE) (K : KT) (kc ks : Nat) (pc : Nat) (ls st : List AV) (σ : Sg) : Prop :=
  ∀ (p : Program) (e : Env) (s : State) (m : MethodId) (args : Array Value) (below : List Frame) (meth : Method) (c : Code) (H : Heap) (locs : List Loc) (cls : Array Slot),
    Cx G K p s m args meth c → va_S (AA G) s.heap H locs → Rp G σ H → H.size = G.2.2.1 + σ.2.2.1 → σ.2.2.1 = K.2.2.2.2.2.2.1 + kc → lv_has cls K.2.2.1 (lvL G ls) →
    W p l e K.2.2.2.2.2.1 s m args below meth c H locs kc ks (K.2.2.2.2.2.2.2 below args s) (F0 m pc cls (st.map (cv G)))
def bAnd (x y : Int) : Int := (iI x &&& iI y).toInt
def bOr (x y : Int) : Int := (iI x ||| iI y).toInt
def bXor (x y : Int) : Int := (iI x ^^^ iI y).toInt
def bShl (x y : Int) : Int := (iI x <<< (iI y &&& 31)).toInt
def bShr (x y : Int) : Int := (iI x >>> (iI y &&& 31)).toInt
def bUsh (x y : Int) : Int := ((iI x).toUInt32 >>> ((iI y).toUInt32 &&& Int32.toUInt32 31)).toInt32.toInt
def bDiv (x y : Int) : Int := (iI x / iI y).toInt
def bRem (x y : Int) : Int := (iI x - iI x / iI y * iI y).toInt
theorem iI_bAnd (x y : Int) : iI (bAnd x y) = iI x &&& iI y := iI_of _
theorem iI_bOr (x y : Int) : iI (bOr x y) = iI x ||| iI y := iI_of _
theorem iI_bXor (x y : Int) : iI (bXor x y) = iI x ^^^ iI y := iI_of _
theorem iI_bShl (x y : Int) : iI (bShl x y) = iI x <<< (iI y &&& 31) := iI_of _
theorem iI_bShr (x y : Int) : iI (bShr x y) = iI x >>> (iI y &&& 31) := iI_of _
theorem iI_bDiv (x y : Int) : iI (bDiv x y) = iI x / iI y := iI_of _
theorem iI_bRem (x y : Int) : iI (bRem x y) = iI x - iI x / iI y * iI y := iI_of _
section ROWS
variable {l : Launch} {G : GE} {K : KT} {kc ks pc : Nat} {ls st : List AV} {σ : Sg}

theorem R_iconst {n : Int} (hd : decode K.2.1 pc = .ok (.iconst n, 1)) (k : Rr l G K kc ks (pc + 1) ls (ai n :: st) σ) : Rr l G K kc ks pc ls st σ := by
  intro p e s m args below meth c H locs cls C hS hP hz hn hl
  have h := k p e s m args below meth c H locs cls C hS hP hz hn hl
  exact lv_iconst C.1 C.2.1 hd rfl h

theorem R_bipush {n z : Int} (hd : decode K.2.1 pc = .ok (.bipush n, 2)) (hv : (Int8.ofInt n).toInt32 = iI z) (k : Rr l G K kc ks (pc + 2) ls (ai z :: st) σ) : Rr l G K kc ks pc ls st σ := by
  intro p e s m args below meth c H locs cls C hS hP hz hn hl
  have h := k p e s m args below meth c H locs cls C hS hP hz hn hl
  exact lv_bipush C.1 C.2.1 hd hv h

theorem R_sipush {n z : Int} (hd : decode K.2.1 pc = .ok (.sipush n, 3)) (hv : (Int16.ofInt n).toInt32 = iI z) (k : Rr l G K kc ks (pc + 3) ls (ai z :: st) σ) : Rr l G K kc ks pc ls st σ := by
  intro p e s m args below meth c H locs cls C hS hP hz hn hl
  have h := k p e s m args below meth c H locs cls C hS hP hz hn hl
  exact lv_sipush C.1 C.2.1 hd hv h

theorem R_ldc {n : Nat} {z : Int} (hd : decode K.2.1 pc = .ok (.ldc n, 2)) (hw : Cond.constant K.1 n (iI z) ∈ TG) (k : Rr l G K kc ks (pc + 2) ls (ai z :: st) σ) : Rr l G K kc ks pc ls st σ := by
  intro p e s m args below meth c H locs cls C hS hP hz hn hl
  have h := k p e s m args below meth c H locs cls C hS hP hz hn hl
  exact lv_ldc C.1 C.2.1 C.2.2.2.2.1 (C.2.2.2.2.2.1 _ hw) hd h

theorem R_ldcw {n : Nat} {z : Int} (hd : decode K.2.1 pc = .ok (.ldc_w n, 3)) (hw : Cond.constant K.1 n (iI z) ∈ TG) (k : Rr l G K kc ks (pc + 3) ls (ai z :: st) σ) : Rr l G K kc ks pc ls st σ := by
  intro p e s m args below meth c H locs cls C hS hP hz hn hl
  have h := k p e s m args below meth c H locs cls C hS hP hz hn hl
  exact lv_ldcw C.1 C.2.1 C.2.2.2.2.1 (C.2.2.2.2.2.1 _ hw) hd h

theorem R_ldc2 {n : Nat} {z : Int} (hd : decode K.2.1 pc = .ok (.ldc2_w n, 3)) (hw : Cond.constantLong K.1 n (lI z) ∈ TG) (k : Rr l G K kc ks (pc + 3) ls (al z :: st) σ) : Rr l G K kc ks pc ls st σ := by
  intro p e s m args below meth c H locs cls C hS hP hz hn hl
  have h := k p e s m args below meth c H locs cls C hS hP hz hn hl
  exact lv_ldc2 C.1 C.2.1 C.2.2.2.2.1 (C.2.2.2.2.2.1 _ hw) hd h

theorem R_iload_n {j : Fin 4} {i : Nat} {x : Int} (hd : decode K.2.1 pc = .ok (.iload_n j, 1)) (hi : (j : Nat) = i) (hx : ls[i]? = some (ai x)) (k : Rr l G K kc ks (pc + 1) ls (ai x :: st) σ) : Rr l G K kc ks pc ls st σ := by
  intro p e s m args below meth c H locs cls C hS hP hz hn hl
  have h := k p e s m args below meth c H locs cls C hS hP hz hn hl
  exact lv_iload_n C.1 C.2.1 hd hi (lv_get hl hx) h

theorem R_iload {i : Nat} {x : Int} (hd : decode K.2.1 pc = .ok (.iload i, 2)) (hx : ls[i]? = some (ai x)) (k : Rr l G K kc ks (pc + 2) ls (ai x :: st) σ) : Rr l G K kc ks pc ls st σ := by
  intro p e s m args below meth c H locs cls C hS hP hz hn hl
  have h := k p e s m args below meth c H locs cls C hS hP hz hn hl
  exact lv_iload C.1 C.2.1 hd (lv_get hl hx) h

theorem R_lload_n {j : Fin 4} {i : Nat} {x : Int} (hd : decode K.2.1 pc = .ok (.lload_n j, 1)) (hi : (j : Nat) = i) (hx : ls[i]? = some (al x)) (k : Rr l G K kc ks (pc + 1) ls (al x :: st) σ) : Rr l G K kc ks pc ls st σ := by
  intro p e s m args below meth c H locs cls C hS hP hz hn hl
  have h := k p e s m args below meth c H locs cls C hS hP hz hn hl
  exact lv_lload_n C.1 C.2.1 hd hi (lv_get hl hx) h

theorem R_lload {i : Nat} {x : Int} (hd : decode K.2.1 pc = .ok (.lload i, 2)) (hx : ls[i]? = some (al x)) (k : Rr l G K kc ks (pc + 2) ls (al x :: st) σ) : Rr l G K kc ks pc ls st σ := by
  intro p e s m args below meth c H locs cls C hS hP hz hn hl
  have h := k p e s m args below meth c H locs cls C hS hP hz hn hl
  exact lv_lload C.1 C.2.1 hd (lv_get hl hx) h

theorem R_aload_n {j : Fin 4} {i : Nat} {x : Nat} (hd : decode K.2.1 pc = .ok (.aload_n j, 1)) (hi : (j : Nat) = i) (hx : ls[i]? = some (ar x)) (k : Rr l G K kc ks (pc + 1) ls (ar x :: st) σ) : Rr l G K kc ks pc ls st σ := by
  intro p e s m args below meth c H locs cls C hS hP hz hn hl
  have h := k p e s m args below meth c H locs cls C hS hP hz hn hl
  exact lv_aload_n C.1 C.2.1 hd hi (lv_get hl hx) h

theorem R_aload {i : Nat} {x : Nat} (hd : decode K.2.1 pc = .ok (.aload i, 2)) (hx : ls[i]? = some (ar x)) (k : Rr l G K kc ks (pc + 2) ls (ar x :: st) σ) : Rr l G K kc ks pc ls st σ := by
  intro p e s m args below meth c H locs cls C hS hP hz hn hl
  have h := k p e s m args below meth c H locs cls C hS hP hz hn hl
  exact lv_aload C.1 C.2.1 hd (lv_get hl hx) h

theorem R_istore_n {j : Fin 4} {i : Nat} {x : Int} (hd : decode K.2.1 pc = .ok (.istore_n j, 1)) (hi : (j : Nat) = i) (hn : i < K.2.2.1) (k : Rr l G K kc ks (pc + 1) (sto ls i (ai x)) st σ) : Rr l G K kc ks pc ls (ai x :: st) σ := by
  intro p e s m args below meth c H locs cls C hS hP hz hn2 hl
  exact lv_istore_n C.1 C.2.1 hd hi hl hn rfl (fun ls' hl' => k p e s m args below meth c H locs ls' C hS hP hz hn2 (lv_mono hl' (sto_mem rfl)))

theorem R_istore {i : Nat} {x : Int} (hd : decode K.2.1 pc = .ok (.istore i, 2)) (hn : i < K.2.2.1) (k : Rr l G K kc ks (pc + 2) (sto ls i (ai x)) st σ) : Rr l G K kc ks pc ls (ai x :: st) σ := by
  intro p e s m args below meth c H locs cls C hS hP hz hn2 hl
  exact lv_istore C.1 C.2.1 hd hl hn rfl (fun ls' hl' => k p e s m args below meth c H locs ls' C hS hP hz hn2 (lv_mono hl' (sto_mem rfl)))

theorem R_lstore_n {j : Fin 4} {i : Nat} {x : Int} (hd : decode K.2.1 pc = .ok (.lstore_n j, 1)) (hi : (j : Nat) = i) (hn : i + 1 < K.2.2.1) (k : Rr l G K kc ks (pc + 1) (stL ls i (al x)) st σ) : Rr l G K kc ks pc ls (al x :: st) σ := by
  intro p e s m args below meth c H locs cls C hS hP hz hn2 hl
  exact lv_lstore_n C.1 C.2.1 hd hi hl hn rfl (fun ls' hl' => k p e s m args below meth c H locs ls' C hS hP hz hn2 (lv_mono hl' (stL_mem rfl)))

theorem R_lstore {i : Nat} {x : Int} (hd : decode K.2.1 pc = .ok (.lstore i, 2)) (hn : i + 1 < K.2.2.1) (k : Rr l G K kc ks (pc + 2) (stL ls i (al x)) st σ) : Rr l G K kc ks pc ls (al x :: st) σ := by
  intro p e s m args below meth c H locs cls C hS hP hz hn2 hl
  exact lv_lstore C.1 C.2.1 hd hl hn rfl (fun ls' hl' => k p e s m args below meth c H locs ls' C hS hP hz hn2 (lv_mono hl' (stL_mem rfl)))

theorem R_astore_n {j : Fin 4} {i : Nat} {x : Nat} (hd : decode K.2.1 pc = .ok (.astore_n j, 1)) (hi : (j : Nat) = i) (hn : i < K.2.2.1) (k : Rr l G K kc ks (pc + 1) (sto ls i (ar x)) st σ) : Rr l G K kc ks pc ls (ar x :: st) σ := by
  intro p e s m args below meth c H locs cls C hS hP hz hn2 hl
  exact lv_astore_n C.1 C.2.1 hd hi hl hn rfl (fun ls' hl' => k p e s m args below meth c H locs ls' C hS hP hz hn2 (lv_mono hl' (sto_mem rfl)))

theorem R_astore {i : Nat} {x : Nat} (hd : decode K.2.1 pc = .ok (.astore i, 2)) (hn : i < K.2.2.1) (k : Rr l G K kc ks (pc + 2) (sto ls i (ar x)) st σ) : Rr l G K kc ks pc ls (ar x :: st) σ := by
  intro p e s m args below meth c H locs cls C hS hP hz hn2 hl
  exact lv_astore C.1 C.2.1 hd hl hn rfl (fun ls' hl' => k p e s m args below meth c H locs ls' C hS hP hz hn2 (lv_mono hl' (sto_mem rfl)))

theorem R_iinc {i : Nat} {n x : Int} (hd : decode K.2.1 pc = .ok (.iinc i n, 3)) (hx : ls[i]? = some (ai x)) (hn : i < K.2.2.1) (k : Rr l G K kc ks (pc + 3) (sto ls i (ai (x + n))) st σ) : Rr l G K kc ks pc ls st σ := by
  intro p e s m args below meth c H locs cls C hS hP hz hn2 hl
  obtain ⟨q, hq⟩ := List.getElem?_of_mem (lvL_mem (G := G).mpr ⟨.inl x, hx, rfl⟩ : ((i, cv G (ai x)) : Nat × Value) ∈ lvL G ls)
  exact lv_iinc C.1 C.2.1 hd hl (k := q) hq (v := iI (x + n)) (iI_add x n) hn rfl (fun ls' hl' => k p e s m args below meth c H locs ls' C hS hP hz hn2 (lv_mono hl' (sto_mem rfl)))

theorem R_iadd {x y : Int} (hd : decode K.2.1 pc = .ok (.iadd, 1)) (k : Rr l G K kc ks (pc + 1) ls (ai (x + y) :: st) σ) : Rr l G K kc ks pc ls (ai y :: ai x :: st) σ := by
  intro p e s m args below meth c H locs cls C hS hP hz hn hl
  have h := k p e s m args below meth c H locs cls C hS hP hz hn hl
  refine lv_iadd C.1 C.2.1 hd ?_
  rw [iI_add]
  exact h

theorem R_isub {x y : Int} (hd : decode K.2.1 pc = .ok (.isub, 1)) (k : Rr l G K kc ks (pc + 1) ls (ai (x - y) :: st) σ) : Rr l G K kc ks pc ls (ai y :: ai x :: st) σ := by
  intro p e s m args below meth c H locs cls C hS hP hz hn hl
  have h := k p e s m args below meth c H locs cls C hS hP hz hn hl
  refine lv_isub C.1 C.2.1 hd ?_
  rw [iI_sub]
  exact h

theorem R_imul {x y : Int} (hd : decode K.2.1 pc = .ok (.imul, 1)) (k : Rr l G K kc ks (pc + 1) ls (ai (x * y) :: st) σ) : Rr l G K kc ks pc ls (ai y :: ai x :: st) σ := by
  intro p e s m args below meth c H locs cls C hS hP hz hn hl
  have h := k p e s m args below meth c H locs cls C hS hP hz hn hl
  refine lv_imul C.1 C.2.1 hd ?_
  rw [iI_mul]
  exact h

theorem R_iand {x y : Int} (hd : decode K.2.1 pc = .ok (.iand, 1)) (k : Rr l G K kc ks (pc + 1) ls (ai (bAnd x y) :: st) σ) : Rr l G K kc ks pc ls (ai y :: ai x :: st) σ := by
  intro p e s m args below meth c H locs cls C hS hP hz hn hl
  have h := k p e s m args below meth c H locs cls C hS hP hz hn hl
  refine lv_iand C.1 C.2.1 hd ?_
  rw [← iI_bAnd]
  exact h

theorem R_ior {x y : Int} (hd : decode K.2.1 pc = .ok (.ior, 1)) (k : Rr l G K kc ks (pc + 1) ls (ai (bOr x y) :: st) σ) : Rr l G K kc ks pc ls (ai y :: ai x :: st) σ := by
  intro p e s m args below meth c H locs cls C hS hP hz hn hl
  have h := k p e s m args below meth c H locs cls C hS hP hz hn hl
  refine lv_ior C.1 C.2.1 hd ?_
  rw [← iI_bOr]
  exact h

theorem R_ixor {x y : Int} (hd : decode K.2.1 pc = .ok (.ixor, 1)) (k : Rr l G K kc ks (pc + 1) ls (ai (bXor x y) :: st) σ) : Rr l G K kc ks pc ls (ai y :: ai x :: st) σ := by
  intro p e s m args below meth c H locs cls C hS hP hz hn hl
  have h := k p e s m args below meth c H locs cls C hS hP hz hn hl
  refine lv_ixor C.1 C.2.1 hd ?_
  rw [← iI_bXor]
  exact h

theorem R_ishl {x y : Int} (hd : decode K.2.1 pc = .ok (.ishl, 1)) (k : Rr l G K kc ks (pc + 1) ls (ai (bShl x y) :: st) σ) : Rr l G K kc ks pc ls (ai y :: ai x :: st) σ := by
  intro p e s m args below meth c H locs cls C hS hP hz hn hl
  have h := k p e s m args below meth c H locs cls C hS hP hz hn hl
  refine lv_ishl C.1 C.2.1 hd ?_
  rw [← iI_bShl]
  exact h

theorem R_ishr {x y : Int} (hd : decode K.2.1 pc = .ok (.ishr, 1)) (k : Rr l G K kc ks (pc + 1) ls (ai (bShr x y) :: st) σ) : Rr l G K kc ks pc ls (ai y :: ai x :: st) σ := by
  intro p e s m args below meth c H locs cls C hS hP hz hn hl
  have h := k p e s m args below meth c H locs cls C hS hP hz hn hl
  refine lv_ishr C.1 C.2.1 hd ?_
  rw [← iI_bShr]
  exact h

theorem R_iushr {x y : Int} (hd : decode K.2.1 pc = .ok (.iushr, 1)) (k : Rr l G K kc ks (pc + 1) ls (ai (bUsh x y) :: st) σ) : Rr l G K kc ks pc ls (ai y :: ai x :: st) σ := by
  intro p e s m args below meth c H locs cls C hS hP hz hn hl
  have h := k p e s m args below meth c H locs cls C hS hP hz hn hl
  exact lv_iushr C.1 C.2.1 hd (iI_of _).symm h

theorem R_idiv {x y : Int} (hd : decode K.2.1 pc = .ok (.idiv, 1)) (hy : wr y ≠ 0) (k : Rr l G K kc ks (pc + 1) ls (ai (bDiv x y) :: st) σ) : Rr l G K kc ks pc ls (ai y :: ai x :: st) σ := by
  intro p e s m args below meth c H locs cls C hS hP hz hn hl
  have h := k p e s m args below meth c H locs cls C hS hP hz hn hl
  refine lv_idiv C.1 C.2.1 hd (fun q => hy (by rw [iI_0, iI_eq] at q; exact q)) ?_
  rw [← iI_bDiv]
  exact h

theorem R_irem {x y : Int} (hd : decode K.2.1 pc = .ok (.irem, 1)) (hy : wr y ≠ 0) (k : Rr l G K kc ks (pc + 1) ls (ai (bRem x y) :: st) σ) : Rr l G K kc ks pc ls (ai y :: ai x :: st) σ := by
  intro p e s m args below meth c H locs cls C hS hP hz hn hl
  have h := k p e s m args below meth c H locs cls C hS hP hz hn hl
  refine lv_irem C.1 C.2.1 hd (fun q => hy (by rw [iI_0, iI_eq] at q; exact q)) ?_
  rw [← iI_bRem]
  exact h

theorem R_ladd {x y : Int} (hd : decode K.2.1 pc = .ok (.ladd, 1)) (k : Rr l G K kc ks (pc + 1) ls (al (x + y) :: st) σ) : Rr l G K kc ks pc ls (al y :: al x :: st) σ := by
  intro p e s m args below meth c H locs cls C hS hP hz hn hl
  have h := k p e s m args below meth c H locs cls C hS hP hz hn hl
  refine lv_ladd C.1 C.2.1 hd ?_
  rw [lI_add]
  exact h

theorem R_lmul {x y : Int} (hd : decode K.2.1 pc = .ok (.lmul, 1)) (k : Rr l G K kc ks (pc + 1) ls (al (x * y) :: st) σ) : Rr l G K kc ks pc ls (al y :: al x :: st) σ := by
  intro p e s m args below meth c H locs cls C hS hP hz hn hl
  have h := k p e s m args below meth c H locs cls C hS hP hz hn hl
  refine lv_lmul C.1 C.2.1 hd ?_
  rw [lI_mul]
  exact h

theorem R_i2l {x : Int} (hd : decode K.2.1 pc = .ok (.i2l, 1)) (k : Rr l G K kc ks (pc + 1) ls (al (wr x) :: st) σ) : Rr l G K kc ks pc ls (ai x :: st) σ := by
  intro p e s m args below meth c H locs cls C hS hP hz hn hl
  have h := k p e s m args below meth c H locs cls C hS hP hz hn hl
  exact lv_i2l C.1 C.2.1 hd (lI_i2l x) h

theorem R_dup {v : Int ⊕ Nat} (hd : decode K.2.1 pc = .ok (.dup, 1)) (k : Rr l G K kc ks (pc + 1) ls (some (v.elim .inl (fun p => .inr (.inl p))) :: some (v.elim .inl (fun p => .inr (.inl p))) :: st) σ) : Rr l G K kc ks pc ls (some (v.elim .inl (fun p => .inr (.inl p))) :: st) σ := by
  intro p e s m args below meth c H locs cls C hS hP hz hn hl
  have h := k p e s m args below meth c H locs cls C hS hP hz hn hl
  cases v <;> exact lv_dup C.1 C.2.1 hd rfl h

theorem R_dupI {x : Int} (hd : decode K.2.1 pc = .ok (.dup, 1)) (k : Rr l G K kc ks (pc + 1) ls (ai x :: ai x :: st) σ) : Rr l G K kc ks pc ls (ai x :: st) σ := by
  intro p e s m args below meth c H locs cls C hS hP hz hn hl
  have h := k p e s m args below meth c H locs cls C hS hP hz hn hl
  exact lv_dup C.1 C.2.1 hd rfl h

theorem R_dupA {x : Nat} (hd : decode K.2.1 pc = .ok (.dup, 1)) (k : Rr l G K kc ks (pc + 1) ls (ar x :: ar x :: st) σ) : Rr l G K kc ks pc ls (ar x :: st) σ := by
  intro p e s m args below meth c H locs cls C hS hP hz hn hl
  have h := k p e s m args below meth c H locs cls C hS hP hz hn hl
  exact lv_dup C.1 C.2.1 hd rfl h

theorem R_dup2 {x : Int} {q : Nat} (hd : decode K.2.1 pc = .ok (.dup2, 1)) (k : Rr l G K kc ks (pc + 1) ls (ai x :: ar q :: ai x :: ar q :: st) σ) : Rr l G K kc ks pc ls (ai x :: ar q :: st) σ := by
  intro p e s m args below meth c H locs cls C hS hP hz hn hl
  have h := k p e s m args below meth c H locs cls C hS hP hz hn hl
  exact lv_dup2_11 C.1 C.2.1 hd rfl rfl h

theorem R_goto {off : Int} {tgt : Nat} (hd : decode K.2.1 pc = .ok (.goto off, 3)) (ht : (pc : Int) + off = (tgt : Int)) (k : Rr l G K kc ks tgt ls st σ) : Rr l G K kc ks pc ls st σ := by
  intro p e s m args below meth c H locs cls C hS hP hz hn hl
  exact lv_goto C.1 C.2.1 hd ht (k p e s m args below meth c H locs cls C hS hP hz hn hl)

theorem R_icmp_eq {x y off : Int} {tgt : Nat} (hd : decode K.2.1 pc = .ok (.if_icmp .eq off, 3)) (ht : (pc : Int) + off = (tgt : Int)) (kt : wr x = wr y → Rr l G K kc ks tgt ls st σ) (kf : ¬ (wr x = wr y) → Rr l G K kc ks (pc + 3) ls st σ) : Rr l G K kc ks pc ls (ai y :: ai x :: st) σ := by
  intro p e s m args below meth c H locs cls C hS hP hz hn hl
  exact lv_icmp_eq C.1 C.2.1 hd ht (fun q => kt (by first | exact (iI_eq _ _).mp q | exact fun z => q ((iI_eq _ _).mpr z)) p e s m args below meth c H locs cls C hS hP hz hn hl) (fun q => kf (fun z => q (by first | exact (iI_eq _ _).mpr z | exact fun w => z ((iI_eq _ _).mp w))) p e s m args below meth c H locs cls C hS hP hz hn hl)
theorem R_if_eq {x off : Int} {tgt : Nat} (hd : decode K.2.1 pc = .ok (.ifCond .eq off, 3)) (ht : (pc : Int) + off = (tgt : Int)) (kt : wr x = 0 → Rr l G K kc ks tgt ls st σ) (kf : ¬ (wr x = 0) → Rr l G K kc ks (pc + 3) ls st σ) : Rr l G K kc ks pc ls (ai x :: st) σ := by
  intro p e s m args below meth c H locs cls C hS hP hz hn hl
  exact lv_if_eq C.1 C.2.1 hd ht (fun q => kt (by rw [iI_0] at q; first | exact (iI_eq _ _).mp q | exact fun z => q ((iI_eq _ _).mpr z)) p e s m args below meth c H locs cls C hS hP hz hn hl) (fun q => kf (fun z => q (by rw [iI_0]; first | exact (iI_eq _ _).mpr z | exact fun w => z ((iI_eq _ _).mp w))) p e s m args below meth c H locs cls C hS hP hz hn hl)

theorem R_icmp_ne {x y off : Int} {tgt : Nat} (hd : decode K.2.1 pc = .ok (.if_icmp .ne off, 3)) (ht : (pc : Int) + off = (tgt : Int)) (kt : ¬ wr x = wr y → Rr l G K kc ks tgt ls st σ) (kf : wr x = wr y → Rr l G K kc ks (pc + 3) ls st σ) : Rr l G K kc ks pc ls (ai y :: ai x :: st) σ := by
  intro p e s m args below meth c H locs cls C hS hP hz hn hl
  exact lv_icmp_ne C.1 C.2.1 hd ht (fun q => kt (fun z => q ((iI_eq _ _).mpr z)) p e s m args below meth c H locs cls C hS hP hz hn hl) (fun q => kf ((iI_eq _ _).mp q) p e s m args below meth c H locs cls C hS hP hz hn hl)
theorem R_if_ne {x off : Int} {tgt : Nat} (hd : decode K.2.1 pc = .ok (.ifCond .ne off, 3)) (ht : (pc : Int) + off = (tgt : Int)) (kt : ¬ wr x = 0 → Rr l G K kc ks tgt ls st σ) (kf : wr x = 0 → Rr l G K kc ks (pc + 3) ls st σ) : Rr l G K kc ks pc ls (ai x :: st) σ := by
  intro p e s m args below meth c H locs cls C hS hP hz hn hl
  exact lv_if_ne C.1 C.2.1 hd ht (fun q => kt (fun z => q (by rw [iI_0]; exact (iI_eq _ _).mpr z)) p e s m args below meth c H locs cls C hS hP hz hn hl) (fun q => kf (by rw [iI_0] at q; exact (iI_eq _ _).mp q) p e s m args below meth c H locs cls C hS hP hz hn hl)

theorem R_icmp_lt {x y off : Int} {tgt : Nat} (hd : decode K.2.1 pc = .ok (.if_icmp .lt off, 3)) (ht : (pc : Int) + off = (tgt : Int)) (kt : wr x < wr y → Rr l G K kc ks tgt ls st σ) (kf : ¬ (wr x < wr y) → Rr l G K kc ks (pc + 3) ls st σ) : Rr l G K kc ks pc ls (ai y :: ai x :: st) σ := by
  intro p e s m args below meth c H locs cls C hS hP hz hn hl
  exact lv_icmp_lt C.1 C.2.1 hd ht (fun q => kt (by first | exact (iI_lt _ _).mp q | exact fun z => q ((iI_lt _ _).mpr z)) p e s m args below meth c H locs cls C hS hP hz hn hl) (fun q => kf (fun z => q (by first | exact (iI_lt _ _).mpr z | exact fun w => z ((iI_lt _ _).mp w))) p e s m args below meth c H locs cls C hS hP hz hn hl)
theorem R_if_lt {x off : Int} {tgt : Nat} (hd : decode K.2.1 pc = .ok (.ifCond .lt off, 3)) (ht : (pc : Int) + off = (tgt : Int)) (kt : wr x < 0 → Rr l G K kc ks tgt ls st σ) (kf : ¬ (wr x < 0) → Rr l G K kc ks (pc + 3) ls st σ) : Rr l G K kc ks pc ls (ai x :: st) σ := by
  intro p e s m args below meth c H locs cls C hS hP hz hn hl
  exact lv_if_lt C.1 C.2.1 hd ht (fun q => kt (by rw [iI_0] at q; first | exact (iI_lt _ _).mp q | exact fun z => q ((iI_lt _ _).mpr z)) p e s m args below meth c H locs cls C hS hP hz hn hl) (fun q => kf (fun z => q (by rw [iI_0]; first | exact (iI_lt _ _).mpr z | exact fun w => z ((iI_lt _ _).mp w))) p e s m args below meth c H locs cls C hS hP hz hn hl)

theorem R_icmp_ge {x y off : Int} {tgt : Nat} (hd : decode K.2.1 pc = .ok (.if_icmp .ge off, 3)) (ht : (pc : Int) + off = (tgt : Int)) (kt : wr y ≤ wr x → Rr l G K kc ks tgt ls st σ) (kf : ¬ (wr y ≤ wr x) → Rr l G K kc ks (pc + 3) ls st σ) : Rr l G K kc ks pc ls (ai y :: ai x :: st) σ := by
  intro p e s m args below meth c H locs cls C hS hP hz hn hl
  exact lv_icmp_ge C.1 C.2.1 hd ht (fun q => kt (by first | exact (iI_le _ _).mp q | exact fun z => q ((iI_le _ _).mpr z)) p e s m args below meth c H locs cls C hS hP hz hn hl) (fun q => kf (fun z => q (by first | exact (iI_le _ _).mpr z | exact fun w => z ((iI_le _ _).mp w))) p e s m args below meth c H locs cls C hS hP hz hn hl)
theorem R_if_ge {x off : Int} {tgt : Nat} (hd : decode K.2.1 pc = .ok (.ifCond .ge off, 3)) (ht : (pc : Int) + off = (tgt : Int)) (kt : 0 ≤ wr x → Rr l G K kc ks tgt ls st σ) (kf : ¬ (0 ≤ wr x) → Rr l G K kc ks (pc + 3) ls st σ) : Rr l G K kc ks pc ls (ai x :: st) σ := by
  intro p e s m args below meth c H locs cls C hS hP hz hn hl
  exact lv_if_ge C.1 C.2.1 hd ht (fun q => kt (by rw [iI_0] at q; first | exact (iI_le _ _).mp q | exact fun z => q ((iI_le _ _).mpr z)) p e s m args below meth c H locs cls C hS hP hz hn hl) (fun q => kf (fun z => q (by rw [iI_0]; first | exact (iI_le _ _).mpr z | exact fun w => z ((iI_le _ _).mp w))) p e s m args below meth c H locs cls C hS hP hz hn hl)

theorem R_icmp_gt {x y off : Int} {tgt : Nat} (hd : decode K.2.1 pc = .ok (.if_icmp .gt off, 3)) (ht : (pc : Int) + off = (tgt : Int)) (kt : wr y < wr x → Rr l G K kc ks tgt ls st σ) (kf : ¬ (wr y < wr x) → Rr l G K kc ks (pc + 3) ls st σ) : Rr l G K kc ks pc ls (ai y :: ai x :: st) σ := by
  intro p e s m args below meth c H locs cls C hS hP hz hn hl
  exact lv_icmp_gt C.1 C.2.1 hd ht (fun q => kt (by first | exact (iI_lt _ _).mp q | exact fun z => q ((iI_lt _ _).mpr z)) p e s m args below meth c H locs cls C hS hP hz hn hl) (fun q => kf (fun z => q (by first | exact (iI_lt _ _).mpr z | exact fun w => z ((iI_lt _ _).mp w))) p e s m args below meth c H locs cls C hS hP hz hn hl)
theorem R_if_gt {x off : Int} {tgt : Nat} (hd : decode K.2.1 pc = .ok (.ifCond .gt off, 3)) (ht : (pc : Int) + off = (tgt : Int)) (kt : 0 < wr x → Rr l G K kc ks tgt ls st σ) (kf : ¬ (0 < wr x) → Rr l G K kc ks (pc + 3) ls st σ) : Rr l G K kc ks pc ls (ai x :: st) σ := by
  intro p e s m args below meth c H locs cls C hS hP hz hn hl
  exact lv_if_gt C.1 C.2.1 hd ht (fun q => kt (by rw [iI_0] at q; first | exact (iI_lt _ _).mp q | exact fun z => q ((iI_lt _ _).mpr z)) p e s m args below meth c H locs cls C hS hP hz hn hl) (fun q => kf (fun z => q (by rw [iI_0]; first | exact (iI_lt _ _).mpr z | exact fun w => z ((iI_lt _ _).mp w))) p e s m args below meth c H locs cls C hS hP hz hn hl)

theorem R_icmp_le {x y off : Int} {tgt : Nat} (hd : decode K.2.1 pc = .ok (.if_icmp .le off, 3)) (ht : (pc : Int) + off = (tgt : Int)) (kt : wr x ≤ wr y → Rr l G K kc ks tgt ls st σ) (kf : ¬ (wr x ≤ wr y) → Rr l G K kc ks (pc + 3) ls st σ) : Rr l G K kc ks pc ls (ai y :: ai x :: st) σ := by
  intro p e s m args below meth c H locs cls C hS hP hz hn hl
  exact lv_icmp_le C.1 C.2.1 hd ht (fun q => kt (by first | exact (iI_le _ _).mp q | exact fun z => q ((iI_le _ _).mpr z)) p e s m args below meth c H locs cls C hS hP hz hn hl) (fun q => kf (fun z => q (by first | exact (iI_le _ _).mpr z | exact fun w => z ((iI_le _ _).mp w))) p e s m args below meth c H locs cls C hS hP hz hn hl)
theorem R_if_le {x off : Int} {tgt : Nat} (hd : decode K.2.1 pc = .ok (.ifCond .le off, 3)) (ht : (pc : Int) + off = (tgt : Int)) (kt : wr x ≤ 0 → Rr l G K kc ks tgt ls st σ) (kf : ¬ (wr x ≤ 0) → Rr l G K kc ks (pc + 3) ls st σ) : Rr l G K kc ks pc ls (ai x :: st) σ := by
  intro p e s m args below meth c H locs cls C hS hP hz hn hl
  exact lv_if_le C.1 C.2.1 hd ht (fun q => kt (by rw [iI_0] at q; first | exact (iI_le _ _).mp q | exact fun z => q ((iI_le _ _).mpr z)) p e s m args below meth c H locs cls C hS hP hz hn hl) (fun q => kf (fun z => q (by rw [iI_0]; first | exact (iI_le _ _).mpr z | exact fun w => z ((iI_le _ _).mp w))) p e s m args below meth c H locs cls C hS hP hz hn hl)

theorem R_tabOut {dflt lo hi : Int} {offs : Array Int} {len : Nat} {x : Int} {tgt : Nat} (hd : decode K.2.1 pc = .ok (.tableswitch dflt lo hi offs, len)) (hx : wr x < lo ∨ hi < wr x) (ht : (pc : Int) + dflt = (tgt : Int)) (k : Rr l G K kc ks tgt ls st σ) : Rr l G K kc ks pc ls (ai x :: st) σ := by
  intro p e s m args below meth c H locs cls C hS hP hz hn hl
  exact lv_tableOut C.1 C.2.1 hd (by rw [iI_toInt]; exact hx) ht (k p e s m args below meth c H locs cls C hS hP hz hn hl)
theorem R_tabIn {dflt lo hi : Int} {offs : Array Int} {len : Nat} {x off : Int} {tgt : Nat} (hd : decode K.2.1 pc = .ok (.tableswitch dflt lo hi offs, len)) (h1 : ¬ wr x < lo) (h2 : ¬ hi < wr x) (ho : offs[(wr x - lo).toNat]? = some off) (ht : (pc : Int) + off = (tgt : Int)) (k : Rr l G K kc ks tgt ls st σ) : Rr l G K kc ks pc ls (ai x :: st) σ := by
  intro p e s m args below meth c H locs cls C hS hP hz hn hl
  exact lv_tableIn C.1 C.2.1 hd (by rw [iI_toInt]; exact h1) (by rw [iI_toInt]; exact h2) (by rw [iI_toInt]; exact ho) ht (k p e s m args below meth c H locs cls C hS hP hz hn hl)
theorem R_lcmp {x y : Int} (hd : decode K.2.1 pc = .ok (.lcmp, 1)) (k : ∀ z : Int, (x = y → z = 0) → Rr l G K kc ks (pc + 1) ls (ai z :: st) σ) : Rr l G K kc ks pc ls (al y :: al x :: st) σ := by
  intro p e s m args below meth c H locs cls C hS hP hz hn hl
  refine W.lcmp C.1 C.2.1 hd ?_
  rw [← iI_of (lg_cmp _ _)]
  exact k _ (fun q => by subst q; simp [lg_cmp]) p e s m args below meth c H locs cls C hS hP hz hn hl
end ROWS
end
section
/-! rows that read and write cells -/
theorem W_sz {p : Program} {l : Launch} {e : Env} {R : Room} {s : State} {m : MethodId} {args : Array Value} {below : List Frame} {meth : Method} {c : Code} {H : Heap} {locs : List Loc} {cells slots : Nat} {Q : State → Prop} {g : JFrame} (k : H.size ≤ s.heap.size + cells → W p l e R s m args below meth c H locs cells slots Q g) : W p l e R s m args below meth c H locs cells slots Q g := fun T hT X => k (by rw [← hT]; exact X.heapSize) T hT X
def up2 {α : Type} (I : Nat → Nat → α) (p k : Nat) (z : α) : Nat → Nat → α := fun q => if q = p then (fun j => if j = k then z else I q j) else I q
theorem up2_self {α : Type} (I : Nat → Nat → α) (p k : Nat) (z : α) : up2 I p k z p = fun j => if j = k then z else I p j := if_pos rfl
theorem up2_ne {α : Type} (I : Nat → Nat → α) {p q : Nat} (k : Nat) (z : α) (h : q ≠ p) : up2 I p k z q = I q := if_neg h
theorem up2_at {α : Type} (I : Nat → Nat → α) (p k q j : Nat) (z : α) : up2 I p k z q j = if q = p ∧ j = k then z else I q j := by
  unfold up2
  by_cases h : q = p
  · subst h
    simp
  · simp [h]
theorem fvs_get (G : GE) (f : Nat → Int) (g : Nat → Option Nat) : ∀ (ts : List Nat) (j k : Nat), (fvs G f g ts j)[k]? = (ts[k]?).map (fun t => fv G f g t (j + k))
  | [], j, k => by simp [fvs]
  | t :: ts, j, 0 => by simp [fvs]
  | t :: ts, j, k + 1 => by
    simp only [fvs, List.getElem?_cons_succ]
    rw [fvs_get G f g ts (j + 1) k, show j + 1 + k = j + (k + 1) by omega]
theorem fvs_len (G : GE) (f : Nat → Int) (g : Nat → Option Nat) : ∀ (ts : List Nat) (j : Nat), (fvs G f g ts j).length = ts.length
  | [], j => rfl
  | t :: ts, j => by simp [fvs, fvs_len G f g ts (j + 1)]
theorem fvs_set (G : GE) {f f' : Nat → Int} {g g' : Nat → Option Nat} {ts : List Nat} {k t : Nat} {v : Value} (hk : ts[k]? = some t) (hv : fv G f' g' t k = v) (ho : ∀ j, j ≠ k → f' j = f j ∧ g' j = g j) : (fvs G f g ts 0).set k v = fvs G f' g' ts 0 := by
  apply List.ext_getElem?
  intro i
  rw [List.getElem?_set, fvs_get, fvs_get, fvs_len]
  by_cases hi : k = i
  · subst hi
    rw [if_pos rfl, if_pos (List.getElem?_eq_some_iff.mp hk).1, hk]
    simp [hv]
  · rw [if_neg hi]
    obtain ⟨h1, h2⟩ := ho i (Ne.symm hi)
    cases ts[i]? with
    | none => rfl
    | some t2 =>
      simp only [Option.map_some, Nat.zero_add]
      congr 1
      unfold fv
      rw [h1, h2]
def FI (own : String) (idx ci k t : Nat) : Prop := ∃ (C : String) (T : u_T) (N : Nat), vwCl[ci]? = some (C, T, N) ∧ k < N ∧ Cond.fieldLink own idx (T k).1 (T k).2.1 (T k).2.2.1 ∈ TG ∧ (ftl.getD ci [])[k]? = some t
theorem inT0 : ∀ w ∈ wsX00, w ∈ TG := by decide +kernel
theorem inT1 : ∀ w ∈ wsX10, w ∈ TG := by decide +kernel
theorem inT2 : ∀ w ∈ wsX20, w ∈ TG := by decide +kernel
theorem inT3 : ∀ w ∈ wsX30, w ∈ TG := by decide +kernel
theorem inT4 : ∀ w ∈ wsX40, w ∈ TG := by decide +kernel
theorem inT5 : ∀ w ∈ wsX50, w ∈ TG := by decide +kernel
theorem inTG {ci : Nat} {C : String} {T : u_T} {N : Nat} (h : vwCl[ci]? = some (C, T, N)) : ∀ w ∈ u_ws C T N, w ∈ TG := by
  match ci, h with
  | 0, h => cases h; exact inT0
  | 1, h => cases h; exact inT1
  | 2, h => cases h; exact inT2
  | 3, h => cases h; exact inT3
  | 4, h => cases h; exact inT4
  | 5, h => cases h; exact inT5
  | n + 6, h => simp [vwCl] at h
def tyc : Nat → Nat → FieldType := fun ci => match ci with
  | 0 => tyX0
  | 1 => tyX1
  | 2 => tyX2
  | 3 => tyX3
  | 4 => tyX4
  | _ => tyX5
theorem tyc_ok {ci : Nat} {C : String} {T : u_T} {N : Nat} (h : vwCl[ci]? = some (C, T, N)) : ∀ k, k < N → parseFieldDescriptor (T k).2.2.1 = some (tyc ci k) := by
  match ci, h with
  | 0, h => cases h; exact tyX0_ok
  | 1, h => cases h; exact tyX1_ok
  | 2, h => cases h; exact tyX2_ok
  | 3, h => cases h; exact tyX3_ok
  | 4, h => cases h; exact tyX4_ok
  | 5, h => cases h; exact tyX5_ok
  | n + 6, h => simp [vwCl] at h
theorem nmc {ci : Nat} {C : String} {T : u_T} {N : Nat} (h : vwCl[ci]? = some (C, T, N)) : ∀ a, a < N → ∀ b, b < N → a ≠ b → (T a).2.1 ≠ (T b).2.1 := by
  match ci, h with
  | 0, h => cases h; exact nmX0
  | 1, h => cases h; exact nmX1
  | 2, h => cases h; exact nmX2
  | 3, h => cases h; exact nmX3
  | 4, h => cases h; exact nmX4
  | 5, h => cases h; exact nmX5
  | n + 6, h => simp [vwCl] at h
section HEAP
variable {l : Launch} {G : GE} {K : KT} {kc ks pc : Nat} {ls st : List AV} {σ : Sg}
theorem adr_lo {G : GE} {p : Nat} (h : p < 1000000) : adr G p = G.2.2.1 + p := if_pos h
theorem adr_hi (G : GE) (t : Nat) : adr G (1000000 + t) = G.2.2.2.1 t := by
  unfold adr
  rw [if_neg (by omega), Nat.add_sub_cancel_left]
theorem R_getF {idx ci k t n p : Nat} {v : AV} (hf : FI K.1 idx ci k t) (hd : decode K.2.1 pc = .ok (.getfield idx, 3)) (hk : kd σ p = (ci + 3, n)) (hp : p < σ.2.2.1) (hv : fv G (σ.1 p) (σ.2.1 p) t k = cv G v) (kk : Rr l G K kc ks (pc + 3) ls (v :: st) σ) : Rr l G K kc ks pc ls (ar p :: st) σ := by
  intro p2 e s m args below meth c H locs cls C hS hP hz hn hl
  obtain ⟨C', T, N, hc, hkN, hw, ht⟩ := hf
  have hcell : cellOf G σ p = .inr (ci, fvs G (σ.1 p) (σ.2.1 p) (ftl.getD ci []) 0) := by unfold cellOf; rw [hk]; rfl
  have hg := ws_get G σ hp
  rw [hcell] at hg
  show W _ _ _ _ _ _ _ _ _ _ _ _ _ _ _ (F0 m pc cls (.ref (adr G p) :: st.map (cv G)))
  rw [adr_lo (by have := hP.2; omega)]
  refine va_get C.1 C.2.1 C.2.2.2.2.2.1 (inTG hc) C.2.2.2.2.1 C.2.2.2.2.2.2.2.2.1.1 hP.1 p hg hc k hkN (C.2.2.2.2.2.1 _ hw) (fun _ q => q) (v := cv G v) (by rw [fvs_get, ht]; simp [hv]) hd ?_
  exact kk p2 e s m args below meth c H locs cls C hS hP hz hn hl
theorem R_getI {idx ci k n p : Nat} (hf : FI K.1 idx ci k 0) (hd : decode K.2.1 pc = .ok (.getfield idx, 3)) (hk : kd σ p = (ci + 3, n)) (hp : p < σ.2.2.1) (kk : Rr l G K kc ks (pc + 3) ls (ai (σ.1 p k) :: st) σ) : Rr l G K kc ks pc ls (ar p :: st) σ := R_getF hf hd hk hp rfl kk
theorem R_getL {idx ci k n p : Nat} (hf : FI K.1 idx ci k 2) (hd : decode K.2.1 pc = .ok (.getfield idx, 3)) (hk : kd σ p = (ci + 3, n)) (hp : p < σ.2.2.1) (kk : Rr l G K kc ks (pc + 3) ls (al (σ.1 p k) :: st) σ) : Rr l G K kc ks pc ls (ar p :: st) σ := R_getF hf hd hk hp rfl kk
theorem R_getA {idx ci k n p q : Nat} (hf : FI K.1 idx ci k 1) (hd : decode K.2.1 pc = .ok (.getfield idx, 3)) (hk : kd σ p = (ci + 3, n)) (hp : p < σ.2.2.1) (hq : σ.2.1 p k = some q) (kk : Rr l G K kc ks (pc + 3) ls (ar q :: st) σ) : Rr l G K kc ks pc ls (ar p :: st) σ := R_getF hf hd hk hp (by simp [fv, hq]; rfl) kk
theorem R_iaload {p n k : Nat} {z : Int} (hd : decode K.2.1 pc = .ok (.iaload, 1)) (hk : kd σ p = (0, n)) (hp : p < σ.2.2.1) (hz : z = k) (hkn : k < n) (hn : n < 2147483648) (kk : Rr l G K kc ks (pc + 1) ls (ai (σ.1 p k) :: st) σ) : Rr l G K kc ks pc ls (ai z :: ar p :: st) σ := by
  intro p2 e s m args below meth c H locs cls C hS hP hz2 hn2 hl
  subst hz
  have hcell : cellOf G σ p = .inl (G.2.1.1, n, .inl (fun j => iI (σ.1 p j))) := by unfold cellOf; rw [hk]; rfl
  have hg := ws_get G σ hp
  rw [hcell] at hg
  show W _ _ _ _ _ _ _ _ _ _ _ _ _ _ _ (F0 m pc cls (.int (iI k) :: .ref (adr G p) :: st.map (cv G)))
  rw [adr_lo (by have := hP.2; omega)]
  refine va_iald C.1 C.2.1 C.2.2.2.2.2.2.2.2.1.1 hP.1 p 0 hg rfl (iI_in hkn hn) hd ?_
  rw [iI_clamp (by omega)]
  exact kk p2 e s m args below meth c H locs cls C hS hP hz2 hn2 hl
theorem R_baload {p n k : Nat} {z : Int} (hd : decode K.2.1 pc = .ok (.baload, 1)) (hk : kd σ p = (1, n)) (hp : p < σ.2.2.1) (hz : z = k) (hkn : k < n) (hn : n < 2147483648) (kk : Rr l G K kc ks (pc + 1) ls (ai (σ.1 p k) :: st) σ) : Rr l G K kc ks pc ls (ai z :: ar p :: st) σ := by
  intro p2 e s m args below meth c H locs cls C hS hP hz2 hn2 hl
  subst hz
  have hcell : cellOf G σ p = .inl (G.2.1.2.1, n, .inl (fun j => iI (σ.1 p j))) := by unfold cellOf; rw [hk]; rfl
  have hg := ws_get G σ hp
  rw [hcell] at hg
  show W _ _ _ _ _ _ _ _ _ _ _ _ _ _ _ (F0 m pc cls (.int (iI k) :: .ref (adr G p) :: st.map (cv G)))
  rw [adr_lo (by have := hP.2; omega)]
  refine va_zald C.1 C.2.1 C.2.2.2.2.2.2.2.2.1.1 hP.1 p 1 hg rfl (iI_in hkn hn) hd ?_
  rw [iI_clamp (by omega)]
  exact kk p2 e s m args below meth c H locs cls C hS hP hz2 hn2 hl
theorem R_aaload {p n k q : Nat} {z : Int} (hd : decode K.2.1 pc = .ok (.aaload, 1)) (hk : kd σ p = (2, n)) (hp : p < σ.2.2.1) (hz : z = k) (hkn : k < n) (hn : n < 2147483648) (hq : σ.2.1 p k = some q) (kk : Rr l G K kc ks (pc + 1) ls (ar q :: st) σ) : Rr l G K kc ks pc ls (ai z :: ar p :: st) σ := by
  intro p2 e s m args below meth c H locs cls C hS hP hz2 hn2 hl
  subst hz
  have hcell : cellOf G σ p = .inl (G.2.1.2.2, n, .inr (.inr (.inr (.inr (fun j => (σ.2.1 p j).map (adr G)))))) := by unfold cellOf; rw [hk]; rfl
  have hg := ws_get G σ hp
  rw [hcell] at hg
  have ha : H[G.2.2.1 + p]? = some (arrV G.2.1.2.2 n (fun j => va_rf ((σ.2.1 p j).map (adr G)))) := hP.1 p _ hg
  show W _ _ _ _ _ _ _ _ _ _ _ _ _ _ _ (F0 m pc cls (.int (iI k) :: .ref (adr G p) :: st.map (cv G)))
  rw [adr_lo (by have := hP.2; omega)]
  refine W.aald (v := .ref (adr G q)) (ty := .array .int) C.1 C.2.1 ha ((C.2.2.2.2.2.2.2.2.1.1.2 2 _ rfl).1 n (fun j => va_rf ((σ.2.1 p j).map (adr G)))) rfl (fun q => by cases q) (by rw [arrV_size]; exact iI_in hkn hn) (by rw [iI_clamp (by omega), arrV_read _ _ hkn, hq]; rfl) rfl rfl hd ?_
  exact kk p2 e s m args below meth c H locs cls C hS hP hz2 hn2 hl
theorem R_alen {p n : Nat} (hd : decode K.2.1 pc = .ok (.arraylength, 1)) (hk : kd σ p = (0, n)) (hp : p < σ.2.2.1) (kk : Rr l G K kc ks (pc + 1) ls (ai n :: st) σ) : Rr l G K kc ks pc ls (ar p :: st) σ := by
  intro p2 e s m args below meth c H locs cls C hS hP hz2 hn2 hl
  have hcell : cellOf G σ p = .inl (G.2.1.1, n, .inl (fun j => iI (σ.1 p j))) := by unfold cellOf; rw [hk]; rfl
  have hg := ws_get G σ hp
  rw [hcell] at hg
  show W _ _ _ _ _ _ _ _ _ _ _ _ _ _ _ (F0 m pc cls (.ref (adr G p) :: st.map (cv G)))
  rw [adr_lo (by have := hP.2; omega)]
  refine va_alen C.1 C.2.1 C.2.2.2.2.2.2.2.2.1.1 hP.1 p 0 hg rfl (v := iI n) rfl hd ?_
  exact kk p2 e s m args below meth c H locs cls C hS hP hz2 hn2 hl
/-- what every write needs: the new picture, the size kept -/
theorem size_of {H : Heap} (hP : Rp G σ H) {s : State} {K : KT} {kc : Nat} (h0 : s.heap.size = G.2.2.1 + K.2.2.2.2.2.2.1) (hS : s.heap.size ≤ H.size) (hn : σ.2.2.1 = K.2.2.2.2.2.2.1 + kc) (hle : H.size ≤ s.heap.size + kc) : H.size = G.2.2.1 + σ.2.2.1 := by
  rcases Nat.eq_zero_or_pos σ.2.2.1 with h | h
  · omega
  · have := (hP.1 (σ.2.2.1 - 1) _ (ws_get G σ (by omega))).lt
    have : G.2.2.1 + (σ.2.2.1 - 1) < H.size := this
    omega
theorem R_iastore {p n k : Nat} {z x : Int} {I : Nat → Nat → Int} {σ2 : (Nat → Nat → Option Nat) × Nat × (Nat → Nat)} (hd : decode K.2.1 pc = .ok (.iastore, 1)) (hk : kd (I, σ2) p = (0, n)) (hp : p < σ2.2.1) (hz : z = k) (hkn : k < n) (hn : n < 2147483648) (kk : Rr l G K kc ks (pc + 1) ls st (up2 I p k x, σ2)) : Rr l G K kc ks pc ls (ai x :: ai z :: ar p :: st) (I, σ2) := by
  intro p2 e s m args below meth c H locs cls C hS hP hz2 hn2 hl
  subst hz
  have hcell : cellOf G (I, σ2) p = .inl (G.2.1.1, n, .inl (fun j => iI (I p j))) := by unfold cellOf; rw [hk]; rfl
  have hg := ws_get G (I, σ2) hp
  rw [hcell] at hg
  show W _ _ _ _ _ _ _ _ _ _ _ _ _ _ _ (F0 m pc cls (.int (iI x) :: .int (iI k) :: .ref (adr G p) :: st.map (cv G)))
  rw [adr_lo (by have := hP.2; have : p < σ2.2.1 := hp; dsimp only at *; omega)]
  refine va_iast C.1 C.2.1 C.2.2.2.2.2.2.2.2.1.1 hP.1 (ws_D G (I, σ2)) hS p 0 hg rfl (iI_in hkn hn) hd (fun H1 locs1 hP1 hD1 hS1 => ?_)
  rw [iI_clamp (by omega)] at hP1
  rw [ws_set G (I, σ2) (up2 I p k x, σ2) hp rfl (by
      unfold cellOf
      rw [show kd (up2 I p k x, σ2) p = (0, n) from hk]
      show cellAt G (0, n) (up2 I p k x p) _ = _
      rw [up2_self]
      unfold cellAt
      dsimp only
      congr 4
      funext j
      unfold upd
      split <;> rfl) (fun j hj => by
      unfold cellOf
      show cellAt G (kd (up2 I p k x, σ2) j) (up2 I p k x j) _ = _
      rw [up2_ne I k x hj]
      rfl)] at hP1
  have hR : Rp G (up2 I p k x, σ2) H1 := ⟨hP1, hP.2⟩
  exact W_sz fun hle => kk p2 e s m args below meth c H1 locs1 cls C hS1 hR (size_of (K := K) hR C.2.2.2.2.2.2.2.2.2 hS1.1 hn2 hle) hn2 hl
theorem nar_z {x : Int} (hx : x = 0 ∨ x = 1) : vp_nar .boolean (iI x) = iI x := by
  rcases hx with rfl | rfl <;> rfl
theorem R_bastore {p n k : Nat} {z x : Int} {I : Nat → Nat → Int} {σ2 : (Nat → Nat → Option Nat) × Nat × (Nat → Nat)} (hd : decode K.2.1 pc = .ok (.bastore, 1)) (hk : kd (I, σ2) p = (1, n)) (hp : p < σ2.2.1) (hz : z = k) (hkn : k < n) (hn : n < 2147483648) (hx : x = 0 ∨ x = 1) (kk : Rr l G K kc ks (pc + 1) ls st (up2 I p k x, σ2)) : Rr l G K kc ks pc ls (ai x :: ai z :: ar p :: st) (I, σ2) := by
  intro p2 e s m args below meth c H locs cls C hS hP hz2 hn2 hl
  subst hz
  have hcell : cellOf G (I, σ2) p = .inl (G.2.1.2.1, n, .inl (fun j => iI (I p j))) := by unfold cellOf; rw [hk]; rfl
  have hg := ws_get G (I, σ2) hp
  rw [hcell] at hg
  show W _ _ _ _ _ _ _ _ _ _ _ _ _ _ _ (F0 m pc cls (.int (iI x) :: .int (iI k) :: .ref (adr G p) :: st.map (cv G)))
  rw [adr_lo (by have := hP.2; have : p < σ2.2.1 := hp; dsimp only at *; omega)]
  refine va_zast C.1 C.2.1 C.2.2.2.2.2.2.2.2.1.1 hP.1 (ws_D G (I, σ2)) hS p 1 hg rfl (iI_in hkn hn) hd (fun H1 locs1 hP1 hD1 hS1 => ?_)
  rw [iI_clamp (by omega), nar_z hx] at hP1
  rw [ws_set G (I, σ2) (up2 I p k x, σ2) hp rfl (by
      unfold cellOf
      rw [show kd (up2 I p k x, σ2) p = (1, n) from hk]
      show cellAt G (1, n) (up2 I p k x p) _ = _
      rw [up2_self]
      unfold cellAt
      dsimp only
      congr 4
      funext j
      unfold upd
      split <;> rfl) (fun j hj => by
      unfold cellOf
      show cellAt G (kd (up2 I p k x, σ2) j) (up2 I p k x j) _ = _
      rw [up2_ne I k x hj]
      rfl)] at hP1
  have hR : Rp G (up2 I p k x, σ2) H1 := ⟨hP1, hP.2⟩
  exact W_sz fun hle => kk p2 e s m args below meth c H1 locs1 cls C hS1 hR (size_of (K := K) hR C.2.2.2.2.2.2.2.2.2 hS1.1 hn2 hle) hn2 hl
end HEAP
end
section
/-! putfield, statics, tables -/
def FP (ci k t : Nat) : Prop := match t with
  | 0 => tyc ci k = .int
  | 1 => (∃ n, tyc ci k = .object n) ∨ ∃ y, tyc ci k = .array y
  | _ => tyc ci k = .long
theorem fp_nf {ci k t : Nat} {v : Value} (h : FP ci k t) (hv : (t = 0 ∧ ∃ x, v = .int x) ∨ (t = 1 ∧ ∃ a, v = .ref a) ∨ (t = 2 ∧ ∃ x, v = .long x)) : narrow (tyc ci k) v = v ∧ fits (tyc ci k) v = true := by
  rcases hv with ⟨rfl, x, rfl⟩ | ⟨rfl, x, rfl⟩ | ⟨rfl, x, rfl⟩
  · rw [show tyc ci k = .int from h]
    exact ⟨rfl, rfl⟩
  · rcases h with ⟨n, h⟩ | ⟨y, h⟩ <;> rw [h] <;> exact ⟨rfl, rfl⟩
  · rw [show tyc ci k = .long from h]
    exact ⟨rfl, rfl⟩
theorem X_lt {b L : Nat} {xs : Nat → Int32} {U : State} {H : Heap} (h : va_X b L xs U H) : b < H.size := by
  obtain ⟨scr, h8, -⟩ := h
  exact (Array.getElem?_eq_some_iff.mp h8).1
section HEAP2
variable {l : Launch} {G : GE} {K : KT} {kc ks pc : Nat} {ls st : List AV} {σ : Sg}
theorem put_next {idx ci k t n p : Nat} {v : AV} {I I' : Nat → Nat → Int} {Rf Rf' : Nat → Nat → Option Nat} {σ3 : Nat × (Nat → Nat)} (hk : kd (I, Rf, σ3) p = (ci + 3, n)) (hp : p < σ3.1) (ht : (ftl.getD ci [])[k]? = some t) (hv : fv G (I' p) (Rf' p) t k = cv G v) (ho : ∀ j, j ≠ k → I' p j = I p j ∧ Rf' p j = Rf p j) (hq : ∀ q, q ≠ p → I' q = I q ∧ Rf' q = Rf q) : (wsOf G (I, Rf, σ3)).set p (G.2.2.1 + p, .inr (ci, (fvs G (I p) (Rf p) (ftl.getD ci []) 0).set k (cv G v))) = wsOf G (I', Rf', σ3) := by
  refine ws_set G (I, Rf, σ3) (I', Rf', σ3) hp rfl ?_ (fun j hj => ?_)
  · unfold cellOf
    rw [show kd (I', Rf', σ3) p = (ci + 3, n) from hk]
    show (Sum.inr (ci, fvs G (I' p) (Rf' p) (ftl.getD ci []) 0) : va_E) = _
    rw [fvs_set G ht hv ho]
  · unfold cellOf
    show cellAt G (kd (I', Rf', σ3) j) (I' j) (Rf' j) = cellAt G (kd (I, Rf, σ3) j) (I j) (Rf j)
    rw [(hq j hj).1, (hq j hj).2]
    rfl
theorem R_putF {idx ci k t n p : Nat} {v : AV} {fin : Bool} {I I' : Nat → Nat → Int} {Rf Rf' : Nat → Nat → Option Nat} {σ3 : Nat × (Nat → Nat)} (hf : FI K.1 idx ci k t) (hd : decode K.2.1 pc = .ok (.putfield idx, 3)) (hfp : FP ci k t) (hvt : (t = 0 ∧ ∃ x, cv G v = .int x) ∨ (t = 1 ∧ ∃ a, cv G v = .ref a) ∨ (t = 2 ∧ ∃ x, cv G v = .long x)) (hfin : ∀ C T N, vwCl[ci]? = some (C, T, N) → ((T k).2.2.2 = false ∨ ((T k).2.2.2 = true ∧ (T k).1 = K.1 ∧ K.2.2.2.2.1 = "<init>")))
    (hk : kd (I, Rf, σ3) p = (ci + 3, n)) (hp : p < σ3.1) (hv : fv G (I' p) (Rf' p) t k = cv G v) (ho : ∀ j, j ≠ k → I' p j = I p j ∧ Rf' p j = Rf p j) (hq : ∀ q, q ≠ p → I' q = I q ∧ Rf' q = Rf q) (kk : Rr l G K kc ks (pc + 3) ls st (I', Rf', σ3)) : Rr l G K kc ks pc ls (v :: ar p :: st) (I, Rf, σ3) := by
  intro p2 e s m args below meth c H locs cls C hS hP hz2 hn2 hl
  obtain ⟨C', T, N, hc, hkN, hw, ht⟩ := hf
  have hcell : cellOf G (I, Rf, σ3) p = .inr (ci, fvs G (I p) (Rf p) (ftl.getD ci []) 0) := by unfold cellOf; rw [hk]; rfl
  have hg := ws_get G (I, Rf, σ3) hp
  rw [hcell] at hg
  show W _ _ _ _ _ _ _ _ _ _ _ _ _ _ _ (F0 m pc cls (cv G v :: .ref (adr G p) :: st.map (cv G)))
  rw [adr_lo (by have := hP.2; have : p < σ3.1 := hp; dsimp only at *; omega)]
  have hnf := fp_nf hfp hvt
  have hlen : k < (fvs G (I p) (Rf p) (ftl.getD ci []) 0).length := by rw [fvs_len]; exact (List.getElem?_eq_some_iff.mp ht).1
  have fin2 : ∀ (H1 : Heap) (locs1 : List Loc), va_P G.1 vwCl ((wsOf G (I, Rf, σ3)).set p (G.2.2.1 + p, .inr (ci, (fvs G (I p) (Rf p) (ftl.getD ci []) 0).set k (cv G v)))) H1 → va_S (AA G) s.heap H1 locs1 → W p2 l e K.2.2.2.2.2.1 s m args below meth c H1 locs1 kc ks (K.2.2.2.2.2.2.2 below args s) (F0 m (pc + 3) cls (st.map (cv G))) := by
    intro H1 locs1 hP1 hS1
    rw [put_next (idx := idx) hk hp ht hv ho hq] at hP1
    have hR : Rp G (I', Rf', σ3) H1 := ⟨hP1, hP.2⟩
    exact W_sz fun hle => kk p2 e s m args below meth c H1 locs1 cls C hS1 hR (size_of (K := K) hR C.2.2.2.2.2.2.2.2.2 hS1.1 hn2 hle) hn2 hl
  rcases hfin C' T N hc with h | ⟨h1, h2, h3⟩
  · exact va_put C.1 C.2.1 C.2.2.2.2.2.1 (inTG hc) (tyc ci) (tyc_ok hc) (nmc hc) C.2.2.2.2.1 C.2.2.2.2.2.2.2.2.1.1 hP.1 (ws_D G (I, Rf, σ3)) hS p hg hc k hkN (C.2.2.2.2.2.1 _ hw) (fun _ q => q) h (tyc_ok hc k hkN) hnf.1 hnf.2 hlen hd (fun H1 locs1 hP1 _ hS1 => fin2 H1 locs1 hP1 hS1)
  · exact va_putF C.1 C.2.1 C.2.2.2.2.2.1 (inTG hc) (tyc ci) (tyc_ok hc) (nmc hc) C.2.2.2.2.1 C.2.2.2.2.2.2.2.2.1.1 hP.1 (ws_D G (I, Rf, σ3)) hS p hg hc k hkN (C.2.2.2.2.2.1 _ hw) (fun _ q => q) h1 (C.2.2.2.2.2.2.2.1.trans h3) h2 (tyc_ok hc k hkN) hnf.1 hnf.2 hlen hd (fun H1 locs1 hP1 _ hS1 => fin2 H1 locs1 hP1 hS1)
/-- a field that may be written here -/
def FW (own nm : String) (ci k : Nat) : Prop := ∀ C T N, vwCl[ci]? = some (C, T, N) → ((T k).2.2.2 = false ∨ ((T k).2.2.2 = true ∧ (T k).1 = own ∧ nm = "<init>"))
theorem R_putI {idx ci k n p : Nat} {x : Int} {I : Nat → Nat → Int} {Rf : Nat → Nat → Option Nat} {σ3 : Nat × (Nat → Nat)} (hf : FI K.1 idx ci k 0) (hd : decode K.2.1 pc = .ok (.putfield idx, 3)) (hfp : FP ci k 0) (hfin : FW K.1 K.2.2.2.2.1 ci k) (hk : kd (I, Rf, σ3) p = (ci + 3, n)) (hp : p < σ3.1) (kk : Rr l G K kc ks (pc + 3) ls st (up2 I p k x, Rf, σ3)) : Rr l G K kc ks pc ls (ai x :: ar p :: st) (I, Rf, σ3) :=
  R_putF (fin := false) hf hd hfp (Or.inl ⟨rfl, _, rfl⟩) hfin hk hp (by rw [up2_self]; simp [fv, cv]) (fun j hj => ⟨by rw [up2_self]; simp [hj], rfl⟩) (fun q hq => ⟨up2_ne I k x hq, rfl⟩) kk
theorem R_putL {idx ci k n p : Nat} {x : Int} {I : Nat → Nat → Int} {Rf : Nat → Nat → Option Nat} {σ3 : Nat × (Nat → Nat)} (hf : FI K.1 idx ci k 2) (hd : decode K.2.1 pc = .ok (.putfield idx, 3)) (hfp : FP ci k 2) (hfin : FW K.1 K.2.2.2.2.1 ci k) (hk : kd (I, Rf, σ3) p = (ci + 3, n)) (hp : p < σ3.1) (kk : Rr l G K kc ks (pc + 3) ls st (up2 I p k x, Rf, σ3)) : Rr l G K kc ks pc ls (al x :: ar p :: st) (I, Rf, σ3) :=
  R_putF (fin := false) hf hd hfp (Or.inr (Or.inr ⟨rfl, _, rfl⟩)) hfin hk hp (by rw [up2_self]; simp [fv, cv]) (fun j hj => ⟨by rw [up2_self]; simp [hj], rfl⟩) (fun q hq => ⟨up2_ne I k x hq, rfl⟩) kk
theorem R_putA {idx ci k n p q : Nat} {I : Nat → Nat → Int} {Rf : Nat → Nat → Option Nat} {σ3 : Nat × (Nat → Nat)} (hf : FI K.1 idx ci k 1) (hd : decode K.2.1 pc = .ok (.putfield idx, 3)) (hfp : FP ci k 1) (hfin : FW K.1 K.2.2.2.2.1 ci k) (hk : kd (I, Rf, σ3) p = (ci + 3, n)) (hp : p < σ3.1) (kk : Rr l G K kc ks (pc + 3) ls st (I, up2 Rf p k (some q), σ3)) : Rr l G K kc ks pc ls (ar q :: ar p :: st) (I, Rf, σ3) :=
  R_putF (fin := false) hf hd hfp (Or.inr (Or.inl ⟨rfl, _, rfl⟩)) hfin hk hp (by rw [up2_self]; simp [fv, cv, va_rf]) (fun j hj => ⟨rfl, by rw [up2_self]; simp [hj]⟩) (fun q2 hq => ⟨rfl, up2_ne Rf k (some q) hq⟩) kk
theorem R_gets {idx t : Nat} (ht : t < 5) (hw : Cond.fieldLink K.1 idx RX4 (tnm t) "[I" ∈ TG) (hd : decode K.2.1 pc = .ok (.getstatic idx, 3)) (kk : Rr l G K kc ks (pc + 3) ls (ar (1000000 + t) :: st) σ) : Rr l G K kc ks pc ls st σ := by
  intro p2 e s m args below meth c H locs cls C hS hP hz2 hn2 hl
  refine va_gets C.1 C.2.1 (C.2.2.2.2.2.2.2.2.1.2.2.2.1 t ht) hS C.2.2.2.2.1 (C.2.2.2.2.2.1 _ hw) (fun _ q => q) hd ?_
  rw [← adr_hi G t]
  exact kk p2 e s m args below meth c H locs cls C hS hP hz2 hn2 hl
theorem R_getsN {idx t : Nat} (ht : t < 5) (hw : Cond.fieldLinkNest K.1 idx RX4 (tnm t) "[I" RX4 ∈ nestW) (hd : decode K.2.1 pc = .ok (.getstatic idx, 3)) (kk : Rr l G K kc ks (pc + 3) ls (ar (1000000 + t) :: st) σ) : Rr l G K kc ks pc ls st σ := by
  intro p2 e s m args below meth c H locs cls C hS hP hz2 hn2 hl
  refine va_getsN C.1 C.2.1 (C.2.2.2.2.2.2.2.2.1.2.2.2.1 t ht) hS C.2.2.2.2.1 (va_Nw.use rfl (C.2.2.2.2.2.2.2.2.1.2.1 _ hw)) (fun _ q => q) hd ?_
  rw [← adr_hi G t]
  exact kk p2 e s m args below meth c H locs cls C hS hP hz2 hn2 hl
theorem R_tald {t k : Nat} {z : Int} (ht : t < 6) (hd : decode K.2.1 pc = .ok (.iaload, 1)) (hz : z = k) (hk : k < tN G t) (hN : tN G t < 2147483648) (kk : Rr l G K kc ks (pc + 1) ls (ai (tF G t k) :: st) σ) : Rr l G K kc ks pc ls (ai z :: ar (1000000 + t) :: st) σ := by
  intro p2 e s m args below meth c H locs cls C hS hP hz2 hn2 hl
  subst hz
  show W _ _ _ _ _ _ _ _ _ _ _ _ _ _ _ (F0 m pc cls (.int (iI k) :: .ref (adr G (1000000 + t)) :: st.map (cv G)))
  rw [adr_hi G t]
  obtain ⟨hX, hlt⟩ := C.2.2.2.2.2.2.2.2.1.2.2.2.2 t ht
  refine va_sld (A := AA G) C.1 C.2.1 hX (X_lt hX) (Nat.not_le.mpr hlt) hS (iI_in hk hN) hd ?_
  rw [iI_clamp (by omega)]
  exact kk p2 e s m args below meth c H locs cls C hS hP hz2 hn2 hl
theorem R_tlen {t : Nat} (ht : t < 6) (hd : decode K.2.1 pc = .ok (.arraylength, 1)) (kk : Rr l G K kc ks (pc + 1) ls (ai (tN G t) :: st) σ) : Rr l G K kc ks pc ls (ar (1000000 + t) :: st) σ := by
  intro p2 e s m args below meth c H locs cls C hS hP hz2 hn2 hl
  show W _ _ _ _ _ _ _ _ _ _ _ _ _ _ _ (F0 m pc cls (.ref (adr G (1000000 + t)) :: st.map (cv G)))
  rw [adr_hi G t]
  obtain ⟨hX, hlt⟩ := C.2.2.2.2.2.2.2.2.1.2.2.2.2 t ht
  refine va_slen (A := AA G) C.1 C.2.1 hX (X_lt hX) (Nat.not_le.mpr hlt) hS hd ?_
  exact kk p2 e s m args below meth c H locs cls C hS hP hz2 hn2 hl
end HEAP2
end
section
/-! contracts over abstract states; entry, return, calls -/
/-- name, code, locals, answer's type, frames below, words below -/
abbrev MI : Type := MethodName × ByteArray × Nat × Option FieldType × Nat × Nat
def wsM (mi : MI) : List Cond := Cond.code mi.1 mi.2.1 mi.2.2.1 mi.2.2.2.1 :: TG
def rmM (mi : MI) (mc ms : Nat) : Room := { frames := mi.2.2.2.2.1, cells := mc, slots := ms, locals := mi.2.2.2.2.2 }
def Pm (G : GE) (as : List AV) (σ : Sg) : Array Value → State → Prop := fun v U => v = (as.map (cv G)).toArray ∧ U.heap.size = G.2.2.1 + σ.2.2.1 ∧ Rp G σ U.heap ∧ GK G U
def Qm (G : GE) (n0 mc : Nat) (Q : Option AV → Sg → Prop) : Array Value → State → Outcome → State → Prop := fun _ st o t => (∃ (r : Option AV) (σ' : Sg), o = .returned (r.map (cv G)) ∧ Q r σ' ∧ σ'.2.2.1 = n0 + mc ∧ Rp G σ' t.heap ∧ t.heap.size = G.2.2.1 + σ'.2.2.1) ∧ va_F (AA G) st t
def Mt (l : Launch) (G : GE) (mi : MI) (mc ms : Nat) (as : List AV) (σ : Sg) (Q : Option AV → Sg → Prop) : Prop :=
  Met l mi.1 (wsM mi) (rmM mi mc ms) (Pm G as σ) (Qm G σ.2.2.1 mc Q) mc ms (AA G)
def Zm (G : GE) (n0 mc ms : Nat) (Q : Option AV → Sg → Prop) : Zt := fun below args s => MQ below (Qm G n0 mc Q) args s mc ms (AA G)
def Km (G : GE) (mi : MI) (mc ms n0 : Nat) (Q : Option AV → Sg → Prop) : KT := (mi.1.cls, mi.2.1, mi.2.2.1, mi.2.2.2.1, mi.1.name, rmM mi mc ms, n0, Zm G n0 mc ms Q)
def entL : List AV → List AV
  | [] => []
  | some (.inr (.inr z)) :: vs => some (.inr (.inr z)) :: none :: entL vs
  | v :: vs => v :: entL vs
def ent (as : List AV) (n : Nat) : List AV := entL as ++ List.replicate (n - (entL as).length) none
theorem ent_len (G : GE) : ∀ as : List AV, (lg_sl (as.map (cv G))).length = (entL as).length
  | [] => rfl
  | none :: vs => by
    have e : lg_sl (Value.null :: vs.map (cv G)) = Slot.val Value.null :: lg_sl (vs.map (cv G)) := rfl
    show (lg_sl (Value.null :: vs.map (cv G))).length = (none :: entL vs).length
    rw [e, List.length_cons, List.length_cons, ent_len G vs]
  | some (.inl z) :: vs => by
    have e : lg_sl (Value.int (iI z) :: vs.map (cv G)) = Slot.val (Value.int (iI z)) :: lg_sl (vs.map (cv G)) := rfl
    show (lg_sl (Value.int (iI z) :: vs.map (cv G))).length = (some (.inl z) :: entL vs).length
    rw [e, List.length_cons, List.length_cons, ent_len G vs]
  | some (.inr (.inl z)) :: vs => by
    have e : lg_sl (Value.ref (adr G z) :: vs.map (cv G)) = Slot.val (Value.ref (adr G z)) :: lg_sl (vs.map (cv G)) := rfl
    show (lg_sl (Value.ref (adr G z) :: vs.map (cv G))).length = (some (.inr (.inl z)) :: entL vs).length
    rw [e, List.length_cons, List.length_cons, ent_len G vs]
  | some (.inr (.inr z)) :: vs => by
    have e : lg_sl (Value.long (lI z) :: vs.map (cv G)) = Slot.val (Value.long (lI z)) :: Slot.second :: lg_sl (vs.map (cv G)) := rfl
    show (lg_sl (Value.long (lI z) :: vs.map (cv G))).length = (some (.inr (.inr z)) :: none :: entL vs).length
    rw [e, List.length_cons, List.length_cons, List.length_cons, List.length_cons, ent_len G vs]
theorem ent_in (G : GE) : ∀ (as : List AV) (i k : Nat) (v : Int ⊕ Nat ⊕ Int), (entL as)[k]? = some (some v) → (i + k, cv G (some v)) ∈ lv_args i (as.map (cv G))
  | [], i, k, v, h => by simp [entL] at h
  | none :: vs, i, k, v, h => by
    cases k with
    | zero => simp [entL] at h
    | succ k =>
      have h2 : (entL vs)[k]? = some (some v) := by simpa [entL] using h
      have := ent_in G vs (i + 1) k v h2
      show _ ∈ (i, Value.null) :: lv_args (i + 1) (vs.map (cv G))
      rw [show i + (k + 1) = i + 1 + k by omega]
      exact List.mem_cons_of_mem _ this
  | some (.inl z) :: vs, i, k, v, h => by
    cases k with
    | zero =>
      have : v = .inl z := by simpa [entL] using h.symm
      subst this
      exact List.mem_cons_self
    | succ k =>
      have h2 : (entL vs)[k]? = some (some v) := by simpa [entL] using h
      have := ent_in G vs (i + 1) k v h2
      show _ ∈ (i, Value.int (iI z)) :: lv_args (i + 1) (vs.map (cv G))
      rw [show i + (k + 1) = i + 1 + k by omega]
      exact List.mem_cons_of_mem _ this
  | some (.inr (.inl z)) :: vs, i, k, v, h => by
    cases k with
    | zero =>
      have : v = .inr (.inl z) := by simpa [entL] using h.symm
      subst this
      exact List.mem_cons_self
    | succ k =>
      have h2 : (entL vs)[k]? = some (some v) := by simpa [entL] using h
      have := ent_in G vs (i + 1) k v h2
      show _ ∈ (i, Value.ref (adr G z)) :: lv_args (i + 1) (vs.map (cv G))
      rw [show i + (k + 1) = i + 1 + k by omega]
      exact List.mem_cons_of_mem _ this
  | some (.inr (.inr z)) :: vs, i, k, v, h => by
    cases k with
    | zero =>
      have : v = .inr (.inr z) := by simpa [entL] using h.symm
      subst this
      exact List.mem_cons_self
    | succ k =>
      cases k with
      | zero => simp [entL] at h
      | succ k =>
        have h2 : (entL vs)[k]? = some (some v) := by simpa [entL] using h
        have := ent_in G vs (i + 2) k v h2
        show _ ∈ (i, Value.long (lI z)) :: lv_args (i + 2) (vs.map (cv G))
        rw [show i + (k + 1 + 1) = i + 2 + k by omega]
        exact List.mem_cons_of_mem _ this
theorem ent_sub (G : GE) (as : List AV) (n : Nat) : ∀ q ∈ lvL G (ent as n), q ∈ lv_args 0 (as.map (cv G)) := by
  intro q hq
  obtain ⟨v, hv, he⟩ := lvL_mem.mp hq
  obtain ⟨a, b⟩ := q
  dsimp only at hv he
  subst he
  unfold ent at hv
  by_cases h : a < (entL as).length
  · rw [List.getElem?_append_left h] at hv
    have := ent_in G as 0 a v hv
    rwa [Nat.zero_add] at this
  · rw [List.getElem?_append_right (by omega), List.getElem?_replicate] at hv
    split at hv <;> cases hv
theorem Mt.of {l : Launch} {G : GE} {mi : MI} {mc ms : Nat} {as : List AV} {σ : Sg} {Q : Option AV → Sg → Prop} (hy : plainName mi.1.cls = true) (hl : (entL as).length ≤ mi.2.2.1) (k : Rr l G (Km G mi mc ms σ.2.2.1 Q) 0 0 0 (ent as mi.2.2.1) [] σ) : Mt l G mi mc ms as σ Q := by
  refine Met.ofW (cc := mi.2.1) (maxL := mi.2.2.1) (ret := mi.2.2.2.1) hy rfl ?_
  intro p e s m args below meth c s₁ B hml hv
  obtain ⟨rfl, hsz, hP, hG⟩ := hv
  have hts := atoms_spec (ws := wsM mi) B.pre
  rw [lg_entry_eq]
  exact k p e s m _ below meth c s.heap [] _ ⟨B.exec, B.bytes, hml, B.returns, findClass_of_methodNamed B.named, fun w hw => hts w (List.mem_cons_of_mem _ hw), B.notSynchronized, (name_of_methodNamed B.named B.method).1, hG, hsz⟩ va_S.rf hP hsz rfl (lv_mono (lv_entry (as.map (cv G)) (n := mi.2.2.1) (by rw [ent_len]; exact hl)) (ent_sub G as _))
/-- a weaker end -/
theorem Mt.mono {l : Launch} {G : GE} {mi : MI} {mc ms : Nat} {as : List AV} {σ : Sg} {Q Q' : Option AV → Sg → Prop} (h : Mt l G mi mc ms as σ Q) (hq : ∀ r σ', σ'.2.2.1 = σ.2.2.1 + mc → Q r σ' → Q' r σ') : Mt l G mi mc ms as σ Q' := by
  intro p e ha hc hk s m args below hf hap hP hX
  obtain ⟨t, o, h1, h2, h3, ⟨⟨⟨r, σ', q1, q2, q3, q4⟩, q5⟩, q6⟩⟩ := h p e ha hc hk s m args below hf hap hP hX
  exact ⟨t, o, h1, h2, h3, ⟨⟨⟨r, σ', q1, hq r σ' q3 q2, q3, q4⟩, q5⟩, q6⟩⟩
section RET
variable {l : Launch} {G : GE} {K : KT} {mc ms kc ks pc : Nat} {ls : List AV} {σ : Sg} {Q : Option AV → Sg → Prop}
theorem R_iret {z : Int} (hd : decode K.2.1 pc = .ok (.ireturn, 1)) (hZ : K.2.2.2.2.2.2.2 = Zm G K.2.2.2.2.2.2.1 mc ms Q) (hr : K.2.2.2.1 = some .int) (hc : kc = mc) (hs : ks ≤ ms) (hQ : Q (some (ai z)) σ) : Rr l G K kc ks pc ls [ai z] σ := by
  intro p e s m args below meth c H locs cls C hS hP hz hn hl
  subst hc
  rw [hZ]
  refine W.widen (k := kc) (n := ms) (Nat.le_refl _) hs ?_
  exact W.iret C.1 C.2.1 (C.2.2.2.1.trans hr) (fun t ht hW => ⟨⟨some (ai z), σ, rfl, hQ, hn, by rw [ht]; exact hP, by rw [ht]; exact hz⟩, hS.F ht⟩) hS.2.2 hd (hlocks := C.2.2.2.2.2.2.1)
theorem R_zret {z : Int} (hd : decode K.2.1 pc = .ok (.ireturn, 1)) (hZ : K.2.2.2.2.2.2.2 = Zm G K.2.2.2.2.2.2.1 mc ms Q) (hr : K.2.2.2.1 = some .boolean) (hz1 : z = 0 ∨ z = 1) (hc : kc = mc) (hs : ks ≤ ms) (hQ : Q (some (ai z)) σ) : Rr l G K kc ks pc ls [ai z] σ := by
  intro p e s m args below meth c H locs cls C hS hP hz hn hl
  subst hc
  rw [hZ]
  refine W.widen (k := kc) (n := ms) (Nat.le_refl _) hs ?_
  exact W.zret C.1 C.2.1 (C.2.2.2.1.trans hr) (by rcases hz1 with rfl | rfl <;> rfl) (fun t ht hW => ⟨⟨some (ai z), σ, rfl, hQ, hn, by rw [ht]; exact hP, by rw [ht]; exact hz⟩, hS.F ht⟩) hS.2.2 hd (hlocks := C.2.2.2.2.2.2.1)
theorem R_lret {z : Int} (hd : decode K.2.1 pc = .ok (.lreturn, 1)) (hZ : K.2.2.2.2.2.2.2 = Zm G K.2.2.2.2.2.2.1 mc ms Q) (hr : K.2.2.2.1 = some .long) (hc : kc = mc) (hs : ks ≤ ms) (hQ : Q (some (al z)) σ) : Rr l G K kc ks pc ls [al z] σ := by
  intro p e s m args below meth c H locs cls C hS hP hz hn hl
  subst hc
  rw [hZ]
  refine W.widen (k := kc) (n := ms) (Nat.le_refl _) hs ?_
  exact W.lret C.1 C.2.1 (C.2.2.2.1.trans hr) (fun t ht hW => ⟨⟨some (al z), σ, rfl, hQ, hn, by rw [ht]; exact hP, by rw [ht]; exact hz⟩, hS.F ht⟩) hS.2.2 hd (hlocks := C.2.2.2.2.2.2.1)
theorem R_vret (hd : decode K.2.1 pc = .ok (.return_, 1)) (hZ : K.2.2.2.2.2.2.2 = Zm G K.2.2.2.2.2.2.1 mc ms Q) (hr : K.2.2.2.1 = none) (hc : kc = mc) (hs : ks ≤ ms) (hQ : Q (none) σ) : Rr l G K kc ks pc ls [] σ := by
  intro p e s m args below meth c H locs cls C hS hP hz hn hl
  subst hc
  rw [hZ]
  refine W.widen (k := kc) (n := ms) (Nat.le_refl _) hs ?_
  exact W.vret C.1 C.2.1 (C.2.2.2.1.trans hr) (fun t ht hW => ⟨⟨none, σ, rfl, hQ, hn, by rw [ht]; exact hP, by rw [ht]; exact hz⟩, hS.F ht⟩) hS.2.2 hd (hlocks := C.2.2.2.2.2.2.1)
end RET
section CALL
variable {l : Launch} {G : GE} {K : KT} {kc ks pc : Nat} {ls st : List AV} {σ : Sg}
theorem Pm_blind (G : GE) (as : List AV) (σ : Sg) : FrameBlind (Pm G as σ) := fun _ _ _ _ h => ⟨h.1, h.2.1, h.2.2.1, h.2.2.2.calling⟩
theorem Pm_at {p : Program} {s : State} {m : MethodId} {args : Array Value} {meth : Method} {c : Code} {H : Heap} {locs : List Loc} (C : Cx G K p s m args meth c) (hS : va_S (AA G) s.heap H locs) (hP : Rp G σ H) (hz : H.size = G.2.2.1 + σ.2.2.1) (as : List AV) : ∀ U : State, U.heap = H → s.WarmedH U.vm → Pm G as σ (as.map (cv G)).toArray U :=
  fun U hU hW => ⟨rfl, by rw [hU]; exact hz, by rw [hU]; exact hP, GK.warm hW (fun q h1 h2 => by rw [hU]; exact hS.2.1 q h1 h2) C.2.2.2.2.2.2.2.2.1⟩
theorem R_after {p : Program} {e : Env} {s : State} {m : MethodId} {args : Array Value} {below : List Frame} {meth : Method} {c : Code} {H : Heap} {locs : List Loc} {cls : Array Slot} {mc ms : Nat} {st0 : List Value} {rest : List AV} {a : Array Value} {Qc : Option AV → Sg → Prop}
    (C : Cx G K p s m args meth c) (hr : va_Run p l e K.2.2.2.2.2.1 s m args below meth c H locs kc ks mc ms (F0 m pc cls st0) (rest.map (cv G)) (Qm G σ.2.2.1 mc Qc a) (AA G)) (hS : va_S (AA G) s.heap H locs) (hn : σ.2.2.1 = K.2.2.2.2.2.2.1 + kc) (hl : lv_has cls K.2.2.1 (lvL G ls))
    (kk : ∀ r σ', Qc r σ' → σ'.2.2.1 = σ.2.2.1 + mc → Rr l G K (kc + mc) (ks + ms) (pc + 3) ls (r.toList ++ rest) σ') : W p l e K.2.2.2.2.2.1 s m args below meth c H locs kc ks (K.2.2.2.2.2.2.2 below args s) (F0 m pc cls st0) := by
  intro T hT X
  obtain ⟨v, st₀, t, T', L, h0, X', hL, e1, e2, ⟨⟨r, σ', hv, hQ, hnx, hR, hz⟩, hF⟩, go⟩ := hr T hT X
  cases hv
  have hS1 : va_S (AA G) s.heap T'.heap (locs ++ L) := by
    refine ⟨Nat.le_trans hS.1 (by rw [e1, ← h0]; exact hF.1), fun q h1 h2 => ?_, fun q hq => ?_⟩
    · rw [e1, hF.2 q (by rw [h0]; exact Nat.lt_of_lt_of_le h1 hS.1) h2, h0]
      exact hS.2.1 q h1 h2
    · rcases List.mem_append.mp hq with h | h
      · exact hS.2.2 q h
      · exact hL q h
  have w := kk r σ' hQ hnx p e s m args below meth c T'.heap (locs ++ L) cls C hS1 (by rw [e1]; exact hR) (by rw [e1]; exact hz) (by omega) hl
  obtain ⟨t2, a1, b1⟩ := w T' rfl X'
  refine ⟨t2, go t2 ?_, b1⟩
  have : (r.toList ++ rest).map (cv G) = (r.map (cv G)).toList ++ rest.map (cv G) := by cases r <;> simp
  rw [this] at a1
  exact a1
/-- a callee's words -/
def CB (own : String) (idx : Nat) (mi : MI) (n : Nat) : Prop := Cond.methodLink own idx mi.1 ∈ TG ∧ Cond.initialized mi.1.cls ∈ TG ∧ Cond.code mi.1 mi.2.1 mi.2.2.1 mi.2.2.2.1 ∈ TG ∧ (mi.1.cls ≠ "java/lang/invoke/MethodHandle" ∧ mi.1.cls ≠ "java/lang/invoke/VarHandle" ∧ (parseMethodDescriptor mi.1.desc).map (fun d => d.parameters.length) = some n)
def CBN (own : String) (idx : Nat) (mi : MI) (n : Nat) : Prop := Cond.methodLinkNest own idx mi.1 RX4 ∈ nestW ∧ Cond.initialized mi.1.cls ∈ TG ∧ Cond.code mi.1 mi.2.1 mi.2.2.1 mi.2.2.2.1 ∈ TG ∧ (mi.1.cls ≠ "java/lang/invoke/MethodHandle" ∧ mi.1.cls ≠ "java/lang/invoke/VarHandle" ∧ (parseMethodDescriptor mi.1.desc).map (fun d => d.parameters.length) = some n)
def CR (K : KT) (mi : MI) : Prop := mi.2.2.2.2.1 + 1 ≤ K.2.2.2.2.2.1.frames ∧ 8 + (mi.2.2.1 + 11) + mi.2.2.2.2.2 ≤ K.2.2.2.2.2.1.locals
theorem wsM_good {mi : MI} (h : Cond.code mi.1 mi.2.1 mi.2.2.1 mi.2.2.2.1 ∈ TG) : GoodIn TG (wsM mi) := by
  intro w hw
  rcases List.mem_cons.mp hw with rfl | hw
  · exact TG_good _ h
  · exact TG_good _ hw
theorem cb_of {own : String} {idx n mc ms : Nat} {mi : MI} {R : Room} {s : State} {args : Array Value} (h : CB own idx mi n) (hts : ∀ w ∈ TG, w.before args s = true) (hR : mi.2.2.2.2.1 + 1 ≤ R.frames ∧ 8 + (mi.2.2.1 + 11) + mi.2.2.2.2.2 ≤ R.locals) : CallB R s args own idx mi.1 mi.2.1 mi.2.2.1 mi.2.2.2.1 (wsM mi) (rmM mi mc ms) mc ms n :=
  callB_of n hts (wsM_good h.2.2.1) rfl rfl rfl (hts _ h.2.1) (hts _ h.1) h.2.2.2 hR
theorem cbn_of {own : String} {idx n mc ms : Nat} {mi : MI} {R : Room} {s : State} {args : Array Value} (h : CBN own idx mi n) (hts : ∀ w ∈ TG, w.before args s = true) (hn : ∀ w ∈ nestW, va_Nw w s) (hR : mi.2.2.2.2.1 + 1 ≤ R.frames ∧ 8 + (mi.2.2.1 + 11) + mi.2.2.2.2.2 ≤ R.locals) : va_CN R s args own idx mi.1 RX4 mi.2.1 mi.2.2.1 mi.2.2.2.1 (wsM mi) (rmM mi mc ms) mc ms n :=
  va_cnB n hts (wsM_good h.2.2.1) rfl rfl rfl (hn _ h.1) (hts _ h.2.1) h.2.2.2 hR
theorem R_cV {idx mc ms b ci n nn : Nat} {mi : MI} {as rest : List AV} {Qc : Option AV → Sg → Prop} (hd : decode K.2.1 pc = .ok (.invokevirtual idx, 3)) (hw : CB K.1 idx mi nn) (hw2 : Cond.instanceMethod mi.1 ∈ TG ∧ Cond.selects mi.1.cls mi.1 mi.1 ∈ TG) (hR : CR K mi) (hM : Mt l G mi mc ms (ar b :: as) σ Qc) (hst : st = as.reverse ++ ar b :: rest) (hf : kc + mc ≤ K.2.2.2.2.2.1.cells ∧ ks + ms ≤ K.2.2.2.2.2.1.slots)
    (hb : kd σ b = (ci + 3, n)) (hp : b < σ.2.2.1) (hC : (vwCl[ci]?).map (fun q => q.1) = some mi.1.cls) (hna : as.length = nn) (hcat : ((rest.map (cv G)).map fun v => v.category).sum ≤ 8)
    (kk : ∀ r σ', Qc r σ' → σ'.2.2.1 = σ.2.2.1 + mc → Rr l G K (kc + mc) (ks + ms) (pc + 3) ls (r.toList ++ rest) σ') : Rr l G K kc ks pc ls st σ := by
  intro p e s m args below meth c H locs cls C hS hP hz hn hl
  subst hst
  have hcell : cellOf G σ b = .inr (ci, fvs G (σ.1 b) (σ.2.1 b) (ftl.getD ci []) 0) := by unfold cellOf; rw [hb]; rfl
  have hg := ws_get G σ hp
  rw [hcell] at hg
  obtain ⟨q, hq, hq1⟩ : ∃ q, vwCl[ci]? = some q ∧ q.1 = mi.1.cls := by
    cases h : vwCl[ci]? with
    | none => rw [h] at hC; cases hC
    | some q => rw [h] at hC; exact ⟨q, rfl, Option.some.inj hC⟩
  have hadr : adr G b = G.2.2.1 + b := adr_lo (by have := hP.2; omega)
  have hrecv := va_recv C.2.2.2.2.2.2.2.2.1.1 hP.1 hq hg
  rw [hq1, ← hadr] at hrecv
  have hts := C.2.2.2.2.2.1
  refine R_after C (a := (Value.ref (adr G b) :: as.map (cv G)).toArray) (va_runV (As := as.map (cv G)) (C := mi.1.cls) (b := adr G b) ⟨C.1, C.2.1, C.2.2.1, C.2.2.2.2.1, hts⟩ hM ⟨cb_of hw hts hR, hts _ hw2.1, hts _ hw2.2⟩ ⟨Pm_blind G _ σ, hrecv, Pm_at C hS hP hz (ar b :: as)⟩ rfl (by rw [List.length_map]; exact hna) hl.1 (by simp [cv]) (lv_room hcat) hd hf) hS hn hl kk
theorem R_cS {idx mc ms nn : Nat} {mi : MI} {as rest : List AV} {Qc : Option AV → Sg → Prop} (hd : decode K.2.1 pc = .ok (.invokestatic idx, 3)) (hw : CB K.1 idx mi nn) (hw2 : Cond.static mi.1 ∈ TG) (hR : CR K mi) (hM : Mt l G mi mc ms as σ Qc) (hst : st = as.reverse ++ rest) (hf : kc + mc ≤ K.2.2.2.2.2.1.cells ∧ ks + ms ≤ K.2.2.2.2.2.1.slots) (hna : as.length = nn) (hcat : ((rest.map (cv G)).map fun v => v.category).sum ≤ 8)
    (kk : ∀ r σ', Qc r σ' → σ'.2.2.1 = σ.2.2.1 + mc → Rr l G K (kc + mc) (ks + ms) (pc + 3) ls (r.toList ++ rest) σ') : Rr l G K kc ks pc ls st σ := by
  intro p e s m args below meth c H locs cls C hS hP hz hn hl
  subst hst
  have hts := C.2.2.2.2.2.1
  refine R_after C (a := (as.map (cv G)).toArray) (va_runS (As := as.map (cv G)) ⟨C.1, C.2.1, C.2.2.1, C.2.2.2.2.1, hts⟩ hM ⟨cb_of hw hts hR, hts _ hw2⟩ ⟨Pm_blind G _ σ, Pm_at C hS hP hz as⟩ rfl (by rw [List.length_map]; exact hna) hl.1 (by simp) (lv_room hcat) hd hf) hS hn hl kk
theorem R_cSN {idx mc ms nn : Nat} {mi : MI} {as rest : List AV} {Qc : Option AV → Sg → Prop} (hd : decode K.2.1 pc = .ok (.invokestatic idx, 3)) (hw : CBN K.1 idx mi nn) (hw2 : Cond.static mi.1 ∈ TG) (hR : CR K mi) (hM : Mt l G mi mc ms as σ Qc) (hst : st = as.reverse ++ rest) (hf : kc + mc ≤ K.2.2.2.2.2.1.cells ∧ ks + ms ≤ K.2.2.2.2.2.1.slots) (hna : as.length = nn) (hcat : ((rest.map (cv G)).map fun v => v.category).sum ≤ 8)
    (kk : ∀ r σ', Qc r σ' → σ'.2.2.1 = σ.2.2.1 + mc → Rr l G K (kc + mc) (ks + ms) (pc + 3) ls (r.toList ++ rest) σ') : Rr l G K kc ks pc ls st σ := by
  intro p e s m args below meth c H locs cls C hS hP hz hn hl
  subst hst
  have hts := C.2.2.2.2.2.1
  refine R_after C (a := (as.map (cv G)).toArray) (va_runSN (host := RX4) (As := as.map (cv G)) ⟨C.1, C.2.1, C.2.2.1, C.2.2.2.2.1, hts⟩ hM ⟨cbn_of hw hts C.2.2.2.2.2.2.2.2.1.2.1 hR, hts _ hw2, trivial⟩ ⟨Pm_blind G _ σ, Pm_at C hS hP hz as⟩ rfl (by rw [List.length_map]; exact hna) hl.1 (by simp) (lv_room hcat) hd hf) hS hn hl kk
theorem R_cI {idx mc ms b nn : Nat} {mi : MI} {as rest : List AV} {Qc : Option AV → Sg → Prop} (hd : decode K.2.1 pc = .ok (.invokespecial idx, 3)) (hw : CB K.1 idx mi nn) (hw2 : mi.1.name = "<init>" ∧ mi.2.2.2.1 = none ∧ Cond.instanceMethod mi.1 ∈ TG) (hR : CR K mi) (hM : Mt l G mi mc ms (ar b :: as) σ Qc) (hst : st = as.reverse ++ ar b :: rest) (hf : kc + mc ≤ K.2.2.2.2.2.1.cells ∧ ks + ms ≤ K.2.2.2.2.2.1.slots) (hna : as.length = nn) (hcat : ((rest.map (cv G)).map fun v => v.category).sum ≤ 8)
    (kk : ∀ r σ', Qc r σ' → σ'.2.2.1 = σ.2.2.1 + mc → Rr l G K (kc + mc) (ks + ms) (pc + 3) ls (r.toList ++ rest) σ') : Rr l G K kc ks pc ls st σ := by
  intro p e s m args below meth c H locs cls C hS hP hz hn hl
  subst hst
  have hts := C.2.2.2.2.2.1
  refine R_after C (a := (Value.ref (adr G b) :: as.map (cv G)).toArray) (va_runI (As := as.map (cv G)) (b := adr G b) ⟨C.1, C.2.1, C.2.2.1, C.2.2.2.2.1, hts⟩ hM ⟨by have := cb_of (mc := mc) (ms := ms) hw hts hR; rw [hw2.2.1] at this; exact this, hw2.1, hts _ hw2.2.2⟩ ⟨Pm_blind G _ σ, Pm_at C hS hP hz (ar b :: as)⟩ rfl (by rw [List.length_map]; exact hna) hl.1 (by simp [cv]) (lv_room hcat) hd hf) hS hn hl kk
theorem R_cIN {idx mc ms b nn : Nat} {mi : MI} {as rest : List AV} {Qc : Option AV → Sg → Prop} (hd : decode K.2.1 pc = .ok (.invokespecial idx, 3)) (hw : CBN K.1 idx mi nn) (hw2 : mi.1.name = "<init>" ∧ mi.2.2.2.1 = none ∧ Cond.instanceMethod mi.1 ∈ TG) (hR : CR K mi) (hM : Mt l G mi mc ms (ar b :: as) σ Qc) (hst : st = as.reverse ++ ar b :: rest) (hf : kc + mc ≤ K.2.2.2.2.2.1.cells ∧ ks + ms ≤ K.2.2.2.2.2.1.slots) (hna : as.length = nn) (hcat : ((rest.map (cv G)).map fun v => v.category).sum ≤ 8)
    (kk : ∀ r σ', Qc r σ' → σ'.2.2.1 = σ.2.2.1 + mc → Rr l G K (kc + mc) (ks + ms) (pc + 3) ls (r.toList ++ rest) σ') : Rr l G K kc ks pc ls st σ := by
  intro p e s m args below meth c H locs cls C hS hP hz hn hl
  subst hst
  have hts := C.2.2.2.2.2.1
  refine R_after C (a := (Value.ref (adr G b) :: as.map (cv G)).toArray) (va_runIN (host := RX4) (As := as.map (cv G)) (b := adr G b) ⟨C.1, C.2.1, C.2.2.1, C.2.2.2.2.1, hts⟩ hM ⟨by have := cbn_of (mc := mc) (ms := ms) hw hts C.2.2.2.2.2.2.2.2.1.2.1 hR; rw [hw2.2.1] at this; exact this, hw2.1, hts _ hw2.2.2⟩ ⟨Pm_blind G _ σ, Pm_at C hS hP hz (ar b :: as)⟩ rfl (by rw [List.length_map]; exact hna) hl.1 (by simp [cv]) (lv_room hcat) hd hf) hS hn hl kk
end CALL
end
section
/-! the methods' data (name, code, locals, answer, frames and words below), and the words of fields and calls: by program -/
def miX0_init : MI := (yX0_init, cX0_init, 1, none, 1, 20)
def miX0_renew : MI := (yX0_renew, cX0_renew, 4, none, 0, 0)
def miX0_hasPlace : MI := (yX0_hasPlace, cX0_hasPlace, 3, some .boolean, 0, 0)
def miX0_howManyDead : MI := (yX0_howManyDead, cX0_howManyDead, 3, some .int, 0, 0)
def miX1_init : MI := (yX1_init, cX1_init, 1, none, 1, 20)
def miX1_begin : MI := (yX1_begin, cX1_begin, 2, none, 1, 23)
def miX1_askFor : MI := (yX1_askFor, cX1_askFor, 8, none, 0, 0)
def miX1_isAsked : MI := (yX1_isAsked, cX1_isAsked, 5, some .boolean, 0, 0)
def miX1_cellsAsked : MI := (yX1_cellsAsked, cX1_cellsAsked, 3, some .int, 1, 20)
def miX1_traceBack : MI := (yX1_traceBack, cX1_traceBack, 3, none, 3, 76)
def miX1_traceStep : MI := (yX1_traceStep, cX1_traceStep, 4, none, 2, 53)
def miX1_traceNear : MI := (yX1_traceNear, cX1_traceNear, 7, none, 0, 0)
def miX1_traceColours : MI := (yX1_traceColours, cX1_traceColours, 12, none, 1, 22)
def miX1_columnsOf : MI := (yX1_columnsOf, cX1_columnsOf, 3, some .int, 0, 0)
def miX1_traceMatrix : MI := (yX1_traceMatrix, cX1_traceMatrix, 5, none, 0, 0)
def miX1_traceHalf : MI := (yX1_traceHalf, cX1_traceHalf, 6, none, 1, 22)
def miX1_doubled : MI := (yX1_doubled, cX1_doubled, 3, some .int, 0, 0)
def miX2_init : MI := (yX2_init, cX2_init, 1, none, 1, 20)
def miX2_make : MI := (yX2_make, cX2_make, 6, none, 4, 108)
def miX2_made : MI := (yX2_made, cX2_made, 4, some .int, 0, 0)
def miX2_sumOf : MI := (yX2_sumOf, cX2_sumOf, 9, some .int, 1, 23)
def miX2_leastOf : MI := (yX2_leastOf, cX2_leastOf, 7, some .int, 1, 23)
def miX2_greatestOf : MI := (yX2_greatestOf, cX2_greatestOf, 7, some .int, 1, 23)
def miX2_takeCells : MI := (yX2_takeCells, cX2_takeCells, 5, none, 1, 24)
def miX2_makeStage : MI := (yX2_makeStage, cX2_makeStage, 11, none, 3, 78)
def miX2_behindStep : MI := (yX2_behindStep, cX2_behindStep, 7, some .int, 2, 52)
def miX2_mended : MI := (yX2_mended, cX2_mended, 10, some .int, 1, 23)
def miX2_middle : MI := (yX2_middle, cX2_middle, 8, some .int, 1, 23)
def miX2_putFiveInOrder : MI := (yX2_putFiveInOrder, cX2_putFiveInOrder, 4, none, 0, 0)
def miX2_filled : MI := (yX2_filled, cX2_filled, 9, some .int, 1, 23)
def miX2_mingled : MI := (yX2_mingled, cX2_mingled, 7, some .int, 1, 23)
def miX2_bent : MI := (yX2_bent, cX2_bent, 4, some .int, 0, 0)
def miX3_init : MI := (yX3_init, cX3_init, 1, none, 1, 20)
def miX3_restart : MI := (yX3_restart, cX3_restart, 3, none, 0, 0)
def miX3_mayTake : MI := (yX3_mayTake, cX3_mayTake, 4, some .boolean, 0, 0)
def miX3_append : MI := (yX3_append, cX3_append, 6, none, 1, 40)
def miX3_lagOf : MI := (yX3_lagOf, cX3_lagOf, 2, some .int, 0, 0)
def miX3_hasStage : MI := (yX3_hasStage, cX3_hasStage, 2, some .boolean, 1, 22)
def miX3_hasPlane : MI := (yX3_hasPlane, cX3_hasPlane, 3, some .boolean, 1, 22)
def miX3_holdsPart : MI := (yX3_holdsPart, cX3_holdsPart, 6, some .boolean, 0, 0)
def miX4_init : MI := (yX4_init, cX4_init, 2, none, 2, 40)
def miX4_size : MI := (yX4_size, cX4_size, 3, some .int, 1, 23)
def miX4_cell : MI := (yX4_cell, cX4_cell, 6, some .int, 1, 22)
def miX4_dead : MI := (yX4_dead, cX4_dead, 6, some .int, 1, 22)
def miX4_black : MI := (yX4_black, cX4_black, 2, some .int, 3, 87)
def miX4_gain : MI := (yX4_gain, cX4_gain, 4, some .int, 3, 87)
def miX4_step : MI := (yX4_step, cX4_step, 2, some .int, 3, 87)
def miX4_entry : MI := (yX4_entry, cX4_entry, 4, some .int, 1, 22)
def miX4_matrix : MI := (yX4_matrix, cX4_matrix, 1, some .int, 3, 87)
def miX4_point : MI := (yX4_point, cX4_point, 4, some .int, 1, 22)
def miX4_curve : MI := (yX4_curve, cX4_curve, 2, some .int, 3, 87)
def miX4_undo : MI := (yX4_undo, cX4_undo, 1, some .int, 0, 0)
def miX4_kind : MI := (yX4_kind, cX4_kind, 2, some .int, 1, 22)
def miX4_stage : MI := (yX4_stage, cX4_stage, 3, some .int, 2, 43)
def miX4_at : MI := (yX4_at, cX4_at, 5, some .int, 5, 133)
def miX4_part : MI := (yX4_part, cX4_part, 7, some .int, 5, 133)
def miX4_needs : MI := (yX4_needs, cX4_needs, 7, some .int, 4, 98)
def miX4_counts : MI := (yX4_counts, cX4_counts, 7, some .int, 4, 98)
def miX4_bound : MI := (yX4_bound, cX4_bound, 6, some .int, 5, 133)
def miX4_count : MI := (yX4_count, cX4_count, 2, some .int, 1, 22)
def miX4_digest : MI := (yX4_digest, cX4_digest, 3, some .long, 6, 161)
def miX4_addStep : MI := (yX4_addStep, cX4_addStep, 3, some .int, 2, 65)
def miX4_mixedCells : MI := (yX4_mixedCells, cX4_mixedCells, 8, some .long, 1, 23)
def miX4_mixedSteps : MI := (yX4_mixedSteps, cX4_mixedSteps, 7, some .long, 2, 49)
def miX4_mixedPicture : MI := (yX4_mixedPicture, cX4_mixedPicture, 9, some .long, 5, 133)
def miX4_mixedRow : MI := (yX4_mixedRow, cX4_mixedRow, 7, some .long, 1, 23)
def miX4_mixed : MI := (yX4_mixed, cX4_mixed, 4, some .long, 0, 0)
def miX4_isWithin : MI := (yX4_isWithin, cX4_isWithin, 3, some .boolean, 0, 0)
def miX4_placeOf : MI := (yX4_placeOf, cX4_placeOf, 2, some .int, 0, 0)
def miX4_colourOf : MI := (yX4_colourOf, cX4_colourOf, 2, some .int, 0, 0)
def miX5_init : MI := (yX5_init, cX5_init, 2, none, 1, 20)
def miX5_in : MI := (yX5_in, cX5_in, 3, some .boolean, 0, 0)
def miX5_size : MI := (yX5_size, cX5_size, 4, some .int, 1, 22)
def miX5_isCell : MI := (yX5_isCell, cX5_isCell, 3, some .boolean, 1, 22)
def miX5_cell : MI := (yX5_cell, cX5_cell, 5, some .int, 2, 44)
def miX5_dead : MI := (yX5_dead, cX5_dead, 5, some .int, 2, 44)
def miX5_hasColours : MI := (yX5_hasColours, cX5_hasColours, 3, some .boolean, 0, 0)
def miX5_barred : MI := (yX5_barred, cX5_barred, 3, some .int, 1, 23)
def miX5_come : MI := (yX5_come, cX5_come, 2, some .int, 0, 0)
def miX5_black : MI := (yX5_black, cX5_black, 3, some .int, 2, 45)
def miX5_gain : MI := (yX5_gain, cX5_gain, 5, some .int, 2, 45)
def miX5_step : MI := (yX5_step, cX5_step, 3, some .int, 2, 45)
def miX5_entry : MI := (yX5_entry, cX5_entry, 4, some .int, 1, 22)
def miX5_matrix : MI := (yX5_matrix, cX5_matrix, 3, some .int, 2, 45)
def miX5_point : MI := (yX5_point, cX5_point, 4, some .int, 1, 22)
def miX5_curve : MI := (yX5_curve, cX5_curve, 3, some .int, 2, 45)
def miX5_undo : MI := (yX5_undo, cX5_undo, 1, some .int, 0, 0)
def miX5_kind : MI := (yX5_kind, cX5_kind, 2, some .int, 1, 22)
def miX5_measure : MI := (yX5_measure, cX5_measure, 4, none, 0, 0)
def miX5_colour : MI := (yX5_colour, cX5_colour, 2, some .int, 0, 0)
def miX5_place : MI := (yX5_place, cX5_place, 4, some .int, 0, 0)
def miX5_isPlace : MI := (yX5_isPlace, cX5_isPlace, 4, some .boolean, 1, 22)
def miX5_overX : MI := (yX5_overX, cX5_overX, 1, some .int, 0, 0)
def miX5_overY : MI := (yX5_overY, cX5_overY, 1, some .int, 0, 0)
def miX5_mended : MI := (yX5_mended, cX5_mended, 10, some .int, 2, 45)
def miX5_middle : MI := (yX5_middle, cX5_middle, 8, some .int, 2, 45)
def miX5_coloured : MI := (yX5_coloured, cX5_coloured, 9, some .int, 2, 45)
def miX5_matrixed : MI := (yX5_matrixed, cX5_matrixed, 7, some .int, 1, 23)
def miX5_curved : MI := (yX5_curved, cX5_curved, 5, some .int, 0, 0)
def miX5_halved : MI := (yX5_halved, cX5_halved, 7, some .int, 1, 23)
def miX5_made : MI := (yX5_made, cX5_made, 6, some .int, 3, 74)
def miX5_make : MI := (yX5_make, cX5_make, 7, none, 4, 99)
def miX5_stage : MI := (yX5_stage, cX5_stage, 3, some .int, 1, 23)
def miX5_at : MI := (yX5_at, cX5_at, 5, some .int, 5, 125)
def miX5_isPart : MI := (yX5_isPart, cX5_isPart, 5, some .boolean, 1, 22)
def miX5_part : MI := (yX5_part, cX5_part, 9, some .int, 5, 125)
def miX5_touch : MI := (yX5_touch, cX5_touch, 5, none, 2, 45)
def miX5_countFor : MI := (yX5_countFor, cX5_countFor, 8, none, 3, 69)
def miX5_forget : MI := (yX5_forget, cX5_forget, 2, none, 1, 23)
def miX5_trace : MI := (yX5_trace, cX5_trace, 5, none, 4, 96)
def miX5_needs : MI := (yX5_needs, cX5_needs, 8, some .int, 5, 120)
def miX5_counts : MI := (yX5_counts, cX5_counts, 6, some .int, 5, 120)
def miX5_bound : MI := (yX5_bound, cX5_bound, 7, some .int, 5, 125)
def miX5_count : MI := (yX5_count, cX5_count, 4, some .int, 0, 0)
def miX5_mix : MI := (yX5_mix, cX5_mix, 3, none, 0, 0)
def miX5_many : MI := (yX5_many, cX5_many, 1, some .int, 0, 0)
def miX5_digest : MI := (yX5_digest, cX5_digest, 4, some .long, 5, 125)
def miJ6_bitCount_0f7a4 : MI := (yJ6_bitCount_0f7a4, cJ6_bitCount_0f7a4, 1, some .int, 0, 0)
def miJ9_floorDiv_7cf53 : MI := (yJ9_floorDiv_7cf53, cJ9_floorDiv_7cf53, 3, some .int, 0, 0)
def miJ9_max_7cf53 : MI := (yJ9_max_7cf53, cJ9_max_7cf53, 2, some .int, 0, 0)
def miJ9_min_7cf53 : MI := (yJ9_min_7cf53, cJ9_min_7cf53, 2, some .int, 0, 0)
def miJ7_fill_53178 : MI := (yJ7_fill_53178, cJ7_fill_53178, 4, none, 0, 0)
theorem fRX0_9 : FI RX0 9 0 2 1 := ⟨_, _, _, rfl, by decide, wfRX0_9, rfl⟩
theorem fp_0_2 : FP 0 2 1 := Or.inr ⟨_, rfl⟩
theorem fw_0_2 : FW RX0 "<init>" 0 2 := fun C T N h => by cases h; exact Or.inr ⟨rfl, rfl, rfl⟩
theorem fRX0_15 : FI RX0 15 0 3 1 := ⟨_, _, _, rfl, by decide, wfRX0_15, rfl⟩
theorem fp_0_3 : FP 0 3 1 := Or.inr ⟨_, rfl⟩
theorem fw_0_3 : FW RX0 "<init>" 0 3 := fun C T N h => by cases h; exact Or.inr ⟨rfl, rfl, rfl⟩
theorem fRX0_19 : FI RX0 19 0 0 0 := ⟨_, _, _, rfl, by decide, wfRX0_19, rfl⟩
theorem fp_0_0 : FP 0 0 0 := rfl
theorem fw_0_0 : FW RX0 "<init>" 0 0 := fun C T N h => by cases h; exact Or.inl rfl
theorem fv_0_0 (own nm : String) : FW own nm 0 0 := fun C T N h => by cases h; exact Or.inl rfl
theorem fRX0_23 : FI RX0 23 0 1 0 := ⟨_, _, _, rfl, by decide, wfRX0_23, rfl⟩
theorem fp_0_1 : FP 0 1 0 := rfl
theorem fw_0_1 : FW RX0 "<init>" 0 1 := fun C T N h => by cases h; exact Or.inl rfl
theorem fv_0_1 (own nm : String) : FW own nm 0 1 := fun C T N h => by cases h; exact Or.inl rfl
theorem fRX1_11 : FI RX1 11 1 1 1 := ⟨_, _, _, rfl, by decide, wfRX1_11, rfl⟩
theorem fp_1_1 : FP 1 1 1 := Or.inr ⟨_, rfl⟩
theorem fw_1_1 : FW RX1 "<init>" 1 1 := fun C T N h => by cases h; exact Or.inr ⟨rfl, rfl, rfl⟩
theorem fRX1_16 : FI RX1 16 1 0 0 := ⟨_, _, _, rfl, by decide, wfRX1_16, rfl⟩
theorem fp_1_0 : FP 1 0 0 := rfl
theorem fw_1_0 : FW RX1 "<init>" 1 0 := fun C T N h => by cases h; exact Or.inl rfl
theorem fv_1_0 (own nm : String) : FW own nm 1 0 := fun C T N h => by cases h; exact Or.inl rfl
theorem kRX1_20 : CB RX1 20 miJ7_fill_53178 2 := ⟨wlRX1_20, wzRJ7, wcJ7_fill_53178, by decide +kernel⟩
theorem vJ7_fill_53178 : Cond.static yJ7_fill_53178 ∈ TG := wTJ7_fill_53178
theorem kRX1_26 : CB RX1 26 miJ6_bitCount_0f7a4 1 := ⟨wlRX1_26, wzRJ6, wcJ6_bitCount_0f7a4, by decide +kernel⟩
theorem vJ6_bitCount_0f7a4 : Cond.static yJ6_bitCount_0f7a4 ∈ TG := wTJ6_bitCount_0f7a4
theorem fRX1_32 : FI RX1 32 3 1 1 := ⟨_, _, _, rfl, by decide, wfRX1_32, rfl⟩
theorem fRX1_38 : FI RX1 38 3 3 1 := ⟨_, _, _, rfl, by decide, wfRX1_38, rfl⟩
theorem kRX1_41 : CB RX1 41 miX1_traceStep 4 := ⟨wlRX1_41, wzRX1, wcX1_traceStep, by decide +kernel⟩
theorem vX1_traceStep : Cond.static yX1_traceStep ∈ TG := wTX1_traceStep
theorem kRX1_45 : CB RX1 45 miX1_traceNear 3 := ⟨wlRX1_45, wzRX1, wcX1_traceNear, by decide +kernel⟩
theorem vX1_traceNear : Cond.static yX1_traceNear ∈ TG := wTX1_traceNear
theorem kRX1_49 : CB RX1 49 miX1_traceColours 3 := ⟨wlRX1_49, wzRX1, wcX1_traceColours, by decide +kernel⟩
theorem vX1_traceColours : Cond.static yX1_traceColours ∈ TG := wTX1_traceColours
theorem kRX1_52 : CB RX1 52 miX1_traceMatrix 2 := ⟨wlRX1_52, wzRX1, wcX1_traceMatrix, by decide +kernel⟩
theorem vX1_traceMatrix : Cond.static yX1_traceMatrix ∈ TG := wTX1_traceMatrix
theorem kRX1_56 : CB RX1 56 miX1_traceHalf 3 := ⟨wlRX1_56, wzRX1, wcX1_traceHalf, by decide +kernel⟩
theorem vX1_traceHalf : Cond.static yX1_traceHalf ∈ TG := wTX1_traceHalf
theorem kRX1_65 : CB RX1 65 miX1_columnsOf 2 := ⟨wlRX1_65, wzRX1, wcX1_columnsOf, by decide +kernel⟩
theorem vX1_columnsOf : Cond.static yX1_columnsOf ∈ TG := wTX1_columnsOf
theorem kRX1_69 : CB RX1 69 miJ9_max_7cf53 2 := ⟨wlRX1_69, wzRJ9, wcJ9_max_7cf53, by decide +kernel⟩
theorem vJ9_max_7cf53 : Cond.static yJ9_max_7cf53 ∈ TG := wTJ9_max_7cf53
theorem kRX1_74 : CB RX1 74 miJ9_min_7cf53 2 := ⟨wlRX1_74, wzRJ9, wcJ9_min_7cf53, by decide +kernel⟩
theorem vJ9_min_7cf53 : Cond.static yJ9_min_7cf53 ∈ TG := wTJ9_min_7cf53
theorem kRX1_78 : CB RX1 78 miX1_doubled 1 := ⟨wlRX1_78, wzRX1, wcX1_doubled, by decide +kernel⟩
theorem vX1_doubled : Cond.static yX1_doubled ∈ TG := wTX1_doubled
theorem fRX2_9 : FI RX2 9 2 0 1 := ⟨_, _, _, rfl, by decide, wfRX2_9, rfl⟩
theorem fp_2_0 : FP 2 0 1 := Or.inr ⟨_, rfl⟩
theorem fw_2_0 : FW RX2 "<init>" 2 0 := fun C T N h => by cases h; exact Or.inl rfl
theorem fv_2_0 (own nm : String) : FW own nm 2 0 := fun C T N h => by cases h; exact Or.inl rfl
theorem fRX2_15 : FI RX2 15 2 1 1 := ⟨_, _, _, rfl, by decide, wfRX2_15, rfl⟩
theorem fp_2_1 : FP 2 1 1 := Or.inr ⟨_, rfl⟩
theorem fw_2_1 : FW RX2 "<init>" 2 1 := fun C T N h => by cases h; exact Or.inl rfl
theorem fv_2_1 (own nm : String) : FW own nm 2 1 := fun C T N h => by cases h; exact Or.inl rfl
theorem fRX2_18 : FI RX2 18 2 2 1 := ⟨_, _, _, rfl, by decide, wfRX2_18, rfl⟩
theorem fp_2_2 : FP 2 2 1 := Or.inr ⟨_, rfl⟩
theorem fw_2_2 : FW RX2 "<init>" 2 2 := fun C T N h => by cases h; exact Or.inr ⟨rfl, rfl, rfl⟩
theorem kRX2_21 : CB RX2 21 miX1_traceBack 1 := ⟨wlRX2_21, wzRX1, wcX1_traceBack, by decide +kernel⟩
theorem vX1_traceBack : Cond.instanceMethod yX1_traceBack ∈ TG ∧ Cond.selects (yX1_traceBack).cls yX1_traceBack yX1_traceBack ∈ TG := ⟨wIX1_traceBack, wSX1_traceBack⟩
theorem kRX2_27 : CB RX2 27 miX2_takeCells 2 := ⟨wlRX2_27, wzRX2, wcX2_takeCells, by decide +kernel⟩
theorem vX2_takeCells : Cond.instanceMethod yX2_takeCells ∈ TG ∧ Cond.selects (yX2_takeCells).cls yX2_takeCells yX2_takeCells ∈ TG := ⟨wIX2_takeCells, wSX2_takeCells⟩
theorem fRX2_31 : FI RX2 31 1 0 0 := ⟨_, _, _, rfl, by decide, wfRX2_31, rfl⟩
theorem kRX2_35 : CB RX2 35 miX2_makeStage 4 := ⟨wlRX2_35, wzRX2, wcX2_makeStage, by decide +kernel⟩
theorem vX2_makeStage : Cond.instanceMethod yX2_makeStage ∈ TG ∧ Cond.selects (yX2_makeStage).cls yX2_makeStage yX2_makeStage ∈ TG := ⟨wIX2_makeStage, wSX2_makeStage⟩
theorem kRX2_39 : CB RX2 39 miX2_made 3 := ⟨wlRX2_39, wzRX2, wcX2_made, by decide +kernel⟩
theorem vX2_made : Cond.instanceMethod yX2_made ∈ TG ∧ Cond.selects (yX2_made).cls yX2_made yX2_made ∈ TG := ⟨wIX2_made, wSX2_made⟩
theorem kRX2_43 : CB RX2 43 miJ9_min_7cf53 2 := ⟨wlRX2_43, wzRJ9, wcJ9_min_7cf53, by decide +kernel⟩
theorem kRX2_49 : CB RX2 49 miJ9_max_7cf53 2 := ⟨wlRX2_49, wzRJ9, wcJ9_max_7cf53, by decide +kernel⟩
theorem fRX2_52 : FI RX2 52 0 1 0 := ⟨_, _, _, rfl, by decide, wfRX2_52, rfl⟩
theorem fRX2_57 : FI RX2 57 0 0 0 := ⟨_, _, _, rfl, by decide, wfRX2_57, rfl⟩
theorem kRX2_60 : CB RX2 60 miX1_isAsked 4 := ⟨wlRX2_60, wzRX1, wcX1_isAsked, by decide +kernel⟩
theorem vX1_isAsked : Cond.instanceMethod yX1_isAsked ∈ TG ∧ Cond.selects (yX1_isAsked).cls yX1_isAsked yX1_isAsked ∈ TG := ⟨wIX1_isAsked, wSX1_isAsked⟩
theorem kRX2_64 : CBN RX2 64 miX4_placeOf 2 := ⟨by decide +kernel, wzRX4, wcX4_placeOf, by decide +kernel⟩
theorem vX4_placeOf : Cond.static yX4_placeOf ∈ TG := wTX4_placeOf
theorem fRX2_67 : FI RX2 67 0 2 1 := ⟨_, _, _, rfl, by decide, wfRX2_67, rfl⟩
theorem fRX2_70 : FI RX2 70 3 3 1 := ⟨_, _, _, rfl, by decide, wfRX2_70, rfl⟩
theorem fRX2_76 : FI RX2 76 1 1 1 := ⟨_, _, _, rfl, by decide, wfRX2_76, rfl⟩
theorem fRX2_79 : FI RX2 79 3 1 1 := ⟨_, _, _, rfl, by decide, wfRX2_79, rfl⟩
theorem fRX2_82 : FI RX2 82 3 2 1 := ⟨_, _, _, rfl, by decide, wfRX2_82, rfl⟩
theorem kRX2_85 : CB RX2 85 miX2_behindStep 6 := ⟨wlRX2_85, wzRX2, wcX2_behindStep, by decide +kernel⟩
theorem vX2_behindStep : Cond.instanceMethod yX2_behindStep ∈ TG ∧ Cond.selects (yX2_behindStep).cls yX2_behindStep yX2_behindStep ∈ TG := ⟨wIX2_behindStep, wSX2_behindStep⟩
theorem kRX2_89 : CBN RX2 89 miX4_colourOf 2 := ⟨by decide +kernel, wzRX4, wcX4_colourOf, by decide +kernel⟩
theorem vX4_colourOf : Cond.static yX4_colourOf ∈ TG := wTX4_colourOf
theorem kRX2_92 : CB RX2 92 miX2_mended 3 := ⟨wlRX2_92, wzRX2, wcX2_mended, by decide +kernel⟩
theorem vX2_mended : Cond.instanceMethod yX2_mended ∈ TG ∧ Cond.selects (yX2_mended).cls yX2_mended yX2_mended ∈ TG := ⟨wIX2_mended, wSX2_mended⟩
theorem kRX2_96 : CB RX2 96 miX2_middle 3 := ⟨wlRX2_96, wzRX2, wcX2_middle, by decide +kernel⟩
theorem vX2_middle : Cond.instanceMethod yX2_middle ∈ TG ∧ Cond.selects (yX2_middle).cls yX2_middle yX2_middle ∈ TG := ⟨wIX2_middle, wSX2_middle⟩
theorem kRX2_99 : CB RX2 99 miX2_filled 4 := ⟨wlRX2_99, wzRX2, wcX2_filled, by decide +kernel⟩
theorem vX2_filled : Cond.instanceMethod yX2_filled ∈ TG ∧ Cond.selects (yX2_filled).cls yX2_filled yX2_filled ∈ TG := ⟨wIX2_filled, wSX2_filled⟩
theorem kRX2_103 : CB RX2 103 miX2_mingled 4 := ⟨wlRX2_103, wzRX2, wcX2_mingled, by decide +kernel⟩
theorem vX2_mingled : Cond.instanceMethod yX2_mingled ∈ TG ∧ Cond.selects (yX2_mingled).cls yX2_mingled yX2_mingled ∈ TG := ⟨wIX2_mingled, wSX2_mingled⟩
theorem kRX2_107 : CB RX2 107 miX2_bent 2 := ⟨wlRX2_107, wzRX2, wcX2_bent, by decide +kernel⟩
theorem vX2_bent : Cond.static yX2_bent ∈ TG := wTX2_bent
theorem kRX2_111 : CB RX2 111 miX2_sumOf 5 := ⟨wlRX2_111, wzRX2, wcX2_sumOf, by decide +kernel⟩
theorem vX2_sumOf : Cond.instanceMethod yX2_sumOf ∈ TG ∧ Cond.selects (yX2_sumOf).cls yX2_sumOf yX2_sumOf ∈ TG := ⟨wIX2_sumOf, wSX2_sumOf⟩
theorem fRX2_115 : FI RX2 115 0 3 1 := ⟨_, _, _, rfl, by decide, wfRX2_115, rfl⟩
theorem kRX2_125 : CB RX2 125 miX0_hasPlace 2 := ⟨wlRX2_125, wzRX0, wcX0_hasPlace, by decide +kernel⟩
theorem vX0_hasPlace : Cond.instanceMethod yX0_hasPlace ∈ TG ∧ Cond.selects (yX0_hasPlace).cls yX0_hasPlace yX0_hasPlace ∈ TG := ⟨wIX0_hasPlace, wSX0_hasPlace⟩
theorem kRX2_129 : CB RX2 129 miX2_putFiveInOrder 0 := ⟨wlRX2_129, wzRX2, wcX2_putFiveInOrder, by decide +kernel⟩
theorem vX2_putFiveInOrder : Cond.instanceMethod yX2_putFiveInOrder ∈ TG ∧ Cond.selects (yX2_putFiveInOrder).cls yX2_putFiveInOrder yX2_putFiveInOrder ∈ TG := ⟨wIX2_putFiveInOrder, wSX2_putFiveInOrder⟩
theorem kRX2_132 : CB RX2 132 miJ9_floorDiv_7cf53 2 := ⟨wlRX2_132, wzRJ9, wcJ9_floorDiv_7cf53, by decide +kernel⟩
theorem vJ9_floorDiv_7cf53 : Cond.static yJ9_floorDiv_7cf53 ∈ TG := wTJ9_floorDiv_7cf53
theorem fRX3_9 : FI RX3 9 3 1 1 := ⟨_, _, _, rfl, by decide, wfRX3_9, rfl⟩
theorem fp_3_1 : FP 3 1 1 := Or.inr ⟨_, rfl⟩
theorem fw_3_1 : FW RX3 "<init>" 3 1 := fun C T N h => by cases h; exact Or.inr ⟨rfl, rfl, rfl⟩
theorem fRX3_17 : FI RX3 17 3 2 1 := ⟨_, _, _, rfl, by decide, wfRX3_17, rfl⟩
theorem fp_3_2 : FP 3 2 1 := Or.inr ⟨_, rfl⟩
theorem fw_3_2 : FW RX3 "<init>" 3 2 := fun C T N h => by cases h; exact Or.inr ⟨rfl, rfl, rfl⟩
theorem fRX3_20 : FI RX3 20 3 3 1 := ⟨_, _, _, rfl, by decide, wfRX3_20, rfl⟩
theorem fp_3_3 : FP 3 3 1 := Or.inr ⟨_, rfl⟩
theorem fw_3_3 : FW RX3 "<init>" 3 3 := fun C T N h => by cases h; exact Or.inr ⟨rfl, rfl, rfl⟩
theorem fRX3_23 : FI RX3 23 3 0 0 := ⟨_, _, _, rfl, by decide, wfRX3_23, rfl⟩
theorem fp_3_0 : FP 3 0 0 := rfl
theorem fw_3_0 : FW RX3 "<init>" 3 0 := fun C T N h => by cases h; exact Or.inl rfl
theorem fv_3_0 (own nm : String) : FW own nm 3 0 := fun C T N h => by cases h; exact Or.inl rfl
theorem kRX3_36 : CB RX3 36 miX3_lagOf 2 := ⟨wlRX3_36, wzRX3, wcX3_lagOf, by decide +kernel⟩
theorem vX3_lagOf : Cond.static yX3_lagOf ∈ TG := wTX3_lagOf
theorem kRX3_40 : CBN RX3 40 miX4_isWithin 3 := ⟨by decide +kernel, wzRX4, wcX4_isWithin, by decide +kernel⟩
theorem vX4_isWithin : Cond.static yX4_isWithin ∈ TG := wTX4_isWithin
theorem kRX4_11 : CBN RX4 11 miX0_init 0 := ⟨by decide +kernel, wzRX0, wcX0_init, by decide +kernel⟩
theorem vX0_init : (yX0_init).name = "<init>" ∧ (miX0_init).2.2.2.1 = none ∧ Cond.instanceMethod yX0_init ∈ TG := ⟨rfl, rfl, wIX0_init⟩
theorem fRX4_12 : FI RX4 12 4 0 1 := ⟨_, _, _, rfl, by decide, wfRX4_12, rfl⟩
theorem fp_4_0 : FP 4 0 1 := Or.inl ⟨_, rfl⟩
theorem fw_4_0 : FW RX4 "<init>" 4 0 := fun C T N h => by cases h; exact Or.inr ⟨rfl, rfl, rfl⟩
theorem kRX4_18 : CBN RX4 18 miX3_init 0 := ⟨by decide +kernel, wzRX3, wcX3_init, by decide +kernel⟩
theorem vX3_init : (yX3_init).name = "<init>" ∧ (miX3_init).2.2.2.1 = none ∧ Cond.instanceMethod yX3_init ∈ TG := ⟨rfl, rfl, wIX3_init⟩
theorem fRX4_19 : FI RX4 19 4 1 1 := ⟨_, _, _, rfl, by decide, wfRX4_19, rfl⟩
theorem fp_4_1 : FP 4 1 1 := Or.inl ⟨_, rfl⟩
theorem fw_4_1 : FW RX4 "<init>" 4 1 := fun C T N h => by cases h; exact Or.inr ⟨rfl, rfl, rfl⟩
theorem kRX4_25 : CBN RX4 25 miX1_init 0 := ⟨by decide +kernel, wzRX1, wcX1_init, by decide +kernel⟩
theorem vX1_init : (yX1_init).name = "<init>" ∧ (miX1_init).2.2.2.1 = none ∧ Cond.instanceMethod yX1_init ∈ TG := ⟨rfl, rfl, wIX1_init⟩
theorem fRX4_26 : FI RX4 26 4 2 1 := ⟨_, _, _, rfl, by decide, wfRX4_26, rfl⟩
theorem fp_4_2 : FP 4 2 1 := Or.inl ⟨_, rfl⟩
theorem fw_4_2 : FW RX4 "<init>" 4 2 := fun C T N h => by cases h; exact Or.inr ⟨rfl, rfl, rfl⟩
theorem kRX4_32 : CBN RX4 32 miX2_init 0 := ⟨by decide +kernel, wzRX2, wcX2_init, by decide +kernel⟩
theorem vX2_init : (yX2_init).name = "<init>" ∧ (miX2_init).2.2.2.1 = none ∧ Cond.instanceMethod yX2_init ∈ TG := ⟨rfl, rfl, wIX2_init⟩
theorem fRX4_33 : FI RX4 33 4 3 1 := ⟨_, _, _, rfl, by decide, wfRX4_33, rfl⟩
theorem fp_4_3 : FP 4 3 1 := Or.inl ⟨_, rfl⟩
theorem fw_4_3 : FW RX4 "<init>" 4 3 := fun C T N h => by cases h; exact Or.inr ⟨rfl, rfl, rfl⟩
theorem fRX4_46 : FI RX4 46 4 4 1 := ⟨_, _, _, rfl, by decide, wfRX4_46, rfl⟩
theorem fp_4_4 : FP 4 4 1 := Or.inr ⟨_, rfl⟩
theorem fw_4_4 : FW RX4 "<init>" 4 4 := fun C T N h => by cases h; exact Or.inr ⟨rfl, rfl, rfl⟩
theorem fRX4_49 : FI RX4 49 4 5 1 := ⟨_, _, _, rfl, by decide, wfRX4_49, rfl⟩
theorem fp_4_5 : FP 4 5 1 := Or.inr ⟨_, rfl⟩
theorem fw_4_5 : FW RX4 "<init>" 4 5 := fun C T N h => by cases h; exact Or.inr ⟨rfl, rfl, rfl⟩
theorem kRX4_52 : CB RX4 52 miX0_renew 2 := ⟨wlRX4_52, wzRX0, wcX0_renew, by decide +kernel⟩
theorem vX0_renew : Cond.instanceMethod yX0_renew ∈ TG ∧ Cond.selects (yX0_renew).cls yX0_renew yX0_renew ∈ TG := ⟨wIX0_renew, wSX0_renew⟩
theorem kRX4_56 : CB RX4 56 miX3_restart 2 := ⟨wlRX4_56, wzRX3, wcX3_restart, by decide +kernel⟩
theorem vX3_restart : Cond.instanceMethod yX3_restart ∈ TG ∧ Cond.selects (yX3_restart).cls yX3_restart yX3_restart ∈ TG := ⟨wIX3_restart, wSX3_restart⟩
theorem kRX4_59 : CB RX4 59 miJ9_min_7cf53 2 := ⟨wlRX4_59, wzRJ9, wcJ9_min_7cf53, by decide +kernel⟩
theorem kRX4_65 : CB RX4 65 miX4_isWithin 3 := ⟨wlRX4_65, wzRX4, wcX4_isWithin, by decide +kernel⟩
theorem kRX4_69 : CB RX4 69 miX0_hasPlace 2 := ⟨wlRX4_69, wzRX0, wcX0_hasPlace, by decide +kernel⟩
theorem kRX4_73 : CB RX4 73 miX4_placeOf 2 := ⟨wlRX4_73, wzRX4, wcX4_placeOf, by decide +kernel⟩
theorem fRX4_76 : FI RX4 76 0 2 1 := ⟨_, _, _, rfl, by decide, wfRX4_76, rfl⟩
theorem fRX4_79 : FI RX4 79 0 3 1 := ⟨_, _, _, rfl, by decide, wfRX4_79, rfl⟩
theorem kRX4_83 : CB RX4 83 miX4_addStep 2 := ⟨wlRX4_83, wzRX4, wcX4_addStep, by decide +kernel⟩
theorem vX4_addStep : Cond.instanceMethod yX4_addStep ∈ TG ∧ Cond.selects (yX4_addStep).cls yX4_addStep yX4_addStep ∈ TG := ⟨wIX4_addStep, wSX4_addStep⟩
theorem fRX4_90 : FI RX4 90 3 0 0 := ⟨_, _, _, rfl, by decide, wfRX4_90, rfl⟩
theorem fRX4_94 : FI RX4 94 3 1 1 := ⟨_, _, _, rfl, by decide, wfRX4_94, rfl⟩
theorem kRX4_97 : CB RX4 97 miX3_hasStage 1 := ⟨wlRX4_97, wzRX3, wcX3_hasStage, by decide +kernel⟩
theorem vX3_hasStage : Cond.instanceMethod yX3_hasStage ∈ TG ∧ Cond.selects (yX3_hasStage).cls yX3_hasStage yX3_hasStage ∈ TG := ⟨wIX3_hasStage, wSX3_hasStage⟩
theorem fRX4_101 : FI RX4 101 3 3 1 := ⟨_, _, _, rfl, by decide, wfRX4_101, rfl⟩
theorem kRX4_105 : CB RX4 105 miX3_holdsPart 5 := ⟨wlRX4_105, wzRX3, wcX3_holdsPart, by decide +kernel⟩
theorem vX3_holdsPart : Cond.instanceMethod yX3_holdsPart ∈ TG ∧ Cond.selects (yX3_holdsPart).cls yX3_holdsPart yX3_holdsPart ∈ TG := ⟨wIX3_holdsPart, wSX3_holdsPart⟩
theorem kRX4_109 : CB RX4 109 miX3_hasPlane 2 := ⟨wlRX4_109, wzRX3, wcX3_hasPlane, by decide +kernel⟩
theorem vX3_hasPlane : Cond.instanceMethod yX3_hasPlane ∈ TG ∧ Cond.selects (yX3_hasPlane).cls yX3_hasPlane yX3_hasPlane ∈ TG := ⟨wIX3_hasPlane, wSX3_hasPlane⟩
theorem kRX4_112 : CB RX4 112 miX1_begin 1 := ⟨wlRX4_112, wzRX1, wcX1_begin, by decide +kernel⟩
theorem vX1_begin : Cond.instanceMethod yX1_begin ∈ TG ∧ Cond.selects (yX1_begin).cls yX1_begin yX1_begin ∈ TG := ⟨wIX1_begin, wSX1_begin⟩
theorem kRX4_116 : CB RX4 116 miX1_askFor 5 := ⟨wlRX4_116, wzRX1, wcX1_askFor, by decide +kernel⟩
theorem vX1_askFor : Cond.instanceMethod yX1_askFor ∈ TG ∧ Cond.selects (yX1_askFor).cls yX1_askFor yX1_askFor ∈ TG := ⟨wIX1_askFor, wSX1_askFor⟩
theorem kRX4_120 : CB RX4 120 miX2_make 3 := ⟨wlRX4_120, wzRX2, wcX2_make, by decide +kernel⟩
theorem vX2_make : Cond.instanceMethod yX2_make ∈ TG ∧ Cond.selects (yX2_make).cls yX2_make yX2_make ∈ TG := ⟨wIX2_make, wSX2_make⟩
theorem kRX4_124 : CB RX4 124 miX2_made 3 := ⟨wlRX4_124, wzRX2, wcX2_made, by decide +kernel⟩
theorem kRX4_128 : CB RX4 128 miX2_sumOf 5 := ⟨wlRX4_128, wzRX2, wcX2_sumOf, by decide +kernel⟩
theorem kRX4_132 : CB RX4 132 miX1_traceBack 1 := ⟨wlRX4_132, wzRX1, wcX1_traceBack, by decide +kernel⟩
theorem kRX4_136 : CB RX4 136 miX1_cellsAsked 0 := ⟨wlRX4_136, wzRX1, wcX1_cellsAsked, by decide +kernel⟩
theorem vX1_cellsAsked : Cond.instanceMethod yX1_cellsAsked ∈ TG ∧ Cond.selects (yX1_cellsAsked).cls yX1_cellsAsked yX1_cellsAsked ∈ TG := ⟨wIX1_cellsAsked, wSX1_cellsAsked⟩
theorem kRX4_140 : CB RX4 140 miX1_isAsked 4 := ⟨wlRX4_140, wzRX1, wcX1_isAsked, by decide +kernel⟩
theorem kRX4_144 : CB RX4 144 miX2_leastOf 3 := ⟨wlRX4_144, wzRX2, wcX2_leastOf, by decide +kernel⟩
theorem vX2_leastOf : Cond.instanceMethod yX2_leastOf ∈ TG ∧ Cond.selects (yX2_leastOf).cls yX2_leastOf yX2_leastOf ∈ TG := ⟨wIX2_leastOf, wSX2_leastOf⟩
theorem kRX4_147 : CB RX4 147 miX2_greatestOf 3 := ⟨wlRX4_147, wzRX2, wcX2_greatestOf, by decide +kernel⟩
theorem vX2_greatestOf : Cond.instanceMethod yX2_greatestOf ∈ TG ∧ Cond.selects (yX2_greatestOf).cls yX2_greatestOf yX2_greatestOf ∈ TG := ⟨wIX2_greatestOf, wSX2_greatestOf⟩
theorem fRX4_150 : FI RX4 150 0 0 0 := ⟨_, _, _, rfl, by decide, wfRX4_150, rfl⟩
theorem fRX4_153 : FI RX4 153 0 1 0 := ⟨_, _, _, rfl, by decide, wfRX4_153, rfl⟩
theorem kRX4_156 : CB RX4 156 miX0_howManyDead 0 := ⟨wlRX4_156, wzRX0, wcX0_howManyDead, by decide +kernel⟩
theorem vX0_howManyDead : Cond.instanceMethod yX0_howManyDead ∈ TG ∧ Cond.selects (yX0_howManyDead).cls yX0_howManyDead yX0_howManyDead ∈ TG := ⟨wIX0_howManyDead, wSX0_howManyDead⟩
theorem kRX4_161 : CB RX4 161 miX4_mixed 2 := ⟨wlRX4_161, wzRX4, wcX4_mixed, by decide +kernel⟩
theorem vX4_mixed : Cond.static yX4_mixed ∈ TG := wTX4_mixed
theorem kRX4_165 : CB RX4 165 miX4_mixedCells 1 := ⟨wlRX4_165, wzRX4, wcX4_mixedCells, by decide +kernel⟩
theorem vX4_mixedCells : Cond.instanceMethod yX4_mixedCells ∈ TG ∧ Cond.selects (yX4_mixedCells).cls yX4_mixedCells yX4_mixedCells ∈ TG := ⟨wIX4_mixedCells, wSX4_mixedCells⟩
theorem kRX4_169 : CB RX4 169 miX4_mixedSteps 1 := ⟨wlRX4_169, wzRX4, wcX4_mixedSteps, by decide +kernel⟩
theorem vX4_mixedSteps : Cond.instanceMethod yX4_mixedSteps ∈ TG ∧ Cond.selects (yX4_mixedSteps).cls yX4_mixedSteps yX4_mixedSteps ∈ TG := ⟨wIX4_mixedSteps, wSX4_mixedSteps⟩
theorem kRX4_172 : CB RX4 172 miX4_mixedRow 3 := ⟨wlRX4_172, wzRX4, wcX4_mixedRow, by decide +kernel⟩
theorem vX4_mixedRow : Cond.static yX4_mixedRow ∈ TG := wTX4_mixedRow
theorem kRX4_176 : CB RX4 176 miX4_mixedPicture 1 := ⟨wlRX4_176, wzRX4, wcX4_mixedPicture, by decide +kernel⟩
theorem vX4_mixedPicture : Cond.instanceMethod yX4_mixedPicture ∈ TG ∧ Cond.selects (yX4_mixedPicture).cls yX4_mixedPicture yX4_mixedPicture ∈ TG := ⟨wIX4_mixedPicture, wSX4_mixedPicture⟩
theorem kRX4_179 : CB RX4 179 miX3_mayTake 1 := ⟨wlRX4_179, wzRX3, wcX3_mayTake, by decide +kernel⟩
theorem vX3_mayTake : Cond.instanceMethod yX3_mayTake ∈ TG ∧ Cond.selects (yX3_mayTake).cls yX3_mayTake yX3_mayTake ∈ TG := ⟨wIX3_mayTake, wSX3_mayTake⟩
theorem kRX4_182 : CB RX4 182 miX3_append 2 := ⟨wlRX4_182, wzRX3, wcX3_append, by decide +kernel⟩
theorem vX3_append : Cond.instanceMethod yX3_append ∈ TG ∧ Cond.selects (yX3_append).cls yX3_append yX3_append ∈ TG := ⟨wIX3_append, wSX3_append⟩
theorem fRX4_186 : FI RX4 186 3 2 1 := ⟨_, _, _, rfl, by decide, wfRX4_186, rfl⟩
theorem fRX5_7 : FI RX5 7 5 0 0 := ⟨_, _, _, rfl, by decide, wfRX5_7, rfl⟩
theorem fp_5_0 : FP 5 0 0 := rfl
theorem fw_5_0 : FW RX5 "<init>" 5 0 := fun C T N h => by cases h; exact Or.inl rfl
theorem fv_5_0 (own nm : String) : FW own nm 5 0 := fun C T N h => by cases h; exact Or.inl rfl
theorem fRX5_13 : FI RX5 13 5 1 0 := ⟨_, _, _, rfl, by decide, wfRX5_13, rfl⟩
theorem fp_5_1 : FP 5 1 0 := rfl
theorem fw_5_1 : FW RX5 "<init>" 5 1 := fun C T N h => by cases h; exact Or.inl rfl
theorem fv_5_1 (own nm : String) : FW own nm 5 1 := fun C T N h => by cases h; exact Or.inl rfl
theorem fRX5_16 : FI RX5 16 5 2 1 := ⟨_, _, _, rfl, by decide, wfRX5_16, rfl⟩
theorem fp_5_2 : FP 5 2 1 := Or.inr ⟨_, rfl⟩
theorem fw_5_2 : FW RX5 "<init>" 5 2 := fun C T N h => by cases h; exact Or.inr ⟨rfl, rfl, rfl⟩
theorem fRX5_20 : FI RX5 20 5 3 1 := ⟨_, _, _, rfl, by decide, wfRX5_20, rfl⟩
theorem fp_5_3 : FP 5 3 1 := Or.inr ⟨_, rfl⟩
theorem fw_5_3 : FW RX5 "<init>" 5 3 := fun C T N h => by cases h; exact Or.inr ⟨rfl, rfl, rfl⟩
theorem fRX5_24 : FI RX5 24 5 5 1 := ⟨_, _, _, rfl, by decide, wfRX5_24, rfl⟩
theorem fp_5_5 : FP 5 5 1 := Or.inr ⟨_, rfl⟩
theorem fw_5_5 : FW RX5 "<init>" 5 5 := fun C T N h => by cases h; exact Or.inr ⟨rfl, rfl, rfl⟩
theorem fRX5_27 : FI RX5 27 5 6 1 := ⟨_, _, _, rfl, by decide, wfRX5_27, rfl⟩
theorem fp_5_6 : FP 5 6 1 := Or.inr ⟨_, rfl⟩
theorem fw_5_6 : FW RX5 "<init>" 5 6 := fun C T N h => by cases h; exact Or.inr ⟨rfl, rfl, rfl⟩
theorem fRX5_30 : FI RX5 30 5 7 1 := ⟨_, _, _, rfl, by decide, wfRX5_30, rfl⟩
theorem fp_5_7 : FP 5 7 1 := Or.inr ⟨_, rfl⟩
theorem fw_5_7 : FW RX5 "<init>" 5 7 := fun C T N h => by cases h; exact Or.inr ⟨rfl, rfl, rfl⟩
theorem fRX5_33 : FI RX5 33 5 8 1 := ⟨_, _, _, rfl, by decide, wfRX5_33, rfl⟩
theorem fp_5_8 : FP 5 8 1 := Or.inr ⟨_, rfl⟩
theorem fw_5_8 : FW RX5 "<init>" 5 8 := fun C T N h => by cases h; exact Or.inr ⟨rfl, rfl, rfl⟩
theorem fRX5_36 : FI RX5 36 5 9 1 := ⟨_, _, _, rfl, by decide, wfRX5_36, rfl⟩
theorem fp_5_9 : FP 5 9 1 := Or.inr ⟨_, rfl⟩
theorem fw_5_9 : FW RX5 "<init>" 5 9 := fun C T N h => by cases h; exact Or.inr ⟨rfl, rfl, rfl⟩
theorem fRX5_39 : FI RX5 39 5 10 1 := ⟨_, _, _, rfl, by decide, wfRX5_39, rfl⟩
theorem fp_5_10 : FP 5 10 1 := Or.inr ⟨_, rfl⟩
theorem fw_5_10 : FW RX5 "<init>" 5 10 := fun C T N h => by cases h; exact Or.inr ⟨rfl, rfl, rfl⟩
theorem fRX5_42 : FI RX5 42 5 11 1 := ⟨_, _, _, rfl, by decide, wfRX5_42, rfl⟩
theorem fp_5_11 : FP 5 11 1 := Or.inr ⟨_, rfl⟩
theorem fw_5_11 : FW RX5 "<init>" 5 11 := fun C T N h => by cases h; exact Or.inr ⟨rfl, rfl, rfl⟩
theorem fRX5_45 : FI RX5 45 5 12 1 := ⟨_, _, _, rfl, by decide, wfRX5_45, rfl⟩
theorem fp_5_12 : FP 5 12 1 := Or.inr ⟨_, rfl⟩
theorem fw_5_12 : FW RX5 "<init>" 5 12 := fun C T N h => by cases h; exact Or.inr ⟨rfl, rfl, rfl⟩
theorem fRX5_48 : FI RX5 48 5 13 1 := ⟨_, _, _, rfl, by decide, wfRX5_48, rfl⟩
theorem fp_5_13 : FP 5 13 1 := Or.inr ⟨_, rfl⟩
theorem fw_5_13 : FW RX5 "<init>" 5 13 := fun C T N h => by cases h; exact Or.inr ⟨rfl, rfl, rfl⟩
theorem fRX5_51 : FI RX5 51 5 14 1 := ⟨_, _, _, rfl, by decide, wfRX5_51, rfl⟩
theorem fp_5_14 : FP 5 14 1 := Or.inr ⟨_, rfl⟩
theorem fw_5_14 : FW RX5 "<init>" 5 14 := fun C T N h => by cases h; exact Or.inr ⟨rfl, rfl, rfl⟩
theorem fRX5_54 : FI RX5 54 5 15 1 := ⟨_, _, _, rfl, by decide, wfRX5_54, rfl⟩
theorem fp_5_15 : FP 5 15 1 := Or.inr ⟨_, rfl⟩
theorem fw_5_15 : FW RX5 "<init>" 5 15 := fun C T N h => by cases h; exact Or.inr ⟨rfl, rfl, rfl⟩
theorem fRX5_57 : FI RX5 57 5 16 1 := ⟨_, _, _, rfl, by decide, wfRX5_57, rfl⟩
theorem fp_5_16 : FP 5 16 1 := Or.inr ⟨_, rfl⟩
theorem fw_5_16 : FW RX5 "<init>" 5 16 := fun C T N h => by cases h; exact Or.inr ⟨rfl, rfl, rfl⟩
theorem kRX5_60 : CB RX5 60 miX5_in 3 := ⟨wlRX5_60, wzRX5, wcX5_in, by decide +kernel⟩
theorem vX5_in : Cond.static yX5_in ∈ TG := wTX5_in
theorem fRX5_64 : FI RX5 64 5 4 0 := ⟨_, _, _, rfl, by decide, wfRX5_64, rfl⟩
theorem fp_5_4 : FP 5 4 0 := rfl
theorem fw_5_4 : FW RX5 "<init>" 5 4 := fun C T N h => by cases h; exact Or.inl rfl
theorem fv_5_4 (own nm : String) : FW own nm 5 4 := fun C T N h => by cases h; exact Or.inl rfl
theorem kRX5_67 : CB RX5 67 miX5_isCell 2 := ⟨wlRX5_67, wzRX5, wcX5_isCell, by decide +kernel⟩
theorem vX5_isCell : Cond.instanceMethod yX5_isCell ∈ TG ∧ Cond.selects (yX5_isCell).cls yX5_isCell yX5_isCell ∈ TG := ⟨wIX5_isCell, wSX5_isCell⟩
theorem kRX5_71 : CB RX5 71 miX5_measure 0 := ⟨wlRX5_71, wzRX5, wcX5_measure, by decide +kernel⟩
theorem vX5_measure : Cond.instanceMethod yX5_measure ∈ TG ∧ Cond.selects (yX5_measure).cls yX5_measure yX5_measure ∈ TG := ⟨wIX5_measure, wSX5_measure⟩
theorem kRX5_74 : CB RX5 74 miX5_hasColours 0 := ⟨wlRX5_74, wzRX5, wcX5_hasColours, by decide +kernel⟩
theorem vX5_hasColours : Cond.instanceMethod yX5_hasColours ∈ TG ∧ Cond.selects (yX5_hasColours).cls yX5_hasColours yX5_hasColours ∈ TG := ⟨wIX5_hasColours, wSX5_hasColours⟩
theorem kRX5_78 : CB RX5 78 miX5_barred 1 := ⟨wlRX5_78, wzRX5, wcX5_barred, by decide +kernel⟩
theorem vX5_barred : Cond.instanceMethod yX5_barred ∈ TG ∧ Cond.selects (yX5_barred).cls yX5_barred yX5_barred ∈ TG := ⟨wIX5_barred, wSX5_barred⟩
theorem kRX5_82 : CB RX5 82 miX5_come 1 := ⟨wlRX5_82, wzRX5, wcX5_come, by decide +kernel⟩
theorem vX5_come : Cond.instanceMethod yX5_come ∈ TG ∧ Cond.selects (yX5_come).cls yX5_come yX5_come ∈ TG := ⟨wIX5_come, wSX5_come⟩
theorem kRX5_85 : CB RX5 85 miX5_place 4 := ⟨wlRX5_85, wzRX5, wcX5_place, by decide +kernel⟩
theorem vX5_place : Cond.static yX5_place ∈ TG := wTX5_place
theorem kRX5_89 : CB RX5 89 miX5_overX 1 := ⟨wlRX5_89, wzRX5, wcX5_overX, by decide +kernel⟩
theorem vX5_overX : Cond.static yX5_overX ∈ TG := wTX5_overX
theorem kRX5_92 : CB RX5 92 miX5_overY 1 := ⟨wlRX5_92, wzRX5, wcX5_overY, by decide +kernel⟩
theorem vX5_overY : Cond.static yX5_overY ∈ TG := wTX5_overY
theorem kRX5_95 : CB RX5 95 miX5_isPlace 3 := ⟨wlRX5_95, wzRX5, wcX5_isPlace, by decide +kernel⟩
theorem vX5_isPlace : Cond.instanceMethod yX5_isPlace ∈ TG ∧ Cond.selects (yX5_isPlace).cls yX5_isPlace yX5_isPlace ∈ TG := ⟨wIX5_isPlace, wSX5_isPlace⟩
theorem kRX5_98 : CB RX5 98 miX5_colour 2 := ⟨wlRX5_98, wzRX5, wcX5_colour, by decide +kernel⟩
theorem vX5_colour : Cond.static yX5_colour ∈ TG := wTX5_colour
theorem kRX5_102 : CB RX5 102 miX5_mended 3 := ⟨wlRX5_102, wzRX5, wcX5_mended, by decide +kernel⟩
theorem vX5_mended : Cond.instanceMethod yX5_mended ∈ TG ∧ Cond.selects (yX5_mended).cls yX5_mended yX5_mended ∈ TG := ⟨wIX5_mended, wSX5_mended⟩
theorem kRX5_106 : CB RX5 106 miX5_middle 3 := ⟨wlRX5_106, wzRX5, wcX5_middle, by decide +kernel⟩
theorem vX5_middle : Cond.instanceMethod yX5_middle ∈ TG ∧ Cond.selects (yX5_middle).cls yX5_middle yX5_middle ∈ TG := ⟨wIX5_middle, wSX5_middle⟩
theorem kRX5_109 : CB RX5 109 miX5_coloured 4 := ⟨wlRX5_109, wzRX5, wcX5_coloured, by decide +kernel⟩
theorem vX5_coloured : Cond.instanceMethod yX5_coloured ∈ TG ∧ Cond.selects (yX5_coloured).cls yX5_coloured yX5_coloured ∈ TG := ⟨wIX5_coloured, wSX5_coloured⟩
theorem kRX5_112 : CB RX5 112 miX5_matrixed 4 := ⟨wlRX5_112, wzRX5, wcX5_matrixed, by decide +kernel⟩
theorem vX5_matrixed : Cond.instanceMethod yX5_matrixed ∈ TG ∧ Cond.selects (yX5_matrixed).cls yX5_matrixed yX5_matrixed ∈ TG := ⟨wIX5_matrixed, wSX5_matrixed⟩
theorem kRX5_115 : CB RX5 115 miX5_curved 2 := ⟨wlRX5_115, wzRX5, wcX5_curved, by decide +kernel⟩
theorem vX5_curved : Cond.instanceMethod yX5_curved ∈ TG ∧ Cond.selects (yX5_curved).cls yX5_curved yX5_curved ∈ TG := ⟨wIX5_curved, wSX5_curved⟩
theorem kRX5_118 : CB RX5 118 miX5_halved 4 := ⟨wlRX5_118, wzRX5, wcX5_halved, by decide +kernel⟩
theorem vX5_halved : Cond.instanceMethod yX5_halved ∈ TG ∧ Cond.selects (yX5_halved).cls yX5_halved yX5_halved ∈ TG := ⟨wIX5_halved, wSX5_halved⟩
theorem kRX5_121 : CB RX5 121 miX5_made 4 := ⟨wlRX5_121, wzRX5, wcX5_made, by decide +kernel⟩
theorem vX5_made : Cond.instanceMethod yX5_made ∈ TG ∧ Cond.selects (yX5_made).cls yX5_made yX5_made ∈ TG := ⟨wIX5_made, wSX5_made⟩
theorem kRX5_124 : CB RX5 124 miX5_make 1 := ⟨wlRX5_124, wzRX5, wcX5_make, by decide +kernel⟩
theorem vX5_make : Cond.instanceMethod yX5_make ∈ TG ∧ Cond.selects (yX5_make).cls yX5_make yX5_make ∈ TG := ⟨wIX5_make, wSX5_make⟩
theorem kRX5_128 : CB RX5 128 miX5_isPart 4 := ⟨wlRX5_128, wzRX5, wcX5_isPart, by decide +kernel⟩
theorem vX5_isPart : Cond.instanceMethod yX5_isPart ∈ TG ∧ Cond.selects (yX5_isPart).cls yX5_isPart yX5_isPart ∈ TG := ⟨wIX5_isPart, wSX5_isPart⟩
theorem kRX5_132 : CB RX5 132 miX5_touch 4 := ⟨wlRX5_132, wzRX5, wcX5_touch, by decide +kernel⟩
theorem vX5_touch : Cond.instanceMethod yX5_touch ∈ TG ∧ Cond.selects (yX5_touch).cls yX5_touch yX5_touch ∈ TG := ⟨wIX5_touch, wSX5_touch⟩
theorem kRX5_136 : CB RX5 136 miX5_countFor 4 := ⟨wlRX5_136, wzRX5, wcX5_countFor, by decide +kernel⟩
theorem vX5_countFor : Cond.instanceMethod yX5_countFor ∈ TG ∧ Cond.selects (yX5_countFor).cls yX5_countFor yX5_countFor ∈ TG := ⟨wIX5_countFor, wSX5_countFor⟩
theorem kRX5_139 : CB RX5 139 miX5_forget 0 := ⟨wlRX5_139, wzRX5, wcX5_forget, by decide +kernel⟩
theorem vX5_forget : Cond.instanceMethod yX5_forget ∈ TG ∧ Cond.selects (yX5_forget).cls yX5_forget yX5_forget ∈ TG := ⟨wIX5_forget, wSX5_forget⟩
theorem kRX5_142 : CB RX5 142 miX5_trace 0 := ⟨wlRX5_142, wzRX5, wcX5_trace, by decide +kernel⟩
theorem vX5_trace : Cond.instanceMethod yX5_trace ∈ TG ∧ Cond.selects (yX5_trace).cls yX5_trace yX5_trace ∈ TG := ⟨wIX5_trace, wSX5_trace⟩
theorem fRX5_147 : FI RX5 147 5 17 2 := ⟨_, _, _, rfl, by decide, wfRX5_147, rfl⟩
theorem fp_5_17 : FP 5 17 2 := rfl
theorem fw_5_17 : FW RX5 "<init>" 5 17 := fun C T N h => by cases h; exact Or.inl rfl
theorem fv_5_17 (own nm : String) : FW own nm 5 17 := fun C T N h => by cases h; exact Or.inl rfl
theorem kRX5_153 : CB RX5 153 miX5_mix 1 := ⟨wlRX5_153, wzRX5, wcX5_mix, by decide +kernel⟩
theorem vX5_mix : Cond.instanceMethod yX5_mix ∈ TG ∧ Cond.selects (yX5_mix).cls yX5_mix yX5_mix ∈ TG := ⟨wIX5_mix, wSX5_mix⟩
theorem kRX5_157 : CB RX5 157 miX5_many 1 := ⟨wlRX5_157, wzRX5, wcX5_many, by decide +kernel⟩
theorem vX5_many : Cond.static yX5_many ∈ TG := wTX5_many
theorem kRL_13 : CB RL 13 miX4_size 2 := ⟨wlRL_13, wzRX4, wcX4_size, by decide +kernel⟩
theorem vX4_size : Cond.instanceMethod yX4_size ∈ TG ∧ Cond.selects (yX4_size).cls yX4_size yX4_size ∈ TG := ⟨wIX4_size, wSX4_size⟩
theorem kRL_17 : CB RL 17 miX5_size 2 := ⟨wlRL_17, wzRX5, wcX5_size, by decide +kernel⟩
theorem vX5_size : Cond.instanceMethod yX5_size ∈ TG ∧ Cond.selects (yX5_size).cls yX5_size yX5_size ∈ TG := ⟨wIX5_size, wSX5_size⟩
theorem kRL_18 : CB RL 18 miX4_cell 3 := ⟨wlRL_18, wzRX4, wcX4_cell, by decide +kernel⟩
theorem vX4_cell : Cond.instanceMethod yX4_cell ∈ TG ∧ Cond.selects (yX4_cell).cls yX4_cell yX4_cell ∈ TG := ⟨wIX4_cell, wSX4_cell⟩
theorem kRL_22 : CB RL 22 miX5_cell 3 := ⟨wlRL_22, wzRX5, wcX5_cell, by decide +kernel⟩
theorem vX5_cell : Cond.instanceMethod yX5_cell ∈ TG ∧ Cond.selects (yX5_cell).cls yX5_cell yX5_cell ∈ TG := ⟨wIX5_cell, wSX5_cell⟩
theorem kRL_23 : CB RL 23 miX4_dead 3 := ⟨wlRL_23, wzRX4, wcX4_dead, by decide +kernel⟩
theorem vX4_dead : Cond.instanceMethod yX4_dead ∈ TG ∧ Cond.selects (yX4_dead).cls yX4_dead yX4_dead ∈ TG := ⟨wIX4_dead, wSX4_dead⟩
theorem kRL_27 : CB RL 27 miX5_dead 3 := ⟨wlRL_27, wzRX5, wcX5_dead, by decide +kernel⟩
theorem vX5_dead : Cond.instanceMethod yX5_dead ∈ TG ∧ Cond.selects (yX5_dead).cls yX5_dead yX5_dead ∈ TG := ⟨wIX5_dead, wSX5_dead⟩
theorem kRL_28 : CB RL 28 miX4_black 1 := ⟨wlRL_28, wzRX4, wcX4_black, by decide +kernel⟩
theorem vX4_black : Cond.instanceMethod yX4_black ∈ TG ∧ Cond.selects (yX4_black).cls yX4_black yX4_black ∈ TG := ⟨wIX4_black, wSX4_black⟩
theorem kRL_32 : CB RL 32 miX5_black 1 := ⟨wlRL_32, wzRX5, wcX5_black, by decide +kernel⟩
theorem vX5_black : Cond.instanceMethod yX5_black ∈ TG ∧ Cond.selects (yX5_black).cls yX5_black yX5_black ∈ TG := ⟨wIX5_black, wSX5_black⟩
theorem kRL_33 : CB RL 33 miX4_gain 3 := ⟨wlRL_33, wzRX4, wcX4_gain, by decide +kernel⟩
theorem vX4_gain : Cond.instanceMethod yX4_gain ∈ TG ∧ Cond.selects (yX4_gain).cls yX4_gain yX4_gain ∈ TG := ⟨wIX4_gain, wSX4_gain⟩
theorem kRL_36 : CB RL 36 miX5_gain 3 := ⟨wlRL_36, wzRX5, wcX5_gain, by decide +kernel⟩
theorem vX5_gain : Cond.instanceMethod yX5_gain ∈ TG ∧ Cond.selects (yX5_gain).cls yX5_gain yX5_gain ∈ TG := ⟨wIX5_gain, wSX5_gain⟩
theorem kRL_37 : CB RL 37 miX4_step 1 := ⟨wlRL_37, wzRX4, wcX4_step, by decide +kernel⟩
theorem vX4_step : Cond.instanceMethod yX4_step ∈ TG ∧ Cond.selects (yX4_step).cls yX4_step yX4_step ∈ TG := ⟨wIX4_step, wSX4_step⟩
theorem kRL_40 : CB RL 40 miX5_step 1 := ⟨wlRL_40, wzRX5, wcX5_step, by decide +kernel⟩
theorem vX5_step : Cond.instanceMethod yX5_step ∈ TG ∧ Cond.selects (yX5_step).cls yX5_step yX5_step ∈ TG := ⟨wIX5_step, wSX5_step⟩
theorem kRL_41 : CB RL 41 miX4_entry 2 := ⟨wlRL_41, wzRX4, wcX4_entry, by decide +kernel⟩
theorem vX4_entry : Cond.instanceMethod yX4_entry ∈ TG ∧ Cond.selects (yX4_entry).cls yX4_entry yX4_entry ∈ TG := ⟨wIX4_entry, wSX4_entry⟩
theorem kRL_44 : CB RL 44 miX5_entry 2 := ⟨wlRL_44, wzRX5, wcX5_entry, by decide +kernel⟩
theorem vX5_entry : Cond.instanceMethod yX5_entry ∈ TG ∧ Cond.selects (yX5_entry).cls yX5_entry yX5_entry ∈ TG := ⟨wIX5_entry, wSX5_entry⟩
theorem kRL_45 : CB RL 45 miX4_matrix 0 := ⟨wlRL_45, wzRX4, wcX4_matrix, by decide +kernel⟩
theorem vX4_matrix : Cond.instanceMethod yX4_matrix ∈ TG ∧ Cond.selects (yX4_matrix).cls yX4_matrix yX4_matrix ∈ TG := ⟨wIX4_matrix, wSX4_matrix⟩
theorem kRL_49 : CB RL 49 miX5_matrix 0 := ⟨wlRL_49, wzRX5, wcX5_matrix, by decide +kernel⟩
theorem vX5_matrix : Cond.instanceMethod yX5_matrix ∈ TG ∧ Cond.selects (yX5_matrix).cls yX5_matrix yX5_matrix ∈ TG := ⟨wIX5_matrix, wSX5_matrix⟩
theorem kRL_50 : CB RL 50 miX4_point 2 := ⟨wlRL_50, wzRX4, wcX4_point, by decide +kernel⟩
theorem vX4_point : Cond.instanceMethod yX4_point ∈ TG ∧ Cond.selects (yX4_point).cls yX4_point yX4_point ∈ TG := ⟨wIX4_point, wSX4_point⟩
theorem kRL_53 : CB RL 53 miX5_point 2 := ⟨wlRL_53, wzRX5, wcX5_point, by decide +kernel⟩
theorem vX5_point : Cond.instanceMethod yX5_point ∈ TG ∧ Cond.selects (yX5_point).cls yX5_point yX5_point ∈ TG := ⟨wIX5_point, wSX5_point⟩
theorem kRL_54 : CB RL 54 miX4_curve 0 := ⟨wlRL_54, wzRX4, wcX4_curve, by decide +kernel⟩
theorem vX4_curve : Cond.instanceMethod yX4_curve ∈ TG ∧ Cond.selects (yX4_curve).cls yX4_curve yX4_curve ∈ TG := ⟨wIX4_curve, wSX4_curve⟩
theorem kRL_57 : CB RL 57 miX5_curve 0 := ⟨wlRL_57, wzRX5, wcX5_curve, by decide +kernel⟩
theorem vX5_curve : Cond.instanceMethod yX5_curve ∈ TG ∧ Cond.selects (yX5_curve).cls yX5_curve yX5_curve ∈ TG := ⟨wIX5_curve, wSX5_curve⟩
theorem kRL_58 : CB RL 58 miX4_undo 0 := ⟨wlRL_58, wzRX4, wcX4_undo, by decide +kernel⟩
theorem vX4_undo : Cond.instanceMethod yX4_undo ∈ TG ∧ Cond.selects (yX4_undo).cls yX4_undo yX4_undo ∈ TG := ⟨wIX4_undo, wSX4_undo⟩
theorem kRL_61 : CB RL 61 miX5_undo 0 := ⟨wlRL_61, wzRX5, wcX5_undo, by decide +kernel⟩
theorem vX5_undo : Cond.instanceMethod yX5_undo ∈ TG ∧ Cond.selects (yX5_undo).cls yX5_undo yX5_undo ∈ TG := ⟨wIX5_undo, wSX5_undo⟩
theorem kRL_62 : CB RL 62 miX4_kind 1 := ⟨wlRL_62, wzRX4, wcX4_kind, by decide +kernel⟩
theorem vX4_kind : Cond.instanceMethod yX4_kind ∈ TG ∧ Cond.selects (yX4_kind).cls yX4_kind yX4_kind ∈ TG := ⟨wIX4_kind, wSX4_kind⟩
theorem kRL_65 : CB RL 65 miX5_kind 1 := ⟨wlRL_65, wzRX5, wcX5_kind, by decide +kernel⟩
theorem vX5_kind : Cond.instanceMethod yX5_kind ∈ TG ∧ Cond.selects (yX5_kind).cls yX5_kind yX5_kind ∈ TG := ⟨wIX5_kind, wSX5_kind⟩
theorem kRL_66 : CB RL 66 miX4_stage 2 := ⟨wlRL_66, wzRX4, wcX4_stage, by decide +kernel⟩
theorem vX4_stage : Cond.instanceMethod yX4_stage ∈ TG ∧ Cond.selects (yX4_stage).cls yX4_stage yX4_stage ∈ TG := ⟨wIX4_stage, wSX4_stage⟩
theorem kRL_69 : CB RL 69 miX5_stage 2 := ⟨wlRL_69, wzRX5, wcX5_stage, by decide +kernel⟩
theorem vX5_stage : Cond.instanceMethod yX5_stage ∈ TG ∧ Cond.selects (yX5_stage).cls yX5_stage yX5_stage ∈ TG := ⟨wIX5_stage, wSX5_stage⟩
theorem kRL_70 : CB RL 70 miX4_at 4 := ⟨wlRL_70, wzRX4, wcX4_at, by decide +kernel⟩
theorem vX4_at : Cond.instanceMethod yX4_at ∈ TG ∧ Cond.selects (yX4_at).cls yX4_at yX4_at ∈ TG := ⟨wIX4_at, wSX4_at⟩
theorem kRL_74 : CB RL 74 miX5_at 4 := ⟨wlRL_74, wzRX5, wcX5_at, by decide +kernel⟩
theorem vX5_at : Cond.instanceMethod yX5_at ∈ TG ∧ Cond.selects (yX5_at).cls yX5_at yX5_at ∈ TG := ⟨wIX5_at, wSX5_at⟩
theorem kRL_75 : CB RL 75 miX4_part 5 := ⟨wlRL_75, wzRX4, wcX4_part, by decide +kernel⟩
theorem vX4_part : Cond.instanceMethod yX4_part ∈ TG ∧ Cond.selects (yX4_part).cls yX4_part yX4_part ∈ TG := ⟨wIX4_part, wSX4_part⟩
theorem kRL_79 : CB RL 79 miX5_part 5 := ⟨wlRL_79, wzRX5, wcX5_part, by decide +kernel⟩
theorem vX5_part : Cond.instanceMethod yX5_part ∈ TG ∧ Cond.selects (yX5_part).cls yX5_part yX5_part ∈ TG := ⟨wIX5_part, wSX5_part⟩
theorem kRL_80 : CB RL 80 miX4_needs 4 := ⟨wlRL_80, wzRX4, wcX4_needs, by decide +kernel⟩
theorem vX4_needs : Cond.instanceMethod yX4_needs ∈ TG ∧ Cond.selects (yX4_needs).cls yX4_needs yX4_needs ∈ TG := ⟨wIX4_needs, wSX4_needs⟩
theorem kRL_83 : CB RL 83 miX5_needs 4 := ⟨wlRL_83, wzRX5, wcX5_needs, by decide +kernel⟩
theorem vX5_needs : Cond.instanceMethod yX5_needs ∈ TG ∧ Cond.selects (yX5_needs).cls yX5_needs yX5_needs ∈ TG := ⟨wIX5_needs, wSX5_needs⟩
theorem kRL_84 : CB RL 84 miX4_counts 5 := ⟨wlRL_84, wzRX4, wcX4_counts, by decide +kernel⟩
theorem vX4_counts : Cond.instanceMethod yX4_counts ∈ TG ∧ Cond.selects (yX4_counts).cls yX4_counts yX4_counts ∈ TG := ⟨wIX4_counts, wSX4_counts⟩
theorem kRL_87 : CB RL 87 miX5_counts 5 := ⟨wlRL_87, wzRX5, wcX5_counts, by decide +kernel⟩
theorem vX5_counts : Cond.instanceMethod yX5_counts ∈ TG ∧ Cond.selects (yX5_counts).cls yX5_counts yX5_counts ∈ TG := ⟨wIX5_counts, wSX5_counts⟩
theorem kRL_88 : CB RL 88 miX4_bound 2 := ⟨wlRL_88, wzRX4, wcX4_bound, by decide +kernel⟩
theorem vX4_bound : Cond.instanceMethod yX4_bound ∈ TG ∧ Cond.selects (yX4_bound).cls yX4_bound yX4_bound ∈ TG := ⟨wIX4_bound, wSX4_bound⟩
theorem kRL_91 : CB RL 91 miX5_bound 2 := ⟨wlRL_91, wzRX5, wcX5_bound, by decide +kernel⟩
theorem vX5_bound : Cond.instanceMethod yX5_bound ∈ TG ∧ Cond.selects (yX5_bound).cls yX5_bound yX5_bound ∈ TG := ⟨wIX5_bound, wSX5_bound⟩
theorem kRL_92 : CB RL 92 miX4_count 1 := ⟨wlRL_92, wzRX4, wcX4_count, by decide +kernel⟩
theorem vX4_count : Cond.instanceMethod yX4_count ∈ TG ∧ Cond.selects (yX4_count).cls yX4_count yX4_count ∈ TG := ⟨wIX4_count, wSX4_count⟩
theorem kRL_95 : CB RL 95 miX5_count 1 := ⟨wlRL_95, wzRX5, wcX5_count, by decide +kernel⟩
theorem vX5_count : Cond.instanceMethod yX5_count ∈ TG ∧ Cond.selects (yX5_count).cls yX5_count yX5_count ∈ TG := ⟨wIX5_count, wSX5_count⟩
theorem kRL_96 : CB RL 96 miX4_digest 0 := ⟨wlRL_96, wzRX4, wcX4_digest, by decide +kernel⟩
theorem vX4_digest : Cond.instanceMethod yX4_digest ∈ TG ∧ Cond.selects (yX4_digest).cls yX4_digest yX4_digest ∈ TG := ⟨wIX4_digest, wSX4_digest⟩
theorem kRL_100 : CB RL 100 miX5_digest 0 := ⟨wlRL_100, wzRX5, wcX5_digest, by decide +kernel⟩
theorem vX5_digest : Cond.instanceMethod yX5_digest ∈ TG ∧ Cond.selects (yX5_digest).cls yX5_digest yX5_digest ∈ TG := ⟨wIX5_digest, wSX5_digest⟩
end
section
/-! leaves -/
def Rs (sw : Bool) : Nat → Nat → Option Nat := fun p k => match p with
  | 0 => [1, 4, 29, 42, 46, 47][k]?
  | 1 => [none, none, some 2, some 3].getD k none
  | 4 => [none, some 5, some 6, some 17].getD k none
  | 6 => if k < 10 then some (7 + k) else none
  | 17 => if k < 11 then some (18 + k) else none
  | 29 => [none, some 30].getD k none
  | 30 => if k < 11 then some (31 + k) else none
  | 42 => [some (if sw then 44 else 43), some (if sw then 43 else 44), some 45].getD k none
  | 48 => [none, none, some 49, some 50, none, some 51, some 52, some 53, some 54, some 55, some 56, some 57, some 58, some 59, some 60, some 61, some 62].getD k none
  | _ => none
theorem Mt.ofL {l : Launch} {G : GE} {mi : MI} {mc ms : Nat} {as : List AV} {σ : Sg} {Q : Option AV → Sg → Prop} {ls : List AV} (hy : plainName mi.1.cls = true) (hl : (entL as).length ≤ mi.2.2.1) (he : ent as mi.2.2.1 = ls) (k : Rr l G (Km G mi mc ms σ.2.2.1 Q) 0 0 0 ls [] σ) : Mt l G mi mc ms as σ Q := Mt.of hy hl (he ▸ k)
section LEAF
variable (l : Launch) (G : GE) (σ : Sg)
/-- isWithin -/
theorem t_isWithin (v a b : Int) : Mt l G miX4_isWithin 0 0 [ai v, ai a, ai b] σ (fun r σ' => r = some (ai (if wr a ≤ wr v ∧ wr v ≤ wr b then 1 else 0)) ∧ σ' = σ) := by
  refine Mt.ofL (ls := [ai v, ai a, ai b]) (by decide) (Nat.le_of_ble_eq_true rfl) rfl ?_
  dsimp only [Km, miX4_isWithin]
  refine R_iload_n dX4_isWithin_0 rfl rfl ?_
  refine R_iload_n dX4_isWithin_1 rfl rfl ?_
  refine R_icmp_lt (tgt := 14) dX4_isWithin_2 (by decide) (fun c_2 => ?_) (fun c_2 => ?_)
  · refine R_iconst dX4_isWithin_14 ?_
    refine R_zret dX4_isWithin_15 rfl rfl (by first | exact Or.inl rfl | exact Or.inr rfl | omega) rfl (Nat.le_refl _) ?_
    exact ⟨by congr 2; first | rw [if_pos (by omega)] | rw [if_neg (by omega)], rfl⟩
  · refine R_iload_n dX4_isWithin_5 rfl rfl ?_
    refine R_iload_n dX4_isWithin_6 rfl rfl ?_
    refine R_icmp_gt (tgt := 14) dX4_isWithin_7 (by decide) (fun c_7 => ?_) (fun c_7 => ?_)
    · refine R_iconst dX4_isWithin_14 ?_
      refine R_zret dX4_isWithin_15 rfl rfl (by first | exact Or.inl rfl | exact Or.inr rfl | omega) rfl (Nat.le_refl _) ?_
      exact ⟨by congr 2; first | rw [if_pos (by omega)] | rw [if_neg (by omega)], rfl⟩
    · refine R_iconst dX4_isWithin_10 ?_
      refine R_goto (tgt := 15) dX4_isWithin_11 (by decide) ?_
      refine R_zret dX4_isWithin_15 rfl rfl (by first | exact Or.inl rfl | exact Or.inr rfl | omega) rfl (Nat.le_refl _) ?_
      exact ⟨by congr 2; first | rw [if_pos (by omega)] | rw [if_neg (by omega)], rfl⟩
theorem t_in (v a b : Int) : Mt l G miX5_in 0 0 [ai v, ai a, ai b] σ (fun r σ' => r = some (ai (if wr a ≤ wr v ∧ wr v ≤ wr b then 1 else 0)) ∧ σ' = σ) := by
  refine Mt.ofL (ls := [ai v, ai a, ai b]) (by decide) (Nat.le_of_ble_eq_true rfl) rfl ?_
  dsimp only [Km, miX5_in]
  refine R_iload_n dX5_in_0 rfl rfl ?_
  refine R_iload_n dX5_in_1 rfl rfl ?_
  refine R_icmp_lt (tgt := 14) dX5_in_2 (by decide) (fun c_2 => ?_) (fun c_2 => ?_)
  · refine R_iconst dX5_in_14 ?_
    refine R_zret dX5_in_15 rfl rfl (by first | exact Or.inl rfl | exact Or.inr rfl | omega) rfl (Nat.le_refl _) ?_
    exact ⟨by congr 2; first | rw [if_pos (by omega)] | rw [if_neg (by omega)], rfl⟩
  · refine R_iload_n dX5_in_5 rfl rfl ?_
    refine R_iload_n dX5_in_6 rfl rfl ?_
    refine R_icmp_gt (tgt := 14) dX5_in_7 (by decide) (fun c_7 => ?_) (fun c_7 => ?_)
    · refine R_iconst dX5_in_14 ?_
      refine R_zret dX5_in_15 rfl rfl (by first | exact Or.inl rfl | exact Or.inr rfl | omega) rfl (Nat.le_refl _) ?_
      exact ⟨by congr 2; first | rw [if_pos (by omega)] | rw [if_neg (by omega)], rfl⟩
    · refine R_iconst dX5_in_10 ?_
      refine R_goto (tgt := 15) dX5_in_11 (by decide) ?_
      refine R_zret dX5_in_15 rfl rfl (by first | exact Or.inl rfl | exact Or.inr rfl | omega) rfl (Nat.le_refl _) ?_
      exact ⟨by congr 2; first | rw [if_pos (by omega)] | rw [if_neg (by omega)], rfl⟩
theorem t_placeOf (x y : Int) : Mt l G miX4_placeOf 0 0 [ai x, ai y] σ (fun r σ' => r = some (ai (y * 16 + x)) ∧ σ' = σ) := by
  refine Mt.ofL (ls := [ai x, ai y]) (by decide) (Nat.le_of_ble_eq_true rfl) rfl ?_
  dsimp only [Km, miX4_placeOf]
  refine R_iload_n dX4_placeOf_0 rfl rfl ?_
  refine R_bipush (z := 16) dX4_placeOf_1 rfl ?_
  refine R_imul dX4_placeOf_3 ?_
  refine R_iload_n dX4_placeOf_4 rfl rfl ?_
  refine R_iadd dX4_placeOf_5 ?_
  refine R_iret dX4_placeOf_6 rfl rfl rfl (Nat.le_refl _) ?_
  exact ⟨rfl, rfl⟩
theorem t_colourOf (x y : Int) : Mt l G miX4_colourOf 0 0 [ai x, ai y] σ (fun r σ' => r = some (ai (bAnd x 1 + bAnd y 1)) ∧ σ' = σ) := by
  refine Mt.ofL (ls := [ai x, ai y]) (by decide) (Nat.le_of_ble_eq_true rfl) rfl ?_
  dsimp only [Km, miX4_colourOf]
  refine R_iload_n dX4_colourOf_0 rfl rfl ?_
  refine R_iconst dX4_colourOf_1 ?_
  refine R_iand dX4_colourOf_2 ?_
  refine R_iload_n dX4_colourOf_3 rfl rfl ?_
  refine R_iconst dX4_colourOf_4 ?_
  refine R_iand dX4_colourOf_5 ?_
  refine R_iadd dX4_colourOf_6 ?_
  refine R_iret dX4_colourOf_7 rfl rfl rfl (Nat.le_refl _) ?_
  exact ⟨rfl, rfl⟩
theorem t_made (I : Nat → Nat → Int) (sw : Bool) (nx : Nat) (tl : Nat → Nat) (hnx : 63 ≤ nx) (x y p : Nat) (hx : x < 16) (hy : y < 16) (hp : p < 3) : Mt l G miX2_made 0 0 [ar 42, ai x, ai y, ai p] (I, Rs sw, nx, tl) (fun r σ' => r = some (ai (I (if sw then 44 else 43) (p * 256 + y * 16 + x))) ∧ σ' = (I, Rs sw, nx, tl)) := by
  refine Mt.ofL (ls := [ar 42, ai x, ai y, ai p]) (by decide) (Nat.le_of_ble_eq_true rfl) rfl ?_
  dsimp only [Km, miX2_made]
  refine R_aload_n dX2_made_0 rfl rfl ?_
  refine R_getA fRX2_9 dX2_made_1 rfl (Nat.lt_of_lt_of_le (Nat.le_of_ble_eq_true rfl) hnx) rfl ?_
  refine R_iload_n dX2_made_4 rfl rfl ?_
  refine R_sipush (z := 256) dX2_made_5 rfl ?_
  refine R_imul dX2_made_8 ?_
  refine R_iload_n dX2_made_9 rfl rfl ?_
  refine R_bipush (z := 16) dX2_made_10 rfl ?_
  refine R_imul dX2_made_12 ?_
  refine R_iadd dX2_made_13 ?_
  refine R_iload_n dX2_made_14 rfl rfl ?_
  refine R_iadd dX2_made_15 ?_
  refine R_iaload (k := p * 256 + y * 16 + x) dX2_made_16 (by cases sw <;> rfl) (by cases sw <;> exact Nat.lt_of_lt_of_le (Nat.le_of_ble_eq_true rfl) hnx) (by omega) (by omega) (by decide : (768 : Nat) < 2147483648) ?_
  refine R_iret dX2_made_17 rfl rfl rfl (Nat.le_refl _) ?_
  exact ⟨rfl, rfl⟩
end LEAF
end
section
/-! rows that make cells, copy rows, the empty constructor -/
def up1 {α : Type} (I : Nat → α) (p : Nat) (f : α) : Nat → α := fun q => if q = p then f else I q
theorem up1_self {α : Type} (I : Nat → α) (p : Nat) (f : α) : up1 I p f p = f := if_pos rfl
theorem up1_ne {α : Type} (I : Nat → α) {p q : Nat} (f : α) (h : q ≠ p) : up1 I p f q = I q := if_neg h
theorem kd_tmp (σ : Sg) {p : Nat} (h : 63 ≤ p) : kd σ p = (0, σ.2.2.2 p) := by
  unfold kd
  rw [List.getElem?_eq_none (show lay.length ≤ p from h)]
theorem kd_low {σ σ' : Sg} {p : Nat} (h : p < 63) : kd σ' p = kd σ p := by
  unfold kd
  have : lay[p]? = some (lay[p]'(show p < lay.length from h)) := List.getElem?_eq_getElem _
  rw [this]
theorem kd_up (I I' : Nat → Nat → Int) (Rf Rf' : Nat → Nat → Option Nat) (n n' : Nat) (tl : Nat → Nat) {p q : Nat} (N : Nat) (h : q ≠ p) : kd (I', Rf', n', up1 tl p N) q = kd (I, Rf, n, tl) q := by
  unfold kd
  cases lay[q]? with
  | some x => rfl
  | none => simp [up1_ne tl N h]
section ALLOC
variable {l : Launch} {G : GE} {K : KT} {kc ks pc : Nat} {ls st : List AV} {σ : Sg}
theorem new_at {σ : Sg} {H1 : Heap} {q : Nat} {e : va_E} (hP1 : va_P G.1 vwCl (wsOf G σ ++ [(q, e)]) H1) (hD1 : va_D (AA G) (wsOf G σ ++ [(q, e)])) (hle : H1.size ≤ G.2.2.1 + σ.2.2.1 + 1) : q = G.2.2.1 + σ.2.2.1 := by
  have hlen : (wsOf G σ).length = σ.2.2.1 := by unfold wsOf; simp
  have hat : (wsOf G σ ++ [(q, e)])[σ.2.2.1]? = some (q, e) := by
    rw [List.getElem?_append_right (by omega), hlen]
    simp
  have h1 : q < H1.size := (hP1 _ _ hat).lt
  have h2 : G.2.2.1 ≤ q := hD1.2 _ _ hat
  rcases Nat.lt_or_ge q (G.2.2.1 + σ.2.2.1) with h | h
  · have h3 : (wsOf G σ ++ [(q, e)])[q - G.2.2.1]? = some (G.2.2.1 + (q - G.2.2.1), cellOf G σ (q - G.2.2.1)) := by
      rw [List.getElem?_append_left (by omega), ws_get G σ (by omega)]
    have := hD1.1 _ _ _ _ h3 hat (by show G.2.2.1 + (q - G.2.2.1) = q; omega)
    omega
  · omega
theorem after_new {I I' : Nat → Nat → Int} {Rf Rf' : Nat → Nat → Option Nat} {nx : Nat} {tl tl' : Nat → Nat} {p : Program} {e : Env} {s : State} {m : MethodId} {args : Array Value} {below : List Frame} {meth : Method} {c : Code} {H1 : Heap} {locs : List Loc} {cls : Array Slot} {q pc' N : Nat} {x : va_E}
    (C : Cx G K p s m args meth c) (hP1 : va_P G.1 vwCl (wsOf G (I, Rf, nx, tl) ++ [(q, x)]) H1) (hD1 : va_D (AA G) (wsOf G (I, Rf, nx, tl) ++ [(q, x)])) (hS1 : va_S (AA G) s.heap H1 locs) (hn : nx = K.2.2.2.2.2.2.1 + kc) (hlim : nx < 1000000) (hl : lv_has cls K.2.2.1 (lvL G ls))
    (hx : cellOf G (I', Rf', nx + 1, tl') nx = x) (ho : ∀ j, j < nx → cellOf G (I', Rf', nx + 1, tl') j = cellOf G (I, Rf, nx, tl) j) (kk : Rr l G K (kc + 1) (ks + N) pc' ls (ar nx :: st) (I', Rf', nx + 1, tl')) :
    W p l e K.2.2.2.2.2.1 s m args below meth c H1 locs (kc + 1) (ks + N) (K.2.2.2.2.2.2.2 below args s) (F0 m pc' cls (.ref q :: st.map (cv G))) := by
  refine W_sz fun hle => ?_
  have h0 := C.2.2.2.2.2.2.2.2.2
  have hq : q = G.2.2.1 + nx := new_at (σ := (I, Rf, nx, tl)) hP1 hD1 (by show H1.size ≤ G.2.2.1 + nx + 1; omega)
  subst hq
  rw [ws_push G (I, Rf, nx, tl) (I', Rf', nx + 1, tl') rfl hx ho] at hP1
  have hR : Rp G (I', Rf', nx + 1, tl') H1 := ⟨hP1, hlim⟩
  have hw := kk p e s m args below meth c H1 locs cls C hS1 hR (size_of (K := K) (kc := kc + 1) hR h0 hS1.1 (by show nx + 1 = _; omega) hle) (by show nx + 1 = _; omega) hl
  rw [← adr_lo (G := G) (p := nx) hlim]
  exact hw
theorem R_new {idx ci N : Nat} {C' : String} {T : u_T} {I : Nat → Nat → Int} {Rf : Nat → Nat → Option Nat} {nx : Nat} {tl : Nat → Nat} (hd : decode K.2.1 pc = .ok (.new idx, 3)) (hc : vwCl[ci]? = some (C', T, N)) (hw : Cond.classLink K.1 idx C' ∈ TG) (hw2 : Cond.instantiable C' N ∈ TG) (hw3 : Cond.initialized C' ∈ TG) (hk : lay[nx]? = some (ci + 3, N)) (hlim : nx < 63) (hR : kc + 1 ≤ K.2.2.2.2.2.1.cells ∧ ks + N ≤ K.2.2.2.2.2.1.slots)
    (hfs : ∀ j, j < N → defaultValue (tyc ci j) = vp_V (fvs G (fun _ => 0) (fun _ => none) (ftl.getD ci []) 0) j)
    (kk : Rr l G K (kc + 1) (ks + N) (pc + 3) ls (ar nx :: st) (up1 I nx (fun _ => 0), up1 Rf nx (fun _ => none), nx + 1, tl)) : Rr l G K kc ks pc ls st (I, Rf, nx, tl) := by
  intro p e s m args below meth c H locs cls C hS hP hz hn hl
  have hts := C.2.2.2.2.2.1
  refine va_new (ci := ci) (fs := fvs G (fun _ => 0) (fun _ => none) (ftl.getD ci []) 0) C.1 C.2.1 hts (inTG hc) (tyc ci) (tyc_ok hc) C.2.2.2.2.1 (hts _ hw) (hts _ hw2) (hts _ hw3) C.2.2.2.2.2.2.2.2.1.1 hP.1 (ws_D G _) hS (fun q h => by have := C.2.2.2.2.2.2.2.2.2; show G.2.2.1 ≤ q; omega) hc hfs hR.1 hR.2 hd (fun q H1 hP1 hD1 hS1 => ?_)
  refine after_new C hP1 hD1 hS1 hn (by omega) hl ?_ (fun j hj => ?_) kk
  · unfold cellOf
    rw [show kd (up1 I nx (fun _ => 0), up1 Rf nx (fun _ => none), nx + 1, tl) nx = (ci + 3, N) by unfold kd; rw [hk]]
    show cellAt G (ci + 3, N) (up1 I nx (fun _ => 0) nx) (up1 Rf nx (fun _ => none) nx) = _
    rw [up1_self, up1_self]
    rfl
  · unfold cellOf
    show cellAt G (kd _ j) (up1 I nx (fun _ => 0) j) (up1 Rf nx (fun _ => none) j) = cellAt G (kd _ j) (I j) (Rf j)
    rw [up1_ne I _ (Nat.ne_of_lt hj), up1_ne Rf _ (Nat.ne_of_lt hj)]
    rfl
theorem same_arr {s : State} {cA : ClassId} {ty : FieldType} {t0 : Nat} {c0 : ClassId} (h1 : va_K G.1 vwCl (tysG G ++ [(cA, ty)]) s) (h0 : (tysG G)[t0]? = some (c0, ty)) (hty : ty = .int ∨ ty = .boolean) : cA = c0 := by
  have h2 : va_RA s cA ty := (h1.2 3 _ rfl).2
  have h3 : va_RA s c0 ty := (h1.2 t0 _ (by rw [List.getElem?_append_left (List.getElem?_eq_some_iff.mp h0).1]; exact h0)).2
  rcases hty with rfl | rfl
  · exact Option.some.inj (h2.symm.trans h3)
  · exact Option.some.inj (h2.symm.trans h3)
theorem R_newI {n : Int} {N : Nat} {I : Nat → Nat → Int} {Rf : Nat → Nat → Option Nat} {nx : Nat} {tl : Nat → Nat} (hd : decode K.2.1 pc = .ok (.newarray .int, 2)) (hN : n = N) (hb : N < 100000) (hk : kd (up1 I nx (fun _ => 0), Rf, nx + 1, up1 tl nx N) nx = (0, N)) (hlim : nx < 1000000) (hR : kc + 1 ≤ K.2.2.2.2.2.1.cells ∧ ks + N ≤ K.2.2.2.2.2.1.slots)
    (kk : Rr l G K (kc + 1) (ks + N) (pc + 2) ls (ar nx :: st) (up1 I nx (fun _ => 0), Rf, nx + 1, up1 tl nx N)) : Rr l G K kc ks pc ls (ai n :: st) (I, Rf, nx, tl) := by
  intro p e s m args below meth c H locs cls C hS hP hz hn hl
  subst hN
  have hts := C.2.2.2.2.2.1
  refine va_newa (atype := .int) (ty := .int) (a0 := (N, .inl (fun _ => iI 0))) C.1 C.2.1 (hts _ wAI) rfl C.2.2.2.2.2.2.2.2.1.1 hP.1 (ws_D G _) hS (fun q h => by have := C.2.2.2.2.2.2.2.2.2; show G.2.2.1 ≤ q; omega) (fun cA => rfl) (by rw [iI_0, iI_lt, wr_id (by omega) (by omega)]; unfold wr; omega) (iI_clamp (by omega)) (by show N * 4 ≤ _; omega) hR.1 hR.2 hd (fun q cA H1 hK1 hP1 hD1 hS1 => ?_)
  have hcA : cA = G.2.1.1 := same_arr hK1 (t0 := 0) rfl (Or.inl rfl)
  subst hcA
  refine after_new C hP1 hD1 hS1 hn hlim hl ?_ (fun j hj => ?_) kk
  · unfold cellOf
    rw [hk]
    show cellAt G (0, N) (up1 I nx (fun _ => 0) nx) _ = _
    rw [up1_self]
    rfl
  · unfold cellOf
    show cellAt G (kd _ j) (up1 I nx (fun _ => 0) j) (Rf j) = cellAt G (kd _ j) (I j) (Rf j)
    rw [up1_ne I _ (Nat.ne_of_lt hj), kd_up I _ Rf Rf nx (nx + 1) tl N (Nat.ne_of_lt hj)]
theorem R_newZ {n : Int} {N : Nat} {I : Nat → Nat → Int} {Rf : Nat → Nat → Option Nat} {nx : Nat} {tl : Nat → Nat} (hd : decode K.2.1 pc = .ok (.newarray .boolean, 2)) (hN : n = N) (hb : N < 100000) (hk : kd (up1 I nx (fun _ => 0), Rf, nx + 1, up1 tl nx N) nx = (1, N)) (hlim : nx < 1000000) (hR : kc + 1 ≤ K.2.2.2.2.2.1.cells ∧ ks + N ≤ K.2.2.2.2.2.1.slots)
    (kk : Rr l G K (kc + 1) (ks + N) (pc + 2) ls (ar nx :: st) (up1 I nx (fun _ => 0), Rf, nx + 1, up1 tl nx N)) : Rr l G K kc ks pc ls (ai n :: st) (I, Rf, nx, tl) := by
  intro p e s m args below meth c H locs cls C hS hP hz hn hl
  subst hN
  have hts := C.2.2.2.2.2.1
  refine va_newa (atype := .boolean) (ty := .boolean) (a0 := (N, .inl (fun _ => iI 0))) C.1 C.2.1 (hts _ wAZ) rfl C.2.2.2.2.2.2.2.2.1.1 hP.1 (ws_D G _) hS (fun q h => by have := C.2.2.2.2.2.2.2.2.2; show G.2.2.1 ≤ q; omega) (fun cA => rfl) (by rw [iI_0, iI_lt, wr_id (by omega) (by omega)]; unfold wr; omega) (iI_clamp (by omega)) (by show N * 1 ≤ _; omega) hR.1 hR.2 hd (fun q cA H1 hK1 hP1 hD1 hS1 => ?_)
  have hcA : cA = G.2.1.2.1 := same_arr hK1 (t0 := 1) rfl (Or.inr rfl)
  subst hcA
  refine after_new C hP1 hD1 hS1 hn hlim hl ?_ (fun j hj => ?_) kk
  · unfold cellOf
    rw [hk]
    show cellAt G (1, N) (up1 I nx (fun _ => 0) nx) _ = _
    rw [up1_self]
    rfl
  · unfold cellOf
    show cellAt G (kd _ j) (up1 I nx (fun _ => 0) j) (Rf j) = cellAt G (kd _ j) (I j) (Rf j)
    rw [up1_ne I _ (Nat.ne_of_lt hj), kd_up I _ Rf Rf nx (nx + 1) tl N (Nat.ne_of_lt hj)]
theorem R_objInit {idx x : Nat} (hd : decode K.2.1 pc = .ok (.invokespecial idx, 3)) (hw : Cond.methodLink K.1 idx objectInit ∈ TG) (hR : 1 ≤ K.2.2.2.2.2.1.frames ∧ ((st.map (cv G)).map fun v => v.category).sum + 12 ≤ K.2.2.2.2.2.1.locals) (kk : Rr l G K kc ks (pc + 3) ls st σ) : Rr l G K kc ks pc ls (ar x :: st) σ := by
  intro p e s m args below meth c H locs cls C hS hP hz hn hl
  have hts := C.2.2.2.2.2.1
  exact W.objInit C.1 C.2.1 C.2.2.2.2.1 (hts _ hw) (hts _ wObj) (hts _ wObj2) rfl (hl.1.trans C.2.2.1.symm) rfl hd hR.1 (by show 2 * 0 + _ + 12 ≤ _; rw [Nat.mul_zero, Nat.zero_add]; exact hR.2) (kk p e s m args below meth c H locs cls C hS hP hz hn hl)
theorem R_copy {idx ps pd ns nd a b n : Nat} {zs zd zn : Int} {I : Nat → Nat → Int} {σ2 : (Nat → Nat → Option Nat) × Nat × (Nat → Nat)} (hd : decode K.2.1 pc = .ok (.invokestatic idx, 3)) (hw : Cond.methodLink K.1 idx arraycopyName ∈ TG) (hks : kd (I, σ2) ps = (0, ns)) (hkd : kd (I, σ2) pd = (0, nd)) (hps : ps < σ2.2.1) (hpd : pd < σ2.2.1) (ha : zs = a) (hb : zd = b) (hn : zn = n) (h1 : a + n ≤ ns) (h2 : b + n ≤ nd) (hlim : ns < 100000 ∧ nd < 100000)
    (hR : 1 ≤ K.2.2.2.2.2.1.frames ∧ ((st.map (cv G)).map fun v => v.category).sum + 18 ≤ K.2.2.2.2.2.1.locals) (kk : Rr l G K kc ks (pc + 3) ls st (up1 I pd (fun j => if b ≤ j ∧ j < b + n then I ps (a + (j - b)) else I pd j), σ2)) : Rr l G K kc ks pc ls (ai zn :: ai zd :: ar pd :: ai zs :: ar ps :: st) (I, σ2) := by
  intro p e s m args below meth c H locs cls C hS hP hz2 hn2 hl
  subst ha hb hn
  have hts := C.2.2.2.2.2.1
  have hcs : cellOf G (I, σ2) ps = .inl (G.2.1.1, ns, .inl (fun j => iI (I ps j))) := by unfold cellOf; rw [hks]; rfl
  have hcd : cellOf G (I, σ2) pd = .inl (G.2.1.1, nd, .inl (fun j => iI (I pd j))) := by unfold cellOf; rw [hkd]; rfl
  have hgs := ws_get G (I, σ2) hps
  rw [hcs] at hgs
  have hgd := ws_get G (I, σ2) hpd
  rw [hcd] at hgd
  have hm : σ2.2.1 ≤ 1000000 := hP.2
  show W _ _ _ _ _ _ _ _ _ _ _ _ _ _ _ (F0 m pc cls (.int (iI n) :: .int (iI b) :: .ref (adr G pd) :: .int (iI a) :: .ref (adr G ps) :: st.map (cv G)))
  rw [adr_lo (G := G) (p := pd) (by omega), adr_lo (G := G) (p := ps) (by omega)]
  refine va_copyi C.1 C.2.1 (C.2.2.1.trans hl.1.symm) C.2.2.2.2.1 (hts _ hw) (hts _ wArr) (hts _ wArr2) (hts _ wSys) C.2.2.2.2.2.2.2.2.1.1 hP.1 (ws_D G (I, σ2)) hS ps pd 0 0 hgs hgd rfl rfl rfl (by rw [iI_0, iI_lt, wr_id (by omega) (by omega)]; unfold wr; omega) (by rw [iI_0, iI_lt, wr_id (by omega) (by omega)]; unfold wr; omega) (by rw [iI_0, iI_lt, wr_id (by omega) (by omega)]; unfold wr; omega) (by rw [iI_clamp (by omega), iI_clamp (by omega)]; exact h1) (by rw [iI_clamp (by omega), iI_clamp (by omega)]; exact h2) (fun _ _ => rfl) hR.1 (by show _ + 18 ≤ _; exact hR.2) hd (fun H1 locs1 hP1 hD1 hS1 => ?_)
  rw [iI_clamp (by omega), iI_clamp (by omega), iI_clamp (by omega)] at hP1
  rw [ws_set G (I, σ2) (up1 I pd (fun j => if b ≤ j ∧ j < b + n then I ps (a + (j - b)) else I pd j), σ2) hpd rfl (by
      unfold cellOf
      rw [show kd (up1 I pd (fun j => if b ≤ j ∧ j < b + n then I ps (a + (j - b)) else I pd j), σ2) pd = (0, nd) from hkd]
      show cellAt G (0, nd) (up1 I pd (fun j => if b ≤ j ∧ j < b + n then I ps (a + (j - b)) else I pd j) pd) _ = _
      rw [up1_self]
      unfold cellAt
      dsimp only
      congr 4
      funext j
      unfold va_cpy
      split <;> rfl) (fun j hj => by
      unfold cellOf
      show cellAt G (kd _ j) (up1 I pd (fun j => if b ≤ j ∧ j < b + n then I ps (a + (j - b)) else I pd j) j) _ = _
      rw [up1_ne I _ hj]
      rfl)] at hP1
  have hRp : Rp G (up1 I pd (fun j => if b ≤ j ∧ j < b + n then I ps (a + (j - b)) else I pd j), σ2) H1 := ⟨hP1, hP.2⟩
  exact W_sz fun hle => kk p e s m args below meth c H1 locs1 cls C hS1 hRp (size_of (K := K) hRp C.2.2.2.2.2.2.2.2.2 hS1.1 hn2 hle) hn2 hl
end ALLOC
end
section
/-! what the calls mean: a state of cells, path, numbers at hand; the stages' facts -/
abbrev Sp : Type := Nat × Nat × (Nat → Int) × (Nat → Int) × Nat × (Nat → Nat) × (Nat → Nat → Int) × (Nat → Int) × (Nat → Int)
def sW (S : Sp) : Nat := S.1
def sH (S : Sp) : Nat := S.2.1
def sC (S : Sp) : Nat → Int := S.2.2.1
def sD (S : Sp) : Nat → Int := S.2.2.2.1
def sN (S : Sp) : Nat := S.2.2.2.2.1
def sK (S : Sp) : Nat → Nat := S.2.2.2.2.2.1
def sT (S : Sp) : Nat → Nat → Int := S.2.2.2.2.2.2.1
def sE (S : Sp) : Nat → Int := S.2.2.2.2.2.2.2.1
def sP (S : Sp) : Nat → Int := S.2.2.2.2.2.2.2.2
def many (k : Nat) : Nat := if k = 0 then 1 else if k = 1 then 3 else if k = 5 then 9 else if k = 6 then 17 else 0
def fW (S : Sp) : Nat → Nat
  | 0 => sW S
  | k + 1 => if sK S k = 7 then fW S k / 2 else fW S k
def fH (S : Sp) : Nat → Nat
  | 0 => sH S
  | k + 1 => if sK S k = 7 then fH S k / 2 else fH S k
def fP (S : Sp) : Nat → Nat
  | 0 => 1
  | k + 1 => if sK S k = 4 then 3 else fP S k
def fS (S : Sp) : Nat → Nat
  | 0 => 1
  | k + 1 => if sK S k = 7 then 2 * fS S k else fS S k
def fL (S : Sp) : Nat → Nat
  | 0 => 0
  | k + 1 => fL S k + (if sK S k = 2 ∨ sK S k = 3 then 2 else if sK S k = 4 then 1 else if sK S k = 7 then fS S k else 0)
/-- what holds of one STEP -/
def OkJ (S : Sp) (j : Nat) : Prop := sK S j ≤ 7 ∧ (sK S j ≤ 4 → fP S j = 1) ∧ (4 < sK S j → fP S j = 3) ∧ (sK S j = 7 → 2 ≤ fW S j ∧ 2 ≤ fH S j) ∧
  (sK S j = 0 → 0 ≤ sT S j 0 ∧ sT S j 0 ≤ 1023) ∧ (sK S j = 1 → ∀ i, i < 3 → 0 ≤ sT S j i ∧ sT S j i ≤ 8000) ∧ (sK S j = 5 → ∀ i, i < 9 → -4000 ≤ sT S j i ∧ sT S j i ≤ 4000) ∧
  (sK S j = 6 → ∀ i, i < 17 → 0 ≤ sT S j i ∧ sT S j i ≤ 4095 ∧ (i < 16 → sT S j i ≤ sT S j (i + 1)))
def OkS (S : Sp) : Prop := (1 ≤ sW S ∧ sW S ≤ 16) ∧ (1 ≤ sH S ∧ sH S ≤ 16) ∧ (∀ k, k < 256 → 0 ≤ sC S k ∧ sC S k ≤ 1023) ∧ (∀ k, k < 256 → sD S k = 0 ∨ sD S k = 1) ∧ sN S ≤ 10 ∧ (∀ j, j < sN S → OkJ S j) ∧
  (∀ i, i < 9 → -4000 ≤ sE S i ∧ sE S i ≤ 4000) ∧ (∀ i, i < 17 → 0 ≤ sP S i ∧ sP S i ≤ 4095)
theorem fP_13 (S : Sp) : ∀ k, fP S k = 1 ∨ fP S k = 3
  | 0 => Or.inl rfl
  | k + 1 => by
    show (if sK S k = 4 then 3 else fP S k) = 1 ∨ (if sK S k = 4 then 3 else fP S k) = 3
    split
    · exact Or.inr rfl
    · exact fP_13 S k
theorem f_rng {S : Sp} (h : OkS S) : ∀ k, k ≤ sN S → (1 ≤ fW S k ∧ fW S k ≤ 16) ∧ (1 ≤ fH S k ∧ fH S k ≤ 16) ∧ (fP S k = 1 → fW S k = sW S ∧ fH S k = sH S)
  | 0, _ => ⟨h.1, h.2.1, fun _ => ⟨rfl, rfl⟩⟩
  | k + 1, hk => by
    obtain ⟨h1, h2, h3⟩ := f_rng h k (by omega)
    obtain ⟨-, h4, h5, h6, -⟩ := h.2.2.2.2.2.1 k (by omega)
    show (1 ≤ (if sK S k = 7 then fW S k / 2 else fW S k) ∧ (if sK S k = 7 then fW S k / 2 else fW S k) ≤ 16) ∧ (1 ≤ (if sK S k = 7 then fH S k / 2 else fH S k) ∧ (if sK S k = 7 then fH S k / 2 else fH S k) ≤ 16) ∧ ((if sK S k = 4 then 3 else fP S k) = 1 → (if sK S k = 7 then fW S k / 2 else fW S k) = sW S ∧ (if sK S k = 7 then fH S k / 2 else fH S k) = sH S)
    by_cases h7 : sK S k = 7
    · have := h6 h7
      have := h5 (by omega)
      simp only [h7, if_true]
      refine ⟨by omega, by omega, fun q => ?_⟩
      simp at q
      omega
    · simp only [h7, if_false]
      refine ⟨h1, h2, fun q => ?_⟩
      by_cases h8 : sK S k = 4
      · simp [h8] at q
      · simp only [h8, if_false] at q
        exact h3 q
theorem fS_le (S : Sp) : ∀ k, 1 ≤ fS S k ∧ fS S k ≤ 2 ^ k
  | 0 => ⟨Nat.le_refl 1, Nat.le_refl 1⟩
  | k + 1 => by
    have := fS_le S k
    show 1 ≤ (if sK S k = 7 then 2 * fS S k else fS S k) ∧ (if sK S k = 7 then 2 * fS S k else fS S k) ≤ 2 ^ (k + 1)
    have e : 2 ^ (k + 1) = 2 * 2 ^ k := by rw [Nat.pow_succ]; omega
    rw [e]
    split <;> omega
theorem fS_rng {S : Sp} {k : Nat} (h : k ≤ 10) : 1 ≤ fS S k ∧ fS S k ≤ 1024 := ⟨(fS_le S k).1, Nat.le_trans (fS_le S k).2 (Nat.pow_le_pow_right (by decide) h)⟩
theorem fL_le (S : Sp) : ∀ k, k ≤ 10 → fL S k ≤ 1026 * k
  | 0, _ => Nat.le_refl 0
  | k + 1, h => by
    have h1 := fL_le S k (by omega)
    have h2 := fS_rng (S := S) (k := k) (by omega)
    show fL S k + (if sK S k = 2 ∨ sK S k = 3 then 2 else if sK S k = 4 then 1 else if sK S k = 7 then fS S k else 0) ≤ _
    repeat' split
    all_goals omega
/-- the reference's memory says S -/
def RelM (I : Nat → Nat → Int) (S : Sp) : Prop := I 48 0 = sW S ∧ I 48 1 = sH S ∧ (∀ k, k < 256 → I 49 k = sC S k) ∧ (∀ k, k < 256 → I 50 k = sD S k) ∧ I 48 4 = sN S ∧ (∀ j, j < sN S → I 51 j = sK S j) ∧ (∀ j, j < sN S → ∀ i, i < many (sK S j) → I 52 (17 * j + i) = sT S j i) ∧ (∀ i, i < 9 → I 53 i = sE S i) ∧ (∀ i, i < 17 → I 54 i = sP S i)
/-- its stages are measured -/
def Ms (I : Nat → Nat → Int) (S : Sp) (n : Nat) : Prop := ∀ k, k ≤ n → I 55 k = fW S k ∧ I 56 k = fH S k ∧ I 57 k = fP S k ∧ I 58 k = fL S k ∧ I 59 k = fS S k
/-- a state in which only numbers have moved -/
def QI (sw : Bool) (nx : Nat) (tl : Nat → Nat) (P : Option AV → (Nat → Nat → Int) → Prop) : Option AV → Sg → Prop := fun r σ' => ∃ I', σ' = (I', Rs sw, nx, tl) ∧ P r I'
theorem RelM_of {I I' : Nat → Nat → Int} {S : Sp} (h : RelM I S) (hk : ∀ p, 48 ≤ p → p ≤ 54 → I' p = I p) : RelM I' S := by
  obtain ⟨h1, h2, h3, h4, h5, h6, h7, h8, h9⟩ := h
  refine ⟨by rw [hk _ (by decide) (by decide)]; exact h1, by rw [hk _ (by decide) (by decide)]; exact h2, fun k q => by rw [hk _ (by decide) (by decide)]; exact h3 k q, fun k q => by rw [hk _ (by decide) (by decide)]; exact h4 k q, by rw [hk _ (by decide) (by decide)]; exact h5, fun k q => by rw [hk _ (by decide) (by decide)]; exact h6 k q, fun k q i qi => by rw [hk _ (by decide) (by decide)]; exact h7 k q i qi, fun k q => by rw [hk _ (by decide) (by decide)]; exact h8 k q, fun k q => by rw [hk _ (by decide) (by decide)]; exact h9 k q⟩
theorem bDivN {x y : Nat} (hx : x < 2147483648) (hy : 0 < y) (hy2 : y < 2147483648) : bDiv x y = ((x / y : Nat) : Int) := by
  unfold bDiv
  rw [Int32.toInt_div, iI_toInt, iI_toInt, wr_id (by omega) (by omega), wr_id (by omega) (by omega), wr_bmod]
  have : (x : Int).tdiv y = ((x / y : Nat) : Int) := by
    rw [Int.tdiv_eq_ediv_of_nonneg (by omega)]
    rfl
  rw [this]
  have hq := Nat.div_le_self x y
  generalize x / y = q at *
  exact wr_id (by omega) (by omega)
/-! what each call answers, and the state behind it -/
def S_size (S : Sp) (w h : Nat) : Sp := (w, h, fun _ => 0, fun _ => 0, 0, sK S, sT S, sE S, sP S)
def o_size (S : Sp) (w h : Int) : Int × Sp := if (1 ≤ w ∧ w ≤ 16) ∧ (1 ≤ h ∧ h ≤ 16) then (w * h, S_size S w.toNat h.toNat) else (-102, S)
def ups (f : Nat → Int) (k : Nat) (v : Int) : Nat → Int := fun j => if j = k then v else f j
def o_cell (S : Sp) (x y v : Int) : Int × Sp := if (0 ≤ x ∧ x < sW S) ∧ (0 ≤ y ∧ y < sH S) then (if 0 ≤ v ∧ v ≤ 1023 then (sC S (16 * y + x).toNat, (sW S, sH S, ups (sC S) (16 * y + x).toNat v, sD S, sN S, sK S, sT S, sE S, sP S)) else (-102, S)) else (-101, S)
def o_dead (S : Sp) (x y v : Int) : Int × Sp := if (0 ≤ x ∧ x < sW S) ∧ (0 ≤ y ∧ y < sH S) then (sD S (16 * y + x).toNat, (sW S, sH S, sC S, ups (sD S) (16 * y + x).toNat v, sN S, sK S, sT S, sE S, sP S)) else (-101, S)
def o_entry (S : Sp) (i v : Int) : Int × Sp := if 0 ≤ i ∧ i ≤ 8 then (if -4000 ≤ v ∧ v ≤ 4000 then (sE S i.toNat, (sW S, sH S, sC S, sD S, sN S, sK S, sT S, ups (sE S) i.toNat v, sP S)) else (-102, S)) else (-101, S)
def o_point (S : Sp) (i v : Int) : Int × Sp := if 0 ≤ i ∧ i ≤ 16 then (if 0 ≤ v ∧ v ≤ 4095 then (sP S i.toNat, (sW S, sH S, sC S, sD S, sN S, sK S, sT S, sE S, ups (sP S) i.toNat v)) else (-102, S)) else (-101, S)
def o_undo (S : Sp) : Int × Sp := if sN S = 0 then (-103, S) else ((sN S - 1 : Nat), (sW S, sH S, sC S, sD S, sN S - 1, sK S, sT S, sE S, sP S))
def o_kind (S : Sp) (k : Int) : Int := if 0 ≤ k ∧ k < sN S then sK S k.toNat else -1
def bar (S : Sp) (k : Nat) : Int := if (if k ≤ 4 then fP S (sN S) = 1 else fP S (sN S) = 3) ∧ (k = 7 → 2 ≤ fW S (sN S) ∧ 2 ≤ fH S (sN S)) then (if sN S = 10 then -104 else 0) else -103
def S_add (S : Sp) (k : Nat) (f : Nat → Int) : Sp := (sW S, sH S, sC S, sD S, sN S + 1, fun j => if j = sN S then k else sK S j, fun j => if j = sN S then f else sT S j, sE S, sP S)
def o_add (S : Sp) (k : Nat) (f : Nat → Int) : Int × Sp := if bar S k = 0 then ((sN S + 1 : Nat), S_add S k f) else (bar S k, S)
def o_black (S : Sp) (k : Int) : Int × Sp := if 0 ≤ k ∧ k ≤ 1023 then o_add S 0 (fun _ => k) else (-102, S)
def o_gain (S : Sp) (r g b : Int) : Int × Sp := if (0 ≤ r ∧ r ≤ 8000) ∧ (0 ≤ g ∧ g ≤ 8000) ∧ (0 ≤ b ∧ b ≤ 8000) then o_add S 1 (fun i => if i = 0 then r else if i = 1 then g else b) else (-102, S)
def o_step (S : Sp) (k : Int) : Int × Sp := if k = 2 ∨ k = 3 ∨ k = 4 ∨ k = 7 then o_add S k.toNat (fun _ => 0) else (-102, S)
def o_matrix (S : Sp) : Int × Sp := o_add S 5 (sE S)
def o_curve (S : Sp) : Int × Sp := if ∀ i, i < 16 → sP S i ≤ sP S (i + 1) then o_add S 6 (sP S) else (-102, S)
def o_stage (S : Sp) (k w : Int) : Int := if 0 ≤ k ∧ k ≤ sN S then (if w = 0 then fW S k.toNat else if w = 1 then fH S k.toNat else if w = 2 then fP S k.toNat else if w = 3 then fL S k.toNat else if w = 4 then fS S k.toNat else -102) else -101
def nD (S : Sp) : Nat → Int
  | 0 => 0
  | k + 1 => nD S k + sD S k
def o_count (S : Sp) (w : Int) : Int := if w = 0 then sW S else if w = 1 then sH S else if w = 2 then nD S 256 else if w = 3 then sN S else -102
def inR (z : Int) : Prop := -2147483648 ≤ z ∧ z < 2147483648
end
section
/-! the reference: small calls -/
section MODEL1
variable (l : Launch) (G : GE)
theorem b_in (σ : Sg) (v a b : Int) : Mt l G miX5_in 0 0 [ai v, ai a, ai b] σ (fun r σ' => (∃ z : Int, r = some (ai z) ∧ ((z = 1 ∧ wr a ≤ wr v ∧ wr v ≤ wr b) ∨ (z = 0 ∧ ¬ (wr a ≤ wr v ∧ wr v ≤ wr b)))) ∧ σ' = σ) := (t_in l G σ v a b).mono fun r σ' _ h => by
  obtain ⟨h1, h2⟩ := h
  refine ⟨⟨_, h1, ?_⟩, h2⟩
  split
  · exact Or.inl ⟨rfl, by assumption⟩
  · exact Or.inr ⟨rfl, by assumption⟩
theorem b_isWithin (σ : Sg) (v a b : Int) : Mt l G miX4_isWithin 0 0 [ai v, ai a, ai b] σ (fun r σ' => (∃ z : Int, r = some (ai z) ∧ ((z = 1 ∧ wr a ≤ wr v ∧ wr v ≤ wr b) ∨ (z = 0 ∧ ¬ (wr a ≤ wr v ∧ wr v ≤ wr b)))) ∧ σ' = σ) := (t_isWithin l G σ v a b).mono fun r σ' _ h => by
  obtain ⟨h1, h2⟩ := h
  refine ⟨⟨_, h1, ?_⟩, h2⟩
  split
  · exact Or.inl ⟨rfl, by assumption⟩
  · exact Or.inr ⟨rfl, by assumption⟩
theorem t_isCell (I : Nat → Nat → Int) (sw : Bool) (nx : Nat) (tl : Nat → Nat) (hnx : 63 ≤ nx) (x y : Int) {S : Sp} (hR : RelM I S) (hO : OkS S) : Mt l G miX5_isCell 0 0 [ar 48, ai x, ai y] (I, Rs sw, nx, tl) (fun r σ' => (∃ z : Int, r = some (ai z) ∧ ((z = 1 ∧ (0 ≤ wr x ∧ wr x < sW S) ∧ (0 ≤ wr y ∧ wr y < sH S)) ∨ (z = 0 ∧ ¬ ((0 ≤ wr x ∧ wr x < sW S) ∧ (0 ≤ wr y ∧ wr y < sH S))))) ∧ σ' = (I, Rs sw, nx, tl)) := by
  obtain ⟨h1, h2, -⟩ := hR
  obtain ⟨⟨o1, o2⟩, ⟨o3, o4⟩, -⟩ := hO
  refine Mt.ofL (ls := [ar 48, ai x, ai y]) (by decide) (Nat.le_of_ble_eq_true rfl) rfl ?_
  dsimp only [Km, miX5_isCell]
  refine R_iload_n dX5_isCell_0 rfl rfl ?_
  refine R_iconst dX5_isCell_1 ?_
  refine R_aload_n dX5_isCell_2 rfl rfl ?_
  refine R_getI fRX5_7 dX5_isCell_3 rfl (Nat.lt_of_lt_of_le (Nat.le_of_ble_eq_true rfl) hnx) ?_
  refine R_iconst dX5_isCell_6 ?_
  refine R_isub dX5_isCell_7 ?_
  refine R_cS dX5_isCell_8 kRX5_60 vX5_in ⟨(Nat.le_of_ble_eq_true rfl), (Nat.le_of_ble_eq_true rfl)⟩ (b_in l G _ _ _ _) rfl ⟨(Nat.le_of_ble_eq_true rfl), (Nat.le_of_ble_eq_true rfl)⟩ rfl (Nat.le_of_ble_eq_true rfl) (fun r σ' hq hn' => ?_)
  obtain ⟨⟨b8, rfl, hb8⟩, rfl⟩ := hq
  dsimp only at hb8
  rw [h1] at hb8
  simp only [wr] at hb8
  refine R_if_eq (tgt := 32) dX5_isCell_11 (by decide) (fun c_11 => ?_) (fun c_11 => ?_)
  · simp only [wr] at c_11
    first
    | (exfalso; omega)
    | (refine R_iconst dX5_isCell_32 ?_
       refine R_zret dX5_isCell_33 rfl rfl (by first | exact Or.inl rfl | exact Or.inr rfl | omega) rfl (Nat.le_refl _) ?_
       exact ⟨⟨_, rfl, by first | exact Or.inl ⟨rfl, by simp only [wr]; omega⟩ | exact Or.inr ⟨rfl, by simp only [wr]; omega⟩⟩, rfl⟩)
  · simp only [wr] at c_11
    first
    | (exfalso; omega)
    | (refine R_iload_n dX5_isCell_14 rfl rfl ?_
       refine R_iconst dX5_isCell_15 ?_
       refine R_aload_n dX5_isCell_16 rfl rfl ?_
       refine R_getI fRX5_13 dX5_isCell_17 rfl (Nat.lt_of_lt_of_le (Nat.le_of_ble_eq_true rfl) hnx) ?_
       refine R_iconst dX5_isCell_20 ?_
       refine R_isub dX5_isCell_21 ?_
       refine R_cS dX5_isCell_22 kRX5_60 vX5_in ⟨(Nat.le_of_ble_eq_true rfl), (Nat.le_of_ble_eq_true rfl)⟩ (b_in l G _ _ _ _) rfl ⟨(Nat.le_of_ble_eq_true rfl), (Nat.le_of_ble_eq_true rfl)⟩ rfl (Nat.le_of_ble_eq_true rfl) (fun r σ' hq hn' => ?_)
       obtain ⟨⟨b22, rfl, hb22⟩, rfl⟩ := hq
       dsimp only at hb22
       rw [h2] at hb22
       simp only [wr] at hb22
       refine R_if_eq (tgt := 32) dX5_isCell_25 (by decide) (fun c_25 => ?_) (fun c_25 => ?_)
       · simp only [wr] at c_25
         first
         | (exfalso; omega)
         | (refine R_iconst dX5_isCell_32 ?_
            refine R_zret dX5_isCell_33 rfl rfl (by first | exact Or.inl rfl | exact Or.inr rfl | omega) rfl (Nat.le_refl _) ?_
            exact ⟨⟨_, rfl, by first | exact Or.inl ⟨rfl, by simp only [wr]; omega⟩ | exact Or.inr ⟨rfl, by simp only [wr]; omega⟩⟩, rfl⟩)
       · simp only [wr] at c_25
         first
         | (exfalso; omega)
         | (refine R_iconst dX5_isCell_28 ?_
            refine R_goto (tgt := 33) dX5_isCell_29 (by decide) ?_
            refine R_zret dX5_isCell_33 rfl rfl (by first | exact Or.inl rfl | exact Or.inr rfl | omega) rfl (Nat.le_refl _) ?_
            exact ⟨⟨_, rfl, by first | exact Or.inl ⟨rfl, by simp only [wr]; omega⟩ | exact Or.inr ⟨rfl, by simp only [wr]; omega⟩⟩, rfl⟩))
theorem lp_size (I : Nat → Nat → Int) (sw : Bool) (nx : Nat) (tl : Nat → Nat) (hnx : 63 ≤ nx) (Q : Option AV → Sg → Prop) (a b : Int) (hQ : ∀ I', (∀ k, k < 256 → I' 49 k = 0 ∧ I' 50 k = 0) → (∀ p, p ≠ 49 → p ≠ 50 → I' p = I p) → Rr l G (Km G miX5_size 0 0 nx Q) 0 0 67 [ar 48, ai a, ai b, ai 256] [] (I', Rs sw, nx, tl)) :
    ∀ (n i : Nat) (J : Nat → Nat → Int), 256 - i < n → i ≤ 256 → (∀ k, k < i → J 49 k = 0 ∧ J 50 k = 0) → (∀ p, p ≠ 49 → p ≠ 50 → J p = I p) → Rr l G (Km G miX5_size 0 0 nx Q) 0 0 40 [ar 48, ai a, ai b, ai i] [] (J, Rs sw, nx, tl) := by
  intro n
  induction n with
  | zero => intro i J h; omega
  | succ n ih =>
    intro i J hn hi hJ hF
    dsimp only [Km, miX5_size] at *
    refine R_iload_n dX5_size_40 rfl rfl ?_
    refine R_sipush (z := 256) dX5_size_41 rfl ?_
    refine R_icmp_ge (tgt := 67) dX5_size_44 (by decide) (fun c_44 => ?_) (fun c_44 => ?_)
    · simp only [wr] at c_44
      first
      | (exfalso; omega)
      | (have e : i = 256 := by omega
         subst e
         exact hQ J hJ hF)
    · simp only [wr] at c_44
      first
      | (exfalso; omega)
      | (refine R_aload_n dX5_size_47 rfl rfl ?_
         refine R_getA fRX5_16 dX5_size_48 rfl (Nat.lt_of_lt_of_le (Nat.le_of_ble_eq_true rfl) hnx) rfl ?_
         refine R_iload_n dX5_size_51 rfl rfl ?_
         refine R_iconst dX5_size_52 ?_
         refine R_iastore (k := i) dX5_size_53 rfl (Nat.lt_of_lt_of_le (Nat.le_of_ble_eq_true rfl) hnx) (by omega) (by omega) (by decide) ?_
         refine R_aload_n dX5_size_54 rfl rfl ?_
         refine R_getA fRX5_20 dX5_size_55 rfl (Nat.lt_of_lt_of_le (Nat.le_of_ble_eq_true rfl) hnx) rfl ?_
         refine R_iload_n dX5_size_58 rfl rfl ?_
         refine R_iconst dX5_size_59 ?_
         refine R_bastore (k := i) dX5_size_60 rfl (Nat.lt_of_lt_of_le (Nat.le_of_ble_eq_true rfl) hnx) (by omega) (by omega) (by decide) (by omega) ?_
         refine R_iinc dX5_size_61 rfl (Nat.le_of_ble_eq_true rfl) ?_
         refine R_goto (tgt := 40) dX5_size_64 (by decide) ?_
         refine ih (i + 1) _ (by omega) (by omega) (fun k hk => ?_) (fun p h1 h2 => ?_)
         · have := hJ k
           constructor
           · rw [up2_at, up2_at]; simp; intro q; exact (this (by omega)).1
           · rw [up2_at, up2_at]; simp; intro q; exact (this (by omega)).2
         · rw [up2_ne _ _ _ h2, up2_ne _ _ _ h1]
           exact hF p h1 h2)
/-- size -/
theorem m_size (I : Nat → Nat → Int) (sw : Bool) (nx : Nat) (tl : Nat → Nat) (hnx : 63 ≤ nx) (w h : Int) (rw1 : inR w) (rh : inR h) {S : Sp} (hR : RelM I S) : Mt l G miX5_size 0 0 [ar 48, ai w, ai h] (I, Rs sw, nx, tl) (QI sw nx tl (fun r I' => (∀ p, p < 48 → I' p = I p) ∧ r = some (ai (o_size S w h).1) ∧ RelM I' (o_size S w h).2)) := by
  unfold inR at *
  refine Mt.ofL (ls := [ar 48, ai w, ai h, none]) (by decide) (Nat.le_of_ble_eq_true rfl) rfl ?_
  dsimp only [Km, miX5_size]
  refine R_iload_n dX5_size_0 rfl rfl ?_
  refine R_iconst dX5_size_1 ?_
  refine R_bipush (z := 16) dX5_size_2 rfl ?_
  refine R_cS dX5_size_4 kRX5_60 vX5_in ⟨(Nat.le_of_ble_eq_true rfl), (Nat.le_of_ble_eq_true rfl)⟩ (b_in l G _ _ _ _) rfl ⟨(Nat.le_of_ble_eq_true rfl), (Nat.le_of_ble_eq_true rfl)⟩ rfl (Nat.le_of_ble_eq_true rfl) (fun r σ' hq hn' => ?_)
  obtain ⟨⟨b4, rfl, hb4⟩, rfl⟩ := hq
  simp only [wr] at hb4
  refine R_if_eq (tgt := 20) dX5_size_7 (by decide) (fun c_7 => ?_) (fun c_7 => ?_)
  · simp only [wr] at c_7
    first
    | (exfalso; omega)
    | (refine R_bipush (z := (-102)) dX5_size_20 rfl ?_
       refine R_iret dX5_size_22 rfl rfl rfl (Nat.le_refl _) ?_
       rw [o_size, if_neg (by omega)]
       exact ⟨I, rfl, fun _ _ => rfl, rfl, hR⟩)
  · simp only [wr] at c_7
    first
    | (exfalso; omega)
    | (refine R_iload_n dX5_size_10 rfl rfl ?_
       refine R_iconst dX5_size_11 ?_
       refine R_bipush (z := 16) dX5_size_12 rfl ?_
       refine R_cS dX5_size_14 kRX5_60 vX5_in ⟨(Nat.le_of_ble_eq_true rfl), (Nat.le_of_ble_eq_true rfl)⟩ (b_in l G _ _ _ _) rfl ⟨(Nat.le_of_ble_eq_true rfl), (Nat.le_of_ble_eq_true rfl)⟩ rfl (Nat.le_of_ble_eq_true rfl) (fun r σ' hq hn' => ?_)
       obtain ⟨⟨b14, rfl, hb14⟩, rfl⟩ := hq
       simp only [wr] at hb14
       refine R_if_ne (tgt := 23) dX5_size_17 (by decide) (fun c_17 => ?_) (fun c_17 => ?_)
       · simp only [wr] at c_17
         first
         | (exfalso; omega)
         | (refine R_aload_n dX5_size_23 rfl rfl ?_
            refine R_iload_n dX5_size_24 rfl rfl ?_
            refine R_putI fRX5_7 dX5_size_25 fp_5_0 (fv_5_0 _ _) rfl (Nat.lt_of_lt_of_le (Nat.le_of_ble_eq_true rfl) hnx) ?_
            refine R_aload_n dX5_size_28 rfl rfl ?_
            refine R_iload_n dX5_size_29 rfl rfl ?_
            refine R_putI fRX5_13 dX5_size_30 fp_5_1 (fv_5_1 _ _) rfl (Nat.lt_of_lt_of_le (Nat.le_of_ble_eq_true rfl) hnx) ?_
            refine R_aload_n dX5_size_33 rfl rfl ?_
            refine R_iconst dX5_size_34 ?_
            refine R_putI fRX5_64 dX5_size_35 fp_5_4 (fv_5_4 _ _) rfl (Nat.lt_of_lt_of_le (Nat.le_of_ble_eq_true rfl) hnx) ?_
            refine R_iconst dX5_size_38 ?_
            refine R_istore_n dX5_size_39 rfl (Nat.le_of_ble_eq_true rfl) ?_
            refine lp_size l G (up2 (up2 (up2 I 48 0 w) 48 1 h) 48 4 0) sw nx tl hnx _ w h (fun I' h1 h2 => ?_) 257 0 _ (by omega) (by omega) (fun k hk => by omega) (fun p _ _ => rfl)
            dsimp only [Km, miX5_size]
            refine R_iload_n dX5_size_67 rfl rfl ?_
            refine R_iload_n dX5_size_68 rfl rfl ?_
            refine R_imul dX5_size_69 ?_
            refine R_iret dX5_size_70 rfl rfl rfl (Nat.le_refl _) ?_
            rw [o_size, if_pos (by omega)]
            obtain ⟨g1, g2, g3, g4, g5, g6, g7, g8, g9⟩ := hR
            refine ⟨I', rfl, fun p hp => ?_, rfl, ?_⟩
            · rw [h2 p (by omega) (by omega), up2_ne _ _ _ (by omega), up2_ne _ _ _ (by omega), up2_ne _ _ _ (by omega)]
            · have e0 : ∀ j, I' 48 j = up2 (up2 (up2 I 48 0 w) 48 1 h) 48 4 0 48 j := fun j => by rw [h2 48 (by decide) (by decide)]
              have ek : ∀ p, 50 < p → I' p = I p := fun p hp => by rw [h2 p (by omega) (by omega), up2_ne _ _ _ (by omega), up2_ne _ _ _ (by omega), up2_ne _ _ _ (by omega)]
              refine ⟨?_, ?_, fun k hk => (h1 k hk).1, fun k hk => (h1 k hk).2, ?_, fun j hj => absurd hj (Nat.not_lt_zero j), fun j hj => absurd hj (Nat.not_lt_zero j), fun i hi => by rw [ek _ (by decide)]; exact g8 i hi, fun i hi => by rw [ek _ (by decide)]; exact g9 i hi⟩
              · rw [e0]; simp [up2_at]; show w = (w.toNat : Int); omega
              · rw [e0]; simp [up2_at]; show h = (h.toNat : Int); omega
              · rw [e0]; simp [up2_at]; rfl)
       · simp only [wr] at c_17
         first
         | (exfalso; omega)
         | (refine R_bipush (z := (-102)) dX5_size_20 rfl ?_
            refine R_iret dX5_size_22 rfl rfl rfl (Nat.le_refl _) ?_
            rw [o_size, if_neg (by omega)]
            exact ⟨I, rfl, fun _ _ => rfl, rfl, hR⟩))
theorem m_cell (I : Nat → Nat → Int) (sw : Bool) (nx : Nat) (tl : Nat → Nat) (hnx : 63 ≤ nx) (x y v : Int) (rx : inR x) (ry : inR y) (rv : inR v) {S : Sp} (hR : RelM I S) (hO : OkS S) : Mt l G miX5_cell 0 0 [ar 48, ai x, ai y, ai v] (I, Rs sw, nx, tl) (QI sw nx tl (fun r I' => (∀ p, p < 48 → I' p = I p) ∧ r = some (ai (o_cell S x y v).1) ∧ RelM I' (o_cell S x y v).2)) := by
  have o1 := hO.1
  have o2 := hO.2.1
  unfold inR at *
  refine Mt.ofL (ls := [ar 48, ai x, ai y, ai v, none]) (by decide) (Nat.le_of_ble_eq_true rfl) rfl ?_
  dsimp only [Km, miX5_cell]
  refine R_aload_n dX5_cell_0 rfl rfl ?_
  refine R_iload_n dX5_cell_1 rfl rfl ?_
  refine R_iload_n dX5_cell_2 rfl rfl ?_
  refine R_cV dX5_cell_3 kRX5_67 vX5_isCell ⟨(Nat.le_of_ble_eq_true rfl), (Nat.le_of_ble_eq_true rfl)⟩ (t_isCell l G I sw nx tl hnx _ _ hR hO) rfl ⟨(Nat.le_of_ble_eq_true rfl), (Nat.le_of_ble_eq_true rfl)⟩ rfl (Nat.lt_of_lt_of_le (Nat.le_of_ble_eq_true rfl) hnx) rfl rfl (Nat.le_of_ble_eq_true rfl) (fun r σ' hq hn' => ?_)
  obtain ⟨⟨b3, rfl, hb3⟩, rfl⟩ := hq
  simp only [wr] at hb3
  refine R_if_ne (tgt := 12) dX5_cell_6 (by decide) (fun c_6 => ?_) (fun c_6 => ?_)
  · simp only [wr] at c_6
    first
    | (exfalso; omega)
    | (refine R_iload_n dX5_cell_12 rfl rfl ?_
       refine R_iconst dX5_cell_13 ?_
       refine R_sipush (z := 1023) dX5_cell_14 rfl ?_
       refine R_cS dX5_cell_17 kRX5_60 vX5_in ⟨(Nat.le_of_ble_eq_true rfl), (Nat.le_of_ble_eq_true rfl)⟩ (b_in l G _ _ _ _) rfl ⟨(Nat.le_of_ble_eq_true rfl), (Nat.le_of_ble_eq_true rfl)⟩ rfl (Nat.le_of_ble_eq_true rfl) (fun r σ' hq hn' => ?_)
       obtain ⟨⟨b17, rfl, hb17⟩, rfl⟩ := hq
       simp only [wr] at hb17
       refine R_if_ne (tgt := 26) dX5_cell_20 (by decide) (fun c_20 => ?_) (fun c_20 => ?_)
       · simp only [wr] at c_20
         first
         | (exfalso; omega)
         | (refine R_aload_n dX5_cell_26 rfl rfl ?_
            refine R_getA fRX5_16 dX5_cell_27 rfl (Nat.lt_of_lt_of_le (Nat.le_of_ble_eq_true rfl) hnx) rfl ?_
            refine R_bipush (z := 16) dX5_cell_30 rfl ?_
            refine R_iload_n dX5_cell_32 rfl rfl ?_
            refine R_imul dX5_cell_33 ?_
            refine R_iload_n dX5_cell_34 rfl rfl ?_
            refine R_iadd dX5_cell_35 ?_
            refine R_iaload (k := (16 * y + x).toNat) dX5_cell_36 rfl (Nat.lt_of_lt_of_le (Nat.le_of_ble_eq_true rfl) hnx) (by omega) (by omega) (by decide) ?_
            refine R_istore dX5_cell_37 (Nat.le_of_ble_eq_true rfl) ?_
            refine R_aload_n dX5_cell_39 rfl rfl ?_
            refine R_getA fRX5_16 dX5_cell_40 rfl (Nat.lt_of_lt_of_le (Nat.le_of_ble_eq_true rfl) hnx) rfl ?_
            refine R_bipush (z := 16) dX5_cell_43 rfl ?_
            refine R_iload_n dX5_cell_45 rfl rfl ?_
            refine R_imul dX5_cell_46 ?_
            refine R_iload_n dX5_cell_47 rfl rfl ?_
            refine R_iadd dX5_cell_48 ?_
            refine R_iload_n dX5_cell_49 rfl rfl ?_
            refine R_iastore (k := (16 * y + x).toNat) dX5_cell_50 rfl (Nat.lt_of_lt_of_le (Nat.le_of_ble_eq_true rfl) hnx) (by omega) (by omega) (by decide) ?_
            refine R_iload dX5_cell_51 rfl ?_
            refine R_iret dX5_cell_53 rfl rfl rfl (Nat.le_refl _) ?_
            rw [o_cell, if_pos (by omega), if_pos (by omega)]
            obtain ⟨g1, g2, g3, g4, g5, g6, g7, g8, g9⟩ := hR
            refine ⟨_, rfl, fun p hp => up2_ne _ _ _ (by omega), ?_, ?_⟩
            · show some (ai (I 49 (16 * y + x).toNat)) = _
              rw [g3 _ (by omega)]
            · refine ⟨by rw [up2_ne _ _ _ (by decide)]; exact g1, by rw [up2_ne _ _ _ (by decide)]; exact g2, fun k hk => ?_, fun k hk => by rw [up2_ne _ _ _ (by decide)]; exact g4 k hk, by rw [up2_ne _ _ _ (by decide)]; exact g5, fun k hk => by rw [up2_ne _ _ _ (by decide)]; exact g6 k hk, fun k hk i hi => by rw [up2_ne _ _ _ (by decide)]; exact g7 k hk i hi, fun k hk => by rw [up2_ne _ _ _ (by decide)]; exact g8 k hk, fun k hk => by rw [up2_ne _ _ _ (by decide)]; exact g9 k hk⟩
              rw [up2_self]
              show (if k = (16 * y + x).toNat then v else I 49 k) = if k = (16 * y + x).toNat then v else sC S k
              rw [g3 k hk])
       · simp only [wr] at c_20
         first
         | (exfalso; omega)
         | (refine R_bipush (z := (-102)) dX5_cell_23 rfl ?_
            refine R_iret dX5_cell_25 rfl rfl rfl (Nat.le_refl _) ?_
            rw [o_cell, if_pos (by omega), if_neg (by omega)]
            exact ⟨I, rfl, fun _ _ => rfl, rfl, hR⟩))
  · simp only [wr] at c_6
    first
    | (exfalso; omega)
    | (refine R_bipush (z := (-101)) dX5_cell_9 rfl ?_
       refine R_iret dX5_cell_11 rfl rfl rfl (Nat.le_refl _) ?_
       rw [o_cell, if_neg (by omega)]
       exact ⟨I, rfl, fun _ _ => rfl, rfl, hR⟩)
theorem m_dead (I : Nat → Nat → Int) (sw : Bool) (nx : Nat) (tl : Nat → Nat) (hnx : 63 ≤ nx) (x y v : Int) (rx : inR x) (ry : inR y) (rv : v = 0 ∨ v = 1) {S : Sp} (hR : RelM I S) (hO : OkS S) : Mt l G miX5_dead 0 0 [ar 48, ai x, ai y, ai v] (I, Rs sw, nx, tl) (QI sw nx tl (fun r I' => (∀ p, p < 48 → I' p = I p) ∧ r = some (ai (o_dead S x y v).1) ∧ RelM I' (o_dead S x y v).2)) := by
  have o1 := hO.1
  have o2 := hO.2.1
  have o4 := hO.2.2.2.1
  have hR2 := hR
  obtain ⟨g1, g2, g3, g4, g5, g6, g7, g8, g9⟩ := hR2
  unfold inR at *
  refine Mt.ofL (ls := [ar 48, ai x, ai y, ai v, none]) (by decide) (Nat.le_of_ble_eq_true rfl) rfl ?_
  dsimp only [Km, miX5_dead]
  refine R_aload_n dX5_dead_0 rfl rfl ?_
  refine R_iload_n dX5_dead_1 rfl rfl ?_
  refine R_iload_n dX5_dead_2 rfl rfl ?_
  refine R_cV dX5_dead_3 kRX5_67 vX5_isCell ⟨(Nat.le_of_ble_eq_true rfl), (Nat.le_of_ble_eq_true rfl)⟩ (t_isCell l G I sw nx tl hnx _ _ hR hO) rfl ⟨(Nat.le_of_ble_eq_true rfl), (Nat.le_of_ble_eq_true rfl)⟩ rfl (Nat.lt_of_lt_of_le (Nat.le_of_ble_eq_true rfl) hnx) rfl rfl (Nat.le_of_ble_eq_true rfl) (fun r σ' hq hn' => ?_)
  obtain ⟨⟨b3, rfl, hb3⟩, rfl⟩ := hq
  simp only [wr] at hb3
  refine R_if_ne (tgt := 12) dX5_dead_6 (by decide) (fun c_6 => ?_) (fun c_6 => ?_)
  · simp only [wr] at c_6
    first
    | (exfalso; omega)
    | (refine R_aload_n dX5_dead_12 rfl rfl ?_
       refine R_getA fRX5_20 dX5_dead_13 rfl (Nat.lt_of_lt_of_le (Nat.le_of_ble_eq_true rfl) hnx) rfl ?_
       refine R_bipush (z := 16) dX5_dead_16 rfl ?_
       refine R_iload_n dX5_dead_18 rfl rfl ?_
       refine R_imul dX5_dead_19 ?_
       refine R_iload_n dX5_dead_20 rfl rfl ?_
       refine R_iadd dX5_dead_21 ?_
       refine R_baload (k := (16 * y + x).toNat) dX5_dead_22 rfl (Nat.lt_of_lt_of_le (Nat.le_of_ble_eq_true rfl) hnx) (by omega) (by omega) (by decide) ?_
       have hd := o4 (16 * y + x).toNat (by omega)
       rw [show (I, Rs sw, nx, tl).1 50 (16 * y + x).toNat = sD S (16 * y + x).toNat from g4 _ (by omega)]
       refine R_if_eq (tgt := 30) dX5_dead_23 (by decide) (fun c_23 => ?_) (fun c_23 => ?_)
       · simp only [wr] at c_23
         first
         | (exfalso; omega)
         | (refine R_iconst dX5_dead_30 ?_
            refine R_istore dX5_dead_31 (Nat.le_of_ble_eq_true rfl) ?_
            refine R_aload_n dX5_dead_33 rfl rfl ?_
            refine R_getA fRX5_20 dX5_dead_34 rfl (Nat.lt_of_lt_of_le (Nat.le_of_ble_eq_true rfl) hnx) rfl ?_
            refine R_bipush (z := 16) dX5_dead_37 rfl ?_
            refine R_iload_n dX5_dead_39 rfl rfl ?_
            refine R_imul dX5_dead_40 ?_
            refine R_iload_n dX5_dead_41 rfl rfl ?_
            refine R_iadd dX5_dead_42 ?_
            refine R_iload_n dX5_dead_43 rfl rfl ?_
            refine R_bastore (k := (16 * y + x).toNat) dX5_dead_44 rfl (Nat.lt_of_lt_of_le (Nat.le_of_ble_eq_true rfl) hnx) (by omega) (by omega) (by decide) (by omega) ?_
            refine R_iload dX5_dead_45 rfl ?_
            refine R_iret dX5_dead_47 rfl rfl rfl (Nat.le_refl _) ?_
            rw [o_dead, if_pos (by omega)]
            refine ⟨_, rfl, fun p hp => up2_ne _ _ _ (by omega), ?_, ?_⟩
            · congr 2
              dsimp only
              omega
            · refine ⟨by rw [up2_ne _ _ _ (by decide)]; exact g1, by rw [up2_ne _ _ _ (by decide)]; exact g2, fun k hk => by rw [up2_ne _ _ _ (by decide)]; exact g3 k hk, fun k hk => ?_, by rw [up2_ne _ _ _ (by decide)]; exact g5, fun k hk => by rw [up2_ne _ _ _ (by decide)]; exact g6 k hk, fun k hk i hi => by rw [up2_ne _ _ _ (by decide)]; exact g7 k hk i hi, fun k hk => by rw [up2_ne _ _ _ (by decide)]; exact g8 k hk, fun k hk => by rw [up2_ne _ _ _ (by decide)]; exact g9 k hk⟩
              rw [up2_self]
              show (if k = (16 * y + x).toNat then v else I 50 k) = if k = (16 * y + x).toNat then v else sD S k
              rw [g4 k hk])
       · simp only [wr] at c_23
         first
         | (exfalso; omega)
         | (refine R_iconst dX5_dead_26 ?_
            refine R_goto (tgt := 31) dX5_dead_27 (by decide) ?_
            refine R_istore dX5_dead_31 (Nat.le_of_ble_eq_true rfl) ?_
            refine R_aload_n dX5_dead_33 rfl rfl ?_
            refine R_getA fRX5_20 dX5_dead_34 rfl (Nat.lt_of_lt_of_le (Nat.le_of_ble_eq_true rfl) hnx) rfl ?_
            refine R_bipush (z := 16) dX5_dead_37 rfl ?_
            refine R_iload_n dX5_dead_39 rfl rfl ?_
            refine R_imul dX5_dead_40 ?_
            refine R_iload_n dX5_dead_41 rfl rfl ?_
            refine R_iadd dX5_dead_42 ?_
            refine R_iload_n dX5_dead_43 rfl rfl ?_
            refine R_bastore (k := (16 * y + x).toNat) dX5_dead_44 rfl (Nat.lt_of_lt_of_le (Nat.le_of_ble_eq_true rfl) hnx) (by omega) (by omega) (by decide) (by omega) ?_
            refine R_iload dX5_dead_45 rfl ?_
            refine R_iret dX5_dead_47 rfl rfl rfl (Nat.le_refl _) ?_
            rw [o_dead, if_pos (by omega)]
            refine ⟨_, rfl, fun p hp => up2_ne _ _ _ (by omega), ?_, ?_⟩
            · congr 2
              dsimp only
              omega
            · refine ⟨by rw [up2_ne _ _ _ (by decide)]; exact g1, by rw [up2_ne _ _ _ (by decide)]; exact g2, fun k hk => by rw [up2_ne _ _ _ (by decide)]; exact g3 k hk, fun k hk => ?_, by rw [up2_ne _ _ _ (by decide)]; exact g5, fun k hk => by rw [up2_ne _ _ _ (by decide)]; exact g6 k hk, fun k hk i hi => by rw [up2_ne _ _ _ (by decide)]; exact g7 k hk i hi, fun k hk => by rw [up2_ne _ _ _ (by decide)]; exact g8 k hk, fun k hk => by rw [up2_ne _ _ _ (by decide)]; exact g9 k hk⟩
              rw [up2_self]
              show (if k = (16 * y + x).toNat then v else I 50 k) = if k = (16 * y + x).toNat then v else sD S k
              rw [g4 k hk]))
  · simp only [wr] at c_6
    first
    | (exfalso; omega)
    | (refine R_bipush (z := (-101)) dX5_dead_9 rfl ?_
       refine R_iret dX5_dead_11 rfl rfl rfl (Nat.le_refl _) ?_
       rw [o_dead, if_neg (by omega)]
       exact ⟨I, rfl, fun _ _ => rfl, rfl, hR⟩)
theorem m_entry (I : Nat → Nat → Int) (sw : Bool) (nx : Nat) (tl : Nat → Nat) (hnx : 63 ≤ nx) (i v : Int) (ri : inR i) (rv : inR v) {S : Sp} (hR : RelM I S) : Mt l G miX5_entry 0 0 [ar 48, ai i, ai v] (I, Rs sw, nx, tl) (QI sw nx tl (fun r I' => (∀ p, p < 48 → I' p = I p) ∧ r = some (ai (o_entry S i v).1) ∧ RelM I' (o_entry S i v).2)) := by
  have hR2 := hR
  obtain ⟨g1, g2, g3, g4, g5, g6, g7, g8, g9⟩ := hR2
  unfold inR at *
  refine Mt.ofL (ls := [ar 48, ai i, ai v, none]) (by decide) (Nat.le_of_ble_eq_true rfl) rfl ?_
  dsimp only [Km, miX5_entry]
  refine R_iload_n dX5_entry_0 rfl rfl ?_
  refine R_iconst dX5_entry_1 ?_
  refine R_bipush (z := 8) dX5_entry_2 rfl ?_
  refine R_cS dX5_entry_4 kRX5_60 vX5_in ⟨(Nat.le_of_ble_eq_true rfl), (Nat.le_of_ble_eq_true rfl)⟩ (b_in l G _ _ _ _) rfl ⟨(Nat.le_of_ble_eq_true rfl), (Nat.le_of_ble_eq_true rfl)⟩ rfl (Nat.le_of_ble_eq_true rfl) (fun r σ' hq hn' => ?_)
  obtain ⟨⟨b4, rfl, hb4⟩, rfl⟩ := hq
  simp only [wr] at hb4
  refine R_if_ne (tgt := 13) dX5_entry_7 (by decide) (fun c_7 => ?_) (fun c_7 => ?_)
  · simp only [wr] at c_7
    first
    | (exfalso; omega)
    | (refine R_iload_n dX5_entry_13 rfl rfl ?_
       refine R_sipush (z := (-4000)) dX5_entry_14 rfl ?_
       refine R_sipush (z := 4000) dX5_entry_17 rfl ?_
       refine R_cS dX5_entry_20 kRX5_60 vX5_in ⟨(Nat.le_of_ble_eq_true rfl), (Nat.le_of_ble_eq_true rfl)⟩ (b_in l G _ _ _ _) rfl ⟨(Nat.le_of_ble_eq_true rfl), (Nat.le_of_ble_eq_true rfl)⟩ rfl (Nat.le_of_ble_eq_true rfl) (fun r σ' hq hn' => ?_)
       obtain ⟨⟨b17, rfl, hb17⟩, rfl⟩ := hq
       simp only [wr] at hb17
       refine R_if_ne (tgt := 29) dX5_entry_23 (by decide) (fun c_23 => ?_) (fun c_23 => ?_)
       · simp only [wr] at c_23
         first
         | (exfalso; omega)
         | (refine R_aload_n dX5_entry_29 rfl rfl ?_
            refine R_getA fRX5_30 dX5_entry_30 rfl (Nat.lt_of_lt_of_le (Nat.le_of_ble_eq_true rfl) hnx) rfl ?_
            refine R_iload_n dX5_entry_33 rfl rfl ?_
            refine R_iaload (k := i.toNat) dX5_entry_34 rfl (Nat.lt_of_lt_of_le (Nat.le_of_ble_eq_true rfl) hnx) (by omega) (by omega) (by decide) ?_
            refine R_istore_n dX5_entry_35 rfl (Nat.le_of_ble_eq_true rfl) ?_
            refine R_aload_n dX5_entry_36 rfl rfl ?_
            refine R_getA fRX5_30 dX5_entry_37 rfl (Nat.lt_of_lt_of_le (Nat.le_of_ble_eq_true rfl) hnx) rfl ?_
            refine R_iload_n dX5_entry_40 rfl rfl ?_
            refine R_iload_n dX5_entry_41 rfl rfl ?_
            refine R_iastore (k := i.toNat) dX5_entry_42 rfl (Nat.lt_of_lt_of_le (Nat.le_of_ble_eq_true rfl) hnx) (by omega) (by omega) (by decide) ?_
            refine R_iload_n dX5_entry_43 rfl rfl ?_
            refine R_iret dX5_entry_44 rfl rfl rfl (Nat.le_refl _) ?_
            rw [o_entry, if_pos (by omega), if_pos (by omega)]
            refine ⟨_, rfl, fun p hp => up2_ne _ _ _ (by omega), ?_, ?_⟩
            · show some (ai (I 53 i.toNat)) = _
              rw [g8 _ (by omega)]
            · refine ⟨by rw [up2_ne _ _ _ (by decide)]; exact g1, by rw [up2_ne _ _ _ (by decide)]; exact g2, fun k hk => by rw [up2_ne _ _ _ (by decide)]; exact g3 k hk, fun k hk => by rw [up2_ne _ _ _ (by decide)]; exact g4 k hk, by rw [up2_ne _ _ _ (by decide)]; exact g5, fun k hk => by rw [up2_ne _ _ _ (by decide)]; exact g6 k hk, fun k hk i hi => by rw [up2_ne _ _ _ (by decide)]; exact g7 k hk i hi, fun k hk => ?_, fun k hk => by rw [up2_ne _ _ _ (by decide)]; exact g9 k hk⟩
              rw [up2_self]
              show (if k = i.toNat then v else I 53 k) = if k = i.toNat then v else sE S k
              rw [g8 k hk])
       · simp only [wr] at c_23
         first
         | (exfalso; omega)
         | (refine R_bipush (z := (-102)) dX5_entry_26 rfl ?_
            refine R_iret dX5_entry_28 rfl rfl rfl (Nat.le_refl _) ?_
            rw [o_entry, if_pos (by omega), if_neg (by omega)]
            exact ⟨I, rfl, fun _ _ => rfl, rfl, hR⟩))
  · simp only [wr] at c_7
    first
    | (exfalso; omega)
    | (refine R_bipush (z := (-101)) dX5_entry_10 rfl ?_
       refine R_iret dX5_entry_12 rfl rfl rfl (Nat.le_refl _) ?_
       rw [o_entry, if_neg (by omega)]
       exact ⟨I, rfl, fun _ _ => rfl, rfl, hR⟩)
theorem m_point (I : Nat → Nat → Int) (sw : Bool) (nx : Nat) (tl : Nat → Nat) (hnx : 63 ≤ nx) (i v : Int) (ri : inR i) (rv : inR v) {S : Sp} (hR : RelM I S) : Mt l G miX5_point 0 0 [ar 48, ai i, ai v] (I, Rs sw, nx, tl) (QI sw nx tl (fun r I' => (∀ p, p < 48 → I' p = I p) ∧ r = some (ai (o_point S i v).1) ∧ RelM I' (o_point S i v).2)) := by
  have hR2 := hR
  obtain ⟨g1, g2, g3, g4, g5, g6, g7, g8, g9⟩ := hR2
  unfold inR at *
  refine Mt.ofL (ls := [ar 48, ai i, ai v, none]) (by decide) (Nat.le_of_ble_eq_true rfl) rfl ?_
  dsimp only [Km, miX5_point]
  refine R_iload_n dX5_point_0 rfl rfl ?_
  refine R_iconst dX5_point_1 ?_
  refine R_bipush (z := 16) dX5_point_2 rfl ?_
  refine R_cS dX5_point_4 kRX5_60 vX5_in ⟨(Nat.le_of_ble_eq_true rfl), (Nat.le_of_ble_eq_true rfl)⟩ (b_in l G _ _ _ _) rfl ⟨(Nat.le_of_ble_eq_true rfl), (Nat.le_of_ble_eq_true rfl)⟩ rfl (Nat.le_of_ble_eq_true rfl) (fun r σ' hq hn' => ?_)
  obtain ⟨⟨b4, rfl, hb4⟩, rfl⟩ := hq
  simp only [wr] at hb4
  refine R_if_ne (tgt := 13) dX5_point_7 (by decide) (fun c_7 => ?_) (fun c_7 => ?_)
  · simp only [wr] at c_7
    first
    | (exfalso; omega)
    | (refine R_iload_n dX5_point_13 rfl rfl ?_
       refine R_iconst dX5_point_14 ?_
       refine R_sipush (z := 4095) dX5_point_15 rfl ?_
       refine R_cS dX5_point_18 kRX5_60 vX5_in ⟨(Nat.le_of_ble_eq_true rfl), (Nat.le_of_ble_eq_true rfl)⟩ (b_in l G _ _ _ _) rfl ⟨(Nat.le_of_ble_eq_true rfl), (Nat.le_of_ble_eq_true rfl)⟩ rfl (Nat.le_of_ble_eq_true rfl) (fun r σ' hq hn' => ?_)
       obtain ⟨⟨b17, rfl, hb17⟩, rfl⟩ := hq
       simp only [wr] at hb17
       refine R_if_ne (tgt := 27) dX5_point_21 (by decide) (fun c_21 => ?_) (fun c_21 => ?_)
       · simp only [wr] at c_21
         first
         | (exfalso; omega)
         | (refine R_aload_n dX5_point_27 rfl rfl ?_
            refine R_getA fRX5_33 dX5_point_28 rfl (Nat.lt_of_lt_of_le (Nat.le_of_ble_eq_true rfl) hnx) rfl ?_
            refine R_iload_n dX5_point_31 rfl rfl ?_
            refine R_iaload (k := i.toNat) dX5_point_32 rfl (Nat.lt_of_lt_of_le (Nat.le_of_ble_eq_true rfl) hnx) (by omega) (by omega) (by decide) ?_
            refine R_istore_n dX5_point_33 rfl (Nat.le_of_ble_eq_true rfl) ?_
            refine R_aload_n dX5_point_34 rfl rfl ?_
            refine R_getA fRX5_33 dX5_point_35 rfl (Nat.lt_of_lt_of_le (Nat.le_of_ble_eq_true rfl) hnx) rfl ?_
            refine R_iload_n dX5_point_38 rfl rfl ?_
            refine R_iload_n dX5_point_39 rfl rfl ?_
            refine R_iastore (k := i.toNat) dX5_point_40 rfl (Nat.lt_of_lt_of_le (Nat.le_of_ble_eq_true rfl) hnx) (by omega) (by omega) (by decide) ?_
            refine R_iload_n dX5_point_41 rfl rfl ?_
            refine R_iret dX5_point_42 rfl rfl rfl (Nat.le_refl _) ?_
            rw [o_point, if_pos (by omega), if_pos (by omega)]
            refine ⟨_, rfl, fun p hp => up2_ne _ _ _ (by omega), ?_, ?_⟩
            · show some (ai (I 54 i.toNat)) = _
              rw [g9 _ (by omega)]
            · refine ⟨by rw [up2_ne _ _ _ (by decide)]; exact g1, by rw [up2_ne _ _ _ (by decide)]; exact g2, fun k hk => by rw [up2_ne _ _ _ (by decide)]; exact g3 k hk, fun k hk => by rw [up2_ne _ _ _ (by decide)]; exact g4 k hk, by rw [up2_ne _ _ _ (by decide)]; exact g5, fun k hk => by rw [up2_ne _ _ _ (by decide)]; exact g6 k hk, fun k hk i hi => by rw [up2_ne _ _ _ (by decide)]; exact g7 k hk i hi, fun k hk => by rw [up2_ne _ _ _ (by decide)]; exact g8 k hk, fun k hk => ?_⟩
              rw [up2_self]
              show (if k = i.toNat then v else I 54 k) = if k = i.toNat then v else sP S k
              rw [g9 k hk])
       · simp only [wr] at c_21
         first
         | (exfalso; omega)
         | (refine R_bipush (z := (-102)) dX5_point_24 rfl ?_
            refine R_iret dX5_point_26 rfl rfl rfl (Nat.le_refl _) ?_
            rw [o_point, if_pos (by omega), if_neg (by omega)]
            exact ⟨I, rfl, fun _ _ => rfl, rfl, hR⟩))
  · simp only [wr] at c_7
    first
    | (exfalso; omega)
    | (refine R_bipush (z := (-101)) dX5_point_10 rfl ?_
       refine R_iret dX5_point_12 rfl rfl rfl (Nat.le_refl _) ?_
       rw [o_point, if_neg (by omega)]
       exact ⟨I, rfl, fun _ _ => rfl, rfl, hR⟩)
theorem m_undo (I : Nat → Nat → Int) (sw : Bool) (nx : Nat) (tl : Nat → Nat) (hnx : 63 ≤ nx) {S : Sp} (hR : RelM I S) (hO : OkS S) : Mt l G miX5_undo 0 0 [ar 48] (I, Rs sw, nx, tl) (QI sw nx tl (fun r I' => (∀ p, p < 48 → I' p = I p) ∧ r = some (ai (o_undo S).1) ∧ RelM I' (o_undo S).2)) := by
  have o5 := hO.2.2.2.2.1
  have hR2 := hR
  obtain ⟨g1, g2, g3, g4, g5, g6, g7, g8, g9⟩ := hR2
  refine Mt.ofL (ls := [ar 48]) (by decide) (Nat.le_of_ble_eq_true rfl) rfl ?_
  dsimp only [Km, miX5_undo]
  refine R_aload_n dX5_undo_0 rfl rfl ?_
  refine R_getI fRX5_64 dX5_undo_1 rfl (Nat.lt_of_lt_of_le (Nat.le_of_ble_eq_true rfl) hnx) ?_
  rw [show (I, Rs sw, nx, tl).1 48 4 = (sN S : Int) from g5]
  refine R_if_ne (tgt := 10) dX5_undo_4 (by decide) (fun c_4 => ?_) (fun c_4 => ?_)
  · simp only [wr] at c_4
    first
    | (exfalso; omega)
    | (refine R_aload_n dX5_undo_10 rfl rfl ?_
       first | refine R_dupA dX5_undo_11 ?_ | refine R_dupI dX5_undo_11 ?_
       refine R_getI fRX5_64 dX5_undo_12 rfl (Nat.lt_of_lt_of_le (Nat.le_of_ble_eq_true rfl) hnx) ?_
       refine R_iconst dX5_undo_15 ?_
       refine R_isub dX5_undo_16 ?_
       refine R_putI fRX5_64 dX5_undo_17 fp_5_4 (fv_5_4 _ _) rfl (Nat.lt_of_lt_of_le (Nat.le_of_ble_eq_true rfl) hnx) ?_
       refine R_aload_n dX5_undo_20 rfl rfl ?_
       refine R_getI fRX5_64 dX5_undo_21 rfl (Nat.lt_of_lt_of_le (Nat.le_of_ble_eq_true rfl) hnx) ?_
       refine R_iret dX5_undo_24 rfl rfl rfl (Nat.le_refl _) ?_
       rw [o_undo, if_neg (by omega)]
       refine ⟨_, rfl, fun p hp => up2_ne _ _ _ (by omega), ?_, ?_⟩
       · congr 2
         dsimp only
         rw [up2_self, g5]
         simp
         omega
       · refine ⟨by rw [up2_self]; exact g1, by rw [up2_self]; exact g2, fun k hk => by rw [up2_ne _ _ _ (by decide)]; exact g3 k hk, fun k hk => by rw [up2_ne _ _ _ (by decide)]; exact g4 k hk, ?_, fun k hk => by rw [up2_ne _ _ _ (by decide)]; exact g6 k (Nat.lt_of_lt_of_le hk (Nat.sub_le _ _)), fun k hk i hi => by rw [up2_ne _ _ _ (by decide)]; exact g7 k (Nat.lt_of_lt_of_le hk (Nat.sub_le _ _)) i hi, fun k hk => by rw [up2_ne _ _ _ (by decide)]; exact g8 k hk, fun k hk => by rw [up2_ne _ _ _ (by decide)]; exact g9 k hk⟩
         rw [up2_self]
         show I 48 4 - 1 = ((sN S - 1 : Nat) : Int)
         rw [g5]
         omega)
  · simp only [wr] at c_4
    first
    | (exfalso; omega)
    | (refine R_bipush (z := (-103)) dX5_undo_7 rfl ?_
       refine R_iret dX5_undo_9 rfl rfl rfl (Nat.le_refl _) ?_
       rw [o_undo, if_pos (by omega)]
       exact ⟨I, rfl, fun _ _ => rfl, rfl, hR⟩)
theorem m_kind (I : Nat → Nat → Int) (sw : Bool) (nx : Nat) (tl : Nat → Nat) (hnx : 63 ≤ nx) (k : Int) (rk : inR k) {S : Sp} (hR : RelM I S) (hO : OkS S) : Mt l G miX5_kind 0 0 [ar 48, ai k] (I, Rs sw, nx, tl) (fun r σ' => r = some (ai (o_kind S k)) ∧ σ' = (I, Rs sw, nx, tl)) := by
  have o5 := hO.2.2.2.2.1
  obtain ⟨g1, g2, g3, g4, g5, g6, g7, g8, g9⟩ := hR
  unfold inR at *
  refine Mt.ofL (ls := [ar 48, ai k]) (by decide) (Nat.le_of_ble_eq_true rfl) rfl ?_
  dsimp only [Km, miX5_kind]
  refine R_iload_n dX5_kind_0 rfl rfl ?_
  refine R_iconst dX5_kind_1 ?_
  refine R_aload_n dX5_kind_2 rfl rfl ?_
  refine R_getI fRX5_64 dX5_kind_3 rfl (Nat.lt_of_lt_of_le (Nat.le_of_ble_eq_true rfl) hnx) ?_
  refine R_iconst dX5_kind_6 ?_
  refine R_isub dX5_kind_7 ?_
  rw [show (I, Rs sw, nx, tl).1 48 4 = (sN S : Int) from g5]
  refine R_cS dX5_kind_8 kRX5_60 vX5_in ⟨(Nat.le_of_ble_eq_true rfl), (Nat.le_of_ble_eq_true rfl)⟩ (b_in l G _ _ _ _) rfl ⟨(Nat.le_of_ble_eq_true rfl), (Nat.le_of_ble_eq_true rfl)⟩ rfl (Nat.le_of_ble_eq_true rfl) (fun r σ' hq hn' => ?_)
  obtain ⟨⟨b8, rfl, hb8⟩, rfl⟩ := hq
  simp only [wr] at hb8
  refine R_if_eq (tgt := 23) dX5_kind_11 (by decide) (fun c_11 => ?_) (fun c_11 => ?_)
  · simp only [wr] at c_11
    first
    | (exfalso; omega)
    | (refine R_iconst dX5_kind_23 ?_
       refine R_iret dX5_kind_24 rfl rfl rfl (Nat.le_refl _) ?_
       refine ⟨?_, rfl⟩
       congr 2
       first | (rw [o_kind, if_neg (by omega)]; done) | (rw [o_kind, if_pos (by omega)]; exact g6 _ (by omega)))
  · simp only [wr] at c_11
    first
    | (exfalso; omega)
    | (refine R_aload_n dX5_kind_14 rfl rfl ?_
       refine R_getA fRX5_24 dX5_kind_15 rfl (Nat.lt_of_lt_of_le (Nat.le_of_ble_eq_true rfl) hnx) rfl ?_
       refine R_iload_n dX5_kind_18 rfl rfl ?_
       refine R_iaload (k := k.toNat) dX5_kind_19 rfl (Nat.lt_of_lt_of_le (Nat.le_of_ble_eq_true rfl) hnx) (by omega) (by omega) (by decide) ?_
       refine R_goto (tgt := 24) dX5_kind_20 (by decide) ?_
       refine R_iret dX5_kind_24 rfl rfl rfl (Nat.le_refl _) ?_
       refine ⟨?_, rfl⟩
       congr 2
       first | (rw [o_kind, if_neg (by omega)]; done) | (rw [o_kind, if_pos (by omega)]; exact g6 _ (by omega)))
end MODEL1
end
section
theorem zz_end : True := trivial
end
